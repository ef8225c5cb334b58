/-! ===== PURE, THE REFERENCE: lists grow, shrink ===== -/
theorem j_max (a b : Nat) (ha : a < 2 ^ 31) (hb : b < 2 ^ 31) (M : zM) : f_J9_max_7cf53 (nI a) (nI b) M = some (nI (if a < b then b else a), M) := by
  unfold f_J9_max_7cf53 f_J9_max_7cf53_0
  by_cases y : a < b
  · rw [if_pos (lt_t a b y hb), if_pos y]
  · rw [if_neg (lt_f a b (by omega) (by omega)), if_neg y]
theorem j_min (a b : Nat) (ha : a < 2 ^ 31) (hb : b < 2 ^ 31) (M : zM) : f_J9_min_7cf53 (nI a) (nI b) M = some (nI (if b < a then b else a), M) := by
  rw [q_min]
  by_cases y : b < a
  · rw [if_pos (lt_t b a y ha), if_pos y]
  · rw [if_neg (lt_f b a (by omega) (by omega)), if_neg y]
theorem j_newLength (a b c : Nat) (ha : 0 < a) (h : a + b + c < 2 ^ 30) (M : zM) : f_J8_newLength_cabcc (nI a) (nI b) (nI c) M = some (nI (a + (if b < c then c else b)), M) := by
  have hm : (if b < c then c else b) < 2 ^ 30 - a := by split <;> omega
  unfold f_J8_newLength_cabcc f_J8_newLength_cabcc_0
  rw [j_max b c (by omega) (by omega), Option.bind_some]
  generalize (if b < c then c else b) = m at *
  show (if nI a + nI m ≤ 0 then _ else _) = _
  rw [nI_add, if_neg (le_f (y := 0) (a + m) 0 (by omega) (by omega)), if_neg (lt_f (x := 2147483639) 2147483639 (a + m) (by omega) (by decide))]
/-- a row of references put in the place of a list's -/
def GR (M M' : zM) (l c : Nat) (r : Nat → Option Nat) : Prop := mX M' = mX M + 1 ∧ mS M' = mS M + c ∧ mK M' = u1 (mK M) (mX M) 110 ∧ mL M' = u1 (mL M) (mX M) c ∧ mR M' = u2 (mR M) 161 l (some (mX M)) ∧ mQ M' = ur (mQ M) (mX M) r
section LIST
variable {I : Nat → Nat → Int32} {J : Nat → Nat → Int64} {A : Nat → Nat → Int32} {M : zM} {l d n : Nat}
theorem aQ_cs {c : Nat} (hc : c ≤ 100000) (t : Nat) : aQ t (cs I J A M) (nI c) = some (mX M, cs I J A (nQ M t c)) := by
  have e : aQ t (cs I J A M) (nI c) = some (mX M, nQ (cs I J A M) t (nI c).toNatClampNeg) := if_pos ⟨nI_nn (by omega), by rw [nI_cl (by omega)]; exact hc⟩
  rw [e, nI_cl (by omega)]
  rfl
theorem aA_cs {c : Nat} (hc : c ≤ 100000) (t : Nat) : aA t (cs I J A M) (nI c) = some (mX M, cs I J (ur A (mX M) fun _ => 0) (nA M t c)) := by
  have e : aA t (cs I J A M) (nI c) = some (mX M, nA (cs I J A M) t (nI c).toNatClampNeg) := if_pos ⟨nI_nn (by omega), by rw [nI_cl (by omega)]; exact hc⟩
  rw [e, nI_cl (by omega)]
  rfl
theorem r_grow (hk : mK M l = 5) (hd : mR M 161 l = some d) (hn : I 162 l = nI n) (hl : l < mX M) (hn64 : n < 65) (hc : (d = 4 ∧ n = 0 ∧ mK M 4 = 210 ∧ mL M 4 = 0) ∨ (mK M d = 110 ∧ mL M d = n ∧ 0 < n ∧ d < mX M)) (he : ∀ j, j < n → ∀ o ∈ mQ M d j, zels (mK M o) ∧ o < mX M) : ∃ c r M', n + 1 ≤ c ∧ c ≤ 100 ∧ f_Jx4a65c_grow_d5877 l (cs I J A M) = some (mX M, cs I J A M') ∧ GR M M' l c r ∧ ∀ j, j < n → r j = mQ M d j := by
  unfold f_Jx4a65c_grow_d5877 f_Jx4a65c_grow_d5877_0
  rw [gI_cs 162 hk, Option.bind_some, if_pos (show mK (cs I J A M) l = 5 from hk), hn, nI_1]
  unfold f_Jx4a65c_grow_92f84 f_Jx4a65c_grow_92f84_0
  rw [gR_cs 161 hk hd, Option.bind_some]
  rcases hc with ⟨rfl, rfl, k4, l4⟩ | ⟨kd, ld, n0, dX⟩
  · refine ⟨10, fun _ => none, sR (nQ M 0 10) 161 l (some (mX M)), by decide, by decide, ?_, ?_, fun j hj => absurd hj (Nat.not_lt_zero _)⟩
    · have eg : gL (cs I J A M) 4 = some (nI 0) := e_gL (M := cs I J A M) (by show zrow (mK M 4); rw [k4]; decide) l4
      have hkl : mK (nQ M 0 10) l = 5 := (if_neg (Nat.ne_of_lt hl)).trans hk
      have em : f_J9_max_7cf53 10 (nI (0 + 1)) (cs I J A M) = some (nI 10, cs I J A M) := j_max 10 1 (by decide) (by decide) _
      rw [eg, Option.bind_some, if_neg (show ¬ (0 : Int32) < nI 0 by decide), Option.bind_some, if_pos (Or.inl rfl), if_pos rfl, em, Option.bind_some]
      show (((aQ 0 (cs I J A M) (nI 10)).bind _).bind _) = _
      rw [aQ_cs (by decide), Option.bind_some]
      have ep : pR 5 1 (cs I J A (nQ M 0 10)) l (mX M) = some (cs I J A (sR (nQ M 0 10) 161 l (some (mX M)))) := e_pR (M := cs I J A (nQ M 0 10)) 161 hkl
      show (((pR 5 1 (cs I J A (nQ M 0 10)) l (mX M)).bind _).bind _) = _
      rw [ep]
      rfl
    · exact ⟨rfl, rfl, rfl, rfl, rfl, rfl⟩
  · have hkl : mK (nQ M 0 (n + (if 1 < n / 2 then n / 2 else 1))) l = 5 := (if_neg (Nat.ne_of_lt hl)).trans hk
    have hc2 : (if 1 < n / 2 then n / 2 else 1) ≤ 33 := by split <;> omega
    have hc1 : 1 ≤ (if 1 < n / 2 then n / 2 else 1) := by split <;> omega
    refine ⟨n + (if 1 < n / 2 then n / 2 else 1), va_cpy (mQ M d) (fun _ => none) 0 0 n, sR (sQr (nQ M 0 (n + (if 1 < n / 2 then n / 2 else 1))) (mX M) (va_cpy (mQ M d) (fun _ => none) 0 0 n)) 161 l (some (mX M)), by omega, by omega, ?_, ?_, fun j hj => ?_⟩
    · generalize hC : n + (if 1 < n / 2 then n / 2 else 1) = C at *
      have eg : gL (cs I J A M) d = some (nI n) := e_gL (M := cs I J A M) (by show zrow (mK M d); rw [kd]; decide) ld
      have es : nI n >>> ((1 : Int32) &&& 31) = nI (n / 2) := pk_shrN (n := n) (by omega) _ 1 (by decide)
      have e1 : nI (n + 1) - nI n = nI 1 := (pk_sub (by omega)).trans (congrArg nI (by omega))
      rw [eg, Option.bind_some, if_pos (lt_t (x := 0) 0 n n0 (by omega))]
      unfold f_Jx4a65c_grow_92f84_20
      rw [es, e1, j_newLength n 1 (n / 2) n0 (by omega), Option.bind_some, hC]
      show (((gR 5 1 (cs I J A M) l).bind _).bind _) = _
      rw [gR_cs 161 hk hd, Option.bind_some]
      unfold f_J7_copyOf_1904c f_J7_copyOf_1904c_0 f_J7_copyOf_6403c f_J7_copyOf_6403c_0
      show ((((if mK M d = 110 then _ else none).bind _).bind _)) = _
      rw [if_pos kd, if_pos (Or.inl rfl), if_pos rfl]
      show ((((aQ 0 (cs I J A M) (nI C)).bind _).bind _).bind _).bind _ = _
      rw [aQ_cs (by omega), Option.bind_some]
      unfold f_J7_copyOf_6403c_24
      have kd2 : mK (nQ M 0 C) d = 110 := (if_neg (Nat.ne_of_lt dX)).trans kd
      have ld2 : mL (nQ M 0 C) d = n := (if_neg (Nat.ne_of_lt dX)).trans ld
      have eg2 : gL (cs I J A (nQ M 0 C)) d = some (nI n) := e_gL (M := cs I J A (nQ M 0 C)) (by show zrow (mK (nQ M 0 C) d); rw [kd2]; decide) ld2
      show ((((gL (cs I J A (nQ M 0 C)) d).bind _).bind _).bind _).bind _ = _
      rw [eg2, Option.bind_some, j_min n C (by omega) (by omega), if_neg (show ¬ C < n by omega), Option.bind_some]
      have ey : yQ (cs I J A (nQ M 0 C)) d 0 (mX M) 0 (nI n) = some (cs I J A (sQr (nQ M 0 C) (mX M) (va_cpy (mQ M d) (fun _ => none) 0 0 n))) := by
        have c0 : (0 : Int32).toNatClampNeg = 0 := rfl
        have cn : (nI n).toNatClampNeg = n := nI_cl (by omega)
        have e : yQ (cs I J A (nQ M 0 C)) d 0 (mX M) 0 (nI n) = some (sQr (cs I J A (nQ M 0 C)) (mX M) (va_cpy (mQ (nQ M 0 C) d) (mQ (nQ M 0 C) (mX M)) (0 : Int32).toNatClampNeg (0 : Int32).toNatClampNeg (nI n).toNatClampNeg)) := by
          refine if_pos ⟨kd2, if_pos rfl, ⟨by decide, by decide, nI_nn (by omega), ?_, ?_⟩, fun i hi o ho => ?_⟩
          · rw [c0, cn]
            show 0 + n ≤ mL (nQ M 0 C) d
            rw [ld2]; omega
          · rw [c0, cn]
            show 0 + n ≤ mL (nQ M 0 C) (mX M)
            rw [show mL (nQ M 0 C) (mX M) = C from if_pos rfl]; omega
          · rw [cn] at hi
            rw [c0, Nat.zero_add] at ho
            have ho2 : o ∈ mQ M d i := by
              have e9 : mQ (cs I J A (nQ M 0 C)) d i = mQ M d i := if_neg (Nat.ne_of_lt dX)
              rw [e9] at ho
              exact ho
            have := he i hi o ho2
            have e8 : mK (cs I J A (nQ M 0 C)) o = mK M o := if_neg (Nat.ne_of_lt this.2)
            rw [e8]
            exact this.1
        rw [e, c0, cn]
        have e3 : mQ (nQ M 0 C) d = mQ M d := funext fun i => if_neg (Nat.ne_of_lt dX)
        have e4 : mQ (nQ M 0 C) (mX M) = fun _ => none := funext fun i => if_pos rfl
        rw [e3, e4]
        rfl
      rw [show yQ (nI n, cs I J A (nQ M 0 C)).2 d 0 (mX M) 0 (nI n, cs I J A (nQ M 0 C)).1 = _ from ey, Option.bind_some, Option.bind_some, Option.bind_some]
      have ep : pR 5 1 (cs I J A (sQr (nQ M 0 C) (mX M) (va_cpy (mQ M d) (fun _ => none) 0 0 n))) l (mX M) = some (cs I J A (sR (sQr (nQ M 0 C) (mX M) (va_cpy (mQ M d) (fun _ => none) 0 0 n)) 161 l (some (mX M)))) := e_pR (M := cs I J A (sQr (nQ M 0 C) (mX M) (va_cpy (mQ M d) (fun _ => none) 0 0 n))) 161 hkl
      rw [ep]
      rfl
    · refine ⟨rfl, rfl, rfl, rfl, rfl, ?_⟩
      show ur (ur (mQ M) (mX M) fun _ => none) (mX M) _ = _
      rw [ur_ur]
    · have e := pk_cpy_in (f := mQ M d) (g := fun _ => none) (sp := 0) (dp := 0) (n := n) (j := j) (Nat.zero_le _) (by omega)
      rw [e]
      exact congrArg (mQ M d) (by omega)
/-- one more in a list: what it is then -/
def AD (M M' : zM) (l d d' n x : Nat) : Prop :=
  (mX M ≤ mX M' ∧ mX M' ≤ mX M + 1 ∧ mS M' ≤ mS M + 100) ∧ mR M' 161 l = some d' ∧ (mK M' d' = 110 ∧ n + 1 ≤ mL M' d' ∧ mL M' d' ≤ 1000 ∧ d' < mX M') ∧ mQ M' d' n = some x ∧ (∀ j, j < n → mQ M' d' j = mQ M d j) ∧ ((d' = d ∧ mK M d = 110) ∨ d' = mX M) ∧ ∀ b, b < mX M → mK M' b = mK M b ∧ mL M' b = mL M b ∧ (∀ k, (k ≠ 161 ∨ b ≠ l) → mR M' k b = mR M k b) ∧ (b ≠ d' → mQ M' b = mQ M b)
theorem r_add (hk : mK M l = 5) (hd : mR M 161 l = some d) (hn : I 162 l = nI n) (hl : l < mX M) (hn64 : n < 65) (hc : (d = 4 ∧ n = 0 ∧ mK M 4 = 210 ∧ mL M 4 = 0) ∨ (mK M d = 110 ∧ n ≤ mL M d ∧ mL M d ≤ 1000 ∧ 0 < mL M d ∧ d < mX M)) (he : ∀ j, j < n → ∀ o ∈ mQ M d j, zels (mK M o) ∧ o < mX M) {x : Nat} (hx : mK M x = 11 ∨ mK M x = 303) (hxX : x < mX M) : ∃ v d' M', f_Jx4a65c_add_9ea2d l x (cs I J A M) = some (1, cs (u2 (u2 I 160 l v) 162 l (nI (n + 1))) J A M') ∧ AD M M' l d d' n x := by
  unfold f_Jx4a65c_add_9ea2d f_Jx4a65c_add_9ea2d_0
  rw [gI_cs 160 hk, Option.bind_some, pI_cs 160 hk, Option.bind_some, gR_cs 161 hk hd, Option.bind_some, gI_cs 162 hk, Option.bind_some, show u2 I 160 l (I 160 l + 1) 162 l = nI n from hn]
  generalize hI : u2 I 160 l (I 160 l + 1) = I1
  have hn1 : I1 162 l = nI n := by rw [← hI]; exact hn
  rw [if_pos (show mK (cs I1 J A M) l = 5 from hk)]
  unfold f_Jx4a65c_add_72be8 f_Jx4a65c_add_72be8_0
  have key : ∃ d' M', ((gL (cs I1 J A M) d).bind fun v1 => if nI n = v1 then if mK (cs I1 J A M) l = 5 then (f_Jx4a65c_grow_d5877 l (cs I1 J A M)).bind fun r2 => f_Jx4a65c_add_72be8_11 l x r2.1 (nI n) r2.2 else none else f_Jx4a65c_add_72be8_11 l x d (nI n) (cs I1 J A M)) = some ((), cs (u2 I1 162 l (nI (n + 1))) J A M') ∧ AD M M' l d d' n x := by
    have gro : ((d = 4 ∧ n = 0 ∧ mK M 4 = 210 ∧ mL M 4 = 0) ∨ (mK M d = 110 ∧ mL M d = n ∧ 0 < n ∧ d < mX M)) → ∃ d' M', (if mK (cs I1 J A M) l = 5 then (f_Jx4a65c_grow_d5877 l (cs I1 J A M)).bind fun r2 => f_Jx4a65c_add_72be8_11 l x r2.1 (nI n) r2.2 else none) = some ((), cs (u2 I1 162 l (nI (n + 1))) J A M') ∧ AD M M' l d d' n x := fun hc2 => by
      obtain ⟨c, r, M', c1, c2, e, ⟨g1, g2, g3, g4, g5, g6⟩, f⟩ := r_grow (I := I1) (J := J) (A := A) hk hd hn1 hl hn64 hc2 he
      have kN : mK M' (mX M) = 110 := by rw [g3]; exact u1_at _ _ _
      have lN : mL M' (mX M) = c := by rw [g4]; exact u1_at _ _ _
      have kx : mK M' x = mK M x := by rw [g3]; exact u1_ne _ _ (Nat.ne_of_lt hxX)
      have kl : mK M' l = 5 := by rw [g3, u1_ne _ _ (Nat.ne_of_lt hl)]; exact hk
      refine ⟨mX M, sQ M' (mX M) n (some x), ?_, ⟨by show mX M ≤ mX M'; omega, by show mX M' ≤ _; omega, by show mS M' ≤ _; omega⟩, ?_, ⟨kN, by show n + 1 ≤ mL M' (mX M); omega, by show mL M' (mX M) ≤ _; omega, by show mX M < mX M'; omega⟩, if_pos ⟨rfl, rfl⟩, fun j hj => ?_, Or.inr rfl, fun b hb => ⟨?_, ?_, fun k hk9 => ?_, fun hb2 => ?_⟩⟩
      · rw [if_pos (show mK (cs I1 J A M) l = 5 from hk), e, Option.bind_some]
        unfold f_Jx4a65c_add_72be8_11
        show (if mK M' x = 11 ∨ mK M' x = 303 then _ else none) = _
        rw [if_pos (by rw [kx]; exact hx)]
        have et : tQ 0 (cs I1 J A M') (mX M) (nI n) (some x) = some (cs I1 J A (sQ M' (mX M) n (some x))) := e_tQ (M := cs I1 J A M') (t := 0) kN (by show n < mL M' (mX M); omega) (by show mL M' (mX M) < _; omega)
        show (tQ 0 (cs I1 J A M') (mX M) (nI n) (some x)).bind _ = _
        rw [et, Option.bind_some, nI_1]
        have ep : pI 5 2 (cs I1 J A (sQ M' (mX M) n (some x))) l (nI (n + 1)) = some (cs (u2 I1 162 l (nI (n + 1))) J A (sQ M' (mX M) n (some x))) := pI_cs 162 (M := sQ M' (mX M) n (some x)) kl
        rw [ep]
        rfl
      · show mR M' 161 l = _
        rw [g5]
        exact if_pos ⟨rfl, rfl⟩
      · show u2 (mQ M') (mX M) n (some x) (mX M) j = _
        rw [← f j hj, g6]
        exact (if_neg (fun z => by have := z.2; omega)).trans (ur_at _ _ _ _)
      · show mK M' b = _
        rw [g3]
        exact u1_ne _ _ (Nat.ne_of_lt hb)
      · show mL M' b = _
        rw [g4]
        exact u1_ne _ _ (Nat.ne_of_lt hb)
      · show mR M' k b = _
        rw [g5]
        exact if_neg (fun z => hk9.elim (fun y => y z.1) (fun y => y z.2))
      · show u2 (mQ M') (mX M) n (some x) b = _
        funext j
        rw [g6]
        exact (if_neg (fun z => Nat.ne_of_lt hb z.1)).trans (ur_ne _ _ _ (Nat.ne_of_lt hb))
    rcases hc with ⟨q1, q2, q3, q4⟩ | ⟨q1, q2, q3, q4, q5⟩
    · have eg : gL (cs I1 J A M) d = some (nI n) := by
        rw [q1, q2]
        exact e_gL (M := cs I1 J A M) (by show zrow (mK M 4); rw [q3]; decide) q4
      rw [eg, Option.bind_some, if_pos rfl]
      exact gro (Or.inl ⟨q1, q2, q3, q4⟩)
    · have eg : gL (cs I1 J A M) d = some (nI (mL M d)) := e_gL (M := cs I1 J A M) (by show zrow (mK M d); rw [q1]; decide) rfl
      rw [eg, Option.bind_some]
      by_cases y : n = mL M d
      · rw [if_pos (congrArg nI y)]
        exact gro (Or.inr ⟨q1, y.symm, by omega, q5⟩)
      · rw [if_neg (fun z => y ((nI_eq (by omega) (by omega)).mp z))]
        refine ⟨d, sQ M d n (some x), ?_, ⟨Nat.le_refl _, by show mX M ≤ _; omega, by show mS M ≤ _; omega⟩, hd, ⟨q1, by show n + 1 ≤ mL M d; omega, q3, q5⟩, if_pos ⟨rfl, rfl⟩, fun j hj => if_neg (fun z => by have := z.2; omega), Or.inl ⟨rfl, q1⟩, fun b hb => ⟨rfl, rfl, fun _ _ => rfl, fun hb2 => funext fun j => if_neg (fun z => hb2 z.1)⟩⟩
        unfold f_Jx4a65c_add_72be8_11
        show (if mK M x = 11 ∨ mK M x = 303 then _ else none) = _
        have et : tQ 0 (cs I1 J A M) d (nI n) (some x) = some (cs I1 J A (sQ M d n (some x))) := e_tQ (M := cs I1 J A M) (t := 0) q1 (by show n < mL M d; omega) (by show mL M d < _; omega)
        rw [if_pos hx, et, Option.bind_some, nI_1]
        have ep : pI 5 2 (cs I1 J A (sQ M d n (some x))) l (nI (n + 1)) = some (cs (u2 I1 162 l (nI (n + 1))) J A (sQ M d n (some x))) := pI_cs 162 (M := sQ M d n (some x)) hk
        rw [ep]
        rfl
  obtain ⟨d', M', e, a⟩ := key
  refine ⟨I 160 l + 1, d', M', ?_, a⟩
  rw [hI, e, Option.bind_some]
end LIST
