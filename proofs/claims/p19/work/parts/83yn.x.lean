/-! ===== THE GAME: which sets lie; what is waited for; the value of a win ===== -/
/-- the sets that lie are such as can lie -/
def W9 (G : zG) : Prop := ∀ p, p < 4 → VOK (eV G p) (eN G p)
section W9S
variable {G : zG}
theorem W9.of {G' : zG} (h : W9 G) (hN : eN G' = eN G) (hV : eV G' = eV G) : W9 G' := fun p hp => by
  rw [hN, hV]
  exact h p hp
theorem W9.set (h : W9 G) {p f l : Nat} (hf : f < 4) (hl : l < 25) (h1 : f = 1 → l + 2 < 18) : W9 (gSet G p f l) := fun c hc j hj => by
  have hN : eN (gSet G p f l) c = u1 (eN G) p (eN G p + 1) c := rfl
  have hV : eV (gSet G p f l) c j = u2 (eV G) p (eN G p) (100 * f + l) c j := rfl
  rw [hN] at hj
  rw [hV]
  by_cases y : c = p ∧ j = eN G p
  · have e : u2 (eV G) p (eN G p) (100 * f + l) c j = 100 * f + l := if_pos y
    rw [e]
    exact ⟨by omega, fun z => by have := h1 (by omega); omega⟩
  · have e : u2 (eV G) p (eN G p) (100 * f + l) c j = eV G c j := if_neg y
    rw [e]
    refine h c hc j ?_
    by_cases z : c = p
    · rw [z, u1_at] at hj
      rw [z]
      by_cases w : j = eN G p
      · exact absurd ⟨z, w⟩ y
      · omega
    · rw [u1_ne _ _ z] at hj
      exact hj
theorem W9.draw (h : W9 G) : W9 (gDraw G) := by
  unfold gDraw
  split
  · exact h.of rfl rfl
  · exact h.of rfl rfl
theorem W9.df (h : W9 G) : W9 (gDF G) := h.of rfl rfl
theorem W9.clm (h : W9 G) {p w : Nat} {i : Int32} (hw2 : w ≤ 2) (hl : lst G < 25) (hm : oMay G p w i = true) : W9 (gClm G p w i) := by
  obtain ⟨l, l1, l2, l3, l4, -⟩ := may_le hm hw2 hl
  have row : w = 1 → l + 2 < 18 := fun y => by
    have hc := (oMay_w hm).2.2.2.1 y
    have e := l3 y
    subst e
    unfold crow at hc
    rw [if_neg (nI_nn (by omega)), nI_cl (by omega)] at hc
    by_cases z : rw_ l = true ∧ l ≤ lst G ∧ lst G ≤ l + 2
    · have h1 := rw_lt z.1
      have h2 := rw_9 z.1
      omega
    · rw [if_neg z] at hc
      cases hc
  have h1 : W9 (gLv G p) := h.of rfl rfl
  have h2 := h1.set (p := p) (f := w) (l := l) (by omega) l1 row
  unfold gClm
  rw [← l2]
  split
  · exact h2.df
  · exact h2
theorem W9.win (h : W9 G) (p : Nat) : W9 (gWin G p) := by
  unfold gWin
  split
  · exact h.of rfl rfl
  · exact h.of rfl rfl
theorem gAll_N0 : ∀ (d p : Nat) (G : zG) (c : Nat), (p ≤ c ∧ c < p + d ∨ eN G c = 0) → eN (gAll d p G) c = 0 := by
  intro d
  induction d with
  | zero =>
    intro p G c h
    rcases h with h | h
    · omega
    · exact h
  | succ d ih =>
    intro p G c h
    have e : gAll (d + 1) p G = gAll d (p + 1) (gDeal p 10 0 (gClr G p)) := rfl
    rw [e]
    refine ih (p + 1) _ c ?_
    have hN := (gDeal_NM p 10 0 (gClr G p)).1
    by_cases y : c = p
    · refine Or.inr ?_
      rw [hN]
      show u1 (eN G) p 0 c = 0
      rw [y, u1_at]
    · rcases h with h | h
      · exact Or.inl (by omega)
      · refine Or.inr ?_
        rw [hN]
        show u1 (eN G) p 0 c = 0
        rw [u1_ne _ _ y]
        exact h
theorem W9.lay (st sh : Nat) : W9 (gLay G st sh) := fun p hp j hj => by
  have e : eN (gLay G st sh) p = 0 := gAll_N0 4 0 (gBeg G st sh) p (Or.inl (by omega))
  rw [e] at hj
  exact absurd hj (Nat.not_lt_zero _)
/-- counts, with what lies -/
theorem alk_tt (h : WX G) (h7 : eS G 7 ≠ 0) {p k : Nat} (hp : p < 4) (hk : k < 25) : alk (eH G p) (eV G p) (eN G p) k ≤ 4 := by
  have t := h.tt h7 hk
  unfold TT at t
  have := sn_ge (pc G k) p 4 0 (Nat.zero_le _) (by omega)
  have e : pc G k p = eH G p k + (lys (eV G p) (eN G p) k + sn (fun j => if eR G p j = k then 1 else 0) 0 (eM G p)) := rfl
  unfold alk
  omega
end W9S
/-! bits of what is waited for -/
theorem bt_key : ∀ i, i < 25 → ∀ k, k < 25 → ((((1 : Int64) <<< ((nI i).toInt64 &&& 63)) >>> ((nI k).toInt64 &&& 63)) &&& 1) = if i = k then 1 else 0 := by decide +kernel
theorem bt_or (a b c : Int64) : ((a ||| b) >>> c) &&& 1 = ((a >>> c) &&& 1) ||| ((b >>> c) &&& 1) := by
  rw [Int64.shiftRight_or, ← Int64.toBitVec_inj, Int64.toBitVec_and, Int64.toBitVec_or, Int64.toBitVec_or, Int64.toBitVec_and, Int64.toBitVec_and, BitVec.and_or_distrib_right]
def btk (x : Int64) (k : Nat) : Int64 := (x >>> ((nI k).toInt64 &&& 63)) &&& 1
theorem bt_wt {k : Nat} (hk : k < 25) (g : Nat → Nat) : ∀ (d i : Nat) (acc : Int64), i + d = 25 → btk (wt d i g acc) k = btk acc k ||| (if i ≤ k ∧ cmp 25 0 (u1 g k (g k + 1)) = true then 1 else 0) := by
  intro d
  induction d with
  | zero =>
    intro i acc hi
    rw [wt, if_neg (by omega), Int64.or_zero]
  | succ d ih =>
    intro i acc hi
    rw [wt, ih (i + 1) _ (by omega)]
    by_cases c : cmp 25 0 (u1 g i (g i + 1)) = true
    · have e : btk (acc ||| ((1 : Int64) <<< ((nI i).toInt64 &&& 63))) k = btk acc k ||| (if i = k then 1 else 0) := by
        unfold btk
        rw [bt_or, bt_key i (by omega) k hk]
      rw [if_pos c, e, Int64.or_assoc]
      by_cases y : i = k
      · subst y
        rw [if_pos rfl, if_neg (by omega), if_pos ⟨Nat.le_refl _, c⟩, Int64.or_zero]
      · rw [if_neg y, Int64.zero_or]
        by_cases z : i + 1 ≤ k ∧ cmp 25 0 (u1 g k (g k + 1)) = true
        · rw [if_pos z, if_pos ⟨by omega, z.2⟩]
        · rw [if_neg z, if_neg (fun q => z ⟨by omega, q.2⟩)]
    · rw [if_neg c]
      by_cases z : i + 1 ≤ k ∧ cmp 25 0 (u1 g k (g k + 1)) = true
      · rw [if_pos z, if_pos ⟨by omega, z.2⟩]
      · rw [if_neg z, if_neg (fun q => z ⟨by
          by_cases y : i = k
          · subst y; exact absurd q.2 c
          · omega, q.2⟩)]
theorem bt_wts {k : Nat} (hk : k < 25) (N : Nat) (g : Nat → Nat) : btk (wts N g) k = if sn g 0 25 + 3 * N = 10 ∧ cmp 25 0 (u1 g k (g k + 1)) = true then 1 else 0 := by
  have b0 : btk 0 k = 0 := by
    have key : ∀ k, k < 25 → btk 0 k = 0 := by decide +kernel
    exact key k hk
  unfold wts
  by_cases y : sn g 0 25 + 3 * N = 10
  · rw [if_pos y, bt_wt hk g 25 0 0 rfl, b0, Int64.zero_or]
    by_cases z : cmp 25 0 (u1 g k (g k + 1)) = true
    · rw [if_pos ⟨Nat.zero_le _, z⟩, if_pos ⟨y, z⟩]
    · rw [if_neg (fun q => z q.2), if_neg (fun q => z q.2)]
  · rw [if_neg y, b0, if_neg (fun q => y q.1)]
/-- the game with the tile that won -/
def gWt (G : zG) (p : Nat) : zG := if eS G 4 = 1 then G else gTk G p
theorem gWt_e (G : zG) (p : Nat) : eV (gWt G p) = eV G ∧ eN (gWt G p) = eN G ∧ eC (gWt G p) = eC G ∧ eS (gWt G p) = eS G := by
  unfold gWt
  split
  · exact ⟨rfl, rfl, rfl, rfl⟩
  · exact ⟨rfl, rfl, rfl, rfl⟩
theorem alk_u1 (g v : Nat → Nat) (N t : Nat) (k : Nat) : alk (u1 g t (g t + 1)) v N k = alk g v N k + (if k = t then 1 else 0) := by
  unfold alk
  by_cases y : k = t
  · subst y
    rw [u1_at, if_pos rfl]
    omega
  · rw [u1_ne _ _ y, if_neg y]
    rfl
theorem gTk_H (G : zG) (p : Nat) : eH (gTk G p) p = u1 (eH G p) (lst G) (eH G p (lst G) + 1) := by
  funext j
  show u2 (eH G) p (lst G) (eH G p (lst G) + 1) p j = _
  unfold u2 u1
  by_cases z : j = lst G
  · rw [if_pos ⟨rfl, z⟩, if_pos z]
  · rw [if_neg (fun q => z q.2), if_neg z]
theorem win_ok {G : zG} (hx : WX G) {p : Nat} (hp : p < 4) (hw : wOk G p = true) : cmp 25 0 (eH (gWt G p) p) = true ∧ sn (eH (gWt G p) p) 0 25 + 3 * eN G p = 11 ∧ (∀ k, k < 25 → alk (eH (gWt G p) p) (eV G p) (eN G p) k ≤ 5) := by
  unfold wOk at hw
  by_cases y : eS G 4 = 1
  · have h7 : eS G 7 ≠ 0 := hx.2.2.2.2.2.2.2.2.2 (by omega)
    rw [if_pos y] at hw
    unfold oAlone at hw
    rw [Bool.and_eq_true] at hw
    obtain ⟨a, b⟩ := hw
    obtain ⟨-, -, a⟩ := of_decide_eq_true a
    unfold gWt
    rw [if_pos y]
    exact ⟨b, a, fun k hk => Nat.le_succ_of_le (alk_tt hx h7 hp hk)⟩
  · rw [if_neg y] at hw
    unfold oByDis at hw
    rw [Bool.and_eq_true] at hw
    obtain ⟨a, b⟩ := hw
    obtain ⟨a, -⟩ := of_decide_eq_true a
    have h7 : eS G 7 ≠ 0 := hx.2.2.2.2.2.2.2.2.2 (by omega)
    have hl := hx.ls a
    unfold gBit at b
    obtain ⟨b, -⟩ := of_decide_eq_true b
    have b' : btk (wts (eN G p) (eH G p)) (lst G) = 1 := b
    rw [bt_wts hl] at b'
    have c : sn (eH G p) 0 25 + 3 * eN G p = 10 ∧ cmp 25 0 (u1 (eH G p) (lst G) (eH G p (lst G) + 1)) = true := by
      by_cases z : sn (eH G p) 0 25 + 3 * eN G p = 10 ∧ cmp 25 0 (u1 (eH G p) (lst G) (eH G p (lst G) + 1)) = true
      · exact z
      · rw [if_neg z] at b'
        exact absurd b' (by decide)
    have hs := sn_u1 (eH G p) (lst G) (eH G p (lst G) + 1) 25 0 (Nat.zero_le _) (by omega)
    unfold gWt
    rw [if_neg y, gTk_H]
    refine ⟨c.2, by omega, fun k hk => ?_⟩
    have := alk_tt hx h7 hp hk
    rw [alk_u1]
    split <;> omega
/-- the value of a win -/
noncomputable def VLG (al : Bool) (G : zG) (p lk D : Nat) : Nat := min (vsum al (eC G p) (opN G p) lk ((p + 4 - D) % 4) (alk (eH G p) (eV G p) (eN G p)) (wrc (eH G p) (eV G p) (eN G p) 0 0 25)) 12
section XWIN2
variable {I : Nat → Nat → Int32} {J : Nat → Nat → Int64} {A : Nat → Nat → Int32} {M : zM} {G : zG}
theorem x_winC (h : CSH M) (hx : WX G) (hw : WF G) (hc : CR I J A G) {p : Nat} (hp : p < 4) (ho : wOk G p = true) {D lk : Nat} (hD : I 297 1000 = nI D) (hD4 : D < 4) (hlk : lk < 25) {e : zPt} (he : CE I e) (helk : e.2.2.2.1 = nI lk) : ∃ I' A', f_X3_win 1000 (nI p) (cs I J A M) = some (.inr (nI (VLG (decide (eS G 4 = 1)) (gWt G p) p lk D)), cs I' J A' M) ∧ CE I' (eWin e p (eS G 5) (decide (eS G 4 = 1)) (nI (VLG (decide (eS G 4 = 1)) (gWt G p) p lk D))) := by
  have hL := hx.2.2.2.2.2.1
  have hT := hx.t
  have hz := hx.z
  have hv := hx.v
  obtain ⟨o1, o2, o3⟩ := win_ok hx hp ho
  unfold f_X3_win f_X3_win_0
  have e0 : f_X3_requirePlayer (nI p) (cs I J A M) = some (.inr (), cs I J A M) := q_pl_ok hp _
  have hs := hc.1
  have ht := hw.2.2.2.2.2.1
  have w10 := hw.2.2.2.2.2.2.2.2.2.2
  have w4 := hw.2.2.2.2.1
  have hsp := h.2.2.2.2.2.2.2.1 _ hp
  have hse := h.2.2.2.2.2.2.2.1 _ ht
  rw [e0]
  show ∃ I' A', (gI 9 7 (cs I J A M) 1000).bind _ = _ ∧ _
  rw [gI_cs 295 h.1, Option.bind_some, hs.2.2.2.2.1]
  unfold wOk at ho
  by_cases x : eS G 4 = 1
  · rw [if_pos x] at ho
    obtain ⟨A1, e1, f1⟩ := q_winsAlone h hw hz hc hp
    have eg : gWt G p = G := if_pos x
    rw [eg] at o3
    rw [if_pos (show nI (eS G 4) = 1 by rw [x]; rfl), decide_eq_true x, eg]
    unfold f_X3_win_17
    rw [if_neg (show ¬ (1 : Int32) = 0 by decide), if_pos (show mK (cs I J A M) 1000 = 9 from h.1), e1, Option.bind_some, ho]
    dsimp only
    rw [if_neg (show ¬ b32 true = 0 by decide)]
    unfold f_X3_win_51
    rw [gR_cs 288 h.1 h.2.1, Option.bind_some, h.seat hp, Option.bind_some, if_neg (show ¬ (1 : Int32) = 0 by decide)]
    exact x_win_74 h ht f1 hp (w10 p hp).2.1 (fun j hj => hv p hp j hj) (fun k hk => by have := (w10 p hp).1 k hk; omega) true (fun z => by cases z) hD hD4 hlk he helk
  · rw [if_neg x] at ho
    obtain ⟨A1, e1, f1⟩ := q_winsByDiscard h hw hL hc hp
    have ho2 : eS G 4 = 2 ∧ p ≠ eS G 5 := by
      have ho' := ho
      unfold oByDis at ho'
      rw [Bool.and_eq_true] at ho'
      exact of_decide_eq_true ho'.1
    have eg : gWt G p = gTk G p := if_neg x
    have hm := hL ho2.1
    have v := w10 _ ht
    have hlt : lst G < 25 := v.2.2.2 _ (by omega)
    obtain ⟨c1, c2, c3, c4, c5, c6, c7⟩ := f1.2 _ ht
    obtain ⟨d1, d2, d3, d4, d5, d6, d7⟩ := f1.2 _ hp
    have eA : A1 (1013 + 4 * eS G 5) (eM G (eS G 5) - 1) = nI (lst G) := c5 _ (by omega)
    rw [if_neg (eq_f (x := nI (eS G 4)) (y := 1) (eS G 4) 1 x (by omega) (by decide)), decide_eq_false x, eg]
    unfold f_X3_win_17
    rw [if_pos rfl, if_pos (show mK (cs I J A M) 1000 = 9 from h.1), e1, Option.bind_some, ho]
    dsimp only
    rw [if_neg (show ¬ b32 true = 0 by decide)]
    unfold f_X3_win_51
    rw [gR_cs 288 h.1 h.2.1, Option.bind_some, h.seat hp, Option.bind_some, if_pos rfl, if_pos (show mK (cs I J A1 M) 1000 = 9 from h.1), q_seatInTurn h ht hs.2.2.2.2.2.1, Option.bind_some, if_pos (show mK (cs I J A1 M) (1010 + 4 * eS G 5) = 7 from hse.1), q_leave hse c4 (by have := v.2.2.1; omega), Option.bind_some, if_neg (show ¬ eM G (eS G 5) = 0 by omega), if_neg (show ¬ eM G (eS G 5) = 0 by omega), eA]
    rw [if_pos (show mK (cs _ J A1 M) (1010 + 4 * p) = 7 from hsp.1), q_change hsp hlt 1, Option.bind_some, d1 _ hlt, nI_1]
    have he2 : CE (u2 I 229 (1010 + 4 * eS G 5) (nI (eM G (eS G 5) - 1))) e := he.ot _ rfl
    have hD2 : u2 I 229 (1010 + 4 * eS G 5) (nI (eM G (eS G 5) - 1)) 297 1000 = nI D := (if_neg (fun z => by have := z.1; omega)).trans hD
    exact x_win_74 (G := gTk G p) h ht (f1.tk hp ht) hp (w10 p hp).2.1 (fun j hj => hv p hp j hj) (fun k hk => by
      rw [gTk_H]
      have := (w10 p hp).1 k hk
      have := (w10 p hp).1 _ hlt
      by_cases z : k = lst G
      · rw [z, u1_at]; omega
      · rw [u1_ne _ _ z]; omega) false (fun _ => ho2.2) hD2 hD4 hlk he2 helk
end XWIN2
