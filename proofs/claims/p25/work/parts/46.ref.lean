/-! ===== PURE, THE REFERENCE: its steps; what stays of a memory; tiles, complete hands, waits ===== -/
section STEP
variable {M : zM} {c k a b i t : Nat}
theorem e_gI (q : Nat) (hk : mK M a = c) (hq : 32 * c + k = q := by rfl) : gI c k M a = some (mI M q a) := by
  subst hq
  exact if_pos hk
theorem e_gJ (q : Nat) (hk : mK M a = c) (hq : 32 * c + k = q := by rfl) : gJ c k M a = some (mJ M q a) := by
  subst hq
  exact if_pos hk
theorem e_gR {v : Nat} (q : Nat) (hk : mK M a = c) (hv : mR M q a = some v) (hq : 32 * c + k = q := by rfl) : gR c k M a = some v := by
  subst hq
  exact (if_pos hk).trans hv
theorem e_pI {v : Int32} (q : Nat) (hk : mK M a = c) (hq : 32 * c + k = q := by rfl) : pI c k M a v = some (sI M q a v) := by
  subst hq
  exact if_pos hk
theorem e_pJ {v : Int64} (q : Nat) (hk : mK M a = c) (hq : 32 * c + k = q := by rfl) : pJ c k M a v = some (sJ M q a v) := by
  subst hq
  exact if_pos hk
theorem e_pR {v : Nat} (q : Nat) (hk : mK M a = c) (hq : 32 * c + k = q := by rfl) : pR c k M a v = some (sR M q a (some v)) := by
  subst hq
  exact if_pos hk
theorem e_pZ {v : Int32} (q : Nat) (hk : mK M a = c) (hv : v = 0 ∨ v = 1) (hq : 32 * c + k = q := by rfl) : pZ c k M a v = some (sI M q a v) := by
  subst hq
  exact if_pos ⟨hk, hv⟩
theorem e_lA (hk : mK M b = 100) (hi : i < mL M b) (hL : mL M b < 2 ^ 31) : lA 0 M b (nI i) = some (mA M b i) := lA_cs (I := mI M) (J := mJ M) (A := mA M) hk hi hL
theorem e_tA {v : Int32} (hk : mK M b = 100) (hi : i < mL M b) (hL : mL M b < 2 ^ 31) : tA M b (nI i) v = some (sA M b i v) := tA_cs (I := mI M) (J := mJ M) (A := mA M) hk hi hL
theorem e_lQ {v : Nat} (ht : t < 3) (hk : mK M b = 110 + t) (hi : i < mL M b) (hL : mL M b < 2 ^ 31) (hv : mQ M b i = some v) : lQ t M b (nI i) = some v := lQ_cs (I := mI M) (J := mJ M) (A := mA M) ht hk hi hL hv
theorem e_tQ {v : Option Nat} (hk : mK M b = 110 + t) (hi : i < mL M b) (hL : mL M b < 2 ^ 31) : tQ t M b (nI i) v = some (sQ M b i v) := by
  have e : tQ t M b (nI i) v = some (sQ M b (nI i).toNatClampNeg v) := if_pos ⟨hk, nI_oob hi hL⟩
  rw [e, nI_cl (by omega)]
theorem e_gL {n : Nat} (hk : zrow (mK M b)) (hn : mL M b = n) : gL M b = some (nI n) := by
  subst hn
  exact if_pos hk
end STEP
/-- rows within their lengths, and all fields -/
def SR (M M' : zM) (b : Nat) : Prop := mK M' b = mK M b ∧ mL M' b = mL M b ∧ (∀ k, mI M' k b = mI M k b) ∧ (∀ k, mJ M' k b = mJ M k b) ∧ (∀ k, mR M' k b = mR M k b) ∧ (∀ i, i < mL M b → mA M' b i = mA M b i) ∧ mQ M' b = mQ M b
theorem SA.sr {M M' : zM} {b : Nat} (h : SA M M' b) : SR M M' b := ⟨h.1, h.2.1, h.2.2.1, h.2.2.2.1, h.2.2.2.2.1, fun i _ => congrFun h.2.2.2.2.2.1 i, h.2.2.2.2.2.2⟩
theorem SR.rf (M : zM) (b : Nat) : SR M M b := (SA.rf M b).sr
theorem SR.tr {M M1 M2 : zM} {b : Nat} (h : SR M M1 b) (g : SR M1 M2 b) : SR M M2 b := ⟨g.1.trans h.1, g.2.1.trans h.2.1, fun k => (g.2.2.1 k).trans (h.2.2.1 k), fun k => (g.2.2.2.1 k).trans (h.2.2.2.1 k), fun k => (g.2.2.2.2.1 k).trans (h.2.2.2.2.1 k), fun i hi => (g.2.2.2.2.2.1 i (by rw [h.2.1]; exact hi)).trans (h.2.2.2.2.2.1 i hi), g.2.2.2.2.2.2.trans h.2.2.2.2.2.2⟩
/-- all that was there is as it was; at most so many cells and slots more -/
def KM (c s : Nat) (M M' : zM) : Prop := (mX M ≤ mX M' ∧ mX M' ≤ mX M + c ∧ mS M' ≤ mS M + s) ∧ ∀ b, b < mX M → SR M M' b
theorem KM.rf (M : zM) : KM 0 0 M M := ⟨⟨Nat.le_refl _, Nat.le_refl _, Nat.le_refl _⟩, fun b _ => SR.rf M b⟩
theorem KM.tr {c s c' s' : Nat} {M M1 M2 : zM} (h : KM c s M M1) (g : KM c' s' M1 M2) : KM (c + c') (s + s') M M2 :=
  ⟨⟨by have := h.1.1; have := g.1.1; omega, by have := h.1.2.1; have := g.1.2.1; omega, by have := h.1.2.2; have := g.1.2.2; omega⟩, fun b hb => (h.2 b hb).tr (g.2 b (Nat.lt_of_lt_of_le hb h.1.1))⟩
theorem KM.w {c s c' s' : Nat} {M M1 : zM} (h : KM c s M M1) (hc : c ≤ c') (hs : s ≤ s') : KM c' s' M M1 :=
  ⟨⟨h.1.1, by have := h.1.2.1; omega, by have := h.1.2.2; omega⟩, h.2⟩
theorem KM.t0 {c s : Nat} {M M1 M2 : zM} (h : KM c s M M1) (g : KM 0 0 M1 M2) : KM c s M M2 := h.tr g
/-- a row of numbers written over with the same -/
theorem KM_ur {I : Nat → Nat → Int32} {J : Nat → Nat → Int64} {A : Nat → Nat → Int32} {M : zM} {h : Nat} {w w' : Nat → Int32} (hw : ∀ k, k < mL M h → w' k = w k) : KM 0 0 (cs I J (ur A h w) M) (cs I J (ur A h w') M) :=
  ⟨⟨Nat.le_refl _, Nat.le_refl _, Nat.le_refl _⟩, fun b _ => ⟨rfl, rfl, fun _ => rfl, fun _ => rfl, fun _ => rfl, fun i hi => by
    show ur A h w' b i = ur A h w b i
    by_cases q : b = h
    · subst q
      rw [ur_at, ur_at]
      exact hw i hi
    · rw [ur_ne _ _ _ q, ur_ne _ _ _ q], rfl⟩⟩
/-- a player, its hand, its sets -/
def PS (M : zM) (P h l : Nat) : Prop := (mK M P = 12 ∧ mR M 386 P = some h ∧ mR M 387 P = some l) ∧ (mK M h = 100 ∧ mL M h = 25) ∧ mK M l = 5
section HAND
variable {I : Nat → Nat → Int32} {J : Nat → Nat → Int64} {A : Nat → Nat → Int32} {M : zM} {P h l : Nat}
end HAND

/-! ===== PURE, THE REFERENCE: its objects by their places; what the game is to it; tests ===== -/
def isL (l : Nat) : Prop := ∃ p, p < 4 ∧ (l = 1030 + 4 * p ∨ l = 1031 + 4 * p)
/-- the scalars -/
def RNs (I : Nat → Nat → Int32) (A : Nat → Nat → Int32) (G : zG) : Prop :=
  I 422 1026 = nI (eS G 4) ∧ I 423 1026 = nI (eS G 5) ∧ I 424 1026 + 1 = nI (eS G 6) ∧ I 425 1026 = nI (eS G 7) ∧ I 426 1026 = nI (eS G 3) ∧
  (eS G 7 ≠ 0 → I 419 1026 = nI (40 + eS G 2) ∧ I 420 1026 = nI (99 - eS G 3) ∧ (∀ t, t < 100 → A 1044 t = nI (gK G t)) ∧ ∃ k, k < 25 ∧ I 421 1026 = nI k) ∧
  (eS G 4 = 1 → I 429 1026 + 1 = nI (if eS G 9 = 0 then 0 else eS G 8)) ∧ (eS G 4 = 2 → I 430 1026 = nI (lst G))
/-- the sets of a list -/
def RNv (I : Nat → Nat → Int32) (M : zM) (l d n : Nat) (v : Nat → Nat) : Prop := I 162 l = nI n ∧ (d = 4 → n = 0) ∧ (d ≠ 4 → n ≤ mL M d) ∧ ∀ j, j < n → ∃ o, mQ M d j = some o ∧ mK M o = 11 ∧ o < mX M ∧ I 352 o = nI (v j % 100) ∧ I 353 o = nI (v j / 100)
/-- the kinds of a list -/
def RNr (I : Nat → Nat → Int32) (M : zM) (l d n : Nat) (v : Nat → Nat) : Prop := I 162 l = nI n ∧ (d = 4 → n = 0) ∧ (d ≠ 4 → n ≤ mL M d) ∧ ∀ j, j < n → mQ M d j = some (228 + v j)
/-- a player -/
def RNp (I : Nat → Nat → Int32) (J : Nat → Nat → Int64) (A : Nat → Nat → Int32) (M : zM) (G : zG) (hp dl : Nat → Nat) (p : Nat) : Prop :=
  (∀ k, k < 25 → A (hp p) k = nI (eH G p k)) ∧ RNv I M (1030 + 4 * p) (dl (1030 + 4 * p)) (eN G p) (eV G p) ∧ RNr I M (1031 + 4 * p) (dl (1031 + 4 * p)) (eM G p) (eR G p) ∧ J 389 (1028 + 4 * p) = eD G p ∧ I 390 (1028 + 4 * p) = b32 (eC G p)
/-- what is thrown -/
def th (v : Int32) (I : Nat → Nat → Int32) : Nat → Nat → Int32 := u2 I 416 1026 v
theorem u2_u2 {α : Type} (f : Nat → Nat → α) (k a : Nat) (v w : α) : u2 (u2 f k a v) k a w = u2 f k a w := by
  funext i j
  unfold u2
  by_cases h : i = k ∧ j = a
  · rw [if_pos h, if_pos h]
  · rw [if_neg h, if_neg h, if_neg h]
theorem th_th (v w : Int32) (I : Nat → Nat → Int32) : th v (th w I) = th v I := u2_u2 I 416 1026 w v
section RTEST
variable {I : Nat → Nat → Int32} {J : Nat → Nat → Int64} {A : Nat → Nat → Int32} {M : zM} {G : zG} {hp dl : Nat → Nat}
/-! pass -/
end RTEST

/-! ===== PURE, THE REFERENCE: a tile comes; the end without a winner; draw ===== -/
theorem m1_0 {x : Int32} (h : x + 1 = nI 0) : x = -1 := by
  have e : x + 1 - 1 = nI 0 - 1 := by rw [h]
  rw [Int32.add_sub_cancel] at e
  exact e
theorem m1_s {x : Int32} {n : Nat} (h : x + 1 = nI (n + 1)) : x = nI n := by
  have e : x + 1 - 1 = nI (n + 1) - 1 := by rw [h]
  rw [Int32.add_sub_cancel, nI_pred] at e
  exact e
/-- the dealer is by the rounds -/
def WD (G : zG) : Prop := (eS G 7 = 0 ∧ eS G 6 = 0) ∨ (eS G 7 ≠ 0 ∧ eS G 6 = (eS G 7 - 1) % 4 + 1)
/-- fields that the game does without -/
def fk (k : Nat) : Prop := k = 384 ∨ k = 385 ∨ k = 427 ∨ k = 428
def PR (I I' : Nat → Nat → Int32) : Prop := ∀ k b, fk k ∨ I' k b = I k b
theorem PR.rf (I : Nat → Nat → Int32) : PR I I := fun k b => Or.inr rfl
theorem PR.tr {I I1 I2 : Nat → Nat → Int32} (h : PR I I1) (g : PR I1 I2) : PR I I2 := fun k b => (h k b).elim Or.inl fun e1 => (g k b).elim Or.inl fun e2 => Or.inr (e2.trans e1)
theorem PR.put {I I' : Nat → Nat → Int32} (h : PR I I') {q : Nat} (hq : fk q) (b : Nat) (v : Int32) : PR I (u2 I' q b v) := fun k c => by
  by_cases y : k = q
  · exact Or.inl (y ▸ hq)
  · exact (h k c).elim Or.inl fun e => Or.inr ((if_neg (fun z => y z.1)).trans e)
theorem PR.at {I I' : Nat → Nat → Int32} (h : PR I I') (k b : Nat) (hk : ¬ fk k) : I' k b = I k b := (h k b).resolve_left hk
theorem fk_no {k : Nat} (h : k ≠ 384 ∧ k ≠ 385 ∧ k ≠ 427 ∧ k ≠ 428) : ¬ fk k := fun q => by
  unfold fk at q
  omega
section RDRAW
variable {I : Nat → Nat → Int32} {J : Nat → Nat → Int64} {A : Nat → Nat → Int32} {M : zM} {G : zG} {hp dl : Nat → Nat}
/-- hands as they are within their lengths -/
def RW (M : zM) (a1 : Nat) (A A' : Nat → Nat → Int32) : Prop := ∀ b, b ≠ a1 → ∀ i, i < mL M b → A' b i = A b i
end RDRAW

/-! ===== PURE, THE REFERENCE: lists grow, shrink ===== -/
theorem j_max (a b : Nat) (ha : a < 2 ^ 31) (hb : b < 2 ^ 31) (M : zM) : f_J9_max_7cf53 (nI a) (nI b) M = some (nI (if a < b then b else a), M) := by
  unfold f_J9_max_7cf53 f_J9_max_7cf53_0
  by_cases y : a < b
  · rw [if_pos (lt_t a b y hb), if_pos y]
  · rw [if_neg (lt_f a b (by omega) (by omega)), if_neg y]
theorem j_min (a b : Nat) (ha : a < 2 ^ 31) (hb : b < 2 ^ 31) (M : zM) : f_J9_min_7cf53 (nI a) (nI b) M = some (nI (if b < a then b else a), M) := by
  rw [q_min]
  by_cases y : b < a
  · rw [if_pos (lt_t b a y ha), if_pos y]
  · rw [if_neg (lt_f b a (by omega) (by omega)), if_neg y]
theorem j_newLength (a b c : Nat) (ha : 0 < a) (h : a + b + c < 2 ^ 30) (M : zM) : f_J8_newLength_cabcc (nI a) (nI b) (nI c) M = some (nI (a + (if b < c then c else b)), M) := by
  have hm : (if b < c then c else b) < 2 ^ 30 - a := by split <;> omega
  unfold f_J8_newLength_cabcc f_J8_newLength_cabcc_0
  rw [j_max b c (by omega) (by omega), Option.bind_some]
  generalize (if b < c then c else b) = m at *
  show (if nI a + nI m ≤ 0 then _ else _) = _
  rw [nI_add, if_neg (le_f (y := 0) (a + m) 0 (by omega) (by omega)), if_neg (lt_f (x := 2147483639) 2147483639 (a + m) (by omega) (by decide))]
/-- a row of references put in the place of a list's -/
def GR (M M' : zM) (l c : Nat) (r : Nat → Option Nat) : Prop := mX M' = mX M + 1 ∧ mS M' = mS M + c ∧ mK M' = u1 (mK M) (mX M) 110 ∧ mL M' = u1 (mL M) (mX M) c ∧ mR M' = u2 (mR M) 161 l (some (mX M)) ∧ mQ M' = ur (mQ M) (mX M) r
section LIST
variable {I : Nat → Nat → Int32} {J : Nat → Nat → Int64} {A : Nat → Nat → Int32} {M : zM} {l d n : Nat}
theorem aQ_cs {c : Nat} (hc : c ≤ 100000) (t : Nat) : aQ t (cs I J A M) (nI c) = some (mX M, cs I J A (nQ M t c)) := by
  have e : aQ t (cs I J A M) (nI c) = some (mX M, nQ (cs I J A M) t (nI c).toNatClampNeg) := if_pos ⟨nI_nn (by omega), by rw [nI_cl (by omega)]; exact hc⟩
  rw [e, nI_cl (by omega)]
  rfl
theorem aA_cs {c : Nat} (hc : c ≤ 100000) (t : Nat) : aA t (cs I J A M) (nI c) = some (mX M, cs I J (ur A (mX M) fun _ => 0) (nA M t c)) := by
  have e : aA t (cs I J A M) (nI c) = some (mX M, nA (cs I J A M) t (nI c).toNatClampNeg) := if_pos ⟨nI_nn (by omega), by rw [nI_cl (by omega)]; exact hc⟩
  rw [e, nI_cl (by omega)]
  rfl
/-- one more in a list: what it is then -/
def AD (M M' : zM) (l d d' n x : Nat) : Prop :=
  (mX M ≤ mX M' ∧ mX M' ≤ mX M + 1 ∧ mS M' ≤ mS M + 100) ∧ mR M' 161 l = some d' ∧ (mK M' d' = 110 ∧ n + 1 ≤ mL M' d' ∧ mL M' d' ≤ 1000 ∧ d' < mX M') ∧ mQ M' d' n = some x ∧ (∀ j, j < n → mQ M' d' j = mQ M d j) ∧ ((d' = d ∧ mK M d = 110) ∨ d' = mX M) ∧ ∀ b, b < mX M → mK M' b = mK M b ∧ mL M' b = mL M b ∧ (∀ k, (k ≠ 161 ∨ b ≠ l) → mR M' k b = mR M k b) ∧ (b ≠ d' → mQ M' b = mQ M b)
end LIST

/-! ===== PURE, THE REFERENCE: what a longer list leaves; a tile goes into the river ===== -/
theorem u2_at {α : Type} (f : Nat → Nat → α) (k a : Nat) (v : α) : u2 f k a v k a = v := if_pos ⟨rfl, rfl⟩
theorem isL_lt {l : Nat} (h : isL l) : 1030 ≤ l ∧ l ≤ 1043 := by
  obtain ⟨p, hp, q⟩ := h
  omega
section ADD
variable {I I' : Nat → Nat → Int32} {J : Nat → Nat → Int64} {A : Nat → Nat → Int32} {M M' : zM} {G : zG} {hp dl : Nat → Nat} {l l' d d' d2 n n2 x : Nat} {v v' : Nat → Nat}
theorem AD.ne (a : AD M M' l d d' n x) {b : Nat} (hb : b < mX M) (hk : mK M b ≠ 110) : b ≠ d' := fun e => by
  rcases a.2.2.2.2.2.1 with ⟨q1, q2⟩ | q
  · exact hk (by rw [e, q1]; exact q2)
  · omega
theorem RNv.ad (h : RNv I M l' d2 n2 v) (a : AD M M' l d d' n x) (hne : d2 ≠ d') (hd2 : d2 < mX M) (hI : I' 162 l' = I 162 l') (hI2 : ∀ o, mK M o = 11 → o < mX M → I' 352 o = I 352 o ∧ I' 353 o = I 353 o) : RNv I' M' l' d2 n2 v := by
  obtain ⟨h1, h2, h3, h4⟩ := h
  have e := a.2.2.2.2.2.2 d2 hd2
  refine ⟨hI.trans h1, h2, fun z => by rw [e.2.1]; exact h3 z, fun j hj => ?_⟩
  obtain ⟨o, o1, o2, o3, o4, o5⟩ := h4 j hj
  obtain ⟨i1, i2⟩ := hI2 o o2 o3
  exact ⟨o, by rw [e.2.2.2 hne]; exact o1, (a.2.2.2.2.2.2 o o3).1.trans o2, Nat.lt_of_lt_of_le o3 a.1.1, i1.trans o4, i2.trans o5⟩
theorem RNr.ad (h : RNr I M l' d2 n2 v) (a : AD M M' l d d' n x) (hne : d2 ≠ d') (hd2 : d2 < mX M) (hI : I' 162 l' = I 162 l') : RNr I' M' l' d2 n2 v := by
  obtain ⟨h1, h2, h3, h4⟩ := h
  have e := a.2.2.2.2.2.2 d2 hd2
  exact ⟨hI.trans h1, h2, fun z => by rw [e.2.1]; exact h3 z, fun j hj => by rw [e.2.2.2 hne]; exact h4 j hj⟩
theorem RNr.add {k : Nat} (h : RNr I M l d n v) (a : AD M M' l d d' n (228 + k)) (hI : I' 162 l = nI (n + 1)) (hv : v' n = k) (hv2 : ∀ j, j < n → v' j = v j) (h4 : d' ≠ 4) : RNr I' M' l d' (n + 1) v' := by
  refine ⟨hI, fun e => absurd e h4, fun _ => a.2.2.1.2.1, fun j hj => ?_⟩
  by_cases y : j = n
  · rw [y, a.2.2.2.1, hv]
  · rw [a.2.2.2.2.1 j (by omega), h.2.2.2 j (by omega), hv2 j (by omega)]
theorem RNv.add (h : RNv I M l d n v) (a : AD M M' l d d' n x) (hI : I' 162 l = nI (n + 1)) (hI2 : ∀ o, mK M o = 11 → o < mX M → I' 352 o = I 352 o ∧ I' 353 o = I 353 o) (hv2 : ∀ j, j < n → v' j = v j) (h4 : d' ≠ 4) (hx : mK M' x = 11 ∧ x < mX M' ∧ I' 352 x = nI (v' n % 100) ∧ I' 353 x = nI (v' n / 100)) : RNv I' M' l d' (n + 1) v' := by
  refine ⟨hI, fun e => absurd e h4, fun _ => a.2.2.1.2.1, fun j hj => ?_⟩
  by_cases y : j = n
  · subst y
    exact ⟨x, a.2.2.2.1, hx⟩
  · obtain ⟨o, o1, o2, o3, o4, o5⟩ := h.2.2.2 j (by omega)
    obtain ⟨i1, i2⟩ := hI2 o o2 o3
    exact ⟨o, (a.2.2.2.2.1 j (by omega)).trans o1, (a.2.2.2.2.2.2 o o3).1.trans o2, Nat.lt_of_lt_of_le o3 a.1.1, by rw [i1, hv2 j (by omega)]; exact o4, by rw [i2, hv2 j (by omega)]; exact o5⟩
theorem lst_riv (G : zG) (k : Nat) : lst (gRiv G k) = k := by
  show u2 (eR G) (eS G 5) (eM G (eS G 5)) k (eS G 5) (u1 (eM G) (eS G 5) (eM G (eS G 5) + 1) (eS G 5) - 1) = k
  rw [u1_at]
  exact if_pos ⟨rfl, Nat.add_sub_cancel _ _⟩
end ADD

/-! ===== PURE, THE REFERENCE: iterators, open sets, draw, discard ===== -/
theorem vb_28 : ∀ k : Nat, k < 25 → vb_c (128 + k) = nI k := by decide +kernel
theorem KM.sI {c s : Nat} {M0 M : zM} {a : Nat} (h : KM c s M0 M) (ha : mX M0 ≤ a) (k : Nat) (v : Int32) : KM c s M0 (sI M k a v) :=
  ⟨h.1, fun b hb => by
    obtain ⟨h1, h2, h3, h4⟩ := h.2 b hb
    exact ⟨h1, h2, fun q => (if_neg (fun z => by have := z.2; omega)).trans (h3 q), h4⟩⟩
theorem KM.sR {c s : Nat} {M0 M : zM} {a : Nat} (h : KM c s M0 M) (ha : mX M0 ≤ a) (k : Nat) (v : Option Nat) : KM c s M0 (sR M k a v) :=
  ⟨h.1, fun b hb => by
    obtain ⟨h1, h2, h3, h4, h5, h6⟩ := h.2 b hb
    exact ⟨h1, h2, h3, h4, fun q => (if_neg (fun z => by have := z.2; omega)).trans (h5 q), h6⟩⟩
theorem KM.sA {c s : Nat} {M0 M : zM} {a : Nat} (h : KM c s M0 M) (ha : mX M0 ≤ a) (k : Nat) (v : Int32) : KM c s M0 (sA M a k v) :=
  ⟨h.1, fun b hb => by
    obtain ⟨h1, h2, h3, h4, h5, h6, h7⟩ := h.2 b hb
    exact ⟨h1, h2, h3, h4, h5, fun i hi => (if_neg (fun z => by have := z.1; omega)).trans (h6 i hi), h7⟩⟩
theorem KM.nO {c s : Nat} {M0 M : zM} (h : KM c s M0 M) (k n : Nat) : KM (c + 1) (s + n) M0 (nO M k n) :=
  ⟨⟨by have := h.1; show mX M0 ≤ mX M + 1; omega, by have := h.1; show mX M + 1 ≤ _; omega, by have := h.1; show mS M + n ≤ _; omega⟩, fun b hb => (h.2 b hb).tr ((SA.rf M b).nO (by have := h.1.1; omega) k n).sr⟩
theorem KM.nA {c s : Nat} {M0 M : zM} (h : KM c s M0 M) (k n : Nat) : KM (c + 1) (s + n) M0 (nA M k n) :=
  ⟨⟨by have := h.1; show mX M0 ≤ mX M + 1; omega, by have := h.1; show mX M + 1 ≤ _; omega, by have := h.1; show mS M + n ≤ _; omega⟩, fun b hb => (h.2 b hb).tr ((SA.rf M b).nA (by have := h.1.1; omega) k n).sr⟩
/-- a list of sets -/
def LV (M : zM) (l d N : Nat) (v : Nat → Nat) : Prop := (mK M l = 5 ∧ mR M 161 l = some d ∧ mI M 162 l = nI N ∧ l < mX M ∧ N ≤ 64) ∧ (0 < N → mK M d = 110 ∧ N ≤ mL M d ∧ mL M d ≤ 1000 ∧ d < mX M) ∧ ∀ j, j < N → ∃ o, mQ M d j = some o ∧ mK M o = 11 ∧ o < mX M ∧ mI M 352 o = nI (v j % 100) ∧ mI M 353 o = nI (v j / 100)
/-- a list of kinds -/
def LR (M : zM) (l d N : Nat) (v : Nat → Nat) : Prop := (mK M l = 5 ∧ mR M 161 l = some d ∧ mI M 162 l = nI N ∧ l < mX M ∧ N ≤ 64) ∧ (0 < N → mK M d = 110 ∧ N ≤ mL M d ∧ mL M d ≤ 1000 ∧ d < mX M) ∧ ∀ j, j < N → ∃ o, mQ M d j = some o ∧ mK M o = 303 ∧ o < mX M ∧ mI M 96 o = nI (v j)
theorem LV.km {M M' : zM} {l d N c s : Nat} {v : Nat → Nat} (h : LV M l d N v) (k : KM c s M M') : LV M' l d N v := by
  obtain ⟨⟨h1, h2, h3, h4, h5⟩, h6, h7⟩ := h
  have e := k.2 l h4
  refine ⟨⟨e.1.trans h1, (e.2.2.2.2.1 _).trans h2, (e.2.2.1 _).trans h3, Nat.lt_of_lt_of_le h4 k.1.1, h5⟩, fun q => ?_, fun j hj => ?_⟩
  · obtain ⟨a, b, c, d⟩ := h6 q
    have e := k.2 _ d
    exact ⟨e.1.trans a, by rw [e.2.1]; exact b, by rw [e.2.1]; exact c, Nat.lt_of_lt_of_le d k.1.1⟩
  · obtain ⟨o, o1, o2, o3, o4, o5⟩ := h7 j hj
    have ed := k.2 d (h6 (by omega)).2.2.2
    have eo := k.2 o o3
    exact ⟨o, by rw [ed.2.2.2.2.2.2]; exact o1, eo.1.trans o2, Nat.lt_of_lt_of_le o3 k.1.1, (eo.2.2.1 _).trans o4, (eo.2.2.1 _).trans o5⟩
theorem LR.km {M M' : zM} {l d N c s : Nat} {v : Nat → Nat} (h : LR M l d N v) (k : KM c s M M') : LR M' l d N v := by
  obtain ⟨⟨h1, h2, h3, h4, h5⟩, h6, h7⟩ := h
  have e := k.2 l h4
  refine ⟨⟨e.1.trans h1, (e.2.2.2.2.1 _).trans h2, (e.2.2.1 _).trans h3, Nat.lt_of_lt_of_le h4 k.1.1, h5⟩, fun q => ?_, fun j hj => ?_⟩
  · obtain ⟨a, b, c, d⟩ := h6 q
    have e := k.2 _ d
    exact ⟨e.1.trans a, by rw [e.2.1]; exact b, by rw [e.2.1]; exact c, Nat.lt_of_lt_of_le d k.1.1⟩
  · obtain ⟨o, o1, o2, o3, o4⟩ := h7 j hj
    have ed := k.2 d (h6 (by omega)).2.2.2
    have eo := k.2 o o3
    exact ⟨o, by rw [ed.2.2.2.2.2.2]; exact o1, eo.1.trans o2, Nat.lt_of_lt_of_le o3 k.1.1, (eo.2.2.1 _).trans o4⟩
section LISTS
variable {I : Nat → Nat → Int32} {J : Nat → Nat → Int64} {A : Nat → Nat → Int32} {M : zM} {G : zG} {hp dl : Nat → Nat}
end LISTS
/-- an iterator before the place c -/
def IT (M : zM) (it l c : Nat) : Prop := mK M it = 4 ∧ mR M 131 it = some l ∧ mI M 128 it = nI c ∧ mI M 130 it = mI M 160 l
section ITER
variable {M M0 : zM} {it l c d n : Nat}
end ITER

/-! ===== PURE, THE REFERENCE: draw, discard, call on the game ===== -/
/-- the shape stays -/
def ST (M M' : zM) : Prop := mX M ≤ mX M' ∧ ∀ b, b < mX M → mK M' b = mK M b ∧ mL M' b = mL M b ∧ (∀ k, mR M' k b = mR M k b) ∧ mQ M' b = mQ M b
theorem ST.rf (M : zM) : ST M M := ⟨Nat.le_refl _, fun _ _ => ⟨rfl, rfl, fun _ => rfl, rfl⟩⟩
theorem ST.nA (M : zM) (t n : Nat) : ST M (nA M t n) := ⟨Nat.le_succ _, fun b hb => ⟨if_neg (Nat.ne_of_lt hb), if_neg (Nat.ne_of_lt hb), fun _ => rfl, rfl⟩⟩
theorem ST.nO (M : zM) (t n : Nat) : ST M (nO M t n) := ⟨Nat.le_succ _, fun b hb => ⟨if_neg (Nat.ne_of_lt hb), rfl, fun _ => if_neg (Nat.ne_of_lt hb), rfl⟩⟩
theorem ST.km {M M' : zM} {c s : Nat} (h : KM c s M M') : ST M M' := ⟨h.1.1, fun b hb => ⟨(h.2 b hb).1, (h.2 b hb).2.1, (h.2 b hb).2.2.2.2.1, (h.2 b hb).2.2.2.2.2.2⟩⟩
section RST
variable {I I' : Nat → Nat → Int32} {J J' : Nat → Nat → Int64} {A A' : Nat → Nat → Int32} {M M' : zM} {G : zG} {hp dl : Nat → Nat}
theorem RNs.tr (h : RNs I A G) (hI : ∀ k, I' k 1026 = I k 1026) (hA : ∀ t, t < 100 → A' 1044 t = A 1044 t) : RNs I' A' G := by
  obtain ⟨s1, s2, s3, s4, s5, s6, s7, s8⟩ := h
  refine ⟨(hI _).trans s1, (hI _).trans s2, by rw [hI]; exact s3, (hI _).trans s4, (hI _).trans s5, fun z => ?_, fun z => by rw [hI]; exact s7 z, fun z => (hI _).trans (s8 z)⟩
  obtain ⟨a, b, c, k, hk, d⟩ := s6 z
  exact ⟨(hI _).trans a, (hI _).trans b, fun t ht => (hA t ht).trans (c t ht), k, hk, (hI _).trans d⟩
theorem gDraw_no (G : zG) (h : ¬ gCan G = true) : gDraw G = wS G 4 3 := if_neg h
/-- who called draws ahead of a discard -/
def WC (G : zG) : Prop := eS G 4 = 1 → eC G (eS G 5) = true → eS G 9 = 1
/-- whether a discard goes -/
def dOk (G : zG) (c : Nat) : Prop := eS G 4 = 1 ∧ eH G (eS G 5) c ≠ 0 ∧ (eC G (eS G 5) = true → c + 1 = eS G 8)
end RST

/-! ===== PURE, THE REFERENCE: call on the game ===== -/
theorem KM.ex {I I' : Nat → Nat → Int32} {J J' : Nat → Nat → Int64} {A A' : Nat → Nat → Int32} {M : zM} (hI : ∀ k b, b < mX M → I' k b = I k b) (hJ : ∀ k b, b < mX M → J' k b = J k b) (hA : ∀ b, b < mX M → ∀ i, i < mL M b → A' b i = A b i) : KM 0 0 (cs I J A M) (cs I' J' A' M) :=
  ⟨⟨Nat.le_refl _, Nat.le_refl _, Nat.le_refl _⟩, fun b hb => ⟨rfl, rfl, fun k => hI k b hb, fun k => hJ k b hb, fun _ => rfl, hA b hb, rfl⟩⟩
/-- whether a call goes -/
def cOk (G : zG) (c : Nat) : Bool := decide (eS G 4 = 1 ∧ opN G (eS G 5) = 0 ∧ eC G (eS G 5) = false ∧ eH G (eS G 5) c ≠ 0 ∧ wts (eN G (eS G 5)) (u1 (eH G (eS G 5)) c (eH G (eS G 5) c - 1)) ≠ 0)
section RCALL
variable {I : Nat → Nat → Int32} {J : Nat → Nat → Int64} {A : Nat → Nat → Int32} {M : zM} {G : zG} {hp dl : Nat → Nat}
theorem WF.cal (h : WF G) (p : Nat) : WF (gCal G p) := h
end RCALL

/-! ===== PURE, THE REFERENCE: sets that are laid, fours ===== -/
section RFOUR
variable {I : Nat → Nat → Int32} {J : Nat → Nat → Int64} {A : Nat → Nat → Int32} {M : zM} {G : zG} {hp dl : Nat → Nat}
/-- whether a four goes -/
def fOk (G : zG) (c : Nat) : Prop := eS G 4 = 1 ∧ eC G (eS G 5) = false ∧ 4 ≤ eH G (eS G 5) c ∧ gF4 G = true
theorem tlN3 (l k : Nat) : tlN 3 l k = if k = l then 4 else 0 := by
  unfold tlN
  rw [if_neg (by decide)]
  split <;> rfl
end RFOUR

/-! ===== PURE, THE REFERENCE: a tile leaves the river; who may claim; claim ===== -/
/-- one less in the river in turn -/
def gM1 (G : zG) : zG := (eS G, eH G, eN G, eV G, u1 (eM G) (eS G 5) (eM G (eS G 5) - 1), eR G, eD G, eC G)
section RCLAIM
variable {I : Nat → Nat → Int32} {J : Nat → Nat → Int64} {A : Nat → Nat → Int32} {M : zM} {G : zG} {hp dl : Nat → Nat}
theorem oMay_of (G : zG) (p w : Nat) (i : Int32) (h1 : eS G 4 = 2) (h2 : p ≠ eS G 5) (h3 : eC G p = false) : oMay G p w i = (if w = 1 then decide (p = (eS G 5 + 1) % 4) && crow (eH G p) (lst G) i else if w = 2 then decide (3 ≤ eH G p (lst G)) && gF4 G else decide (2 ≤ eH G p (lst G))) := by
  unfold oMay
  rw [decide_eq_true ⟨h1, h2, h3⟩, Bool.true_and]
theorem oMay_no (G : zG) (p w : Nat) (i : Int32) (h : ¬ (eS G 4 = 2 ∧ p ≠ eS G 5 ∧ eC G p = false)) : oMay G p w i = false := by
  unfold oMay
  rw [decide_eq_false h, Bool.false_and]
end RCLAIM

/-! ===== PURE, THE REFERENCE: claim on the game ===== -/
/-- what is taken of a kind after j steps -/
def ptN (w l j k : Nat) : Nat := if w = 1 then (if l ≤ k ∧ k < l + j then 1 else 0) else if k = l then j else 0
def ptT (w : Nat) : Nat := if w = 2 then 4 else 3
theorem ptN_end {w l k : Nat} (hw : w ≤ 2) : ptN w l (ptT w) k = tlN w l k := by
  unfold ptN tlN ptT
  by_cases y : w = 1
  · rw [if_pos y, if_pos y, if_neg (by omega : ¬ w = 2)]
    by_cases z : k < l
    · rw [if_neg (by omega), if_pos z]
    · by_cases u : l + 2 < k
      · rw [if_neg (by omega), if_neg z, if_pos u]
      · rw [if_pos (by omega), if_neg z, if_neg u]
  · rw [if_neg y, if_neg y]
    by_cases z : k = l
    · rw [if_pos z, if_pos z]
      by_cases u : w = 2
      · rw [if_pos u, if_neg (by omega)]
      · rw [if_neg u, if_pos (by omega)]
    · rw [if_neg z, if_neg z]
theorem ptN_0 (w l k : Nat) : ptN w l 0 k = 0 := by
  unfold ptN
  split
  · exact if_neg (by omega)
  · split <;> rfl
/-- the step j takes the kind -/
def ptK (w l j : Nat) : Nat := if w = 1 then l + j else l
theorem ptN_s (w l j k : Nat) : ptN w l (j + 1) k = ptN w l j k + (if k = ptK w l j then 1 else 0) := by
  unfold ptN ptK
  by_cases y : w = 1
  · rw [if_pos y, if_pos y, if_pos y]
    by_cases z : l ≤ k ∧ k < l + j
    · rw [if_pos z, if_pos (by omega), if_neg (by omega)]
    · rw [if_neg z]
      by_cases u : k = l + j
      · rw [if_pos (by omega), if_pos u]
      · rw [if_neg (by omega), if_neg u]
  · rw [if_neg y, if_neg y, if_neg y]
    by_cases z : k = l
    · rw [if_pos z, if_pos z, if_pos z]
    · rw [if_neg z, if_neg z, if_neg z]
theorem ptN_le {w l j k : Nat} (hj : j ≤ ptT w) : ptN w l j k ≤ ptN w l (ptT w) k := by
  unfold ptN
  split
  · split
    · rw [if_pos (by omega)]; exact Nat.le_refl _
    · exact Nat.zero_le _
  · split
    · exact hj
    · exact Nat.le_refl _
section RCLM
variable {I : Nat → Nat → Int32} {J : Nat → Nat → Int64} {A : Nat → Nat → Int32} {M : zM} {G : zG} {hp dl : Nat → Nat}
/-- the tile that is claimed, in the hand -/
def gC1 (G : zG) (p : Nat) : zG := (eS G, u2 (eH G) p (lst G) (eH G p (lst G) + 1), eN G, eV G, u1 (eM G) (eS G 5) (eM G (eS G 5) - 1), eR G, eD G, eC G)
end RCLM

/-! ===== PURE, THE REFERENCE: the value comes to an answer ===== -/
section RVAL
variable {I : Nat → Nat → Int32} {J : Nat → Nat → Int64} {A : Nat → Nat → Int32} {M : zM} {h : Nat}
/-- a recursive call on fewer tiles comes to an answer, and leaves the hand -/
def VSP (I : Nat → Nat → Int32) (J : Nat → Nat → Int64) (A : Nat → Nat → Int32) (M : zM) (h T : Nat) (RC : Nat → Nat → Int32 → Int32 → Int32 → Int32 → zM → Option (Int32 × zM)) : Prop :=
  ∀ (g : Nat → Nat) (w : Nat → Int32), (∀ k, k < 25 → w k = nI (g k)) → (∀ k, k < 25 → g k < 1000) → sn g 0 25 < T → ∀ i2 i3 i4 i5, ∃ v w', RC 1026 h i2 i3 i4 i5 (cs I J (ur A h w) M) = some (v, cs I J (ur A h w') M) ∧ ∀ k, k < 25 → w' k = w k
/-- three from a on, up or down, in a row -/
def b3 (w : Nat → Int32) (a : Nat) (x : Int32) : Nat → Int32 := u1 (u1 (u1 w a (w a + x)) (a + 1) (w (a + 1) + x)) (a + 2) (w (a + 2) + x)
theorem b3_at (w : Nat → Int32) (a : Nat) (x : Int32) (k : Nat) : b3 w a x k = if a ≤ k ∧ k ≤ a + 2 then w k + x else w k := by
  unfold b3
  by_cases y2 : k = a + 2
  · subst y2
    rw [u1_at, if_pos (by omega)]
  · rw [u1_ne _ _ y2]
    by_cases y1 : k = a + 1
    · subst y1
      rw [u1_at, if_pos (by omega)]
    · rw [u1_ne _ _ y1]
      by_cases y0 : k = a
      · subst y0
        rw [u1_at, if_pos (by omega)]
      · rw [u1_ne _ _ y0, if_neg (by omega)]
theorem sn_lr (g : Nat → Nat) {a : Nat} (ha : a + 2 < 25) (h0 : g a ≠ 0) (h1 : g (a + 1) ≠ 0) (h2 : g (a + 2) ≠ 0) : sn (lr g a) 0 25 + 3 = sn g 0 25 := by
  unfold lr
  have e1 := sn_u1 g a (g a - 1) 25 0 (Nat.zero_le _) (by omega)
  have e2 := sn_u1 (u1 g a (g a - 1)) (a + 1) (g (a + 1) - 1) 25 0 (Nat.zero_le _) (by omega)
  have e3 := sn_u1 (u1 (u1 g a (g a - 1)) (a + 1) (g (a + 1) - 1)) (a + 2) (g (a + 2) - 1) 25 0 (Nat.zero_le _) (by omega)
  rw [u1_ne g _ (show a + 1 ≠ a by omega)] at e2
  rw [u1_ne _ _ (show a + 2 ≠ a + 1 by omega), u1_ne g _ (show a + 2 ≠ a by omega)] at e3
  omega
end RVAL

/-! ===== PURE, THE REFERENCE: the value by all tiles ===== -/
theorem KM.sAr {c s : Nat} {M0 M : zM} {a : Nat} (h : KM c s M0 M) (ha : mX M0 ≤ a) (g : Nat → Int32) : KM c s M0 (sAr M a g) :=
  ⟨h.1, fun b hb => by
    obtain ⟨h1, h2, h3, h4, h5, h6, h7⟩ := h.2 b hb
    exact ⟨h1, h2, h3, h4, h5, fun i hi => (if_neg (fun z => by omega)).trans (h6 i hi), h7⟩⟩
theorem e_aA {M : zM} {c : Nat} (hc : c ≤ 100000) (t : Nat) : aA t M (nI c) = some (mX M, nA M t c) := by
  have e : aA t M (nI c) = some (mX M, nA M t (nI c).toNatClampNeg) := if_pos ⟨nI_nn (by omega), by rw [nI_cl (by omega)]; exact hc⟩
  rw [e, nI_cl (by omega)]
/-- a row of 25 numbers -/
def AR (M : zM) (x : Nat) : Prop := mK M x = 100 ∧ mL M x = 25 ∧ x < mX M
theorem AR.km {M M' : zM} {x c s : Nat} (h : AR M x) (k : KM c s M M') : AR M' x := ⟨(k.2 x h.2.2).1.trans h.1, (k.2 x h.2.2).2.1.trans h.2.1, Nat.lt_of_lt_of_le h.2.2 k.1.1⟩
section RTIL
variable {M M0 : zM} {P h l d N : Nat} {v : Nat → Nat}
/-- what the value by all tiles stands on -/
def VB (M : zM) (P h l d N : Nat) (v : Nat → Nat) (lk : Nat) : Prop := (mK M P = 12 ∧ mR M 386 P = some h ∧ mR M 387 P = some l ∧ P < mX M) ∧ AR M h ∧ LV M l d N v ∧ (∀ j, j < N → v j < 400) ∧ (mK M 1026 = 13 ∧ mI M 421 1026 = nI lk ∧ lk < 25 ∧ 1026 < mX M)
theorem VB.km {M' : zM} {lk c s : Nat} (h9 : VB M P h l d N v lk) (k : KM c s M M') : VB M' P h l d N v lk := by
  obtain ⟨⟨a1, a2, a3, a4⟩, b, c', d', ⟨e1, e2, e3, e4⟩⟩ := h9
  have kp := k.2 P a4
  have k6 := k.2 1026 e4
  exact ⟨⟨kp.1.trans a1, (kp.2.2.2.2.1 _).trans a2, (kp.2.2.2.2.1 _).trans a3, Nat.lt_of_lt_of_le a4 k.1.1⟩, b.km k, c'.km k, d', ⟨k6.1.trans e1, (k6.2.2.1 _).trans e2, e3, Nat.lt_of_lt_of_le e4 k.1.1⟩⟩
end RTIL

/-! ===== PURE, THE REFERENCE: the value ===== -/
section RVALU
variable {M M0 : zM} {P h l d N : Nat} {v : Nat → Nat}
theorem VB.nA {lk : Nat} (hb : VB M P h l d N v lk) (t n : Nat) : VB (nA M t n) P h l d N v lk := hb.km (((KM.rf M).nA t n))
theorem VB.row {I : Nat → Nat → Int32} {J : Nat → Nat → Int64} {A A' : Nat → Nat → Int32} {lk : Nat} (hb : VB (cs I J A M) P h l d N v lk) : VB (cs I J A' M) P h l d N v lk := hb
end RVALU

/-! ===== PURE, THE REFERENCE: who may win; win on the game ===== -/
/-- who has the turn in phase 1 has eleven; what was drawn is a kind; a round goes on -/
def WZ1 (G : zG) : Prop := eS G 4 = 1 → sn (eH G (eS G 5)) 0 25 + 3 * eN G (eS G 5) = 11
def W8 (G : zG) : Prop := eS G 9 ≠ 0 → eS G 8 ≠ 0
def WR (G : zG) : Prop := eS G 4 ≠ 3 → eS G 7 ≠ 0
def wOk (G : zG) (p : Nat) : Bool := if eS G 4 = 1 then oAlone G p else oByDis G p
section RWIN
variable {I : Nat → Nat → Int32} {J : Nat → Nat → Int64} {A : Nat → Nat → Int32} {M : zM} {G : zG} {hp dl : Nat → Nat}
/-- phase 3, whatever stood before -/
theorem RNs.fin {I' : Nat → Nat → Int32} {A' : Nat → Nat → Int32} {G' : zG} (h : RNs I A G) (hI : ∀ k, ¬ fk k → I' k 1026 = I k 1026) (hA : ∀ t, t < 100 → A' 1044 t = A 1044 t) (hG : eS G' = u1 (eS G) 4 3) : RNs (u2 I' 422 1026 3) A' G' := by
  obtain ⟨s1, s2, s3, s4, s5, s6, s7, s8⟩ := h
  have e : ∀ k, (k ≠ 384 ∧ k ≠ 385 ∧ k ≠ 427 ∧ k ≠ 428) → I' k 1026 = I k 1026 := fun k hk => hI k (fk_no hk)
  have gk : ∀ t, gK G' t = gK G t := fun t => by unfold gK; rw [hG]; rfl
  unfold RNs
  rw [hG]
  refine ⟨rfl, (e _ (by decide)).trans s2, ?_, (e _ (by decide)).trans s4, (e _ (by decide)).trans s5, fun z => ?_, fun z => absurd z (show ¬ (3 : Nat) = 1 by decide), fun z => absurd z (show ¬ (3 : Nat) = 2 by decide)⟩
  · show I' 424 1026 + 1 = _
    rw [e _ (by decide)]
    exact s3
  · obtain ⟨a, b, c, k, hk, d⟩ := s6 z
    exact ⟨(e _ (by decide)).trans a, (e _ (by decide)).trans b, fun t ht => by rw [gk, hA t ht]; exact c t ht, k, hk, (e _ (by decide)).trans d⟩
end RWIN

/-! ===== PURE, THE REFERENCE: win, claim, as they are called ===== -/
section RTOP
variable {I : Nat → Nat → Int32} {J : Nat → Nat → Int64} {A : Nat → Nat → Int32} {M : zM} {G : zG} {hp dl : Nat → Nat}
end RTOP

/-! ===== PURE, THE REFERENCE: lay on the game ===== -/
/-- a list is emptied -/
def CL (M M' : zM) (d n : Nat) : Prop := (mK M' = mK M ∧ mL M' = mL M ∧ mR M' = mR M ∧ mX M' = mX M ∧ mS M' = mS M) ∧ (∀ b, b ≠ d → mQ M' b = mQ M b) ∧ (n = 0 → M' = M)
section RLAY
variable {I : Nat → Nat → Int32} {J : Nat → Nat → Int64} {A : Nat → Nat → Int32} {M : zM} {G : zG} {hp dl : Nat → Nat}
end RLAY

/-! ===== PURE, THE REFERENCE: lay, as it is called ===== -/
/-- the lucky kind behind a kind -/
def lkN (k : Nat) : Nat := if 18 ≤ k then (if k = 21 then 18 else if k = 24 then 22 else k + 1) else if k % 9 = 8 then k - 8 else k + 1
theorem lkN_lt {k : Nat} (h : k < 25) : lkN k < 25 := by
  unfold lkN
  repeat' split
  all_goals omega
section RLAY2
variable {I : Nat → Nat → Int32} {J : Nat → Nat → Int64} {A : Nat → Nat → Int32} {M : zM} {G : zG} {hp dl : Nat → Nat}
theorem gK_wH (G : zG) (p k v t : Nat) : gK (wH G p k v) t = gK G t := rfl
theorem gClr_gK (G : zG) (p t : Nat) : gK (gClr G p) t = gK G t := rfl
theorem gDeal_gK (p d i t : Nat) (G : zG) : gK (gDeal p d i G) t = gK G t := by
  unfold gK
  rw [gDeal_S]
theorem gDeal_NM (p : Nat) : ∀ (d i : Nat) (G : zG), eN (gDeal p d i G) = eN G ∧ eM (gDeal p d i G) = eM G := by
  intro d
  induction d with
  | zero => exact fun _ _ => ⟨rfl, rfl⟩
  | succ d ih => exact fun i G => ih (i + 1) _
/-- what may not be laid -/
def laB (i1 i2 : Int32) : Prop := i1 < 0 ∨ i1.toNatClampNeg = 0 ∨ 100 ≤ i1.toNatClampNeg ∨ i1.toNatClampNeg % 2 = 0 ∨ i1.toNatClampNeg % 5 = 0 ∨ i2 < 0 ∨ 100 ≤ i2.toNatClampNeg
end RLAY2

/-! ===== PURE, THE REFERENCE: far comes to an answer ===== -/
theorem sn_lt (f g : Nat → Nat) (a : Nat) : ∀ (d i : Nat), (∀ k, f k ≤ g k) → i ≤ a → a < i + d → f a < g a → sn f i d < sn g i d := by
  intro d
  induction d with
  | zero => intro i _ h1 h2 _; omega
  | succ d ih =>
    intro i hle h1 h2 h3
    have hi := hle i
    rw [sn, sn]
    by_cases y : a = i
    · have : sn f (i + 1) d ≤ sn g (i + 1) d := by
        have mono : ∀ d i, sn f i d ≤ sn g i d := by
          intro d
          induction d with
          | zero => exact fun i => Nat.le_refl _
          | succ d ih2 => intro i; rw [sn, sn]; exact Nat.add_le_add (hle i) (ih2 (i + 1))
        exact mono d (i + 1)
      rw [y] at h3
      omega
    · have := ih (i + 1) hle (by omega) (by omega) h3
      omega
/-- how many of three are it -/
def ct3 (a b c k : Nat) : Nat := (if k = a then 1 else 0) + (if k = b then 1 else 0) + (if k = c then 1 else 0)
theorem ct3_le (a b c k : Nat) : ct3 a b c k ≤ 3 := by
  unfold ct3
  repeat' split
  all_goals omega
theorem dn3 (w : Nat → Int32) (a b c k : Nat) (hk : k < 25) (x : Nat) (hx : w k = nI x) : (if c < 25 then u1 (u1 (u1 w a (w a - 1)) b (u1 w a (w a - 1) b - 1)) c (u1 (u1 w a (w a - 1)) b (u1 w a (w a - 1) b - 1) c - 1) k else u1 (u1 w a (w a - 1)) b (u1 w a (w a - 1) b - 1) k) = nI x - nI (ct3 a b c k) := by
  have n0 : nI 0 = 0 := rfl
  have n1 : nI 1 = 1 := rfl
  have n2 : nI 2 = 2 := rfl
  have n3 : nI 3 = 3 := rfl
  unfold ct3 u1
  by_cases h1 : k = a <;> by_cases h2 : k = b <;> by_cases h3 : k = c <;> by_cases h4 : c < 25 <;> simp only [h4, if_true, if_false] <;> first | (subst h1; subst h2; subst h3) | (subst h1; subst h2) | (subst h1; subst h3) | (subst h2; subst h3) | subst h1 | subst h2 | subst h3 | skip
  all_goals simp_all
  all_goals grind
theorem up3 (w : Nat → Int32) (a b c k : Nat) (hk : k < 25) (x : Nat) (hx : w k = nI x - nI (ct3 a b c k)) : (if c < 25 then u1 (u1 (u1 w a (w a + 1)) b (u1 w a (w a + 1) b + 1)) c (u1 (u1 w a (w a + 1)) b (u1 w a (w a + 1) b + 1) c + 1) k else u1 (u1 w a (w a + 1)) b (u1 w a (w a + 1) b + 1) k) = nI x := by
  have n0 : nI 0 = 0 := rfl
  have n1 : nI 1 = 1 := rfl
  have n2 : nI 2 = 2 := rfl
  have n3 : nI 3 = 3 := rfl
  unfold ct3 at hx
  unfold u1
  by_cases h1 : k = a <;> by_cases h2 : k = b <;> by_cases h3 : k = c <;> by_cases h4 : c < 25 <;> simp only [h4, if_true, if_false] <;> first | (subst h1; subst h2; subst h3) | (subst h1; subst h2) | (subst h1; subst h3) | (subst h2; subst h3) | subst h1 | subst h2 | subst h3 | skip
  all_goals simp_all
  all_goals grind
section RFAR
variable {I : Nat → Nat → Int32} {J : Nat → Nat → Int64} {A : Nat → Nat → Int32} {M : zM} {h : Nat}
/-- a recursive call on fewer tiles comes to an answer, and leaves the hand -/
def FSP (I : Nat → Nat → Int32) (J : Nat → Nat → Int64) (A : Nat → Nat → Int32) (M : zM) (h T : Nat) (RC : Nat → Int32 → Int32 → Int32 → Int32 → zM → Option (Int32 × zM)) : Prop :=
  ∀ (g : Nat → Nat) (w : Nat → Int32), (∀ k, k < 25 → w k = nI (g k)) → (∀ k, k < 25 → g k < 1000) → sn g 0 25 < T → ∀ i, i < 26 → ∀ s t p, ∃ v w', RC h (nI i) s t p (cs I J (ur A h w) M) = some (v, cs I J (ur A h w') M) ∧ ∀ k, k < 25 → w' k = w k
/-- any of the later steps comes to an answer -/
def FAN (I : Nat → Nat → Int32) (J : Nat → Nat → Int64) (A : Nat → Nat → Int32) (M : zM) (h : Nat) (g : Nat → Nat) (f : Nat → Int32 → Int32 → Int32 → Int32 → Int32 → zM → Option (Int32 × zM)) (a : Nat) : Prop :=
  ∀ (s t p x : Int32) (w : Nat → Int32), (∀ k, k < 25 → w k = nI (g k)) → ∃ v w', f h s t p (nI a) x (cs I J (ur A h w) M) = some (v, cs I J (ur A h w') M) ∧ ∀ k, k < 25 → w' k = nI (g k)
end RFAR

/-! ===== PURE, THE REFERENCE: far comes to an answer, 2 ===== -/
section RFAR2
variable {I : Nat → Nat → Int32} {J : Nat → Nat → Int64} {A : Nat → Nat → Int32} {M : zM} {h : Nat}
section STEPS
variable {T : Nat} {RC : Nat → Int32 → Int32 → Int32 → Int32 → zM → Option (Int32 × zM)} {a : Nat} {g : Nat → Nat}
end STEPS
end RFAR2

/-! ===== PURE, THE REFERENCE: what is asked ===== -/
/-- it comes to an answer, what is thrown apart all is as it was, but for some cells more -/
def RQ {α : Type} (c s : Nat) (I : Nat → Nat → Int32) (J : Nat → Nat → Int64) (A : Nat → Nat → Int32) (M : zM) (x : Option (α × zM)) : Prop := ∃ v w M', x = some (v, M') ∧ KM c s (cs (th w I) J A M) M'
theorem RQ.of {α : Type} {I : Nat → Nat → Int32} {J : Nat → Nat → Int64} {A : Nat → Nat → Int32} {M : zM} {x : Option (α × zM)} {v : α} (w : Int32) (e : x = some (v, cs (th w I) J A M)) : RQ 0 0 I J A M x := ⟨v, w, _, e, KM.rf _⟩
theorem RQ.w {α : Type} {c s c' s' : Nat} {I : Nat → Nat → Int32} {J : Nat → Nat → Int64} {A : Nat → Nat → Int32} {M : zM} {x : Option (α × zM)} (h : RQ c s I J A M x) (hc : c ≤ c') (hs : s ≤ s') : RQ c' s' I J A M x := by
  obtain ⟨v, w, M', e, k⟩ := h
  exact ⟨v, w, M', e, k.w hc hs⟩
section RASK
variable {I : Nat → Nat → Int32} {J : Nat → Nat → Int64} {A : Nat → Nat → Int32} {M : zM} {G : zG} {hp dl : Nat → Nat}
/-- no player -/
abbrev pBad (i : Int32) : Prop := i < 0 ∨ 4 ≤ i.toNatClampNeg
theorem pBad_no {i : Int32} (h : ¬ pBad i) : ∃ p, p < 4 ∧ i = nI p := by
  rcases nI_all i with z | ⟨n, z1, z2⟩
  · exact absurd (Or.inl z) h
  · refine ⟨n, Nat.lt_of_not_le fun q => h (Or.inr ?_), z2⟩
    rw [z2, nI_cl z1]
    exact q
/-- whether a discard of a kind is safe against those from i on -/
def sfN (G : zG) (p k : Nat) : Nat → Nat → Bool
  | 0, _ => true
  | d + 1, i => if i = p then sfN G p k d (i + 1) else if eC G i = false then sfN G p k d (i + 1) else if (eD G i >>> ((nI k).toInt64 &&& 63)) &&& 1 = 0 then false else sfN G p k d (i + 1)
theorem e_hI {M : zM} {c k a : Nat} (q : Nat) (hk : mK M a = c ∨ mK M a = 300 + c) (hq : 32 * c + k = q := by rfl) : hI c k M a = some (mI M q a) := by
  subst hq
  exact if_pos hk
end RASK

/-! ===== PURE, THE REFERENCE: what lies ===== -/
/-- how many of a kind lie of one player, of all -/
def snP (G : zG) (p k : Nat) : Nat := sn (fun j => tlN (eV G p j / 100) (eV G p j % 100) k) 0 (eN G p) + sn (fun j => if eR G p j = k then 1 else 0) 0 (eM G p)
def snA (G : zG) (k : Nat) : Nat → Nat → Nat
  | 0, _ => 0
  | d + 1, i => snP G i k + snA G k d (i + 1)
section RSEEN
variable {M M0 : zM} {l d N : Nat} {v : Nat → Nat}
end RSEEN
section RSEEN2
variable {I : Nat → Nat → Int32} {J : Nat → Nat → Int64} {A : Nat → Nat → Int32} {M : zM} {G : zG} {hp dl : Nat → Nat}
end RSEEN2

/-! ===== PURE, THE REFERENCE: what is asked, 2 ===== -/
section RASK2
variable {M M0 : zM} {G : zG} {hp dl : Nat → Nat}
/-- the conditions under which all is asked -/
def WQ (G : zG) : Prop := WF G ∧ WV G ∧ WD G ∧ (eS G 7 = 0 → ∀ p, p < 4 → sn (eH G p) 0 25 + 3 * eN G p = 0) ∧ WZ G
theorem hand_sum (hw : WF G) {p : Nat} (hp4 : p < 4) : sn (eH G p) 0 25 ≤ 100 := sn_le (eH G p) 4 25 0 (fun k _ q => (hw.2.2.2.2.2.2.2.2.2.2 p hp4).1 k (by omega))
end RASK2

/-! ===== PURE, THE REFERENCE: what is asked, 3: many, lead, worth, best, outs ===== -/
section RASK3
variable {M M0 : zM} {G : zG} {hp dl : Nat → Nat}
theorem wH_back (G : zG) (p k v : Nat) : wH (wH G p k v) p k (eH G p k) = G := by
  have e : u2 (u2 (eH G) p k v) p k (eH G p k) = eH G := by
    funext i j
    unfold u2
    by_cases z : i = p ∧ j = k
    · rw [if_pos z, z.1, z.2]
    · rw [if_neg z, if_neg z]
  show (eS G, u2 (u2 (eH G) p k v) p k (eH G p k), G.2.2) = G
  rw [e]
  rfl
end RASK3

/-! ===== PURE, THE REFERENCE: the digest ===== -/
section RDIG
variable {M M0 M1 : zM} {G : zG} {hp dl : Nat → Nat} {l d N : Nat} {v : Nat → Nat}
end RDIG

