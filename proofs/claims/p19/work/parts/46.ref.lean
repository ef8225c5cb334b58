/-! ===== PURE, THE REFERENCE: its steps; what stays of a memory; tiles, complete hands, waits ===== -/
section STEP
variable {M : zM} {c k a b i t : Nat}
theorem e_gI (q : Nat) (hk : mK M a = c) (hq : 32 * c + k = q := by rfl) : gI c k M a = some (mI M q a) := by
  subst hq
  exact if_pos hk
theorem e_gJ (q : Nat) (hk : mK M a = c) (hq : 32 * c + k = q := by rfl) : gJ c k M a = some (mJ M q a) := by
  subst hq
  exact if_pos hk
theorem e_gR {v : Nat} (q : Nat) (hk : mK M a = c) (hv : mR M q a = some v) (hq : 32 * c + k = q := by rfl) : gR c k M a = some v := by
  subst hq
  exact (if_pos hk).trans hv
theorem e_pI {v : Int32} (q : Nat) (hk : mK M a = c) (hq : 32 * c + k = q := by rfl) : pI c k M a v = some (sI M q a v) := by
  subst hq
  exact if_pos hk
theorem e_pJ {v : Int64} (q : Nat) (hk : mK M a = c) (hq : 32 * c + k = q := by rfl) : pJ c k M a v = some (sJ M q a v) := by
  subst hq
  exact if_pos hk
theorem e_pR {v : Nat} (q : Nat) (hk : mK M a = c) (hq : 32 * c + k = q := by rfl) : pR c k M a v = some (sR M q a (some v)) := by
  subst hq
  exact if_pos hk
theorem e_pZ {v : Int32} (q : Nat) (hk : mK M a = c) (hv : v = 0 ∨ v = 1) (hq : 32 * c + k = q := by rfl) : pZ c k M a v = some (sI M q a v) := by
  subst hq
  exact if_pos ⟨hk, hv⟩
theorem e_lA (hk : mK M b = 100) (hi : i < mL M b) (hL : mL M b < 2 ^ 31) : lA 0 M b (nI i) = some (mA M b i) := lA_cs (I := mI M) (J := mJ M) (A := mA M) hk hi hL
theorem e_tA {v : Int32} (hk : mK M b = 100) (hi : i < mL M b) (hL : mL M b < 2 ^ 31) : tA M b (nI i) v = some (sA M b i v) := tA_cs (I := mI M) (J := mJ M) (A := mA M) hk hi hL
theorem e_lQ {v : Nat} (ht : t < 3) (hk : mK M b = 110 + t) (hi : i < mL M b) (hL : mL M b < 2 ^ 31) (hv : mQ M b i = some v) : lQ t M b (nI i) = some v := lQ_cs (I := mI M) (J := mJ M) (A := mA M) ht hk hi hL hv
theorem e_tQ {v : Option Nat} (hk : mK M b = 110 + t) (hi : i < mL M b) (hL : mL M b < 2 ^ 31) : tQ t M b (nI i) v = some (sQ M b i v) := by
  have e : tQ t M b (nI i) v = some (sQ M b (nI i).toNatClampNeg v) := if_pos ⟨hk, nI_oob hi hL⟩
  rw [e, nI_cl (by omega)]
theorem e_gL {n : Nat} (hk : zrow (mK M b)) (hn : mL M b = n) : gL M b = some (nI n) := by
  subst hn
  exact if_pos hk
end STEP
/-- rows within their lengths, and all fields -/
def SR (M M' : zM) (b : Nat) : Prop := mK M' b = mK M b ∧ mL M' b = mL M b ∧ (∀ k, mI M' k b = mI M k b) ∧ (∀ k, mJ M' k b = mJ M k b) ∧ (∀ k, mR M' k b = mR M k b) ∧ (∀ i, i < mL M b → mA M' b i = mA M b i) ∧ mQ M' b = mQ M b
theorem SA.sr {M M' : zM} {b : Nat} (h : SA M M' b) : SR M M' b := ⟨h.1, h.2.1, h.2.2.1, h.2.2.2.1, h.2.2.2.2.1, fun i _ => congrFun h.2.2.2.2.2.1 i, h.2.2.2.2.2.2⟩
theorem SR.rf (M : zM) (b : Nat) : SR M M b := (SA.rf M b).sr
theorem SR.tr {M M1 M2 : zM} {b : Nat} (h : SR M M1 b) (g : SR M1 M2 b) : SR M M2 b := ⟨g.1.trans h.1, g.2.1.trans h.2.1, fun k => (g.2.2.1 k).trans (h.2.2.1 k), fun k => (g.2.2.2.1 k).trans (h.2.2.2.1 k), fun k => (g.2.2.2.2.1 k).trans (h.2.2.2.2.1 k), fun i hi => (g.2.2.2.2.2.1 i (by rw [h.2.1]; exact hi)).trans (h.2.2.2.2.2.1 i hi), g.2.2.2.2.2.2.trans h.2.2.2.2.2.2⟩
/-- all that was there is as it was; at most so many cells and slots more -/
def KM (c s : Nat) (M M' : zM) : Prop := (mX M ≤ mX M' ∧ mX M' ≤ mX M + c ∧ mS M' ≤ mS M + s) ∧ ∀ b, b < mX M → SR M M' b
theorem KM.rf (M : zM) : KM 0 0 M M := ⟨⟨Nat.le_refl _, Nat.le_refl _, Nat.le_refl _⟩, fun b _ => SR.rf M b⟩
theorem KM.tr {c s c' s' : Nat} {M M1 M2 : zM} (h : KM c s M M1) (g : KM c' s' M1 M2) : KM (c + c') (s + s') M M2 :=
  ⟨⟨by have := h.1.1; have := g.1.1; omega, by have := h.1.2.1; have := g.1.2.1; omega, by have := h.1.2.2; have := g.1.2.2; omega⟩, fun b hb => (h.2 b hb).tr (g.2 b (Nat.lt_of_lt_of_le hb h.1.1))⟩
theorem KM.w {c s c' s' : Nat} {M M1 : zM} (h : KM c s M M1) (hc : c ≤ c') (hs : s ≤ s') : KM c' s' M M1 :=
  ⟨⟨h.1.1, by have := h.1.2.1; omega, by have := h.1.2.2; omega⟩, h.2⟩
theorem KM.t0 {c s : Nat} {M M1 M2 : zM} (h : KM c s M M1) (g : KM 0 0 M1 M2) : KM c s M M2 := h.tr g
/-- a row of numbers written over with the same -/
theorem KM_ur {I : Nat → Nat → Int32} {J : Nat → Nat → Int64} {A : Nat → Nat → Int32} {M : zM} {h : Nat} {w w' : Nat → Int32} (hw : ∀ k, k < mL M h → w' k = w k) : KM 0 0 (cs I J (ur A h w) M) (cs I J (ur A h w') M) :=
  ⟨⟨Nat.le_refl _, Nat.le_refl _, Nat.le_refl _⟩, fun b _ => ⟨rfl, rfl, fun _ => rfl, fun _ => rfl, fun _ => rfl, fun i hi => by
    show ur A h w' b i = ur A h w b i
    by_cases q : b = h
    · subst q
      rw [ur_at, ur_at]
      exact hw i hi
    · rw [ur_ne _ _ _ q, ur_ne _ _ _ q], rfl⟩⟩
/-- a player, its hand, its sets -/
def PS (M : zM) (P h l : Nat) : Prop := (mK M P = 12 ∧ mR M 386 P = some h ∧ mR M 387 P = some l) ∧ (mK M h = 100 ∧ mL M h = 25) ∧ mK M l = 5
section HAND
variable {I : Nat → Nat → Int32} {J : Nat → Nat → Int64} {A : Nat → Nat → Int32} {M : zM} {P h l : Nat}
theorem r_tiles_13 (hk : mK M h = 100) (hl : mL M h = 25) {g : Nat → Nat} (hw : ∀ k, k < 25 → A h k = nI (g k)) : ∀ (d n i v : Nat), i + d = 25 → d < n → f_X6_tiles_13 n (nI v) h (nI 25) (nI i) (cs I J A M) = some (nI (v + sn g i d), cs I J A M) := by
  intro d
  induction d with
  | zero =>
    intro n i v hi hn
    obtain ⟨n, rfl⟩ : ∃ m, n = m + 1 := ⟨n - 1, by omega⟩
    rw [f_X6_tiles_13, if_pos (le_t 25 i (by omega) (by omega))]
    rfl
  | succ d ih =>
    intro n i v hi hn
    obtain ⟨n, rfl⟩ : ∃ m, n = m + 1 := ⟨n - 1, by omega⟩
    rw [f_X6_tiles_13, if_neg (le_f 25 i (by omega) (by decide)), lA_cs hk (by omega) (by omega), Option.bind_some, hw i (by omega), nI_add, nI_1, ih n (i + 1) _ (by omega) (by omega), sn, Nat.add_assoc]
theorem r_tiles (hp : PS M P h l) {g : Nat → Nat} (hw : ∀ k, k < 25 → A h k = nI (g k)) : f_X6_tiles P (cs I J A M) = some (nI (sn g 0 25), cs I J A M) := by
  obtain ⟨⟨p1, p2, p3⟩, ⟨h1, h2⟩, l1⟩ := hp
  unfold f_X6_tiles f_X6_tiles_0
  rw [gR_cs 386 p1 p2, Option.bind_some, gL_cs h1 h2, Option.bind_some]
  have e := r_tiles_13 (I := I) (J := J) (A := A) h1 h2 hw 25 zN 0 0 rfl (by decide)
  rw [Nat.zero_add] at e
  exact e
theorem r_complete_2 (hk : mK M h = 100) (hl : mL M h = 25) {S N : Nat} (hS : N + S = 3) {g : Nat → Nat} (hg : ∀ k, k < 25 → g k < 900) (hs : sn g 0 25 = 3 * S + 2) : ∀ (d n i : Nat) (w : Nat → Int32), i + d = 25 → d < n → (∀ k, k < 25 → w k = nI (g k)) → ∃ w', f_X7_isComplete_2 n h (nI N) (nI i) (cs I J (ur A h w) M) = some (b32 (cmp d i g), cs I J (ur A h w') M) ∧ ∀ k, k < 25 → w' k = w k := by
  intro d
  induction d with
  | zero =>
    intro n i w hi hn hw
    obtain ⟨n, rfl⟩ : ∃ m, n = m + 1 := ⟨n - 1, by omega⟩
    refine ⟨w, ?_, fun _ _ => rfl⟩
    rw [f_X7_isComplete_2, if_pos (le_t (x := 25) 25 i (by omega) (by omega))]
    rfl
  | succ d ih =>
    intro n i w hi hn hw
    obtain ⟨n, rfl⟩ : ∃ m, n = m + 1 := ⟨n - 1, by omega⟩
    have hgi := hg i (by omega)
    rw [f_X7_isComplete_2, if_neg (le_f (x := 25) 25 i (by omega) (by decide)), lA_cs hk (by omega) (by omega), Option.bind_some, ur_at, hw i (by omega), cmp]
    by_cases z : g i < 2
    · obtain ⟨w', e, f⟩ := ih n (i + 1) w (by omega) (by omega) hw
      refine ⟨w', ?_, f⟩
      rw [if_neg (le_f (x := 2) 2 (g i) z (by decide)), nI_1, e, if_neg (by omega)]
    · have e2 : nI (g i) - 2 = nI (g i - 2) := pk_sub (a := g i) (b := 2) (by omega)
      have e3 : (3 : Int32) - nI N = nI S := by
        have : (3 : Int32) - nI N = nI (3 - N) := pk_sub (a := 3) (b := N) (by omega)
        rw [this]
        exact congrArg nI (by omega)
      have hsn := sn_u1 g i (g i - 2) 25 0 (Nat.zero_le _) (by omega)
      obtain ⟨b, w1, e, hw1, hb⟩ := q_areSets (I := I) (J := J) (A := A) (M := M) hk hl S zR (by show S < 64; omega) (by omega) (u1 g i (g i - 2)) (u1 w i (nI (g i - 2))) (fun k hk => by
        by_cases y : k = i
        · rw [y, u1_at, u1_at]
        · rw [u1_ne _ _ y, u1_ne _ _ y, hw k hk]) (fun k hk => by
        by_cases y : k = i
        · rw [y, u1_at]; omega
        · rw [u1_ne _ _ y]; have := hg k hk; omega) (by omega)
      have e5 : nI (g i - 2) + 2 = nI (g i) := (nI_add (g i - 2) 2).trans (congrArg nI (by omega))
      have hw2 : ∀ k, k < 25 → u1 w1 i (nI (g i)) k = w k := fun k hk => by
        by_cases y : k = i
        · rw [y, u1_at, hw i (by omega)]
        · rw [u1_ne _ _ y, hw1 k hk, u1_ne _ _ y]
      rw [if_pos (le_t (x := 2) 2 (g i) (by omega) (by omega)), Option.bind_some, e2, tA_cs hk (by omega) (by omega), Option.bind_some, u2_ur, e3, e, Option.bind_some]
      show ∃ w', (lA 0 (cs I J (ur A h w1) M) h (nI i)).bind _ = _ ∧ _
      rw [lA_cs hk (by omega) (by omega), Option.bind_some, ur_at, hw1 i (by omega), u1_at, e5, tA_cs hk (by omega) (by omega), Option.bind_some, u2_ur]
      show ∃ w', (if b32 b = 0 then _ else _) = _ ∧ _
      by_cases y : b = true
      · refine ⟨_, ?_, hw2⟩
        rw [if_neg (fun q => by rw [(b32_0 b).mp q] at y; cases y), if_pos ⟨by omega, (ris_iff 25 0 _ rfl).mpr (hb.mp y)⟩]
        rfl
      · have y' : b = false := by cases b; rfl; exact absurd rfl y
        obtain ⟨w', e', f'⟩ := ih n (i + 1) _ (by omega) (by omega) (fun k hk => (hw2 k hk).trans (hw k hk))
        refine ⟨w', ?_, fun k hk => (f' k hk).trans (hw2 k hk)⟩
        rw [if_pos ((b32_0 b).mpr y'), nI_1, e', if_neg (fun q => y (hb.mpr ((ris_iff 25 0 _ rfl).mp q.2)))]
theorem r_complete (hk : mK M h = 100) (hl : mL M h = 25) {S N : Nat} (hS : N + S = 3) {g : Nat → Nat} (hg : ∀ k, k < 25 → g k < 900) (hs : sn g 0 25 = 3 * S + 2) {w : Nat → Int32} (hw : ∀ k, k < 25 → w k = nI (g k)) : ∃ w', f_X7_isComplete h (nI N) (cs I J (ur A h w) M) = some (b32 (cmp 25 0 g), cs I J (ur A h w') M) ∧ ∀ k, k < 25 → w' k = w k :=
  r_complete_2 hk hl hS hg hs 25 zN 0 w rfl (by decide) hw
theorem r_waits_4 (hp : PS M P h l) {N : Nat} (hN : I 162 l = nI N) (hN3 : N ≤ 3) {g : Nat → Nat} (hg : ∀ k, k < 25 → g k < 800) (hs : sn g 0 25 + 3 * N = 10) : ∀ (d n i : Nat) (acc : Int64) (w : Nat → Int32), i + d = 25 → d < n → (∀ k, k < 25 → w k = nI (g k)) → ∃ w', f_X6_waits_4 n P acc (nI i) (cs I J (ur A h w) M) = some (wt d i g acc, cs I J (ur A h w') M) ∧ ∀ k, k < 25 → w' k = w k := by
  have hp' := hp
  obtain ⟨⟨p1, p2, p3⟩, ⟨h1, h2⟩, l1⟩ := hp
  intro d
  induction d with
  | zero =>
    intro n i acc w hi hn hw
    obtain ⟨n, rfl⟩ : ∃ m, n = m + 1 := ⟨n - 1, by omega⟩
    refine ⟨w, ?_, fun _ _ => rfl⟩
    rw [f_X6_waits_4, if_pos (le_t (x := 25) 25 i (by omega) (by omega))]
    rfl
  | succ d ih =>
    intro n i acc w hi hn hw
    obtain ⟨n, rfl⟩ : ∃ m, n = m + 1 := ⟨n - 1, by omega⟩
    have hgi := hg i (by omega)
    have es : f_Jx4a65c_size_8abf5 l (cs I J (ur A h w) M) = some (nI N, cs I J (ur A h w) M) := by
      unfold f_Jx4a65c_size_8abf5 f_Jx4a65c_size_8abf5_0
      rw [gI_cs 162 l1, Option.bind_some, hN]
    have es' : ∀ w, f_Jx4a65c_size_8abf5 l (cs I J (ur A h w) M) = some (nI N, cs I J (ur A h w) M) := fun w => by
      unfold f_Jx4a65c_size_8abf5 f_Jx4a65c_size_8abf5_0
      rw [gI_cs 162 l1, Option.bind_some, hN]
    have e10 : nI (sn g 0 25) + 3 * nI N = 10 := by
      have : (3 : Int32) * nI N = nI (3 * N) := pk_mul 3 N
      rw [this, nI_add, hs]
      rfl
    have hsn := sn_u1 g i (g i + 1) 25 0 (Nat.zero_le _) (by omega)
    obtain ⟨w1, e1, f1⟩ := r_complete (I := I) (J := J) (A := A) (M := M) h1 h2 (S := 3 - N) (N := N) (by omega) (g := u1 g i (g i + 1)) (fun k hk => by
      have := hg k hk
      by_cases y : k = i
      · rw [y, u1_at]; omega
      · rw [u1_ne _ _ y]; omega) (by omega) (w := u1 w i (nI (g i + 1))) (fun k hk => by
      by_cases y : k = i
      · rw [y, u1_at, u1_at]
      · rw [u1_ne _ _ y, u1_ne _ _ y, hw k hk])
    have hw2 : ∀ k, k < 25 → u1 w1 i (nI (g i)) k = w k := fun k hk => by
      by_cases y : k = i
      · rw [y, u1_at, hw i (by omega)]
      · rw [u1_ne _ _ y, f1 k hk, u1_ne _ _ y]
    have e64 : ∀ x : Int64, f_X6_waits_64 (f_X6_waits_4 n) P (nI i) x acc (cs I J (ur A h w1) M) = f_X6_waits_4 n P (acc ||| x) (nI (i + 1)) (cs I J (ur A h (u1 w1 i (nI (g i)))) M) := fun x => by
      unfold f_X6_waits_64
      have e9 : nI (g i + 1) - 1 = nI (g i) := nI_pred (g i)
      rw [gR_cs 386 p1 p2, Option.bind_some, lA_cs h1 (by omega) (by omega), Option.bind_some, ur_at, f1 i (by omega), u1_at, e9, tA_cs h1 (by omega) (by omega), Option.bind_some, u2_ur, nI_1]
    rw [f_X6_waits_4, if_neg (le_f (x := 25) 25 i (by omega) (by decide)), if_pos (show mK (cs I J _ M) P = 12 from p1), r_tiles (A := ur A h w) hp' (fun k hk => (ur_at A h k w).trans (hw k hk)), Option.bind_some, gR_cs 387 p1 p3, Option.bind_some, if_pos (show mK (cs I J _ M) l = 5 from l1), es, Option.bind_some]
    show ∃ w', (if nI (sn g 0 25) + 3 * nI N = 10 then _ else _) = _ ∧ _
    rw [if_pos e10, gR_cs 386 p1 p2, Option.bind_some, lA_cs h1 (by omega) (by omega), Option.bind_some, ur_at, hw i (by omega), nI_1, tA_cs h1 (by omega) (by omega), Option.bind_some, u2_ur, gR_cs 386 p1 p2, Option.bind_some, gR_cs 387 p1 p3, Option.bind_some, if_pos (show mK (cs I J _ M) l = 5 from l1), es', Option.bind_some]
    show ∃ w', (f_X7_isComplete h (nI N) (cs I J (ur A h (u1 w i (nI (g i + 1)))) M)).bind _ = _ ∧ _
    rw [e1, Option.bind_some, wt]
    show ∃ w', (if b32 (cmp 25 0 (u1 g i (g i + 1))) = 0 then _ else _) = _ ∧ _
    by_cases y : cmp 25 0 (u1 g i (g i + 1)) = true
    · rw [y, if_neg (show ¬ b32 true = 0 by decide), if_pos rfl, e64]
      obtain ⟨w', e', f'⟩ := ih n (i + 1) (acc ||| ((1 : Int64) <<< ((nI i).toInt64 &&& 63))) _ (by omega) (by omega) (fun k hk => (hw2 k hk).trans (hw k hk))
      exact ⟨w', e', fun k hk => (f' k hk).trans (hw2 k hk)⟩
    · have y' : cmp 25 0 (u1 g i (g i + 1)) = false := by cases hx : cmp 25 0 (u1 g i (g i + 1)); rfl; exact absurd hx y
      rw [y', if_pos (show b32 false = 0 from rfl), if_neg (by decide), e64]
      obtain ⟨w', e', f'⟩ := ih n (i + 1) (acc ||| 0) _ (by omega) (by omega) (fun k hk => (hw2 k hk).trans (hw k hk))
      refine ⟨w', ?_, fun k hk => (f' k hk).trans (hw2 k hk)⟩
      rw [e', Int64.or_zero]
theorem r_waits (hp : PS M P h l) {N : Nat} (hN : I 162 l = nI N) (hN3 : N ≤ 3) {g : Nat → Nat} (hg : ∀ k, k < 25 → g k < 800) (hs9 : sn g 0 25 < 10000) (hw : ∀ k, k < 25 → A h k = nI (g k)) : ∃ w', f_X6_waits P (cs I J A M) = some (wts N g, cs I J (ur A h w') M) ∧ ∀ k, k < 25 → w' k = A h k := by
  unfold f_X6_waits f_X6_waits_0 wts
  by_cases z : sn g 0 25 + 3 * N = 10
  · obtain ⟨w', e, f⟩ := r_waits_4 (I := I) (J := J) (A := A) hp hN hN3 hg z 25 zN 0 0 (A h) rfl (by decide) hw
    rw [ur_self] at e
    refine ⟨w', ?_, f⟩
    rw [if_pos z]
    exact e
  · refine ⟨A h, ?_, fun _ _ => rfl⟩
    have hp' := hp
    obtain ⟨⟨p1, p2, p3⟩, ⟨h1, h2⟩, l1⟩ := hp
    have es : f_Jx4a65c_size_8abf5 l (cs I J A M) = some (nI N, cs I J A M) := by
      unfold f_Jx4a65c_size_8abf5 f_Jx4a65c_size_8abf5_0
      rw [gI_cs 162 l1, Option.bind_some, hN]
    have e3 : (3 : Int32) * nI N = nI (3 * N) := pk_mul 3 N
    rw [if_neg z, ur_self]
    show f_X6_waits_4 (129 + 1) P 0 0 (cs I J A M) = _
    rw [f_X6_waits_4, if_neg (le_f (x := 25) (y := 0) 25 0 (by omega) (by decide)), if_pos (show mK (cs I J _ M) P = 12 from p1), r_tiles hp' hw, Option.bind_some, gR_cs 387 p1 p3, Option.bind_some, if_pos (show mK (cs I J _ M) l = 5 from l1), es, Option.bind_some]
    show (if nI (sn g 0 25) + 3 * nI N = 10 then _ else _) = _
    rw [e3, nI_add, if_neg (eq_f (y := 10) (sn g 0 25 + 3 * N) 10 z (by omega) (by omega))]
theorem r_isReady (hp : PS M P h l) {N : Nat} (hN : I 162 l = nI N) (hN3 : N ≤ 3) {g : Nat → Nat} (hg : ∀ k, k < 25 → g k < 800) (hs9 : sn g 0 25 < 10000) (hw : ∀ k, k < 25 → A h k = nI (g k)) : ∃ w', f_X6_isReady P (cs I J A M) = some (b32 (decide (wts N g ≠ 0)), cs I J (ur A h w') M) ∧ ∀ k, k < 25 → w' k = A h k := by
  obtain ⟨w', e, f⟩ := r_waits (J := J) hp hN hN3 hg hs9 hw
  refine ⟨w', ?_, f⟩
  unfold f_X6_isReady f_X6_isReady_0
  rw [if_pos (show mK (cs I J A M) P = 12 from hp.1.1), e, Option.bind_some]
  show (if lg_cmp (wts N g) 0 = 0 then _ else _) = _
  by_cases y : wts N g = 0
  · rw [if_pos ((lg_cmp_0 _ _).mpr y), decide_eq_false (fun z => z y)]
    rfl
  · rw [if_neg (fun z => y ((lg_cmp_0 _ _).mp z)), decide_eq_true y]
    rfl
end HAND
