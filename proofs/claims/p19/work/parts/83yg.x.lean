/-! ===== PURE: the value by the reference, exactly ===== -/
/-- without ends and honours, ahead of i; whether an honour is there, ahead of i -/
def vpb (x : Nat → Nat) (i : Nat) : Bool := decide (∀ k : Nat, k < i → x k ≠ 0 → k < 18 ∧ k % 9 ≠ 0 ∧ k % 9 ≠ 8)
def vhb (x : Nat → Nat) (i : Nat) : Bool := decide (∃ k : Nat, k < i ∧ 18 ≤ k ∧ x k ≠ 0)
noncomputable def vaa (y : Nat → Nat) (f e i : Nat) : Bool := dcl (∀ k : Nat, i ≤ k → k < 25 → y k ≠ 0 → f ≤ k ∧ k ≤ e)
def vis (i : Nat) : Bool := decide (18 ≤ i ∨ i % 9 = 0 ∨ i % 9 = 8)
/-- the value by all tiles -/
noncomputable def vtl (al c : Bool) (op lk : Nat) (x : Nat → Nat) : Nat := 1 + (if c = true then 1 else 0) + (if al = true ∧ op = 0 then 1 else 0) + x lk + (if vpn x 0 = true then 1 else 0) + vos x
theorem b32_and (p q : Bool) : b32 p &&& b32 q = b32 (p && q) := by cases p <;> cases q <;> decide
theorem b32_orr (p q : Bool) : b32 p ||| b32 q = b32 (p || q) := by cases p <;> cases q <;> decide
theorem b32_ite (p : Bool) : b32 p = nI (if p = true then 1 else 0) := by cases p <;> rfl
theorem vpb_st (x : Nat → Nat) (i : Nat) : vpb x (i + 1) = if x i = 0 then vpb x i else (vpb x i && !vis i) := by
  have hv : (!vis i) = true ↔ (i < 18 ∧ i % 9 ≠ 0 ∧ i % 9 ≠ 8) := by
    unfold vis
    by_cases y : 18 ≤ i ∨ i % 9 = 0 ∨ i % 9 = 8
    · rw [decide_eq_true y]
      exact ⟨fun z => (by cases z), fun z => by omega⟩
    · rw [decide_eq_false y]
      exact ⟨fun _ => by omega, fun _ => rfl⟩
  by_cases y : x i = 0
  · rw [if_pos y]
    exact decide_eq_decide.mpr ⟨fun h k a b => h k (by omega) b, fun h k a b => by
      by_cases z : k = i
      · subst z; exact absurd y b
      · exact h k (by omega) b⟩
  · rw [if_neg y]
    cases hh : vis i with
    | true =>
      have : ¬ (i < 18 ∧ i % 9 ≠ 0 ∧ i % 9 ≠ 8) := fun z => by
        have := hv.mpr z
        rw [hh] at this
        cases this
      rw [show (!true) = false from rfl, Bool.and_false]
      exact decide_eq_false fun h => this (h i (Nat.lt_succ_self _) y)
    | false =>
      have := hv.mp (by rw [hh]; rfl)
      rw [show (!false) = true from rfl, Bool.and_true]
      exact decide_eq_decide.mpr ⟨fun h k a b => h k (by omega) b, fun h k a b => by
        by_cases z : k = i
        · subst z; exact this
        · exact h k (by omega) b⟩
theorem vhb_st (x : Nat → Nat) (i : Nat) : vhb x (i + 1) = if x i = 0 then vhb x i else (vhb x i || decide (18 ≤ i)) := by
  by_cases y : x i = 0
  · rw [if_pos y]
    exact decide_eq_decide.mpr ⟨fun ⟨k, a, b, c⟩ => ⟨k, by
      by_cases z : k = i
      · subst z; exact absurd y c
      · omega, b, c⟩, fun ⟨k, a, b, c⟩ => ⟨k, by omega, b, c⟩⟩
  · rw [if_neg y]
    by_cases z : 18 ≤ i
    · rw [decide_eq_true z, Bool.or_true]
      exact decide_eq_true ⟨i, Nat.lt_succ_self _, z, y⟩
    · rw [decide_eq_false z, Bool.or_false]
      exact decide_eq_decide.mpr ⟨fun ⟨k, a, b, c⟩ => ⟨k, by
        by_cases w : k = i
        · subst w; exact absurd b z
        · omega, b, c⟩, fun ⟨k, a, b, c⟩ => ⟨k, by omega, b, c⟩⟩
theorem vpb_25 (x : Nat → Nat) : vpb x 25 = vpn x 0 := Bool.eq_iff_iff.mpr (decide_eq_true_iff.trans (Iff.trans ⟨fun h k _ b c => h k b c, fun h k b c => h k (Nat.zero_le _) b c⟩ dcl_iff.symm))
theorem vhb_25 (x : Nat → Nat) : vhb x 25 = vany x 18 25 := Bool.eq_iff_iff.mpr (decide_eq_true_iff.trans (Iff.trans ⟨fun ⟨k, a, b, c⟩ => ⟨k, b, a, c⟩, fun ⟨k, a, b, c⟩ => ⟨k, b, a, c⟩⟩ dcl_iff.symm))
theorem x_isEnd {i : Nat} (hi : i < 1000) (M : zM) : f_X7_isEnd (nI i) M = some (b32 (vis i), M) := by
  unfold f_X7_isEnd f_X7_isEnd_0 vis
  have em : zmd (nI i) 9 = nI (i % 9) := pk_rem (a := i) (d := 9) (by omega) (by decide) (by decide)
  rw [em]
  by_cases h : 18 ≤ i
  · rw [if_pos (le_t (x := 18) 18 i h (by omega)), decide_eq_true (Or.inl h)]
    rfl
  · rw [if_neg (le_f (x := 18) 18 i (by omega) (by decide))]
    by_cases z : i % 9 = 0
    · rw [if_pos (show nI (i % 9) = 0 by rw [z]; rfl), decide_eq_true (Or.inr (Or.inl z))]
      rfl
    · rw [if_neg (eq_f (y := 0) (i % 9) 0 z (by omega) (by decide))]
      by_cases z2 : i % 9 = 8
      · rw [if_pos (show nI (i % 9) = 8 by rw [z2]; rfl), decide_eq_true (Or.inr (Or.inr z2))]
        rfl
      · rw [if_neg (eq_f (y := 8) (i % 9) 8 z2 (by omega) (by decide)), decide_eq_false (by omega)]
        rfl
section XTIL
variable {M M0 : zM} {P h l d N : Nat} {v : Nat → Nat}
theorem x_areAll_2 {r : Nat} {y : Nat → Nat} (hr : AR M r) (hy : ∀ k, k < 25 → mA M r k = nI (y k)) (hy9 : ∀ k, k < 25 → y k < 10000) {f e : Nat} (hf : f < 100) (he : e < 100) : ∀ (d n i : Nat), i + d = 25 → d < n → f_X7_areAll_2 n r (nI f) (nI e) (nI i) M = some (b32 (vaa y f e i), M) := by
  intro d
  induction d with
  | zero =>
    intro n i hi hn
    obtain ⟨n, rfl⟩ : ∃ m, n = m + 1 := ⟨n - 1, by omega⟩
    rw [f_X7_areAll_2, if_pos (le_t (x := 25) 25 i (by omega) (by omega)), show vaa y f e i = true from dcl_t fun k a b => by omega]
    rfl
  | succ d ih =>
    intro n i hi hn
    obtain ⟨n, rfl⟩ : ∃ m, n = m + 1 := ⟨n - 1, by omega⟩
    have h9 := hy9 i (by omega)
    have nx := ih n (i + 1) (by omega) (by omega)
    rw [f_X7_areAll_2, if_neg (le_f (x := 25) 25 i (by omega) (by decide)), e_lA hr.1 (by rw [hr.2.1]; omega) (by rw [hr.2.1]; decide), Option.bind_some, hy i (by omega), nI_1]
    have sk : (y i = 0 ∨ (f ≤ i ∧ i ≤ e)) → vaa y f e i = vaa y f e (i + 1) := fun c => dcl_c ⟨fun g k a b => g k (by omega) b, fun g k a b w => by
      by_cases z : k = i
      · subst z; exact c.elim (fun u => absurd u w) id
      · exact g k (by omega) b w⟩
    by_cases z : y i = 0
    · rw [if_pos (le_t (y := 0) (y i) 0 (by omega) (by decide)), nx, sk (Or.inl z)]
    · rw [if_neg (le_f (y := 0) (y i) 0 (by omega) (by omega)), r_isIn, Option.bind_some]
      dsimp only
      by_cases z1 : i < f
      · rw [if_pos (lt_t i f z1 (by omega)), if_pos rfl, show vaa y f e i = false from dcl_f fun g => by have := g i (Nat.le_refl _) (by omega) z; omega]
        rfl
      · rw [if_neg (lt_f i f (by omega) (by omega))]
        by_cases z2 : e < i
        · rw [if_pos (lt_t e i z2 (by omega)), if_pos rfl, show vaa y f e i = false from dcl_f fun g => by have := g i (Nat.le_refl _) (by omega) z; omega]
          rfl
        · rw [if_neg (lt_f e i (by omega) (by omega)), if_neg (show ¬ (1 : Int32) = 0 by decide), nx, sk (Or.inr (by omega))]
theorem x_vt_250 (hon one : Bool) (q : Nat) (M : zM) : f_X7_valueOfTiles_250 (b32 hon) (nI q) (b32 one) M = some (nI (q + if one = true then (if hon = true then 2 else 4) else 0), M) := by
  unfold f_X7_valueOfTiles_250
  have e0 : nI q + 0 = nI (q + 0) := nI_add q 0
  have e4 : nI q + 4 = nI (q + 4) := nI_add q 4
  have e2 : nI q + 2 = nI (q + 2) := nI_add q 2
  cases one
  · rw [if_pos (show b32 false = 0 from rfl), if_neg (by decide), e0]
  · rw [if_neg (show ¬ b32 true = 0 by decide), if_pos rfl]
    cases hon
    · rw [if_pos (show b32 false = 0 from rfl), if_neg (by decide), e4]
    · rw [if_neg (show ¬ b32 true = 0 by decide), if_pos rfl, e2]
theorem x_vt_215 {r : Nat} {y : Nat → Nat} (hr : AR M r) (hy : ∀ k, k < 25 → mA M r k = nI (y k)) (hy9 : ∀ k, k < 25 → y k < 10000) (hon su : Bool) (q : Nat) : f_X7_valueOfTiles_215 (b32 hon) (nI q) r (b32 su) M = some (nI (q + if (su && (vaa y 0 8 0 || vaa y 9 17 0)) = true then (if hon = true then 2 else 4) else 0), M) := by
  unfold f_X7_valueOfTiles_215 f_X7_valueOfTiles_249 f_X7_valueOfTiles_245
  have e1 : f_X7_areAll r 0 8 M = some (b32 (vaa y 0 8 0), M) := x_areAll_2 (f := 0) (e := 8) hr hy hy9 (by decide) (by decide) 25 zN 0 rfl (by decide)
  have e2 : f_X7_areAll r 9 17 M = some (b32 (vaa y 9 17 0), M) := x_areAll_2 (f := 9) (e := 17) hr hy hy9 (by decide) (by decide) 25 zN 0 rfl (by decide)
  cases su
  · rw [if_pos (show b32 false = 0 from rfl), Bool.false_and]
    exact x_vt_250 hon false q M
  · rw [if_neg (show ¬ b32 true = 0 by decide), e1, Option.bind_some, Bool.true_and]
    dsimp only
    cases vaa y 0 8 0
    · rw [if_pos (show b32 false = 0 from rfl), e2, Option.bind_some, Bool.false_or]
      dsimp only
      cases vaa y 9 17 0
      · rw [if_pos (show b32 false = 0 from rfl)]
        exact x_vt_250 hon false q M
      · rw [if_neg (show ¬ b32 true = 0 by decide)]
        exact x_vt_250 hon true q M
    · rw [if_neg (show ¬ b32 true = 0 by decide), Bool.true_or]
      exact x_vt_250 hon true q M
/-- the suits alone -/
theorem vos_eq (x : Nat → Nat) : (if ((!vaa (fun k => if k < 18 then x k else 0) 18 24 0) && (vaa (fun k => if k < 18 then x k else 0) 0 8 0 || vaa (fun k => if k < 18 then x k else 0) 9 17 0)) = true then (if vany x 18 25 = true then 2 else 4) else 0) = vos x := by
  have a1 : vaa (fun k => if k < 18 then x k else 0) 0 8 0 = !vany x 9 18 := by
    cases h : vany x 9 18
    · refine dcl_t fun k _ b c => ?_
      dsimp only at c
      by_cases y : k < 18
      · rw [if_pos y] at c
        refine ⟨Nat.zero_le _, Nat.le_of_not_lt fun z => ?_⟩
        exact of_dcl_f h ⟨k, by omega, y, c⟩
      · rw [if_neg y] at c
        exact absurd rfl c
    · obtain ⟨k, k1, k2, k3⟩ := of_dcl_t h
      refine dcl_f fun g => ?_
      have := g k (Nat.zero_le _) (by omega) (by dsimp only; rw [if_pos k2]; exact k3)
      omega
  have a2 : vaa (fun k => if k < 18 then x k else 0) 9 17 0 = !vany x 0 9 := by
    cases h : vany x 0 9
    · refine dcl_t fun k _ b c => ?_
      dsimp only at c
      by_cases y : k < 18
      · rw [if_pos y] at c
        refine ⟨Nat.le_of_not_lt fun z => ?_, by omega⟩
        exact of_dcl_f h ⟨k, Nat.zero_le _, by omega, c⟩
      · rw [if_neg y] at c
        exact absurd rfl c
    · obtain ⟨k, k1, k2, k3⟩ := of_dcl_t h
      refine dcl_f fun g => ?_
      have := g k (Nat.zero_le _) (by omega) (by dsimp only; rw [if_pos (show k < 18 by omega)]; exact k3)
      omega
  have a3 : vaa (fun k => if k < 18 then x k else 0) 18 24 0 = !(vany x 0 9 || vany x 9 18) := by
    cases h : vany x 0 9
    · cases h2 : vany x 9 18
      · refine dcl_t fun k _ b c => ?_
        dsimp only at c
        by_cases y : k < 18
        · rw [if_pos y] at c
          by_cases z : k < 9
          · exact absurd ⟨k, Nat.zero_le _, z, c⟩ (of_dcl_f h)
          · exact absurd ⟨k, by omega, y, c⟩ (of_dcl_f h2)
        · rw [if_neg y] at c
          exact absurd rfl c
      · obtain ⟨k, k1, k2, k3⟩ := of_dcl_t h2
        refine dcl_f fun g => ?_
        have := g k (Nat.zero_le _) (by omega) (by dsimp only; rw [if_pos k2]; exact k3)
        omega
    · obtain ⟨k, k1, k2, k3⟩ := of_dcl_t h
      refine dcl_f fun g => ?_
      have := g k (Nat.zero_le _) (by omega) (by dsimp only; rw [if_pos (show k < 18 by omega)]; exact k3)
      omega
  unfold vos
  rw [a1, a2, a3]
  cases vany x 0 9 <;> cases vany x 9 18 <;> rfl
theorem x_vt_179 {c s r : Nat} {x : Nat → Nat} (hk : KM c s M0 M) (hr : AR M r) (hx : ∀ k, k < 25 → mA M r k = nI (x k)) (hx9 : ∀ k, k < 25 → x k < 10000) (p q : Nat) : ∃ M', f_X7_valueOfTiles_179 r (b32 (vany x 18 25)) (nI p) (nI q) M = some (nI (q + p + vos x), M') ∧ KM (c + 1) (s + 25) M0 M' := by
  unfold f_X7_valueOfTiles_179
  have e25 : aA 0 M 25 = some (mX M, nA M 0 25) := e_aA (c := 25) (by decide) 0
  have k1 : mK (nA M 0 25) (mX M) = 100 := u1_at _ _ _
  have l1 : mL (nA M 0 25) (mX M) = 25 := u1_at _ _ _
  have k2 : mK (nA M 0 25) r = 100 := (if_neg (Nat.ne_of_lt hr.2.2)).trans hr.1
  have l2 : mL (nA M 0 25) r = 25 := (if_neg (Nat.ne_of_lt hr.2.2)).trans hr.2.1
  have ey : yI 0 (nA M 0 25) r 0 (mX M) 0 18 = some (sAr (nA M 0 25) (mX M) (va_cpy (mA (nA M 0 25) r) (mA (nA M 0 25) (mX M)) (0 : Int32).toNatClampNeg (0 : Int32).toNatClampNeg (18 : Int32).toNatClampNeg)) := if_pos ⟨k2, k1, ⟨by decide, by decide, by decide, by rw [l2]; decide, by rw [l1]; decide⟩, fun i hi => rfl⟩
  have row : ∀ k, k < 25 → mA (sAr (nA M 0 25) (mX M) (va_cpy (mA (nA M 0 25) r) (mA (nA M 0 25) (mX M)) (0 : Int32).toNatClampNeg (0 : Int32).toNatClampNeg (18 : Int32).toNatClampNeg)) (mX M) k = nI (if k < 18 then x k else 0) := fun k hk9 => by
    have e1 : mA (sAr (nA M 0 25) (mX M) (va_cpy (mA (nA M 0 25) r) (mA (nA M 0 25) (mX M)) (0 : Int32).toNatClampNeg (0 : Int32).toNatClampNeg (18 : Int32).toNatClampNeg)) (mX M) k = va_cpy (mA (nA M 0 25) r) (mA (nA M 0 25) (mX M)) (0 : Int32).toNatClampNeg (0 : Int32).toNatClampNeg (18 : Int32).toNatClampNeg k := if_pos rfl
    have e2 : mA (nA M 0 25) r k = mA M r k := if_neg (Nat.ne_of_lt hr.2.2)
    have e3 : mA (nA M 0 25) (mX M) k = 0 := if_pos rfl
    rw [e1]
    unfold va_cpy
    have z0 : (0 : Int32).toNatClampNeg = 0 := rfl
    have z18 : (18 : Int32).toNatClampNeg = 18 := rfl
    rw [z0, z18]
    by_cases y : k < 18
    · rw [if_pos ⟨Nat.zero_le _, by omega⟩, if_pos y, Nat.zero_add, Nat.sub_zero, e2, hx k hk9]
    · rw [if_neg (by omega), if_neg y, e3]
      rfl
  have hk2 : KM (c + 1) (s + 25) M0 (sAr (nA M 0 25) (mX M) (va_cpy (mA (nA M 0 25) r) (mA (nA M 0 25) (mX M)) (0 : Int32).toNatClampNeg (0 : Int32).toNatClampNeg (18 : Int32).toNatClampNeg)) := (hk.nA 0 25).sAr hk.1.1 _
  rw [e25, Option.bind_some]
  dsimp only
  rw [ey, Option.bind_some]
  generalize hM2 : sAr (nA M 0 25) (mX M) (va_cpy (mA (nA M 0 25) r) (mA (nA M 0 25) (mX M)) (0 : Int32).toNatClampNeg (0 : Int32).toNatClampNeg (18 : Int32).toNatClampNeg) = M2 at *
  have hx2 : AR M2 (mX M) := ⟨by rw [← hM2]; exact k1, by rw [← hM2]; exact l1, by rw [← hM2]; exact Nat.lt_succ_self _⟩
  have y9 : ∀ k, k < 25 → (if k < 18 then x k else 0) < 10000 := fun k hk9 => by
    have := hx9 k hk9
    split <;> omega
  have e1 : f_X7_areAll (mX M) 18 24 M2 = some (b32 (vaa (fun k => if k < 18 then x k else 0) 18 24 0), M2) := x_areAll_2 (f := 18) (e := 24) hx2 row y9 (by decide) (by decide) 25 zN 0 rfl (by decide)
  rw [e1, Option.bind_some, nI_add]
  dsimp only
  refine ⟨M2, ?_, hk2⟩
  rw [← vos_eq x]
  cases vaa (fun k => if k < 18 then x k else 0) 18 24 0
  · rw [if_pos (show b32 false = 0 from rfl)]
    exact x_vt_215 hx2 row y9 (vany x 18 25) true (q + p)
  · rw [if_neg (show ¬ b32 true = 0 by decide)]
    exact x_vt_215 hx2 row y9 (vany x 18 25) false (q + p)
theorem x_vt_161 {c s r lk : Nat} {x : Nat → Nat} (hk : KM c s M0 M) (hr : AR M r) (hx : ∀ k, k < 25 → mA M r k = nI (x k)) (hx9 : ∀ k, k < 25 → x k < 10000) (k : mK M 1026 = 13) (hlk : mI M 421 1026 = nI lk) (hlk25 : lk < 25) (pl : Bool) (p q : Nat) : ∃ M', f_X7_valueOfTiles_161 1026 r (b32 pl) (b32 (vany x 18 25)) (nI p) (nI q) M = some (nI (q + p + x lk + (if pl = true then 1 else 0) + vos x), M') ∧ KM (c + 1) (s + 25) M0 M' := by
  unfold f_X7_valueOfTiles_161
  rw [e_gI 421 k, Option.bind_some, hlk, e_lA hr.1 (by rw [hr.2.1]; exact hlk25) (by rw [hr.2.1]; decide), Option.bind_some, hx lk hlk25, nI_add, nI_add]
  cases pl
  · rw [if_pos (show b32 false = 0 from rfl), if_neg (by decide)]
    exact x_vt_179 hk hr hx hx9 0 _
  · rw [if_neg (show ¬ b32 true = 0 by decide), if_pos rfl]
    exact x_vt_179 hk hr hx hx9 1 _
theorem row_km {M M' : zM} {r c s : Nat} {x : Nat → Nat} {m : Nat} (hr : AR M r) (hm : m ≤ 25) (hx : ∀ k, k < m → mA M r k = nI (x k)) (k : KM c s M M') : ∀ j, j < m → mA M' r j = nI (x j) := fun j hj => ((k.2 r hr.2.2).2.2.2.2.2.1 j (by rw [hr.2.1]; omega)).trans (hx j hj)
theorem x_vt_144 {c s r lk : Nat} {x : Nat → Nat} (hk : KM c s M0 M) (hb : VB M P h l d N v lk) (hr : AR M r) (hx : ∀ k, k < 25 → mA M r k = nI (x k)) (hx9 : ∀ k, k < 25 → x k < 10000) (al pl : Bool) (p q : Nat) : ∃ M', f_X7_valueOfTiles_144 1026 P (b32 al) r (b32 pl) (b32 (vany x 18 25)) (nI p) (nI q) M = some (nI (q + p + (if al = true ∧ sn (fun j => if v j / 100 = 3 then 0 else 1) 0 N = 0 then 1 else 0) + x lk + (if pl = true then 1 else 0) + vos x), M') ∧ KM (c + 2) (s + 29) M0 M' := by
  unfold f_X7_valueOfTiles_144 f_X7_valueOfTiles_160
  cases al with
  | false =>
    rw [if_pos (show b32 false = 0 from rfl), if_neg (show ¬ (false = true ∧ sn (fun j => if v j / 100 = 3 then 0 else 1) 0 N = 0) from fun z => by cases z.1), nI_add]
    obtain ⟨M', e, k⟩ := x_vt_161 hk hr hx hx9 hb.2.2.2.2.1 hb.2.2.2.2.2.1 hb.2.2.2.2.2.2.1 pl 0 (q + p)
    exact ⟨M', e, k.w (by omega) (by omega)⟩
  | true =>
    obtain ⟨M1, e1, k1⟩ := r_open hb.1.1 hb.1.2.2.1 hb.2.2.1 hb.2.2.2.1
    have hb1 := hb.km k1
    have hr1 := hr.km k1
    have hx1 := row_km hr (Nat.le_refl _) hx k1
    have hk1 := hk.tr k1
    have l := sn_le1 (fun j => if v j / 100 = 3 then 0 else 1) (fun j => by split <;> omega) N 0
    have l64 : N ≤ 64 := hb.2.2.1.1.2.2.2.2
    rw [if_neg (show ¬ b32 true = 0 by decide), if_pos hb.1.1, e1, Option.bind_some, nI_add]
    dsimp only
    by_cases y : sn (fun j => if v j / 100 = 3 then 0 else 1) 0 N = 0
    · rw [if_pos (show nI (sn (fun j => if v j / 100 = 3 then 0 else 1) 0 N) = 0 by rw [y]; rfl), if_pos ⟨rfl, y⟩]
      obtain ⟨M', e, k⟩ := x_vt_161 hk1 hr1 hx1 hx9 hb1.2.2.2.2.1 hb1.2.2.2.2.2.1 hb1.2.2.2.2.2.2.1 pl 1 (q + p)
      exact ⟨M', e, k.w (by omega) (by omega)⟩
    · rw [if_neg (eq_f (y := 0) _ 0 y (by omega) (by decide)), if_neg (fun z => y z.2)]
      obtain ⟨M', e, k⟩ := x_vt_161 hk1 hr1 hx1 hx9 hb1.2.2.2.2.1 hb1.2.2.2.2.2.1 hb1.2.2.2.2.2.2.1 pl 0 (q + p)
      exact ⟨M', e, k.w (by omega) (by omega)⟩
theorem x_vt_41 {r lk C S c s i6 U : Nat} {g : Nat → Nat} (hi6 : i6 < 25) (hre : r = mX M0) (hg : ∀ k, k < 25 → g k < 1000) (i2 : Int32) {K : Nat → Nat → Int32 → Nat → Int32 → Int32 → Int32 → zM → Option (Int32 × zM)} (hK : ∀ M', KM c s M0 M' → VB M' P h l d N v lk → AR M' r → (∀ k, k < i6 + 1 → mA M' r k = nI (alk g v N k)) → ∃ M'', K 1026 P i2 r (b32 (vpb (alk g v N) (i6 + 1))) (b32 (vhb (alk g v N) (i6 + 1))) (nI (i6 + 1)) M' = some (nI U, M'') ∧ KM C S M0 M'') : ∀ (e n cc : Nat) (it : Nat) (M : zM), cc + e = N → e < n → KM c s M0 M → VB M P h l d N v lk → AR M r → IT M it l cc → mX M0 ≤ it → it ≠ r → 1026 < it → P < it → h < it → l < it → (∀ j, j < N → ∀ o, mQ M d j = some o → o < it) → (∀ k, k < i6 → mA M r k = nI (alk g v N k)) → mA M r i6 = nI (g i6 + lys v cc i6) → ∃ M'', f_X7_valueOfTiles_41 K n 1026 P i2 r (b32 (vpb (alk g v N) i6)) (b32 (vhb (alk g v N) i6)) (nI i6) it M = some (nI U, M'') ∧ KM C S M0 M'' := by
  intro e
  induction e with
  | zero =>
    intro n cc it M hc hn hk hb hx hi hit hitx h1 h2 h3 h4 h5 row r6
    obtain ⟨n, rfl⟩ : ∃ m, n = m + 1 := ⟨n - 1, by omega⟩
    obtain ⟨⟨l1, l2, l3, l4, l5⟩, -⟩ := hb.2.2.1
    obtain rfl : cc = N := by omega
    have row' : ∀ k, k < i6 + 1 → mA M r k = nI (alk g v cc k) := fun k hk9 => by
      by_cases y : k = i6
      · subst y; exact r6
      · exact row k (by omega)
    have l9 : alk g v cc i6 < 100000 := by
      have a1 := hg i6 hi6
      have a2 := sn_le (fun j => tlN (v j / 100) (v j % 100) i6) 4 cc 0 (fun j _ _ => by
        show tlN (v j / 100) (v j % 100) i6 ≤ 4
        unfold tlN
        repeat' split
        all_goals omega)
      unfold alk lys
      omega
    rw [f_X7_valueOfTiles_41, if_pos hi.1, r_hasNext hi l1 l3 (by omega) (by omega), Option.bind_some, if_pos rfl]
    dsimp only
    rw [if_pos rfl, e_lA hx.1 (by rw [hx.2.1]; exact hi6) (by rw [hx.2.1]; decide), Option.bind_some, r6, nI_1]
    obtain ⟨M'', e1, e2⟩ := hK M hk hb hx row'
    refine ⟨M'', ?_, e2⟩
    rw [vpb_st, vhb_st] at e1
    by_cases y : alk g v cc i6 = 0
    · rw [if_pos y, if_pos y] at e1
      have y' : g i6 + lys v cc i6 = 0 := y
      rw [y', if_pos (show nI 0 = 0 from rfl)]
      exact e1
    · rw [if_neg y, if_neg y] at e1
      have y' : ¬ g i6 + lys v cc i6 = 0 := y
      have l9' : g i6 + lys v cc i6 < 100000 := l9
      rw [if_neg (eq_f (y := 0) (g i6 + lys v cc i6) 0 y' (by omega) (by decide)), x_isEnd (by omega), Option.bind_some]
      dsimp only
      have k105 : ∀ p : Bool, f_X7_valueOfTiles_105 K 1026 P i2 r (b32 (vhb (alk g v cc) i6)) (nI i6) (b32 p) (b32 (vpb (alk g v cc) i6)) M = K 1026 P i2 r (b32 (vpb (alk g v cc) i6 && p)) (b32 (vhb (alk g v cc) i6 || decide (18 ≤ i6))) (nI (i6 + 1)) M := fun p => by
        unfold f_X7_valueOfTiles_105
        rw [nI_1, b32_and]
        by_cases z : i6 < 18
        · rw [if_pos (lt_t (y := 18) i6 18 z (by decide)), decide_eq_false (by omega)]
          exact congrArg (fun q => K 1026 P i2 r (b32 (vpb (alk g v cc) i6 && p)) q (nI (i6 + 1)) M) (b32_orr _ false)
        · rw [if_neg (lt_f (y := 18) i6 18 (by omega) (by omega)), decide_eq_true (by omega)]
          exact congrArg (fun q => K 1026 P i2 r (b32 (vpb (alk g v cc) i6 && p)) q (nI (i6 + 1)) M) (b32_orr _ true)
      cases hv : vis i6 with
      | false =>
        rw [hv] at e1
        rw [if_pos (show b32 false = 0 from rfl)]
        exact (k105 true).trans e1
      | true =>
        rw [hv] at e1
        rw [if_neg (show ¬ b32 true = 0 by decide)]
        exact (k105 false).trans e1
  | succ e ih =>
    intro n cc it M hc hn hk hb hx hi hit hitx h1 h2 h3 h4 h5 row r6
    obtain ⟨n, rfl⟩ : ∃ m, n = m + 1 := ⟨n - 1, by omega⟩
    obtain ⟨⟨l1, l2, l3, l4, l5⟩, l6, l7⟩ := hb.2.2.1
    obtain ⟨d1, d2, d3, d4⟩ := l6 (by omega)
    obtain ⟨o, o1, o2, o3, o4, o5⟩ := l7 cc (by omega)
    obtain ⟨e1, e2⟩ := r_next hi l1 l3 (by omega) l2 d1 d2 d3 (by omega) o1
    have o22 : mK (sI (sI M 128 it (nI (cc + 1))) 129 it (nI cc)) o = 11 := o2
    have x2 : AR (sI (sI M 128 it (nI (cc + 1))) 129 it (nI cc)) r := hx
    have hk2 : KM c s M0 (sI (sI M 128 it (nI (cc + 1))) 129 it (nI cc)) := (hk.sI hit _ _).sI hit _ _
    have ne : ∀ {q b : Nat}, b < it → mI (sI (sI M 128 it (nI (cc + 1))) 129 it (nI cc)) q b = mI M q b := fun hb9 => (if_neg (fun z => by have := z.2; omega)).trans (if_neg (fun z => by have := z.2; omega))
    have o44 := (ne (h5 cc (by omega) o o1)).trans o4
    have o55 := (ne (h5 cc (by omega) o o1)).trans o5
    have hb2 : VB (sI (sI M 128 it (nI (cc + 1))) 129 it (nI cc)) P h l d N v lk := by
      obtain ⟨b1, b2, ⟨⟨c1, c2, c3, c4, c5⟩, c6, c7⟩, b4, ⟨b5, b6, b7, b8⟩⟩ := hb
      refine ⟨b1, b2, ⟨⟨c1, c2, (ne h4).trans c3, c4, c5⟩, c6, fun j hj => ?_⟩, b4, ⟨b5, (ne h1).trans b6, b7, b8⟩⟩
      obtain ⟨o, q1, q2, q3, q4, q5⟩ := c7 j hj
      exact ⟨o, q1, q2, q3, (ne (h5 j hj o q1)).trans q4, (ne (h5 j hj o q1)).trans q5⟩
    have h52 : ∀ j, j < N → ∀ o, mQ (sI (sI M 128 it (nI (cc + 1))) 129 it (nI cc)) d j = some o → o < it := h5
    have row2 : ∀ k, k < i6 → mA (sI (sI M 128 it (nI (cc + 1))) 129 it (nI cc)) r k = nI (alk g v N k) := row
    have r62 : mA (sI (sI M 128 it (nI (cc + 1))) 129 it (nI cc)) r i6 = nI (g i6 + lys v cc i6) := r6
    have v400 := hb.2.2.2.1 cc (by omega)
    generalize sI (sI M 128 it (nI (cc + 1))) 129 it (nI cc) = M2 at *
    have ey := r_X5_ofN (k := i6) o22 o44 o55 v400 hi6
    rw [f_X7_valueOfTiles_41, if_pos hi.1, r_hasNext hi l1 l3 (by omega) (by omega), Option.bind_some, if_neg (show ¬ cc = N by omega)]
    dsimp only
    rw [if_neg (show ¬ (1 : Int32) = 0 by decide), if_pos hi.1, e1, Option.bind_some]
    dsimp only
    rw [if_pos (Or.inl o22), e_lA x2.1 (by rw [x2.2.1]; exact hi6) (by rw [x2.2.1]; decide), Option.bind_some, if_pos o22, ey, Option.bind_some]
    dsimp only
    rw [r62, nI_add, e_tA x2.1 (by rw [x2.2.1]; exact hi6) (by rw [x2.2.1]; decide), Option.bind_some]
    have el : lys v (cc + 1) i6 = lys v cc i6 + tlN (v cc / 100) (v cc % 100) i6 := by
      unfold lys
      rw [sn_last, Nat.zero_add]
    exact ih n (cc + 1) it (sA M2 r i6 (nI (g i6 + lys v cc i6 + tlN (v cc / 100) (v cc % 100) i6))) (by omega) (by omega) (hk2.sA (by omega) _ _) hb2 x2 e2 hit hitx h1 h2 h3 h4 h52 (fun k hk9 => (if_neg (fun z => by have := z.2; omega)).trans (row2 k hk9)) ((if_pos ⟨rfl, rfl⟩).trans (congrArg nI (by omega)))
theorem x_vt_14 {lk r : Nat} {g : Nat → Nat} (hre : r = mX M0) (hP0 : P < mX M0 ∧ h < mX M0 ∧ l < mX M0) (hg : ∀ k, k < 25 → g k < 1000) (hw0 : ∀ k, k < 25 → mA M0 h k = nI (g k)) (hh0 : mL M0 h = 25) {cl : Bool} (hcl : mI M0 390 P = b32 cl) (al : Bool) : ∀ (e n i : Nat) (M : zM), i + e = 25 → e < n → KM (1 + i) (25 + 4 * i) M0 M → VB M P h l d N v lk → AR M r → (∀ k, k < i → mA M r k = nI (alk g v N k)) → ∃ M'', f_X7_valueOfTiles_14 n 1026 P (b32 al) r (b32 (vpb (alk g v N) i)) (b32 (vhb (alk g v N) i)) (nI i) M = some (nI (vtl al cl (sn (fun j => if v j / 100 = 3 then 0 else 1) 0 N) lk (alk g v N)), M'') ∧ KM 28 154 M0 M'' := by
  intro e
  induction e with
  | zero =>
    intro n i M hi hn hk hb hx row
    obtain ⟨n, rfl⟩ : ∃ m, n = m + 1 := ⟨n - 1, by omega⟩
    obtain rfl : i = 25 := by omega
    have hN64 : N ≤ 64 := hb.2.2.1.1.2.2.2.2
    have hx9 : ∀ k, k < 25 → alk g v N k < 10000 := fun k hk9 => by
      have a1 := hg k hk9
      have a2 := sn_le (fun j => tlN (v j / 100) (v j % 100) k) 4 N 0 (fun j _ _ => by
        show tlN (v j / 100) (v j % 100) k ≤ 4
        unfold tlN
        repeat' split
        all_goals omega)
      unfold alk lys
      omega
    have e390 : mI M 390 P = b32 cl := ((hk.2 P hP0.1).2.2.1 390).trans hcl
    rw [f_X7_valueOfTiles_14, if_pos (le_t (x := 25) 25 25 (by omega) (by omega)), e_gI 390 hb.1.1, Option.bind_some, e390, vpb_25, vhb_25]
    unfold vtl
    cases cl with
    | false =>
      rw [if_pos (show b32 false = 0 from rfl), if_neg (show ¬ false = true by decide)]
      obtain ⟨M', e, k⟩ := x_vt_144 hk hb hx row hx9 al (vpn (alk g v N) 0) 0 1
      exact ⟨M', e, k.w (by omega) (by omega)⟩
    | true =>
      rw [if_neg (show ¬ b32 true = 0 by decide), if_pos (show true = true from rfl)]
      obtain ⟨M', e, k⟩ := x_vt_144 hk hb hx row hx9 al (vpn (alk g v N) 0) 1 1
      exact ⟨M', e, k.w (by omega) (by omega)⟩
  | succ e ih =>
    intro n i M hi hn hk hb hx row
    obtain ⟨n, rfl⟩ : ∃ m, n = m + 1 := ⟨n - 1, by omega⟩
    have hi25 : i < 25 := by omega
    have hh := hb.2.1
    have ehi : mA M h i = nI (g i) := ((hk.2 h hP0.2.1).2.2.2.2.2.1 i (by rw [hh0]; exact hi25)).trans (hw0 i hi25)
    have hk1 : KM (1 + i) (25 + 4 * i) M0 (sA M r i (mA M h i)) := hk.sA (by omega) _ _
    have hb1 : VB (sA M r i (mA M h i)) P h l d N v lk := hb
    have hx1 : AR (sA M r i (mA M h i)) r := hx
    have row1 : ∀ k, k < i → mA (sA M r i (mA M h i)) r k = nI (alk g v N k) := fun k hk9 => (if_neg (fun z => by have := z.2; omega)).trans (row k hk9)
    have r61 : mA (sA M r i (mA M h i)) r i = nI (g i) := (if_pos ⟨rfl, rfl⟩).trans ehi
    rw [f_X7_valueOfTiles_14, if_neg (le_f (x := 25) 25 i (by omega) (by decide)), e_gR 386 hb.1.1 hb.1.2.1, Option.bind_some, e_lA hh.1 (by rw [hh.2.1]; exact hi25) (by rw [hh.2.1]; decide), Option.bind_some, e_tA hx.1 (by rw [hx.2.1]; exact hi25) (by rw [hx.2.1]; decide), Option.bind_some]
    generalize sA M r i (mA M h i) = M1 at *
    obtain ⟨⟨l1, l2, l3, l4, l5⟩, l6, l7⟩ := hb1.2.2.1
    obtain ⟨M2, e2, i2', k2⟩ := r_iter l1 l4
    have hb2 := hb1.km k2
    have hx2 := hx1.km k2
    have row2 := row_km hx1 (Nat.le_of_lt hi25) row1 k2
    have r62 : mA M2 r i = nI (g i + lys v 0 i) := ((k2.2 r hx1.2.2).2.2.2.2.2.1 i (by rw [hx1.2.1]; exact hi25)).trans r61
    have hk2 : KM (1 + (i + 1)) (25 + 4 * (i + 1)) M0 M2 := (hk1.tr k2).w (by omega) (by omega)
    rw [e_gR 387 hb1.1.1 hb1.1.2.2.1, Option.bind_some, if_pos l1, e2, Option.bind_some]
    dsimp only
    refine x_vt_41 (r := r) (c := 1 + (i + 1)) (s := 25 + 4 * (i + 1)) (C := 28) (S := 154) hi25 hre hg (b32 al) (K := f_X7_valueOfTiles_14 n) (fun M' q1 q2 q3 q4 => ih n (i + 1) M' (by omega) (by omega) q1 q2 q3 q4) N zN 0 (mX M1) M2 (by omega) (by show N < 130; omega) hk2 hb2 hx2 i2' hk1.1.1 (fun z => Nat.lt_irrefl _ (z ▸ hx1.2.2)) hb1.2.2.2.2.2.2.2 hb1.1.2.2.2 hb1.2.1.2.2 l4 (fun j hj o ho => ?_) row2 r62
    have hq : mQ M2 d = mQ M1 d := by
      have := (k2.2 d (l6 (by omega)).2.2.2).2.2.2.2.2.2
      exact this
    obtain ⟨o9, o1, o2, o3, -⟩ := l7 j hj
    rw [hq, o1] at ho
    cases ho
    exact o3
/-- by all tiles -/
theorem x_valueOfTiles {lk : Nat} {g : Nat → Nat} (hb : VB M P h l d N v lk) (hg : ∀ k, k < 25 → g k < 1000) (hw : ∀ k, k < 25 → mA M h k = nI (g k)) {cl : Bool} (hcl : mI M 390 P = b32 cl) (al : Bool) : ∃ M'', f_X7_valueOfTiles 1026 P (b32 al) M = some (nI (vtl al cl (sn (fun j => if v j / 100 = 3 then 0 else 1) 0 N) lk (alk g v N)), M'') ∧ KM 28 154 M M'' := by
  unfold f_X7_valueOfTiles f_X7_valueOfTiles_0
  have e25 : aA 0 M 25 = some (mX M, nA M 0 25) := e_aA (c := 25) (by decide) 0
  have t0 : b32 (vpb (alk g v N) 0) = 1 := by rw [show vpb (alk g v N) 0 = true from decide_eq_true fun k hk => absurd hk (Nat.not_lt_zero _)]; rfl
  have t1 : b32 (vhb (alk g v N) 0) = 0 := by rw [show vhb (alk g v N) 0 = false from decide_eq_false fun ⟨k, hk, _⟩ => absurd hk (Nat.not_lt_zero _)]; rfl
  rw [e25, Option.bind_some]
  dsimp only
  have r := x_vt_14 (M0 := M) (r := mX M) rfl ⟨hb.1.2.2.2, hb.2.1.2.2, hb.2.2.1.1.2.2.2.1⟩ hg hw hb.2.1.2.1 hcl al 25 zN 0 (nA M 0 25) rfl (by decide) ((KM.rf M).nA 0 25) (hb.nA 0 25) ⟨u1_at _ _ _, u1_at _ _ _, Nat.lt_succ_self _⟩ (fun k hk => absurd hk (Nat.not_lt_zero _))
  rw [t0, t1] at r
  exact r
end XTIL
