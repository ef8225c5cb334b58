/-! ===== THE START: what lies then; the whole ===== -/
def G0 : zG := (fun k => if k = 0 then 1 else if k = 4 then 3 else 0, fun _ _ => 0, fun _ => 0, fun _ _ => 0, fun _ => 0, fun _ _ => 0, fun _ => 0, fun _ => false)
section START
variable {n : Nat} {xs : Nat → Int32} {o : Option Nat}
set_option maxRecDepth 65536 in
theorem f4 {P : Nat → Prop} (h0 : P 0) (h1 : P 1) (h2 : P 2) (h3 : P 3) : ∀ p, p < 4 → P p
  | 0, _ => h0
  | 1, _ => h1
  | 2, _ => h2
  | 3, _ => h3
  | _ + 4, h => absurd h (by omega)
set_option maxRecDepth 65536 in
theorem wx0 : WX G0 := by
  have hs : ∀ p, sz G0 p = 0 := fun p => (congrArg (· + 3 * 0) (sn_0 (fun _ => 0) 25 0 (fun _ _ _ => rfl))).trans rfl
  have hT : ∀ k, TT G0 k = 0 := fun k => sn_0 _ 4 0 (fun p _ _ => rfl)
  have hM : sn (eM G0) 0 4 = 0 := rfl
  refine ⟨⟨by decide, by decide, by decide, by decide, by decide, by decide, by decide, by decide, fun z => absurd rfl z⟩, fun p _ => ⟨fun j hj => absurd hj (Nat.not_lt_zero j), fun j hj => absurd hj (Nat.not_lt_zero j)⟩, fun p _ => ⟨fun z => absurd rfl z, by rw [hs]; decide, fun _ => hs p⟩, ?_, fun k _ => by rw [hT]; exact Nat.zero_le _, fun z => absurd (show (3 : Nat) = 2 from z) (by decide), Or.inl ⟨rfl, rfl⟩, fun z => absurd (show (3 : Nat) = 1 from z) (by decide), fun z => absurd rfl z, fun z => absurd rfl z⟩
  unfold W4
  rw [hM]
  decide
set_option maxRecDepth 65536 in
theorem c0sh : CSH (zi_152 n xs o) := by
  refine ⟨rfl, rfl, rfl, rfl, ⟨rfl, rfl, f4 rfl rfl rfl rfl⟩, ⟨rfl, rfl, rfl, rfl, rfl, rfl, ⟨rfl, rfl⟩, fun i i1 i2 => ?_, by decide⟩, ⟨rfl, rfl, rfl, rfl⟩, f4 ⟨rfl, rfl, rfl, rfl, ⟨rfl, rfl⟩, ⟨rfl, rfl⟩, rfl, rfl⟩ ⟨rfl, rfl, rfl, rfl, ⟨rfl, rfl⟩, ⟨rfl, rfl⟩, rfl, rfl⟩ ⟨rfl, rfl, rfl, rfl, ⟨rfl, rfl⟩, ⟨rfl, rfl⟩, rfl, rfl⟩ ⟨rfl, rfl, rfl, rfl, ⟨rfl, rfl⟩, ⟨rfl, rfl⟩, rfl, rfl⟩, fun b b1 b2 => ?_⟩
  · match i, i1, i2 with
    | 1, _, _ => exact ⟨rfl, rfl⟩
    | 2, _, _ => exact ⟨rfl, rfl⟩
    | 3, _, _ => exact ⟨rfl, rfl⟩
    | 4, _, _ => exact ⟨rfl, rfl⟩
    | 0, h, _ => exact absurd h (by decide)
    | _ + 5, _, h => exact absurd h (by omega)
  · match b, b1, b2 with
    | 1, _, _ => exact ⟨rfl, rfl⟩
    | 2, _, _ => exact ⟨rfl, rfl⟩
    | 3, _, _ => exact ⟨rfl, rfl⟩
    | 0, h, _ => exact absurd h (by decide)
    | _ + 4, _, h => exact absurd h (by omega)
set_option maxRecDepth 65536 in
theorem c0r : CR (mI (zi_152 n xs o)) (mJ (zi_152 n xs o)) (mA (zi_152 n xs o)) G0 := by
  have m1 : (-1 : Int32) + 1 = nI 0 := by decide
  have a1 : mI (zi_152 n xs o) 297 1000 = -1 := rfl
  have a2 : mI (zi_152 n xs o) 302 1000 = -1 := rfl
  have no : ∀ {P : Nat → Prop} j, j < 0 → P j := fun j h => absurd h (Nat.not_lt_zero j)
  refine ⟨⟨rfl, rfl, rfl, rfl, rfl, rfl, by rw [a1]; exact m1, rfl, by rw [a2]; exact m1, rfl⟩, f4 ⟨fun _ _ => rfl, rfl, fun j h => absurd h (Nat.not_lt_zero j), rfl, fun j h => absurd h (Nat.not_lt_zero j), rfl, rfl⟩ ⟨fun _ _ => rfl, rfl, fun j h => absurd h (Nat.not_lt_zero j), rfl, fun j h => absurd h (Nat.not_lt_zero j), rfl, rfl⟩ ⟨fun _ _ => rfl, rfl, fun j h => absurd h (Nat.not_lt_zero j), rfl, fun j h => absurd h (Nat.not_lt_zero j), rfl, rfl⟩ ⟨fun _ _ => rfl, rfl, fun j h => absurd h (Nat.not_lt_zero j), rfl, fun j h => absurd h (Nat.not_lt_zero j), rfl, rfl⟩⟩
set_option maxRecDepth 65536 in
theorem r0s : RS (zi_152 n xs o) (fun p => 1029 + 4 * p) (fun _ => 4) := by
  have hX : mX (zi_152 n xs o) = 1046 := rfl
  refine ⟨⟨rfl, rfl, rfl, rfl, rfl, f4 rfl rfl rfl rfl, rfl, rfl⟩, f4 ⟨rfl, rfl, rfl, rfl, rfl, rfl⟩ ⟨rfl, rfl, rfl, rfl, rfl, rfl⟩ ⟨rfl, rfl, rfl, rfl, rfl, rfl⟩ ⟨rfl, rfl, rfl, rfl, rfl, rfl⟩, fun p hp => ?_, fun p q _ _ e => ?_, fun l hl => ⟨?_, Or.inl rfl⟩, fun _ _ _ _ _ => Or.inl rfl, ⟨⟨rfl, rfl⟩, ⟨rfl, rfl, fun i hi => ?_⟩, fun i hi => ?_⟩, by rw [hX]; decide⟩
  · have k : mK (zi_152 n xs o) (1029 + 4 * p) = 100 ∧ mL (zi_152 n xs o) (1029 + 4 * p) = 25 := by
      revert p
      exact f4 ⟨rfl, rfl⟩ ⟨rfl, rfl⟩ ⟨rfl, rfl⟩ ⟨rfl, rfl⟩
    refine ⟨k.1, k.2, ?_, ?_, ?_⟩
    · show 1029 ≤ 1029 + 4 * p
      omega
    · show 1029 + 4 * p ≠ 1044
      omega
    · rw [hX]
      show 1029 + 4 * p < 1046
      omega
  · have e' : 1029 + 4 * p = 1029 + 4 * q := e
    omega
  · obtain ⟨p, hp, rfl | rfl⟩ := hl
    · revert p
      exact f4 rfl rfl rfl rfl
    · revert p
      exact f4 rfl rfl rfl rfl
  · exact (show mQ (zi_152 n xs o) 5 i = zQ0 o 5 i from rfl).trans (if_pos ⟨rfl, hi⟩)
  · refine (pb_152.2 (100 + i) (by omega)).1.trans ?_
    unfold zK0
    rw [if_neg (by omega), if_neg (by omega), if_neg (by omega), if_neg (by omega), if_neg (by omega), if_neg (by omega), if_pos (by omega)]
set_option maxRecDepth 65536 in
theorem r0n : RN (mI (zi_152 n xs o)) (mJ (zi_152 n xs o)) (mA (zi_152 n xs o)) (zi_152 n xs o) G0 (fun p => 1029 + 4 * p) (fun _ => 4) := by
  have m1 : (-1 : Int32) + 1 = nI 0 := by decide
  have a1 : mI (zi_152 n xs o) 424 1026 = -1 := rfl
  refine ⟨⟨rfl, rfl, by rw [a1]; exact m1, rfl, rfl, fun z => absurd rfl z, fun z => absurd (show (3 : Nat) = 1 from z) (by decide), fun z => absurd (show (3 : Nat) = 2 from z) (by decide)⟩, f4 ⟨fun _ _ => rfl, ⟨rfl, fun _ => rfl, fun z => absurd rfl z, fun j h => absurd h (Nat.not_lt_zero j)⟩, ⟨rfl, fun _ => rfl, fun z => absurd rfl z, fun j h => absurd h (Nat.not_lt_zero j)⟩, rfl, rfl⟩ ⟨fun _ _ => rfl, ⟨rfl, fun _ => rfl, fun z => absurd rfl z, fun j h => absurd h (Nat.not_lt_zero j)⟩, ⟨rfl, fun _ => rfl, fun z => absurd rfl z, fun j h => absurd h (Nat.not_lt_zero j)⟩, rfl, rfl⟩ ⟨fun _ _ => rfl, ⟨rfl, fun _ => rfl, fun z => absurd rfl z, fun j h => absurd h (Nat.not_lt_zero j)⟩, ⟨rfl, fun _ => rfl, fun z => absurd rfl z, fun j h => absurd h (Nat.not_lt_zero j)⟩, rfl, rfl⟩ ⟨fun _ _ => rfl, ⟨rfl, fun _ => rfl, fun z => absurd rfl z, fun j h => absurd h (Nat.not_lt_zero j)⟩, ⟨rfl, fun _ => rfl, fun z => absurd rfl z, fun j h => absurd h (Nat.not_lt_zero j)⟩, rfl, rfl⟩, fun i hi => ?_⟩
  refine ((pb_152.2 (100 + i) (by omega)).2 96).trans ?_
  unfold zI0
  rw [if_pos ⟨rfl, by omega, by omega⟩, Nat.add_sub_cancel_left]
set_option maxRecDepth 65536 in
theorem kd26 : ∀ d, d < 26 → rk (mK (zi_152 n xs o) (1000 + d)) = false
  | 0, _ => (congrArg rk (show mK (zi_152 n xs o) (1000 + 0) = 9 from rfl)).trans (by decide)
  | 1, _ => (congrArg rk (show mK (zi_152 n xs o) (1000 + 1) = 111 from rfl)).trans (by decide)
  | 2, _ => (congrArg rk (show mK (zi_152 n xs o) (1000 + 2) = 6 from rfl)).trans (by decide)
  | 3, _ => (congrArg rk (show mK (zi_152 n xs o) (1000 + 3) = 100 from rfl)).trans (by decide)
  | 4, _ => (congrArg rk (show mK (zi_152 n xs o) (1000 + 4) = 100 from rfl)).trans (by decide)
  | 5, _ => (congrArg rk (show mK (zi_152 n xs o) (1000 + 5) = 100 from rfl)).trans (by decide)
  | 6, _ => (congrArg rk (show mK (zi_152 n xs o) (1000 + 6) = 100 from rfl)).trans (by decide)
  | 7, _ => (congrArg rk (show mK (zi_152 n xs o) (1000 + 7) = 100 from rfl)).trans (by decide)
  | 8, _ => (congrArg rk (show mK (zi_152 n xs o) (1000 + 8) = 8 from rfl)).trans (by decide)
  | 9, _ => (congrArg rk (show mK (zi_152 n xs o) (1000 + 9) = 100 from rfl)).trans (by decide)
  | 10, _ => (congrArg rk (show mK (zi_152 n xs o) (1000 + 10) = 7 from rfl)).trans (by decide)
  | 11, _ => (congrArg rk (show mK (zi_152 n xs o) (1000 + 11) = 100 from rfl)).trans (by decide)
  | 12, _ => (congrArg rk (show mK (zi_152 n xs o) (1000 + 12) = 100 from rfl)).trans (by decide)
  | 13, _ => (congrArg rk (show mK (zi_152 n xs o) (1000 + 13) = 100 from rfl)).trans (by decide)
  | 14, _ => (congrArg rk (show mK (zi_152 n xs o) (1000 + 14) = 7 from rfl)).trans (by decide)
  | 15, _ => (congrArg rk (show mK (zi_152 n xs o) (1000 + 15) = 100 from rfl)).trans (by decide)
  | 16, _ => (congrArg rk (show mK (zi_152 n xs o) (1000 + 16) = 100 from rfl)).trans (by decide)
  | 17, _ => (congrArg rk (show mK (zi_152 n xs o) (1000 + 17) = 100 from rfl)).trans (by decide)
  | 18, _ => (congrArg rk (show mK (zi_152 n xs o) (1000 + 18) = 7 from rfl)).trans (by decide)
  | 19, _ => (congrArg rk (show mK (zi_152 n xs o) (1000 + 19) = 100 from rfl)).trans (by decide)
  | 20, _ => (congrArg rk (show mK (zi_152 n xs o) (1000 + 20) = 100 from rfl)).trans (by decide)
  | 21, _ => (congrArg rk (show mK (zi_152 n xs o) (1000 + 21) = 100 from rfl)).trans (by decide)
  | 22, _ => (congrArg rk (show mK (zi_152 n xs o) (1000 + 22) = 7 from rfl)).trans (by decide)
  | 23, _ => (congrArg rk (show mK (zi_152 n xs o) (1000 + 23) = 100 from rfl)).trans (by decide)
  | 24, _ => (congrArg rk (show mK (zi_152 n xs o) (1000 + 24) = 100 from rfl)).trans (by decide)
  | 25, _ => (congrArg rk (show mK (zi_152 n xs o) (1000 + 25) = 100 from rfl)).trans (by decide)
  | _ + 26, h => absurd h (by omega)
set_option maxRecDepth 65536 in
theorem k0d : KD (zi_152 n xs o) := by
  refine ⟨(by rw [show mX (zi_152 n xs o) = 1046 from rfl]; decide), fun a ha => ?_⟩
  by_cases y : a < 1000
  · rw [(pb_152.2 a y).1]
    unfold zK0
    repeat' split
    all_goals rfl
  · obtain ⟨d, rfl⟩ : ∃ d, a = 1000 + d := ⟨a - 1000, by omega⟩
    have hd : d < 26 := by omega
    revert hd
    clear ha y
    exact kd26 d
set_option maxRecDepth 65536 in
theorem t0x : TX (zi_152 n xs o) := ⟨⟨rfl, rfl⟩, fun x hx => by
  rcases hx with rfl | rfl
  · exact ⟨rfl, rfl, rfl, rfl, rfl⟩
  · exact ⟨rfl, rfl, rfl, rfl, rfl⟩⟩
set_option maxRecDepth 65536 in
theorem ck0 : CK n xs (zi_152 n xs o) G0 G0 (fun p => 1029 + 4 * p) (fun _ => 4) :=
  ⟨⟨c0sh, c0r⟩, ⟨r0s, r0n⟩, ⟨⟨by rw [show mX (zi_152 n xs o) = 1046 from rfl]; decide, fun k a v ha e => (pi_152.1 k a v e).1 ha, fun a i v ha e => pi_152.2 a i v e ha⟩, k0d, fun a v e => e.elim (fun z => (pi_152.1 386 a v z).2 (Or.inl rfl)) (fun z => (pi_152.1 418 a v z).2 (Or.inr rfl)), t0x⟩, ⟨rfl, rfl, fun _ _ => rfl⟩, rfl⟩
theorem w90 : W9 G0 := fun p _ j hj => absurd hj (Nat.not_lt_zero j)
set_option maxRecDepth 65536 in
theorem tb0 : TB (mA (zi_152 n xs o)) := fun f hf => by
  match f, hf with
  | 0, _ => exact ⟨rfl, rfl, rfl⟩
  | 1, _ => exact ⟨rfl, rfl, rfl⟩
  | 2, _ => exact ⟨rfl, rfl, rfl⟩
  | 3, _ => exact ⟨rfl, rfl, rfl⟩
  | 4, _ => exact ⟨rfl, rfl, rfl⟩
  | _ + 5, h => exact absurd h (by omega)
set_option maxRecDepth 65536 in
theorem ek0 : EK 0 (zi_152 n xs o) := ⟨tb0, (fun _ => 250, fun _ => 0, 0, -1, -1), ⟨(f4 ⟨rfl, rfl⟩ ⟨rfl, rfl⟩ ⟨rfl, rfl⟩ ⟨rfl, rfl⟩), rfl, rfl, rfl⟩, ⟨(f4 ⟨rfl, rfl⟩ ⟨rfl, rfl⟩ ⟨rfl, rfl⟩ ⟨rfl, rfl⟩), rfl, rfl, rfl⟩, fun _ => ⟨fun p _ => ⟨250, rfl, by decide⟩, 0, rfl, by decide, by decide⟩⟩
set_option maxRecDepth 65536 in
theorem zpure (hn : n ≤ 2048) (o : Option Nat) : ∃ M' : zM, f_L_law 0 (zM0 n xs o) = some ((), M') ∧ mX M' ≤ 1000 + 601024 ∧ mS M' ≤ 7293034 := by
  rw [ir_law]
  refine law_27 hn (n / 4) 0 zNL (zi_152 n xs o) G0 (fun p => 1029 + 4 * p) (fun _ => 4) (Nat.zero_add _) (by show n / 4 < 520; omega) ck0 wx0 w90 ek0 (Nat.le_refl _) ⟨?_, ?_⟩
  · rw [show mX (zi_152 n xs o) = 1046 from rfl]
    decide
  · rw [show mS (zi_152 n xs o) = 770 from rfl]
    decide
end START
