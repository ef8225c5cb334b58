/-! ===== THE START: what lies then; the whole ===== -/
def G0 : zG := (fun k => if k = 0 then 1 else if k = 4 then 3 else 0, fun _ _ => 0, fun _ => 0, fun _ _ => 0, fun _ => 0, fun _ _ => 0, fun _ => 0, fun _ => false)
section START
variable {n : Nat} {xs : Nat → Int32} {o : Option Nat}
set_option maxRecDepth 65536 in
theorem f4 {P : Nat → Prop} (h0 : P 0) (h1 : P 1) (h2 : P 2) (h3 : P 3) : ∀ p, p < 4 → P p
  | 0, _ => h0
  | 1, _ => h1
  | 2, _ => h2
  | 3, _ => h3
  | _ + 4, h => absurd h (by omega)
set_option maxRecDepth 65536 in
theorem wx0 : WX G0 := by
  have hs : ∀ p, sz G0 p = 0 := fun p => (congrArg (· + 3 * 0) (sn_0 (fun _ => 0) 25 0 (fun _ _ _ => rfl))).trans rfl
  have hT : ∀ k, TT G0 k = 0 := fun k => sn_0 _ 4 0 (fun p _ _ => rfl)
  have hM : sn (eM G0) 0 4 = 0 := rfl
  refine ⟨⟨by decide, by decide, by decide, by decide, by decide, by decide, by decide, by decide, fun z => absurd rfl z⟩, fun p _ => ⟨fun j hj => absurd hj (Nat.not_lt_zero j), fun j hj => absurd hj (Nat.not_lt_zero j)⟩, fun p _ => ⟨fun z => absurd rfl z, by rw [hs]; decide, fun _ => hs p⟩, ?_, fun k _ => by rw [hT]; exact Nat.zero_le _, fun z => absurd (show (3 : Nat) = 2 from z) (by decide), Or.inl ⟨rfl, rfl⟩, fun z => absurd (show (3 : Nat) = 1 from z) (by decide), fun z => absurd rfl z, fun z => absurd rfl z⟩
  unfold W4
  rw [hM]
  decide
set_option maxRecDepth 65536 in
theorem c0sh : CSH (zi_88 n xs o) := by
  refine ⟨rfl, rfl, rfl, rfl, ⟨rfl, rfl, f4 rfl rfl rfl rfl⟩, ⟨rfl, rfl, rfl, rfl, rfl, rfl, ⟨rfl, rfl⟩, fun i i1 i2 => ?_, by decide⟩, ⟨rfl, rfl, rfl, rfl⟩, f4 ⟨rfl, rfl, rfl, rfl, ⟨rfl, rfl⟩, ⟨rfl, rfl⟩, rfl, rfl⟩ ⟨rfl, rfl, rfl, rfl, ⟨rfl, rfl⟩, ⟨rfl, rfl⟩, rfl, rfl⟩ ⟨rfl, rfl, rfl, rfl, ⟨rfl, rfl⟩, ⟨rfl, rfl⟩, rfl, rfl⟩ ⟨rfl, rfl, rfl, rfl, ⟨rfl, rfl⟩, ⟨rfl, rfl⟩, rfl, rfl⟩, fun b b1 b2 => ?_⟩
  · match i, i1, i2 with
    | 1, _, _ => exact ⟨rfl, rfl⟩
    | 2, _, _ => exact ⟨rfl, rfl⟩
    | 3, _, _ => exact ⟨rfl, rfl⟩
    | 4, _, _ => exact ⟨rfl, rfl⟩
    | 0, h, _ => exact absurd h (by decide)
    | _ + 5, _, h => exact absurd h (by omega)
  · match b, b1, b2 with
    | 1, _, _ => exact ⟨rfl, rfl⟩
    | 2, _, _ => exact ⟨rfl, rfl⟩
    | 3, _, _ => exact ⟨rfl, rfl⟩
    | 0, h, _ => exact absurd h (by decide)
    | _ + 4, _, h => exact absurd h (by omega)
set_option maxRecDepth 65536 in
theorem c0r : CR (mI (zi_88 n xs o)) (mJ (zi_88 n xs o)) (mA (zi_88 n xs o)) G0 := by
  have m1 : (-1 : Int32) + 1 = nI 0 := by decide
  have a1 : mI (zi_88 n xs o) 297 1000 = -1 := rfl
  have a2 : mI (zi_88 n xs o) 302 1000 = -1 := rfl
  have no : ∀ {P : Nat → Prop} j, j < 0 → P j := fun j h => absurd h (Nat.not_lt_zero j)
  refine ⟨⟨rfl, rfl, rfl, rfl, rfl, rfl, by rw [a1]; exact m1, rfl, by rw [a2]; exact m1, rfl⟩, f4 ⟨fun _ _ => rfl, rfl, fun j h => absurd h (Nat.not_lt_zero j), rfl, fun j h => absurd h (Nat.not_lt_zero j), rfl, rfl⟩ ⟨fun _ _ => rfl, rfl, fun j h => absurd h (Nat.not_lt_zero j), rfl, fun j h => absurd h (Nat.not_lt_zero j), rfl, rfl⟩ ⟨fun _ _ => rfl, rfl, fun j h => absurd h (Nat.not_lt_zero j), rfl, fun j h => absurd h (Nat.not_lt_zero j), rfl, rfl⟩ ⟨fun _ _ => rfl, rfl, fun j h => absurd h (Nat.not_lt_zero j), rfl, fun j h => absurd h (Nat.not_lt_zero j), rfl, rfl⟩⟩
set_option maxRecDepth 65536 in
theorem tb0 : TB (mA (zi_88 n xs o)) := fun f hf => by
  match f, hf with
  | 0, _ => exact ⟨rfl, rfl, rfl⟩
  | 1, _ => exact ⟨rfl, rfl, rfl⟩
  | 2, _ => exact ⟨rfl, rfl, rfl⟩
  | 3, _ => exact ⟨rfl, rfl, rfl⟩
  | 4, _ => exact ⟨rfl, rfl, rfl⟩
  | _ + 5, h => exact absurd h (by omega)
set_option maxRecDepth 65536 in
theorem t0x : TX (zi_88 n xs o) := ⟨⟨rfl, rfl⟩, fun x hx => by
  rcases hx with rfl | rfl
  · exact ⟨rfl, rfl, rfl, rfl, rfl⟩
  · exact ⟨rfl, rfl, rfl, rfl, rfl⟩⟩
def E0 : zPt := (fun _ => 250, fun _ => 0, 0, -1, -1)
set_option maxRecDepth 65536 in
theorem ce0 : CE (mI (zi_88 n xs o)) E0 := ⟨(f4 ⟨rfl, rfl⟩ ⟨rfl, rfl⟩ ⟨rfl, rfl⟩ ⟨rfl, rfl⟩), rfl, rfl, rfl⟩
set_option maxRecDepth 65536 in
theorem qk0 : QK n xs 0 (zi_88 n xs o) G0 E0 := ⟨c0sh, c0r, ce0, tb0, t0x, ⟨by rw [show mX (zi_88 n xs o) = 1026 from rfl]; decide, fun k a v ha e => (pi_88.1 k a v e).1 ha, fun a i v ha e => pi_88.2 a i v e ha⟩, ⟨rfl, rfl, fun i _ => rfl⟩, by rw [show mX (zi_88 n xs o) = 1026 from rfl]; decide, by rw [show mS (zi_88 n xs o) = 496 from rfl]; decide⟩
theorem gi0 : GI 0 0 G0 E0 := ⟨⟨wx0, fun p _ j hj => absurd hj (Nat.not_lt_zero j)⟩, ⟨fun p _ hc => absurd (show false = true from hc) (by decide), WH.no (by decide)⟩, fun z => absurd rfl z, by decide, fun _ => ⟨fun p _ => ⟨250, rfl, by decide⟩, 0, rfl, by decide, by decide⟩, ⟨rfl, Nat.le_refl _⟩, by decide⟩
theorem zpure (hn : n ≤ 260) (o : Option Nat) : ∃ M' : zM, f_L_law 0 (zM0 n xs o) = some ((), M') ∧ mX M' ≤ 1000 + 600130 ∧ mS M' ≤ 7301080 := by
  rw [ir_law]
  obtain ⟨M', e, b1, b2⟩ := w_law hn 130 zNL 0 0 0 0 (zi_88 n xs o) G0 E0 rfl (by decide) qk0 gi0 (Nat.le_refl _) (Nat.le_refl _) (Or.inl rfl)
  exact ⟨M', e, by omega, by omega⟩
end START
