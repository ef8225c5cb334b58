/-! ===== THROWN, 2: what is asked with what is allowed ===== -/
section THR2
variable {M : zM}
theorem KX.d {α : Type} {L : List String} {c : Prop} [Decidable c] {x y : Option ((String ⊕ α) × zM)} (h1 : c → KX L x) (h2 : ¬ c → KX L y) : KX L (if c then x else y) := by
  by_cases h : c
  · rw [if_pos h]; exact h1 h
  · rw [if_neg h]; exact h2 h
theorem kx_nil {L : List String} : ∀ E, E ∈ ([] : List String) → E ∈ L := fun E h => absurd h List.not_mem_nil
theorem kx_xbr {α β : Type} {L : List String} {M1 : zM} {v : α} {x : Option ((String ⊕ α) × zM)} {f : α → zM → Option ((String ⊕ β) × zM)} (e : x = some (.inr v, M1)) (h : KX L (f v M1)) : KX L (xb x f) := by
  rw [e]
  exact h
theorem q_pl_ok {p : Nat} (hp : p < 4) (M : zM) : f_X3_requirePlayer (nI p) M = some (.inr (), M) := by
  unfold f_X3_requirePlayer f_X3_requirePlayer_0
  rw [if_neg (nI_nn (by omega)), if_pos (lt_t (y := 4) p 4 hp (by decide))]
theorem i10 {i : Nat} (hi : i < 10) (h0 : ¬ nI i = 0) (h1 : ¬ nI i = 1) (h2 : ¬ nI i = 2) (h3 : ¬ nI i = 3) (h4 : ¬ nI i = 4) (h5 : ¬ nI i = 5) (h6 : ¬ nI i = 6) (h7 : ¬ nI i = 7) (h8 : ¬ nI i = 8) (h9 : ¬ nI i = 9) : False := by
  have n0 : i ≠ 0 := fun e => h0 (by rw [e]; rfl)
  have n1 : i ≠ 1 := fun e => h1 (by rw [e]; rfl)
  have n2 : i ≠ 2 := fun e => h2 (by rw [e]; rfl)
  have n3 : i ≠ 3 := fun e => h3 (by rw [e]; rfl)
  have n4 : i ≠ 4 := fun e => h4 (by rw [e]; rfl)
  have n5 : i ≠ 5 := fun e => h5 (by rw [e]; rfl)
  have n6 : i ≠ 6 := fun e => h6 (by rw [e]; rfl)
  have n7 : i ≠ 7 := fun e => h7 (by rw [e]; rfl)
  have n8 : i ≠ 8 := fun e => h8 (by rw [e]; rfl)
  have n9 : i ≠ 9 := fun e => h9 (by rw [e]; rfl)
  omega
theorem kx_many {i : Nat} (hi : i < 10) {a0 : Nat} : KX [] (f_X3_many a0 (nI i) M) := by
  unfold f_X3_many f_X3_many_0
  refine KX.d (fun _ => ?_) fun h0 => KX.d (fun _ => ?_) fun h1 => KX.d (fun _ => ?_) fun h2 => KX.d (fun _ => ?_) fun h3 => KX.d (fun _ => ?_) fun h4 => KX.d (fun _ => ?_) fun h5 => KX.d (fun _ => ?_) fun h6 => KX.d (fun _ => ?_) fun h7 => KX.d (fun _ => ?_) fun h8 => KX.d (fun _ => ?_) fun h9 => absurd (i10 hi h0 h1 h2 h3 h4 h5 h6 h7 h8 h9) id
  · exact KX.b fun _ => KX.r
  · exact KX.b fun _ => KX.i KX.r (KX.b fun _ => KX.r)
  · exact KX.i (KX.b fun _ => KX.r) KX.n
  · exact KX.b fun _ => KX.r
  · exact KX.b fun _ => KX.i (KX.i (KX.b fun _ => KX.i (KX.b fun _ => KX.r) KX.n) KX.n) KX.r
  all_goals exact KX.b fun _ => KX.r
theorem kx_ofPlayer {p i : Nat} (hp : p < 4) (hi : i < 10) {a0 : Nat} : KX [] (f_X3_ofPlayer a0 (nI p) (nI i) M) := by
  unfold f_X3_ofPlayer f_X3_ofPlayer_0
  refine kx_xbr (q_pl_ok hp M) (KX.b fun _ => KX.b fun _ => ?_)
  refine KX.d (fun _ => ?_) fun h0 => KX.d (fun _ => ?_) fun h1 => KX.d (fun _ => ?_) fun h2 => KX.d (fun _ => ?_) fun h3 => KX.d (fun _ => ?_) fun h4 => KX.d (fun _ => ?_) fun h5 => KX.d (fun _ => ?_) fun h6 => KX.d (fun _ => ?_) fun h7 => KX.d (fun _ => ?_) fun h8 => KX.d (fun _ => ?_) fun h9 => absurd (i10 hi h0 h1 h2 h3 h4 h5 h6 h7 h8 h9) id
  · exact KX.b fun _ => KX.r
  · exact KX.b fun _ => KX.r
  · exact KX.i (KX.b fun _ => KX.r) KX.n
  · exact KX.i (KX.b fun _ => KX.r) KX.n
  · exact KX.b fun _ => KX.r
  · exact KX.b fun _ => KX.i KX.r KX.r
  · exact KX.b fun _ => KX.b fun _ => KX.b fun _ => KX.i (KX.b fun _ => KX.r) KX.n
  · exact KX.i (KX.b fun _ => KX.r) KX.n
  · exact KX.b fun _ => KX.r
  · exact KX.i (KX.b fun _ => KX.b fun _ => KX.i KX.r KX.r) KX.n
theorem kx_seen {k : Nat} (hk : k < 25) {a0 : Nat} : KX [] (f_X3_seen a0 (nI k) M) := by
  unfold f_X3_seen f_X3_seen_0
  exact kx_xbr (q_requireKind_ok hk M) (ke_X3_seen_8 kx_nil _)
theorem kx_outs_44 {L : List String} {a0 a2 : Nat} {i3 : Int32} : ∀ (n i : Nat) (i4 : Int32) (M : zM), i ≤ 25 → KX L (f_X3_outs_44 n a0 a2 i3 i4 (nI i) M) := by
  intro n
  induction n with
  | zero => exact fun _ _ _ _ => KX.n
  | succ n ih =>
    intro i i4 M hi
    rw [f_X3_outs_44, nI_1]
    refine KX.d (fun _ => KX.r) fun h => ?_
    have h25 : i < 25 := Nat.lt_of_not_le fun q => h (le_t (x := 25) 25 i q (by omega))
    refine KX.i (KX.b fun _ => KX.i (KX.xb (fun r e E e2 => absurd (kx_seen h25 r e E e2) List.not_mem_nil) fun _ _ => KX.i (ih _ _ _ h25) (KX.i (KX.b fun _ => KX.i (ih _ _ _ h25) (ih _ _ _ h25)) KX.n)) KX.n) KX.n
theorem kx_outs {a0 : Nat} {i : Int32} : KX ["java/lang/IndexOutOfBoundsException"] (f_X3_outs a0 i M) := by
  unfold f_X3_outs f_X3_outs_0
  refine KX.xb (ke_X3_requirePlayer (fun E h => h)) fun _ _ => KX.b fun _ => KX.b fun _ => KX.i (KX.b fun _ => KX.i (KX.b fun _ => KX.b fun _ => KX.b fun _ => KX.i (KX.b fun _ => kx_outs_44 _ 0 _ _ (by decide)) KX.n) KX.r) KX.n
theorem kx_dp14 {a0 a4 p : Nat} (hp : p < 4) : ∀ (n i : Nat) (v : Int64) (M : zM), i < 11 → KX [] (f_X3_digestPlayer_14 n a0 (nI p) a4 v (nI i) M) := by
  intro n
  induction n with
  | zero => exact fun _ _ _ _ => KX.n
  | succ n ih =>
    intro i v M hi
    rw [f_X3_digestPlayer_14, nI_1]
    refine KX.d (fun _ => ke_X3_digestPlayer_47 kx_nil _) fun h => ?_
    have h10 : i < 10 := Nat.lt_of_not_le fun q => h (lt_t (x := 9) 9 i (by omega) (by omega))
    exact KX.i (KX.xb (kx_ofPlayer hp h10) fun _ _ => ih _ _ _ (by omega)) KX.n
theorem kx_dig33 {a0 : Nat} : ∀ (n i : Nat) (v : Int64) (M : zM), i < 5 → KX [] (f_X3_digest_33 n a0 v (nI i) M) := by
  intro n
  induction n with
  | zero => exact fun _ _ _ _ => KX.n
  | succ n ih =>
    intro i v M hi
    rw [f_X3_digest_33, nI_1]
    refine KX.d (fun _ => KX.i (KX.b fun _ => KX.r) KX.n) fun h => ?_
    have h4 : i < 4 := Nat.lt_of_not_le fun q => h (le_t (x := 4) 4 i q (by omega))
    refine KX.i (KX.xb ?_ fun _ _ => ih _ _ _ (by omega)) KX.n
    unfold f_X3_digestPlayer f_X3_digestPlayer_0
    exact KX.b fun _ => KX.b fun _ => kx_dp14 h4 _ 0 _ _ (by decide)
theorem kx_dig6 {a0 : Nat} : ∀ (n i : Nat) (v : Int64) (M : zM), i < 11 → KX [] (f_X3_digest_6 n a0 v (nI i) M) := by
  intro n
  induction n with
  | zero => exact fun _ _ _ _ => KX.n
  | succ n ih =>
    intro i v M hi
    rw [f_X3_digest_6, nI_1]
    refine KX.d (fun _ => kx_dig33 _ 0 _ _ (by decide)) fun h => ?_
    have h10 : i < 10 := Nat.lt_of_not_le fun q => h (lt_t (x := 9) 9 i (by omega) (by omega))
    exact KX.i (KX.xb (kx_many h10) fun _ _ => ih _ _ _ (by omega)) KX.n
theorem kx_digest {a0 : Nat} : KX [] (f_X3_digest a0 M) := by
  unfold f_X3_digest f_X3_digest_0
  exact kx_dig6 _ 0 _ _ (by decide)
end THR2
