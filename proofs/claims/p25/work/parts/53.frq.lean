/-! ===== FRAMES: points, wins, pot, lucky kind and winner stay ===== -/
def ek (k : Nat) : Bool := k == 231 || k == 232 || k == 299 || k == 300 || k == 301 || k == 384 || k == 385 || k == 421 || k == 427 || k == 428
def FQ (M0 M : zM) : Prop := mX M0 ≤ mX M ∧ ∀ k b, ek k = true → b < mX M0 → mI M k b = mI M0 k b
section FQR
variable {M0 M : zM} {a c k t : Nat}
theorem FQ.rf (M : zM) : FQ M M := ⟨Nat.le_refl _, fun _ _ _ _ => rfl⟩
theorem FQ.tr {M1 M2 : zM} (h : FQ M0 M1) (g : FQ M1 M2) : FQ M0 M2 := ⟨Nat.le_trans h.1 g.1, fun k b e hb => (g.2 k b e (Nat.lt_of_lt_of_le hb h.1)).trans (h.2 k b e hb)⟩
theorem FQ.sI {v : Int32} (h : FQ M0 M) (q : Nat) (hq : ek q = false) : FQ M0 (sI M q a v) := ⟨h.1, fun k b e hb => (if_neg (fun z => by rw [z.1, hq] at e; cases e)).trans (h.2 k b e hb)⟩
theorem fq_pI {v : Int32} (h : FQ M0 M) (hc : ek (32 * c + k) = false) (M' : zM) (e : pI c k M a v = some M') : FQ M0 M' := by
  obtain ⟨q, e⟩ := ox e
  cases e
  exact h.sI _ hc
theorem fq_pZ {v : Int32} (h : FQ M0 M) (hc : ek (32 * c + k) = false) (M' : zM) (e : pZ c k M a v = some M') : FQ M0 M' := by
  obtain ⟨q, e⟩ := ox e
  cases e
  exact h.sI _ hc
theorem fq_pJ {v : Int64} (h : FQ M0 M) (hc : (0 : Nat) = 0) (M' : zM) (e : pJ c k M a v = some M') : FQ M0 M' := by
  obtain ⟨q, e⟩ := ox e
  cases e
  exact h
theorem fq_pD {v : UInt64} (h : FQ M0 M) (hc : (0 : Nat) = 0) (M' : zM) (e : pD c k M a v = some M') : FQ M0 M' := by
  obtain ⟨q, e⟩ := ox e
  cases e
  exact h
theorem fq_pR {v : Nat} (h : FQ M0 M) (hc : (0 : Nat) = 0) (M' : zM) (e : pR c k M a v = some M') : FQ M0 M' := by
  obtain ⟨q, e⟩ := ox e
  cases e
  exact h
theorem fq_tA {i v : Int32} (h : FQ M0 M) (M' : zM) (e : tA M a i v = some M') : FQ M0 M' := by
  obtain ⟨q, e⟩ := ox e
  cases e
  exact h
theorem fq_tB {i v : Int32} (h : FQ M0 M) (M' : zM) (e : tB M a i v = some M') : FQ M0 M' := by
  obtain ⟨q, e⟩ := ox e
  cases e
  exact h
theorem fq_tZ {i v : Int32} (h : FQ M0 M) (M' : zM) (e : tZ M a i v = some M') : FQ M0 M' := by
  obtain ⟨q, e⟩ := ox e
  cases e
  exact h
theorem fq_tQ {i : Int32} {v : Option Nat} (h : FQ M0 M) (M' : zM) (e : tQ t M a i v = some M') : FQ M0 M' := by
  obtain ⟨q, e⟩ := ox e
  cases e
  exact h
theorem fq_yI {b : Nat} {sp dp n : Int32} (h : FQ M0 M) (M' : zM) (e : yI t M a sp b dp n = some M') : FQ M0 M' := by
  obtain ⟨q, e⟩ := ox0 e
  cases e
  exact h
theorem fq_yQ {b : Nat} {sp dp n : Int32} (h : FQ M0 M) (M' : zM) (e : yQ M a sp b dp n = some M') : FQ M0 M' := by
  obtain ⟨q, e⟩ := ox0 e
  cases e
  exact h
theorem fq_nO (h : FQ M0 M) {N : Nat} : FQ M0 (nO M c N) := ⟨Nat.le_succ_of_le h.1, fun k b e hb => (if_neg (Nat.ne_of_lt (Nat.lt_of_lt_of_le hb h.1))).trans (h.2 k b e hb)⟩
theorem fq_nE (h : FQ M0 M) : FQ M0 (nE M) := ⟨Nat.le_succ_of_le h.1, h.2⟩
theorem fq_aA {n : Int32} (h : FQ M0 M) : KF (FQ M0) (aA t M n) := fun r e => by
  obtain ⟨-, e⟩ := ox e
  cases e
  exact ⟨Nat.le_succ_of_le h.1, h.2⟩
theorem fq_aQ {n : Int32} (h : FQ M0 M) : KF (FQ M0) (aQ t M n) := fun r e => by
  obtain ⟨-, e⟩ := ox e
  cases e
  exact ⟨Nat.le_succ_of_le h.1, h.2⟩
theorem fq_aC (h : FQ M0 M) : KF (FQ M0) (aC M a) := fun r e => by
  obtain ⟨-, e⟩ := ox0 e
  cases e
  exact ⟨Nat.le_succ_of_le h.1, h.2⟩
end FQR
theorem KF.xc {α β : Type} {Φ : zM → Prop} {x : Option ((String ⊕ α) × zM)} {c : String → zM → Option (β × zM)} {f : α → zM → Option (β × zM)} (hx : KF Φ x) (hc : ∀ E M, Φ M → KF Φ (c E M)) (hf : ∀ v M, Φ M → KF Φ (f v M)) : KF Φ (xc x c f) := fun r e => by
  rcases xcs e with ⟨E, M, e1, e2⟩ | ⟨v, M, e1, e2⟩
  · exact hc E M (hx _ e1) r e2
  · exact hf v M (hx _ e1) r e2

/-! ===== FRAMES: points, wins, pot, lucky kind and winner stay ===== -/
theorem kq_X1_clear_2 {M0 : zM} : ∀ (n : Nat) {a0 : Nat} {i1 : Int32} {M : zM}, FQ M0 M → KF (FQ M0) (f_X1_clear_2 n a0 i1 M) := by
  intro n
  induction n with
  | zero => exact fun _ => KF.n
  | succ n ih =>
    intro a0 i1 M hM
    rw [f_X1_clear_2]
    refine KF.i ?_ ?_
    · refine KF.w (fq_pJ hM rfl) fun M1 h_M1 => ?_
      refine KF.w (fq_pI h_M1 rfl) fun M2 h_M2 => ?_
      refine KF.w (fq_pI h_M2 rfl) fun M3 h_M3 => ?_
      refine KF.w (fq_pZ h_M3 rfl) fun M4 h_M4 => ?_
      exact KF.s h_M4
    · refine KF.b fun v5 => ?_
      refine KF.w (fq_tA hM) fun M6 h_M6 => ?_
      exact (ih h_M6)
theorem kq_X1_clear_0 {M0 : zM} {a0 : Nat} {M : zM} (hM : FQ M0 M) : KF (FQ M0) (f_X1_clear_0 a0 M) := by
  unfold f_X1_clear_0
  exact (kq_X1_clear_2 zN hM)
theorem kq_X1_clear {M0 : zM} {a0 : Nat} {M : zM} (hM : FQ M0 M) : KF (FQ M0) (f_X1_clear a0 M) := by
  unfold f_X1_clear
  exact (kq_X1_clear_0 hM)
theorem kq_X1_count_0 {M0 : zM} {a0 : Nat} {i1 : Int32} {M : zM} (hM : FQ M0 M) : KF (FQ M0) (f_X1_count_0 a0 i1 M) := by
  unfold f_X1_count_0
  refine KF.i ?_ ?_
  · exact KF.s hM
  · refine KF.i ?_ ?_
    · exact KF.s hM
    · refine KF.b fun v1 => ?_
      refine KF.b fun v2 => ?_
      exact KF.s hM
theorem kq_X1_count {M0 : zM} {a0 : Nat} {i1 : Int32} {M : zM} (hM : FQ M0 M) : KF (FQ M0) (f_X1_count a0 i1 M) := by
  unfold f_X1_count
  exact (kq_X1_count_0 hM)
theorem kq_X1_change_0 {M0 : zM} {a0 : Nat} {i1 : Int32} {i2 : Int32} {M : zM} (hM : FQ M0 M) : KF (FQ M0) (f_X1_change_0 a0 i1 i2 M) := by
  unfold f_X1_change_0
  refine KF.i ?_ ?_
  · exact KF.s hM
  · refine KF.i ?_ ?_
    · exact KF.s hM
    · refine KF.b fun v1 => ?_
      refine KF.b fun v2 => ?_
      refine KF.w (fq_tA hM) fun M3 h_M3 => ?_
      exact KF.s h_M3
theorem kq_X1_change {M0 : zM} {a0 : Nat} {i1 : Int32} {i2 : Int32} {M : zM} (hM : FQ M0 M) : KF (FQ M0) (f_X1_change a0 i1 i2 M) := by
  unfold f_X1_change
  exact (kq_X1_change_0 hM)
theorem kq_X1_inHand_4 {M0 : zM} : ∀ (n : Nat) {a0 : Nat} {i1 : Int32} {i2 : Int32} {M : zM}, FQ M0 M → KF (FQ M0) (f_X1_inHand_4 n a0 i1 i2 M) := by
  intro n
  induction n with
  | zero => exact fun _ => KF.n
  | succ n ih =>
    intro a0 i1 i2 M hM
    rw [f_X1_inHand_4]
    refine KF.i ?_ ?_
    · exact KF.s hM
    · refine KF.b fun v1 => ?_
      refine KF.b fun v2 => ?_
      exact (ih hM)
theorem kq_X1_inHand_0 {M0 : zM} {a0 : Nat} {M : zM} (hM : FQ M0 M) : KF (FQ M0) (f_X1_inHand_0 a0 M) := by
  unfold f_X1_inHand_0
  exact (kq_X1_inHand_4 zN hM)
theorem kq_X1_inHand {M0 : zM} {a0 : Nat} {M : zM} (hM : FQ M0 M) : KF (FQ M0) (f_X1_inHand a0 M) := by
  unfold f_X1_inHand
  exact (kq_X1_inHand_0 hM)
theorem kq_X1_size_0 {M0 : zM} {a0 : Nat} {M : zM} (hM : FQ M0 M) : KF (FQ M0) (f_X1_size_0 a0 M) := by
  unfold f_X1_size_0
  refine KF.i ?_ KF.n
  refine KF.c (kq_X1_inHand hM) fun r1 h_r1 => ?_
  refine KF.b fun v3 => ?_
  exact KF.s h_r1
theorem kq_X1_size {M0 : zM} {a0 : Nat} {M : zM} (hM : FQ M0 M) : KF (FQ M0) (f_X1_size a0 M) := by
  unfold f_X1_size
  exact (kq_X1_size_0 hM)
theorem kq_X1_openSets_4 {M0 : zM} : ∀ (n : Nat) {a0 : Nat} {i1 : Int32} {i2 : Int32} {M : zM}, FQ M0 M → KF (FQ M0) (f_X1_openSets_4 n a0 i1 i2 M) := by
  intro n
  induction n with
  | zero => exact fun _ => KF.n
  | succ n ih =>
    intro a0 i1 i2 M hM
    rw [f_X1_openSets_4]
    refine KF.b fun v1 => ?_
    refine KF.i ?_ ?_
    · exact KF.s hM
    · refine KF.i ?_ ?_
      · exact KF.s hM
      · refine KF.b fun v2 => ?_
        refine KF.b fun v3 => ?_
        refine KF.i ?_ ?_
        · exact (ih hM)
        · exact (ih hM)
theorem kq_X1_openSets_0 {M0 : zM} {a0 : Nat} {M : zM} (hM : FQ M0 M) : KF (FQ M0) (f_X1_openSets_0 a0 M) := by
  unfold f_X1_openSets_0
  exact (kq_X1_openSets_4 zN hM)
theorem kq_X1_openSets {M0 : zM} {a0 : Nat} {M : zM} (hM : FQ M0 M) : KF (FQ M0) (f_X1_openSets a0 M) := by
  unfold f_X1_openSets
  exact (kq_X1_openSets_0 hM)
theorem kq_X1_rowLies_2 {M0 : zM} : ∀ (n : Nat) {a0 : Nat} {i1 : Int32} {M : zM}, FQ M0 M → KF (FQ M0) (f_X1_rowLies_2 n a0 i1 M) := by
  intro n
  induction n with
  | zero => exact fun _ => KF.n
  | succ n ih =>
    intro a0 i1 M hM
    rw [f_X1_rowLies_2]
    refine KF.b fun v1 => ?_
    refine KF.i ?_ ?_
    · exact KF.s hM
    · refine KF.i ?_ ?_
      · exact KF.s hM
      · refine KF.b fun v2 => ?_
        refine KF.b fun v3 => ?_
        refine KF.i ?_ ?_
        · exact KF.s hM
        · exact (ih hM)
theorem kq_X1_rowLies_0 {M0 : zM} {a0 : Nat} {M : zM} (hM : FQ M0 M) : KF (FQ M0) (f_X1_rowLies_0 a0 M) := by
  unfold f_X1_rowLies_0
  exact (kq_X1_rowLies_2 zN hM)
theorem kq_X1_rowLies {M0 : zM} {a0 : Nat} {M : zM} (hM : FQ M0 M) : KF (FQ M0) (f_X1_rowLies a0 M) := by
  unfold f_X1_rowLies
  exact (kq_X1_rowLies_0 hM)
theorem kq_X1_tilesOf_0 {M0 : zM} {i0 : Int32} {i1 : Int32} {i2 : Int32} {M : zM} (hM : FQ M0 M) : KF (FQ M0) (f_X1_tilesOf_0 i0 i1 i2 M) := by
  unfold f_X1_tilesOf_0
  refine KF.i ?_ ?_
  · refine KF.i ?_ ?_
    · exact KF.s hM
    · refine KF.i ?_ ?_
      · exact KF.s hM
      · exact KF.s hM
  · refine KF.i ?_ ?_
    · refine KF.i ?_ ?_
      · exact KF.s hM
      · exact KF.s hM
    · exact KF.s hM
theorem kq_X1_tilesOf {M0 : zM} {i0 : Int32} {i1 : Int32} {i2 : Int32} {M : zM} (hM : FQ M0 M) : KF (FQ M0) (f_X1_tilesOf i0 i1 i2 M) := by
  unfold f_X1_tilesOf
  exact (kq_X1_tilesOf_0 hM)
theorem kq_X1_inSets_4 {M0 : zM} : ∀ (n : Nat) {a0 : Nat} {i1 : Int32} {i2 : Int32} {i3 : Int32} {M : zM}, FQ M0 M → KF (FQ M0) (f_X1_inSets_4 n a0 i1 i2 i3 M) := by
  intro n
  induction n with
  | zero => exact fun _ => KF.n
  | succ n ih =>
    intro a0 i1 i2 i3 M hM
    rw [f_X1_inSets_4]
    refine KF.b fun v1 => ?_
    refine KF.i ?_ ?_
    · exact KF.s hM
    · refine KF.i ?_ ?_
      · exact KF.s hM
      · refine KF.b fun v2 => ?_
        refine KF.b fun v3 => ?_
        refine KF.b fun v4 => ?_
        refine KF.b fun v5 => ?_
        refine KF.c (kq_X1_tilesOf hM) fun r6 h_r6 => ?_
        exact (ih h_r6)
theorem kq_X1_inSets_0 {M0 : zM} {a0 : Nat} {i1 : Int32} {M : zM} (hM : FQ M0 M) : KF (FQ M0) (f_X1_inSets_0 a0 i1 M) := by
  unfold f_X1_inSets_0
  exact (kq_X1_inSets_4 zN hM)
theorem kq_X1_inSets {M0 : zM} {a0 : Nat} {i1 : Int32} {M : zM} (hM : FQ M0 M) : KF (FQ M0) (f_X1_inSets a0 i1 M) := by
  unfold f_X1_inSets
  exact (kq_X1_inSets_0 hM)
theorem kq_X1_lying_8 {M0 : zM} : ∀ (n : Nat) {a0 : Nat} {i1 : Int32} {i2 : Int32} {i3 : Int32} {M : zM}, FQ M0 M → KF (FQ M0) (f_X1_lying_8 n a0 i1 i2 i3 M) := by
  intro n
  induction n with
  | zero => exact fun _ => KF.n
  | succ n ih =>
    intro a0 i1 i2 i3 M hM
    rw [f_X1_lying_8]
    refine KF.b fun v1 => ?_
    refine KF.i ?_ ?_
    · exact KF.s hM
    · refine KF.i ?_ ?_
      · exact KF.s hM
      · refine KF.b fun v2 => ?_
        refine KF.b fun v3 => ?_
        refine KF.i ?_ ?_
        · exact (ih hM)
        · exact (ih hM)
theorem kq_X1_lying_0 {M0 : zM} {a0 : Nat} {i1 : Int32} {M : zM} (hM : FQ M0 M) : KF (FQ M0) (f_X1_lying_0 a0 i1 M) := by
  unfold f_X1_lying_0
  refine KF.i ?_ KF.n
  refine KF.c (kq_X1_inSets hM) fun r1 h_r1 => ?_
  exact (kq_X1_lying_8 zN h_r1)
theorem kq_X1_lying {M0 : zM} {a0 : Nat} {i1 : Int32} {M : zM} (hM : FQ M0 M) : KF (FQ M0) (f_X1_lying a0 i1 M) := by
  unfold f_X1_lying
  exact (kq_X1_lying_0 hM)
theorem kq_X1_laySet_18 {M0 : zM} : ∀ (n : Nat) {a0 : Nat} {i1 : Int32} {i2 : Int32} {i3 : Int32} {M : zM}, FQ M0 M → KF (FQ M0) (f_X1_laySet_18 n a0 i1 i2 i3 M) := by
  intro n
  induction n with
  | zero => exact fun _ => KF.n
  | succ n ih =>
    intro a0 i1 i2 i3 M hM
    rw [f_X1_laySet_18]
    refine KF.i ?_ ?_
    · refine KF.b fun v1 => ?_
      refine KF.b fun v2 => ?_
      refine KF.w (fq_tA hM) fun M3 h_M3 => ?_
      refine KF.b fun v4 => ?_
      refine KF.w (fq_pI h_M3 rfl) fun M5 h_M5 => ?_
      exact KF.s h_M5
    · refine KF.b fun v6 => ?_
      refine KF.b fun v7 => ?_
      refine KF.c (kq_X1_tilesOf hM) fun r8 h_r8 => ?_
      refine KF.w (fq_tA h_r8) fun M9 h_M9 => ?_
      exact (ih h_M9)
theorem kq_X1_laySet_0 {M0 : zM} {a0 : Nat} {i1 : Int32} {i2 : Int32} {M : zM} (hM : FQ M0 M) : KF (FQ M0) (f_X1_laySet_0 a0 i1 i2 M) := by
  unfold f_X1_laySet_0
  refine KF.b fun v1 => ?_
  refine KF.i ?_ ?_
  · exact KF.s hM
  · refine KF.b fun v2 => ?_
    refine KF.i ?_ ?_
    · exact (kq_X1_laySet_18 zN hM)
    · exact KF.s hM
theorem kq_X1_laySet {M0 : zM} {a0 : Nat} {i1 : Int32} {i2 : Int32} {M : zM} (hM : FQ M0 M) : KF (FQ M0) (f_X1_laySet a0 i1 i2 M) := by
  unfold f_X1_laySet
  exact (kq_X1_laySet_0 hM)
theorem kq_X1_toRiver_0 {M0 : zM} {a0 : Nat} {i1 : Int32} {M : zM} (hM : FQ M0 M) : KF (FQ M0) (f_X1_toRiver_0 a0 i1 M) := by
  unfold f_X1_toRiver_0
  refine KF.b fun v1 => ?_
  refine KF.i ?_ ?_
  · exact KF.s hM
  · refine KF.b fun v2 => ?_
    refine KF.i ?_ ?_
    · refine KF.i ?_ KF.n
      refine KF.c (kq_X1_change hM) fun r3 h_r3 => ?_
      refine KF.b fun v5 => ?_
      refine KF.b fun v6 => ?_
      refine KF.w (fq_tA h_r3) fun M7 h_M7 => ?_
      refine KF.b fun v8 => ?_
      refine KF.w (fq_pI h_M7 rfl) fun M9 h_M9 => ?_
      refine KF.b fun v10 => ?_
      refine KF.w (fq_pJ h_M9 rfl) fun M11 h_M11 => ?_
      exact KF.s h_M11
    · exact KF.s hM
theorem kq_X1_toRiver {M0 : zM} {a0 : Nat} {i1 : Int32} {M : zM} (hM : FQ M0 M) : KF (FQ M0) (f_X1_toRiver a0 i1 M) := by
  unfold f_X1_toRiver
  exact (kq_X1_toRiver_0 hM)
theorem kq_X1_latestInRiver_0 {M0 : zM} {a0 : Nat} {M : zM} (hM : FQ M0 M) : KF (FQ M0) (f_X1_latestInRiver_0 a0 M) := by
  unfold f_X1_latestInRiver_0
  refine KF.b fun v1 => ?_
  refine KF.i ?_ ?_
  · exact KF.s hM
  · refine KF.b fun v2 => ?_
    refine KF.i ?_ ?_
    · exact KF.s hM
    · refine KF.b fun v3 => ?_
      refine KF.b fun v4 => ?_
      refine KF.b fun v5 => ?_
      exact KF.s hM
theorem kq_X1_latestInRiver {M0 : zM} {a0 : Nat} {M : zM} (hM : FQ M0 M) : KF (FQ M0) (f_X1_latestInRiver a0 M) := by
  unfold f_X1_latestInRiver
  exact (kq_X1_latestInRiver_0 hM)
theorem kq_X1_leaveRiver_0 {M0 : zM} {a0 : Nat} {M : zM} (hM : FQ M0 M) : KF (FQ M0) (f_X1_leaveRiver_0 a0 M) := by
  unfold f_X1_leaveRiver_0
  refine KF.i ?_ KF.n
  refine KF.c (kq_X1_latestInRiver hM) fun r1 h_r1 => ?_
  refine KF.b fun v3 => ?_
  refine KF.i ?_ ?_
  · exact KF.s h_r1
  · refine KF.b fun v4 => ?_
    refine KF.w (fq_pI h_r1 rfl) fun M5 h_M5 => ?_
    exact KF.s h_M5
theorem kq_X1_leaveRiver {M0 : zM} {a0 : Nat} {M : zM} (hM : FQ M0 M) : KF (FQ M0) (f_X1_leaveRiver a0 M) := by
  unfold f_X1_leaveRiver
  exact (kq_X1_leaveRiver_0 hM)
theorem kq_X0_init_0 {M0 : zM} {a0 : Nat} {M : zM} (hM : FQ M0 M) : KF (FQ M0) (f_X0_init_0 a0 M) := by
  unfold f_X0_init_0
  refine KF.c (fq_aA hM) fun r1 h_r1 => ?_
  refine KF.w (fq_pR h_r1 rfl) fun M2 h_M2 => ?_
  refine KF.c (fq_aA h_M2) fun r3 h_r3 => ?_
  refine KF.w (fq_pR h_r3 rfl) fun M4 h_M4 => ?_
  refine KF.c (fq_aA h_M4) fun r5 h_r5 => ?_
  refine KF.w (fq_pR h_r5 rfl) fun M6 h_M6 => ?_
  refine KF.c (fq_aA h_M6) fun r7 h_r7 => ?_
  refine KF.w (fq_pR h_r7 rfl) fun M8 h_M8 => ?_
  refine KF.c (fq_aA h_M8) fun r9 h_r9 => ?_
  refine KF.w (fq_pR h_r9 rfl) fun M10 h_M10 => ?_
  exact KF.s h_M10
theorem kq_X0_init {M0 : zM} {a0 : Nat} {M : zM} (hM : FQ M0 M) : KF (FQ M0) (f_X0_init a0 M) := by
  unfold f_X0_init
  exact (kq_X0_init_0 hM)
theorem kq_X0_copy_2 {M0 : zM} : ∀ (n : Nat) {a0 : Nat} {a1 : Nat} {i2 : Int32} {M : zM}, FQ M0 M → KF (FQ M0) (f_X0_copy_2 n a0 a1 i2 M) := by
  intro n
  induction n with
  | zero => exact fun _ => KF.n
  | succ n ih =>
    intro a0 a1 i2 M hM
    rw [f_X0_copy_2]
    refine KF.i ?_ ?_
    · exact KF.s hM
    · refine KF.b fun v1 => ?_
      refine KF.i ?_ ?_
      · exact KF.s hM
      · refine KF.b fun v2 => ?_
        refine KF.b fun v3 => ?_
        refine KF.w (fq_tA hM) fun M4 h_M4 => ?_
        exact (ih h_M4)
theorem kq_X0_copy_0 {M0 : zM} {a0 : Nat} {a1 : Nat} {M : zM} (hM : FQ M0 M) : KF (FQ M0) (f_X0_copy_0 a0 a1 M) := by
  unfold f_X0_copy_0
  exact (kq_X0_copy_2 zN hM)
theorem kq_X0_copy {M0 : zM} {a0 : Nat} {a1 : Nat} {M : zM} (hM : FQ M0 M) : KF (FQ M0) (f_X0_copy a0 a1 M) := by
  unfold f_X0_copy
  exact (kq_X0_copy_0 hM)
theorem kq_X3_startsRow_0 {M0 : zM} {i0 : Int32} {M : zM} (hM : FQ M0 M) : KF (FQ M0) (f_X3_startsRow_0 i0 M) := by
  unfold f_X3_startsRow_0
  refine KF.i ?_ ?_
  · exact KF.s hM
  · refine KF.i ?_ ?_
    · exact KF.s hM
    · refine KF.i ?_ ?_
      · exact KF.s hM
      · exact KF.s hM
theorem kq_X3_startsRow {M0 : zM} {i0 : Int32} {M : zM} (hM : FQ M0 M) : KF (FQ M0) (f_X3_startsRow i0 M) := by
  unfold f_X3_startsRow
  exact (kq_X3_startsRow_0 hM)
theorem kq_X0_restIsSets_2 {M0 : zM} : ∀ (n : Nat) {a0 : Nat} {i1 : Int32} {M : zM}, FQ M0 M → KF (FQ M0) (f_X0_restIsSets_2 n a0 i1 M) := by
  intro n
  induction n with
  | zero => exact fun _ => KF.n
  | succ n ih =>
    intro a0 i1 M hM
    rw [f_X0_restIsSets_2]
    refine KF.i ?_ ?_
    · exact KF.s hM
    · refine KF.b fun v1 => ?_
      refine KF.b fun v2 => ?_
      refine KF.i ?_ ?_
      · exact (ih hM)
      · refine KF.c (kq_X3_startsRow hM) fun r3 h_r3 => ?_
        refine KF.i ?_ ?_
        · exact KF.s h_r3
        · refine KF.i ?_ ?_
          · exact KF.s h_r3
          · refine KF.b fun v4 => ?_
            refine KF.b fun v5 => ?_
            refine KF.i ?_ ?_
            · exact KF.s h_r3
            · refine KF.b fun v6 => ?_
              refine KF.b fun v7 => ?_
              refine KF.i ?_ ?_
              · refine KF.b fun v8 => ?_
                refine KF.b fun v9 => ?_
                refine KF.w (fq_tA h_r3) fun M10 h_M10 => ?_
                refine KF.b fun v11 => ?_
                refine KF.b fun v12 => ?_
                refine KF.w (fq_tA h_M10) fun M13 h_M13 => ?_
                exact (ih h_M13)
              · exact KF.s h_r3
theorem kq_X0_restIsSets_0 {M0 : zM} {a0 : Nat} {M : zM} (hM : FQ M0 M) : KF (FQ M0) (f_X0_restIsSets_0 a0 M) := by
  unfold f_X0_restIsSets_0
  exact (kq_X0_restIsSets_2 zN hM)
theorem kq_X0_restIsSets {M0 : zM} {a0 : Nat} {M : zM} (hM : FQ M0 M) : KF (FQ M0) (f_X0_restIsSets a0 M) := by
  unfold f_X0_restIsSets
  exact (kq_X0_restIsSets_0 hM)
theorem kq_X0_complete_2 {M0 : zM} : ∀ (n : Nat) {a0 : Nat} {a1 : Nat} {i2 : Int32} {M : zM}, FQ M0 M → KF (FQ M0) (f_X0_complete_2 n a0 a1 i2 M) := by
  intro n
  induction n with
  | zero => exact fun _ => KF.n
  | succ n ih =>
    intro a0 a1 i2 M hM
    rw [f_X0_complete_2]
    refine KF.i ?_ ?_
    · exact KF.s hM
    · refine KF.b fun v1 => ?_
      refine KF.i ?_ ?_
      · exact (ih hM)
      · refine KF.b fun v2 => ?_
        refine KF.i ?_ ?_
        · exact (ih hM)
        · refine KF.i ?_ KF.n
          refine KF.c (kq_X0_copy hM) fun r3 h_r3 => ?_
          refine KF.b fun v5 => ?_
          refine KF.b fun v6 => ?_
          refine KF.w (fq_tA h_r3) fun M7 h_M7 => ?_
          refine KF.i ?_ KF.n
          refine KF.c (kq_X0_restIsSets h_M7) fun r8 h_r8 => ?_
          refine KF.i ?_ ?_
          · exact (ih h_r8)
          · exact KF.s h_r8
theorem kq_X0_complete_0 {M0 : zM} {a0 : Nat} {a1 : Nat} {M : zM} (hM : FQ M0 M) : KF (FQ M0) (f_X0_complete_0 a0 a1 M) := by
  unfold f_X0_complete_0
  exact (kq_X0_complete_2 zN hM)
theorem kq_X0_complete {M0 : zM} {a0 : Nat} {a1 : Nat} {M : zM} (hM : FQ M0 M) : KF (FQ M0) (f_X0_complete a0 a1 M) := by
  unfold f_X0_complete
  exact (kq_X0_complete_0 hM)
theorem kq_J9_max_7cf53_0 {M0 : zM} {i0 : Int32} {i1 : Int32} {M : zM} (hM : FQ M0 M) : KF (FQ M0) (f_J9_max_7cf53_0 i0 i1 M) := by
  unfold f_J9_max_7cf53_0
  refine KF.i ?_ ?_
  · exact KF.s hM
  · exact KF.s hM
theorem kq_J9_max_7cf53 {M0 : zM} {i0 : Int32} {i1 : Int32} {M : zM} (hM : FQ M0 M) : KF (FQ M0) (f_J9_max_7cf53 i0 i1 M) := by
  unfold f_J9_max_7cf53
  exact (kq_J9_max_7cf53_0 hM)
theorem kq_J9_min_7cf53_0 {M0 : zM} {i0 : Int32} {i1 : Int32} {M : zM} (hM : FQ M0 M) : KF (FQ M0) (f_J9_min_7cf53_0 i0 i1 M) := by
  unfold f_J9_min_7cf53_0
  refine KF.i ?_ ?_
  · exact KF.s hM
  · exact KF.s hM
theorem kq_J9_min_7cf53 {M0 : zM} {i0 : Int32} {i1 : Int32} {M : zM} (hM : FQ M0 M) : KF (FQ M0) (f_J9_min_7cf53 i0 i1 M) := by
  unfold f_J9_min_7cf53
  exact (kq_J9_min_7cf53_0 hM)
theorem kq_X0_joinParts_90 {M0 : zM} {a0 : Nat} {i1 : Int32} {i2 : Int32} {i3 : Int32} {M : zM} (hM : FQ M0 M) : KF (FQ M0) (f_X0_joinParts_90 a0 i1 i2 i3 M) := by
  unfold f_X0_joinParts_90
  refine KF.b fun v1 => ?_
  refine KF.w (fq_tA hM) fun M2 h_M2 => ?_
  refine KF.b fun v3 => ?_
  refine KF.w (fq_tA h_M2) fun M4 h_M4 => ?_
  exact KF.s h_M4
theorem kq_X0_joinParts_7 {M0 : zM} : ∀ (n : Nat) {a0 : Nat} {i1 : Int32} {i2 : Int32} {i3 : Int32} {i4 : Int32} {M : zM}, FQ M0 M → KF (FQ M0) (f_X0_joinParts_7 n a0 i1 i2 i3 i4 M) := by
  intro n
  induction n with
  | zero => exact fun _ => KF.n
  | succ n ih =>
    intro a0 i1 i2 i3 i4 M hM
    rw [f_X0_joinParts_7]
    refine KF.i ?_ ?_
    · exact (kq_X0_joinParts_90 hM)
    · refine KF.i ?_ ?_
      · exact (kq_X0_joinParts_90 hM)
      · refine KF.b fun v1 => ?_
        refine KF.b fun v2 => ?_
        refine KF.b fun v3 => ?_
        refine KF.b fun v4 => ?_
        refine KF.c (kq_J9_max_7cf53 hM) fun r5 h_r5 => ?_
        refine KF.b fun v6 => ?_
        refine KF.b fun v7 => ?_
        refine KF.b fun v8 => ?_
        refine KF.b fun v9 => ?_
        refine KF.c (kq_J9_max_7cf53 h_r5) fun r10 h_r10 => ?_
        refine KF.b fun v11 => ?_
        refine KF.b fun v12 => ?_
        refine KF.b fun v13 => ?_
        refine KF.b fun v14 => ?_
        refine KF.c (kq_J9_max_7cf53 h_r10) fun r15 h_r15 => ?_
        exact (ih h_r15)
theorem kq_X0_joinParts_0 {M0 : zM} {a0 : Nat} {i1 : Int32} {M : zM} (hM : FQ M0 M) : KF (FQ M0) (f_X0_joinParts_0 a0 i1 M) := by
  unfold f_X0_joinParts_0
  exact (kq_X0_joinParts_7 zN hM)
theorem kq_X0_joinParts {M0 : zM} {a0 : Nat} {i1 : Int32} {M : zM} (hM : FQ M0 M) : KF (FQ M0) (f_X0_joinParts a0 i1 M) := by
  unfold f_X0_joinParts
  exact (kq_X0_joinParts_0 hM)
theorem kq_X0_changePart_47 {M0 : zM} {a0 : Nat} {i1 : Int32} {i2 : Int32} {i3 : Int32} {M : zM} (hM : FQ M0 M) : KF (FQ M0) (f_X0_changePart_47 a0 i1 i2 i3 M) := by
  unfold f_X0_changePart_47
  refine KF.b fun v1 => ?_
  refine KF.i ?_ ?_
  · exact KF.s hM
  · refine KF.b fun v2 => ?_
    refine KF.b fun v3 => ?_
    refine KF.w (fq_tA hM) fun M4 h_M4 => ?_
    exact KF.s h_M4
theorem kq_X0_changePart_0 {M0 : zM} {a0 : Nat} {i1 : Int32} {i2 : Int32} {i3 : Int32} {M : zM} (hM : FQ M0 M) : KF (FQ M0) (f_X0_changePart_0 a0 i1 i2 i3 M) := by
  unfold f_X0_changePart_0
  refine KF.i ?_ ?_
  · exact KF.s hM
  · refine KF.b fun v1 => ?_
    refine KF.i ?_ ?_
    · refine KF.b fun v2 => ?_
      refine KF.b fun v3 => ?_
      refine KF.w (fq_tA hM) fun M4 h_M4 => ?_
      refine KF.b fun v5 => ?_
      refine KF.i ?_ ?_
      · exact (kq_X0_changePart_47 h_M4)
      · refine KF.b fun v6 => ?_
        refine KF.b fun v7 => ?_
        refine KF.w (fq_tA h_M4) fun M8 h_M8 => ?_
        exact (kq_X0_changePart_47 h_M8)
    · exact KF.s hM
theorem kq_X0_changePart {M0 : zM} {a0 : Nat} {i1 : Int32} {i2 : Int32} {i3 : Int32} {M : zM} (hM : FQ M0 M) : KF (FQ M0) (f_X0_changePart a0 i1 i2 i3 M) := by
  unfold f_X0_changePart
  exact (kq_X0_changePart_0 hM)
theorem kq_X0_fits_86 {M0 : zM} {i3 : Int32} {i4 : Int32} {i_0 : Int32} {M : zM} (hM : FQ M0 M) : KF (FQ M0) (f_X0_fits_86 i3 i4 i_0 M) := by
  unfold f_X0_fits_86
  refine KF.b fun v1 => ?_
  refine KF.i ?_ ?_
  · exact KF.s hM
  · refine KF.b fun v2 => ?_
    refine KF.i ?_ ?_
    · exact KF.s hM
    · exact KF.s hM
theorem kq_X0_fits_68 {M0 : zM} {a0 : Nat} {i1 : Int32} {i2 : Int32} {i3 : Int32} {i_0 : Int32} {M : zM} (hM : FQ M0 M) : KF (FQ M0) (f_X0_fits_68 a0 i1 i2 i3 i_0 M) := by
  unfold f_X0_fits_68
  refine KF.i ?_ ?_
  · exact (kq_X0_fits_86 hM)
  · refine KF.b fun v1 => ?_
    exact (kq_X0_fits_86 hM)
theorem kq_X0_fits_0 {M0 : zM} {a0 : Nat} {i1 : Int32} {i2 : Int32} {i3 : Int32} {M : zM} (hM : FQ M0 M) : KF (FQ M0) (f_X0_fits_0 a0 i1 i2 i3 M) := by
  unfold f_X0_fits_0
  refine KF.i ?_ ?_
  · exact KF.s hM
  · refine KF.i ?_ ?_
    · exact KF.s hM
    · refine KF.b fun v1 => ?_
      refine KF.i ?_ ?_
      · exact KF.s hM
      · refine KF.b fun v2 => ?_
        refine KF.b fun v3 => ?_
        refine KF.i ?_ ?_
        · refine KF.b fun v4 => ?_
          refine KF.b fun v5 => ?_
          refine KF.i ?_ ?_
          · exact KF.s hM
          · refine KF.i ?_ ?_
            · refine KF.i ?_ ?_
              · exact (kq_X0_fits_68 hM)
              · refine KF.b fun v6 => ?_
                exact (kq_X0_fits_68 hM)
            · exact KF.s hM
        · exact KF.s hM
theorem kq_X0_fits {M0 : zM} {a0 : Nat} {i1 : Int32} {i2 : Int32} {i3 : Int32} {M : zM} (hM : FQ M0 M) : KF (FQ M0) (f_X0_fits a0 i1 i2 i3 M) := by
  unfold f_X0_fits
  exact (kq_X0_fits_0 hM)
theorem kq_X0_most_76 {M0 : zM} {RC_X0_most : Nat → Int32 → Int32 → Int32 → zM → Option (Int32 × zM)} {K21 : Nat → Int32 → Int32 → Int32 → Int32 → zM → Option (Int32 × zM)} {K38 : Nat → Int32 → Int32 → Int32 → Int32 → Int32 → zM → Option (Int32 × zM)} (hRC_X0_most : ∀ {x0 : Nat} {x1 : Int32} {x2 : Int32} {x3 : Int32} {M : zM}, FQ M0 M → KF (FQ M0) (RC_X0_most x0 x1 x2 x3 M)) (hK21 : ∀ {x0 : Nat} {x1 : Int32} {x2 : Int32} {x3 : Int32} {x4 : Int32} {M : zM}, FQ M0 M → KF (FQ M0) (K21 x0 x1 x2 x3 x4 M)) (hK38 : ∀ {x0 : Nat} {x1 : Int32} {x2 : Int32} {x3 : Int32} {x4 : Int32} {x5 : Int32} {M : zM}, FQ M0 M → KF (FQ M0) (K38 x0 x1 x2 x3 x4 x5 M)) {a0 : Nat} {i2 : Int32} {i3 : Int32} {i4 : Int32} {i5 : Int32} {i6 : Int32} {i_0 : Int32} {M : zM} (hM : FQ M0 M) : KF (FQ M0) (f_X0_most_76 RC_X0_most K21 K38 a0 i2 i3 i4 i5 i6 i_0 M) := by
  unfold f_X0_most_76
  refine KF.c (hRC_X0_most hM) fun r1 h_r1 => ?_
  refine KF.c (kq_J9_max_7cf53 h_r1) fun r2 h_r2 => ?_
  refine KF.c (kq_X0_changePart h_r2) fun r3 h_r3 => ?_
  exact (hK38 h_r3)
theorem kq_X0_most_38 {M0 : zM} {RC_X0_most : Nat → Int32 → Int32 → Int32 → zM → Option (Int32 × zM)} {K21 : Nat → Int32 → Int32 → Int32 → Int32 → zM → Option (Int32 × zM)} (hRC_X0_most : ∀ {x0 : Nat} {x1 : Int32} {x2 : Int32} {x3 : Int32} {M : zM}, FQ M0 M → KF (FQ M0) (RC_X0_most x0 x1 x2 x3 M)) (hK21 : ∀ {x0 : Nat} {x1 : Int32} {x2 : Int32} {x3 : Int32} {x4 : Int32} {M : zM}, FQ M0 M → KF (FQ M0) (K21 x0 x1 x2 x3 x4 M)) : ∀ (n : Nat) {a0 : Nat} {i2 : Int32} {i3 : Int32} {i4 : Int32} {i5 : Int32} {i6 : Int32} {M : zM}, FQ M0 M → KF (FQ M0) (f_X0_most_38 RC_X0_most K21 n a0 i2 i3 i4 i5 i6 M) := by
  intro n
  induction n with
  | zero => exact fun _ => KF.n
  | succ n ih =>
    intro a0 i2 i3 i4 i5 i6 M hM
    rw [f_X0_most_38]
    refine KF.i ?_ ?_
    · exact (hK21 hM)
    · refine KF.c (kq_X0_fits hM) fun r1 h_r1 => ?_
      refine KF.i ?_ ?_
      · exact (ih h_r1)
      · refine KF.c (kq_X0_changePart h_r1) fun r2 h_r2 => ?_
        refine KF.i ?_ ?_
        · exact (kq_X0_most_76 hRC_X0_most hK21 ih h_r2)
        · exact (kq_X0_most_76 hRC_X0_most hK21 ih h_r2)
theorem kq_X0_most_21 {M0 : zM} {RC_X0_most : Nat → Int32 → Int32 → Int32 → zM → Option (Int32 × zM)} (hRC_X0_most : ∀ {x0 : Nat} {x1 : Int32} {x2 : Int32} {x3 : Int32} {M : zM}, FQ M0 M → KF (FQ M0) (RC_X0_most x0 x1 x2 x3 M)) : ∀ (n : Nat) {a0 : Nat} {i2 : Int32} {i3 : Int32} {i4 : Int32} {i5 : Int32} {M : zM}, FQ M0 M → KF (FQ M0) (f_X0_most_21 RC_X0_most n a0 i2 i3 i4 i5 M) := by
  intro n
  induction n with
  | zero => exact fun _ => KF.n
  | succ n ih =>
    intro a0 i2 i3 i4 i5 M hM
    rw [f_X0_most_21]
    refine KF.i ?_ ?_
    · exact KF.s hM
    · refine KF.i ?_ ?_
      · exact KF.s hM
      · exact (kq_X0_most_38 hRC_X0_most ih zN hM)
theorem kq_X0_most_0 {M0 : zM} {RC_X0_most : Nat → Int32 → Int32 → Int32 → zM → Option (Int32 × zM)} (hRC_X0_most : ∀ {x0 : Nat} {x1 : Int32} {x2 : Int32} {x3 : Int32} {M : zM}, FQ M0 M → KF (FQ M0) (RC_X0_most x0 x1 x2 x3 M)) {a0 : Nat} {i1 : Int32} {i2 : Int32} {i3 : Int32} {M : zM} (hM : FQ M0 M) : KF (FQ M0) (f_X0_most_0 RC_X0_most a0 i1 i2 i3 M) := by
  unfold f_X0_most_0
  refine KF.i ?_ ?_
  · exact KF.s hM
  · refine KF.i ?_ ?_
    · exact KF.s hM
    · refine KF.i ?_ ?_
      · exact (kq_X0_most_21 hRC_X0_most zN hM)
      · exact KF.s hM
theorem kq_X0_most {M0 : zM} : ∀ (n : Nat) {a0 : Nat} {i1 : Int32} {i2 : Int32} {i3 : Int32} {M : zM}, FQ M0 M → KF (FQ M0) (f_X0_most n a0 i1 i2 i3 M) := by
  intro n
  induction n with
  | zero => exact fun _ => KF.n
  | succ n ih =>
    intro a0 i1 i2 i3 M hM
    rw [f_X0_most]
    exact (kq_X0_most_0 ih hM)
theorem kq_X0_join_166 {M0 : zM} : ∀ (n : Nat) {a0 : Nat} {i4 : Int32} {M : zM}, FQ M0 M → KF (FQ M0) (f_X0_join_166 n a0 i4 M) := by
  intro n
  induction n with
  | zero => exact fun _ => KF.n
  | succ n ih =>
    intro a0 i4 M hM
    rw [f_X0_join_166]
    refine KF.i ?_ ?_
    · exact KF.s hM
    · refine KF.i ?_ KF.n
      refine KF.c (kq_X0_joinParts hM) fun r1 h_r1 => ?_
      exact (ih h_r1)
theorem kq_X0_join_159 {M0 : zM} {a0 : Nat} {i3 : Int32} {M : zM} (hM : FQ M0 M) : KF (FQ M0) (f_X0_join_159 a0 i3 M) := by
  unfold f_X0_join_159
  refine KF.c (kq_J9_min_7cf53 hM) fun r1 h_r1 => ?_
  exact (kq_X0_join_166 zN h_r1)
theorem kq_X0_join_142 {M0 : zM} {K56 : Nat → Int32 → Int32 → Int32 → Int32 → zM → Option (Unit × zM)} (hK56 : ∀ {x0 : Nat} {x1 : Int32} {x2 : Int32} {x3 : Int32} {x4 : Int32} {M : zM}, FQ M0 M → KF (FQ M0) (K56 x0 x1 x2 x3 x4 M)) {a0 : Nat} {i1 : Int32} {i2 : Int32} {i3 : Int32} {i4 : Int32} {M : zM} (hM : FQ M0 M) : KF (FQ M0) (f_X0_join_142 K56 a0 i1 i2 i3 i4 M) := by
  unfold f_X0_join_142
  refine KF.b fun v1 => ?_
  refine KF.b fun v2 => ?_
  refine KF.w (fq_tA hM) fun M3 h_M3 => ?_
  exact (hK56 h_M3)
theorem kq_X0_join_94 {M0 : zM} {K56 : Nat → Int32 → Int32 → Int32 → Int32 → zM → Option (Unit × zM)} (hK56 : ∀ {x0 : Nat} {x1 : Int32} {x2 : Int32} {x3 : Int32} {x4 : Int32} {M : zM}, FQ M0 M → KF (FQ M0) (K56 x0 x1 x2 x3 x4 M)) : ∀ (n : Nat) {a0 : Nat} {i1 : Int32} {i2 : Int32} {i3 : Int32} {i4 : Int32} {i5 : Int32} {M : zM}, FQ M0 M → KF (FQ M0) (f_X0_join_94 K56 n a0 i1 i2 i3 i4 i5 M) := by
  intro n
  induction n with
  | zero => exact fun _ => KF.n
  | succ n ih =>
    intro a0 i1 i2 i3 i4 i5 M hM
    rw [f_X0_join_94]
    refine KF.i ?_ ?_
    · exact (kq_X0_join_142 hK56 hM)
    · refine KF.i ?_ ?_
      · exact (kq_X0_join_142 hK56 hM)
      · refine KF.b fun v1 => ?_
        refine KF.b fun v2 => ?_
        refine KF.b fun v3 => ?_
        refine KF.b fun v4 => ?_
        refine KF.c (kq_X0_most zR hM) fun r5 h_r5 => ?_
        refine KF.c (kq_J9_max_7cf53 h_r5) fun r6 h_r6 => ?_
        refine KF.w (fq_tA h_r6) fun M7 h_M7 => ?_
        exact (ih h_M7)
theorem kq_X0_join_56 {M0 : zM} : ∀ (n : Nat) {a0 : Nat} {i1 : Int32} {i2 : Int32} {i3 : Int32} {i4 : Int32} {M : zM}, FQ M0 M → KF (FQ M0) (f_X0_join_56 n a0 i1 i2 i3 i4 M) := by
  intro n
  induction n with
  | zero => exact fun _ => KF.n
  | succ n ih =>
    intro a0 i1 i2 i3 i4 M hM
    rw [f_X0_join_56]
    refine KF.i ?_ ?_
    · exact (kq_X0_join_159 hM)
    · refine KF.i ?_ ?_
      · exact (kq_X0_join_159 hM)
      · refine KF.b fun v1 => ?_
        refine KF.b fun v2 => ?_
        refine KF.i ?_ ?_
        · exact (ih hM)
        · refine KF.b fun v3 => ?_
          refine KF.b fun v4 => ?_
          refine KF.w (fq_tA hM) fun M5 h_M5 => ?_
          exact (kq_X0_join_94 ih zN h_M5)
theorem kq_X0_join_3 {M0 : zM} : ∀ (n : Nat) {a0 : Nat} {i1 : Int32} {i2 : Int32} {i3 : Int32} {i4 : Int32} {M : zM}, FQ M0 M → KF (FQ M0) (f_X0_join_3 n a0 i1 i2 i3 i4 M) := by
  intro n
  induction n with
  | zero => exact fun _ => KF.n
  | succ n ih =>
    intro a0 i1 i2 i3 i4 M hM
    rw [f_X0_join_3]
    refine KF.i ?_ ?_
    · exact (kq_X0_join_56 zN hM)
    · refine KF.i ?_ ?_
      · exact (kq_X0_join_56 zN hM)
      · refine KF.b fun v1 => ?_
        refine KF.b fun v2 => ?_
        refine KF.c (kq_X0_most zR hM) fun r3 h_r3 => ?_
        refine KF.w (fq_tA h_r3) fun M4 h_M4 => ?_
        refine KF.b fun v5 => ?_
        refine KF.b fun v6 => ?_
        refine KF.b fun v7 => ?_
        refine KF.w (fq_tA h_M4) fun M8 h_M8 => ?_
        exact (ih h_M8)
theorem kq_X0_join_0 {M0 : zM} {a0 : Nat} {i1 : Int32} {i2 : Int32} {i3 : Int32} {M : zM} (hM : FQ M0 M) : KF (FQ M0) (f_X0_join_0 a0 i1 i2 i3 M) := by
  unfold f_X0_join_0
  exact (kq_X0_join_3 zN hM)
theorem kq_X0_join {M0 : zM} {a0 : Nat} {i1 : Int32} {i2 : Int32} {i3 : Int32} {M : zM} (hM : FQ M0 M) : KF (FQ M0) (f_X0_join a0 i1 i2 i3 M) := by
  unfold f_X0_join
  exact (kq_X0_join_0 hM)
theorem kq_X0_far_29 {M0 : zM} : ∀ (n : Nat) {a0 : Nat} {i3 : Int32} {i4 : Int32} {M : zM}, FQ M0 M → KF (FQ M0) (f_X0_far_29 n a0 i3 i4 M) := by
  intro n
  induction n with
  | zero => exact fun _ => KF.n
  | succ n ih =>
    intro a0 i3 i4 M hM
    rw [f_X0_far_29]
    refine KF.i ?_ ?_
    · refine KF.i ?_ KF.n
      refine KF.c (kq_X0_join hM) fun r1 h_r1 => ?_
      refine KF.i ?_ KF.n
      refine KF.c (kq_X0_join h_r1) fun r3 h_r3 => ?_
      refine KF.i ?_ KF.n
      refine KF.c (kq_X0_join h_r3) fun r5 h_r5 => ?_
      refine KF.b fun v7 => ?_
      refine KF.b fun v8 => ?_
      exact KF.s h_r5
    · refine KF.b fun v9 => ?_
      refine KF.w (fq_tA hM) fun M10 h_M10 => ?_
      refine KF.b fun v11 => ?_
      refine KF.w (fq_tA h_M10) fun M12 h_M12 => ?_
      exact (ih h_M12)
theorem kq_X0_far_20 {M0 : zM} {a0 : Nat} {a1 : Nat} {i_0 : Int32} {M : zM} (hM : FQ M0 M) : KF (FQ M0) (f_X0_far_20 a0 a1 i_0 M) := by
  unfold f_X0_far_20
  refine KF.i ?_ KF.n
  refine KF.c (kq_X0_copy hM) fun r1 h_r1 => ?_
  exact (kq_X0_far_29 zN h_r1)
theorem kq_X0_far_0 {M0 : zM} {a0 : Nat} {a1 : Nat} {i2 : Int32} {M : zM} (hM : FQ M0 M) : KF (FQ M0) (f_X0_far_0 a0 a1 i2 M) := by
  unfold f_X0_far_0
  refine KF.i ?_ ?_
  · refine KF.i ?_ ?_
    · exact (kq_X0_far_20 hM)
    · exact (kq_X0_far_20 hM)
  · exact (kq_X0_far_20 hM)
theorem kq_X0_far {M0 : zM} {a0 : Nat} {a1 : Nat} {i2 : Int32} {M : zM} (hM : FQ M0 M) : KF (FQ M0) (f_X0_far a0 a1 i2 M) := by
  unfold f_X0_far
  exact (kq_X0_far_0 hM)
theorem kq_X2_init_0 {M0 : zM} {a0 : Nat} {M : zM} (hM : FQ M0 M) : KF (FQ M0) (f_X2_init_0 a0 M) := by
  unfold f_X2_init_0
  refine KF.c (fq_aA hM) fun r1 h_r1 => ?_
  refine KF.w (fq_pR h_r1 rfl) fun M2 h_M2 => ?_
  exact KF.s h_M2
theorem kq_X2_init {M0 : zM} {a0 : Nat} {M : zM} (hM : FQ M0 M) : KF (FQ M0) (f_X2_init a0 M) := by
  unfold f_X2_init
  exact (kq_X2_init_0 hM)
theorem kq_X2_gather_2 {M0 : zM} : ∀ (n : Nat) {a0 : Nat} {a1 : Nat} {i2 : Int32} {M : zM}, FQ M0 M → KF (FQ M0) (f_X2_gather_2 n a0 a1 i2 M) := by
  intro n
  induction n with
  | zero => exact fun _ => KF.n
  | succ n ih =>
    intro a0 a1 i2 M hM
    rw [f_X2_gather_2]
    refine KF.i ?_ ?_
    · exact KF.s hM
    · refine KF.b fun v1 => ?_
      refine KF.i ?_ KF.n
      refine KF.c (kq_X1_count hM) fun r2 h_r2 => ?_
      refine KF.i ?_ KF.n
      refine KF.c (kq_X1_inSets h_r2) fun r4 h_r4 => ?_
      refine KF.w (fq_tA h_r4) fun M6 h_M6 => ?_
      exact (ih h_M6)
theorem kq_X2_gather_0 {M0 : zM} {a0 : Nat} {a1 : Nat} {M : zM} (hM : FQ M0 M) : KF (FQ M0) (f_X2_gather_0 a0 a1 M) := by
  unfold f_X2_gather_0
  exact (kq_X2_gather_2 zN hM)
theorem kq_X2_gather {M0 : zM} {a0 : Nat} {a1 : Nat} {M : zM} (hM : FQ M0 M) : KF (FQ M0) (f_X2_gather a0 a1 M) := by
  unfold f_X2_gather
  exact (kq_X2_gather_0 hM)
theorem kq_X2_anyOf_2 {M0 : zM} : ∀ (n : Nat) {a0 : Nat} {i2 : Int32} {i3 : Int32} {M : zM}, FQ M0 M → KF (FQ M0) (f_X2_anyOf_2 n a0 i2 i3 M) := by
  intro n
  induction n with
  | zero => exact fun _ => KF.n
  | succ n ih =>
    intro a0 i2 i3 M hM
    rw [f_X2_anyOf_2]
    refine KF.i ?_ ?_
    · exact KF.s hM
    · refine KF.i ?_ ?_
      · exact KF.s hM
      · refine KF.i ?_ ?_
        · exact KF.s hM
        · refine KF.b fun v1 => ?_
          refine KF.b fun v2 => ?_
          refine KF.i ?_ ?_
          · exact (ih hM)
          · exact KF.s hM
theorem kq_X2_anyOf_0 {M0 : zM} {a0 : Nat} {i1 : Int32} {i2 : Int32} {M : zM} (hM : FQ M0 M) : KF (FQ M0) (f_X2_anyOf_0 a0 i1 i2 M) := by
  unfold f_X2_anyOf_0
  exact (kq_X2_anyOf_2 zN hM)
theorem kq_X2_anyOf {M0 : zM} {a0 : Nat} {i1 : Int32} {i2 : Int32} {M : zM} (hM : FQ M0 M) : KF (FQ M0) (f_X2_anyOf a0 i1 i2 M) := by
  unfold f_X2_anyOf
  exact (kq_X2_anyOf_0 hM)
theorem kq_X2_ofOneSuit_0 {M0 : zM} {a0 : Nat} {M : zM} (hM : FQ M0 M) : KF (FQ M0) (f_X2_ofOneSuit_0 a0 M) := by
  unfold f_X2_ofOneSuit_0
  refine KF.i ?_ KF.n
  refine KF.c (kq_X2_anyOf hM) fun r1 h_r1 => ?_
  refine KF.i ?_ KF.n
  refine KF.c (kq_X2_anyOf h_r1) fun r3 h_r3 => ?_
  refine KF.i ?_ ?_
  · exact KF.s h_r3
  · refine KF.i ?_ KF.n
    refine KF.c (kq_X2_anyOf h_r3) fun r5 h_r5 => ?_
    refine KF.i ?_ ?_
    · exact KF.s h_r5
    · exact KF.s h_r5
theorem kq_X2_ofOneSuit {M0 : zM} {a0 : Nat} {M : zM} (hM : FQ M0 M) : KF (FQ M0) (f_X2_ofOneSuit a0 M) := by
  unfold f_X2_ofOneSuit
  exact (kq_X2_ofOneSuit_0 hM)
theorem kq_X2_setOf_0 {M0 : zM} {a0 : Nat} {i1 : Int32} {M : zM} (hM : FQ M0 M) : KF (FQ M0) (f_X2_setOf_0 a0 i1 M) := by
  unfold f_X2_setOf_0
  refine KF.i ?_ ?_
  · exact KF.s hM
  · refine KF.i ?_ ?_
    · exact KF.s hM
    · refine KF.b fun v1 => ?_
      refine KF.b fun v2 => ?_
      refine KF.i ?_ ?_
      · exact KF.s hM
      · exact KF.s hM
theorem kq_X2_setOf {M0 : zM} {a0 : Nat} {i1 : Int32} {M : zM} (hM : FQ M0 M) : KF (FQ M0) (f_X2_setOf a0 i1 M) := by
  unfold f_X2_setOf
  exact (kq_X2_setOf_0 hM)
theorem kq_X2_withoutEndsAndHonours_29 {M0 : zM} {K2 : Nat → Int32 → zM → Option (Int32 × zM)} (hK2 : ∀ {x0 : Nat} {x1 : Int32} {M : zM}, FQ M0 M → KF (FQ M0) (K2 x0 x1 M)) {a0 : Nat} {i1 : Int32} {i_0 : Int32} {M : zM} (hM : FQ M0 M) : KF (FQ M0) (f_X2_withoutEndsAndHonours_29 K2 a0 i1 i_0 M) := by
  unfold f_X2_withoutEndsAndHonours_29
  refine KF.b fun v1 => ?_
  refine KF.b fun v2 => ?_
  refine KF.i ?_ ?_
  · exact (hK2 hM)
  · refine KF.i ?_ ?_
    · exact KF.s hM
    · refine KF.i ?_ ?_
      · exact (hK2 hM)
      · exact KF.s hM
theorem kq_X2_withoutEndsAndHonours_24 {M0 : zM} {K2 : Nat → Int32 → zM → Option (Int32 × zM)} (hK2 : ∀ {x0 : Nat} {x1 : Int32} {M : zM}, FQ M0 M → KF (FQ M0) (K2 x0 x1 M)) {a0 : Nat} {i1 : Int32} {M : zM} (hM : FQ M0 M) : KF (FQ M0) (f_X2_withoutEndsAndHonours_24 K2 a0 i1 M) := by
  unfold f_X2_withoutEndsAndHonours_24
  exact (kq_X2_withoutEndsAndHonours_29 hK2 hM)
theorem kq_X2_withoutEndsAndHonours_2 {M0 : zM} : ∀ (n : Nat) {a0 : Nat} {i1 : Int32} {M : zM}, FQ M0 M → KF (FQ M0) (f_X2_withoutEndsAndHonours_2 n a0 i1 M) := by
  intro n
  induction n with
  | zero => exact fun _ => KF.n
  | succ n ih =>
    intro a0 i1 M hM
    rw [f_X2_withoutEndsAndHonours_2]
    refine KF.i ?_ ?_
    · exact KF.s hM
    · refine KF.i ?_ ?_
      · exact (kq_X2_withoutEndsAndHonours_24 ih hM)
      · refine KF.i ?_ ?_
        · exact (kq_X2_withoutEndsAndHonours_24 ih hM)
        · exact (kq_X2_withoutEndsAndHonours_29 ih hM)
theorem kq_X2_withoutEndsAndHonours_0 {M0 : zM} {a0 : Nat} {M : zM} (hM : FQ M0 M) : KF (FQ M0) (f_X2_withoutEndsAndHonours_0 a0 M) := by
  unfold f_X2_withoutEndsAndHonours_0
  exact (kq_X2_withoutEndsAndHonours_2 zN hM)
theorem kq_X2_withoutEndsAndHonours {M0 : zM} {a0 : Nat} {M : zM} (hM : FQ M0 M) : KF (FQ M0) (f_X2_withoutEndsAndHonours a0 M) := by
  unfold f_X2_withoutEndsAndHonours
  exact (kq_X2_withoutEndsAndHonours_0 hM)
theorem kq_X2_withoutRows_4 {M0 : zM} : ∀ (n : Nat) {a0 : Nat} {i1 : Int32} {i2 : Int32} {M : zM}, FQ M0 M → KF (FQ M0) (f_X2_withoutRows_4 n a0 i1 i2 M) := by
  intro n
  induction n with
  | zero => exact fun _ => KF.n
  | succ n ih =>
    intro a0 i1 i2 M hM
    rw [f_X2_withoutRows_4]
    refine KF.i ?_ ?_
    · refine KF.i ?_ ?_
      · refine KF.i ?_ KF.n
        refine KF.c (kq_X1_rowLies hM) fun r1 h_r1 => ?_
        refine KF.i ?_ ?_
        · exact KF.s h_r1
        · exact KF.s h_r1
      · exact KF.s hM
    · refine KF.i ?_ KF.n
      refine KF.c (kq_X1_count hM) fun r5 h_r5 => ?_
      refine KF.i ?_ ?_
      · exact KF.s h_r5
      · refine KF.i ?_ ?_
        · exact (ih h_r5)
        · exact (ih h_r5)
theorem kq_X2_withoutRows_0 {M0 : zM} {a0 : Nat} {M : zM} (hM : FQ M0 M) : KF (FQ M0) (f_X2_withoutRows_0 a0 M) := by
  unfold f_X2_withoutRows_0
  exact (kq_X2_withoutRows_4 zN hM)
theorem kq_X2_withoutRows {M0 : zM} {a0 : Nat} {M : zM} (hM : FQ M0 M) : KF (FQ M0) (f_X2_withoutRows a0 M) := by
  unfold f_X2_withoutRows
  exact (kq_X2_withoutRows_0 hM)
theorem kq_X2_value_144 {M0 : zM} {a0 : Nat} {i_0 : Int32} {i_1 : Int32} {M : zM} (hM : FQ M0 M) : KF (FQ M0) (f_X2_value_144 a0 i_0 i_1 M) := by
  unfold f_X2_value_144
  refine KF.i ?_ KF.n
  refine KF.c (kq_X2_ofOneSuit hM) fun r1 h_r1 => ?_
  refine KF.c (kq_J9_min_7cf53 h_r1) fun r3 h_r3 => ?_
  exact KF.s h_r3
theorem kq_X2_value_127 {M0 : zM} {a0 : Nat} {a1 : Nat} {i_0 : Int32} {i_1 : Int32} {M : zM} (hM : FQ M0 M) : KF (FQ M0) (f_X2_value_127 a0 a1 i_0 i_1 M) := by
  unfold f_X2_value_127
  refine KF.c (kq_X2_withoutRows hM) fun r1 h_r1 => ?_
  refine KF.i ?_ ?_
  · exact (kq_X2_value_144 h_r1)
  · exact (kq_X2_value_144 h_r1)
theorem kq_X2_value_75 {M0 : zM} : ∀ (n : Nat) {a0 : Nat} {a1 : Nat} {i4 : Int32} {i5 : Int32} {i6 : Int32} {M : zM}, FQ M0 M → KF (FQ M0) (f_X2_value_75 n a0 a1 i4 i5 i6 M) := by
  intro n
  induction n with
  | zero => exact fun _ => KF.n
  | succ n ih =>
    intro a0 a1 i4 i5 i6 M hM
    rw [f_X2_value_75]
    refine KF.i ?_ ?_
    · refine KF.i ?_ KF.n
      refine KF.c (kq_X2_setOf hM) fun r1 h_r1 => ?_
      refine KF.i ?_ KF.n
      refine KF.c (kq_X2_withoutEndsAndHonours h_r1) fun r3 h_r3 => ?_
      refine KF.i ?_ ?_
      · exact (kq_X2_value_127 h_r3)
      · exact (kq_X2_value_127 h_r3)
    · refine KF.i ?_ KF.n
      refine KF.c (kq_X2_setOf hM) fun r6 h_r6 => ?_
      exact (ih h_r6)
theorem kq_X2_value_68 {M0 : zM} {a0 : Nat} {a1 : Nat} {i4 : Int32} {i_0 : Int32} {i_1 : Int32} {M : zM} (hM : FQ M0 M) : KF (FQ M0) (f_X2_value_68 a0 a1 i4 i_0 i_1 M) := by
  unfold f_X2_value_68
  exact (kq_X2_value_75 zN hM)
theorem kq_X2_value_67 {M0 : zM} {a0 : Nat} {a1 : Nat} {i4 : Int32} {i_0 : Int32} {M : zM} (hM : FQ M0 M) : KF (FQ M0) (f_X2_value_67 a0 a1 i4 i_0 M) := by
  unfold f_X2_value_67
  exact (kq_X2_value_68 hM)
theorem kq_X2_value_43 {M0 : zM} {a0 : Nat} {a1 : Nat} {i3 : Int32} {i4 : Int32} {i_0 : Int32} {i_1 : Int32} {M : zM} (hM : FQ M0 M) : KF (FQ M0) (f_X2_value_43 a0 a1 i3 i4 i_0 i_1 M) := by
  unfold f_X2_value_43
  refine KF.i ?_ ?_
  · exact (kq_X2_value_67 hM)
  · refine KF.i ?_ ?_
    · exact (kq_X2_value_67 hM)
    · refine KF.b fun v1 => ?_
      refine KF.b fun v2 => ?_
      exact (kq_X2_value_68 hM)
theorem kq_X2_value_42 {M0 : zM} {a0 : Nat} {a1 : Nat} {i3 : Int32} {i4 : Int32} {i_0 : Int32} {M : zM} (hM : FQ M0 M) : KF (FQ M0) (f_X2_value_42 a0 a1 i3 i4 i_0 M) := by
  unfold f_X2_value_42
  exact (kq_X2_value_43 hM)
theorem kq_X2_value_22 {M0 : zM} {a0 : Nat} {a1 : Nat} {i2 : Int32} {i3 : Int32} {i4 : Int32} {i_0 : Int32} {i_1 : Int32} {M : zM} (hM : FQ M0 M) : KF (FQ M0) (f_X2_value_22 a0 a1 i2 i3 i4 i_0 i_1 M) := by
  unfold f_X2_value_22
  refine KF.i ?_ ?_
  · exact (kq_X2_value_42 hM)
  · refine KF.i ?_ KF.n
    refine KF.c (kq_X1_openSets hM) fun r1 h_r1 => ?_
    refine KF.i ?_ ?_
    · exact (kq_X2_value_43 h_r1)
    · exact (kq_X2_value_42 h_r1)
theorem kq_X2_value_0 {M0 : zM} {a0 : Nat} {a1 : Nat} {i2 : Int32} {i3 : Int32} {i4 : Int32} {M : zM} (hM : FQ M0 M) : KF (FQ M0) (f_X2_value_0 a0 a1 i2 i3 i4 M) := by
  unfold f_X2_value_0
  refine KF.i ?_ KF.n
  refine KF.c (kq_X2_gather hM) fun r1 h_r1 => ?_
  refine KF.b fun v3 => ?_
  refine KF.i ?_ ?_
  · exact (kq_X2_value_22 h_r1)
  · exact (kq_X2_value_22 h_r1)
theorem kq_X2_value {M0 : zM} {a0 : Nat} {a1 : Nat} {i2 : Int32} {i3 : Int32} {i4 : Int32} {M : zM} (hM : FQ M0 M) : KF (FQ M0) (f_X2_value a0 a1 i2 i3 i4 M) := by
  unfold f_X2_value
  exact (kq_X2_value_0 hM)
theorem kq_X3_beginRound_0 {M0 : zM} {a0 : Nat} {M : zM} (hM : FQ M0 M) : KF (FQ M0) (f_X3_beginRound_0 a0 M) := by
  unfold f_X3_beginRound_0
  refine KF.b fun v1 => ?_
  refine KF.w (fq_pI hM rfl) fun M2 h_M2 => ?_
  refine KF.b fun v3 => ?_
  refine KF.w (fq_pI h_M2 rfl) fun M4 h_M4 => ?_
  refine KF.b fun v5 => ?_
  refine KF.w (fq_pI h_M4 rfl) fun M6 h_M6 => ?_
  refine KF.w (fq_pI h_M6 rfl) fun M7 h_M7 => ?_
  refine KF.w (fq_pI h_M7 rfl) fun M8 h_M8 => ?_
  refine KF.w (fq_pI h_M8 rfl) fun M9 h_M9 => ?_
  refine KF.w (fq_pI h_M9 rfl) fun M10 h_M10 => ?_
  refine KF.w (fq_pZ h_M10 rfl) fun M11 h_M11 => ?_
  exact KF.s h_M11
theorem kq_X3_beginRound {M0 : zM} {a0 : Nat} {M : zM} (hM : FQ M0 M) : KF (FQ M0) (f_X3_beginRound a0 M) := by
  unfold f_X3_beginRound
  exact (kq_X3_beginRound_0 hM)
theorem kq_X3_kindAt_0 {M0 : zM} {a0 : Nat} {i1 : Int32} {M : zM} (hM : FQ M0 M) : KF (FQ M0) (f_X3_kindAt_0 a0 i1 M) := by
  unfold f_X3_kindAt_0
  refine KF.b fun v1 => ?_
  refine KF.b fun v2 => ?_
  exact KF.s hM
theorem kq_X3_kindAt {M0 : zM} {a0 : Nat} {i1 : Int32} {M : zM} (hM : FQ M0 M) : KF (FQ M0) (f_X3_kindAt a0 i1 M) := by
  unfold f_X3_kindAt
  exact (kq_X3_kindAt_0 hM)
theorem kq_X3_dealTo_13 {M0 : zM} : ∀ (n : Nat) {a0 : Nat} {i1 : Int32} {a2 : Nat} {i3 : Int32} {M : zM}, FQ M0 M → KF (FQ M0) (f_X3_dealTo_13 n a0 i1 a2 i3 M) := by
  intro n
  induction n with
  | zero => exact fun _ => KF.n
  | succ n ih =>
    intro a0 i1 a2 i3 M hM
    rw [f_X3_dealTo_13]
    refine KF.i ?_ ?_
    · exact KF.s hM
    · refine KF.i ?_ KF.n
      refine KF.c (kq_X3_kindAt hM) fun r1 h_r1 => ?_
      refine KF.i ?_ KF.n
      refine KF.c (kq_X1_change h_r1) fun r3 h_r3 => ?_
      exact (ih h_r3)
theorem kq_X3_dealTo_0 {M0 : zM} {a0 : Nat} {i1 : Int32} {M : zM} (hM : FQ M0 M) : KF (FQ M0) (f_X3_dealTo_0 a0 i1 M) := by
  unfold f_X3_dealTo_0
  refine KF.b fun v1 => ?_
  refine KF.b fun v2 => ?_
  refine KF.i ?_ KF.n
  refine KF.c (kq_X1_clear hM) fun r3 h_r3 => ?_
  exact (kq_X3_dealTo_13 zN h_r3)
theorem kq_X3_dealTo {M0 : zM} {a0 : Nat} {i1 : Int32} {M : zM} (hM : FQ M0 M) : KF (FQ M0) (f_X3_dealTo a0 i1 M) := by
  unfold f_X3_dealTo
  exact (kq_X3_dealTo_0 hM)
theorem kq_X3_follower_0 {M0 : zM} {i0 : Int32} {M : zM} (hM : FQ M0 M) : KF (FQ M0) (f_X3_follower_0 i0 M) := by
  unfold f_X3_follower_0
  refine KF.i ?_ ?_
  · refine KF.i ?_ ?_
    · refine KF.i ?_ ?_
      · exact KF.s hM
      · exact KF.s hM
    · refine KF.i ?_ ?_
      · exact KF.s hM
      · exact KF.s hM
  · refine KF.i ?_ ?_
    · exact KF.s hM
    · exact KF.s hM
theorem kq_X3_follower {M0 : zM} {i0 : Int32} {M : zM} (hM : FQ M0 M) : KF (FQ M0) (f_X3_follower i0 M) := by
  unfold f_X3_follower
  exact (kq_X3_follower_0 hM)
theorem kq_X3_requirePhase_0 {M0 : zM} {a0 : Nat} {i1 : Int32} {M : zM} (hM : FQ M0 M) : KF (FQ M0) (f_X3_requirePhase_0 a0 i1 M) := by
  unfold f_X3_requirePhase_0
  refine KF.b fun v1 => ?_
  refine KF.i ?_ ?_
  · exact KF.s hM
  · exact KF.s (fq_nE hM)
theorem kq_X3_requirePhase {M0 : zM} {a0 : Nat} {i1 : Int32} {M : zM} (hM : FQ M0 M) : KF (FQ M0) (f_X3_requirePhase a0 i1 M) := by
  unfold f_X3_requirePhase
  exact (kq_X3_requirePhase_0 hM)
theorem kq_X3_tilesLeft_0 {M0 : zM} {a0 : Nat} {M : zM} (hM : FQ M0 M) : KF (FQ M0) (f_X3_tilesLeft_0 a0 M) := by
  unfold f_X3_tilesLeft_0
  refine KF.b fun v1 => ?_
  refine KF.i ?_ ?_
  · exact KF.s hM
  · refine KF.b fun v2 => ?_
    refine KF.b fun v3 => ?_
    exact KF.s hM
theorem kq_X3_tilesLeft {M0 : zM} {a0 : Nat} {M : zM} (hM : FQ M0 M) : KF (FQ M0) (f_X3_tilesLeft a0 M) := by
  unfold f_X3_tilesLeft
  exact (kq_X3_tilesLeft_0 hM)
theorem kq_X3_canDraw_0 {M0 : zM} {a0 : Nat} {M : zM} (hM : FQ M0 M) : KF (FQ M0) (f_X3_canDraw_0 a0 M) := by
  unfold f_X3_canDraw_0
  refine KF.i ?_ KF.n
  refine KF.c (kq_X3_tilesLeft hM) fun r1 h_r1 => ?_
  refine KF.i ?_ ?_
  · exact KF.s h_r1
  · exact KF.s h_r1
theorem kq_X3_canDraw {M0 : zM} {a0 : Nat} {M : zM} (hM : FQ M0 M) : KF (FQ M0) (f_X3_canDraw a0 M) := by
  unfold f_X3_canDraw
  exact (kq_X3_canDraw_0 hM)
theorem kq_X3_waitsOf_51 {M0 : zM} {K16 : Nat → Nat → Int64 → Int32 → zM → Option (Int64 × zM)} (hK16 : ∀ {x0 : Nat} {x1 : Nat} {x2 : Int64} {x3 : Int32} {M : zM}, FQ M0 M → KF (FQ M0) (K16 x0 x1 x2 x3 M)) {a0 : Nat} {a1 : Nat} {j2 : Int64} {i4 : Int32} {M : zM} (hM : FQ M0 M) : KF (FQ M0) (f_X3_waitsOf_51 K16 a0 a1 j2 i4 M) := by
  unfold f_X3_waitsOf_51
  refine KF.i ?_ KF.n
  refine KF.c (kq_X1_change hM) fun r1 h_r1 => ?_
  exact (hK16 h_r1)
theorem kq_X3_waitsOf_16 {M0 : zM} : ∀ (n : Nat) {a0 : Nat} {a1 : Nat} {j2 : Int64} {i4 : Int32} {M : zM}, FQ M0 M → KF (FQ M0) (f_X3_waitsOf_16 n a0 a1 j2 i4 M) := by
  intro n
  induction n with
  | zero => exact fun _ => KF.n
  | succ n ih =>
    intro a0 a1 j2 i4 M hM
    rw [f_X3_waitsOf_16]
    refine KF.i ?_ ?_
    · exact KF.s hM
    · refine KF.i ?_ KF.n
      refine KF.c (kq_X1_change hM) fun r1 h_r1 => ?_
      refine KF.b fun v3 => ?_
      refine KF.b fun v4 => ?_
      refine KF.i ?_ KF.n
      refine KF.c (kq_X0_complete h_r1) fun r5 h_r5 => ?_
      refine KF.i ?_ ?_
      · exact (kq_X3_waitsOf_51 ih h_r5)
      · exact (kq_X3_waitsOf_51 ih h_r5)
theorem kq_X3_waitsOf_0 {M0 : zM} {a0 : Nat} {a1 : Nat} {M : zM} (hM : FQ M0 M) : KF (FQ M0) (f_X3_waitsOf_0 a0 a1 M) := by
  unfold f_X3_waitsOf_0
  refine KF.i ?_ KF.n
  refine KF.c (kq_X1_size hM) fun r1 h_r1 => ?_
  refine KF.i ?_ ?_
  · exact (kq_X3_waitsOf_16 zN h_r1)
  · exact KF.s h_r1
theorem kq_X3_waitsOf {M0 : zM} {a0 : Nat} {a1 : Nat} {M : zM} (hM : FQ M0 M) : KF (FQ M0) (f_X3_waitsOf a0 a1 M) := by
  unfold f_X3_waitsOf
  exact (kq_X3_waitsOf_0 hM)
theorem kq_X3_seatInTurn_27 {M0 : zM} {a0 : Nat} {M : zM} (hM : FQ M0 M) : KF (FQ M0) (f_X3_seatInTurn_27 a0 M) := by
  unfold f_X3_seatInTurn_27
  refine KF.b fun v1 => ?_
  refine KF.b fun v2 => ?_
  exact KF.s hM
theorem kq_X3_seatInTurn_0 {M0 : zM} {a0 : Nat} {M : zM} (hM : FQ M0 M) : KF (FQ M0) (f_X3_seatInTurn_0 a0 M) := by
  unfold f_X3_seatInTurn_0
  refine KF.b fun v1 => ?_
  refine KF.i ?_ ?_
  · exact (kq_X3_seatInTurn_27 hM)
  · refine KF.b fun v2 => ?_
    refine KF.i ?_ ?_
    · exact (kq_X3_seatInTurn_27 hM)
    · refine KF.b fun v3 => ?_
      refine KF.b fun v4 => ?_
      refine KF.b fun v5 => ?_
      exact KF.s hM
theorem kq_X3_seatInTurn {M0 : zM} {a0 : Nat} {M : zM} (hM : FQ M0 M) : KF (FQ M0) (f_X3_seatInTurn a0 M) := by
  unfold f_X3_seatInTurn
  exact (kq_X3_seatInTurn_0 hM)
theorem kq_X3_receive_0 {M0 : zM} {a0 : Nat} {i1 : Int32} {M : zM} (hM : FQ M0 M) : KF (FQ M0) (f_X3_receive_0 a0 i1 M) := by
  unfold f_X3_receive_0
  refine KF.i ?_ KF.n
  refine KF.c (kq_X3_seatInTurn hM) fun r1 h_r1 => ?_
  refine KF.i ?_ KF.n
  refine KF.c (kq_X1_change h_r1) fun r3 h_r3 => ?_
  refine KF.w (fq_pI h_r3 rfl) fun M5 h_M5 => ?_
  refine KF.w (fq_pZ h_M5 rfl) fun M6 h_M6 => ?_
  exact KF.s h_M6
theorem kq_X3_receive {M0 : zM} {a0 : Nat} {i1 : Int32} {M : zM} (hM : FQ M0 M) : KF (FQ M0) (f_X3_receive a0 i1 M) := by
  unfold f_X3_receive
  exact (kq_X3_receive_0 hM)
theorem kq_X3_layIntoRiver_0 {M0 : zM} {a0 : Nat} {a1 : Nat} {i2 : Int32} {M : zM} (hM : FQ M0 M) : KF (FQ M0) (f_X3_layIntoRiver_0 a0 a1 i2 M) := by
  unfold f_X3_layIntoRiver_0
  refine KF.i ?_ KF.n
  refine KF.c (kq_X1_toRiver hM) fun r1 h_r1 => ?_
  refine KF.w (fq_pI h_r1 rfl) fun M3 h_M3 => ?_
  exact KF.s h_M3
theorem kq_X3_layIntoRiver {M0 : zM} {a0 : Nat} {a1 : Nat} {i2 : Int32} {M : zM} (hM : FQ M0 M) : KF (FQ M0) (f_X3_layIntoRiver a0 a1 i2 M) := by
  unfold f_X3_layIntoRiver
  exact (kq_X3_layIntoRiver_0 hM)
theorem kq_X3_requireKind_10 {M0 : zM} {M : zM} (hM : FQ M0 M) : KF (FQ M0) (f_X3_requireKind_10 M) := by
  unfold f_X3_requireKind_10
  exact KF.s (fq_nE hM)
theorem kq_X3_requireKind_0 {M0 : zM} {i0 : Int32} {M : zM} (hM : FQ M0 M) : KF (FQ M0) (f_X3_requireKind_0 i0 M) := by
  unfold f_X3_requireKind_0
  refine KF.i ?_ ?_
  · exact (kq_X3_requireKind_10 hM)
  · refine KF.i ?_ ?_
    · exact KF.s hM
    · exact (kq_X3_requireKind_10 hM)
theorem kq_X3_requireKind {M0 : zM} {i0 : Int32} {M : zM} (hM : FQ M0 M) : KF (FQ M0) (f_X3_requireKind i0 M) := by
  unfold f_X3_requireKind
  exact (kq_X3_requireKind_0 hM)
theorem kq_X3_discard_37 {M0 : zM} {M : zM} (hM : FQ M0 M) : KF (FQ M0) (f_X3_discard_37 M) := by
  unfold f_X3_discard_37
  exact KF.s (fq_nE hM)
theorem kq_X3_discard_47 {M0 : zM} {a0 : Nat} {i1 : Int32} {a2 : Nat} {M : zM} (hM : FQ M0 M) : KF (FQ M0) (f_X3_discard_47 a0 i1 a2 M) := by
  unfold f_X3_discard_47
  refine KF.i ?_ KF.n
  refine KF.c (kq_X3_layIntoRiver hM) fun r1 h_r1 => ?_
  refine KF.b fun v3 => ?_
  exact KF.s h_r1
theorem kq_X3_discard_0 {M0 : zM} {a0 : Nat} {i1 : Int32} {M : zM} (hM : FQ M0 M) : KF (FQ M0) (f_X3_discard_0 a0 i1 M) := by
  unfold f_X3_discard_0
  refine KF.xb (kq_X3_requireKind hM) fun w1 Mw1 h_Mw1 => ?_
  refine KF.i ?_ KF.n
  refine KF.xb (kq_X3_requirePhase h_Mw1) fun w22 Mw22 h_Mw22 => ?_
  refine KF.i ?_ KF.n
  refine KF.c (kq_X3_seatInTurn h_Mw22) fun r33 h_r33 => ?_
  refine KF.i ?_ KF.n
  refine KF.c (kq_X1_count h_r33) fun r35 h_r35 => ?_
  refine KF.i ?_ ?_
  · exact (kq_X3_discard_37 h_r35)
  · refine KF.b fun v37 => ?_
    refine KF.i ?_ ?_
    · exact (kq_X3_discard_47 h_r35)
    · refine KF.b fun v38 => ?_
      refine KF.i ?_ ?_
      · exact (kq_X3_discard_47 h_r35)
      · exact (kq_X3_discard_37 h_r35)
theorem kq_X3_discard {M0 : zM} {a0 : Nat} {i1 : Int32} {M : zM} (hM : FQ M0 M) : KF (FQ M0) (f_X3_discard a0 i1 M) := by
  unfold f_X3_discard
  exact (kq_X3_discard_0 hM)
theorem kq_X3_readyWithout_21 {M0 : zM} {a1 : Nat} {i2 : Int32} {i_0 : Int32} {M : zM} (hM : FQ M0 M) : KF (FQ M0) (f_X3_readyWithout_21 a1 i2 i_0 M) := by
  unfold f_X3_readyWithout_21
  refine KF.i ?_ KF.n
  refine KF.c (kq_X1_change hM) fun r1 h_r1 => ?_
  refine KF.i ?_ KF.n
  exact KF.s h_r1
theorem kq_X3_readyWithout_0 {M0 : zM} {a0 : Nat} {a1 : Nat} {i2 : Int32} {M : zM} (hM : FQ M0 M) : KF (FQ M0) (f_X3_readyWithout_0 a0 a1 i2 M) := by
  unfold f_X3_readyWithout_0
  refine KF.i ?_ KF.n
  refine KF.c (kq_X1_change hM) fun r1 h_r1 => ?_
  refine KF.i ?_ KF.n
  refine KF.c (kq_X3_waitsOf h_r1) fun r3 h_r3 => ?_
  refine KF.i ?_ ?_
  · exact (kq_X3_readyWithout_21 h_r3)
  · exact (kq_X3_readyWithout_21 h_r3)
theorem kq_X3_readyWithout {M0 : zM} {a0 : Nat} {a1 : Nat} {i2 : Int32} {M : zM} (hM : FQ M0 M) : KF (FQ M0) (f_X3_readyWithout a0 a1 i2 M) := by
  unfold f_X3_readyWithout
  exact (kq_X3_readyWithout_0 hM)
theorem kq_X3_drawForFour_0 {M0 : zM} {a0 : Nat} {M : zM} (hM : FQ M0 M) : KF (FQ M0) (f_X3_drawForFour_0 a0 M) := by
  unfold f_X3_drawForFour_0
  refine KF.b fun v1 => ?_
  refine KF.i ?_ KF.n
  refine KF.c (kq_X3_kindAt hM) fun r2 h_r2 => ?_
  refine KF.b fun v4 => ?_
  refine KF.w (fq_pI h_r2 rfl) fun M5 h_M5 => ?_
  refine KF.i ?_ KF.n
  refine KF.c (kq_X3_receive h_M5) fun r6 h_r6 => ?_
  exact KF.s h_r6
theorem kq_X3_drawForFour {M0 : zM} {a0 : Nat} {M : zM} (hM : FQ M0 M) : KF (FQ M0) (f_X3_drawForFour a0 M) := by
  unfold f_X3_drawForFour
  exact (kq_X3_drawForFour_0 hM)
theorem kq_X3_completesRow_23 {M0 : zM} : ∀ (n : Nat) {a0 : Nat} {i1 : Int32} {i2 : Int32} {i3 : Int32} {M : zM}, FQ M0 M → KF (FQ M0) (f_X3_completesRow_23 n a0 i1 i2 i3 M) := by
  intro n
  induction n with
  | zero => exact fun _ => KF.n
  | succ n ih =>
    intro a0 i1 i2 i3 M hM
    rw [f_X3_completesRow_23]
    refine KF.i ?_ ?_
    · exact KF.s hM
    · refine KF.i ?_ ?_
      · exact (ih hM)
      · refine KF.i ?_ KF.n
        refine KF.c (kq_X1_count hM) fun r1 h_r1 => ?_
        refine KF.i ?_ ?_
        · exact KF.s h_r1
        · exact (ih h_r1)
theorem kq_X3_completesRow_0 {M0 : zM} {a0 : Nat} {i1 : Int32} {i2 : Int32} {M : zM} (hM : FQ M0 M) : KF (FQ M0) (f_X3_completesRow_0 a0 i1 i2 M) := by
  unfold f_X3_completesRow_0
  refine KF.c (kq_X3_startsRow hM) fun r1 h_r1 => ?_
  refine KF.i ?_ ?_
  · exact KF.s h_r1
  · refine KF.i ?_ ?_
    · exact KF.s h_r1
    · refine KF.i ?_ ?_
      · exact (kq_X3_completesRow_23 zN h_r1)
      · exact KF.s h_r1
theorem kq_X3_completesRow {M0 : zM} {a0 : Nat} {i1 : Int32} {i2 : Int32} {M : zM} (hM : FQ M0 M) : KF (FQ M0) (f_X3_completesRow a0 i1 i2 M) := by
  unfold f_X3_completesRow
  exact (kq_X3_completesRow_0 hM)
theorem kq_X3_fourAllowed_0 {M0 : zM} {a0 : Nat} {M : zM} (hM : FQ M0 M) : KF (FQ M0) (f_X3_fourAllowed_0 a0 M) := by
  unfold f_X3_fourAllowed_0
  refine KF.b fun v1 => ?_
  refine KF.i ?_ ?_
  · exact KF.s hM
  · refine KF.i ?_ KF.n
    refine KF.c (kq_X3_canDraw hM) fun r2 h_r2 => ?_
    refine KF.i ?_ ?_
    · exact KF.s h_r2
    · exact KF.s h_r2
theorem kq_X3_fourAllowed {M0 : zM} {a0 : Nat} {M : zM} (hM : FQ M0 M) : KF (FQ M0) (f_X3_fourAllowed a0 M) := by
  unfold f_X3_fourAllowed
  exact (kq_X3_fourAllowed_0 hM)
theorem kq_X3_mayClaim_0 {M0 : zM} {a0 : Nat} {i1 : Int32} {i2 : Int32} {i3 : Int32} {M : zM} (hM : FQ M0 M) : KF (FQ M0) (f_X3_mayClaim_0 a0 i1 i2 i3 M) := by
  unfold f_X3_mayClaim_0
  refine KF.b fun v1 => ?_
  refine KF.i ?_ ?_
  · refine KF.b fun v2 => ?_
    refine KF.i ?_ ?_
    · exact KF.s hM
    · refine KF.b fun v3 => ?_
      refine KF.b fun v4 => ?_
      refine KF.b fun v5 => ?_
      refine KF.i ?_ ?_
      · refine KF.b fun v6 => ?_
        refine KF.b fun v7 => ?_
        refine KF.i ?_ KF.n
        refine KF.c (kq_X3_seatInTurn hM) fun r8 h_r8 => ?_
        refine KF.i ?_ KF.n
        refine KF.c (kq_X1_latestInRiver h_r8) fun r10 h_r10 => ?_
        refine KF.i ?_ ?_
        · refine KF.b fun v22 => ?_
          refine KF.i ?_ ?_
          · refine KF.c (kq_X3_completesRow h_r10) fun r23 h_r23 => ?_
            refine KF.i ?_ ?_
            · exact KF.s h_r23
            · exact KF.s h_r23
          · exact KF.s h_r10
        · refine KF.i ?_ ?_
          · refine KF.i ?_ KF.n
            refine KF.c (kq_X1_count h_r10) fun r15 h_r15 => ?_
            refine KF.i ?_ ?_
            · exact KF.s h_r15
            · refine KF.i ?_ KF.n
              refine KF.c (kq_X3_fourAllowed h_r15) fun r17 h_r17 => ?_
              refine KF.i ?_ ?_
              · exact KF.s h_r17
              · exact KF.s h_r17
          · refine KF.i ?_ KF.n
            refine KF.c (kq_X1_count h_r10) fun r12 h_r12 => ?_
            refine KF.i ?_ ?_
            · exact KF.s h_r12
            · exact KF.s h_r12
      · exact KF.s hM
  · exact KF.s hM
theorem kq_X3_mayClaim {M0 : zM} {a0 : Nat} {i1 : Int32} {i2 : Int32} {i3 : Int32} {M : zM} (hM : FQ M0 M) : KF (FQ M0) (f_X3_mayClaim a0 i1 i2 i3 M) := by
  unfold f_X3_mayClaim
  exact (kq_X3_mayClaim_0 hM)
theorem kq_X3_requirePlayer_9 {M0 : zM} {M : zM} (hM : FQ M0 M) : KF (FQ M0) (f_X3_requirePlayer_9 M) := by
  unfold f_X3_requirePlayer_9
  exact KF.s (fq_nE hM)
theorem kq_X3_requirePlayer_0 {M0 : zM} {i0 : Int32} {M : zM} (hM : FQ M0 M) : KF (FQ M0) (f_X3_requirePlayer_0 i0 M) := by
  unfold f_X3_requirePlayer_0
  refine KF.i ?_ ?_
  · exact (kq_X3_requirePlayer_9 hM)
  · refine KF.i ?_ ?_
    · exact KF.s hM
    · exact (kq_X3_requirePlayer_9 hM)
theorem kq_X3_requirePlayer {M0 : zM} {i0 : Int32} {M : zM} (hM : FQ M0 M) : KF (FQ M0) (f_X3_requirePlayer i0 M) := by
  unfold f_X3_requirePlayer
  exact (kq_X3_requirePlayer_0 hM)
theorem kq_X3_claim_13 {M0 : zM} {M : zM} (hM : FQ M0 M) : KF (FQ M0) (f_X3_claim_13 M) := by
  unfold f_X3_claim_13
  exact KF.s (fq_nE hM)
theorem kq_X3_claim_110 {M0 : zM} {a4 : Nat} {M : zM} (hM : FQ M0 M) : KF (FQ M0) (f_X3_claim_110 a4 M) := by
  unfold f_X3_claim_110
  refine KF.b fun v1 => ?_
  exact KF.s hM
theorem kq_X3_claim_97 {M0 : zM} {a0 : Nat} {i2 : Int32} {a4 : Nat} {i_0 : Int32} {i_1 : Int32} {a_2 : Nat} {M : zM} (hM : FQ M0 M) : KF (FQ M0) (f_X3_claim_97 a0 i2 a4 i_0 i_1 a_2 M) := by
  unfold f_X3_claim_97
  refine KF.i ?_ KF.n
  refine KF.c (kq_X1_laySet hM) fun r1 h_r1 => ?_
  refine KF.i ?_ ?_
  · refine KF.i ?_ KF.n
    refine KF.c (kq_X3_drawForFour h_r1) fun r3 h_r3 => ?_
    exact (kq_X3_claim_110 h_r3)
  · exact (kq_X3_claim_110 h_r1)
theorem kq_X3_claim_0 {M0 : zM} {a0 : Nat} {i1 : Int32} {i2 : Int32} {i3 : Int32} {M : zM} (hM : FQ M0 M) : KF (FQ M0) (f_X3_claim_0 a0 i1 i2 i3 M) := by
  unfold f_X3_claim_0
  refine KF.xb (kq_X3_requirePlayer hM) fun w1 Mw1 h_Mw1 => ?_
  refine KF.i ?_ ?_
  · exact (kq_X3_claim_13 h_Mw1)
  · refine KF.i ?_ ?_
    · refine KF.i ?_ KF.n
      refine KF.c (kq_X3_mayClaim h_Mw1) fun r19 h_r19 => ?_
      refine KF.i ?_ ?_
      · exact KF.s (fq_nE h_r19)
      · refine KF.b fun v21 => ?_
        refine KF.b fun v22 => ?_
        refine KF.i ?_ KF.n
        refine KF.c (kq_X3_seatInTurn h_r19) fun r23 h_r23 => ?_
        refine KF.i ?_ KF.n
        refine KF.c (kq_X1_leaveRiver h_r23) fun r25 h_r25 => ?_
        refine KF.w (fq_pI h_r25 rfl) fun M27 h_M27 => ?_
        refine KF.w (fq_pI h_M27 rfl) fun M28 h_M28 => ?_
        refine KF.w (fq_pZ h_M28 rfl) fun M29 h_M29 => ?_
        refine KF.i ?_ KF.n
        refine KF.c (kq_X1_change h_M29) fun r30 h_r30 => ?_
        refine KF.i ?_ ?_
        · exact (kq_X3_claim_97 h_r30)
        · exact (kq_X3_claim_97 h_r30)
    · exact (kq_X3_claim_13 h_Mw1)
theorem kq_X3_claim {M0 : zM} {a0 : Nat} {i1 : Int32} {i2 : Int32} {i3 : Int32} {M : zM} (hM : FQ M0 M) : KF (FQ M0) (f_X3_claim a0 i1 i2 i3 M) := by
  unfold f_X3_claim
  exact (kq_X3_claim_0 hM)
theorem kq_X3_four_37 {M0 : zM} {M : zM} (hM : FQ M0 M) : KF (FQ M0) (f_X3_four_37 M) := by
  unfold f_X3_four_37
  exact KF.s (fq_nE hM)
theorem kq_X3_four_0 {M0 : zM} {a0 : Nat} {i1 : Int32} {M : zM} (hM : FQ M0 M) : KF (FQ M0) (f_X3_four_0 a0 i1 M) := by
  unfold f_X3_four_0
  refine KF.xb (kq_X3_requireKind hM) fun w1 Mw1 h_Mw1 => ?_
  refine KF.i ?_ KF.n
  refine KF.xb (kq_X3_requirePhase h_Mw1) fun w32 Mw32 h_Mw32 => ?_
  refine KF.i ?_ KF.n
  refine KF.c (kq_X3_seatInTurn h_Mw32) fun r48 h_r48 => ?_
  refine KF.b fun v50 => ?_
  refine KF.i ?_ ?_
  · refine KF.i ?_ KF.n
    refine KF.c (kq_X1_count h_r48) fun r51 h_r51 => ?_
    refine KF.i ?_ ?_
    · exact (kq_X3_four_37 h_r51)
    · refine KF.i ?_ KF.n
      refine KF.c (kq_X3_fourAllowed h_r51) fun r53 h_r53 => ?_
      refine KF.i ?_ ?_
      · exact (kq_X3_four_37 h_r53)
      · refine KF.i ?_ KF.n
        refine KF.c (kq_X1_laySet h_r53) fun r55 h_r55 => ?_
        refine KF.i ?_ KF.n
        refine KF.c (kq_X3_drawForFour h_r55) fun r57 h_r57 => ?_
        exact KF.s h_r57
  · exact (kq_X3_four_37 h_r48)
theorem kq_X3_four {M0 : zM} {a0 : Nat} {i1 : Int32} {M : zM} (hM : FQ M0 M) : KF (FQ M0) (f_X3_four a0 i1 M) := by
  unfold f_X3_four
  exact (kq_X3_four_0 hM)
theorem kq_X3_pass_0 {M0 : zM} {a0 : Nat} {M : zM} (hM : FQ M0 M) : KF (FQ M0) (f_X3_pass_0 a0 M) := by
  unfold f_X3_pass_0
  refine KF.i ?_ KF.n
  refine KF.xb (kq_X3_requirePhase hM) fun w1 Mw1 h_Mw1 => ?_
  refine KF.b fun v7 => ?_
  refine KF.w (fq_pI h_Mw1 rfl) fun M8 h_M8 => ?_
  refine KF.w (fq_pI h_M8 rfl) fun M9 h_M9 => ?_
  refine KF.b fun v10 => ?_
  exact KF.s h_M9
theorem kq_X3_pass {M0 : zM} {a0 : Nat} {M : zM} (hM : FQ M0 M) : KF (FQ M0) (f_X3_pass a0 M) := by
  unfold f_X3_pass
  exact (kq_X3_pass_0 hM)
theorem kq_X3_windOf_0 {M0 : zM} {a0 : Nat} {i1 : Int32} {M : zM} (hM : FQ M0 M) : KF (FQ M0) (f_X3_windOf_0 a0 i1 M) := by
  unfold f_X3_windOf_0
  refine KF.b fun v1 => ?_
  refine KF.i ?_ ?_
  · exact KF.s hM
  · refine KF.b fun v2 => ?_
    exact KF.s hM
theorem kq_X3_windOf {M0 : zM} {a0 : Nat} {i1 : Int32} {M : zM} (hM : FQ M0 M) : KF (FQ M0) (f_X3_windOf a0 i1 M) := by
  unfold f_X3_windOf
  exact (kq_X3_windOf_0 hM)
theorem kq_X3_winsAlone_0 {M0 : zM} {a0 : Nat} {i1 : Int32} {M : zM} (hM : FQ M0 M) : KF (FQ M0) (f_X3_winsAlone_0 a0 i1 M) := by
  unfold f_X3_winsAlone_0
  refine KF.b fun v1 => ?_
  refine KF.b fun v2 => ?_
  refine KF.b fun v3 => ?_
  refine KF.i ?_ ?_
  · refine KF.b fun v4 => ?_
    refine KF.i ?_ ?_
    · exact KF.s hM
    · refine KF.i ?_ KF.n
      refine KF.c (kq_X1_size hM) fun r5 h_r5 => ?_
      refine KF.i ?_ ?_
      · refine KF.b fun v7 => ?_
        refine KF.b fun v8 => ?_
        refine KF.i ?_ KF.n
        refine KF.c (kq_X0_complete h_r5) fun r9 h_r9 => ?_
        refine KF.i ?_ ?_
        · exact KF.s h_r9
        · exact KF.s h_r9
      · exact KF.s h_r5
  · exact KF.s hM
theorem kq_X3_winsAlone {M0 : zM} {a0 : Nat} {i1 : Int32} {M : zM} (hM : FQ M0 M) : KF (FQ M0) (f_X3_winsAlone a0 i1 M) := by
  unfold f_X3_winsAlone
  exact (kq_X3_winsAlone_0 hM)
theorem kq_X3_winsByDiscard_0 {M0 : zM} {a0 : Nat} {i1 : Int32} {M : zM} (hM : FQ M0 M) : KF (FQ M0) (f_X3_winsByDiscard_0 a0 i1 M) := by
  unfold f_X3_winsByDiscard_0
  refine KF.b fun v1 => ?_
  refine KF.i ?_ ?_
  · refine KF.b fun v2 => ?_
    refine KF.i ?_ ?_
    · exact KF.s hM
    · refine KF.b fun v3 => ?_
      refine KF.b fun v4 => ?_
      refine KF.i ?_ KF.n
      refine KF.c (kq_X3_waitsOf hM) fun r5 h_r5 => ?_
      refine KF.i ?_ KF.n
      refine KF.c (kq_X3_seatInTurn h_r5) fun r7 h_r7 => ?_
      refine KF.i ?_ KF.n
      refine KF.c (kq_X1_latestInRiver h_r7) fun r9 h_r9 => ?_
      refine KF.i ?_ ?_
      · exact KF.s h_r9
      · refine KF.i ?_ ?_
        · refine KF.b fun v11 => ?_
          refine KF.i ?_ ?_
          · exact KF.s h_r9
          · exact KF.s h_r9
        · exact KF.s h_r9
  · exact KF.s hM
theorem kq_X3_winsByDiscard {M0 : zM} {a0 : Nat} {i1 : Int32} {M : zM} (hM : FQ M0 M) : KF (FQ M0) (f_X3_winsByDiscard a0 i1 M) := by
  unfold f_X3_winsByDiscard
  exact (kq_X3_winsByDiscard_0 hM)
theorem kq_X3_has_0 {M0 : zM} {a0 : Nat} {i1 : Int32} {i2 : Int32} {M : zM} (hM : FQ M0 M) : KF (FQ M0) (f_X3_has_0 a0 i1 i2 M) := by
  unfold f_X3_has_0
  refine KF.xb (kq_X3_requirePlayer hM) fun w1 Mw1 h_Mw1 => ?_
  refine KF.xb (kq_X3_requireKind h_Mw1) fun w11 Mw11 h_Mw11 => ?_
  refine KF.b fun v16 => ?_
  refine KF.b fun v17 => ?_
  refine KF.i ?_ KF.n
  refine KF.c (kq_X1_count h_Mw11) fun r18 h_r18 => ?_
  exact KF.s h_r18
theorem kq_X3_has {M0 : zM} {a0 : Nat} {i1 : Int32} {i2 : Int32} {M : zM} (hM : FQ M0 M) : KF (FQ M0) (f_X3_has a0 i1 i2 M) := by
  unfold f_X3_has
  exact (kq_X3_has_0 hM)
theorem kq_X3_ofPlayer_0 {M0 : zM} {a0 : Nat} {i1 : Int32} {i2 : Int32} {M : zM} (hM : FQ M0 M) : KF (FQ M0) (f_X3_ofPlayer_0 a0 i1 i2 M) := by
  unfold f_X3_ofPlayer_0
  refine KF.xb (kq_X3_requirePlayer hM) fun w1 Mw1 h_Mw1 => ?_
  refine KF.b fun v35 => ?_
  refine KF.b fun v36 => ?_
  refine KF.i ?_ ?_
  · refine KF.b fun v67 => ?_
    exact KF.s h_Mw1
  · refine KF.i ?_ ?_
    · refine KF.b fun v66 => ?_
      exact KF.s h_Mw1
    · refine KF.i ?_ ?_
      · refine KF.i ?_ KF.n
        refine KF.c (kq_X1_openSets h_Mw1) fun r64 h_r64 => ?_
        exact KF.s h_r64
      · refine KF.i ?_ ?_
        · refine KF.i ?_ KF.n
          refine KF.c (kq_X1_inHand h_Mw1) fun r62 h_r62 => ?_
          exact KF.s h_r62
        · refine KF.i ?_ ?_
          · refine KF.b fun v61 => ?_
            exact KF.s h_Mw1
          · refine KF.i ?_ ?_
            · refine KF.b fun v59 => ?_
              refine KF.i ?_ ?_
              · exact KF.s h_Mw1
              · exact KF.s h_Mw1
            · refine KF.i ?_ ?_
              · refine KF.b fun v54 => ?_
                refine KF.b fun v55 => ?_
                refine KF.b fun v56 => ?_
                refine KF.i ?_ KF.n
                refine KF.c (kq_X0_far h_Mw1) fun r57 h_r57 => ?_
                exact KF.s h_r57
              · refine KF.i ?_ ?_
                · refine KF.i ?_ KF.n
                  refine KF.c (kq_X3_windOf h_Mw1) fun r52 h_r52 => ?_
                  exact KF.s h_r52
                · refine KF.i ?_ ?_
                  · refine KF.b fun v51 => ?_
                    exact KF.s h_Mw1
                  · refine KF.i ?_ ?_
                    · refine KF.i ?_ KF.n
                      refine KF.c (kq_X3_waitsOf h_Mw1) fun r47 h_r47 => ?_
                      refine KF.b fun v49 => ?_
                      refine KF.i ?_ ?_
                      · exact KF.s h_r47
                      · exact KF.s h_r47
                    · exact KF.s (fq_nE h_Mw1)
theorem kq_X3_ofPlayer {M0 : zM} {a0 : Nat} {i1 : Int32} {i2 : Int32} {M : zM} (hM : FQ M0 M) : KF (FQ M0) (f_X3_ofPlayer a0 i1 i2 M) := by
  unfold f_X3_ofPlayer
  exact (kq_X3_ofPlayer_0 hM)
theorem kq_X3_ofSet_28 {M0 : zM} {M : zM} (hM : FQ M0 M) : KF (FQ M0) (f_X3_ofSet_28 M) := by
  unfold f_X3_ofSet_28
  exact KF.s (fq_nE hM)
theorem kq_X3_ofSet_0 {M0 : zM} {a0 : Nat} {i1 : Int32} {i2 : Int32} {M : zM} (hM : FQ M0 M) : KF (FQ M0) (f_X3_ofSet_0 a0 i1 i2 M) := by
  unfold f_X3_ofSet_0
  refine KF.xb (kq_X3_requirePlayer hM) fun w1 Mw1 h_Mw1 => ?_
  refine KF.b fun v10 => ?_
  refine KF.b fun v11 => ?_
  refine KF.i ?_ ?_
  · exact (kq_X3_ofSet_28 h_Mw1)
  · refine KF.b fun v12 => ?_
    refine KF.i ?_ ?_
    · exact (kq_X3_ofSet_28 h_Mw1)
    · refine KF.i ?_ ?_
      · refine KF.b fun v13 => ?_
        refine KF.b fun v14 => ?_
        exact KF.s h_Mw1
      · exact (kq_X3_ofSet_28 h_Mw1)
theorem kq_X3_ofSet {M0 : zM} {a0 : Nat} {i1 : Int32} {i2 : Int32} {M : zM} (hM : FQ M0 M) : KF (FQ M0) (f_X3_ofSet a0 i1 i2 M) := by
  unfold f_X3_ofSet
  exact (kq_X3_ofSet_0 hM)
theorem kq_X3_river_29 {M0 : zM} {M : zM} (hM : FQ M0 M) : KF (FQ M0) (f_X3_river_29 M) := by
  unfold f_X3_river_29
  exact KF.s (fq_nE hM)
theorem kq_X3_river_0 {M0 : zM} {a0 : Nat} {i1 : Int32} {i2 : Int32} {M : zM} (hM : FQ M0 M) : KF (FQ M0) (f_X3_river_0 a0 i1 i2 M) := by
  unfold f_X3_river_0
  refine KF.xb (kq_X3_requirePlayer hM) fun w1 Mw1 h_Mw1 => ?_
  refine KF.b fun v10 => ?_
  refine KF.b fun v11 => ?_
  refine KF.i ?_ ?_
  · exact (kq_X3_river_29 h_Mw1)
  · refine KF.b fun v12 => ?_
    refine KF.i ?_ ?_
    · exact (kq_X3_river_29 h_Mw1)
    · refine KF.i ?_ ?_
      · refine KF.b fun v13 => ?_
        refine KF.b fun v14 => ?_
        exact KF.s h_Mw1
      · exact (kq_X3_river_29 h_Mw1)
theorem kq_X3_river {M0 : zM} {a0 : Nat} {i1 : Int32} {i2 : Int32} {M : zM} (hM : FQ M0 M) : KF (FQ M0) (f_X3_river a0 i1 i2 M) := by
  unfold f_X3_river
  exact (kq_X3_river_0 hM)
theorem kq_X3_waits_0 {M0 : zM} {a0 : Nat} {i1 : Int32} {M : zM} (hM : FQ M0 M) : KF (FQ M0) (f_X3_waits_0 a0 i1 M) := by
  unfold f_X3_waits_0
  refine KF.xb (kq_X3_requirePlayer hM) fun w1 Mw1 h_Mw1 => ?_
  refine KF.b fun v6 => ?_
  refine KF.b fun v7 => ?_
  refine KF.i ?_ KF.n
  refine KF.c (kq_X3_waitsOf h_Mw1) fun r8 h_r8 => ?_
  exact KF.s h_r8
theorem kq_X3_waits {M0 : zM} {a0 : Nat} {i1 : Int32} {M : zM} (hM : FQ M0 M) : KF (FQ M0) (f_X3_waits a0 i1 M) := by
  unfold f_X3_waits
  exact (kq_X3_waits_0 hM)
theorem kq_X3_seen_8 {M0 : zM} : ∀ (n : Nat) {a0 : Nat} {i1 : Int32} {i2 : Int32} {i3 : Int32} {M : zM}, FQ M0 M → KF (FQ M0) (f_X3_seen_8 n a0 i1 i2 i3 M) := by
  intro n
  induction n with
  | zero => exact fun _ => KF.n
  | succ n ih =>
    intro a0 i1 i2 i3 M hM
    rw [f_X3_seen_8]
    refine KF.i ?_ ?_
    · exact KF.s hM
    · refine KF.b fun v1 => ?_
      refine KF.b fun v2 => ?_
      refine KF.i ?_ KF.n
      refine KF.c (kq_X1_lying hM) fun r3 h_r3 => ?_
      exact (ih h_r3)
theorem kq_X3_seen_0 {M0 : zM} {a0 : Nat} {i1 : Int32} {M : zM} (hM : FQ M0 M) : KF (FQ M0) (f_X3_seen_0 a0 i1 M) := by
  unfold f_X3_seen_0
  refine KF.xb (kq_X3_requireKind hM) fun w1 Mw1 h_Mw1 => ?_
  exact (kq_X3_seen_8 zN h_Mw1)
theorem kq_X3_seen {M0 : zM} {a0 : Nat} {i1 : Int32} {M : zM} (hM : FQ M0 M) : KF (FQ M0) (f_X3_seen a0 i1 M) := by
  unfold f_X3_seen
  exact (kq_X3_seen_0 hM)
theorem kq_J5_init_d00df_0 {M0 : zM} {a0 : Nat} {i1 : Int32} {M : zM} (hM : FQ M0 M) : KF (FQ M0) (f_J5_init_d00df_0 a0 i1 M) := by
  unfold f_J5_init_d00df_0
  refine KF.i ?_ ?_
  · exact KF.n
  · refine KF.c (fq_aA hM) fun r1 h_r1 => ?_
    refine KF.w (fq_pR h_r1 rfl) fun M2 h_M2 => ?_
    refine KF.w (fq_pZ h_M2 rfl) fun M3 h_M3 => ?_
    exact KF.s h_M3
theorem kq_J5_init_d00df {M0 : zM} {a0 : Nat} {i1 : Int32} {M : zM} (hM : FQ M0 M) : KF (FQ M0) (f_J5_init_d00df a0 i1 M) := by
  unfold f_J5_init_d00df
  exact (kq_J5_init_d00df_0 hM)
theorem kq_J4_init_da8c8_0 {M0 : zM} {a0 : Nat} {M : zM} (hM : FQ M0 M) : KF (FQ M0) (f_J4_init_da8c8_0 a0 M) := by
  unfold f_J4_init_da8c8_0
  refine KF.c (kq_J5_init_d00df hM) fun r1 h_r1 => ?_
  exact KF.s h_r1
theorem kq_J4_init_da8c8 {M0 : zM} {a0 : Nat} {M : zM} (hM : FQ M0 M) : KF (FQ M0) (f_J4_init_da8c8 a0 M) := by
  unfold f_J4_init_da8c8
  exact (kq_J4_init_da8c8_0 hM)
theorem kq_J5_length_8abf5_0 {M0 : zM} {a0 : Nat} {M : zM} (hM : FQ M0 M) : KF (FQ M0) (f_J5_length_8abf5_0 a0 M) := by
  unfold f_J5_length_8abf5_0
  refine KF.b fun v1 => ?_
  exact KF.s hM
theorem kq_J5_length_8abf5 {M0 : zM} {a0 : Nat} {M : zM} (hM : FQ M0 M) : KF (FQ M0) (f_J5_length_8abf5 a0 M) := by
  unfold f_J5_length_8abf5
  exact (kq_J5_length_8abf5_0 hM)
theorem kq_J4_length_8abf5_0 {M0 : zM} {a0 : Nat} {M : zM} (hM : FQ M0 M) : KF (FQ M0) (f_J4_length_8abf5_0 a0 M) := by
  unfold f_J4_length_8abf5_0
  refine KF.i ?_ KF.n
  refine KF.c (kq_J5_length_8abf5 hM) fun r1 h_r1 => ?_
  exact KF.s h_r1
theorem kq_J4_length_8abf5 {M0 : zM} {a0 : Nat} {M : zM} (hM : FQ M0 M) : KF (FQ M0) (f_J4_length_8abf5 a0 M) := by
  unfold f_J4_length_8abf5
  exact (kq_J4_length_8abf5_0 hM)
theorem kq_J5_getValue_6d5f1_0 {M0 : zM} {a0 : Nat} {M : zM} (hM : FQ M0 M) : KF (FQ M0) (f_J5_getValue_6d5f1_0 a0 M) := by
  unfold f_J5_getValue_6d5f1_0
  refine KF.b fun v1 => ?_
  exact KF.s hM
theorem kq_J5_getValue_6d5f1 {M0 : zM} {a0 : Nat} {M : zM} (hM : FQ M0 M) : KF (FQ M0) (f_J5_getValue_6d5f1 a0 M) := by
  unfold f_J5_getValue_6d5f1
  exact (kq_J5_getValue_6d5f1_0 hM)
theorem kq_J5_isLatin1_aae02_0 {M0 : zM} {a0 : Nat} {M : zM} (hM : FQ M0 M) : KF (FQ M0) (f_J5_isLatin1_aae02_0 a0 M) := by
  unfold f_J5_isLatin1_aae02_0
  refine KF.i ?_ ?_
  · exact KF.s hM
  · refine KF.b fun v1 => ?_
    refine KF.i ?_ ?_
    · exact KF.s hM
    · exact KF.s hM
theorem kq_J5_isLatin1_aae02 {M0 : zM} {a0 : Nat} {M : zM} (hM : FQ M0 M) : KF (FQ M0) (f_J5_isLatin1_aae02 a0 M) := by
  unfold f_J5_isLatin1_aae02
  exact (kq_J5_isLatin1_aae02_0 hM)
theorem kq_J7_checkLength_df160_0 {M0 : zM} {i0 : Int32} {i1 : Int32} {M : zM} (hM : FQ M0 M) : KF (FQ M0) (f_J7_checkLength_df160_0 i0 i1 M) := by
  unfold f_J7_checkLength_df160_0
  refine KF.i ?_ KF.n
  exact KF.s hM
theorem kq_J7_checkLength_df160 {M0 : zM} {i0 : Int32} {i1 : Int32} {M : zM} (hM : FQ M0 M) : KF (FQ M0) (f_J7_checkLength_df160 i0 i1 M) := by
  unfold f_J7_checkLength_df160
  exact (kq_J7_checkLength_df160_0 hM)
theorem kq_J7_copyOfRangeByte_39247_0 {M0 : zM} {a0 : Nat} {i1 : Int32} {i2 : Int32} {M : zM} (hM : FQ M0 M) : KF (FQ M0) (f_J7_copyOfRangeByte_39247_0 a0 i1 i2 M) := by
  unfold f_J7_copyOfRangeByte_39247_0
  refine KF.c (kq_J7_checkLength_df160 hM) fun r1 h_r1 => ?_
  refine KF.c (fq_aA h_r1) fun r2 h_r2 => ?_
  refine KF.b fun v3 => ?_
  refine KF.c (kq_J9_min_7cf53 h_r2) fun r4 h_r4 => ?_
  refine KF.w (fq_yI h_r4) fun M5 h_M5 => ?_
  exact KF.s h_M5
theorem kq_J7_copyOfRangeByte_39247 {M0 : zM} {a0 : Nat} {i1 : Int32} {i2 : Int32} {M : zM} (hM : FQ M0 M) : KF (FQ M0) (f_J7_copyOfRangeByte_39247 a0 i1 i2 M) := by
  unfold f_J7_copyOfRangeByte_39247
  exact (kq_J7_copyOfRangeByte_39247_0 hM)
theorem kq_J7_copyOfRange_39247_10 {M0 : zM} {a0 : Nat} {i1 : Int32} {i2 : Int32} {M : zM} (hM : FQ M0 M) : KF (FQ M0) (f_J7_copyOfRange_39247_10 a0 i1 i2 M) := by
  unfold f_J7_copyOfRange_39247_10
  refine KF.c (kq_J7_copyOfRangeByte_39247 hM) fun r1 h_r1 => ?_
  exact KF.s h_r1
theorem kq_J7_copyOfRange_39247_0 {M0 : zM} {a0 : Nat} {i1 : Int32} {i2 : Int32} {M : zM} (hM : FQ M0 M) : KF (FQ M0) (f_J7_copyOfRange_39247_0 a0 i1 i2 M) := by
  unfold f_J7_copyOfRange_39247_0
  refine KF.i ?_ ?_
  · refine KF.b fun v1 => ?_
    refine KF.i ?_ ?_
    · refine KF.c (fq_aC hM) fun r2 h_r2 => ?_
      refine KF.i ?_ KF.n
      exact KF.s h_r2
    · exact (kq_J7_copyOfRange_39247_10 hM)
  · exact (kq_J7_copyOfRange_39247_10 hM)
theorem kq_J7_copyOfRange_39247 {M0 : zM} {a0 : Nat} {i1 : Int32} {i2 : Int32} {M : zM} (hM : FQ M0 M) : KF (FQ M0) (f_J7_copyOfRange_39247 a0 i1 i2 M) := by
  unfold f_J7_copyOfRange_39247
  exact (kq_J7_copyOfRange_39247_0 hM)
theorem kq_J0_init_db425_79 {M0 : zM} {a0 : Nat} {a3 : Nat} {i4 : Int32} {M : zM} (hM : FQ M0 M) : KF (FQ M0) (f_J0_init_db425_79 a0 a3 i4 M) := by
  unfold f_J0_init_db425_79
  refine KF.w (fq_pZ hM rfl) fun M1 h_M1 => ?_
  refine KF.c (kq_J7_copyOfRange_39247 h_M1) fun r2 h_r2 => ?_
  refine KF.w (fq_pR h_r2 rfl) fun M3 h_M3 => ?_
  exact KF.s h_M3
theorem kq_J0_init_db425_0 {M0 : zM} {a0 : Nat} {a1 : Nat} {M : zM} (hM : FQ M0 M) : KF (FQ M0) (f_J0_init_db425_0 a0 a1 M) := by
  unfold f_J0_init_db425_0
  refine KF.i ?_ KF.n
  refine KF.c (kq_J5_getValue_6d5f1 hM) fun r1 h_r1 => ?_
  refine KF.i ?_ KF.n
  refine KF.c (kq_J4_length_8abf5 h_r1) fun r3 h_r3 => ?_
  refine KF.i ?_ KF.n
  refine KF.c (kq_J5_isLatin1_aae02 h_r3) fun r5 h_r5 => ?_
  refine KF.i ?_ ?_
  · refine KF.i ?_ ?_
    · exact (kq_J0_init_db425_79 h_r5)
    · refine KF.b fun v7 => ?_
      refine KF.i ?_ KF.n
      exact (kq_J0_init_db425_79 h_r5)
  · refine KF.w (fq_pZ h_r5 rfl) fun M10 h_M10 => ?_
    refine KF.c (kq_J7_copyOfRange_39247 h_M10) fun r11 h_r11 => ?_
    refine KF.w (fq_pR h_r11 rfl) fun M12 h_M12 => ?_
    exact KF.s h_M12
theorem kq_J0_init_db425 {M0 : zM} {a0 : Nat} {a1 : Nat} {M : zM} (hM : FQ M0 M) : KF (FQ M0) (f_J0_init_db425 a0 a1 M) := by
  unfold f_J0_init_db425
  exact (kq_J0_init_db425_0 hM)
theorem kq_J0_init_81219_0 {M0 : zM} {a0 : Nat} {a1 : Nat} {M : zM} (hM : FQ M0 M) : KF (FQ M0) (f_J0_init_81219_0 a0 a1 M) := by
  unfold f_J0_init_81219_0
  refine KF.c (kq_J0_init_db425 hM) fun r1 h_r1 => ?_
  exact KF.s h_r1
theorem kq_J0_init_81219 {M0 : zM} {a0 : Nat} {a1 : Nat} {M : zM} (hM : FQ M0 M) : KF (FQ M0) (f_J0_init_81219 a0 a1 M) := by
  unfold f_J0_init_81219
  exact (kq_J0_init_81219_0 hM)
theorem kq_J4_toString_0e30d_0 {M0 : zM} {a0 : Nat} {M : zM} (hM : FQ M0 M) : KF (FQ M0) (f_J4_toString_0e30d_0 a0 M) := by
  unfold f_J4_toString_0e30d_0
  refine KF.c (kq_J0_init_81219 (fq_nO hM)) fun r1 h_r1 => ?_
  exact KF.s h_r1
theorem kq_J4_toString_0e30d {M0 : zM} {a0 : Nat} {M : zM} (hM : FQ M0 M) : KF (FQ M0) (f_J4_toString_0e30d a0 M) := by
  unfold f_J4_toString_0e30d
  exact (kq_J4_toString_0e30d_0 hM)
theorem kq_J0_isLatin1_aae02_0 {M0 : zM} {a0 : Nat} {M : zM} (hM : FQ M0 M) : KF (FQ M0) (f_J0_isLatin1_aae02_0 a0 M) := by
  unfold f_J0_isLatin1_aae02_0
  refine KF.i ?_ ?_
  · exact KF.s hM
  · refine KF.b fun v1 => ?_
    refine KF.i ?_ ?_
    · exact KF.s hM
    · exact KF.s hM
theorem kq_J0_isLatin1_aae02 {M0 : zM} {a0 : Nat} {M : zM} (hM : FQ M0 M) : KF (FQ M0) (f_J0_isLatin1_aae02 a0 M) := by
  unfold f_J0_isLatin1_aae02
  exact (kq_J0_isLatin1_aae02_0 hM)
theorem kq_J3_checkIndex_8e157_0 {M0 : zM} {i0 : Int32} {i1 : Int32} {M : zM} (hM : FQ M0 M) : KF (FQ M0) (f_J3_checkIndex_8e157_0 i0 i1 M) := by
  unfold f_J3_checkIndex_8e157_0
  refine KF.i ?_ ?_
  · exact KF.n
  · refine KF.i ?_ KF.n
    exact KF.s hM
theorem kq_J3_checkIndex_8e157 {M0 : zM} {i0 : Int32} {i1 : Int32} {M : zM} (hM : FQ M0 M) : KF (FQ M0) (f_J3_checkIndex_8e157 i0 i1 M) := by
  unfold f_J3_checkIndex_8e157
  exact (kq_J3_checkIndex_8e157_0 hM)
theorem kq_J0_checkIndex_df160_0 {M0 : zM} {i0 : Int32} {i1 : Int32} {M : zM} (hM : FQ M0 M) : KF (FQ M0) (f_J0_checkIndex_df160_0 i0 i1 M) := by
  unfold f_J0_checkIndex_df160_0
  refine KF.c (kq_J3_checkIndex_8e157 hM) fun r1 h_r1 => ?_
  exact KF.s h_r1
theorem kq_J0_checkIndex_df160 {M0 : zM} {i0 : Int32} {i1 : Int32} {M : zM} (hM : FQ M0 M) : KF (FQ M0) (f_J0_checkIndex_df160 i0 i1 M) := by
  unfold f_J0_checkIndex_df160
  exact (kq_J0_checkIndex_df160_0 hM)
theorem kq_J1_charAt_3b067_0 {M0 : zM} {a0 : Nat} {i1 : Int32} {M : zM} (hM : FQ M0 M) : KF (FQ M0) (f_J1_charAt_3b067_0 a0 i1 M) := by
  unfold f_J1_charAt_3b067_0
  refine KF.b fun v1 => ?_
  refine KF.c (kq_J0_checkIndex_df160 hM) fun r2 h_r2 => ?_
  refine KF.b fun v3 => ?_
  refine KF.i ?_ KF.n
  exact KF.s h_r2
theorem kq_J1_charAt_3b067 {M0 : zM} {a0 : Nat} {i1 : Int32} {M : zM} (hM : FQ M0 M) : KF (FQ M0) (f_J1_charAt_3b067 a0 i1 M) := by
  unfold f_J1_charAt_3b067
  exact (kq_J1_charAt_3b067_0 hM)
theorem kq_J0_charAt_5068e_0 {M0 : zM} {a0 : Nat} {i1 : Int32} {M : zM} (hM : FQ M0 M) : KF (FQ M0) (f_J0_charAt_5068e_0 a0 i1 M) := by
  unfold f_J0_charAt_5068e_0
  refine KF.i ?_ KF.n
  refine KF.c (kq_J0_isLatin1_aae02 hM) fun r1 h_r1 => ?_
  refine KF.i ?_ ?_
  · refine KF.b fun v3 => ?_
    exact KF.n
  · refine KF.b fun v4 => ?_
    refine KF.c (kq_J1_charAt_3b067 h_r1) fun r5 h_r5 => ?_
    refine KF.i ?_ KF.n
    exact KF.s h_r5
theorem kq_J0_charAt_5068e {M0 : zM} {a0 : Nat} {i1 : Int32} {M : zM} (hM : FQ M0 M) : KF (FQ M0) (f_J0_charAt_5068e a0 i1 M) := by
  unfold f_J0_charAt_5068e
  exact (kq_J0_charAt_5068e_0 hM)
theorem kq_J0_coder_7d493_0 {M0 : zM} {a0 : Nat} {M : zM} (hM : FQ M0 M) : KF (FQ M0) (f_J0_coder_7d493_0 a0 M) := by
  unfold f_J0_coder_7d493_0
  refine KF.i ?_ ?_
  · exact KF.s hM
  · refine KF.b fun v1 => ?_
    refine KF.i ?_ KF.n
    exact KF.s hM
theorem kq_J0_coder_7d493 {M0 : zM} {a0 : Nat} {M : zM} (hM : FQ M0 M) : KF (FQ M0) (f_J0_coder_7d493 a0 M) := by
  unfold f_J0_coder_7d493
  exact (kq_J0_coder_7d493_0 hM)
theorem kq_J0_length_8abf5_0 {M0 : zM} {a0 : Nat} {M : zM} (hM : FQ M0 M) : KF (FQ M0) (f_J0_length_8abf5_0 a0 M) := by
  unfold f_J0_length_8abf5_0
  refine KF.b fun v1 => ?_
  refine KF.b fun v2 => ?_
  refine KF.i ?_ KF.n
  refine KF.c (kq_J0_coder_7d493 hM) fun r3 h_r3 => ?_
  exact KF.s h_r3
theorem kq_J0_length_8abf5 {M0 : zM} {a0 : Nat} {M : zM} (hM : FQ M0 M) : KF (FQ M0) (f_J0_length_8abf5 a0 M) := by
  unfold f_J0_length_8abf5
  exact (kq_J0_length_8abf5_0 hM)
theorem kq_J1_canEncode_fc78d_0 {M0 : zM} {i0 : Int32} {M : zM} (hM : FQ M0 M) : KF (FQ M0) (f_J1_canEncode_fc78d_0 i0 M) := by
  unfold f_J1_canEncode_fc78d_0
  refine KF.i ?_ ?_
  · exact KF.s hM
  · exact KF.s hM
theorem kq_J1_canEncode_fc78d {M0 : zM} {i0 : Int32} {M : zM} (hM : FQ M0 M) : KF (FQ M0) (f_J1_canEncode_fc78d i0 M) := by
  unfold f_J1_canEncode_fc78d
  exact (kq_J1_canEncode_fc78d_0 hM)
theorem kq_J8_newLength_cabcc_21 {M0 : zM} {i0 : Int32} {i1 : Int32} {M : zM} (hM : FQ M0 M) : KF (FQ M0) (f_J8_newLength_cabcc_21 i0 i1 M) := by
  unfold f_J8_newLength_cabcc_21
  exact KF.n
theorem kq_J8_newLength_cabcc_0 {M0 : zM} {i0 : Int32} {i1 : Int32} {i2 : Int32} {M : zM} (hM : FQ M0 M) : KF (FQ M0) (f_J8_newLength_cabcc_0 i0 i1 i2 M) := by
  unfold f_J8_newLength_cabcc_0
  refine KF.c (kq_J9_max_7cf53 hM) fun r1 h_r1 => ?_
  refine KF.i ?_ ?_
  · exact (kq_J8_newLength_cabcc_21 h_r1)
  · refine KF.i ?_ ?_
    · exact (kq_J8_newLength_cabcc_21 h_r1)
    · exact KF.s h_r1
theorem kq_J8_newLength_cabcc {M0 : zM} {i0 : Int32} {i1 : Int32} {i2 : Int32} {M : zM} (hM : FQ M0 M) : KF (FQ M0) (f_J8_newLength_cabcc i0 i1 i2 M) := by
  unfold f_J8_newLength_cabcc
  exact (kq_J8_newLength_cabcc_0 hM)
theorem kq_J5_newCapacity_0f7a4_0 {M0 : zM} {a0 : Nat} {i1 : Int32} {M : zM} (hM : FQ M0 M) : KF (FQ M0) (f_J5_newCapacity_0f7a4_0 a0 i1 M) := by
  unfold f_J5_newCapacity_0f7a4_0
  refine KF.b fun v1 => ?_
  refine KF.b fun v2 => ?_
  refine KF.b fun v3 => ?_
  refine KF.b fun v4 => ?_
  refine KF.c (kq_J8_newLength_cabcc hM) fun r5 h_r5 => ?_
  refine KF.i ?_ ?_
  · exact KF.n
  · refine KF.b fun v6 => ?_
    exact KF.s h_r5
theorem kq_J5_newCapacity_0f7a4 {M0 : zM} {a0 : Nat} {i1 : Int32} {M : zM} (hM : FQ M0 M) : KF (FQ M0) (f_J5_newCapacity_0f7a4 a0 i1 M) := by
  unfold f_J5_newCapacity_0f7a4
  exact (kq_J5_newCapacity_0f7a4_0 hM)
theorem kq_J7_copyOf_9075b_0 {M0 : zM} {a0 : Nat} {i1 : Int32} {M : zM} (hM : FQ M0 M) : KF (FQ M0) (f_J7_copyOf_9075b_0 a0 i1 M) := by
  unfold f_J7_copyOf_9075b_0
  refine KF.b fun v1 => ?_
  refine KF.i ?_ ?_
  · refine KF.c (fq_aC hM) fun r6 h_r6 => ?_
    refine KF.i ?_ KF.n
    exact KF.s h_r6
  · refine KF.c (fq_aA hM) fun r2 h_r2 => ?_
    refine KF.b fun v3 => ?_
    refine KF.c (kq_J9_min_7cf53 h_r2) fun r4 h_r4 => ?_
    refine KF.w (fq_yI h_r4) fun M5 h_M5 => ?_
    exact KF.s h_M5
theorem kq_J7_copyOf_9075b {M0 : zM} {a0 : Nat} {i1 : Int32} {M : zM} (hM : FQ M0 M) : KF (FQ M0) (f_J7_copyOf_9075b a0 i1 M) := by
  unfold f_J7_copyOf_9075b
  exact (kq_J7_copyOf_9075b_0 hM)
theorem kq_J5_ensureCapacityInternal_d00df_0 {M0 : zM} {a0 : Nat} {i1 : Int32} {M : zM} (hM : FQ M0 M) : KF (FQ M0) (f_J5_ensureCapacityInternal_d00df_0 a0 i1 M) := by
  unfold f_J5_ensureCapacityInternal_d00df_0
  refine KF.b fun v1 => ?_
  refine KF.b fun v2 => ?_
  refine KF.b fun v3 => ?_
  refine KF.i ?_ ?_
  · exact KF.s hM
  · refine KF.b fun v4 => ?_
    refine KF.i ?_ KF.n
    refine KF.c (kq_J5_newCapacity_0f7a4 hM) fun r5 h_r5 => ?_
    refine KF.b fun v7 => ?_
    refine KF.c (kq_J7_copyOf_9075b h_r5) fun r8 h_r8 => ?_
    refine KF.w (fq_pR h_r8 rfl) fun M9 h_M9 => ?_
    exact KF.s h_M9
theorem kq_J5_ensureCapacityInternal_d00df {M0 : zM} {a0 : Nat} {i1 : Int32} {M : zM} (hM : FQ M0 M) : KF (FQ M0) (f_J5_ensureCapacityInternal_d00df a0 i1 M) := by
  unfold f_J5_ensureCapacityInternal_d00df
  exact (kq_J5_ensureCapacityInternal_d00df_0 hM)
theorem kq_J5_append_3fe6f_56 {M0 : zM} {a0 : Nat} {i1 : Int32} {M : zM} (hM : FQ M0 M) : KF (FQ M0) (f_J5_append_3fe6f_56 a0 i1 M) := by
  unfold f_J5_append_3fe6f_56
  refine KF.b fun v1 => ?_
  refine KF.b fun v2 => ?_
  refine KF.w (fq_pI hM rfl) fun M3 h_M3 => ?_
  exact KF.n
theorem kq_J5_append_3fe6f_45 {M0 : zM} {a0 : Nat} {i1 : Int32} {M : zM} (hM : FQ M0 M) : KF (FQ M0) (f_J5_append_3fe6f_45 a0 i1 M) := by
  unfold f_J5_append_3fe6f_45
  refine KF.i ?_ KF.n
  refine KF.c (kq_J5_isLatin1_aae02 hM) fun r1 h_r1 => ?_
  refine KF.i ?_ KF.n
  exact (kq_J5_append_3fe6f_56 h_r1)
theorem kq_J5_append_3fe6f_0 {M0 : zM} {a0 : Nat} {i1 : Int32} {M : zM} (hM : FQ M0 M) : KF (FQ M0) (f_J5_append_3fe6f_0 a0 i1 M) := by
  unfold f_J5_append_3fe6f_0
  refine KF.b fun v1 => ?_
  refine KF.i ?_ KF.n
  refine KF.c (kq_J5_ensureCapacityInternal_d00df hM) fun r2 h_r2 => ?_
  refine KF.i ?_ KF.n
  refine KF.c (kq_J5_isLatin1_aae02 h_r2) fun r4 h_r4 => ?_
  refine KF.i ?_ ?_
  · exact (kq_J5_append_3fe6f_45 h_r4)
  · refine KF.c (kq_J1_canEncode_fc78d h_r4) fun r6 h_r6 => ?_
    refine KF.i ?_ ?_
    · exact (kq_J5_append_3fe6f_45 h_r6)
    · refine KF.b fun v7 => ?_
      refine KF.b fun v8 => ?_
      refine KF.w (fq_pI h_r6 rfl) fun M9 h_M9 => ?_
      refine KF.w (fq_tB h_M9) fun M10 h_M10 => ?_
      exact KF.s h_M10
theorem kq_J5_append_3fe6f {M0 : zM} {a0 : Nat} {i1 : Int32} {M : zM} (hM : FQ M0 M) : KF (FQ M0) (f_J5_append_3fe6f a0 i1 M) := by
  unfold f_J5_append_3fe6f
  exact (kq_J5_append_3fe6f_0 hM)
theorem kq_J4_append_cf468_0 {M0 : zM} {a0 : Nat} {i1 : Int32} {M : zM} (hM : FQ M0 M) : KF (FQ M0) (f_J4_append_cf468_0 a0 i1 M) := by
  unfold f_J4_append_cf468_0
  refine KF.i ?_ KF.n
  refine KF.c (kq_J5_append_3fe6f hM) fun r1 h_r1 => ?_
  exact KF.s h_r1
theorem kq_J4_append_cf468 {M0 : zM} {a0 : Nat} {i1 : Int32} {M : zM} (hM : FQ M0 M) : KF (FQ M0) (f_J4_append_cf468 a0 i1 M) := by
  unfold f_J4_append_cf468
  exact (kq_J4_append_cf468_0 hM)
theorem kq_X3_writeHonours_24 {M0 : zM} {K6 : Nat → Nat → Nat → Int32 → zM → Option (Unit × zM)} (hK6 : ∀ {x0 : Nat} {x1 : Nat} {x2 : Nat} {x3 : Int32} {M : zM}, FQ M0 M → KF (FQ M0) (K6 x0 x1 x2 x3 M)) : ∀ (n : Nat) {a0 : Nat} {a1 : Nat} {a2 : Nat} {i3 : Int32} {i4 : Int32} {M : zM}, FQ M0 M → KF (FQ M0) (f_X3_writeHonours_24 K6 n a0 a1 a2 i3 i4 M) := by
  intro n
  induction n with
  | zero => exact fun _ => KF.n
  | succ n ih =>
    intro a0 a1 a2 i3 i4 M hM
    rw [f_X3_writeHonours_24]
    refine KF.i ?_ ?_
    · exact (hK6 hM)
    · refine KF.i ?_ KF.n
      refine KF.c (kq_J0_charAt_5068e hM) fun r1 h_r1 => ?_
      refine KF.i ?_ KF.n
      refine KF.c (kq_J4_append_cf468 h_r1) fun r3 h_r3 => ?_
      exact (ih h_r3)
theorem kq_X3_writeHonours_6 {M0 : zM} : ∀ (n : Nat) {a0 : Nat} {a1 : Nat} {a2 : Nat} {i3 : Int32} {M : zM}, FQ M0 M → KF (FQ M0) (f_X3_writeHonours_6 n a0 a1 a2 i3 M) := by
  intro n
  induction n with
  | zero => exact fun _ => KF.n
  | succ n ih =>
    intro a0 a1 a2 i3 M hM
    rw [f_X3_writeHonours_6]
    refine KF.i ?_ KF.n
    refine KF.c (kq_J0_length_8abf5 hM) fun r1 h_r1 => ?_
    refine KF.i ?_ ?_
    · exact KF.s h_r1
    · refine KF.i ?_ KF.n
      refine KF.c (kq_X1_count h_r1) fun r3 h_r3 => ?_
      exact (kq_X3_writeHonours_24 ih zN h_r3)
theorem kq_X3_writeHonours_0 {M0 : zM} {a0 : Nat} {a1 : Nat} {M : zM} (hM : FQ M0 M) : KF (FQ M0) (f_X3_writeHonours_0 a0 a1 M) := by
  unfold f_X3_writeHonours_0
  exact (kq_X3_writeHonours_6 zN hM)
theorem kq_X3_writeHonours {M0 : zM} {a0 : Nat} {a1 : Nat} {M : zM} (hM : FQ M0 M) : KF (FQ M0) (f_X3_writeHonours a0 a1 M) := by
  unfold f_X3_writeHonours
  exact (kq_X3_writeHonours_0 hM)
theorem kq_J6_getChars_ba4f3_104 {M0 : zM} {a2 : Nat} {i5 : Int32} {i6 : Int32} {M : zM} (hM : FQ M0 M) : KF (FQ M0) (f_J6_getChars_ba4f3_104 a2 i5 i6 M) := by
  unfold f_J6_getChars_ba4f3_104
  refine KF.i ?_ ?_
  · exact KF.s hM
  · refine KF.w (fq_tB hM) fun M1 h_M1 => ?_
    exact KF.s h_M1
theorem kq_J6_getChars_ba4f3_22 {M0 : zM} : ∀ (n : Nat) {i0 : Int32} {a2 : Nat} {i5 : Int32} {i6 : Int32} {M : zM}, FQ M0 M → KF (FQ M0) (f_J6_getChars_ba4f3_22 n i0 a2 i5 i6 M) := by
  intro n
  induction n with
  | zero => exact fun _ => KF.n
  | succ n ih =>
    intro i0 a2 i5 i6 M hM
    rw [f_J6_getChars_ba4f3_22]
    refine KF.i ?_ ?_
    · refine KF.b fun v1 => ?_
      refine KF.w (fq_tB hM) fun M2 h_M2 => ?_
      refine KF.i ?_ ?_
      · exact (kq_J6_getChars_ba4f3_104 h_M2)
      · refine KF.b fun v3 => ?_
        refine KF.w (fq_tB h_M2) fun M4 h_M4 => ?_
        exact (kq_J6_getChars_ba4f3_104 h_M4)
    · refine KF.b fun v6 => ?_
      refine KF.w (fq_tB hM) fun M7 h_M7 => ?_
      refine KF.b fun v8 => ?_
      refine KF.w (fq_tB h_M7) fun M9 h_M9 => ?_
      exact (ih h_M9)
theorem kq_J6_getChars_ba4f3_12 {M0 : zM} {i0 : Int32} {a2 : Nat} {i5 : Int32} {i_0 : Int32} {M : zM} (hM : FQ M0 M) : KF (FQ M0) (f_J6_getChars_ba4f3_12 i0 a2 i5 i_0 M) := by
  unfold f_J6_getChars_ba4f3_12
  refine KF.i ?_ ?_
  · exact (kq_J6_getChars_ba4f3_22 zN hM)
  · exact (kq_J6_getChars_ba4f3_22 zN hM)
theorem kq_J6_getChars_ba4f3_0 {M0 : zM} {i0 : Int32} {i1 : Int32} {a2 : Nat} {M : zM} (hM : FQ M0 M) : KF (FQ M0) (f_J6_getChars_ba4f3_0 i0 i1 a2 M) := by
  unfold f_J6_getChars_ba4f3_0
  refine KF.i ?_ ?_
  · exact (kq_J6_getChars_ba4f3_12 hM)
  · exact (kq_J6_getChars_ba4f3_12 hM)
theorem kq_J6_getChars_ba4f3 {M0 : zM} {i0 : Int32} {i1 : Int32} {a2 : Nat} {M : zM} (hM : FQ M0 M) : KF (FQ M0) (f_J6_getChars_ba4f3 i0 i1 a2 M) := by
  unfold f_J6_getChars_ba4f3
  exact (kq_J6_getChars_ba4f3_0 hM)
theorem kq_J6_stringSize_0f7a4_16 {M0 : zM} : ∀ (n : Nat) {i0 : Int32} {i1 : Int32} {i2 : Int32} {i3 : Int32} {M : zM}, FQ M0 M → KF (FQ M0) (f_J6_stringSize_0f7a4_16 n i0 i1 i2 i3 M) := by
  intro n
  induction n with
  | zero => exact fun _ => KF.n
  | succ n ih =>
    intro i0 i1 i2 i3 M hM
    rw [f_J6_stringSize_0f7a4_16]
    refine KF.i ?_ ?_
    · exact KF.s hM
    · refine KF.i ?_ ?_
      · exact (ih hM)
      · exact KF.s hM
theorem kq_J6_stringSize_0f7a4_11 {M0 : zM} {i0 : Int32} {i1 : Int32} {M : zM} (hM : FQ M0 M) : KF (FQ M0) (f_J6_stringSize_0f7a4_11 i0 i1 M) := by
  unfold f_J6_stringSize_0f7a4_11
  exact (kq_J6_stringSize_0f7a4_16 zN hM)
theorem kq_J6_stringSize_0f7a4_0 {M0 : zM} {i0 : Int32} {M : zM} (hM : FQ M0 M) : KF (FQ M0) (f_J6_stringSize_0f7a4_0 i0 M) := by
  unfold f_J6_stringSize_0f7a4_0
  refine KF.i ?_ ?_
  · exact (kq_J6_stringSize_0f7a4_11 hM)
  · exact (kq_J6_stringSize_0f7a4_11 hM)
theorem kq_J6_stringSize_0f7a4 {M0 : zM} {i0 : Int32} {M : zM} (hM : FQ M0 M) : KF (FQ M0) (f_J6_stringSize_0f7a4 i0 M) := by
  unfold f_J6_stringSize_0f7a4
  exact (kq_J6_stringSize_0f7a4_0 hM)
theorem kq_J5_append_c97b9_48 {M0 : zM} {a0 : Nat} {i3 : Int32} {M : zM} (hM : FQ M0 M) : KF (FQ M0) (f_J5_append_c97b9_48 a0 i3 M) := by
  unfold f_J5_append_c97b9_48
  refine KF.w (fq_pI hM rfl) fun M1 h_M1 => ?_
  exact KF.s h_M1
theorem kq_J5_append_c97b9_0 {M0 : zM} {a0 : Nat} {i1 : Int32} {M : zM} (hM : FQ M0 M) : KF (FQ M0) (f_J5_append_c97b9_0 a0 i1 M) := by
  unfold f_J5_append_c97b9_0
  refine KF.b fun v1 => ?_
  refine KF.c (kq_J6_stringSize_0f7a4 hM) fun r2 h_r2 => ?_
  refine KF.i ?_ KF.n
  refine KF.c (kq_J5_ensureCapacityInternal_d00df h_r2) fun r3 h_r3 => ?_
  refine KF.i ?_ KF.n
  refine KF.c (kq_J5_isLatin1_aae02 h_r3) fun r5 h_r5 => ?_
  refine KF.i ?_ ?_
  · refine KF.b fun v7 => ?_
    exact KF.n
  · refine KF.b fun v8 => ?_
    refine KF.c (kq_J6_getChars_ba4f3 h_r5) fun r9 h_r9 => ?_
    exact (kq_J5_append_c97b9_48 h_r9)
theorem kq_J5_append_c97b9 {M0 : zM} {a0 : Nat} {i1 : Int32} {M : zM} (hM : FQ M0 M) : KF (FQ M0) (f_J5_append_c97b9 a0 i1 M) := by
  unfold f_J5_append_c97b9
  exact (kq_J5_append_c97b9_0 hM)
theorem kq_J4_append_bf812_0 {M0 : zM} {a0 : Nat} {i1 : Int32} {M : zM} (hM : FQ M0 M) : KF (FQ M0) (f_J4_append_bf812_0 a0 i1 M) := by
  unfold f_J4_append_bf812_0
  refine KF.i ?_ KF.n
  refine KF.c (kq_J5_append_c97b9 hM) fun r1 h_r1 => ?_
  exact KF.s h_r1
theorem kq_J4_append_bf812 {M0 : zM} {a0 : Nat} {i1 : Int32} {M : zM} (hM : FQ M0 M) : KF (FQ M0) (f_J4_append_bf812 a0 i1 M) := by
  unfold f_J4_append_bf812
  exact (kq_J4_append_bf812_0 hM)
theorem kq_X3_writeSuit_28 {M0 : zM} {K9 : Nat → Nat → Int32 → Int32 → Int32 → Int32 → zM → Option (Unit × zM)} (hK9 : ∀ {x0 : Nat} {x1 : Nat} {x2 : Int32} {x3 : Int32} {x4 : Int32} {x5 : Int32} {M : zM}, FQ M0 M → KF (FQ M0) (K9 x0 x1 x2 x3 x4 x5 M)) : ∀ (n : Nat) {a0 : Nat} {a1 : Nat} {i2 : Int32} {i3 : Int32} {i4 : Int32} {i5 : Int32} {i6 : Int32} {M : zM}, FQ M0 M → KF (FQ M0) (f_X3_writeSuit_28 K9 n a0 a1 i2 i3 i4 i5 i6 M) := by
  intro n
  induction n with
  | zero => exact fun _ => KF.n
  | succ n ih =>
    intro a0 a1 i2 i3 i4 i5 i6 M hM
    rw [f_X3_writeSuit_28]
    refine KF.i ?_ ?_
    · exact (hK9 hM)
    · refine KF.i ?_ KF.n
      refine KF.c (kq_J4_append_bf812 hM) fun r1 h_r1 => ?_
      exact (ih h_r1)
theorem kq_X3_writeSuit_9 {M0 : zM} : ∀ (n : Nat) {a0 : Nat} {a1 : Nat} {i2 : Int32} {i3 : Int32} {i4 : Int32} {i5 : Int32} {M : zM}, FQ M0 M → KF (FQ M0) (f_X3_writeSuit_9 n a0 a1 i2 i3 i4 i5 M) := by
  intro n
  induction n with
  | zero => exact fun _ => KF.n
  | succ n ih =>
    intro a0 a1 i2 i3 i4 i5 M hM
    rw [f_X3_writeSuit_9]
    refine KF.i ?_ ?_
    · refine KF.i ?_ KF.n
      refine KF.c (kq_J4_length_8abf5 hM) fun r1 h_r1 => ?_
      refine KF.i ?_ ?_
      · exact KF.s h_r1
      · refine KF.i ?_ KF.n
        refine KF.c (kq_J4_append_cf468 h_r1) fun r3 h_r3 => ?_
        exact KF.s h_r3
    · refine KF.i ?_ KF.n
      refine KF.c (kq_X1_count hM) fun r6 h_r6 => ?_
      exact (kq_X3_writeSuit_28 ih zN h_r6)
theorem kq_X3_writeSuit_0 {M0 : zM} {a0 : Nat} {a1 : Nat} {i2 : Int32} {i3 : Int32} {M : zM} (hM : FQ M0 M) : KF (FQ M0) (f_X3_writeSuit_0 a0 a1 i2 i3 M) := by
  unfold f_X3_writeSuit_0
  refine KF.i ?_ KF.n
  refine KF.c (kq_J4_length_8abf5 hM) fun r1 h_r1 => ?_
  exact (kq_X3_writeSuit_9 zN h_r1)
theorem kq_X3_writeSuit {M0 : zM} {a0 : Nat} {a1 : Nat} {i2 : Int32} {i3 : Int32} {M : zM} (hM : FQ M0 M) : KF (FQ M0) (f_X3_writeSuit a0 a1 i2 i3 M) := by
  unfold f_X3_writeSuit
  exact (kq_X3_writeSuit_0 hM)
theorem kq_X3_hand_0 {M0 : zM} {a0 : Nat} {i1 : Int32} {M : zM} (hM : FQ M0 M) : KF (FQ M0) (f_X3_hand_0 a0 i1 M) := by
  unfold f_X3_hand_0
  refine KF.xb (kq_X3_requirePlayer hM) fun w1 Mw1 h_Mw1 => ?_
  refine KF.b fun v10 => ?_
  refine KF.b fun v11 => ?_
  refine KF.c (kq_J4_init_da8c8 (fq_nO h_Mw1)) fun r12 h_r12 => ?_
  refine KF.c (kq_X3_writeSuit h_r12) fun r13 h_r13 => ?_
  refine KF.c (kq_X3_writeSuit h_r13) fun r14 h_r14 => ?_
  refine KF.c (kq_X3_writeHonours h_r14) fun r15 h_r15 => ?_
  refine KF.i ?_ KF.n
  refine KF.c (kq_J4_toString_0e30d h_r15) fun r16 h_r16 => ?_
  exact KF.s h_r16
theorem kq_X3_hand {M0 : zM} {a0 : Nat} {i1 : Int32} {M : zM} (hM : FQ M0 M) : KF (FQ M0) (f_X3_hand a0 i1 M) := by
  unfold f_X3_hand
  exact (kq_X3_hand_0 hM)
theorem kq_X3_many_0 {M0 : zM} {a0 : Nat} {i1 : Int32} {M : zM} (hM : FQ M0 M) : KF (FQ M0) (f_X3_many_0 a0 i1 M) := by
  unfold f_X3_many_0
  refine KF.i ?_ ?_
  · refine KF.b fun v28 => ?_
    exact KF.s hM
  · refine KF.i ?_ ?_
    · refine KF.b fun v25 => ?_
      refine KF.i ?_ ?_
      · exact KF.s hM
      · refine KF.b fun v26 => ?_
        exact KF.s hM
    · refine KF.i ?_ ?_
      · refine KF.i ?_ KF.n
        refine KF.c (kq_X3_tilesLeft hM) fun r23 h_r23 => ?_
        exact KF.s h_r23
      · refine KF.i ?_ ?_
        · refine KF.b fun v22 => ?_
          exact KF.s hM
        · refine KF.i ?_ ?_
          · refine KF.b fun v16 => ?_
            refine KF.i ?_ ?_
            · refine KF.i ?_ KF.n
              refine KF.c (kq_X3_seatInTurn hM) fun r17 h_r17 => ?_
              refine KF.i ?_ KF.n
              refine KF.c (kq_X1_latestInRiver h_r17) fun r19 h_r19 => ?_
              exact KF.s h_r19
            · exact KF.s hM
          · refine KF.i ?_ ?_
            · refine KF.b fun v15 => ?_
              exact KF.s hM
            · refine KF.i ?_ ?_
              · refine KF.b fun v14 => ?_
                exact KF.s hM
              · refine KF.i ?_ ?_
                · refine KF.b fun v13 => ?_
                  exact KF.s hM
                · refine KF.i ?_ ?_
                  · refine KF.b fun v12 => ?_
                    exact KF.s hM
                  · refine KF.i ?_ ?_
                    · refine KF.b fun v11 => ?_
                      exact KF.s hM
                    · exact KF.s (fq_nE hM)
theorem kq_X3_many {M0 : zM} {a0 : Nat} {i1 : Int32} {M : zM} (hM : FQ M0 M) : KF (FQ M0) (f_X3_many a0 i1 M) := by
  unfold f_X3_many
  exact (kq_X3_many_0 hM)
theorem kq_X3_fourLeads_4 {M0 : zM} : ∀ (n : Nat) {a0 : Nat} {i1 : Int32} {i2 : Int32} {i3 : Int32} {M : zM}, FQ M0 M → KF (FQ M0) (f_X3_fourLeads_4 n a0 i1 i2 i3 M) := by
  intro n
  induction n with
  | zero => exact fun _ => KF.n
  | succ n ih =>
    intro a0 i1 i2 i3 M hM
    rw [f_X3_fourLeads_4]
    refine KF.i ?_ ?_
    · refine KF.b fun v1 => ?_
      refine KF.b fun v2 => ?_
      refine KF.b fun v3 => ?_
      exact KF.s hM
    · refine KF.b fun v4 => ?_
      refine KF.b fun v5 => ?_
      refine KF.b fun v6 => ?_
      exact (ih hM)
theorem kq_X3_fourLeads_0 {M0 : zM} {a0 : Nat} {i1 : Int32} {M : zM} (hM : FQ M0 M) : KF (FQ M0) (f_X3_fourLeads_0 a0 i1 M) := by
  unfold f_X3_fourLeads_0
  exact (kq_X3_fourLeads_4 zN hM)
theorem kq_X3_fourLeads {M0 : zM} {a0 : Nat} {i1 : Int32} {M : zM} (hM : FQ M0 M) : KF (FQ M0) (f_X3_fourLeads a0 i1 M) := by
  unfold f_X3_fourLeads
  exact (kq_X3_fourLeads_0 hM)
theorem kq_X3_lead_0 {M0 : zM} {a0 : Nat} {i1 : Int32} {M : zM} (hM : FQ M0 M) : KF (FQ M0) (f_X3_lead_0 a0 i1 M) := by
  unfold f_X3_lead_0
  refine KF.xb (kq_X3_requirePlayer hM) fun w1 Mw1 h_Mw1 => ?_
  refine KF.i ?_ KF.n
  refine KF.c (kq_X3_fourLeads h_Mw1) fun r5 h_r5 => ?_
  refine KF.i ?_ KF.n
  exact KF.s h_r5
theorem kq_X3_lead {M0 : zM} {a0 : Nat} {i1 : Int32} {M : zM} (hM : FQ M0 M) : KF (FQ M0) (f_X3_lead a0 i1 M) := by
  unfold f_X3_lead
  exact (kq_X3_lead_0 hM)
theorem kq_X3_worth_0 {M0 : zM} {a0 : Nat} {i1 : Int32} {i2 : Int32} {M : zM} (hM : FQ M0 M) : KF (FQ M0) (f_X3_worth_0 a0 i1 i2 M) := by
  unfold f_X3_worth_0
  refine KF.xb (kq_X3_requirePlayer hM) fun w1 Mw1 h_Mw1 => ?_
  refine KF.xb (kq_X3_requireKind h_Mw1) fun w33 Mw33 h_Mw33 => ?_
  refine KF.b fun v49 => ?_
  refine KF.b fun v50 => ?_
  refine KF.i ?_ KF.n
  refine KF.c (kq_X3_waitsOf h_Mw33) fun r51 h_r51 => ?_
  refine KF.i ?_ ?_
  · exact KF.s h_r51
  · refine KF.i ?_ KF.n
    refine KF.c (kq_X1_change h_r51) fun r53 h_r53 => ?_
    refine KF.b fun v55 => ?_
    refine KF.b fun v56 => ?_
    refine KF.i ?_ KF.n
    refine KF.c (kq_X3_windOf h_r53) fun r57 h_r57 => ?_
    refine KF.i ?_ KF.n
    refine KF.c (kq_X2_value h_r57) fun r59 h_r59 => ?_
    refine KF.i ?_ KF.n
    refine KF.c (kq_X1_change h_r59) fun r61 h_r61 => ?_
    exact KF.s h_r61
theorem kq_X3_worth {M0 : zM} {a0 : Nat} {i1 : Int32} {i2 : Int32} {M : zM} (hM : FQ M0 M) : KF (FQ M0) (f_X3_worth a0 i1 i2 M) := by
  unfold f_X3_worth
  exact (kq_X3_worth_0 hM)
theorem kq_X3_farWith_0 {M0 : zM} {a0 : Nat} {a1 : Nat} {i2 : Int32} {i3 : Int32} {M : zM} (hM : FQ M0 M) : KF (FQ M0) (f_X3_farWith_0 a0 a1 i2 i3 M) := by
  unfold f_X3_farWith_0
  refine KF.i ?_ KF.n
  refine KF.c (kq_X1_change hM) fun r1 h_r1 => ?_
  refine KF.b fun v3 => ?_
  refine KF.b fun v4 => ?_
  refine KF.b fun v5 => ?_
  refine KF.i ?_ KF.n
  refine KF.c (kq_X0_far h_r1) fun r6 h_r6 => ?_
  refine KF.i ?_ KF.n
  refine KF.c (kq_X1_change h_r6) fun r8 h_r8 => ?_
  exact KF.s h_r8
theorem kq_X3_farWith {M0 : zM} {a0 : Nat} {a1 : Nat} {i2 : Int32} {i3 : Int32} {M : zM} (hM : FQ M0 M) : KF (FQ M0) (f_X3_farWith a0 a1 i2 i3 M) := by
  unfold f_X3_farWith
  exact (kq_X3_farWith_0 hM)
theorem kq_X3_best_96 {M0 : zM} {K22 : Nat → Nat → Int32 → Int32 → Int32 → zM → Option (Int32 × zM)} (hK22 : ∀ {x0 : Nat} {x1 : Nat} {x2 : Int32} {x3 : Int32} {x4 : Int32} {M : zM}, FQ M0 M → KF (FQ M0) (K22 x0 x1 x2 x3 x4 M)) {a0 : Nat} {a1 : Nat} {i4 : Int32} {i5 : Int32} {M : zM} (hM : FQ M0 M) : KF (FQ M0) (f_X3_best_96 K22 a0 a1 i4 i5 M) := by
  unfold f_X3_best_96
  exact (hK22 hM)
theorem kq_X3_best_72 {M0 : zM} {K22 : Nat → Nat → Int32 → Int32 → Int32 → zM → Option (Int32 × zM)} (hK22 : ∀ {x0 : Nat} {x1 : Nat} {x2 : Int32} {x3 : Int32} {x4 : Int32} {M : zM}, FQ M0 M → KF (FQ M0) (K22 x0 x1 x2 x3 x4 M)) {a0 : Nat} {a1 : Nat} {i2 : Int32} {i3 : Int32} {i4 : Int32} {i5 : Int32} {i_0 : Int32} {M : zM} (hM : FQ M0 M) : KF (FQ M0) (f_X3_best_72 K22 a0 a1 i2 i3 i4 i5 i_0 M) := by
  unfold f_X3_best_72
  refine KF.i ?_ ?_
  · exact (kq_X3_best_96 hK22 hM)
  · refine KF.i ?_ ?_
    · exact (kq_X3_best_96 hK22 hM)
    · refine KF.i ?_ ?_
      · refine KF.i ?_ ?_
        · exact (hK22 hM)
        · exact (kq_X3_best_96 hK22 hM)
      · exact (hK22 hM)
theorem kq_X3_best_71 {M0 : zM} {K22 : Nat → Nat → Int32 → Int32 → Int32 → zM → Option (Int32 × zM)} (hK22 : ∀ {x0 : Nat} {x1 : Nat} {x2 : Int32} {x3 : Int32} {x4 : Int32} {M : zM}, FQ M0 M → KF (FQ M0) (K22 x0 x1 x2 x3 x4 M)) {a0 : Nat} {a1 : Nat} {i2 : Int32} {i3 : Int32} {i4 : Int32} {i5 : Int32} {M : zM} (hM : FQ M0 M) : KF (FQ M0) (f_X3_best_71 K22 a0 a1 i2 i3 i4 i5 M) := by
  unfold f_X3_best_71
  exact (kq_X3_best_72 hK22 hM)
theorem kq_X3_best_22 {M0 : zM} : ∀ (n : Nat) {a0 : Nat} {a1 : Nat} {i2 : Int32} {i3 : Int32} {i4 : Int32} {M : zM}, FQ M0 M → KF (FQ M0) (f_X3_best_22 n a0 a1 i2 i3 i4 M) := by
  intro n
  induction n with
  | zero => exact fun _ => KF.n
  | succ n ih =>
    intro a0 a1 i2 i3 i4 M hM
    rw [f_X3_best_22]
    refine KF.i ?_ ?_
    · exact KF.s hM
    · refine KF.i ?_ KF.n
      refine KF.c (kq_X1_count hM) fun r1 h_r1 => ?_
      refine KF.i ?_ ?_
      · exact (ih h_r1)
      · refine KF.i ?_ KF.n
        refine KF.c (kq_X3_farWith h_r1) fun r3 h_r3 => ?_
        refine KF.i ?_ ?_
        · exact (kq_X3_best_71 ih h_r3)
        · refine KF.i ?_ KF.n
          refine KF.c (kq_X1_count h_r3) fun r5 h_r5 => ?_
          refine KF.i ?_ KF.n
          refine KF.c (kq_X1_count h_r5) fun r7 h_r7 => ?_
          refine KF.i ?_ ?_
          · exact (kq_X3_best_71 ih h_r7)
          · exact (kq_X3_best_72 ih h_r7)
theorem kq_X3_best_0 {M0 : zM} {a0 : Nat} {M : zM} (hM : FQ M0 M) : KF (FQ M0) (f_X3_best_0 a0 M) := by
  unfold f_X3_best_0
  refine KF.b fun v1 => ?_
  refine KF.i ?_ ?_
  · refine KF.i ?_ KF.n
    refine KF.c (kq_X3_seatInTurn hM) fun r2 h_r2 => ?_
    exact (kq_X3_best_22 zN h_r2)
  · exact KF.s hM
theorem kq_X3_best {M0 : zM} {a0 : Nat} {M : zM} (hM : FQ M0 M) : KF (FQ M0) (f_X3_best a0 M) := by
  unfold f_X3_best
  exact (kq_X3_best_0 hM)
theorem kq_X3_outs_44 {M0 : zM} : ∀ (n : Nat) {a0 : Nat} {a2 : Nat} {i3 : Int32} {i4 : Int32} {i5 : Int32} {M : zM}, FQ M0 M → KF (FQ M0) (f_X3_outs_44 n a0 a2 i3 i4 i5 M) := by
  intro n
  induction n with
  | zero => exact fun _ => KF.n
  | succ n ih =>
    intro a0 a2 i3 i4 i5 M hM
    rw [f_X3_outs_44]
    refine KF.i ?_ ?_
    · exact KF.s hM
    · refine KF.i ?_ KF.n
      refine KF.c (kq_X1_count hM) fun r1 h_r1 => ?_
      refine KF.i ?_ KF.n
      refine KF.xb (kq_X3_seen h_r1) fun w3 Mw3 h_Mw3 => ?_
      refine KF.i ?_ ?_
      · exact (ih h_Mw3)
      · refine KF.i ?_ KF.n
        refine KF.c (kq_X3_farWith h_Mw3) fun r9 h_r9 => ?_
        refine KF.i ?_ ?_
        · exact (ih h_r9)
        · exact (ih h_r9)
theorem kq_X3_outs_0 {M0 : zM} {a0 : Nat} {i1 : Int32} {M : zM} (hM : FQ M0 M) : KF (FQ M0) (f_X3_outs_0 a0 i1 M) := by
  unfold f_X3_outs_0
  refine KF.xb (kq_X3_requirePlayer hM) fun w1 Mw1 h_Mw1 => ?_
  refine KF.b fun v12 => ?_
  refine KF.b fun v13 => ?_
  refine KF.i ?_ KF.n
  refine KF.c (kq_X1_size h_Mw1) fun r14 h_r14 => ?_
  refine KF.i ?_ ?_
  · refine KF.b fun v16 => ?_
    refine KF.b fun v17 => ?_
    refine KF.b fun v18 => ?_
    refine KF.i ?_ KF.n
    refine KF.c (kq_X0_far h_r14) fun r19 h_r19 => ?_
    exact (kq_X3_outs_44 zN h_r19)
  · exact KF.s h_r14
theorem kq_X3_outs {M0 : zM} {a0 : Nat} {i1 : Int32} {M : zM} (hM : FQ M0 M) : KF (FQ M0) (f_X3_outs a0 i1 M) := by
  unfold f_X3_outs
  exact (kq_X3_outs_0 hM)
theorem kq_X3_digestPlayer_164 {M0 : zM} {a0 : Nat} {i3 : Int32} {a4 : Nat} {j5 : Int64} {M : zM} (hM : FQ M0 M) : KF (FQ M0) (f_X3_digestPlayer_164 a0 i3 a4 j5 M) := by
  unfold f_X3_digestPlayer_164
  refine KF.i ?_ KF.n
  refine KF.c (kq_X3_waitsOf hM) fun r1 h_r1 => ?_
  refine KF.i ?_ KF.n
  refine KF.c (kq_X3_fourLeads h_r1) fun r3 h_r3 => ?_
  exact KF.s h_r3
theorem kq_X3_digestPlayer_123 {M0 : zM} : ∀ (n : Nat) {a0 : Nat} {i3 : Int32} {a4 : Nat} {j5 : Int64} {i7 : Int32} {M : zM}, FQ M0 M → KF (FQ M0) (f_X3_digestPlayer_123 n a0 i3 a4 j5 i7 M) := by
  intro n
  induction n with
  | zero => exact fun _ => KF.n
  | succ n ih =>
    intro a0 i3 a4 j5 i7 M hM
    rw [f_X3_digestPlayer_123]
    refine KF.b fun v1 => ?_
    refine KF.i ?_ ?_
    · exact (kq_X3_digestPlayer_164 hM)
    · refine KF.i ?_ ?_
      · exact (kq_X3_digestPlayer_164 hM)
      · refine KF.b fun v2 => ?_
        refine KF.b fun v3 => ?_
        exact (ih hM)
theorem kq_X3_digestPlayer_80 {M0 : zM} : ∀ (n : Nat) {a0 : Nat} {i3 : Int32} {a4 : Nat} {j5 : Int64} {i7 : Int32} {M : zM}, FQ M0 M → KF (FQ M0) (f_X3_digestPlayer_80 n a0 i3 a4 j5 i7 M) := by
  intro n
  induction n with
  | zero => exact fun _ => KF.n
  | succ n ih =>
    intro a0 i3 a4 j5 i7 M hM
    rw [f_X3_digestPlayer_80]
    refine KF.b fun v1 => ?_
    refine KF.i ?_ ?_
    · exact (kq_X3_digestPlayer_123 zN hM)
    · refine KF.i ?_ ?_
      · exact (kq_X3_digestPlayer_123 zN hM)
      · refine KF.b fun v2 => ?_
        refine KF.b fun v3 => ?_
        exact (ih hM)
theorem kq_X3_digestPlayer_47 {M0 : zM} : ∀ (n : Nat) {a0 : Nat} {i3 : Int32} {a4 : Nat} {j5 : Int64} {i7 : Int32} {M : zM}, FQ M0 M → KF (FQ M0) (f_X3_digestPlayer_47 n a0 i3 a4 j5 i7 M) := by
  intro n
  induction n with
  | zero => exact fun _ => KF.n
  | succ n ih =>
    intro a0 i3 a4 j5 i7 M hM
    rw [f_X3_digestPlayer_47]
    refine KF.i ?_ ?_
    · exact (kq_X3_digestPlayer_80 zN hM)
    · refine KF.i ?_ KF.n
      refine KF.c (kq_X1_count hM) fun r1 h_r1 => ?_
      exact (ih h_r1)
theorem kq_X3_digestPlayer_14 {M0 : zM} : ∀ (n : Nat) {a0 : Nat} {i3 : Int32} {a4 : Nat} {j5 : Int64} {i7 : Int32} {M : zM}, FQ M0 M → KF (FQ M0) (f_X3_digestPlayer_14 n a0 i3 a4 j5 i7 M) := by
  intro n
  induction n with
  | zero => exact fun _ => KF.n
  | succ n ih =>
    intro a0 i3 a4 j5 i7 M hM
    rw [f_X3_digestPlayer_14]
    refine KF.i ?_ ?_
    · exact (kq_X3_digestPlayer_47 zN hM)
    · refine KF.i ?_ KF.n
      refine KF.xb (kq_X3_ofPlayer hM) fun w1 Mw1 h_Mw1 => ?_
      exact (ih h_Mw1)
theorem kq_X3_digestPlayer_0 {M0 : zM} {a0 : Nat} {j1 : Int64} {i3 : Int32} {M : zM} (hM : FQ M0 M) : KF (FQ M0) (f_X3_digestPlayer_0 a0 j1 i3 M) := by
  unfold f_X3_digestPlayer_0
  refine KF.b fun v1 => ?_
  refine KF.b fun v2 => ?_
  exact (kq_X3_digestPlayer_14 zN hM)
theorem kq_X3_digestPlayer {M0 : zM} {a0 : Nat} {j1 : Int64} {i3 : Int32} {M : zM} (hM : FQ M0 M) : KF (FQ M0) (f_X3_digestPlayer a0 j1 i3 M) := by
  unfold f_X3_digestPlayer
  exact (kq_X3_digestPlayer_0 hM)
theorem kq_X3_digest_33 {M0 : zM} : ∀ (n : Nat) {a0 : Nat} {j1 : Int64} {i3 : Int32} {M : zM}, FQ M0 M → KF (FQ M0) (f_X3_digest_33 n a0 j1 i3 M) := by
  intro n
  induction n with
  | zero => exact fun _ => KF.n
  | succ n ih =>
    intro a0 j1 i3 M hM
    rw [f_X3_digest_33]
    refine KF.i ?_ ?_
    · refine KF.i ?_ KF.n
      refine KF.c (kq_X3_best hM) fun r1 h_r1 => ?_
      exact KF.s h_r1
    · refine KF.i ?_ KF.n
      refine KF.xb (kq_X3_digestPlayer hM) fun w3 Mw3 h_Mw3 => ?_
      exact (ih h_Mw3)
theorem kq_X3_digest_6 {M0 : zM} : ∀ (n : Nat) {a0 : Nat} {j1 : Int64} {i3 : Int32} {M : zM}, FQ M0 M → KF (FQ M0) (f_X3_digest_6 n a0 j1 i3 M) := by
  intro n
  induction n with
  | zero => exact fun _ => KF.n
  | succ n ih =>
    intro a0 j1 i3 M hM
    rw [f_X3_digest_6]
    refine KF.i ?_ ?_
    · exact (kq_X3_digest_33 zN hM)
    · refine KF.i ?_ KF.n
      refine KF.xb (kq_X3_many hM) fun w1 Mw1 h_Mw1 => ?_
      exact (ih h_Mw1)
theorem kq_X3_digest_0 {M0 : zM} {a0 : Nat} {M : zM} (hM : FQ M0 M) : KF (FQ M0) (f_X3_digest_0 a0 M) := by
  unfold f_X3_digest_0
  exact (kq_X3_digest_6 zN hM)
theorem kq_X3_digest {M0 : zM} {a0 : Nat} {M : zM} (hM : FQ M0 M) : KF (FQ M0) (f_X3_digest a0 M) := by
  unfold f_X3_digest
  exact (kq_X3_digest_0 hM)

