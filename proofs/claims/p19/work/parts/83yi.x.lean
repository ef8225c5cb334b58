/-! ===== FRAMES: points, wins, pot, lucky kind and winner stay ===== -/
def ek (k : Nat) : Bool := k == 231 || k == 232 || k == 299 || k == 300 || k == 301 || k == 384 || k == 385 || k == 421 || k == 427 || k == 428
def FQ (M0 M : zM) : Prop := mX M0 ≤ mX M ∧ ∀ k b, ek k = true → b < mX M0 → mI M k b = mI M0 k b
section FQR
variable {M0 M : zM} {a c k t : Nat}
theorem FQ.rf (M : zM) : FQ M M := ⟨Nat.le_refl _, fun _ _ _ _ => rfl⟩
theorem FQ.tr {M1 M2 : zM} (h : FQ M0 M1) (g : FQ M1 M2) : FQ M0 M2 := ⟨Nat.le_trans h.1 g.1, fun k b e hb => (g.2 k b e (Nat.lt_of_lt_of_le hb h.1)).trans (h.2 k b e hb)⟩
theorem FQ.sI {v : Int32} (h : FQ M0 M) (q : Nat) (hq : ek q = false) : FQ M0 (sI M q a v) := ⟨h.1, fun k b e hb => (if_neg (fun z => by rw [z.1, hq] at e; cases e)).trans (h.2 k b e hb)⟩
theorem fq_pI {v : Int32} (h : FQ M0 M) (hc : ek (32 * c + k) = false) (M' : zM) (e : pI c k M a v = some M') : FQ M0 M' := by
  obtain ⟨q, e⟩ := ox e
  cases e
  exact h.sI _ hc
theorem fq_pZ {v : Int32} (h : FQ M0 M) (hc : ek (32 * c + k) = false) (M' : zM) (e : pZ c k M a v = some M') : FQ M0 M' := by
  obtain ⟨q, e⟩ := ox e
  cases e
  exact h.sI _ hc
theorem fq_pJ {v : Int64} (h : FQ M0 M) (hc : (0 : Nat) = 0) (M' : zM) (e : pJ c k M a v = some M') : FQ M0 M' := by
  obtain ⟨q, e⟩ := ox e
  cases e
  exact h
theorem fq_pD {v : UInt64} (h : FQ M0 M) (hc : (0 : Nat) = 0) (M' : zM) (e : pD c k M a v = some M') : FQ M0 M' := by
  obtain ⟨q, e⟩ := ox e
  cases e
  exact h
theorem fq_pR {v : Nat} (h : FQ M0 M) (hc : (0 : Nat) = 0) (M' : zM) (e : pR c k M a v = some M') : FQ M0 M' := by
  obtain ⟨q, e⟩ := ox e
  cases e
  exact h
theorem fq_tA {i v : Int32} (h : FQ M0 M) (M' : zM) (e : tA M a i v = some M') : FQ M0 M' := by
  obtain ⟨q, e⟩ := ox e
  cases e
  exact h
theorem fq_tB {i v : Int32} (h : FQ M0 M) (M' : zM) (e : tB M a i v = some M') : FQ M0 M' := by
  obtain ⟨q, e⟩ := ox e
  cases e
  exact h
theorem fq_tZ {i v : Int32} (h : FQ M0 M) (M' : zM) (e : tZ M a i v = some M') : FQ M0 M' := by
  obtain ⟨q, e⟩ := ox e
  cases e
  exact h
theorem fq_tQ {i : Int32} {v : Option Nat} (h : FQ M0 M) (M' : zM) (e : tQ t M a i v = some M') : FQ M0 M' := by
  obtain ⟨q, e⟩ := ox e
  cases e
  exact h
theorem fq_yI {b : Nat} {sp dp n : Int32} (h : FQ M0 M) (M' : zM) (e : yI t M a sp b dp n = some M') : FQ M0 M' := by
  obtain ⟨q, e⟩ := ox0 e
  cases e
  exact h
theorem fq_yQ {b : Nat} {sp dp n : Int32} (h : FQ M0 M) (M' : zM) (e : yQ M a sp b dp n = some M') : FQ M0 M' := by
  obtain ⟨q, e⟩ := ox0 e
  cases e
  exact h
theorem fq_nO (h : FQ M0 M) {N : Nat} : FQ M0 (nO M c N) := ⟨Nat.le_succ_of_le h.1, fun k b e hb => (if_neg (Nat.ne_of_lt (Nat.lt_of_lt_of_le hb h.1))).trans (h.2 k b e hb)⟩
theorem fq_nE (h : FQ M0 M) : FQ M0 (nE M) := ⟨Nat.le_succ_of_le h.1, h.2⟩
theorem fq_aA {n : Int32} (h : FQ M0 M) : KF (FQ M0) (aA t M n) := fun r e => by
  obtain ⟨-, e⟩ := ox e
  cases e
  exact ⟨Nat.le_succ_of_le h.1, h.2⟩
theorem fq_aQ {n : Int32} (h : FQ M0 M) : KF (FQ M0) (aQ t M n) := fun r e => by
  obtain ⟨-, e⟩ := ox e
  cases e
  exact ⟨Nat.le_succ_of_le h.1, h.2⟩
theorem fq_aC (h : FQ M0 M) : KF (FQ M0) (aC M a) := fun r e => by
  obtain ⟨-, e⟩ := ox0 e
  cases e
  exact ⟨Nat.le_succ_of_le h.1, h.2⟩
end FQR
theorem KF.xc {α β : Type} {Φ : zM → Prop} {x : Option ((String ⊕ α) × zM)} {c : String → zM → Option (β × zM)} {f : α → zM → Option (β × zM)} (hx : KF Φ x) (hc : ∀ E M, Φ M → KF Φ (c E M)) (hf : ∀ v M, Φ M → KF Φ (f v M)) : KF Φ (xc x c f) := fun r e => by
  rcases xcs e with ⟨E, M, e1, e2⟩ | ⟨v, M, e1, e2⟩
  · exact hc E M (hx _ e1) r e2
  · exact hf v M (hx _ e1) r e2
/-! ===== FRAMES: points, wins, pot, lucky kind and winner stay ===== -/
theorem kq_X1_clear_2 {M0 : zM} : ∀ (n : Nat) {a0 : Nat} {i1 : Int32} {M : zM}, FQ M0 M → KF (FQ M0) (f_X1_clear_2 n a0 i1 M) := by
  intro n
  induction n with
  | zero => exact fun _ => KF.n
  | succ n ih =>
    intro a0 i1 M hM
    rw [f_X1_clear_2]
    refine KF.i ?_ ?_
    · refine KF.w (fq_pJ hM rfl) fun M1 h_M1 => ?_
      refine KF.w (fq_pI h_M1 rfl) fun M2 h_M2 => ?_
      refine KF.w (fq_pI h_M2 rfl) fun M3 h_M3 => ?_
      refine KF.w (fq_pZ h_M3 rfl) fun M4 h_M4 => ?_
      exact KF.s h_M4
    · refine KF.b fun v5 => ?_
      refine KF.w (fq_tA hM) fun M6 h_M6 => ?_
      exact (ih h_M6)
theorem kq_X1_clear_0 {M0 : zM} {a0 : Nat} {M : zM} (hM : FQ M0 M) : KF (FQ M0) (f_X1_clear_0 a0 M) := by
  unfold f_X1_clear_0
  exact (kq_X1_clear_2 zN hM)
theorem kq_X1_clear {M0 : zM} {a0 : Nat} {M : zM} (hM : FQ M0 M) : KF (FQ M0) (f_X1_clear a0 M) := by
  unfold f_X1_clear
  exact (kq_X1_clear_0 hM)
theorem kq_X1_count_0 {M0 : zM} {a0 : Nat} {i1 : Int32} {M : zM} (hM : FQ M0 M) : KF (FQ M0) (f_X1_count_0 a0 i1 M) := by
  unfold f_X1_count_0
  refine KF.i ?_ ?_
  · exact KF.s hM
  · refine KF.i ?_ ?_
    · exact KF.s hM
    · refine KF.b fun v1 => ?_
      refine KF.b fun v2 => ?_
      exact KF.s hM
theorem kq_X1_count {M0 : zM} {a0 : Nat} {i1 : Int32} {M : zM} (hM : FQ M0 M) : KF (FQ M0) (f_X1_count a0 i1 M) := by
  unfold f_X1_count
  exact (kq_X1_count_0 hM)
theorem kq_X1_change_0 {M0 : zM} {a0 : Nat} {i1 : Int32} {i2 : Int32} {M : zM} (hM : FQ M0 M) : KF (FQ M0) (f_X1_change_0 a0 i1 i2 M) := by
  unfold f_X1_change_0
  refine KF.i ?_ ?_
  · exact KF.s hM
  · refine KF.i ?_ ?_
    · exact KF.s hM
    · refine KF.b fun v1 => ?_
      refine KF.b fun v2 => ?_
      refine KF.w (fq_tA hM) fun M3 h_M3 => ?_
      exact KF.s h_M3
theorem kq_X1_change {M0 : zM} {a0 : Nat} {i1 : Int32} {i2 : Int32} {M : zM} (hM : FQ M0 M) : KF (FQ M0) (f_X1_change a0 i1 i2 M) := by
  unfold f_X1_change
  exact (kq_X1_change_0 hM)
theorem kq_X1_inHand_4 {M0 : zM} : ∀ (n : Nat) {a0 : Nat} {i1 : Int32} {i2 : Int32} {M : zM}, FQ M0 M → KF (FQ M0) (f_X1_inHand_4 n a0 i1 i2 M) := by
  intro n
  induction n with
  | zero => exact fun _ => KF.n
  | succ n ih =>
    intro a0 i1 i2 M hM
    rw [f_X1_inHand_4]
    refine KF.i ?_ ?_
    · exact KF.s hM
    · refine KF.b fun v1 => ?_
      refine KF.b fun v2 => ?_
      exact (ih hM)
theorem kq_X1_inHand_0 {M0 : zM} {a0 : Nat} {M : zM} (hM : FQ M0 M) : KF (FQ M0) (f_X1_inHand_0 a0 M) := by
  unfold f_X1_inHand_0
  exact (kq_X1_inHand_4 zN hM)
theorem kq_X1_inHand {M0 : zM} {a0 : Nat} {M : zM} (hM : FQ M0 M) : KF (FQ M0) (f_X1_inHand a0 M) := by
  unfold f_X1_inHand
  exact (kq_X1_inHand_0 hM)
theorem kq_X1_size_0 {M0 : zM} {a0 : Nat} {M : zM} (hM : FQ M0 M) : KF (FQ M0) (f_X1_size_0 a0 M) := by
  unfold f_X1_size_0
  refine KF.i ?_ KF.n
  refine KF.c (kq_X1_inHand hM) fun r1 h_r1 => ?_
  refine KF.b fun v3 => ?_
  exact KF.s h_r1
theorem kq_X1_size {M0 : zM} {a0 : Nat} {M : zM} (hM : FQ M0 M) : KF (FQ M0) (f_X1_size a0 M) := by
  unfold f_X1_size
  exact (kq_X1_size_0 hM)
theorem kq_X1_openSets_4 {M0 : zM} : ∀ (n : Nat) {a0 : Nat} {i1 : Int32} {i2 : Int32} {M : zM}, FQ M0 M → KF (FQ M0) (f_X1_openSets_4 n a0 i1 i2 M) := by
  intro n
  induction n with
  | zero => exact fun _ => KF.n
  | succ n ih =>
    intro a0 i1 i2 M hM
    rw [f_X1_openSets_4]
    refine KF.b fun v1 => ?_
    refine KF.i ?_ ?_
    · exact KF.s hM
    · refine KF.i ?_ ?_
      · exact KF.s hM
      · refine KF.b fun v2 => ?_
        refine KF.b fun v3 => ?_
        refine KF.i ?_ ?_
        · exact (ih hM)
        · exact (ih hM)
theorem kq_X1_openSets_0 {M0 : zM} {a0 : Nat} {M : zM} (hM : FQ M0 M) : KF (FQ M0) (f_X1_openSets_0 a0 M) := by
  unfold f_X1_openSets_0
  exact (kq_X1_openSets_4 zN hM)
theorem kq_X1_openSets {M0 : zM} {a0 : Nat} {M : zM} (hM : FQ M0 M) : KF (FQ M0) (f_X1_openSets a0 M) := by
  unfold f_X1_openSets
  exact (kq_X1_openSets_0 hM)
theorem kq_X1_rowLies_2 {M0 : zM} : ∀ (n : Nat) {a0 : Nat} {i1 : Int32} {M : zM}, FQ M0 M → KF (FQ M0) (f_X1_rowLies_2 n a0 i1 M) := by
  intro n
  induction n with
  | zero => exact fun _ => KF.n
  | succ n ih =>
    intro a0 i1 M hM
    rw [f_X1_rowLies_2]
    refine KF.b fun v1 => ?_
    refine KF.i ?_ ?_
    · exact KF.s hM
    · refine KF.i ?_ ?_
      · exact KF.s hM
      · refine KF.b fun v2 => ?_
        refine KF.b fun v3 => ?_
        refine KF.i ?_ ?_
        · exact KF.s hM
        · exact (ih hM)
theorem kq_X1_rowLies_0 {M0 : zM} {a0 : Nat} {M : zM} (hM : FQ M0 M) : KF (FQ M0) (f_X1_rowLies_0 a0 M) := by
  unfold f_X1_rowLies_0
  exact (kq_X1_rowLies_2 zN hM)
theorem kq_X1_rowLies {M0 : zM} {a0 : Nat} {M : zM} (hM : FQ M0 M) : KF (FQ M0) (f_X1_rowLies a0 M) := by
  unfold f_X1_rowLies
  exact (kq_X1_rowLies_0 hM)
theorem kq_X1_tilesOf_0 {M0 : zM} {i0 : Int32} {i1 : Int32} {i2 : Int32} {M : zM} (hM : FQ M0 M) : KF (FQ M0) (f_X1_tilesOf_0 i0 i1 i2 M) := by
  unfold f_X1_tilesOf_0
  refine KF.i ?_ ?_
  · refine KF.i ?_ ?_
    · exact KF.s hM
    · refine KF.i ?_ ?_
      · exact KF.s hM
      · exact KF.s hM
  · refine KF.i ?_ ?_
    · refine KF.i ?_ ?_
      · exact KF.s hM
      · exact KF.s hM
    · exact KF.s hM
theorem kq_X1_tilesOf {M0 : zM} {i0 : Int32} {i1 : Int32} {i2 : Int32} {M : zM} (hM : FQ M0 M) : KF (FQ M0) (f_X1_tilesOf i0 i1 i2 M) := by
  unfold f_X1_tilesOf
  exact (kq_X1_tilesOf_0 hM)
theorem kq_X1_inSets_4 {M0 : zM} : ∀ (n : Nat) {a0 : Nat} {i1 : Int32} {i2 : Int32} {i3 : Int32} {M : zM}, FQ M0 M → KF (FQ M0) (f_X1_inSets_4 n a0 i1 i2 i3 M) := by
  intro n
  induction n with
  | zero => exact fun _ => KF.n
  | succ n ih =>
    intro a0 i1 i2 i3 M hM
    rw [f_X1_inSets_4]
    refine KF.b fun v1 => ?_
    refine KF.i ?_ ?_
    · exact KF.s hM
    · refine KF.i ?_ ?_
      · exact KF.s hM
      · refine KF.b fun v2 => ?_
        refine KF.b fun v3 => ?_
        refine KF.b fun v4 => ?_
        refine KF.b fun v5 => ?_
        refine KF.c (kq_X1_tilesOf hM) fun r6 h_r6 => ?_
        exact (ih h_r6)
theorem kq_X1_inSets_0 {M0 : zM} {a0 : Nat} {i1 : Int32} {M : zM} (hM : FQ M0 M) : KF (FQ M0) (f_X1_inSets_0 a0 i1 M) := by
  unfold f_X1_inSets_0
  exact (kq_X1_inSets_4 zN hM)
theorem kq_X1_inSets {M0 : zM} {a0 : Nat} {i1 : Int32} {M : zM} (hM : FQ M0 M) : KF (FQ M0) (f_X1_inSets a0 i1 M) := by
  unfold f_X1_inSets
  exact (kq_X1_inSets_0 hM)
theorem kq_X1_lying_8 {M0 : zM} : ∀ (n : Nat) {a0 : Nat} {i1 : Int32} {i2 : Int32} {i3 : Int32} {M : zM}, FQ M0 M → KF (FQ M0) (f_X1_lying_8 n a0 i1 i2 i3 M) := by
  intro n
  induction n with
  | zero => exact fun _ => KF.n
  | succ n ih =>
    intro a0 i1 i2 i3 M hM
    rw [f_X1_lying_8]
    refine KF.b fun v1 => ?_
    refine KF.i ?_ ?_
    · exact KF.s hM
    · refine KF.i ?_ ?_
      · exact KF.s hM
      · refine KF.b fun v2 => ?_
        refine KF.b fun v3 => ?_
        refine KF.i ?_ ?_
        · exact (ih hM)
        · exact (ih hM)
theorem kq_X1_lying_0 {M0 : zM} {a0 : Nat} {i1 : Int32} {M : zM} (hM : FQ M0 M) : KF (FQ M0) (f_X1_lying_0 a0 i1 M) := by
  unfold f_X1_lying_0
  refine KF.i ?_ KF.n
  refine KF.c (kq_X1_inSets hM) fun r1 h_r1 => ?_
  exact (kq_X1_lying_8 zN h_r1)
theorem kq_X1_lying {M0 : zM} {a0 : Nat} {i1 : Int32} {M : zM} (hM : FQ M0 M) : KF (FQ M0) (f_X1_lying a0 i1 M) := by
  unfold f_X1_lying
  exact (kq_X1_lying_0 hM)
theorem kq_X1_laySet_18 {M0 : zM} : ∀ (n : Nat) {a0 : Nat} {i1 : Int32} {i2 : Int32} {i3 : Int32} {M : zM}, FQ M0 M → KF (FQ M0) (f_X1_laySet_18 n a0 i1 i2 i3 M) := by
  intro n
  induction n with
  | zero => exact fun _ => KF.n
  | succ n ih =>
    intro a0 i1 i2 i3 M hM
    rw [f_X1_laySet_18]
    refine KF.i ?_ ?_
    · refine KF.b fun v1 => ?_
      refine KF.b fun v2 => ?_
      refine KF.w (fq_tA hM) fun M3 h_M3 => ?_
      refine KF.b fun v4 => ?_
      refine KF.w (fq_pI h_M3 rfl) fun M5 h_M5 => ?_
      exact KF.s h_M5
    · refine KF.b fun v6 => ?_
      refine KF.b fun v7 => ?_
      refine KF.c (kq_X1_tilesOf hM) fun r8 h_r8 => ?_
      refine KF.w (fq_tA h_r8) fun M9 h_M9 => ?_
      exact (ih h_M9)
theorem kq_X1_laySet_0 {M0 : zM} {a0 : Nat} {i1 : Int32} {i2 : Int32} {M : zM} (hM : FQ M0 M) : KF (FQ M0) (f_X1_laySet_0 a0 i1 i2 M) := by
  unfold f_X1_laySet_0
  refine KF.b fun v1 => ?_
  refine KF.i ?_ ?_
  · exact KF.s hM
  · refine KF.b fun v2 => ?_
    refine KF.i ?_ ?_
    · exact (kq_X1_laySet_18 zN hM)
    · exact KF.s hM
theorem kq_X1_laySet {M0 : zM} {a0 : Nat} {i1 : Int32} {i2 : Int32} {M : zM} (hM : FQ M0 M) : KF (FQ M0) (f_X1_laySet a0 i1 i2 M) := by
  unfold f_X1_laySet
  exact (kq_X1_laySet_0 hM)
theorem kq_X1_toRiver_0 {M0 : zM} {a0 : Nat} {i1 : Int32} {M : zM} (hM : FQ M0 M) : KF (FQ M0) (f_X1_toRiver_0 a0 i1 M) := by
  unfold f_X1_toRiver_0
  refine KF.b fun v1 => ?_
  refine KF.i ?_ ?_
  · exact KF.s hM
  · refine KF.b fun v2 => ?_
    refine KF.i ?_ ?_
    · refine KF.i ?_ KF.n
      refine KF.c (kq_X1_change hM) fun r3 h_r3 => ?_
      refine KF.b fun v5 => ?_
      refine KF.b fun v6 => ?_
      refine KF.w (fq_tA h_r3) fun M7 h_M7 => ?_
      refine KF.b fun v8 => ?_
      refine KF.w (fq_pI h_M7 rfl) fun M9 h_M9 => ?_
      refine KF.b fun v10 => ?_
      refine KF.w (fq_pJ h_M9 rfl) fun M11 h_M11 => ?_
      exact KF.s h_M11
    · exact KF.s hM
theorem kq_X1_toRiver {M0 : zM} {a0 : Nat} {i1 : Int32} {M : zM} (hM : FQ M0 M) : KF (FQ M0) (f_X1_toRiver a0 i1 M) := by
  unfold f_X1_toRiver
  exact (kq_X1_toRiver_0 hM)
theorem kq_X1_latestInRiver_0 {M0 : zM} {a0 : Nat} {M : zM} (hM : FQ M0 M) : KF (FQ M0) (f_X1_latestInRiver_0 a0 M) := by
  unfold f_X1_latestInRiver_0
  refine KF.b fun v1 => ?_
  refine KF.i ?_ ?_
  · exact KF.s hM
  · refine KF.b fun v2 => ?_
    refine KF.i ?_ ?_
    · exact KF.s hM
    · refine KF.b fun v3 => ?_
      refine KF.b fun v4 => ?_
      refine KF.b fun v5 => ?_
      exact KF.s hM
theorem kq_X1_latestInRiver {M0 : zM} {a0 : Nat} {M : zM} (hM : FQ M0 M) : KF (FQ M0) (f_X1_latestInRiver a0 M) := by
  unfold f_X1_latestInRiver
  exact (kq_X1_latestInRiver_0 hM)
theorem kq_X1_leaveRiver_0 {M0 : zM} {a0 : Nat} {M : zM} (hM : FQ M0 M) : KF (FQ M0) (f_X1_leaveRiver_0 a0 M) := by
  unfold f_X1_leaveRiver_0
  refine KF.i ?_ KF.n
  refine KF.c (kq_X1_latestInRiver hM) fun r1 h_r1 => ?_
  refine KF.b fun v3 => ?_
  refine KF.i ?_ ?_
  · exact KF.s h_r1
  · refine KF.b fun v4 => ?_
    refine KF.w (fq_pI h_r1 rfl) fun M5 h_M5 => ?_
    exact KF.s h_M5
theorem kq_X1_leaveRiver {M0 : zM} {a0 : Nat} {M : zM} (hM : FQ M0 M) : KF (FQ M0) (f_X1_leaveRiver a0 M) := by
  unfold f_X1_leaveRiver
  exact (kq_X1_leaveRiver_0 hM)
theorem kq_X0_init_0 {M0 : zM} {a0 : Nat} {M : zM} (hM : FQ M0 M) : KF (FQ M0) (f_X0_init_0 a0 M) := by
  unfold f_X0_init_0
  refine KF.c (fq_aA hM) fun r1 h_r1 => ?_
  refine KF.w (fq_pR h_r1 rfl) fun M2 h_M2 => ?_
  refine KF.c (fq_aA h_M2) fun r3 h_r3 => ?_
  refine KF.w (fq_pR h_r3 rfl) fun M4 h_M4 => ?_
  refine KF.c (fq_aA h_M4) fun r5 h_r5 => ?_
  refine KF.w (fq_pR h_r5 rfl) fun M6 h_M6 => ?_
  refine KF.c (fq_aA h_M6) fun r7 h_r7 => ?_
  refine KF.w (fq_pR h_r7 rfl) fun M8 h_M8 => ?_
  refine KF.c (fq_aA h_M8) fun r9 h_r9 => ?_
  refine KF.w (fq_pR h_r9 rfl) fun M10 h_M10 => ?_
  exact KF.s h_M10
theorem kq_X0_init {M0 : zM} {a0 : Nat} {M : zM} (hM : FQ M0 M) : KF (FQ M0) (f_X0_init a0 M) := by
  unfold f_X0_init
  exact (kq_X0_init_0 hM)
theorem kq_X0_copy_2 {M0 : zM} : ∀ (n : Nat) {a0 : Nat} {a1 : Nat} {i2 : Int32} {M : zM}, FQ M0 M → KF (FQ M0) (f_X0_copy_2 n a0 a1 i2 M) := by
  intro n
  induction n with
  | zero => exact fun _ => KF.n
  | succ n ih =>
    intro a0 a1 i2 M hM
    rw [f_X0_copy_2]
    refine KF.i ?_ ?_
    · exact KF.s hM
    · refine KF.b fun v1 => ?_
      refine KF.i ?_ ?_
      · exact KF.s hM
      · refine KF.b fun v2 => ?_
        refine KF.b fun v3 => ?_
        refine KF.w (fq_tA hM) fun M4 h_M4 => ?_
        exact (ih h_M4)
theorem kq_X0_copy_0 {M0 : zM} {a0 : Nat} {a1 : Nat} {M : zM} (hM : FQ M0 M) : KF (FQ M0) (f_X0_copy_0 a0 a1 M) := by
  unfold f_X0_copy_0
  exact (kq_X0_copy_2 zN hM)
theorem kq_X0_copy {M0 : zM} {a0 : Nat} {a1 : Nat} {M : zM} (hM : FQ M0 M) : KF (FQ M0) (f_X0_copy a0 a1 M) := by
  unfold f_X0_copy
  exact (kq_X0_copy_0 hM)
theorem kq_X3_startsRow_0 {M0 : zM} {i0 : Int32} {M : zM} (hM : FQ M0 M) : KF (FQ M0) (f_X3_startsRow_0 i0 M) := by
  unfold f_X3_startsRow_0
  refine KF.i ?_ ?_
  · exact KF.s hM
  · refine KF.i ?_ ?_
    · exact KF.s hM
    · refine KF.i ?_ ?_
      · exact KF.s hM
      · exact KF.s hM
theorem kq_X3_startsRow {M0 : zM} {i0 : Int32} {M : zM} (hM : FQ M0 M) : KF (FQ M0) (f_X3_startsRow i0 M) := by
  unfold f_X3_startsRow
  exact (kq_X3_startsRow_0 hM)
theorem kq_X0_restIsSets_2 {M0 : zM} : ∀ (n : Nat) {a0 : Nat} {i1 : Int32} {M : zM}, FQ M0 M → KF (FQ M0) (f_X0_restIsSets_2 n a0 i1 M) := by
  intro n
  induction n with
  | zero => exact fun _ => KF.n
  | succ n ih =>
    intro a0 i1 M hM
    rw [f_X0_restIsSets_2]
    refine KF.i ?_ ?_
    · exact KF.s hM
    · refine KF.b fun v1 => ?_
      refine KF.b fun v2 => ?_
      refine KF.i ?_ ?_
      · exact (ih hM)
      · refine KF.c (kq_X3_startsRow hM) fun r3 h_r3 => ?_
        refine KF.i ?_ ?_
        · exact KF.s h_r3
        · refine KF.i ?_ ?_
          · exact KF.s h_r3
          · refine KF.b fun v4 => ?_
            refine KF.b fun v5 => ?_
            refine KF.i ?_ ?_
            · exact KF.s h_r3
            · refine KF.b fun v6 => ?_
              refine KF.b fun v7 => ?_
              refine KF.i ?_ ?_
              · refine KF.b fun v8 => ?_
                refine KF.b fun v9 => ?_
                refine KF.w (fq_tA h_r3) fun M10 h_M10 => ?_
                refine KF.b fun v11 => ?_
                refine KF.b fun v12 => ?_
                refine KF.w (fq_tA h_M10) fun M13 h_M13 => ?_
                exact (ih h_M13)
              · exact KF.s h_r3
theorem kq_X0_restIsSets_0 {M0 : zM} {a0 : Nat} {M : zM} (hM : FQ M0 M) : KF (FQ M0) (f_X0_restIsSets_0 a0 M) := by
  unfold f_X0_restIsSets_0
  exact (kq_X0_restIsSets_2 zN hM)
theorem kq_X0_restIsSets {M0 : zM} {a0 : Nat} {M : zM} (hM : FQ M0 M) : KF (FQ M0) (f_X0_restIsSets a0 M) := by
  unfold f_X0_restIsSets
  exact (kq_X0_restIsSets_0 hM)
theorem kq_X0_complete_2 {M0 : zM} : ∀ (n : Nat) {a0 : Nat} {a1 : Nat} {i2 : Int32} {M : zM}, FQ M0 M → KF (FQ M0) (f_X0_complete_2 n a0 a1 i2 M) := by
  intro n
  induction n with
  | zero => exact fun _ => KF.n
  | succ n ih =>
    intro a0 a1 i2 M hM
    rw [f_X0_complete_2]
    refine KF.i ?_ ?_
    · exact KF.s hM
    · refine KF.b fun v1 => ?_
      refine KF.i ?_ ?_
      · exact (ih hM)
      · refine KF.b fun v2 => ?_
        refine KF.i ?_ ?_
        · exact (ih hM)
        · refine KF.i ?_ KF.n
          refine KF.c (kq_X0_copy hM) fun r3 h_r3 => ?_
          refine KF.b fun v5 => ?_
          refine KF.b fun v6 => ?_
          refine KF.w (fq_tA h_r3) fun M7 h_M7 => ?_
          refine KF.i ?_ KF.n
          refine KF.c (kq_X0_restIsSets h_M7) fun r8 h_r8 => ?_
          refine KF.i ?_ ?_
          · exact (ih h_r8)
          · exact KF.s h_r8
theorem kq_X0_complete_0 {M0 : zM} {a0 : Nat} {a1 : Nat} {M : zM} (hM : FQ M0 M) : KF (FQ M0) (f_X0_complete_0 a0 a1 M) := by
  unfold f_X0_complete_0
  exact (kq_X0_complete_2 zN hM)
theorem kq_X0_complete {M0 : zM} {a0 : Nat} {a1 : Nat} {M : zM} (hM : FQ M0 M) : KF (FQ M0) (f_X0_complete a0 a1 M) := by
  unfold f_X0_complete
  exact (kq_X0_complete_0 hM)
theorem kq_J9_max_7cf53_0 {M0 : zM} {i0 : Int32} {i1 : Int32} {M : zM} (hM : FQ M0 M) : KF (FQ M0) (f_J9_max_7cf53_0 i0 i1 M) := by
  unfold f_J9_max_7cf53_0
  refine KF.i ?_ ?_
  · exact KF.s hM
  · exact KF.s hM
theorem kq_J9_max_7cf53 {M0 : zM} {i0 : Int32} {i1 : Int32} {M : zM} (hM : FQ M0 M) : KF (FQ M0) (f_J9_max_7cf53 i0 i1 M) := by
  unfold f_J9_max_7cf53
  exact (kq_J9_max_7cf53_0 hM)
theorem kq_J9_min_7cf53_0 {M0 : zM} {i0 : Int32} {i1 : Int32} {M : zM} (hM : FQ M0 M) : KF (FQ M0) (f_J9_min_7cf53_0 i0 i1 M) := by
  unfold f_J9_min_7cf53_0
  refine KF.i ?_ ?_
  · exact KF.s hM
  · exact KF.s hM
theorem kq_J9_min_7cf53 {M0 : zM} {i0 : Int32} {i1 : Int32} {M : zM} (hM : FQ M0 M) : KF (FQ M0) (f_J9_min_7cf53 i0 i1 M) := by
  unfold f_J9_min_7cf53
  exact (kq_J9_min_7cf53_0 hM)
theorem kq_X0_joinParts_90 {M0 : zM} {a0 : Nat} {i1 : Int32} {i2 : Int32} {i3 : Int32} {M : zM} (hM : FQ M0 M) : KF (FQ M0) (f_X0_joinParts_90 a0 i1 i2 i3 M) := by
  unfold f_X0_joinParts_90
  refine KF.b fun v1 => ?_
  refine KF.w (fq_tA hM) fun M2 h_M2 => ?_
  refine KF.b fun v3 => ?_
  refine KF.w (fq_tA h_M2) fun M4 h_M4 => ?_
  exact KF.s h_M4
theorem kq_X0_joinParts_7 {M0 : zM} : ∀ (n : Nat) {a0 : Nat} {i1 : Int32} {i2 : Int32} {i3 : Int32} {i4 : Int32} {M : zM}, FQ M0 M → KF (FQ M0) (f_X0_joinParts_7 n a0 i1 i2 i3 i4 M) := by
  intro n
  induction n with
  | zero => exact fun _ => KF.n
  | succ n ih =>
    intro a0 i1 i2 i3 i4 M hM
    rw [f_X0_joinParts_7]
    refine KF.i ?_ ?_
    · exact (kq_X0_joinParts_90 hM)
    · refine KF.i ?_ ?_
      · exact (kq_X0_joinParts_90 hM)
      · refine KF.b fun v1 => ?_
        refine KF.b fun v2 => ?_
        refine KF.b fun v3 => ?_
        refine KF.b fun v4 => ?_
        refine KF.c (kq_J9_max_7cf53 hM) fun r5 h_r5 => ?_
        refine KF.b fun v6 => ?_
        refine KF.b fun v7 => ?_
        refine KF.b fun v8 => ?_
        refine KF.b fun v9 => ?_
        refine KF.c (kq_J9_max_7cf53 h_r5) fun r10 h_r10 => ?_
        refine KF.b fun v11 => ?_
        refine KF.b fun v12 => ?_
        refine KF.b fun v13 => ?_
        refine KF.b fun v14 => ?_
        refine KF.c (kq_J9_max_7cf53 h_r10) fun r15 h_r15 => ?_
        exact (ih h_r15)
theorem kq_X0_joinParts_0 {M0 : zM} {a0 : Nat} {i1 : Int32} {M : zM} (hM : FQ M0 M) : KF (FQ M0) (f_X0_joinParts_0 a0 i1 M) := by
  unfold f_X0_joinParts_0
  exact (kq_X0_joinParts_7 zN hM)
theorem kq_X0_joinParts {M0 : zM} {a0 : Nat} {i1 : Int32} {M : zM} (hM : FQ M0 M) : KF (FQ M0) (f_X0_joinParts a0 i1 M) := by
  unfold f_X0_joinParts
  exact (kq_X0_joinParts_0 hM)
theorem kq_X0_changePart_47 {M0 : zM} {a0 : Nat} {i1 : Int32} {i2 : Int32} {i3 : Int32} {M : zM} (hM : FQ M0 M) : KF (FQ M0) (f_X0_changePart_47 a0 i1 i2 i3 M) := by
  unfold f_X0_changePart_47
  refine KF.b fun v1 => ?_
  refine KF.i ?_ ?_
  · exact KF.s hM
  · refine KF.b fun v2 => ?_
    refine KF.b fun v3 => ?_
    refine KF.w (fq_tA hM) fun M4 h_M4 => ?_
    exact KF.s h_M4
theorem kq_X0_changePart_0 {M0 : zM} {a0 : Nat} {i1 : Int32} {i2 : Int32} {i3 : Int32} {M : zM} (hM : FQ M0 M) : KF (FQ M0) (f_X0_changePart_0 a0 i1 i2 i3 M) := by
  unfold f_X0_changePart_0
  refine KF.i ?_ ?_
  · exact KF.s hM
  · refine KF.b fun v1 => ?_
    refine KF.i ?_ ?_
    · refine KF.b fun v2 => ?_
      refine KF.b fun v3 => ?_
      refine KF.w (fq_tA hM) fun M4 h_M4 => ?_
      refine KF.b fun v5 => ?_
      refine KF.i ?_ ?_
      · exact (kq_X0_changePart_47 h_M4)
      · refine KF.b fun v6 => ?_
        refine KF.b fun v7 => ?_
        refine KF.w (fq_tA h_M4) fun M8 h_M8 => ?_
        exact (kq_X0_changePart_47 h_M8)
    · exact KF.s hM
theorem kq_X0_changePart {M0 : zM} {a0 : Nat} {i1 : Int32} {i2 : Int32} {i3 : Int32} {M : zM} (hM : FQ M0 M) : KF (FQ M0) (f_X0_changePart a0 i1 i2 i3 M) := by
  unfold f_X0_changePart
  exact (kq_X0_changePart_0 hM)
theorem kq_X0_fits_86 {M0 : zM} {i3 : Int32} {i4 : Int32} {i_0 : Int32} {M : zM} (hM : FQ M0 M) : KF (FQ M0) (f_X0_fits_86 i3 i4 i_0 M) := by
  unfold f_X0_fits_86
  refine KF.b fun v1 => ?_
  refine KF.i ?_ ?_
  · exact KF.s hM
  · refine KF.b fun v2 => ?_
    refine KF.i ?_ ?_
    · exact KF.s hM
    · exact KF.s hM
theorem kq_X0_fits_68 {M0 : zM} {a0 : Nat} {i1 : Int32} {i2 : Int32} {i3 : Int32} {i_0 : Int32} {M : zM} (hM : FQ M0 M) : KF (FQ M0) (f_X0_fits_68 a0 i1 i2 i3 i_0 M) := by
  unfold f_X0_fits_68
  refine KF.i ?_ ?_
  · exact (kq_X0_fits_86 hM)
  · refine KF.b fun v1 => ?_
    exact (kq_X0_fits_86 hM)
theorem kq_X0_fits_0 {M0 : zM} {a0 : Nat} {i1 : Int32} {i2 : Int32} {i3 : Int32} {M : zM} (hM : FQ M0 M) : KF (FQ M0) (f_X0_fits_0 a0 i1 i2 i3 M) := by
  unfold f_X0_fits_0
  refine KF.i ?_ ?_
  · exact KF.s hM
  · refine KF.i ?_ ?_
    · exact KF.s hM
    · refine KF.b fun v1 => ?_
      refine KF.i ?_ ?_
      · exact KF.s hM
      · refine KF.b fun v2 => ?_
        refine KF.b fun v3 => ?_
        refine KF.i ?_ ?_
        · refine KF.b fun v4 => ?_
          refine KF.b fun v5 => ?_
          refine KF.i ?_ ?_
          · exact KF.s hM
          · refine KF.i ?_ ?_
            · refine KF.i ?_ ?_
              · exact (kq_X0_fits_68 hM)
              · refine KF.b fun v6 => ?_
                exact (kq_X0_fits_68 hM)
            · exact KF.s hM
        · exact KF.s hM
theorem kq_X0_fits {M0 : zM} {a0 : Nat} {i1 : Int32} {i2 : Int32} {i3 : Int32} {M : zM} (hM : FQ M0 M) : KF (FQ M0) (f_X0_fits a0 i1 i2 i3 M) := by
  unfold f_X0_fits
  exact (kq_X0_fits_0 hM)
theorem kq_X0_most_76 {M0 : zM} {RC_X0_most : Nat → Int32 → Int32 → Int32 → zM → Option (Int32 × zM)} {K21 : Nat → Int32 → Int32 → Int32 → Int32 → zM → Option (Int32 × zM)} {K38 : Nat → Int32 → Int32 → Int32 → Int32 → Int32 → zM → Option (Int32 × zM)} (hRC_X0_most : ∀ {x0 : Nat} {x1 : Int32} {x2 : Int32} {x3 : Int32} {M : zM}, FQ M0 M → KF (FQ M0) (RC_X0_most x0 x1 x2 x3 M)) (hK21 : ∀ {x0 : Nat} {x1 : Int32} {x2 : Int32} {x3 : Int32} {x4 : Int32} {M : zM}, FQ M0 M → KF (FQ M0) (K21 x0 x1 x2 x3 x4 M)) (hK38 : ∀ {x0 : Nat} {x1 : Int32} {x2 : Int32} {x3 : Int32} {x4 : Int32} {x5 : Int32} {M : zM}, FQ M0 M → KF (FQ M0) (K38 x0 x1 x2 x3 x4 x5 M)) {a0 : Nat} {i2 : Int32} {i3 : Int32} {i4 : Int32} {i5 : Int32} {i6 : Int32} {i_0 : Int32} {M : zM} (hM : FQ M0 M) : KF (FQ M0) (f_X0_most_76 RC_X0_most K21 K38 a0 i2 i3 i4 i5 i6 i_0 M) := by
  unfold f_X0_most_76
  refine KF.c (hRC_X0_most hM) fun r1 h_r1 => ?_
  refine KF.c (kq_J9_max_7cf53 h_r1) fun r2 h_r2 => ?_
  refine KF.c (kq_X0_changePart h_r2) fun r3 h_r3 => ?_
  exact (hK38 h_r3)
theorem kq_X0_most_38 {M0 : zM} {RC_X0_most : Nat → Int32 → Int32 → Int32 → zM → Option (Int32 × zM)} {K21 : Nat → Int32 → Int32 → Int32 → Int32 → zM → Option (Int32 × zM)} (hRC_X0_most : ∀ {x0 : Nat} {x1 : Int32} {x2 : Int32} {x3 : Int32} {M : zM}, FQ M0 M → KF (FQ M0) (RC_X0_most x0 x1 x2 x3 M)) (hK21 : ∀ {x0 : Nat} {x1 : Int32} {x2 : Int32} {x3 : Int32} {x4 : Int32} {M : zM}, FQ M0 M → KF (FQ M0) (K21 x0 x1 x2 x3 x4 M)) : ∀ (n : Nat) {a0 : Nat} {i2 : Int32} {i3 : Int32} {i4 : Int32} {i5 : Int32} {i6 : Int32} {M : zM}, FQ M0 M → KF (FQ M0) (f_X0_most_38 RC_X0_most K21 n a0 i2 i3 i4 i5 i6 M) := by
  intro n
  induction n with
  | zero => exact fun _ => KF.n
  | succ n ih =>
    intro a0 i2 i3 i4 i5 i6 M hM
    rw [f_X0_most_38]
    refine KF.i ?_ ?_
    · exact (hK21 hM)
    · refine KF.c (kq_X0_fits hM) fun r1 h_r1 => ?_
      refine KF.i ?_ ?_
      · exact (ih h_r1)
      · refine KF.c (kq_X0_changePart h_r1) fun r2 h_r2 => ?_
        refine KF.i ?_ ?_
        · exact (kq_X0_most_76 hRC_X0_most hK21 ih h_r2)
        · exact (kq_X0_most_76 hRC_X0_most hK21 ih h_r2)
theorem kq_X0_most_21 {M0 : zM} {RC_X0_most : Nat → Int32 → Int32 → Int32 → zM → Option (Int32 × zM)} (hRC_X0_most : ∀ {x0 : Nat} {x1 : Int32} {x2 : Int32} {x3 : Int32} {M : zM}, FQ M0 M → KF (FQ M0) (RC_X0_most x0 x1 x2 x3 M)) : ∀ (n : Nat) {a0 : Nat} {i2 : Int32} {i3 : Int32} {i4 : Int32} {i5 : Int32} {M : zM}, FQ M0 M → KF (FQ M0) (f_X0_most_21 RC_X0_most n a0 i2 i3 i4 i5 M) := by
  intro n
  induction n with
  | zero => exact fun _ => KF.n
  | succ n ih =>
    intro a0 i2 i3 i4 i5 M hM
    rw [f_X0_most_21]
    refine KF.i ?_ ?_
    · exact KF.s hM
    · refine KF.i ?_ ?_
      · exact KF.s hM
      · exact (kq_X0_most_38 hRC_X0_most ih zN hM)
theorem kq_X0_most_0 {M0 : zM} {RC_X0_most : Nat → Int32 → Int32 → Int32 → zM → Option (Int32 × zM)} (hRC_X0_most : ∀ {x0 : Nat} {x1 : Int32} {x2 : Int32} {x3 : Int32} {M : zM}, FQ M0 M → KF (FQ M0) (RC_X0_most x0 x1 x2 x3 M)) {a0 : Nat} {i1 : Int32} {i2 : Int32} {i3 : Int32} {M : zM} (hM : FQ M0 M) : KF (FQ M0) (f_X0_most_0 RC_X0_most a0 i1 i2 i3 M) := by
  unfold f_X0_most_0
  refine KF.i ?_ ?_
  · exact KF.s hM
  · refine KF.i ?_ ?_
    · exact KF.s hM
    · refine KF.i ?_ ?_
      · exact (kq_X0_most_21 hRC_X0_most zN hM)
      · exact KF.s hM
theorem kq_X0_most {M0 : zM} : ∀ (n : Nat) {a0 : Nat} {i1 : Int32} {i2 : Int32} {i3 : Int32} {M : zM}, FQ M0 M → KF (FQ M0) (f_X0_most n a0 i1 i2 i3 M) := by
  intro n
  induction n with
  | zero => exact fun _ => KF.n
  | succ n ih =>
    intro a0 i1 i2 i3 M hM
    rw [f_X0_most]
    exact (kq_X0_most_0 ih hM)
theorem kq_X0_join_166 {M0 : zM} : ∀ (n : Nat) {a0 : Nat} {i4 : Int32} {M : zM}, FQ M0 M → KF (FQ M0) (f_X0_join_166 n a0 i4 M) := by
  intro n
  induction n with
  | zero => exact fun _ => KF.n
  | succ n ih =>
    intro a0 i4 M hM
    rw [f_X0_join_166]
    refine KF.i ?_ ?_
    · exact KF.s hM
    · refine KF.i ?_ KF.n
      refine KF.c (kq_X0_joinParts hM) fun r1 h_r1 => ?_
      exact (ih h_r1)
theorem kq_X0_join_159 {M0 : zM} {a0 : Nat} {i3 : Int32} {M : zM} (hM : FQ M0 M) : KF (FQ M0) (f_X0_join_159 a0 i3 M) := by
  unfold f_X0_join_159
  refine KF.c (kq_J9_min_7cf53 hM) fun r1 h_r1 => ?_
  exact (kq_X0_join_166 zN h_r1)
theorem kq_X0_join_142 {M0 : zM} {K56 : Nat → Int32 → Int32 → Int32 → Int32 → zM → Option (Unit × zM)} (hK56 : ∀ {x0 : Nat} {x1 : Int32} {x2 : Int32} {x3 : Int32} {x4 : Int32} {M : zM}, FQ M0 M → KF (FQ M0) (K56 x0 x1 x2 x3 x4 M)) {a0 : Nat} {i1 : Int32} {i2 : Int32} {i3 : Int32} {i4 : Int32} {M : zM} (hM : FQ M0 M) : KF (FQ M0) (f_X0_join_142 K56 a0 i1 i2 i3 i4 M) := by
  unfold f_X0_join_142
  refine KF.b fun v1 => ?_
  refine KF.b fun v2 => ?_
  refine KF.w (fq_tA hM) fun M3 h_M3 => ?_
  exact (hK56 h_M3)
theorem kq_X0_join_94 {M0 : zM} {K56 : Nat → Int32 → Int32 → Int32 → Int32 → zM → Option (Unit × zM)} (hK56 : ∀ {x0 : Nat} {x1 : Int32} {x2 : Int32} {x3 : Int32} {x4 : Int32} {M : zM}, FQ M0 M → KF (FQ M0) (K56 x0 x1 x2 x3 x4 M)) : ∀ (n : Nat) {a0 : Nat} {i1 : Int32} {i2 : Int32} {i3 : Int32} {i4 : Int32} {i5 : Int32} {M : zM}, FQ M0 M → KF (FQ M0) (f_X0_join_94 K56 n a0 i1 i2 i3 i4 i5 M) := by
  intro n
  induction n with
  | zero => exact fun _ => KF.n
  | succ n ih =>
    intro a0 i1 i2 i3 i4 i5 M hM
    rw [f_X0_join_94]
    refine KF.i ?_ ?_
    · exact (kq_X0_join_142 hK56 hM)
    · refine KF.i ?_ ?_
      · exact (kq_X0_join_142 hK56 hM)
      · refine KF.b fun v1 => ?_
        refine KF.b fun v2 => ?_
        refine KF.b fun v3 => ?_
        refine KF.b fun v4 => ?_
        refine KF.c (kq_X0_most zR hM) fun r5 h_r5 => ?_
        refine KF.c (kq_J9_max_7cf53 h_r5) fun r6 h_r6 => ?_
        refine KF.w (fq_tA h_r6) fun M7 h_M7 => ?_
        exact (ih h_M7)
theorem kq_X0_join_56 {M0 : zM} : ∀ (n : Nat) {a0 : Nat} {i1 : Int32} {i2 : Int32} {i3 : Int32} {i4 : Int32} {M : zM}, FQ M0 M → KF (FQ M0) (f_X0_join_56 n a0 i1 i2 i3 i4 M) := by
  intro n
  induction n with
  | zero => exact fun _ => KF.n
  | succ n ih =>
    intro a0 i1 i2 i3 i4 M hM
    rw [f_X0_join_56]
    refine KF.i ?_ ?_
    · exact (kq_X0_join_159 hM)
    · refine KF.i ?_ ?_
      · exact (kq_X0_join_159 hM)
      · refine KF.b fun v1 => ?_
        refine KF.b fun v2 => ?_
        refine KF.i ?_ ?_
        · exact (ih hM)
        · refine KF.b fun v3 => ?_
          refine KF.b fun v4 => ?_
          refine KF.w (fq_tA hM) fun M5 h_M5 => ?_
          exact (kq_X0_join_94 ih zN h_M5)
theorem kq_X0_join_3 {M0 : zM} : ∀ (n : Nat) {a0 : Nat} {i1 : Int32} {i2 : Int32} {i3 : Int32} {i4 : Int32} {M : zM}, FQ M0 M → KF (FQ M0) (f_X0_join_3 n a0 i1 i2 i3 i4 M) := by
  intro n
  induction n with
  | zero => exact fun _ => KF.n
  | succ n ih =>
    intro a0 i1 i2 i3 i4 M hM
    rw [f_X0_join_3]
    refine KF.i ?_ ?_
    · exact (kq_X0_join_56 zN hM)
    · refine KF.i ?_ ?_
      · exact (kq_X0_join_56 zN hM)
      · refine KF.b fun v1 => ?_
        refine KF.b fun v2 => ?_
        refine KF.c (kq_X0_most zR hM) fun r3 h_r3 => ?_
        refine KF.w (fq_tA h_r3) fun M4 h_M4 => ?_
        refine KF.b fun v5 => ?_
        refine KF.b fun v6 => ?_
        refine KF.b fun v7 => ?_
        refine KF.w (fq_tA h_M4) fun M8 h_M8 => ?_
        exact (ih h_M8)
theorem kq_X0_join_0 {M0 : zM} {a0 : Nat} {i1 : Int32} {i2 : Int32} {i3 : Int32} {M : zM} (hM : FQ M0 M) : KF (FQ M0) (f_X0_join_0 a0 i1 i2 i3 M) := by
  unfold f_X0_join_0
  exact (kq_X0_join_3 zN hM)
theorem kq_X0_join {M0 : zM} {a0 : Nat} {i1 : Int32} {i2 : Int32} {i3 : Int32} {M : zM} (hM : FQ M0 M) : KF (FQ M0) (f_X0_join a0 i1 i2 i3 M) := by
  unfold f_X0_join
  exact (kq_X0_join_0 hM)
theorem kq_X0_far_29 {M0 : zM} : ∀ (n : Nat) {a0 : Nat} {i3 : Int32} {i4 : Int32} {M : zM}, FQ M0 M → KF (FQ M0) (f_X0_far_29 n a0 i3 i4 M) := by
  intro n
  induction n with
  | zero => exact fun _ => KF.n
  | succ n ih =>
    intro a0 i3 i4 M hM
    rw [f_X0_far_29]
    refine KF.i ?_ ?_
    · refine KF.i ?_ KF.n
      refine KF.c (kq_X0_join hM) fun r1 h_r1 => ?_
      refine KF.i ?_ KF.n
      refine KF.c (kq_X0_join h_r1) fun r3 h_r3 => ?_
      refine KF.i ?_ KF.n
      refine KF.c (kq_X0_join h_r3) fun r5 h_r5 => ?_
      refine KF.b fun v7 => ?_
      refine KF.b fun v8 => ?_
      exact KF.s h_r5
    · refine KF.b fun v9 => ?_
      refine KF.w (fq_tA hM) fun M10 h_M10 => ?_
      refine KF.b fun v11 => ?_
      refine KF.w (fq_tA h_M10) fun M12 h_M12 => ?_
      exact (ih h_M12)
theorem kq_X0_far_20 {M0 : zM} {a0 : Nat} {a1 : Nat} {i_0 : Int32} {M : zM} (hM : FQ M0 M) : KF (FQ M0) (f_X0_far_20 a0 a1 i_0 M) := by
  unfold f_X0_far_20
  refine KF.i ?_ KF.n
  refine KF.c (kq_X0_copy hM) fun r1 h_r1 => ?_
  exact (kq_X0_far_29 zN h_r1)
theorem kq_X0_far_0 {M0 : zM} {a0 : Nat} {a1 : Nat} {i2 : Int32} {M : zM} (hM : FQ M0 M) : KF (FQ M0) (f_X0_far_0 a0 a1 i2 M) := by
  unfold f_X0_far_0
  refine KF.i ?_ ?_
  · refine KF.i ?_ ?_
    · exact (kq_X0_far_20 hM)
    · exact (kq_X0_far_20 hM)
  · exact (kq_X0_far_20 hM)
theorem kq_X0_far {M0 : zM} {a0 : Nat} {a1 : Nat} {i2 : Int32} {M : zM} (hM : FQ M0 M) : KF (FQ M0) (f_X0_far a0 a1 i2 M) := by
  unfold f_X0_far
  exact (kq_X0_far_0 hM)
theorem kq_X2_init_0 {M0 : zM} {a0 : Nat} {M : zM} (hM : FQ M0 M) : KF (FQ M0) (f_X2_init_0 a0 M) := by
  unfold f_X2_init_0
  refine KF.c (fq_aA hM) fun r1 h_r1 => ?_
  refine KF.w (fq_pR h_r1 rfl) fun M2 h_M2 => ?_
  exact KF.s h_M2
theorem kq_X2_init {M0 : zM} {a0 : Nat} {M : zM} (hM : FQ M0 M) : KF (FQ M0) (f_X2_init a0 M) := by
  unfold f_X2_init
  exact (kq_X2_init_0 hM)
theorem kq_X2_gather_2 {M0 : zM} : ∀ (n : Nat) {a0 : Nat} {a1 : Nat} {i2 : Int32} {M : zM}, FQ M0 M → KF (FQ M0) (f_X2_gather_2 n a0 a1 i2 M) := by
  intro n
  induction n with
  | zero => exact fun _ => KF.n
  | succ n ih =>
    intro a0 a1 i2 M hM
    rw [f_X2_gather_2]
    refine KF.i ?_ ?_
    · exact KF.s hM
    · refine KF.b fun v1 => ?_
      refine KF.i ?_ KF.n
      refine KF.c (kq_X1_count hM) fun r2 h_r2 => ?_
      refine KF.i ?_ KF.n
      refine KF.c (kq_X1_inSets h_r2) fun r4 h_r4 => ?_
      refine KF.w (fq_tA h_r4) fun M6 h_M6 => ?_
      exact (ih h_M6)
theorem kq_X2_gather_0 {M0 : zM} {a0 : Nat} {a1 : Nat} {M : zM} (hM : FQ M0 M) : KF (FQ M0) (f_X2_gather_0 a0 a1 M) := by
  unfold f_X2_gather_0
  exact (kq_X2_gather_2 zN hM)
theorem kq_X2_gather {M0 : zM} {a0 : Nat} {a1 : Nat} {M : zM} (hM : FQ M0 M) : KF (FQ M0) (f_X2_gather a0 a1 M) := by
  unfold f_X2_gather
  exact (kq_X2_gather_0 hM)
theorem kq_X2_anyOf_2 {M0 : zM} : ∀ (n : Nat) {a0 : Nat} {i2 : Int32} {i3 : Int32} {M : zM}, FQ M0 M → KF (FQ M0) (f_X2_anyOf_2 n a0 i2 i3 M) := by
  intro n
  induction n with
  | zero => exact fun _ => KF.n
  | succ n ih =>
    intro a0 i2 i3 M hM
    rw [f_X2_anyOf_2]
    refine KF.i ?_ ?_
    · exact KF.s hM
    · refine KF.i ?_ ?_
      · exact KF.s hM
      · refine KF.i ?_ ?_
        · exact KF.s hM
        · refine KF.b fun v1 => ?_
          refine KF.b fun v2 => ?_
          refine KF.i ?_ ?_
          · exact (ih hM)
          · exact KF.s hM
theorem kq_X2_anyOf_0 {M0 : zM} {a0 : Nat} {i1 : Int32} {i2 : Int32} {M : zM} (hM : FQ M0 M) : KF (FQ M0) (f_X2_anyOf_0 a0 i1 i2 M) := by
  unfold f_X2_anyOf_0
  exact (kq_X2_anyOf_2 zN hM)
theorem kq_X2_anyOf {M0 : zM} {a0 : Nat} {i1 : Int32} {i2 : Int32} {M : zM} (hM : FQ M0 M) : KF (FQ M0) (f_X2_anyOf a0 i1 i2 M) := by
  unfold f_X2_anyOf
  exact (kq_X2_anyOf_0 hM)
theorem kq_X2_ofOneSuit_0 {M0 : zM} {a0 : Nat} {M : zM} (hM : FQ M0 M) : KF (FQ M0) (f_X2_ofOneSuit_0 a0 M) := by
  unfold f_X2_ofOneSuit_0
  refine KF.i ?_ KF.n
  refine KF.c (kq_X2_anyOf hM) fun r1 h_r1 => ?_
  refine KF.i ?_ KF.n
  refine KF.c (kq_X2_anyOf h_r1) fun r3 h_r3 => ?_
  refine KF.i ?_ ?_
  · exact KF.s h_r3
  · refine KF.i ?_ KF.n
    refine KF.c (kq_X2_anyOf h_r3) fun r5 h_r5 => ?_
    refine KF.i ?_ ?_
    · exact KF.s h_r5
    · exact KF.s h_r5
theorem kq_X2_ofOneSuit {M0 : zM} {a0 : Nat} {M : zM} (hM : FQ M0 M) : KF (FQ M0) (f_X2_ofOneSuit a0 M) := by
  unfold f_X2_ofOneSuit
  exact (kq_X2_ofOneSuit_0 hM)
theorem kq_X2_setOf_0 {M0 : zM} {a0 : Nat} {i1 : Int32} {M : zM} (hM : FQ M0 M) : KF (FQ M0) (f_X2_setOf_0 a0 i1 M) := by
  unfold f_X2_setOf_0
  refine KF.i ?_ ?_
  · exact KF.s hM
  · refine KF.i ?_ ?_
    · exact KF.s hM
    · refine KF.b fun v1 => ?_
      refine KF.b fun v2 => ?_
      refine KF.i ?_ ?_
      · exact KF.s hM
      · exact KF.s hM
theorem kq_X2_setOf {M0 : zM} {a0 : Nat} {i1 : Int32} {M : zM} (hM : FQ M0 M) : KF (FQ M0) (f_X2_setOf a0 i1 M) := by
  unfold f_X2_setOf
  exact (kq_X2_setOf_0 hM)
theorem kq_X2_withoutEndsAndHonours_29 {M0 : zM} {K2 : Nat → Int32 → zM → Option (Int32 × zM)} (hK2 : ∀ {x0 : Nat} {x1 : Int32} {M : zM}, FQ M0 M → KF (FQ M0) (K2 x0 x1 M)) {a0 : Nat} {i1 : Int32} {i_0 : Int32} {M : zM} (hM : FQ M0 M) : KF (FQ M0) (f_X2_withoutEndsAndHonours_29 K2 a0 i1 i_0 M) := by
  unfold f_X2_withoutEndsAndHonours_29
  refine KF.b fun v1 => ?_
  refine KF.b fun v2 => ?_
  refine KF.i ?_ ?_
  · exact (hK2 hM)
  · refine KF.i ?_ ?_
    · exact KF.s hM
    · refine KF.i ?_ ?_
      · exact (hK2 hM)
      · exact KF.s hM
theorem kq_X2_withoutEndsAndHonours_24 {M0 : zM} {K2 : Nat → Int32 → zM → Option (Int32 × zM)} (hK2 : ∀ {x0 : Nat} {x1 : Int32} {M : zM}, FQ M0 M → KF (FQ M0) (K2 x0 x1 M)) {a0 : Nat} {i1 : Int32} {M : zM} (hM : FQ M0 M) : KF (FQ M0) (f_X2_withoutEndsAndHonours_24 K2 a0 i1 M) := by
  unfold f_X2_withoutEndsAndHonours_24
  exact (kq_X2_withoutEndsAndHonours_29 hK2 hM)
theorem kq_X2_withoutEndsAndHonours_2 {M0 : zM} : ∀ (n : Nat) {a0 : Nat} {i1 : Int32} {M : zM}, FQ M0 M → KF (FQ M0) (f_X2_withoutEndsAndHonours_2 n a0 i1 M) := by
  intro n
  induction n with
  | zero => exact fun _ => KF.n
  | succ n ih =>
    intro a0 i1 M hM
    rw [f_X2_withoutEndsAndHonours_2]
    refine KF.i ?_ ?_
    · exact KF.s hM
    · refine KF.i ?_ ?_
      · exact (kq_X2_withoutEndsAndHonours_24 ih hM)
      · refine KF.i ?_ ?_
        · exact (kq_X2_withoutEndsAndHonours_24 ih hM)
        · exact (kq_X2_withoutEndsAndHonours_29 ih hM)
theorem kq_X2_withoutEndsAndHonours_0 {M0 : zM} {a0 : Nat} {M : zM} (hM : FQ M0 M) : KF (FQ M0) (f_X2_withoutEndsAndHonours_0 a0 M) := by
  unfold f_X2_withoutEndsAndHonours_0
  exact (kq_X2_withoutEndsAndHonours_2 zN hM)
theorem kq_X2_withoutEndsAndHonours {M0 : zM} {a0 : Nat} {M : zM} (hM : FQ M0 M) : KF (FQ M0) (f_X2_withoutEndsAndHonours a0 M) := by
  unfold f_X2_withoutEndsAndHonours
  exact (kq_X2_withoutEndsAndHonours_0 hM)
theorem kq_X2_withoutRows_4 {M0 : zM} : ∀ (n : Nat) {a0 : Nat} {i1 : Int32} {i2 : Int32} {M : zM}, FQ M0 M → KF (FQ M0) (f_X2_withoutRows_4 n a0 i1 i2 M) := by
  intro n
  induction n with
  | zero => exact fun _ => KF.n
  | succ n ih =>
    intro a0 i1 i2 M hM
    rw [f_X2_withoutRows_4]
    refine KF.i ?_ ?_
    · refine KF.i ?_ ?_
      · refine KF.i ?_ KF.n
        refine KF.c (kq_X1_rowLies hM) fun r1 h_r1 => ?_
        refine KF.i ?_ ?_
        · exact KF.s h_r1
        · exact KF.s h_r1
      · exact KF.s hM
    · refine KF.i ?_ KF.n
      refine KF.c (kq_X1_count hM) fun r5 h_r5 => ?_
      refine KF.i ?_ ?_
      · exact KF.s h_r5
      · refine KF.i ?_ ?_
        · exact (ih h_r5)
        · exact (ih h_r5)
theorem kq_X2_withoutRows_0 {M0 : zM} {a0 : Nat} {M : zM} (hM : FQ M0 M) : KF (FQ M0) (f_X2_withoutRows_0 a0 M) := by
  unfold f_X2_withoutRows_0
  exact (kq_X2_withoutRows_4 zN hM)
theorem kq_X2_withoutRows {M0 : zM} {a0 : Nat} {M : zM} (hM : FQ M0 M) : KF (FQ M0) (f_X2_withoutRows a0 M) := by
  unfold f_X2_withoutRows
  exact (kq_X2_withoutRows_0 hM)
theorem kq_X2_value_144 {M0 : zM} {a0 : Nat} {i_0 : Int32} {i_1 : Int32} {M : zM} (hM : FQ M0 M) : KF (FQ M0) (f_X2_value_144 a0 i_0 i_1 M) := by
  unfold f_X2_value_144
  refine KF.i ?_ KF.n
  refine KF.c (kq_X2_ofOneSuit hM) fun r1 h_r1 => ?_
  refine KF.c (kq_J9_min_7cf53 h_r1) fun r3 h_r3 => ?_
  exact KF.s h_r3
theorem kq_X2_value_127 {M0 : zM} {a0 : Nat} {a1 : Nat} {i_0 : Int32} {i_1 : Int32} {M : zM} (hM : FQ M0 M) : KF (FQ M0) (f_X2_value_127 a0 a1 i_0 i_1 M) := by
  unfold f_X2_value_127
  refine KF.c (kq_X2_withoutRows hM) fun r1 h_r1 => ?_
  refine KF.i ?_ ?_
  · exact (kq_X2_value_144 h_r1)
  · exact (kq_X2_value_144 h_r1)
theorem kq_X2_value_75 {M0 : zM} : ∀ (n : Nat) {a0 : Nat} {a1 : Nat} {i4 : Int32} {i5 : Int32} {i6 : Int32} {M : zM}, FQ M0 M → KF (FQ M0) (f_X2_value_75 n a0 a1 i4 i5 i6 M) := by
  intro n
  induction n with
  | zero => exact fun _ => KF.n
  | succ n ih =>
    intro a0 a1 i4 i5 i6 M hM
    rw [f_X2_value_75]
    refine KF.i ?_ ?_
    · refine KF.i ?_ KF.n
      refine KF.c (kq_X2_setOf hM) fun r1 h_r1 => ?_
      refine KF.i ?_ KF.n
      refine KF.c (kq_X2_withoutEndsAndHonours h_r1) fun r3 h_r3 => ?_
      refine KF.i ?_ ?_
      · exact (kq_X2_value_127 h_r3)
      · exact (kq_X2_value_127 h_r3)
    · refine KF.i ?_ KF.n
      refine KF.c (kq_X2_setOf hM) fun r6 h_r6 => ?_
      exact (ih h_r6)
theorem kq_X2_value_68 {M0 : zM} {a0 : Nat} {a1 : Nat} {i4 : Int32} {i_0 : Int32} {i_1 : Int32} {M : zM} (hM : FQ M0 M) : KF (FQ M0) (f_X2_value_68 a0 a1 i4 i_0 i_1 M) := by
  unfold f_X2_value_68
  exact (kq_X2_value_75 zN hM)
theorem kq_X2_value_67 {M0 : zM} {a0 : Nat} {a1 : Nat} {i4 : Int32} {i_0 : Int32} {M : zM} (hM : FQ M0 M) : KF (FQ M0) (f_X2_value_67 a0 a1 i4 i_0 M) := by
  unfold f_X2_value_67
  exact (kq_X2_value_68 hM)
theorem kq_X2_value_43 {M0 : zM} {a0 : Nat} {a1 : Nat} {i3 : Int32} {i4 : Int32} {i_0 : Int32} {i_1 : Int32} {M : zM} (hM : FQ M0 M) : KF (FQ M0) (f_X2_value_43 a0 a1 i3 i4 i_0 i_1 M) := by
  unfold f_X2_value_43
  refine KF.i ?_ ?_
  · exact (kq_X2_value_67 hM)
  · refine KF.i ?_ ?_
    · exact (kq_X2_value_67 hM)
    · refine KF.b fun v1 => ?_
      refine KF.b fun v2 => ?_
      exact (kq_X2_value_68 hM)
theorem kq_X2_value_42 {M0 : zM} {a0 : Nat} {a1 : Nat} {i3 : Int32} {i4 : Int32} {i_0 : Int32} {M : zM} (hM : FQ M0 M) : KF (FQ M0) (f_X2_value_42 a0 a1 i3 i4 i_0 M) := by
  unfold f_X2_value_42
  exact (kq_X2_value_43 hM)
theorem kq_X2_value_22 {M0 : zM} {a0 : Nat} {a1 : Nat} {i2 : Int32} {i3 : Int32} {i4 : Int32} {i_0 : Int32} {i_1 : Int32} {M : zM} (hM : FQ M0 M) : KF (FQ M0) (f_X2_value_22 a0 a1 i2 i3 i4 i_0 i_1 M) := by
  unfold f_X2_value_22
  refine KF.i ?_ ?_
  · exact (kq_X2_value_42 hM)
  · refine KF.i ?_ KF.n
    refine KF.c (kq_X1_openSets hM) fun r1 h_r1 => ?_
    refine KF.i ?_ ?_
    · exact (kq_X2_value_43 h_r1)
    · exact (kq_X2_value_42 h_r1)
theorem kq_X2_value_0 {M0 : zM} {a0 : Nat} {a1 : Nat} {i2 : Int32} {i3 : Int32} {i4 : Int32} {M : zM} (hM : FQ M0 M) : KF (FQ M0) (f_X2_value_0 a0 a1 i2 i3 i4 M) := by
  unfold f_X2_value_0
  refine KF.i ?_ KF.n
  refine KF.c (kq_X2_gather hM) fun r1 h_r1 => ?_
  refine KF.b fun v3 => ?_
  refine KF.i ?_ ?_
  · exact (kq_X2_value_22 h_r1)
  · exact (kq_X2_value_22 h_r1)
theorem kq_X2_value {M0 : zM} {a0 : Nat} {a1 : Nat} {i2 : Int32} {i3 : Int32} {i4 : Int32} {M : zM} (hM : FQ M0 M) : KF (FQ M0) (f_X2_value a0 a1 i2 i3 i4 M) := by
  unfold f_X2_value
  exact (kq_X2_value_0 hM)
theorem kq_X3_beginRound_0 {M0 : zM} {a0 : Nat} {M : zM} (hM : FQ M0 M) : KF (FQ M0) (f_X3_beginRound_0 a0 M) := by
  unfold f_X3_beginRound_0
  refine KF.b fun v1 => ?_
  refine KF.w (fq_pI hM rfl) fun M2 h_M2 => ?_
  refine KF.b fun v3 => ?_
  refine KF.w (fq_pI h_M2 rfl) fun M4 h_M4 => ?_
  refine KF.b fun v5 => ?_
  refine KF.w (fq_pI h_M4 rfl) fun M6 h_M6 => ?_
  refine KF.w (fq_pI h_M6 rfl) fun M7 h_M7 => ?_
  refine KF.w (fq_pI h_M7 rfl) fun M8 h_M8 => ?_
  refine KF.w (fq_pI h_M8 rfl) fun M9 h_M9 => ?_
  refine KF.w (fq_pI h_M9 rfl) fun M10 h_M10 => ?_
  refine KF.w (fq_pZ h_M10 rfl) fun M11 h_M11 => ?_
  exact KF.s h_M11
theorem kq_X3_beginRound {M0 : zM} {a0 : Nat} {M : zM} (hM : FQ M0 M) : KF (FQ M0) (f_X3_beginRound a0 M) := by
  unfold f_X3_beginRound
  exact (kq_X3_beginRound_0 hM)
theorem kq_X3_kindAt_0 {M0 : zM} {a0 : Nat} {i1 : Int32} {M : zM} (hM : FQ M0 M) : KF (FQ M0) (f_X3_kindAt_0 a0 i1 M) := by
  unfold f_X3_kindAt_0
  refine KF.b fun v1 => ?_
  refine KF.b fun v2 => ?_
  exact KF.s hM
theorem kq_X3_kindAt {M0 : zM} {a0 : Nat} {i1 : Int32} {M : zM} (hM : FQ M0 M) : KF (FQ M0) (f_X3_kindAt a0 i1 M) := by
  unfold f_X3_kindAt
  exact (kq_X3_kindAt_0 hM)
theorem kq_X3_dealTo_13 {M0 : zM} : ∀ (n : Nat) {a0 : Nat} {i1 : Int32} {a2 : Nat} {i3 : Int32} {M : zM}, FQ M0 M → KF (FQ M0) (f_X3_dealTo_13 n a0 i1 a2 i3 M) := by
  intro n
  induction n with
  | zero => exact fun _ => KF.n
  | succ n ih =>
    intro a0 i1 a2 i3 M hM
    rw [f_X3_dealTo_13]
    refine KF.i ?_ ?_
    · exact KF.s hM
    · refine KF.i ?_ KF.n
      refine KF.c (kq_X3_kindAt hM) fun r1 h_r1 => ?_
      refine KF.i ?_ KF.n
      refine KF.c (kq_X1_change h_r1) fun r3 h_r3 => ?_
      exact (ih h_r3)
theorem kq_X3_dealTo_0 {M0 : zM} {a0 : Nat} {i1 : Int32} {M : zM} (hM : FQ M0 M) : KF (FQ M0) (f_X3_dealTo_0 a0 i1 M) := by
  unfold f_X3_dealTo_0
  refine KF.b fun v1 => ?_
  refine KF.b fun v2 => ?_
  refine KF.i ?_ KF.n
  refine KF.c (kq_X1_clear hM) fun r3 h_r3 => ?_
  exact (kq_X3_dealTo_13 zN h_r3)
theorem kq_X3_dealTo {M0 : zM} {a0 : Nat} {i1 : Int32} {M : zM} (hM : FQ M0 M) : KF (FQ M0) (f_X3_dealTo a0 i1 M) := by
  unfold f_X3_dealTo
  exact (kq_X3_dealTo_0 hM)
theorem kq_X3_follower_0 {M0 : zM} {i0 : Int32} {M : zM} (hM : FQ M0 M) : KF (FQ M0) (f_X3_follower_0 i0 M) := by
  unfold f_X3_follower_0
  refine KF.i ?_ ?_
  · refine KF.i ?_ ?_
    · refine KF.i ?_ ?_
      · exact KF.s hM
      · exact KF.s hM
    · refine KF.i ?_ ?_
      · exact KF.s hM
      · exact KF.s hM
  · refine KF.i ?_ ?_
    · exact KF.s hM
    · exact KF.s hM
theorem kq_X3_follower {M0 : zM} {i0 : Int32} {M : zM} (hM : FQ M0 M) : KF (FQ M0) (f_X3_follower i0 M) := by
  unfold f_X3_follower
  exact (kq_X3_follower_0 hM)
theorem kq_X3_requirePhase_0 {M0 : zM} {a0 : Nat} {i1 : Int32} {M : zM} (hM : FQ M0 M) : KF (FQ M0) (f_X3_requirePhase_0 a0 i1 M) := by
  unfold f_X3_requirePhase_0
  refine KF.b fun v1 => ?_
  refine KF.i ?_ ?_
  · exact KF.s hM
  · exact KF.s (fq_nE hM)
theorem kq_X3_requirePhase {M0 : zM} {a0 : Nat} {i1 : Int32} {M : zM} (hM : FQ M0 M) : KF (FQ M0) (f_X3_requirePhase a0 i1 M) := by
  unfold f_X3_requirePhase
  exact (kq_X3_requirePhase_0 hM)
theorem kq_X3_tilesLeft_0 {M0 : zM} {a0 : Nat} {M : zM} (hM : FQ M0 M) : KF (FQ M0) (f_X3_tilesLeft_0 a0 M) := by
  unfold f_X3_tilesLeft_0
  refine KF.b fun v1 => ?_
  refine KF.i ?_ ?_
  · exact KF.s hM
  · refine KF.b fun v2 => ?_
    refine KF.b fun v3 => ?_
    exact KF.s hM
theorem kq_X3_tilesLeft {M0 : zM} {a0 : Nat} {M : zM} (hM : FQ M0 M) : KF (FQ M0) (f_X3_tilesLeft a0 M) := by
  unfold f_X3_tilesLeft
  exact (kq_X3_tilesLeft_0 hM)
theorem kq_X3_canDraw_0 {M0 : zM} {a0 : Nat} {M : zM} (hM : FQ M0 M) : KF (FQ M0) (f_X3_canDraw_0 a0 M) := by
  unfold f_X3_canDraw_0
  refine KF.i ?_ KF.n
  refine KF.c (kq_X3_tilesLeft hM) fun r1 h_r1 => ?_
  refine KF.i ?_ ?_
  · exact KF.s h_r1
  · exact KF.s h_r1
theorem kq_X3_canDraw {M0 : zM} {a0 : Nat} {M : zM} (hM : FQ M0 M) : KF (FQ M0) (f_X3_canDraw a0 M) := by
  unfold f_X3_canDraw
  exact (kq_X3_canDraw_0 hM)
theorem kq_X3_waitsOf_51 {M0 : zM} {K16 : Nat → Nat → Int64 → Int32 → zM → Option (Int64 × zM)} (hK16 : ∀ {x0 : Nat} {x1 : Nat} {x2 : Int64} {x3 : Int32} {M : zM}, FQ M0 M → KF (FQ M0) (K16 x0 x1 x2 x3 M)) {a0 : Nat} {a1 : Nat} {j2 : Int64} {i4 : Int32} {M : zM} (hM : FQ M0 M) : KF (FQ M0) (f_X3_waitsOf_51 K16 a0 a1 j2 i4 M) := by
  unfold f_X3_waitsOf_51
  refine KF.i ?_ KF.n
  refine KF.c (kq_X1_change hM) fun r1 h_r1 => ?_
  exact (hK16 h_r1)
theorem kq_X3_waitsOf_16 {M0 : zM} : ∀ (n : Nat) {a0 : Nat} {a1 : Nat} {j2 : Int64} {i4 : Int32} {M : zM}, FQ M0 M → KF (FQ M0) (f_X3_waitsOf_16 n a0 a1 j2 i4 M) := by
  intro n
  induction n with
  | zero => exact fun _ => KF.n
  | succ n ih =>
    intro a0 a1 j2 i4 M hM
    rw [f_X3_waitsOf_16]
    refine KF.i ?_ ?_
    · exact KF.s hM
    · refine KF.i ?_ KF.n
      refine KF.c (kq_X1_change hM) fun r1 h_r1 => ?_
      refine KF.b fun v3 => ?_
      refine KF.b fun v4 => ?_
      refine KF.i ?_ KF.n
      refine KF.c (kq_X0_complete h_r1) fun r5 h_r5 => ?_
      refine KF.i ?_ ?_
      · exact (kq_X3_waitsOf_51 ih h_r5)
      · exact (kq_X3_waitsOf_51 ih h_r5)
theorem kq_X3_waitsOf_0 {M0 : zM} {a0 : Nat} {a1 : Nat} {M : zM} (hM : FQ M0 M) : KF (FQ M0) (f_X3_waitsOf_0 a0 a1 M) := by
  unfold f_X3_waitsOf_0
  refine KF.i ?_ KF.n
  refine KF.c (kq_X1_size hM) fun r1 h_r1 => ?_
  refine KF.i ?_ ?_
  · exact (kq_X3_waitsOf_16 zN h_r1)
  · exact KF.s h_r1
theorem kq_X3_waitsOf {M0 : zM} {a0 : Nat} {a1 : Nat} {M : zM} (hM : FQ M0 M) : KF (FQ M0) (f_X3_waitsOf a0 a1 M) := by
  unfold f_X3_waitsOf
  exact (kq_X3_waitsOf_0 hM)
theorem kq_X3_seatInTurn_27 {M0 : zM} {a0 : Nat} {M : zM} (hM : FQ M0 M) : KF (FQ M0) (f_X3_seatInTurn_27 a0 M) := by
  unfold f_X3_seatInTurn_27
  refine KF.b fun v1 => ?_
  refine KF.b fun v2 => ?_
  exact KF.s hM
theorem kq_X3_seatInTurn_0 {M0 : zM} {a0 : Nat} {M : zM} (hM : FQ M0 M) : KF (FQ M0) (f_X3_seatInTurn_0 a0 M) := by
  unfold f_X3_seatInTurn_0
  refine KF.b fun v1 => ?_
  refine KF.i ?_ ?_
  · exact (kq_X3_seatInTurn_27 hM)
  · refine KF.b fun v2 => ?_
    refine KF.i ?_ ?_
    · exact (kq_X3_seatInTurn_27 hM)
    · refine KF.b fun v3 => ?_
      refine KF.b fun v4 => ?_
      refine KF.b fun v5 => ?_
      exact KF.s hM
theorem kq_X3_seatInTurn {M0 : zM} {a0 : Nat} {M : zM} (hM : FQ M0 M) : KF (FQ M0) (f_X3_seatInTurn a0 M) := by
  unfold f_X3_seatInTurn
  exact (kq_X3_seatInTurn_0 hM)
theorem kq_X3_receive_0 {M0 : zM} {a0 : Nat} {i1 : Int32} {M : zM} (hM : FQ M0 M) : KF (FQ M0) (f_X3_receive_0 a0 i1 M) := by
  unfold f_X3_receive_0
  refine KF.i ?_ KF.n
  refine KF.c (kq_X3_seatInTurn hM) fun r1 h_r1 => ?_
  refine KF.i ?_ KF.n
  refine KF.c (kq_X1_change h_r1) fun r3 h_r3 => ?_
  refine KF.w (fq_pI h_r3 rfl) fun M5 h_M5 => ?_
  refine KF.w (fq_pZ h_M5 rfl) fun M6 h_M6 => ?_
  exact KF.s h_M6
theorem kq_X3_receive {M0 : zM} {a0 : Nat} {i1 : Int32} {M : zM} (hM : FQ M0 M) : KF (FQ M0) (f_X3_receive a0 i1 M) := by
  unfold f_X3_receive
  exact (kq_X3_receive_0 hM)
theorem kq_X3_layIntoRiver_0 {M0 : zM} {a0 : Nat} {a1 : Nat} {i2 : Int32} {M : zM} (hM : FQ M0 M) : KF (FQ M0) (f_X3_layIntoRiver_0 a0 a1 i2 M) := by
  unfold f_X3_layIntoRiver_0
  refine KF.i ?_ KF.n
  refine KF.c (kq_X1_toRiver hM) fun r1 h_r1 => ?_
  refine KF.w (fq_pI h_r1 rfl) fun M3 h_M3 => ?_
  exact KF.s h_M3
theorem kq_X3_layIntoRiver {M0 : zM} {a0 : Nat} {a1 : Nat} {i2 : Int32} {M : zM} (hM : FQ M0 M) : KF (FQ M0) (f_X3_layIntoRiver a0 a1 i2 M) := by
  unfold f_X3_layIntoRiver
  exact (kq_X3_layIntoRiver_0 hM)
theorem kq_X3_requireKind_10 {M0 : zM} {M : zM} (hM : FQ M0 M) : KF (FQ M0) (f_X3_requireKind_10 M) := by
  unfold f_X3_requireKind_10
  exact KF.s (fq_nE hM)
theorem kq_X3_requireKind_0 {M0 : zM} {i0 : Int32} {M : zM} (hM : FQ M0 M) : KF (FQ M0) (f_X3_requireKind_0 i0 M) := by
  unfold f_X3_requireKind_0
  refine KF.i ?_ ?_
  · exact (kq_X3_requireKind_10 hM)
  · refine KF.i ?_ ?_
    · exact KF.s hM
    · exact (kq_X3_requireKind_10 hM)
theorem kq_X3_requireKind {M0 : zM} {i0 : Int32} {M : zM} (hM : FQ M0 M) : KF (FQ M0) (f_X3_requireKind i0 M) := by
  unfold f_X3_requireKind
  exact (kq_X3_requireKind_0 hM)
theorem kq_X3_discard_37 {M0 : zM} {M : zM} (hM : FQ M0 M) : KF (FQ M0) (f_X3_discard_37 M) := by
  unfold f_X3_discard_37
  exact KF.s (fq_nE hM)
theorem kq_X3_discard_47 {M0 : zM} {a0 : Nat} {i1 : Int32} {a2 : Nat} {M : zM} (hM : FQ M0 M) : KF (FQ M0) (f_X3_discard_47 a0 i1 a2 M) := by
  unfold f_X3_discard_47
  refine KF.i ?_ KF.n
  refine KF.c (kq_X3_layIntoRiver hM) fun r1 h_r1 => ?_
  refine KF.b fun v3 => ?_
  exact KF.s h_r1
theorem kq_X3_discard_0 {M0 : zM} {a0 : Nat} {i1 : Int32} {M : zM} (hM : FQ M0 M) : KF (FQ M0) (f_X3_discard_0 a0 i1 M) := by
  unfold f_X3_discard_0
  refine KF.xb (kq_X3_requireKind hM) fun w1 Mw1 h_Mw1 => ?_
  refine KF.i ?_ KF.n
  refine KF.xb (kq_X3_requirePhase h_Mw1) fun w22 Mw22 h_Mw22 => ?_
  refine KF.i ?_ KF.n
  refine KF.c (kq_X3_seatInTurn h_Mw22) fun r33 h_r33 => ?_
  refine KF.i ?_ KF.n
  refine KF.c (kq_X1_count h_r33) fun r35 h_r35 => ?_
  refine KF.i ?_ ?_
  · exact (kq_X3_discard_37 h_r35)
  · refine KF.b fun v37 => ?_
    refine KF.i ?_ ?_
    · exact (kq_X3_discard_47 h_r35)
    · refine KF.b fun v38 => ?_
      refine KF.i ?_ ?_
      · exact (kq_X3_discard_47 h_r35)
      · exact (kq_X3_discard_37 h_r35)
theorem kq_X3_discard {M0 : zM} {a0 : Nat} {i1 : Int32} {M : zM} (hM : FQ M0 M) : KF (FQ M0) (f_X3_discard a0 i1 M) := by
  unfold f_X3_discard
  exact (kq_X3_discard_0 hM)
theorem kq_X3_readyWithout_21 {M0 : zM} {a1 : Nat} {i2 : Int32} {i_0 : Int32} {M : zM} (hM : FQ M0 M) : KF (FQ M0) (f_X3_readyWithout_21 a1 i2 i_0 M) := by
  unfold f_X3_readyWithout_21
  refine KF.i ?_ KF.n
  refine KF.c (kq_X1_change hM) fun r1 h_r1 => ?_
  refine KF.i ?_ KF.n
  exact KF.s h_r1
theorem kq_X3_readyWithout_0 {M0 : zM} {a0 : Nat} {a1 : Nat} {i2 : Int32} {M : zM} (hM : FQ M0 M) : KF (FQ M0) (f_X3_readyWithout_0 a0 a1 i2 M) := by
  unfold f_X3_readyWithout_0
  refine KF.i ?_ KF.n
  refine KF.c (kq_X1_change hM) fun r1 h_r1 => ?_
  refine KF.i ?_ KF.n
  refine KF.c (kq_X3_waitsOf h_r1) fun r3 h_r3 => ?_
  refine KF.i ?_ ?_
  · exact (kq_X3_readyWithout_21 h_r3)
  · exact (kq_X3_readyWithout_21 h_r3)
theorem kq_X3_readyWithout {M0 : zM} {a0 : Nat} {a1 : Nat} {i2 : Int32} {M : zM} (hM : FQ M0 M) : KF (FQ M0) (f_X3_readyWithout a0 a1 i2 M) := by
  unfold f_X3_readyWithout
  exact (kq_X3_readyWithout_0 hM)
theorem kq_X3_drawForFour_0 {M0 : zM} {a0 : Nat} {M : zM} (hM : FQ M0 M) : KF (FQ M0) (f_X3_drawForFour_0 a0 M) := by
  unfold f_X3_drawForFour_0
  refine KF.b fun v1 => ?_
  refine KF.i ?_ KF.n
  refine KF.c (kq_X3_kindAt hM) fun r2 h_r2 => ?_
  refine KF.b fun v4 => ?_
  refine KF.w (fq_pI h_r2 rfl) fun M5 h_M5 => ?_
  refine KF.i ?_ KF.n
  refine KF.c (kq_X3_receive h_M5) fun r6 h_r6 => ?_
  exact KF.s h_r6
theorem kq_X3_drawForFour {M0 : zM} {a0 : Nat} {M : zM} (hM : FQ M0 M) : KF (FQ M0) (f_X3_drawForFour a0 M) := by
  unfold f_X3_drawForFour
  exact (kq_X3_drawForFour_0 hM)
theorem kq_X3_completesRow_23 {M0 : zM} : ∀ (n : Nat) {a0 : Nat} {i1 : Int32} {i2 : Int32} {i3 : Int32} {M : zM}, FQ M0 M → KF (FQ M0) (f_X3_completesRow_23 n a0 i1 i2 i3 M) := by
  intro n
  induction n with
  | zero => exact fun _ => KF.n
  | succ n ih =>
    intro a0 i1 i2 i3 M hM
    rw [f_X3_completesRow_23]
    refine KF.i ?_ ?_
    · exact KF.s hM
    · refine KF.i ?_ ?_
      · exact (ih hM)
      · refine KF.i ?_ KF.n
        refine KF.c (kq_X1_count hM) fun r1 h_r1 => ?_
        refine KF.i ?_ ?_
        · exact KF.s h_r1
        · exact (ih h_r1)
theorem kq_X3_completesRow_0 {M0 : zM} {a0 : Nat} {i1 : Int32} {i2 : Int32} {M : zM} (hM : FQ M0 M) : KF (FQ M0) (f_X3_completesRow_0 a0 i1 i2 M) := by
  unfold f_X3_completesRow_0
  refine KF.c (kq_X3_startsRow hM) fun r1 h_r1 => ?_
  refine KF.i ?_ ?_
  · exact KF.s h_r1
  · refine KF.i ?_ ?_
    · exact KF.s h_r1
    · refine KF.i ?_ ?_
      · exact (kq_X3_completesRow_23 zN h_r1)
      · exact KF.s h_r1
theorem kq_X3_completesRow {M0 : zM} {a0 : Nat} {i1 : Int32} {i2 : Int32} {M : zM} (hM : FQ M0 M) : KF (FQ M0) (f_X3_completesRow a0 i1 i2 M) := by
  unfold f_X3_completesRow
  exact (kq_X3_completesRow_0 hM)
theorem kq_X3_fourAllowed_0 {M0 : zM} {a0 : Nat} {M : zM} (hM : FQ M0 M) : KF (FQ M0) (f_X3_fourAllowed_0 a0 M) := by
  unfold f_X3_fourAllowed_0
  refine KF.b fun v1 => ?_
  refine KF.i ?_ ?_
  · exact KF.s hM
  · refine KF.i ?_ KF.n
    refine KF.c (kq_X3_canDraw hM) fun r2 h_r2 => ?_
    refine KF.i ?_ ?_
    · exact KF.s h_r2
    · exact KF.s h_r2
theorem kq_X3_fourAllowed {M0 : zM} {a0 : Nat} {M : zM} (hM : FQ M0 M) : KF (FQ M0) (f_X3_fourAllowed a0 M) := by
  unfold f_X3_fourAllowed
  exact (kq_X3_fourAllowed_0 hM)
theorem kq_X3_mayClaim_0 {M0 : zM} {a0 : Nat} {i1 : Int32} {i2 : Int32} {i3 : Int32} {M : zM} (hM : FQ M0 M) : KF (FQ M0) (f_X3_mayClaim_0 a0 i1 i2 i3 M) := by
  unfold f_X3_mayClaim_0
  refine KF.b fun v1 => ?_
  refine KF.i ?_ ?_
  · refine KF.b fun v2 => ?_
    refine KF.i ?_ ?_
    · exact KF.s hM
    · refine KF.b fun v3 => ?_
      refine KF.b fun v4 => ?_
      refine KF.b fun v5 => ?_
      refine KF.i ?_ ?_
      · refine KF.b fun v6 => ?_
        refine KF.b fun v7 => ?_
        refine KF.i ?_ KF.n
        refine KF.c (kq_X3_seatInTurn hM) fun r8 h_r8 => ?_
        refine KF.i ?_ KF.n
        refine KF.c (kq_X1_latestInRiver h_r8) fun r10 h_r10 => ?_
        refine KF.i ?_ ?_
        · refine KF.b fun v22 => ?_
          refine KF.i ?_ ?_
          · refine KF.c (kq_X3_completesRow h_r10) fun r23 h_r23 => ?_
            refine KF.i ?_ ?_
            · exact KF.s h_r23
            · exact KF.s h_r23
          · exact KF.s h_r10
        · refine KF.i ?_ ?_
          · refine KF.i ?_ KF.n
            refine KF.c (kq_X1_count h_r10) fun r15 h_r15 => ?_
            refine KF.i ?_ ?_
            · exact KF.s h_r15
            · refine KF.i ?_ KF.n
              refine KF.c (kq_X3_fourAllowed h_r15) fun r17 h_r17 => ?_
              refine KF.i ?_ ?_
              · exact KF.s h_r17
              · exact KF.s h_r17
          · refine KF.i ?_ KF.n
            refine KF.c (kq_X1_count h_r10) fun r12 h_r12 => ?_
            refine KF.i ?_ ?_
            · exact KF.s h_r12
            · exact KF.s h_r12
      · exact KF.s hM
  · exact KF.s hM
theorem kq_X3_mayClaim {M0 : zM} {a0 : Nat} {i1 : Int32} {i2 : Int32} {i3 : Int32} {M : zM} (hM : FQ M0 M) : KF (FQ M0) (f_X3_mayClaim a0 i1 i2 i3 M) := by
  unfold f_X3_mayClaim
  exact (kq_X3_mayClaim_0 hM)
theorem kq_X3_requirePlayer_9 {M0 : zM} {M : zM} (hM : FQ M0 M) : KF (FQ M0) (f_X3_requirePlayer_9 M) := by
  unfold f_X3_requirePlayer_9
  exact KF.s (fq_nE hM)
theorem kq_X3_requirePlayer_0 {M0 : zM} {i0 : Int32} {M : zM} (hM : FQ M0 M) : KF (FQ M0) (f_X3_requirePlayer_0 i0 M) := by
  unfold f_X3_requirePlayer_0
  refine KF.i ?_ ?_
  · exact (kq_X3_requirePlayer_9 hM)
  · refine KF.i ?_ ?_
    · exact KF.s hM
    · exact (kq_X3_requirePlayer_9 hM)
theorem kq_X3_requirePlayer {M0 : zM} {i0 : Int32} {M : zM} (hM : FQ M0 M) : KF (FQ M0) (f_X3_requirePlayer i0 M) := by
  unfold f_X3_requirePlayer
  exact (kq_X3_requirePlayer_0 hM)
theorem kq_X3_claim_13 {M0 : zM} {M : zM} (hM : FQ M0 M) : KF (FQ M0) (f_X3_claim_13 M) := by
  unfold f_X3_claim_13
  exact KF.s (fq_nE hM)
theorem kq_X3_claim_110 {M0 : zM} {a4 : Nat} {M : zM} (hM : FQ M0 M) : KF (FQ M0) (f_X3_claim_110 a4 M) := by
  unfold f_X3_claim_110
  refine KF.b fun v1 => ?_
  exact KF.s hM
theorem kq_X3_claim_97 {M0 : zM} {a0 : Nat} {i2 : Int32} {a4 : Nat} {i_0 : Int32} {i_1 : Int32} {a_2 : Nat} {M : zM} (hM : FQ M0 M) : KF (FQ M0) (f_X3_claim_97 a0 i2 a4 i_0 i_1 a_2 M) := by
  unfold f_X3_claim_97
  refine KF.i ?_ KF.n
  refine KF.c (kq_X1_laySet hM) fun r1 h_r1 => ?_
  refine KF.i ?_ ?_
  · refine KF.i ?_ KF.n
    refine KF.c (kq_X3_drawForFour h_r1) fun r3 h_r3 => ?_
    exact (kq_X3_claim_110 h_r3)
  · exact (kq_X3_claim_110 h_r1)
theorem kq_X3_claim_0 {M0 : zM} {a0 : Nat} {i1 : Int32} {i2 : Int32} {i3 : Int32} {M : zM} (hM : FQ M0 M) : KF (FQ M0) (f_X3_claim_0 a0 i1 i2 i3 M) := by
  unfold f_X3_claim_0
  refine KF.xb (kq_X3_requirePlayer hM) fun w1 Mw1 h_Mw1 => ?_
  refine KF.i ?_ ?_
  · exact (kq_X3_claim_13 h_Mw1)
  · refine KF.i ?_ ?_
    · refine KF.i ?_ KF.n
      refine KF.c (kq_X3_mayClaim h_Mw1) fun r19 h_r19 => ?_
      refine KF.i ?_ ?_
      · exact KF.s (fq_nE h_r19)
      · refine KF.b fun v21 => ?_
        refine KF.b fun v22 => ?_
        refine KF.i ?_ KF.n
        refine KF.c (kq_X3_seatInTurn h_r19) fun r23 h_r23 => ?_
        refine KF.i ?_ KF.n
        refine KF.c (kq_X1_leaveRiver h_r23) fun r25 h_r25 => ?_
        refine KF.w (fq_pI h_r25 rfl) fun M27 h_M27 => ?_
        refine KF.w (fq_pI h_M27 rfl) fun M28 h_M28 => ?_
        refine KF.w (fq_pZ h_M28 rfl) fun M29 h_M29 => ?_
        refine KF.i ?_ KF.n
        refine KF.c (kq_X1_change h_M29) fun r30 h_r30 => ?_
        refine KF.i ?_ ?_
        · exact (kq_X3_claim_97 h_r30)
        · exact (kq_X3_claim_97 h_r30)
    · exact (kq_X3_claim_13 h_Mw1)
theorem kq_X3_claim {M0 : zM} {a0 : Nat} {i1 : Int32} {i2 : Int32} {i3 : Int32} {M : zM} (hM : FQ M0 M) : KF (FQ M0) (f_X3_claim a0 i1 i2 i3 M) := by
  unfold f_X3_claim
  exact (kq_X3_claim_0 hM)
theorem kq_X3_four_37 {M0 : zM} {M : zM} (hM : FQ M0 M) : KF (FQ M0) (f_X3_four_37 M) := by
  unfold f_X3_four_37
  exact KF.s (fq_nE hM)
theorem kq_X3_four_0 {M0 : zM} {a0 : Nat} {i1 : Int32} {M : zM} (hM : FQ M0 M) : KF (FQ M0) (f_X3_four_0 a0 i1 M) := by
  unfold f_X3_four_0
  refine KF.xb (kq_X3_requireKind hM) fun w1 Mw1 h_Mw1 => ?_
  refine KF.i ?_ KF.n
  refine KF.xb (kq_X3_requirePhase h_Mw1) fun w32 Mw32 h_Mw32 => ?_
  refine KF.i ?_ KF.n
  refine KF.c (kq_X3_seatInTurn h_Mw32) fun r48 h_r48 => ?_
  refine KF.b fun v50 => ?_
  refine KF.i ?_ ?_
  · refine KF.i ?_ KF.n
    refine KF.c (kq_X1_count h_r48) fun r51 h_r51 => ?_
    refine KF.i ?_ ?_
    · exact (kq_X3_four_37 h_r51)
    · refine KF.i ?_ KF.n
      refine KF.c (kq_X3_fourAllowed h_r51) fun r53 h_r53 => ?_
      refine KF.i ?_ ?_
      · exact (kq_X3_four_37 h_r53)
      · refine KF.i ?_ KF.n
        refine KF.c (kq_X1_laySet h_r53) fun r55 h_r55 => ?_
        refine KF.i ?_ KF.n
        refine KF.c (kq_X3_drawForFour h_r55) fun r57 h_r57 => ?_
        exact KF.s h_r57
  · exact (kq_X3_four_37 h_r48)
theorem kq_X3_four {M0 : zM} {a0 : Nat} {i1 : Int32} {M : zM} (hM : FQ M0 M) : KF (FQ M0) (f_X3_four a0 i1 M) := by
  unfold f_X3_four
  exact (kq_X3_four_0 hM)
theorem kq_X3_pass_0 {M0 : zM} {a0 : Nat} {M : zM} (hM : FQ M0 M) : KF (FQ M0) (f_X3_pass_0 a0 M) := by
  unfold f_X3_pass_0
  refine KF.i ?_ KF.n
  refine KF.xb (kq_X3_requirePhase hM) fun w1 Mw1 h_Mw1 => ?_
  refine KF.b fun v7 => ?_
  refine KF.w (fq_pI h_Mw1 rfl) fun M8 h_M8 => ?_
  refine KF.w (fq_pI h_M8 rfl) fun M9 h_M9 => ?_
  refine KF.b fun v10 => ?_
  exact KF.s h_M9
theorem kq_X3_pass {M0 : zM} {a0 : Nat} {M : zM} (hM : FQ M0 M) : KF (FQ M0) (f_X3_pass a0 M) := by
  unfold f_X3_pass
  exact (kq_X3_pass_0 hM)
theorem kq_X3_windOf_0 {M0 : zM} {a0 : Nat} {i1 : Int32} {M : zM} (hM : FQ M0 M) : KF (FQ M0) (f_X3_windOf_0 a0 i1 M) := by
  unfold f_X3_windOf_0
  refine KF.b fun v1 => ?_
  refine KF.i ?_ ?_
  · exact KF.s hM
  · refine KF.b fun v2 => ?_
    exact KF.s hM
theorem kq_X3_windOf {M0 : zM} {a0 : Nat} {i1 : Int32} {M : zM} (hM : FQ M0 M) : KF (FQ M0) (f_X3_windOf a0 i1 M) := by
  unfold f_X3_windOf
  exact (kq_X3_windOf_0 hM)
theorem kq_X3_winsAlone_0 {M0 : zM} {a0 : Nat} {i1 : Int32} {M : zM} (hM : FQ M0 M) : KF (FQ M0) (f_X3_winsAlone_0 a0 i1 M) := by
  unfold f_X3_winsAlone_0
  refine KF.b fun v1 => ?_
  refine KF.b fun v2 => ?_
  refine KF.b fun v3 => ?_
  refine KF.i ?_ ?_
  · refine KF.b fun v4 => ?_
    refine KF.i ?_ ?_
    · exact KF.s hM
    · refine KF.i ?_ KF.n
      refine KF.c (kq_X1_size hM) fun r5 h_r5 => ?_
      refine KF.i ?_ ?_
      · refine KF.b fun v7 => ?_
        refine KF.b fun v8 => ?_
        refine KF.i ?_ KF.n
        refine KF.c (kq_X0_complete h_r5) fun r9 h_r9 => ?_
        refine KF.i ?_ ?_
        · exact KF.s h_r9
        · exact KF.s h_r9
      · exact KF.s h_r5
  · exact KF.s hM
theorem kq_X3_winsAlone {M0 : zM} {a0 : Nat} {i1 : Int32} {M : zM} (hM : FQ M0 M) : KF (FQ M0) (f_X3_winsAlone a0 i1 M) := by
  unfold f_X3_winsAlone
  exact (kq_X3_winsAlone_0 hM)
theorem kq_X3_winsByDiscard_0 {M0 : zM} {a0 : Nat} {i1 : Int32} {M : zM} (hM : FQ M0 M) : KF (FQ M0) (f_X3_winsByDiscard_0 a0 i1 M) := by
  unfold f_X3_winsByDiscard_0
  refine KF.b fun v1 => ?_
  refine KF.i ?_ ?_
  · refine KF.b fun v2 => ?_
    refine KF.i ?_ ?_
    · exact KF.s hM
    · refine KF.b fun v3 => ?_
      refine KF.b fun v4 => ?_
      refine KF.i ?_ KF.n
      refine KF.c (kq_X3_waitsOf hM) fun r5 h_r5 => ?_
      refine KF.i ?_ KF.n
      refine KF.c (kq_X3_seatInTurn h_r5) fun r7 h_r7 => ?_
      refine KF.i ?_ KF.n
      refine KF.c (kq_X1_latestInRiver h_r7) fun r9 h_r9 => ?_
      refine KF.i ?_ ?_
      · exact KF.s h_r9
      · refine KF.i ?_ ?_
        · refine KF.b fun v11 => ?_
          refine KF.i ?_ ?_
          · exact KF.s h_r9
          · exact KF.s h_r9
        · exact KF.s h_r9
  · exact KF.s hM
theorem kq_X3_winsByDiscard {M0 : zM} {a0 : Nat} {i1 : Int32} {M : zM} (hM : FQ M0 M) : KF (FQ M0) (f_X3_winsByDiscard a0 i1 M) := by
  unfold f_X3_winsByDiscard
  exact (kq_X3_winsByDiscard_0 hM)
theorem kq_X3_has_0 {M0 : zM} {a0 : Nat} {i1 : Int32} {i2 : Int32} {M : zM} (hM : FQ M0 M) : KF (FQ M0) (f_X3_has_0 a0 i1 i2 M) := by
  unfold f_X3_has_0
  refine KF.xb (kq_X3_requirePlayer hM) fun w1 Mw1 h_Mw1 => ?_
  refine KF.xb (kq_X3_requireKind h_Mw1) fun w11 Mw11 h_Mw11 => ?_
  refine KF.b fun v16 => ?_
  refine KF.b fun v17 => ?_
  refine KF.i ?_ KF.n
  refine KF.c (kq_X1_count h_Mw11) fun r18 h_r18 => ?_
  exact KF.s h_r18
theorem kq_X3_has {M0 : zM} {a0 : Nat} {i1 : Int32} {i2 : Int32} {M : zM} (hM : FQ M0 M) : KF (FQ M0) (f_X3_has a0 i1 i2 M) := by
  unfold f_X3_has
  exact (kq_X3_has_0 hM)
theorem kq_X3_ofPlayer_0 {M0 : zM} {a0 : Nat} {i1 : Int32} {i2 : Int32} {M : zM} (hM : FQ M0 M) : KF (FQ M0) (f_X3_ofPlayer_0 a0 i1 i2 M) := by
  unfold f_X3_ofPlayer_0
  refine KF.xb (kq_X3_requirePlayer hM) fun w1 Mw1 h_Mw1 => ?_
  refine KF.b fun v35 => ?_
  refine KF.b fun v36 => ?_
  refine KF.i ?_ ?_
  · refine KF.b fun v67 => ?_
    exact KF.s h_Mw1
  · refine KF.i ?_ ?_
    · refine KF.b fun v66 => ?_
      exact KF.s h_Mw1
    · refine KF.i ?_ ?_
      · refine KF.i ?_ KF.n
        refine KF.c (kq_X1_openSets h_Mw1) fun r64 h_r64 => ?_
        exact KF.s h_r64
      · refine KF.i ?_ ?_
        · refine KF.i ?_ KF.n
          refine KF.c (kq_X1_inHand h_Mw1) fun r62 h_r62 => ?_
          exact KF.s h_r62
        · refine KF.i ?_ ?_
          · refine KF.b fun v61 => ?_
            exact KF.s h_Mw1
          · refine KF.i ?_ ?_
            · refine KF.b fun v59 => ?_
              refine KF.i ?_ ?_
              · exact KF.s h_Mw1
              · exact KF.s h_Mw1
            · refine KF.i ?_ ?_
              · refine KF.b fun v54 => ?_
                refine KF.b fun v55 => ?_
                refine KF.b fun v56 => ?_
                refine KF.i ?_ KF.n
                refine KF.c (kq_X0_far h_Mw1) fun r57 h_r57 => ?_
                exact KF.s h_r57
              · refine KF.i ?_ ?_
                · refine KF.i ?_ KF.n
                  refine KF.c (kq_X3_windOf h_Mw1) fun r52 h_r52 => ?_
                  exact KF.s h_r52
                · refine KF.i ?_ ?_
                  · refine KF.b fun v51 => ?_
                    exact KF.s h_Mw1
                  · refine KF.i ?_ ?_
                    · refine KF.i ?_ KF.n
                      refine KF.c (kq_X3_waitsOf h_Mw1) fun r47 h_r47 => ?_
                      refine KF.b fun v49 => ?_
                      refine KF.i ?_ ?_
                      · exact KF.s h_r47
                      · exact KF.s h_r47
                    · exact KF.s (fq_nE h_Mw1)
theorem kq_X3_ofPlayer {M0 : zM} {a0 : Nat} {i1 : Int32} {i2 : Int32} {M : zM} (hM : FQ M0 M) : KF (FQ M0) (f_X3_ofPlayer a0 i1 i2 M) := by
  unfold f_X3_ofPlayer
  exact (kq_X3_ofPlayer_0 hM)
theorem kq_X3_ofSet_28 {M0 : zM} {M : zM} (hM : FQ M0 M) : KF (FQ M0) (f_X3_ofSet_28 M) := by
  unfold f_X3_ofSet_28
  exact KF.s (fq_nE hM)
theorem kq_X3_ofSet_0 {M0 : zM} {a0 : Nat} {i1 : Int32} {i2 : Int32} {M : zM} (hM : FQ M0 M) : KF (FQ M0) (f_X3_ofSet_0 a0 i1 i2 M) := by
  unfold f_X3_ofSet_0
  refine KF.xb (kq_X3_requirePlayer hM) fun w1 Mw1 h_Mw1 => ?_
  refine KF.b fun v10 => ?_
  refine KF.b fun v11 => ?_
  refine KF.i ?_ ?_
  · exact (kq_X3_ofSet_28 h_Mw1)
  · refine KF.b fun v12 => ?_
    refine KF.i ?_ ?_
    · exact (kq_X3_ofSet_28 h_Mw1)
    · refine KF.i ?_ ?_
      · refine KF.b fun v13 => ?_
        refine KF.b fun v14 => ?_
        exact KF.s h_Mw1
      · exact (kq_X3_ofSet_28 h_Mw1)
theorem kq_X3_ofSet {M0 : zM} {a0 : Nat} {i1 : Int32} {i2 : Int32} {M : zM} (hM : FQ M0 M) : KF (FQ M0) (f_X3_ofSet a0 i1 i2 M) := by
  unfold f_X3_ofSet
  exact (kq_X3_ofSet_0 hM)
theorem kq_X3_river_29 {M0 : zM} {M : zM} (hM : FQ M0 M) : KF (FQ M0) (f_X3_river_29 M) := by
  unfold f_X3_river_29
  exact KF.s (fq_nE hM)
theorem kq_X3_river_0 {M0 : zM} {a0 : Nat} {i1 : Int32} {i2 : Int32} {M : zM} (hM : FQ M0 M) : KF (FQ M0) (f_X3_river_0 a0 i1 i2 M) := by
  unfold f_X3_river_0
  refine KF.xb (kq_X3_requirePlayer hM) fun w1 Mw1 h_Mw1 => ?_
  refine KF.b fun v10 => ?_
  refine KF.b fun v11 => ?_
  refine KF.i ?_ ?_
  · exact (kq_X3_river_29 h_Mw1)
  · refine KF.b fun v12 => ?_
    refine KF.i ?_ ?_
    · exact (kq_X3_river_29 h_Mw1)
    · refine KF.i ?_ ?_
      · refine KF.b fun v13 => ?_
        refine KF.b fun v14 => ?_
        exact KF.s h_Mw1
      · exact (kq_X3_river_29 h_Mw1)
theorem kq_X3_river {M0 : zM} {a0 : Nat} {i1 : Int32} {i2 : Int32} {M : zM} (hM : FQ M0 M) : KF (FQ M0) (f_X3_river a0 i1 i2 M) := by
  unfold f_X3_river
  exact (kq_X3_river_0 hM)
theorem kq_X3_waits_0 {M0 : zM} {a0 : Nat} {i1 : Int32} {M : zM} (hM : FQ M0 M) : KF (FQ M0) (f_X3_waits_0 a0 i1 M) := by
  unfold f_X3_waits_0
  refine KF.xb (kq_X3_requirePlayer hM) fun w1 Mw1 h_Mw1 => ?_
  refine KF.b fun v6 => ?_
  refine KF.b fun v7 => ?_
  refine KF.i ?_ KF.n
  refine KF.c (kq_X3_waitsOf h_Mw1) fun r8 h_r8 => ?_
  exact KF.s h_r8
theorem kq_X3_waits {M0 : zM} {a0 : Nat} {i1 : Int32} {M : zM} (hM : FQ M0 M) : KF (FQ M0) (f_X3_waits a0 i1 M) := by
  unfold f_X3_waits
  exact (kq_X3_waits_0 hM)
theorem kq_X3_seen_8 {M0 : zM} : ∀ (n : Nat) {a0 : Nat} {i1 : Int32} {i2 : Int32} {i3 : Int32} {M : zM}, FQ M0 M → KF (FQ M0) (f_X3_seen_8 n a0 i1 i2 i3 M) := by
  intro n
  induction n with
  | zero => exact fun _ => KF.n
  | succ n ih =>
    intro a0 i1 i2 i3 M hM
    rw [f_X3_seen_8]
    refine KF.i ?_ ?_
    · exact KF.s hM
    · refine KF.b fun v1 => ?_
      refine KF.b fun v2 => ?_
      refine KF.i ?_ KF.n
      refine KF.c (kq_X1_lying hM) fun r3 h_r3 => ?_
      exact (ih h_r3)
theorem kq_X3_seen_0 {M0 : zM} {a0 : Nat} {i1 : Int32} {M : zM} (hM : FQ M0 M) : KF (FQ M0) (f_X3_seen_0 a0 i1 M) := by
  unfold f_X3_seen_0
  refine KF.xb (kq_X3_requireKind hM) fun w1 Mw1 h_Mw1 => ?_
  exact (kq_X3_seen_8 zN h_Mw1)
theorem kq_X3_seen {M0 : zM} {a0 : Nat} {i1 : Int32} {M : zM} (hM : FQ M0 M) : KF (FQ M0) (f_X3_seen a0 i1 M) := by
  unfold f_X3_seen
  exact (kq_X3_seen_0 hM)
theorem kq_J5_init_d00df_0 {M0 : zM} {a0 : Nat} {i1 : Int32} {M : zM} (hM : FQ M0 M) : KF (FQ M0) (f_J5_init_d00df_0 a0 i1 M) := by
  unfold f_J5_init_d00df_0
  refine KF.i ?_ ?_
  · exact KF.n
  · refine KF.c (fq_aA hM) fun r1 h_r1 => ?_
    refine KF.w (fq_pR h_r1 rfl) fun M2 h_M2 => ?_
    refine KF.w (fq_pZ h_M2 rfl) fun M3 h_M3 => ?_
    exact KF.s h_M3
theorem kq_J5_init_d00df {M0 : zM} {a0 : Nat} {i1 : Int32} {M : zM} (hM : FQ M0 M) : KF (FQ M0) (f_J5_init_d00df a0 i1 M) := by
  unfold f_J5_init_d00df
  exact (kq_J5_init_d00df_0 hM)
theorem kq_J4_init_da8c8_0 {M0 : zM} {a0 : Nat} {M : zM} (hM : FQ M0 M) : KF (FQ M0) (f_J4_init_da8c8_0 a0 M) := by
  unfold f_J4_init_da8c8_0
  refine KF.c (kq_J5_init_d00df hM) fun r1 h_r1 => ?_
  exact KF.s h_r1
theorem kq_J4_init_da8c8 {M0 : zM} {a0 : Nat} {M : zM} (hM : FQ M0 M) : KF (FQ M0) (f_J4_init_da8c8 a0 M) := by
  unfold f_J4_init_da8c8
  exact (kq_J4_init_da8c8_0 hM)
theorem kq_J5_length_8abf5_0 {M0 : zM} {a0 : Nat} {M : zM} (hM : FQ M0 M) : KF (FQ M0) (f_J5_length_8abf5_0 a0 M) := by
  unfold f_J5_length_8abf5_0
  refine KF.b fun v1 => ?_
  exact KF.s hM
theorem kq_J5_length_8abf5 {M0 : zM} {a0 : Nat} {M : zM} (hM : FQ M0 M) : KF (FQ M0) (f_J5_length_8abf5 a0 M) := by
  unfold f_J5_length_8abf5
  exact (kq_J5_length_8abf5_0 hM)
theorem kq_J4_length_8abf5_0 {M0 : zM} {a0 : Nat} {M : zM} (hM : FQ M0 M) : KF (FQ M0) (f_J4_length_8abf5_0 a0 M) := by
  unfold f_J4_length_8abf5_0
  refine KF.i ?_ KF.n
  refine KF.c (kq_J5_length_8abf5 hM) fun r1 h_r1 => ?_
  exact KF.s h_r1
theorem kq_J4_length_8abf5 {M0 : zM} {a0 : Nat} {M : zM} (hM : FQ M0 M) : KF (FQ M0) (f_J4_length_8abf5 a0 M) := by
  unfold f_J4_length_8abf5
  exact (kq_J4_length_8abf5_0 hM)
theorem kq_J5_getValue_6d5f1_0 {M0 : zM} {a0 : Nat} {M : zM} (hM : FQ M0 M) : KF (FQ M0) (f_J5_getValue_6d5f1_0 a0 M) := by
  unfold f_J5_getValue_6d5f1_0
  refine KF.b fun v1 => ?_
  exact KF.s hM
theorem kq_J5_getValue_6d5f1 {M0 : zM} {a0 : Nat} {M : zM} (hM : FQ M0 M) : KF (FQ M0) (f_J5_getValue_6d5f1 a0 M) := by
  unfold f_J5_getValue_6d5f1
  exact (kq_J5_getValue_6d5f1_0 hM)
theorem kq_J5_isLatin1_aae02_0 {M0 : zM} {a0 : Nat} {M : zM} (hM : FQ M0 M) : KF (FQ M0) (f_J5_isLatin1_aae02_0 a0 M) := by
  unfold f_J5_isLatin1_aae02_0
  refine KF.i ?_ ?_
  · exact KF.s hM
  · refine KF.b fun v1 => ?_
    refine KF.i ?_ ?_
    · exact KF.s hM
    · exact KF.s hM
theorem kq_J5_isLatin1_aae02 {M0 : zM} {a0 : Nat} {M : zM} (hM : FQ M0 M) : KF (FQ M0) (f_J5_isLatin1_aae02 a0 M) := by
  unfold f_J5_isLatin1_aae02
  exact (kq_J5_isLatin1_aae02_0 hM)
theorem kq_J0_coder_7d493_0 {M0 : zM} {a0 : Nat} {M : zM} (hM : FQ M0 M) : KF (FQ M0) (f_J0_coder_7d493_0 a0 M) := by
  unfold f_J0_coder_7d493_0
  refine KF.i ?_ ?_
  · exact KF.s hM
  · refine KF.b fun v1 => ?_
    refine KF.i ?_ KF.n
    exact KF.s hM
theorem kq_J0_coder_7d493 {M0 : zM} {a0 : Nat} {M : zM} (hM : FQ M0 M) : KF (FQ M0) (f_J0_coder_7d493 a0 M) := by
  unfold f_J0_coder_7d493
  exact (kq_J0_coder_7d493_0 hM)
theorem kq_J0_length_8abf5_0 {M0 : zM} {a0 : Nat} {M : zM} (hM : FQ M0 M) : KF (FQ M0) (f_J0_length_8abf5_0 a0 M) := by
  unfold f_J0_length_8abf5_0
  refine KF.b fun v1 => ?_
  refine KF.b fun v2 => ?_
  refine KF.i ?_ KF.n
  refine KF.c (kq_J0_coder_7d493 hM) fun r3 h_r3 => ?_
  exact KF.s h_r3
theorem kq_J0_length_8abf5 {M0 : zM} {a0 : Nat} {M : zM} (hM : FQ M0 M) : KF (FQ M0) (f_J0_length_8abf5 a0 M) := by
  unfold f_J0_length_8abf5
  exact (kq_J0_length_8abf5_0 hM)
theorem kq_J8_newLength_cabcc_21 {M0 : zM} {i0 : Int32} {i1 : Int32} {M : zM} (hM : FQ M0 M) : KF (FQ M0) (f_J8_newLength_cabcc_21 i0 i1 M) := by
  unfold f_J8_newLength_cabcc_21
  exact KF.n
theorem kq_J8_newLength_cabcc_0 {M0 : zM} {i0 : Int32} {i1 : Int32} {i2 : Int32} {M : zM} (hM : FQ M0 M) : KF (FQ M0) (f_J8_newLength_cabcc_0 i0 i1 i2 M) := by
  unfold f_J8_newLength_cabcc_0
  refine KF.c (kq_J9_max_7cf53 hM) fun r1 h_r1 => ?_
  refine KF.i ?_ ?_
  · exact (kq_J8_newLength_cabcc_21 h_r1)
  · refine KF.i ?_ ?_
    · exact (kq_J8_newLength_cabcc_21 h_r1)
    · exact KF.s h_r1
theorem kq_J8_newLength_cabcc {M0 : zM} {i0 : Int32} {i1 : Int32} {i2 : Int32} {M : zM} (hM : FQ M0 M) : KF (FQ M0) (f_J8_newLength_cabcc i0 i1 i2 M) := by
  unfold f_J8_newLength_cabcc
  exact (kq_J8_newLength_cabcc_0 hM)
theorem kq_J5_newCapacity_0f7a4_0 {M0 : zM} {a0 : Nat} {i1 : Int32} {M : zM} (hM : FQ M0 M) : KF (FQ M0) (f_J5_newCapacity_0f7a4_0 a0 i1 M) := by
  unfold f_J5_newCapacity_0f7a4_0
  refine KF.b fun v1 => ?_
  refine KF.b fun v2 => ?_
  refine KF.b fun v3 => ?_
  refine KF.b fun v4 => ?_
  refine KF.c (kq_J8_newLength_cabcc hM) fun r5 h_r5 => ?_
  refine KF.i ?_ ?_
  · exact KF.n
  · refine KF.b fun v6 => ?_
    exact KF.s h_r5
theorem kq_J5_newCapacity_0f7a4 {M0 : zM} {a0 : Nat} {i1 : Int32} {M : zM} (hM : FQ M0 M) : KF (FQ M0) (f_J5_newCapacity_0f7a4 a0 i1 M) := by
  unfold f_J5_newCapacity_0f7a4
  exact (kq_J5_newCapacity_0f7a4_0 hM)
theorem kq_J7_copyOf_9075b_0 {M0 : zM} {a0 : Nat} {i1 : Int32} {M : zM} (hM : FQ M0 M) : KF (FQ M0) (f_J7_copyOf_9075b_0 a0 i1 M) := by
  unfold f_J7_copyOf_9075b_0
  refine KF.b fun v1 => ?_
  refine KF.i ?_ ?_
  · refine KF.c (fq_aC hM) fun r6 h_r6 => ?_
    refine KF.i ?_ KF.n
    exact KF.s h_r6
  · refine KF.c (fq_aA hM) fun r2 h_r2 => ?_
    refine KF.b fun v3 => ?_
    refine KF.c (kq_J9_min_7cf53 h_r2) fun r4 h_r4 => ?_
    refine KF.w (fq_yI h_r4) fun M5 h_M5 => ?_
    exact KF.s h_M5
theorem kq_J7_copyOf_9075b {M0 : zM} {a0 : Nat} {i1 : Int32} {M : zM} (hM : FQ M0 M) : KF (FQ M0) (f_J7_copyOf_9075b a0 i1 M) := by
  unfold f_J7_copyOf_9075b
  exact (kq_J7_copyOf_9075b_0 hM)
theorem kq_J5_ensureCapacityInternal_d00df_0 {M0 : zM} {a0 : Nat} {i1 : Int32} {M : zM} (hM : FQ M0 M) : KF (FQ M0) (f_J5_ensureCapacityInternal_d00df_0 a0 i1 M) := by
  unfold f_J5_ensureCapacityInternal_d00df_0
  refine KF.b fun v1 => ?_
  refine KF.b fun v2 => ?_
  refine KF.b fun v3 => ?_
  refine KF.i ?_ ?_
  · exact KF.s hM
  · refine KF.b fun v4 => ?_
    refine KF.i ?_ KF.n
    refine KF.c (kq_J5_newCapacity_0f7a4 hM) fun r5 h_r5 => ?_
    refine KF.b fun v7 => ?_
    refine KF.c (kq_J7_copyOf_9075b h_r5) fun r8 h_r8 => ?_
    refine KF.w (fq_pR h_r8 rfl) fun M9 h_M9 => ?_
    exact KF.s h_M9
theorem kq_J5_ensureCapacityInternal_d00df {M0 : zM} {a0 : Nat} {i1 : Int32} {M : zM} (hM : FQ M0 M) : KF (FQ M0) (f_J5_ensureCapacityInternal_d00df a0 i1 M) := by
  unfold f_J5_ensureCapacityInternal_d00df
  exact (kq_J5_ensureCapacityInternal_d00df_0 hM)
theorem kq_J6_getChars_ba4f3_104 {M0 : zM} {a2 : Nat} {i5 : Int32} {i6 : Int32} {M : zM} (hM : FQ M0 M) : KF (FQ M0) (f_J6_getChars_ba4f3_104 a2 i5 i6 M) := by
  unfold f_J6_getChars_ba4f3_104
  refine KF.i ?_ ?_
  · exact KF.s hM
  · refine KF.w (fq_tB hM) fun M1 h_M1 => ?_
    exact KF.s h_M1
theorem kq_J6_getChars_ba4f3_22 {M0 : zM} : ∀ (n : Nat) {i0 : Int32} {a2 : Nat} {i5 : Int32} {i6 : Int32} {M : zM}, FQ M0 M → KF (FQ M0) (f_J6_getChars_ba4f3_22 n i0 a2 i5 i6 M) := by
  intro n
  induction n with
  | zero => exact fun _ => KF.n
  | succ n ih =>
    intro i0 a2 i5 i6 M hM
    rw [f_J6_getChars_ba4f3_22]
    refine KF.i ?_ ?_
    · refine KF.b fun v1 => ?_
      refine KF.w (fq_tB hM) fun M2 h_M2 => ?_
      refine KF.i ?_ ?_
      · exact (kq_J6_getChars_ba4f3_104 h_M2)
      · refine KF.b fun v3 => ?_
        refine KF.w (fq_tB h_M2) fun M4 h_M4 => ?_
        exact (kq_J6_getChars_ba4f3_104 h_M4)
    · refine KF.b fun v6 => ?_
      refine KF.w (fq_tB hM) fun M7 h_M7 => ?_
      refine KF.b fun v8 => ?_
      refine KF.w (fq_tB h_M7) fun M9 h_M9 => ?_
      exact (ih h_M9)
theorem kq_J6_getChars_ba4f3_12 {M0 : zM} {i0 : Int32} {a2 : Nat} {i5 : Int32} {i_0 : Int32} {M : zM} (hM : FQ M0 M) : KF (FQ M0) (f_J6_getChars_ba4f3_12 i0 a2 i5 i_0 M) := by
  unfold f_J6_getChars_ba4f3_12
  refine KF.i ?_ ?_
  · exact (kq_J6_getChars_ba4f3_22 zN hM)
  · exact (kq_J6_getChars_ba4f3_22 zN hM)
theorem kq_J6_getChars_ba4f3_0 {M0 : zM} {i0 : Int32} {i1 : Int32} {a2 : Nat} {M : zM} (hM : FQ M0 M) : KF (FQ M0) (f_J6_getChars_ba4f3_0 i0 i1 a2 M) := by
  unfold f_J6_getChars_ba4f3_0
  refine KF.i ?_ ?_
  · exact (kq_J6_getChars_ba4f3_12 hM)
  · exact (kq_J6_getChars_ba4f3_12 hM)
theorem kq_J6_getChars_ba4f3 {M0 : zM} {i0 : Int32} {i1 : Int32} {a2 : Nat} {M : zM} (hM : FQ M0 M) : KF (FQ M0) (f_J6_getChars_ba4f3 i0 i1 a2 M) := by
  unfold f_J6_getChars_ba4f3
  exact (kq_J6_getChars_ba4f3_0 hM)
theorem kq_J6_stringSize_0f7a4_16 {M0 : zM} : ∀ (n : Nat) {i0 : Int32} {i1 : Int32} {i2 : Int32} {i3 : Int32} {M : zM}, FQ M0 M → KF (FQ M0) (f_J6_stringSize_0f7a4_16 n i0 i1 i2 i3 M) := by
  intro n
  induction n with
  | zero => exact fun _ => KF.n
  | succ n ih =>
    intro i0 i1 i2 i3 M hM
    rw [f_J6_stringSize_0f7a4_16]
    refine KF.i ?_ ?_
    · exact KF.s hM
    · refine KF.i ?_ ?_
      · exact (ih hM)
      · exact KF.s hM
theorem kq_J6_stringSize_0f7a4_11 {M0 : zM} {i0 : Int32} {i1 : Int32} {M : zM} (hM : FQ M0 M) : KF (FQ M0) (f_J6_stringSize_0f7a4_11 i0 i1 M) := by
  unfold f_J6_stringSize_0f7a4_11
  exact (kq_J6_stringSize_0f7a4_16 zN hM)
theorem kq_J6_stringSize_0f7a4_0 {M0 : zM} {i0 : Int32} {M : zM} (hM : FQ M0 M) : KF (FQ M0) (f_J6_stringSize_0f7a4_0 i0 M) := by
  unfold f_J6_stringSize_0f7a4_0
  refine KF.i ?_ ?_
  · exact (kq_J6_stringSize_0f7a4_11 hM)
  · exact (kq_J6_stringSize_0f7a4_11 hM)
theorem kq_J6_stringSize_0f7a4 {M0 : zM} {i0 : Int32} {M : zM} (hM : FQ M0 M) : KF (FQ M0) (f_J6_stringSize_0f7a4 i0 M) := by
  unfold f_J6_stringSize_0f7a4
  exact (kq_J6_stringSize_0f7a4_0 hM)
theorem kq_J5_append_c97b9_48 {M0 : zM} {a0 : Nat} {i3 : Int32} {M : zM} (hM : FQ M0 M) : KF (FQ M0) (f_J5_append_c97b9_48 a0 i3 M) := by
  unfold f_J5_append_c97b9_48
  refine KF.w (fq_pI hM rfl) fun M1 h_M1 => ?_
  exact KF.s h_M1
theorem kq_J5_append_c97b9_0 {M0 : zM} {a0 : Nat} {i1 : Int32} {M : zM} (hM : FQ M0 M) : KF (FQ M0) (f_J5_append_c97b9_0 a0 i1 M) := by
  unfold f_J5_append_c97b9_0
  refine KF.b fun v1 => ?_
  refine KF.c (kq_J6_stringSize_0f7a4 hM) fun r2 h_r2 => ?_
  refine KF.i ?_ KF.n
  refine KF.c (kq_J5_ensureCapacityInternal_d00df h_r2) fun r3 h_r3 => ?_
  refine KF.i ?_ KF.n
  refine KF.c (kq_J5_isLatin1_aae02 h_r3) fun r5 h_r5 => ?_
  refine KF.i ?_ ?_
  · refine KF.b fun v7 => ?_
    exact KF.n
  · refine KF.b fun v8 => ?_
    refine KF.c (kq_J6_getChars_ba4f3 h_r5) fun r9 h_r9 => ?_
    exact (kq_J5_append_c97b9_48 h_r9)
theorem kq_J5_append_c97b9 {M0 : zM} {a0 : Nat} {i1 : Int32} {M : zM} (hM : FQ M0 M) : KF (FQ M0) (f_J5_append_c97b9 a0 i1 M) := by
  unfold f_J5_append_c97b9
  exact (kq_J5_append_c97b9_0 hM)
theorem kq_J4_append_bf812_0 {M0 : zM} {a0 : Nat} {i1 : Int32} {M : zM} (hM : FQ M0 M) : KF (FQ M0) (f_J4_append_bf812_0 a0 i1 M) := by
  unfold f_J4_append_bf812_0
  refine KF.i ?_ KF.n
  refine KF.c (kq_J5_append_c97b9 hM) fun r1 h_r1 => ?_
  exact KF.s h_r1
theorem kq_J4_append_bf812 {M0 : zM} {a0 : Nat} {i1 : Int32} {M : zM} (hM : FQ M0 M) : KF (FQ M0) (f_J4_append_bf812 a0 i1 M) := by
  unfold f_J4_append_bf812
  exact (kq_J4_append_bf812_0 hM)
theorem kq_J7_checkLength_df160_0 {M0 : zM} {i0 : Int32} {i1 : Int32} {M : zM} (hM : FQ M0 M) : KF (FQ M0) (f_J7_checkLength_df160_0 i0 i1 M) := by
  unfold f_J7_checkLength_df160_0
  refine KF.i ?_ KF.n
  exact KF.s hM
theorem kq_J7_checkLength_df160 {M0 : zM} {i0 : Int32} {i1 : Int32} {M : zM} (hM : FQ M0 M) : KF (FQ M0) (f_J7_checkLength_df160 i0 i1 M) := by
  unfold f_J7_checkLength_df160
  exact (kq_J7_checkLength_df160_0 hM)
theorem kq_J7_copyOfRangeByte_39247_0 {M0 : zM} {a0 : Nat} {i1 : Int32} {i2 : Int32} {M : zM} (hM : FQ M0 M) : KF (FQ M0) (f_J7_copyOfRangeByte_39247_0 a0 i1 i2 M) := by
  unfold f_J7_copyOfRangeByte_39247_0
  refine KF.c (kq_J7_checkLength_df160 hM) fun r1 h_r1 => ?_
  refine KF.c (fq_aA h_r1) fun r2 h_r2 => ?_
  refine KF.b fun v3 => ?_
  refine KF.c (kq_J9_min_7cf53 h_r2) fun r4 h_r4 => ?_
  refine KF.w (fq_yI h_r4) fun M5 h_M5 => ?_
  exact KF.s h_M5
theorem kq_J7_copyOfRangeByte_39247 {M0 : zM} {a0 : Nat} {i1 : Int32} {i2 : Int32} {M : zM} (hM : FQ M0 M) : KF (FQ M0) (f_J7_copyOfRangeByte_39247 a0 i1 i2 M) := by
  unfold f_J7_copyOfRangeByte_39247
  exact (kq_J7_copyOfRangeByte_39247_0 hM)
theorem kq_J7_copyOfRange_39247_10 {M0 : zM} {a0 : Nat} {i1 : Int32} {i2 : Int32} {M : zM} (hM : FQ M0 M) : KF (FQ M0) (f_J7_copyOfRange_39247_10 a0 i1 i2 M) := by
  unfold f_J7_copyOfRange_39247_10
  refine KF.c (kq_J7_copyOfRangeByte_39247 hM) fun r1 h_r1 => ?_
  exact KF.s h_r1
theorem kq_J7_copyOfRange_39247_0 {M0 : zM} {a0 : Nat} {i1 : Int32} {i2 : Int32} {M : zM} (hM : FQ M0 M) : KF (FQ M0) (f_J7_copyOfRange_39247_0 a0 i1 i2 M) := by
  unfold f_J7_copyOfRange_39247_0
  refine KF.i ?_ ?_
  · refine KF.b fun v1 => ?_
    refine KF.i ?_ ?_
    · refine KF.c (fq_aC hM) fun r2 h_r2 => ?_
      refine KF.i ?_ KF.n
      exact KF.s h_r2
    · exact (kq_J7_copyOfRange_39247_10 hM)
  · exact (kq_J7_copyOfRange_39247_10 hM)
theorem kq_J7_copyOfRange_39247 {M0 : zM} {a0 : Nat} {i1 : Int32} {i2 : Int32} {M : zM} (hM : FQ M0 M) : KF (FQ M0) (f_J7_copyOfRange_39247 a0 i1 i2 M) := by
  unfold f_J7_copyOfRange_39247
  exact (kq_J7_copyOfRange_39247_0 hM)
theorem kq_J0_init_db425_79 {M0 : zM} {a0 : Nat} {a3 : Nat} {i4 : Int32} {M : zM} (hM : FQ M0 M) : KF (FQ M0) (f_J0_init_db425_79 a0 a3 i4 M) := by
  unfold f_J0_init_db425_79
  refine KF.w (fq_pZ hM rfl) fun M1 h_M1 => ?_
  refine KF.c (kq_J7_copyOfRange_39247 h_M1) fun r2 h_r2 => ?_
  refine KF.w (fq_pR h_r2 rfl) fun M3 h_M3 => ?_
  exact KF.s h_M3
theorem kq_J0_init_db425_0 {M0 : zM} {a0 : Nat} {a1 : Nat} {M : zM} (hM : FQ M0 M) : KF (FQ M0) (f_J0_init_db425_0 a0 a1 M) := by
  unfold f_J0_init_db425_0
  refine KF.i ?_ KF.n
  refine KF.c (kq_J5_getValue_6d5f1 hM) fun r1 h_r1 => ?_
  refine KF.i ?_ KF.n
  refine KF.c (kq_J4_length_8abf5 h_r1) fun r3 h_r3 => ?_
  refine KF.i ?_ KF.n
  refine KF.c (kq_J5_isLatin1_aae02 h_r3) fun r5 h_r5 => ?_
  refine KF.i ?_ ?_
  · refine KF.i ?_ ?_
    · exact (kq_J0_init_db425_79 h_r5)
    · refine KF.b fun v7 => ?_
      refine KF.i ?_ KF.n
      exact (kq_J0_init_db425_79 h_r5)
  · refine KF.w (fq_pZ h_r5 rfl) fun M10 h_M10 => ?_
    refine KF.c (kq_J7_copyOfRange_39247 h_M10) fun r11 h_r11 => ?_
    refine KF.w (fq_pR h_r11 rfl) fun M12 h_M12 => ?_
    exact KF.s h_M12
theorem kq_J0_init_db425 {M0 : zM} {a0 : Nat} {a1 : Nat} {M : zM} (hM : FQ M0 M) : KF (FQ M0) (f_J0_init_db425 a0 a1 M) := by
  unfold f_J0_init_db425
  exact (kq_J0_init_db425_0 hM)
theorem kq_J0_init_81219_0 {M0 : zM} {a0 : Nat} {a1 : Nat} {M : zM} (hM : FQ M0 M) : KF (FQ M0) (f_J0_init_81219_0 a0 a1 M) := by
  unfold f_J0_init_81219_0
  refine KF.c (kq_J0_init_db425 hM) fun r1 h_r1 => ?_
  exact KF.s h_r1
theorem kq_J0_init_81219 {M0 : zM} {a0 : Nat} {a1 : Nat} {M : zM} (hM : FQ M0 M) : KF (FQ M0) (f_J0_init_81219 a0 a1 M) := by
  unfold f_J0_init_81219
  exact (kq_J0_init_81219_0 hM)
theorem kq_J4_toString_0e30d_0 {M0 : zM} {a0 : Nat} {M : zM} (hM : FQ M0 M) : KF (FQ M0) (f_J4_toString_0e30d_0 a0 M) := by
  unfold f_J4_toString_0e30d_0
  refine KF.c (kq_J0_init_81219 (fq_nO hM)) fun r1 h_r1 => ?_
  exact KF.s h_r1
theorem kq_J4_toString_0e30d {M0 : zM} {a0 : Nat} {M : zM} (hM : FQ M0 M) : KF (FQ M0) (f_J4_toString_0e30d a0 M) := by
  unfold f_J4_toString_0e30d
  exact (kq_J4_toString_0e30d_0 hM)
theorem kq_J0_isLatin1_aae02_0 {M0 : zM} {a0 : Nat} {M : zM} (hM : FQ M0 M) : KF (FQ M0) (f_J0_isLatin1_aae02_0 a0 M) := by
  unfold f_J0_isLatin1_aae02_0
  refine KF.i ?_ ?_
  · exact KF.s hM
  · refine KF.b fun v1 => ?_
    refine KF.i ?_ ?_
    · exact KF.s hM
    · exact KF.s hM
theorem kq_J0_isLatin1_aae02 {M0 : zM} {a0 : Nat} {M : zM} (hM : FQ M0 M) : KF (FQ M0) (f_J0_isLatin1_aae02 a0 M) := by
  unfold f_J0_isLatin1_aae02
  exact (kq_J0_isLatin1_aae02_0 hM)
theorem kq_J3_checkIndex_8e157_0 {M0 : zM} {i0 : Int32} {i1 : Int32} {M : zM} (hM : FQ M0 M) : KF (FQ M0) (f_J3_checkIndex_8e157_0 i0 i1 M) := by
  unfold f_J3_checkIndex_8e157_0
  refine KF.i ?_ ?_
  · exact KF.n
  · refine KF.i ?_ KF.n
    exact KF.s hM
theorem kq_J3_checkIndex_8e157 {M0 : zM} {i0 : Int32} {i1 : Int32} {M : zM} (hM : FQ M0 M) : KF (FQ M0) (f_J3_checkIndex_8e157 i0 i1 M) := by
  unfold f_J3_checkIndex_8e157
  exact (kq_J3_checkIndex_8e157_0 hM)
theorem kq_J0_checkIndex_df160_0 {M0 : zM} {i0 : Int32} {i1 : Int32} {M : zM} (hM : FQ M0 M) : KF (FQ M0) (f_J0_checkIndex_df160_0 i0 i1 M) := by
  unfold f_J0_checkIndex_df160_0
  refine KF.c (kq_J3_checkIndex_8e157 hM) fun r1 h_r1 => ?_
  exact KF.s h_r1
theorem kq_J0_checkIndex_df160 {M0 : zM} {i0 : Int32} {i1 : Int32} {M : zM} (hM : FQ M0 M) : KF (FQ M0) (f_J0_checkIndex_df160 i0 i1 M) := by
  unfold f_J0_checkIndex_df160
  exact (kq_J0_checkIndex_df160_0 hM)
theorem kq_J1_charAt_3b067_0 {M0 : zM} {a0 : Nat} {i1 : Int32} {M : zM} (hM : FQ M0 M) : KF (FQ M0) (f_J1_charAt_3b067_0 a0 i1 M) := by
  unfold f_J1_charAt_3b067_0
  refine KF.b fun v1 => ?_
  refine KF.c (kq_J0_checkIndex_df160 hM) fun r2 h_r2 => ?_
  refine KF.b fun v3 => ?_
  refine KF.i ?_ KF.n
  exact KF.s h_r2
theorem kq_J1_charAt_3b067 {M0 : zM} {a0 : Nat} {i1 : Int32} {M : zM} (hM : FQ M0 M) : KF (FQ M0) (f_J1_charAt_3b067 a0 i1 M) := by
  unfold f_J1_charAt_3b067
  exact (kq_J1_charAt_3b067_0 hM)
theorem kq_J0_charAt_5068e_0 {M0 : zM} {a0 : Nat} {i1 : Int32} {M : zM} (hM : FQ M0 M) : KF (FQ M0) (f_J0_charAt_5068e_0 a0 i1 M) := by
  unfold f_J0_charAt_5068e_0
  refine KF.i ?_ KF.n
  refine KF.c (kq_J0_isLatin1_aae02 hM) fun r1 h_r1 => ?_
  refine KF.i ?_ ?_
  · refine KF.b fun v3 => ?_
    exact KF.n
  · refine KF.b fun v4 => ?_
    refine KF.c (kq_J1_charAt_3b067 h_r1) fun r5 h_r5 => ?_
    refine KF.i ?_ KF.n
    exact KF.s h_r5
theorem kq_J0_charAt_5068e {M0 : zM} {a0 : Nat} {i1 : Int32} {M : zM} (hM : FQ M0 M) : KF (FQ M0) (f_J0_charAt_5068e a0 i1 M) := by
  unfold f_J0_charAt_5068e
  exact (kq_J0_charAt_5068e_0 hM)
theorem kq_J1_canEncode_fc78d_0 {M0 : zM} {i0 : Int32} {M : zM} (hM : FQ M0 M) : KF (FQ M0) (f_J1_canEncode_fc78d_0 i0 M) := by
  unfold f_J1_canEncode_fc78d_0
  refine KF.i ?_ ?_
  · exact KF.s hM
  · exact KF.s hM
theorem kq_J1_canEncode_fc78d {M0 : zM} {i0 : Int32} {M : zM} (hM : FQ M0 M) : KF (FQ M0) (f_J1_canEncode_fc78d i0 M) := by
  unfold f_J1_canEncode_fc78d
  exact (kq_J1_canEncode_fc78d_0 hM)
theorem kq_J5_append_3fe6f_56 {M0 : zM} {a0 : Nat} {i1 : Int32} {M : zM} (hM : FQ M0 M) : KF (FQ M0) (f_J5_append_3fe6f_56 a0 i1 M) := by
  unfold f_J5_append_3fe6f_56
  refine KF.b fun v1 => ?_
  refine KF.b fun v2 => ?_
  refine KF.w (fq_pI hM rfl) fun M3 h_M3 => ?_
  exact KF.n
theorem kq_J5_append_3fe6f_45 {M0 : zM} {a0 : Nat} {i1 : Int32} {M : zM} (hM : FQ M0 M) : KF (FQ M0) (f_J5_append_3fe6f_45 a0 i1 M) := by
  unfold f_J5_append_3fe6f_45
  refine KF.i ?_ KF.n
  refine KF.c (kq_J5_isLatin1_aae02 hM) fun r1 h_r1 => ?_
  refine KF.i ?_ KF.n
  exact (kq_J5_append_3fe6f_56 h_r1)
theorem kq_J5_append_3fe6f_0 {M0 : zM} {a0 : Nat} {i1 : Int32} {M : zM} (hM : FQ M0 M) : KF (FQ M0) (f_J5_append_3fe6f_0 a0 i1 M) := by
  unfold f_J5_append_3fe6f_0
  refine KF.b fun v1 => ?_
  refine KF.i ?_ KF.n
  refine KF.c (kq_J5_ensureCapacityInternal_d00df hM) fun r2 h_r2 => ?_
  refine KF.i ?_ KF.n
  refine KF.c (kq_J5_isLatin1_aae02 h_r2) fun r4 h_r4 => ?_
  refine KF.i ?_ ?_
  · exact (kq_J5_append_3fe6f_45 h_r4)
  · refine KF.c (kq_J1_canEncode_fc78d h_r4) fun r6 h_r6 => ?_
    refine KF.i ?_ ?_
    · exact (kq_J5_append_3fe6f_45 h_r6)
    · refine KF.b fun v7 => ?_
      refine KF.b fun v8 => ?_
      refine KF.w (fq_pI h_r6 rfl) fun M9 h_M9 => ?_
      refine KF.w (fq_tB h_M9) fun M10 h_M10 => ?_
      exact KF.s h_M10
theorem kq_J5_append_3fe6f {M0 : zM} {a0 : Nat} {i1 : Int32} {M : zM} (hM : FQ M0 M) : KF (FQ M0) (f_J5_append_3fe6f a0 i1 M) := by
  unfold f_J5_append_3fe6f
  exact (kq_J5_append_3fe6f_0 hM)
theorem kq_J4_append_cf468_0 {M0 : zM} {a0 : Nat} {i1 : Int32} {M : zM} (hM : FQ M0 M) : KF (FQ M0) (f_J4_append_cf468_0 a0 i1 M) := by
  unfold f_J4_append_cf468_0
  refine KF.i ?_ KF.n
  refine KF.c (kq_J5_append_3fe6f hM) fun r1 h_r1 => ?_
  exact KF.s h_r1
theorem kq_J4_append_cf468 {M0 : zM} {a0 : Nat} {i1 : Int32} {M : zM} (hM : FQ M0 M) : KF (FQ M0) (f_J4_append_cf468 a0 i1 M) := by
  unfold f_J4_append_cf468
  exact (kq_J4_append_cf468_0 hM)
theorem kq_X3_writeHonours_24 {M0 : zM} {K6 : Nat → Nat → Nat → Int32 → zM → Option (Unit × zM)} (hK6 : ∀ {x0 : Nat} {x1 : Nat} {x2 : Nat} {x3 : Int32} {M : zM}, FQ M0 M → KF (FQ M0) (K6 x0 x1 x2 x3 M)) : ∀ (n : Nat) {a0 : Nat} {a1 : Nat} {a2 : Nat} {i3 : Int32} {i4 : Int32} {M : zM}, FQ M0 M → KF (FQ M0) (f_X3_writeHonours_24 K6 n a0 a1 a2 i3 i4 M) := by
  intro n
  induction n with
  | zero => exact fun _ => KF.n
  | succ n ih =>
    intro a0 a1 a2 i3 i4 M hM
    rw [f_X3_writeHonours_24]
    refine KF.i ?_ ?_
    · exact (hK6 hM)
    · refine KF.i ?_ KF.n
      refine KF.c (kq_J0_charAt_5068e hM) fun r1 h_r1 => ?_
      refine KF.i ?_ KF.n
      refine KF.c (kq_J4_append_cf468 h_r1) fun r3 h_r3 => ?_
      exact (ih h_r3)
theorem kq_X3_writeHonours_6 {M0 : zM} : ∀ (n : Nat) {a0 : Nat} {a1 : Nat} {a2 : Nat} {i3 : Int32} {M : zM}, FQ M0 M → KF (FQ M0) (f_X3_writeHonours_6 n a0 a1 a2 i3 M) := by
  intro n
  induction n with
  | zero => exact fun _ => KF.n
  | succ n ih =>
    intro a0 a1 a2 i3 M hM
    rw [f_X3_writeHonours_6]
    refine KF.i ?_ KF.n
    refine KF.c (kq_J0_length_8abf5 hM) fun r1 h_r1 => ?_
    refine KF.i ?_ ?_
    · exact KF.s h_r1
    · refine KF.i ?_ KF.n
      refine KF.c (kq_X1_count h_r1) fun r3 h_r3 => ?_
      exact (kq_X3_writeHonours_24 ih zN h_r3)
theorem kq_X3_writeHonours_0 {M0 : zM} {a0 : Nat} {a1 : Nat} {M : zM} (hM : FQ M0 M) : KF (FQ M0) (f_X3_writeHonours_0 a0 a1 M) := by
  unfold f_X3_writeHonours_0
  exact (kq_X3_writeHonours_6 zN hM)
theorem kq_X3_writeHonours {M0 : zM} {a0 : Nat} {a1 : Nat} {M : zM} (hM : FQ M0 M) : KF (FQ M0) (f_X3_writeHonours a0 a1 M) := by
  unfold f_X3_writeHonours
  exact (kq_X3_writeHonours_0 hM)
theorem kq_X3_writeSuit_28 {M0 : zM} {K9 : Nat → Nat → Int32 → Int32 → Int32 → Int32 → zM → Option (Unit × zM)} (hK9 : ∀ {x0 : Nat} {x1 : Nat} {x2 : Int32} {x3 : Int32} {x4 : Int32} {x5 : Int32} {M : zM}, FQ M0 M → KF (FQ M0) (K9 x0 x1 x2 x3 x4 x5 M)) : ∀ (n : Nat) {a0 : Nat} {a1 : Nat} {i2 : Int32} {i3 : Int32} {i4 : Int32} {i5 : Int32} {i6 : Int32} {M : zM}, FQ M0 M → KF (FQ M0) (f_X3_writeSuit_28 K9 n a0 a1 i2 i3 i4 i5 i6 M) := by
  intro n
  induction n with
  | zero => exact fun _ => KF.n
  | succ n ih =>
    intro a0 a1 i2 i3 i4 i5 i6 M hM
    rw [f_X3_writeSuit_28]
    refine KF.i ?_ ?_
    · exact (hK9 hM)
    · refine KF.i ?_ KF.n
      refine KF.c (kq_J4_append_bf812 hM) fun r1 h_r1 => ?_
      exact (ih h_r1)
theorem kq_X3_writeSuit_9 {M0 : zM} : ∀ (n : Nat) {a0 : Nat} {a1 : Nat} {i2 : Int32} {i3 : Int32} {i4 : Int32} {i5 : Int32} {M : zM}, FQ M0 M → KF (FQ M0) (f_X3_writeSuit_9 n a0 a1 i2 i3 i4 i5 M) := by
  intro n
  induction n with
  | zero => exact fun _ => KF.n
  | succ n ih =>
    intro a0 a1 i2 i3 i4 i5 M hM
    rw [f_X3_writeSuit_9]
    refine KF.i ?_ ?_
    · refine KF.i ?_ KF.n
      refine KF.c (kq_J4_length_8abf5 hM) fun r1 h_r1 => ?_
      refine KF.i ?_ ?_
      · exact KF.s h_r1
      · refine KF.i ?_ KF.n
        refine KF.c (kq_J4_append_cf468 h_r1) fun r3 h_r3 => ?_
        exact KF.s h_r3
    · refine KF.i ?_ KF.n
      refine KF.c (kq_X1_count hM) fun r6 h_r6 => ?_
      exact (kq_X3_writeSuit_28 ih zN h_r6)
theorem kq_X3_writeSuit_0 {M0 : zM} {a0 : Nat} {a1 : Nat} {i2 : Int32} {i3 : Int32} {M : zM} (hM : FQ M0 M) : KF (FQ M0) (f_X3_writeSuit_0 a0 a1 i2 i3 M) := by
  unfold f_X3_writeSuit_0
  refine KF.i ?_ KF.n
  refine KF.c (kq_J4_length_8abf5 hM) fun r1 h_r1 => ?_
  exact (kq_X3_writeSuit_9 zN h_r1)
theorem kq_X3_writeSuit {M0 : zM} {a0 : Nat} {a1 : Nat} {i2 : Int32} {i3 : Int32} {M : zM} (hM : FQ M0 M) : KF (FQ M0) (f_X3_writeSuit a0 a1 i2 i3 M) := by
  unfold f_X3_writeSuit
  exact (kq_X3_writeSuit_0 hM)
theorem kq_X3_hand_0 {M0 : zM} {a0 : Nat} {i1 : Int32} {M : zM} (hM : FQ M0 M) : KF (FQ M0) (f_X3_hand_0 a0 i1 M) := by
  unfold f_X3_hand_0
  refine KF.xb (kq_X3_requirePlayer hM) fun w1 Mw1 h_Mw1 => ?_
  refine KF.b fun v10 => ?_
  refine KF.b fun v11 => ?_
  refine KF.c (kq_J4_init_da8c8 (fq_nO h_Mw1)) fun r12 h_r12 => ?_
  refine KF.c (kq_X3_writeSuit h_r12) fun r13 h_r13 => ?_
  refine KF.c (kq_X3_writeSuit h_r13) fun r14 h_r14 => ?_
  refine KF.c (kq_X3_writeHonours h_r14) fun r15 h_r15 => ?_
  refine KF.i ?_ KF.n
  refine KF.c (kq_J4_toString_0e30d h_r15) fun r16 h_r16 => ?_
  exact KF.s h_r16
theorem kq_X3_hand {M0 : zM} {a0 : Nat} {i1 : Int32} {M : zM} (hM : FQ M0 M) : KF (FQ M0) (f_X3_hand a0 i1 M) := by
  unfold f_X3_hand
  exact (kq_X3_hand_0 hM)
theorem kq_X3_many_0 {M0 : zM} {a0 : Nat} {i1 : Int32} {M : zM} (hM : FQ M0 M) : KF (FQ M0) (f_X3_many_0 a0 i1 M) := by
  unfold f_X3_many_0
  refine KF.i ?_ ?_
  · refine KF.b fun v28 => ?_
    exact KF.s hM
  · refine KF.i ?_ ?_
    · refine KF.b fun v25 => ?_
      refine KF.i ?_ ?_
      · exact KF.s hM
      · refine KF.b fun v26 => ?_
        exact KF.s hM
    · refine KF.i ?_ ?_
      · refine KF.i ?_ KF.n
        refine KF.c (kq_X3_tilesLeft hM) fun r23 h_r23 => ?_
        exact KF.s h_r23
      · refine KF.i ?_ ?_
        · refine KF.b fun v22 => ?_
          exact KF.s hM
        · refine KF.i ?_ ?_
          · refine KF.b fun v16 => ?_
            refine KF.i ?_ ?_
            · refine KF.i ?_ KF.n
              refine KF.c (kq_X3_seatInTurn hM) fun r17 h_r17 => ?_
              refine KF.i ?_ KF.n
              refine KF.c (kq_X1_latestInRiver h_r17) fun r19 h_r19 => ?_
              exact KF.s h_r19
            · exact KF.s hM
          · refine KF.i ?_ ?_
            · refine KF.b fun v15 => ?_
              exact KF.s hM
            · refine KF.i ?_ ?_
              · refine KF.b fun v14 => ?_
                exact KF.s hM
              · refine KF.i ?_ ?_
                · refine KF.b fun v13 => ?_
                  exact KF.s hM
                · refine KF.i ?_ ?_
                  · refine KF.b fun v12 => ?_
                    exact KF.s hM
                  · refine KF.i ?_ ?_
                    · refine KF.b fun v11 => ?_
                      exact KF.s hM
                    · exact KF.s (fq_nE hM)
theorem kq_X3_many {M0 : zM} {a0 : Nat} {i1 : Int32} {M : zM} (hM : FQ M0 M) : KF (FQ M0) (f_X3_many a0 i1 M) := by
  unfold f_X3_many
  exact (kq_X3_many_0 hM)
theorem kq_X3_fourLeads_4 {M0 : zM} : ∀ (n : Nat) {a0 : Nat} {i1 : Int32} {i2 : Int32} {i3 : Int32} {M : zM}, FQ M0 M → KF (FQ M0) (f_X3_fourLeads_4 n a0 i1 i2 i3 M) := by
  intro n
  induction n with
  | zero => exact fun _ => KF.n
  | succ n ih =>
    intro a0 i1 i2 i3 M hM
    rw [f_X3_fourLeads_4]
    refine KF.i ?_ ?_
    · refine KF.b fun v1 => ?_
      refine KF.b fun v2 => ?_
      refine KF.b fun v3 => ?_
      exact KF.s hM
    · refine KF.b fun v4 => ?_
      refine KF.b fun v5 => ?_
      refine KF.b fun v6 => ?_
      exact (ih hM)
theorem kq_X3_fourLeads_0 {M0 : zM} {a0 : Nat} {i1 : Int32} {M : zM} (hM : FQ M0 M) : KF (FQ M0) (f_X3_fourLeads_0 a0 i1 M) := by
  unfold f_X3_fourLeads_0
  exact (kq_X3_fourLeads_4 zN hM)
theorem kq_X3_fourLeads {M0 : zM} {a0 : Nat} {i1 : Int32} {M : zM} (hM : FQ M0 M) : KF (FQ M0) (f_X3_fourLeads a0 i1 M) := by
  unfold f_X3_fourLeads
  exact (kq_X3_fourLeads_0 hM)
theorem kq_X3_lead_0 {M0 : zM} {a0 : Nat} {i1 : Int32} {M : zM} (hM : FQ M0 M) : KF (FQ M0) (f_X3_lead_0 a0 i1 M) := by
  unfold f_X3_lead_0
  refine KF.xb (kq_X3_requirePlayer hM) fun w1 Mw1 h_Mw1 => ?_
  refine KF.i ?_ KF.n
  refine KF.c (kq_X3_fourLeads h_Mw1) fun r5 h_r5 => ?_
  refine KF.i ?_ KF.n
  exact KF.s h_r5
theorem kq_X3_lead {M0 : zM} {a0 : Nat} {i1 : Int32} {M : zM} (hM : FQ M0 M) : KF (FQ M0) (f_X3_lead a0 i1 M) := by
  unfold f_X3_lead
  exact (kq_X3_lead_0 hM)
theorem kq_X3_worth_0 {M0 : zM} {a0 : Nat} {i1 : Int32} {i2 : Int32} {M : zM} (hM : FQ M0 M) : KF (FQ M0) (f_X3_worth_0 a0 i1 i2 M) := by
  unfold f_X3_worth_0
  refine KF.xb (kq_X3_requirePlayer hM) fun w1 Mw1 h_Mw1 => ?_
  refine KF.xb (kq_X3_requireKind h_Mw1) fun w33 Mw33 h_Mw33 => ?_
  refine KF.b fun v49 => ?_
  refine KF.b fun v50 => ?_
  refine KF.i ?_ KF.n
  refine KF.c (kq_X3_waitsOf h_Mw33) fun r51 h_r51 => ?_
  refine KF.i ?_ ?_
  · exact KF.s h_r51
  · refine KF.i ?_ KF.n
    refine KF.c (kq_X1_change h_r51) fun r53 h_r53 => ?_
    refine KF.b fun v55 => ?_
    refine KF.b fun v56 => ?_
    refine KF.i ?_ KF.n
    refine KF.c (kq_X3_windOf h_r53) fun r57 h_r57 => ?_
    refine KF.i ?_ KF.n
    refine KF.c (kq_X2_value h_r57) fun r59 h_r59 => ?_
    refine KF.i ?_ KF.n
    refine KF.c (kq_X1_change h_r59) fun r61 h_r61 => ?_
    exact KF.s h_r61
theorem kq_X3_worth {M0 : zM} {a0 : Nat} {i1 : Int32} {i2 : Int32} {M : zM} (hM : FQ M0 M) : KF (FQ M0) (f_X3_worth a0 i1 i2 M) := by
  unfold f_X3_worth
  exact (kq_X3_worth_0 hM)
theorem kq_X3_farWith_0 {M0 : zM} {a0 : Nat} {a1 : Nat} {i2 : Int32} {i3 : Int32} {M : zM} (hM : FQ M0 M) : KF (FQ M0) (f_X3_farWith_0 a0 a1 i2 i3 M) := by
  unfold f_X3_farWith_0
  refine KF.i ?_ KF.n
  refine KF.c (kq_X1_change hM) fun r1 h_r1 => ?_
  refine KF.b fun v3 => ?_
  refine KF.b fun v4 => ?_
  refine KF.b fun v5 => ?_
  refine KF.i ?_ KF.n
  refine KF.c (kq_X0_far h_r1) fun r6 h_r6 => ?_
  refine KF.i ?_ KF.n
  refine KF.c (kq_X1_change h_r6) fun r8 h_r8 => ?_
  exact KF.s h_r8
theorem kq_X3_farWith {M0 : zM} {a0 : Nat} {a1 : Nat} {i2 : Int32} {i3 : Int32} {M : zM} (hM : FQ M0 M) : KF (FQ M0) (f_X3_farWith a0 a1 i2 i3 M) := by
  unfold f_X3_farWith
  exact (kq_X3_farWith_0 hM)
theorem kq_X3_best_96 {M0 : zM} {K22 : Nat → Nat → Int32 → Int32 → Int32 → zM → Option (Int32 × zM)} (hK22 : ∀ {x0 : Nat} {x1 : Nat} {x2 : Int32} {x3 : Int32} {x4 : Int32} {M : zM}, FQ M0 M → KF (FQ M0) (K22 x0 x1 x2 x3 x4 M)) {a0 : Nat} {a1 : Nat} {i4 : Int32} {i5 : Int32} {M : zM} (hM : FQ M0 M) : KF (FQ M0) (f_X3_best_96 K22 a0 a1 i4 i5 M) := by
  unfold f_X3_best_96
  exact (hK22 hM)
theorem kq_X3_best_72 {M0 : zM} {K22 : Nat → Nat → Int32 → Int32 → Int32 → zM → Option (Int32 × zM)} (hK22 : ∀ {x0 : Nat} {x1 : Nat} {x2 : Int32} {x3 : Int32} {x4 : Int32} {M : zM}, FQ M0 M → KF (FQ M0) (K22 x0 x1 x2 x3 x4 M)) {a0 : Nat} {a1 : Nat} {i2 : Int32} {i3 : Int32} {i4 : Int32} {i5 : Int32} {i_0 : Int32} {M : zM} (hM : FQ M0 M) : KF (FQ M0) (f_X3_best_72 K22 a0 a1 i2 i3 i4 i5 i_0 M) := by
  unfold f_X3_best_72
  refine KF.i ?_ ?_
  · exact (kq_X3_best_96 hK22 hM)
  · refine KF.i ?_ ?_
    · exact (kq_X3_best_96 hK22 hM)
    · refine KF.i ?_ ?_
      · refine KF.i ?_ ?_
        · exact (hK22 hM)
        · exact (kq_X3_best_96 hK22 hM)
      · exact (hK22 hM)
theorem kq_X3_best_71 {M0 : zM} {K22 : Nat → Nat → Int32 → Int32 → Int32 → zM → Option (Int32 × zM)} (hK22 : ∀ {x0 : Nat} {x1 : Nat} {x2 : Int32} {x3 : Int32} {x4 : Int32} {M : zM}, FQ M0 M → KF (FQ M0) (K22 x0 x1 x2 x3 x4 M)) {a0 : Nat} {a1 : Nat} {i2 : Int32} {i3 : Int32} {i4 : Int32} {i5 : Int32} {M : zM} (hM : FQ M0 M) : KF (FQ M0) (f_X3_best_71 K22 a0 a1 i2 i3 i4 i5 M) := by
  unfold f_X3_best_71
  exact (kq_X3_best_72 hK22 hM)
theorem kq_X3_best_22 {M0 : zM} : ∀ (n : Nat) {a0 : Nat} {a1 : Nat} {i2 : Int32} {i3 : Int32} {i4 : Int32} {M : zM}, FQ M0 M → KF (FQ M0) (f_X3_best_22 n a0 a1 i2 i3 i4 M) := by
  intro n
  induction n with
  | zero => exact fun _ => KF.n
  | succ n ih =>
    intro a0 a1 i2 i3 i4 M hM
    rw [f_X3_best_22]
    refine KF.i ?_ ?_
    · exact KF.s hM
    · refine KF.i ?_ KF.n
      refine KF.c (kq_X1_count hM) fun r1 h_r1 => ?_
      refine KF.i ?_ ?_
      · exact (ih h_r1)
      · refine KF.i ?_ KF.n
        refine KF.c (kq_X3_farWith h_r1) fun r3 h_r3 => ?_
        refine KF.i ?_ ?_
        · exact (kq_X3_best_71 ih h_r3)
        · refine KF.i ?_ KF.n
          refine KF.c (kq_X1_count h_r3) fun r5 h_r5 => ?_
          refine KF.i ?_ KF.n
          refine KF.c (kq_X1_count h_r5) fun r7 h_r7 => ?_
          refine KF.i ?_ ?_
          · exact (kq_X3_best_71 ih h_r7)
          · exact (kq_X3_best_72 ih h_r7)
theorem kq_X3_best_0 {M0 : zM} {a0 : Nat} {M : zM} (hM : FQ M0 M) : KF (FQ M0) (f_X3_best_0 a0 M) := by
  unfold f_X3_best_0
  refine KF.b fun v1 => ?_
  refine KF.i ?_ ?_
  · refine KF.i ?_ KF.n
    refine KF.c (kq_X3_seatInTurn hM) fun r2 h_r2 => ?_
    exact (kq_X3_best_22 zN h_r2)
  · exact KF.s hM
theorem kq_X3_best {M0 : zM} {a0 : Nat} {M : zM} (hM : FQ M0 M) : KF (FQ M0) (f_X3_best a0 M) := by
  unfold f_X3_best
  exact (kq_X3_best_0 hM)
theorem kq_X3_isSafe_10 {M0 : zM} : ∀ (n : Nat) {a0 : Nat} {i1 : Int32} {i2 : Int32} {i3 : Int32} {M : zM}, FQ M0 M → KF (FQ M0) (f_X3_isSafe_10 n a0 i1 i2 i3 M) := by
  intro n
  induction n with
  | zero => exact fun _ => KF.n
  | succ n ih =>
    intro a0 i1 i2 i3 M hM
    rw [f_X3_isSafe_10]
    refine KF.i ?_ ?_
    · exact KF.s hM
    · refine KF.i ?_ ?_
      · exact (ih hM)
      · refine KF.b fun v1 => ?_
        refine KF.b fun v2 => ?_
        refine KF.b fun v3 => ?_
        refine KF.i ?_ ?_
        · exact (ih hM)
        · refine KF.b fun v4 => ?_
          refine KF.b fun v5 => ?_
          refine KF.b fun v6 => ?_
          refine KF.i ?_ ?_
          · exact KF.s hM
          · exact (ih hM)
theorem kq_X3_isSafe_0 {M0 : zM} {a0 : Nat} {i1 : Int32} {i2 : Int32} {M : zM} (hM : FQ M0 M) : KF (FQ M0) (f_X3_isSafe_0 a0 i1 i2 M) := by
  unfold f_X3_isSafe_0
  refine KF.xb (kq_X3_requirePlayer hM) fun w1 Mw1 h_Mw1 => ?_
  refine KF.xb (kq_X3_requireKind h_Mw1) fun w3 Mw3 h_Mw3 => ?_
  exact (kq_X3_isSafe_10 zN h_Mw3)
theorem kq_X3_isSafe {M0 : zM} {a0 : Nat} {i1 : Int32} {i2 : Int32} {M : zM} (hM : FQ M0 M) : KF (FQ M0) (f_X3_isSafe a0 i1 i2 M) := by
  unfold f_X3_isSafe
  exact (kq_X3_isSafe_0 hM)
theorem kq_X3_outs_44 {M0 : zM} : ∀ (n : Nat) {a0 : Nat} {a2 : Nat} {i3 : Int32} {i4 : Int32} {i5 : Int32} {M : zM}, FQ M0 M → KF (FQ M0) (f_X3_outs_44 n a0 a2 i3 i4 i5 M) := by
  intro n
  induction n with
  | zero => exact fun _ => KF.n
  | succ n ih =>
    intro a0 a2 i3 i4 i5 M hM
    rw [f_X3_outs_44]
    refine KF.i ?_ ?_
    · exact KF.s hM
    · refine KF.i ?_ KF.n
      refine KF.c (kq_X1_count hM) fun r1 h_r1 => ?_
      refine KF.i ?_ KF.n
      refine KF.xb (kq_X3_seen h_r1) fun w3 Mw3 h_Mw3 => ?_
      refine KF.i ?_ ?_
      · exact (ih h_Mw3)
      · refine KF.i ?_ KF.n
        refine KF.c (kq_X3_farWith h_Mw3) fun r9 h_r9 => ?_
        refine KF.i ?_ ?_
        · exact (ih h_r9)
        · exact (ih h_r9)
theorem kq_X3_outs_0 {M0 : zM} {a0 : Nat} {i1 : Int32} {M : zM} (hM : FQ M0 M) : KF (FQ M0) (f_X3_outs_0 a0 i1 M) := by
  unfold f_X3_outs_0
  refine KF.xb (kq_X3_requirePlayer hM) fun w1 Mw1 h_Mw1 => ?_
  refine KF.b fun v12 => ?_
  refine KF.b fun v13 => ?_
  refine KF.i ?_ KF.n
  refine KF.c (kq_X1_size h_Mw1) fun r14 h_r14 => ?_
  refine KF.i ?_ ?_
  · refine KF.b fun v16 => ?_
    refine KF.b fun v17 => ?_
    refine KF.b fun v18 => ?_
    refine KF.i ?_ KF.n
    refine KF.c (kq_X0_far h_r14) fun r19 h_r19 => ?_
    exact (kq_X3_outs_44 zN h_r19)
  · exact KF.s h_r14
theorem kq_X3_outs {M0 : zM} {a0 : Nat} {i1 : Int32} {M : zM} (hM : FQ M0 M) : KF (FQ M0) (f_X3_outs a0 i1 M) := by
  unfold f_X3_outs
  exact (kq_X3_outs_0 hM)
theorem kq_X3_digestPlayer_164 {M0 : zM} {a0 : Nat} {i3 : Int32} {a4 : Nat} {j5 : Int64} {M : zM} (hM : FQ M0 M) : KF (FQ M0) (f_X3_digestPlayer_164 a0 i3 a4 j5 M) := by
  unfold f_X3_digestPlayer_164
  refine KF.i ?_ KF.n
  refine KF.c (kq_X3_waitsOf hM) fun r1 h_r1 => ?_
  refine KF.i ?_ KF.n
  refine KF.c (kq_X3_fourLeads h_r1) fun r3 h_r3 => ?_
  exact KF.s h_r3
theorem kq_X3_digestPlayer_123 {M0 : zM} : ∀ (n : Nat) {a0 : Nat} {i3 : Int32} {a4 : Nat} {j5 : Int64} {i7 : Int32} {M : zM}, FQ M0 M → KF (FQ M0) (f_X3_digestPlayer_123 n a0 i3 a4 j5 i7 M) := by
  intro n
  induction n with
  | zero => exact fun _ => KF.n
  | succ n ih =>
    intro a0 i3 a4 j5 i7 M hM
    rw [f_X3_digestPlayer_123]
    refine KF.b fun v1 => ?_
    refine KF.i ?_ ?_
    · exact (kq_X3_digestPlayer_164 hM)
    · refine KF.i ?_ ?_
      · exact (kq_X3_digestPlayer_164 hM)
      · refine KF.b fun v2 => ?_
        refine KF.b fun v3 => ?_
        exact (ih hM)
theorem kq_X3_digestPlayer_80 {M0 : zM} : ∀ (n : Nat) {a0 : Nat} {i3 : Int32} {a4 : Nat} {j5 : Int64} {i7 : Int32} {M : zM}, FQ M0 M → KF (FQ M0) (f_X3_digestPlayer_80 n a0 i3 a4 j5 i7 M) := by
  intro n
  induction n with
  | zero => exact fun _ => KF.n
  | succ n ih =>
    intro a0 i3 a4 j5 i7 M hM
    rw [f_X3_digestPlayer_80]
    refine KF.b fun v1 => ?_
    refine KF.i ?_ ?_
    · exact (kq_X3_digestPlayer_123 zN hM)
    · refine KF.i ?_ ?_
      · exact (kq_X3_digestPlayer_123 zN hM)
      · refine KF.b fun v2 => ?_
        refine KF.b fun v3 => ?_
        exact (ih hM)
theorem kq_X3_digestPlayer_47 {M0 : zM} : ∀ (n : Nat) {a0 : Nat} {i3 : Int32} {a4 : Nat} {j5 : Int64} {i7 : Int32} {M : zM}, FQ M0 M → KF (FQ M0) (f_X3_digestPlayer_47 n a0 i3 a4 j5 i7 M) := by
  intro n
  induction n with
  | zero => exact fun _ => KF.n
  | succ n ih =>
    intro a0 i3 a4 j5 i7 M hM
    rw [f_X3_digestPlayer_47]
    refine KF.i ?_ ?_
    · exact (kq_X3_digestPlayer_80 zN hM)
    · refine KF.i ?_ KF.n
      refine KF.c (kq_X1_count hM) fun r1 h_r1 => ?_
      exact (ih h_r1)
theorem kq_X3_digestPlayer_14 {M0 : zM} : ∀ (n : Nat) {a0 : Nat} {i3 : Int32} {a4 : Nat} {j5 : Int64} {i7 : Int32} {M : zM}, FQ M0 M → KF (FQ M0) (f_X3_digestPlayer_14 n a0 i3 a4 j5 i7 M) := by
  intro n
  induction n with
  | zero => exact fun _ => KF.n
  | succ n ih =>
    intro a0 i3 a4 j5 i7 M hM
    rw [f_X3_digestPlayer_14]
    refine KF.i ?_ ?_
    · exact (kq_X3_digestPlayer_47 zN hM)
    · refine KF.i ?_ KF.n
      refine KF.xb (kq_X3_ofPlayer hM) fun w1 Mw1 h_Mw1 => ?_
      exact (ih h_Mw1)
theorem kq_X3_digestPlayer_0 {M0 : zM} {a0 : Nat} {j1 : Int64} {i3 : Int32} {M : zM} (hM : FQ M0 M) : KF (FQ M0) (f_X3_digestPlayer_0 a0 j1 i3 M) := by
  unfold f_X3_digestPlayer_0
  refine KF.b fun v1 => ?_
  refine KF.b fun v2 => ?_
  exact (kq_X3_digestPlayer_14 zN hM)
theorem kq_X3_digestPlayer {M0 : zM} {a0 : Nat} {j1 : Int64} {i3 : Int32} {M : zM} (hM : FQ M0 M) : KF (FQ M0) (f_X3_digestPlayer a0 j1 i3 M) := by
  unfold f_X3_digestPlayer
  exact (kq_X3_digestPlayer_0 hM)
theorem kq_X3_digest_33 {M0 : zM} : ∀ (n : Nat) {a0 : Nat} {j1 : Int64} {i3 : Int32} {M : zM}, FQ M0 M → KF (FQ M0) (f_X3_digest_33 n a0 j1 i3 M) := by
  intro n
  induction n with
  | zero => exact fun _ => KF.n
  | succ n ih =>
    intro a0 j1 i3 M hM
    rw [f_X3_digest_33]
    refine KF.i ?_ ?_
    · refine KF.i ?_ KF.n
      refine KF.c (kq_X3_best hM) fun r1 h_r1 => ?_
      exact KF.s h_r1
    · refine KF.i ?_ KF.n
      refine KF.xb (kq_X3_digestPlayer hM) fun w3 Mw3 h_Mw3 => ?_
      exact (ih h_Mw3)
theorem kq_X3_digest_6 {M0 : zM} : ∀ (n : Nat) {a0 : Nat} {j1 : Int64} {i3 : Int32} {M : zM}, FQ M0 M → KF (FQ M0) (f_X3_digest_6 n a0 j1 i3 M) := by
  intro n
  induction n with
  | zero => exact fun _ => KF.n
  | succ n ih =>
    intro a0 j1 i3 M hM
    rw [f_X3_digest_6]
    refine KF.i ?_ ?_
    · exact (kq_X3_digest_33 zN hM)
    · refine KF.i ?_ KF.n
      refine KF.xb (kq_X3_many hM) fun w1 Mw1 h_Mw1 => ?_
      exact (ih h_Mw1)
theorem kq_X3_digest_0 {M0 : zM} {a0 : Nat} {M : zM} (hM : FQ M0 M) : KF (FQ M0) (f_X3_digest_0 a0 M) := by
  unfold f_X3_digest_0
  exact (kq_X3_digest_6 zN hM)
theorem kq_X3_digest {M0 : zM} {a0 : Nat} {M : zM} (hM : FQ M0 M) : KF (FQ M0) (f_X3_digest a0 M) := by
  unfold f_X3_digest
  exact (kq_X3_digest_0 hM)
theorem kq_X5_init_0 {M0 : zM} {a0 : Nat} {i1 : Int32} {i2 : Int32} {M : zM} (hM : FQ M0 M) : KF (FQ M0) (f_X5_init_0 a0 i1 i2 M) := by
  unfold f_X5_init_0
  refine KF.w (fq_pI hM rfl) fun M1 h_M1 => ?_
  refine KF.w (fq_pI h_M1 rfl) fun M2 h_M2 => ?_
  exact KF.s h_M2
theorem kq_X5_init {M0 : zM} {a0 : Nat} {i1 : Int32} {i2 : Int32} {M : zM} (hM : FQ M0 M) : KF (FQ M0) (f_X5_init a0 i1 i2 M) := by
  unfold f_X5_init
  exact (kq_X5_init_0 hM)
theorem kq_X5_isOpen_0 {M0 : zM} {a0 : Nat} {M : zM} (hM : FQ M0 M) : KF (FQ M0) (f_X5_isOpen_0 a0 M) := by
  unfold f_X5_isOpen_0
  refine KF.b fun v1 => ?_
  refine KF.i ?_ ?_
  · exact KF.s hM
  · exact KF.s hM
theorem kq_X5_isOpen {M0 : zM} {a0 : Nat} {M : zM} (hM : FQ M0 M) : KF (FQ M0) (f_X5_isOpen a0 M) := by
  unfold f_X5_isOpen
  exact (kq_X5_isOpen_0 hM)
theorem kq_X7_isIn_0 {M0 : zM} {i0 : Int32} {i1 : Int32} {i2 : Int32} {M : zM} (hM : FQ M0 M) : KF (FQ M0) (f_X7_isIn_0 i0 i1 i2 M) := by
  unfold f_X7_isIn_0
  refine KF.i ?_ ?_
  · exact KF.s hM
  · refine KF.i ?_ ?_
    · exact KF.s hM
    · exact KF.s hM
theorem kq_X7_isIn {M0 : zM} {i0 : Int32} {i1 : Int32} {i2 : Int32} {M : zM} (hM : FQ M0 M) : KF (FQ M0) (f_X7_isIn i0 i1 i2 M) := by
  unfold f_X7_isIn
  exact (kq_X7_isIn_0 hM)
theorem kq_X5_of_0 {M0 : zM} {a0 : Nat} {i1 : Int32} {M : zM} (hM : FQ M0 M) : KF (FQ M0) (f_X5_of_0 a0 i1 M) := by
  unfold f_X5_of_0
  refine KF.b fun v1 => ?_
  refine KF.i ?_ ?_
  · refine KF.b fun v6 => ?_
    refine KF.b fun v7 => ?_
    refine KF.c (kq_X7_isIn hM) fun r8 h_r8 => ?_
    refine KF.i ?_ ?_
    · exact KF.s h_r8
    · exact KF.s h_r8
  · refine KF.b fun v2 => ?_
    refine KF.i ?_ ?_
    · refine KF.b fun v3 => ?_
      refine KF.i ?_ ?_
      · exact KF.s hM
      · exact KF.s hM
    · exact KF.s hM
theorem kq_X5_of {M0 : zM} {a0 : Nat} {i1 : Int32} {M : zM} (hM : FQ M0 M) : KF (FQ M0) (f_X5_of a0 i1 M) := by
  unfold f_X5_of
  exact (kq_X5_of_0 hM)
theorem kq_Jx4a65c_clear_da8c8_27 {M0 : zM} : ∀ (n : Nat) {a1 : Nat} {i2 : Int32} {i3 : Int32} {M : zM}, FQ M0 M → KF (FQ M0) (f_Jx4a65c_clear_da8c8_27 n a1 i2 i3 M) := by
  intro n
  induction n with
  | zero => exact fun _ => KF.n
  | succ n ih =>
    intro a1 i2 i3 M hM
    rw [f_Jx4a65c_clear_da8c8_27]
    refine KF.i ?_ ?_
    · exact KF.s hM
    · refine KF.w (fq_tQ hM) fun M1 h_M1 => ?_
      exact (ih h_M1)
theorem kq_Jx4a65c_clear_da8c8_0 {M0 : zM} {a0 : Nat} {M : zM} (hM : FQ M0 M) : KF (FQ M0) (f_Jx4a65c_clear_da8c8_0 a0 M) := by
  unfold f_Jx4a65c_clear_da8c8_0
  refine KF.b fun v1 => ?_
  refine KF.w (fq_pI hM rfl) fun M2 h_M2 => ?_
  refine KF.b fun v3 => ?_
  refine KF.b fun v4 => ?_
  refine KF.w (fq_pI h_M2 rfl) fun M5 h_M5 => ?_
  exact (kq_Jx4a65c_clear_da8c8_27 zN h_M5)
theorem kq_Jx4a65c_clear_da8c8 {M0 : zM} {a0 : Nat} {M : zM} (hM : FQ M0 M) : KF (FQ M0) (f_Jx4a65c_clear_da8c8 a0 M) := by
  unfold f_Jx4a65c_clear_da8c8
  exact (kq_Jx4a65c_clear_da8c8_0 hM)
theorem kq_X6_begin_0 {M0 : zM} {a0 : Nat} {M : zM} (hM : FQ M0 M) : KF (FQ M0) (f_X6_begin_0 a0 M) := by
  unfold f_X6_begin_0
  refine KF.c (fq_aA hM) fun r1 h_r1 => ?_
  refine KF.w (fq_pR h_r1 rfl) fun M2 h_M2 => ?_
  refine KF.b fun v3 => ?_
  refine KF.i ?_ KF.n
  refine KF.c (kq_Jx4a65c_clear_da8c8 h_M2) fun r4 h_r4 => ?_
  refine KF.b fun v6 => ?_
  refine KF.i ?_ KF.n
  refine KF.c (kq_Jx4a65c_clear_da8c8 h_r4) fun r7 h_r7 => ?_
  refine KF.w (fq_pJ h_r7 rfl) fun M9 h_M9 => ?_
  refine KF.w (fq_pZ h_M9 rfl) fun M10 h_M10 => ?_
  exact KF.s h_M10
theorem kq_X6_begin {M0 : zM} {a0 : Nat} {M : zM} (hM : FQ M0 M) : KF (FQ M0) (f_X6_begin a0 M) := by
  unfold f_X6_begin
  exact (kq_X6_begin_0 hM)
theorem kq_X6_tiles_13 {M0 : zM} : ∀ (n : Nat) {i1 : Int32} {a2 : Nat} {i3 : Int32} {i4 : Int32} {M : zM}, FQ M0 M → KF (FQ M0) (f_X6_tiles_13 n i1 a2 i3 i4 M) := by
  intro n
  induction n with
  | zero => exact fun _ => KF.n
  | succ n ih =>
    intro i1 a2 i3 i4 M hM
    rw [f_X6_tiles_13]
    refine KF.i ?_ ?_
    · exact KF.s hM
    · refine KF.b fun v1 => ?_
      exact (ih hM)
theorem kq_X6_tiles_0 {M0 : zM} {a0 : Nat} {M : zM} (hM : FQ M0 M) : KF (FQ M0) (f_X6_tiles_0 a0 M) := by
  unfold f_X6_tiles_0
  refine KF.b fun v1 => ?_
  refine KF.b fun v2 => ?_
  exact (kq_X6_tiles_13 zN hM)
theorem kq_X6_tiles {M0 : zM} {a0 : Nat} {M : zM} (hM : FQ M0 M) : KF (FQ M0) (f_X6_tiles a0 M) := by
  unfold f_X6_tiles
  exact (kq_X6_tiles_0 hM)
theorem kq_Jx4a65c_size_8abf5_0 {M0 : zM} {a0 : Nat} {M : zM} (hM : FQ M0 M) : KF (FQ M0) (f_Jx4a65c_size_8abf5_0 a0 M) := by
  unfold f_Jx4a65c_size_8abf5_0
  refine KF.b fun v1 => ?_
  exact KF.s hM
theorem kq_Jx4a65c_size_8abf5 {M0 : zM} {a0 : Nat} {M : zM} (hM : FQ M0 M) : KF (FQ M0) (f_Jx4a65c_size_8abf5 a0 M) := by
  unfold f_Jx4a65c_size_8abf5
  exact (kq_Jx4a65c_size_8abf5_0 hM)
theorem kq_X6_hasTooMany_0 {M0 : zM} {a0 : Nat} {M : zM} (hM : FQ M0 M) : KF (FQ M0) (f_X6_hasTooMany_0 a0 M) := by
  unfold f_X6_hasTooMany_0
  refine KF.i ?_ KF.n
  refine KF.c (kq_X6_tiles hM) fun r1 h_r1 => ?_
  refine KF.b fun v3 => ?_
  refine KF.i ?_ KF.n
  refine KF.c (kq_Jx4a65c_size_8abf5 h_r1) fun r4 h_r4 => ?_
  refine KF.i ?_ ?_
  · exact KF.s h_r4
  · exact KF.s h_r4
theorem kq_X6_hasTooMany {M0 : zM} {a0 : Nat} {M : zM} (hM : FQ M0 M) : KF (FQ M0) (f_X6_hasTooMany a0 M) := by
  unfold f_X6_hasTooMany
  exact (kq_X6_hasTooMany_0 hM)
theorem kq_Jx35411_hasNext_aae02_0 {M0 : zM} {a0 : Nat} {M : zM} (hM : FQ M0 M) : KF (FQ M0) (f_Jx35411_hasNext_aae02_0 a0 M) := by
  unfold f_Jx35411_hasNext_aae02_0
  refine KF.b fun v1 => ?_
  refine KF.b fun v2 => ?_
  refine KF.b fun v3 => ?_
  refine KF.i ?_ ?_
  · exact KF.s hM
  · exact KF.s hM
theorem kq_Jx35411_hasNext_aae02 {M0 : zM} {a0 : Nat} {M : zM} (hM : FQ M0 M) : KF (FQ M0) (f_Jx35411_hasNext_aae02 a0 M) := by
  unfold f_Jx35411_hasNext_aae02
  exact (kq_Jx35411_hasNext_aae02_0 hM)
theorem kq_Jx35411_checkForComodification_da8c8_0 {M0 : zM} {a0 : Nat} {M : zM} (hM : FQ M0 M) : KF (FQ M0) (f_Jx35411_checkForComodification_da8c8_0 a0 M) := by
  unfold f_Jx35411_checkForComodification_da8c8_0
  refine KF.b fun v1 => ?_
  refine KF.b fun v2 => ?_
  refine KF.b fun v3 => ?_
  refine KF.i ?_ KF.n
  exact KF.s hM
theorem kq_Jx35411_checkForComodification_da8c8 {M0 : zM} {a0 : Nat} {M : zM} (hM : FQ M0 M) : KF (FQ M0) (f_Jx35411_checkForComodification_da8c8 a0 M) := by
  unfold f_Jx35411_checkForComodification_da8c8
  exact (kq_Jx35411_checkForComodification_da8c8_0 hM)
theorem kq_Jx35411_next_0502b_0 {M0 : zM} {a0 : Nat} {M : zM} (hM : FQ M0 M) : KF (FQ M0) (f_Jx35411_next_0502b_0 a0 M) := by
  unfold f_Jx35411_next_0502b_0
  refine KF.i ?_ KF.n
  refine KF.c (kq_Jx35411_checkForComodification_da8c8 hM) fun r1 h_r1 => ?_
  refine KF.b fun v3 => ?_
  refine KF.b fun v4 => ?_
  refine KF.b fun v5 => ?_
  refine KF.i ?_ KF.n
  refine KF.b fun v6 => ?_
  refine KF.b fun v7 => ?_
  refine KF.b fun v8 => ?_
  refine KF.i ?_ KF.n
  refine KF.w (fq_pI h_r1 rfl) fun M9 h_M9 => ?_
  refine KF.w (fq_pI h_M9 rfl) fun M10 h_M10 => ?_
  refine KF.b fun v11 => ?_
  exact KF.s h_M10
theorem kq_Jx35411_next_0502b {M0 : zM} {a0 : Nat} {M : zM} (hM : FQ M0 M) : KF (FQ M0) (f_Jx35411_next_0502b a0 M) := by
  unfold f_Jx35411_next_0502b
  exact (kq_Jx35411_next_0502b_0 hM)
theorem kq_Jx35411_init_45d68_0 {M0 : zM} {a0 : Nat} {a1 : Nat} {M : zM} (hM : FQ M0 M) : KF (FQ M0) (f_Jx35411_init_45d68_0 a0 a1 M) := by
  unfold f_Jx35411_init_45d68_0
  refine KF.w (fq_pR hM rfl) fun M1 h_M1 => ?_
  refine KF.w (fq_pI h_M1 rfl) fun M2 h_M2 => ?_
  refine KF.b fun v3 => ?_
  refine KF.b fun v4 => ?_
  refine KF.w (fq_pI h_M2 rfl) fun M5 h_M5 => ?_
  exact KF.s h_M5
theorem kq_Jx35411_init_45d68 {M0 : zM} {a0 : Nat} {a1 : Nat} {M : zM} (hM : FQ M0 M) : KF (FQ M0) (f_Jx35411_init_45d68 a0 a1 M) := by
  unfold f_Jx35411_init_45d68
  exact (kq_Jx35411_init_45d68_0 hM)
theorem kq_Jx4a65c_iterator_32c93_0 {M0 : zM} {a0 : Nat} {M : zM} (hM : FQ M0 M) : KF (FQ M0) (f_Jx4a65c_iterator_32c93_0 a0 M) := by
  unfold f_Jx4a65c_iterator_32c93_0
  refine KF.c (kq_Jx35411_init_45d68 (fq_nO hM)) fun r1 h_r1 => ?_
  exact KF.s h_r1
theorem kq_Jx4a65c_iterator_32c93 {M0 : zM} {a0 : Nat} {M : zM} (hM : FQ M0 M) : KF (FQ M0) (f_Jx4a65c_iterator_32c93 a0 M) := by
  unfold f_Jx4a65c_iterator_32c93
  exact (kq_Jx4a65c_iterator_32c93_0 hM)
theorem kq_X6_open_10 {M0 : zM} : ∀ (n : Nat) {i1 : Int32} {a2 : Nat} {M : zM}, FQ M0 M → KF (FQ M0) (f_X6_open_10 n i1 a2 M) := by
  intro n
  induction n with
  | zero => exact fun _ => KF.n
  | succ n ih =>
    intro i1 a2 M hM
    rw [f_X6_open_10]
    refine KF.i ?_ KF.n
    refine KF.c (kq_Jx35411_hasNext_aae02 hM) fun r1 h_r1 => ?_
    refine KF.i ?_ ?_
    · exact KF.s h_r1
    · refine KF.i ?_ KF.n
      refine KF.c (kq_Jx35411_next_0502b h_r1) fun r3 h_r3 => ?_
      refine KF.i ?_ KF.n
      refine KF.i ?_ KF.n
      refine KF.c (kq_X5_isOpen h_r3) fun r6 h_r6 => ?_
      refine KF.i ?_ ?_
      · exact (ih h_r6)
      · exact (ih h_r6)
theorem kq_X6_open_0 {M0 : zM} {a0 : Nat} {M : zM} (hM : FQ M0 M) : KF (FQ M0) (f_X6_open_0 a0 M) := by
  unfold f_X6_open_0
  refine KF.b fun v1 => ?_
  refine KF.i ?_ KF.n
  refine KF.c (kq_Jx4a65c_iterator_32c93 hM) fun r2 h_r2 => ?_
  exact (kq_X6_open_10 zN h_r2)
theorem kq_X6_open {M0 : zM} {a0 : Nat} {M : zM} (hM : FQ M0 M) : KF (FQ M0) (f_X6_open a0 M) := by
  unfold f_X6_open
  exact (kq_X6_open_0 hM)
theorem kq_X7_isRun_0 {M0 : zM} {i0 : Int32} {i1 : Int32} {M : zM} (hM : FQ M0 M) : KF (FQ M0) (f_X7_isRun_0 i0 i1 M) := by
  unfold f_X7_isRun_0
  refine KF.i ?_ ?_
  · exact KF.s hM
  · refine KF.i ?_ ?_
    · exact KF.s hM
    · refine KF.i ?_ ?_
      · exact KF.s hM
      · exact KF.s hM
theorem kq_X7_isRun {M0 : zM} {i0 : Int32} {i1 : Int32} {M : zM} (hM : FQ M0 M) : KF (FQ M0) (f_X7_isRun i0 i1 M) := by
  unfold f_X7_isRun
  exact (kq_X7_isRun_0 hM)
theorem kq_X7_with_77 {M0 : zM} {RC_X7_far : Nat → Int32 → Int32 → Int32 → Int32 → zM → Option (Int32 × zM)} (hRC_X7_far : ∀ {x0 : Nat} {x1 : Int32} {x2 : Int32} {x3 : Int32} {x4 : Int32} {M : zM}, FQ M0 M → KF (FQ M0) (RC_X7_far x0 x1 x2 x3 x4 M)) {a0 : Nat} {i1 : Int32} {i2 : Int32} {i3 : Int32} {i_0 : Int32} {M : zM} (hM : FQ M0 M) : KF (FQ M0) (f_X7_with_77 RC_X7_far a0 i1 i2 i3 i_0 M) := by
  unfold f_X7_with_77
  refine KF.b fun v1 => ?_
  refine KF.w (fq_tA hM) fun M2 h_M2 => ?_
  refine KF.b fun v3 => ?_
  refine KF.w (fq_tA h_M2) fun M4 h_M4 => ?_
  refine KF.i ?_ ?_
  · exact KF.s h_M4
  · refine KF.b fun v5 => ?_
    refine KF.w (fq_tA h_M4) fun M6 h_M6 => ?_
    exact KF.s h_M6
theorem kq_X7_with_54 {M0 : zM} {RC_X7_far : Nat → Int32 → Int32 → Int32 → Int32 → zM → Option (Int32 × zM)} (hRC_X7_far : ∀ {x0 : Nat} {x1 : Int32} {x2 : Int32} {x3 : Int32} {x4 : Int32} {M : zM}, FQ M0 M → KF (FQ M0) (RC_X7_far x0 x1 x2 x3 x4 M)) {a0 : Nat} {i1 : Int32} {i2 : Int32} {i3 : Int32} {i4 : Int32} {i5 : Int32} {i6 : Int32} {i_0 : Int32} {M : zM} (hM : FQ M0 M) : KF (FQ M0) (f_X7_with_54 RC_X7_far a0 i1 i2 i3 i4 i5 i6 i_0 M) := by
  unfold f_X7_with_54
  refine KF.i ?_ ?_
  · exact (kq_X7_with_77 hRC_X7_far hM)
  · refine KF.c (hRC_X7_far hM) fun r1 h_r1 => ?_
    exact (kq_X7_with_77 hRC_X7_far h_r1)
theorem kq_X7_with_53 {M0 : zM} {RC_X7_far : Nat → Int32 → Int32 → Int32 → Int32 → zM → Option (Int32 × zM)} (hRC_X7_far : ∀ {x0 : Nat} {x1 : Int32} {x2 : Int32} {x3 : Int32} {x4 : Int32} {M : zM}, FQ M0 M → KF (FQ M0) (RC_X7_far x0 x1 x2 x3 x4 M)) {a0 : Nat} {i1 : Int32} {i2 : Int32} {i3 : Int32} {i4 : Int32} {i5 : Int32} {i6 : Int32} {M : zM} (hM : FQ M0 M) : KF (FQ M0) (f_X7_with_53 RC_X7_far a0 i1 i2 i3 i4 i5 i6 M) := by
  unfold f_X7_with_53
  exact (kq_X7_with_54 hRC_X7_far hM)
theorem kq_X7_with_49 {M0 : zM} {RC_X7_far : Nat → Int32 → Int32 → Int32 → Int32 → zM → Option (Int32 × zM)} (hRC_X7_far : ∀ {x0 : Nat} {x1 : Int32} {x2 : Int32} {x3 : Int32} {x4 : Int32} {M : zM}, FQ M0 M → KF (FQ M0) (RC_X7_far x0 x1 x2 x3 x4 M)) {a0 : Nat} {i1 : Int32} {i2 : Int32} {i3 : Int32} {i4 : Int32} {i5 : Int32} {i6 : Int32} {M : zM} (hM : FQ M0 M) : KF (FQ M0) (f_X7_with_49 RC_X7_far a0 i1 i2 i3 i4 i5 i6 M) := by
  unfold f_X7_with_49
  exact (kq_X7_with_54 hRC_X7_far hM)
theorem kq_X7_with_26 {M0 : zM} {RC_X7_far : Nat → Int32 → Int32 → Int32 → Int32 → zM → Option (Int32 × zM)} (hRC_X7_far : ∀ {x0 : Nat} {x1 : Int32} {x2 : Int32} {x3 : Int32} {x4 : Int32} {M : zM}, FQ M0 M → KF (FQ M0) (RC_X7_far x0 x1 x2 x3 x4 M)) {a0 : Nat} {i1 : Int32} {i2 : Int32} {i3 : Int32} {i4 : Int32} {i5 : Int32} {i6 : Int32} {M : zM} (hM : FQ M0 M) : KF (FQ M0) (f_X7_with_26 RC_X7_far a0 i1 i2 i3 i4 i5 i6 M) := by
  unfold f_X7_with_26
  refine KF.b fun v1 => ?_
  refine KF.i ?_ ?_
  · exact (kq_X7_with_53 hRC_X7_far hM)
  · refine KF.b fun v2 => ?_
    refine KF.i ?_ ?_
    · exact (kq_X7_with_53 hRC_X7_far hM)
    · refine KF.i ?_ ?_
      · exact (kq_X7_with_49 hRC_X7_far hM)
      · refine KF.b fun v3 => ?_
        refine KF.i ?_ ?_
        · exact (kq_X7_with_53 hRC_X7_far hM)
        · exact (kq_X7_with_49 hRC_X7_far hM)
theorem kq_X7_with_0 {M0 : zM} {RC_X7_far : Nat → Int32 → Int32 → Int32 → Int32 → zM → Option (Int32 × zM)} (hRC_X7_far : ∀ {x0 : Nat} {x1 : Int32} {x2 : Int32} {x3 : Int32} {x4 : Int32} {M : zM}, FQ M0 M → KF (FQ M0) (RC_X7_far x0 x1 x2 x3 x4 M)) {a0 : Nat} {i1 : Int32} {i2 : Int32} {i3 : Int32} {i4 : Int32} {i5 : Int32} {i6 : Int32} {M : zM} (hM : FQ M0 M) : KF (FQ M0) (f_X7_with_0 RC_X7_far a0 i1 i2 i3 i4 i5 i6 M) := by
  unfold f_X7_with_0
  refine KF.b fun v1 => ?_
  refine KF.w (fq_tA hM) fun M2 h_M2 => ?_
  refine KF.b fun v3 => ?_
  refine KF.w (fq_tA h_M2) fun M4 h_M4 => ?_
  refine KF.i ?_ ?_
  · exact (kq_X7_with_26 hRC_X7_far h_M4)
  · refine KF.b fun v5 => ?_
    refine KF.w (fq_tA h_M4) fun M6 h_M6 => ?_
    exact (kq_X7_with_26 hRC_X7_far h_M6)
theorem kq_X7_with {M0 : zM} {RC_X7_far : Nat → Int32 → Int32 → Int32 → Int32 → zM → Option (Int32 × zM)} (hRC_X7_far : ∀ {x0 : Nat} {x1 : Int32} {x2 : Int32} {x3 : Int32} {x4 : Int32} {M : zM}, FQ M0 M → KF (FQ M0) (RC_X7_far x0 x1 x2 x3 x4 M)) {a0 : Nat} {i1 : Int32} {i2 : Int32} {i3 : Int32} {i4 : Int32} {i5 : Int32} {i6 : Int32} {M : zM} (hM : FQ M0 M) : KF (FQ M0) (f_X7_with RC_X7_far a0 i1 i2 i3 i4 i5 i6 M) := by
  unfold f_X7_with
  exact (kq_X7_with_0 hRC_X7_far hM)
theorem kq_X7_far_251 {M0 : zM} {RC_X7_far : Nat → Int32 → Int32 → Int32 → Int32 → zM → Option (Int32 × zM)} (hRC_X7_far : ∀ {x0 : Nat} {x1 : Int32} {x2 : Int32} {x3 : Int32} {x4 : Int32} {M : zM}, FQ M0 M → KF (FQ M0) (RC_X7_far x0 x1 x2 x3 x4 M)) {a0 : Nat} {i2 : Int32} {i3 : Int32} {i4 : Int32} {i5 : Int32} {i6 : Int32} {M : zM} (hM : FQ M0 M) : KF (FQ M0) (f_X7_far_251 RC_X7_far a0 i2 i3 i4 i5 i6 M) := by
  unfold f_X7_far_251
  refine KF.b fun v1 => ?_
  refine KF.w (fq_tA hM) fun M2 h_M2 => ?_
  refine KF.c (hRC_X7_far h_M2) fun r3 h_r3 => ?_
  refine KF.c (kq_J9_min_7cf53 h_r3) fun r4 h_r4 => ?_
  refine KF.b fun v5 => ?_
  refine KF.w (fq_tA h_r4) fun M6 h_M6 => ?_
  exact KF.s h_M6
theorem kq_X7_far_227 {M0 : zM} {RC_X7_far : Nat → Int32 → Int32 → Int32 → Int32 → zM → Option (Int32 × zM)} (hRC_X7_far : ∀ {x0 : Nat} {x1 : Int32} {x2 : Int32} {x3 : Int32} {x4 : Int32} {M : zM}, FQ M0 M → KF (FQ M0) (RC_X7_far x0 x1 x2 x3 x4 M)) {a0 : Nat} {i2 : Int32} {i3 : Int32} {i4 : Int32} {i5 : Int32} {i6 : Int32} {M : zM} (hM : FQ M0 M) : KF (FQ M0) (f_X7_far_227 RC_X7_far a0 i2 i3 i4 i5 i6 M) := by
  unfold f_X7_far_227
  refine KF.i ?_ ?_
  · refine KF.c (kq_X7_with hRC_X7_far hM) fun r1 h_r1 => ?_
    refine KF.c (kq_J9_min_7cf53 h_r1) fun r2 h_r2 => ?_
    exact (kq_X7_far_251 hRC_X7_far h_r2)
  · exact (kq_X7_far_251 hRC_X7_far hM)
theorem kq_X7_far_194 {M0 : zM} {RC_X7_far : Nat → Int32 → Int32 → Int32 → Int32 → zM → Option (Int32 × zM)} (hRC_X7_far : ∀ {x0 : Nat} {x1 : Int32} {x2 : Int32} {x3 : Int32} {x4 : Int32} {M : zM}, FQ M0 M → KF (FQ M0) (RC_X7_far x0 x1 x2 x3 x4 M)) {a0 : Nat} {i2 : Int32} {i3 : Int32} {i4 : Int32} {i5 : Int32} {i6 : Int32} {M : zM} (hM : FQ M0 M) : KF (FQ M0) (f_X7_far_194 RC_X7_far a0 i2 i3 i4 i5 i6 M) := by
  unfold f_X7_far_194
  refine KF.c (kq_X7_isRun hM) fun r1 h_r1 => ?_
  refine KF.i ?_ ?_
  · exact (kq_X7_far_227 hRC_X7_far h_r1)
  · refine KF.c (kq_X7_with hRC_X7_far h_r1) fun r2 h_r2 => ?_
    refine KF.c (kq_J9_min_7cf53 h_r2) fun r3 h_r3 => ?_
    exact (kq_X7_far_227 hRC_X7_far h_r3)
theorem kq_X7_far_132 {M0 : zM} {RC_X7_far : Nat → Int32 → Int32 → Int32 → Int32 → zM → Option (Int32 × zM)} (hRC_X7_far : ∀ {x0 : Nat} {x1 : Int32} {x2 : Int32} {x3 : Int32} {x4 : Int32} {M : zM}, FQ M0 M → KF (FQ M0) (RC_X7_far x0 x1 x2 x3 x4 M)) {a0 : Nat} {i2 : Int32} {i3 : Int32} {i4 : Int32} {i5 : Int32} {i6 : Int32} {M : zM} (hM : FQ M0 M) : KF (FQ M0) (f_X7_far_132 RC_X7_far a0 i2 i3 i4 i5 i6 M) := by
  unfold f_X7_far_132
  refine KF.i ?_ ?_
  · exact (kq_X7_far_227 hRC_X7_far hM)
  · refine KF.c (kq_X7_with hRC_X7_far hM) fun r1 h_r1 => ?_
    refine KF.c (kq_J9_min_7cf53 h_r1) fun r2 h_r2 => ?_
    refine KF.c (kq_X7_isRun h_r2) fun r3 h_r3 => ?_
    refine KF.i ?_ ?_
    · exact (kq_X7_far_194 hRC_X7_far h_r3)
    · refine KF.c (kq_X7_with hRC_X7_far h_r3) fun r4 h_r4 => ?_
      refine KF.c (kq_J9_min_7cf53 h_r4) fun r5 h_r5 => ?_
      exact (kq_X7_far_194 hRC_X7_far h_r5)
theorem kq_X7_far_59 {M0 : zM} {RC_X7_far : Nat → Int32 → Int32 → Int32 → Int32 → zM → Option (Int32 × zM)} (hRC_X7_far : ∀ {x0 : Nat} {x1 : Int32} {x2 : Int32} {x3 : Int32} {x4 : Int32} {M : zM}, FQ M0 M → KF (FQ M0) (RC_X7_far x0 x1 x2 x3 x4 M)) {a0 : Nat} {i2 : Int32} {i3 : Int32} {i4 : Int32} {i5 : Int32} {i6 : Int32} {M : zM} (hM : FQ M0 M) : KF (FQ M0) (f_X7_far_59 RC_X7_far a0 i2 i3 i4 i5 i6 M) := by
  unfold f_X7_far_59
  refine KF.i ?_ ?_
  · exact (kq_X7_far_132 hRC_X7_far hM)
  · refine KF.i ?_ ?_
    · exact (kq_X7_far_132 hRC_X7_far hM)
    · refine KF.c (kq_X7_with hRC_X7_far hM) fun r1 h_r1 => ?_
      refine KF.c (kq_J9_min_7cf53 h_r1) fun r2 h_r2 => ?_
      refine KF.c (kq_X7_isRun h_r2) fun r3 h_r3 => ?_
      refine KF.i ?_ ?_
      · exact (kq_X7_far_132 hRC_X7_far h_r3)
      · refine KF.c (kq_X7_with hRC_X7_far h_r3) fun r4 h_r4 => ?_
        refine KF.c (kq_J9_min_7cf53 h_r4) fun r5 h_r5 => ?_
        exact (kq_X7_far_132 hRC_X7_far h_r5)
theorem kq_X7_far_23 {M0 : zM} {RC_X7_far : Nat → Int32 → Int32 → Int32 → Int32 → zM → Option (Int32 × zM)} (hRC_X7_far : ∀ {x0 : Nat} {x1 : Int32} {x2 : Int32} {x3 : Int32} {x4 : Int32} {M : zM}, FQ M0 M → KF (FQ M0) (RC_X7_far x0 x1 x2 x3 x4 M)) {a0 : Nat} {i2 : Int32} {i3 : Int32} {i4 : Int32} {i5 : Int32} {M : zM} (hM : FQ M0 M) : KF (FQ M0) (f_X7_far_23 RC_X7_far a0 i2 i3 i4 i5 M) := by
  unfold f_X7_far_23
  refine KF.i ?_ ?_
  · exact KF.s hM
  · refine KF.i ?_ ?_
    · refine KF.i ?_ ?_
      · exact KF.s hM
      · exact (kq_X7_far_59 hRC_X7_far hM)
    · exact (kq_X7_far_59 hRC_X7_far hM)
theorem kq_X7_far_3 {M0 : zM} {RC_X7_far : Nat → Int32 → Int32 → Int32 → Int32 → zM → Option (Int32 × zM)} (hRC_X7_far : ∀ {x0 : Nat} {x1 : Int32} {x2 : Int32} {x3 : Int32} {x4 : Int32} {M : zM}, FQ M0 M → KF (FQ M0) (RC_X7_far x0 x1 x2 x3 x4 M)) : ∀ (n : Nat) {a0 : Nat} {i2 : Int32} {i3 : Int32} {i4 : Int32} {i5 : Int32} {M : zM}, FQ M0 M → KF (FQ M0) (f_X7_far_3 RC_X7_far n a0 i2 i3 i4 i5 M) := by
  intro n
  induction n with
  | zero => exact fun _ => KF.n
  | succ n ih =>
    intro a0 i2 i3 i4 i5 M hM
    rw [f_X7_far_3]
    refine KF.i ?_ ?_
    · exact (kq_X7_far_23 hRC_X7_far hM)
    · refine KF.b fun v1 => ?_
      refine KF.i ?_ ?_
      · exact (ih hM)
      · exact (kq_X7_far_23 hRC_X7_far hM)
theorem kq_X7_far_0 {M0 : zM} {RC_X7_far : Nat → Int32 → Int32 → Int32 → Int32 → zM → Option (Int32 × zM)} (hRC_X7_far : ∀ {x0 : Nat} {x1 : Int32} {x2 : Int32} {x3 : Int32} {x4 : Int32} {M : zM}, FQ M0 M → KF (FQ M0) (RC_X7_far x0 x1 x2 x3 x4 M)) {a0 : Nat} {i1 : Int32} {i2 : Int32} {i3 : Int32} {i4 : Int32} {M : zM} (hM : FQ M0 M) : KF (FQ M0) (f_X7_far_0 RC_X7_far a0 i1 i2 i3 i4 M) := by
  unfold f_X7_far_0
  exact (kq_X7_far_3 hRC_X7_far zN hM)
theorem kq_X7_far {M0 : zM} : ∀ (n : Nat) {a0 : Nat} {i1 : Int32} {i2 : Int32} {i3 : Int32} {i4 : Int32} {M : zM}, FQ M0 M → KF (FQ M0) (f_X7_far n a0 i1 i2 i3 i4 M) := by
  intro n
  induction n with
  | zero => exact fun _ => KF.n
  | succ n ih =>
    intro a0 i1 i2 i3 i4 M hM
    rw [f_X7_far]
    exact (kq_X7_far_0 ih hM)
theorem kq_X6_far_0 {M0 : zM} {a0 : Nat} {M : zM} (hM : FQ M0 M) : KF (FQ M0) (f_X6_far_0 a0 M) := by
  unfold f_X6_far_0
  refine KF.b fun v1 => ?_
  refine KF.b fun v2 => ?_
  refine KF.i ?_ KF.n
  refine KF.c (kq_Jx4a65c_size_8abf5 hM) fun r3 h_r3 => ?_
  refine KF.c (kq_X7_far zR h_r3) fun r5 h_r5 => ?_
  exact KF.s h_r5
theorem kq_X6_far {M0 : zM} {a0 : Nat} {M : zM} (hM : FQ M0 M) : KF (FQ M0) (f_X6_far a0 M) := by
  unfold f_X6_far
  exact (kq_X6_far_0 hM)
theorem kq_X6_farWith_0 {M0 : zM} {a0 : Nat} {i1 : Int32} {i2 : Int32} {M : zM} (hM : FQ M0 M) : KF (FQ M0) (f_X6_farWith_0 a0 i1 i2 M) := by
  unfold f_X6_farWith_0
  refine KF.b fun v1 => ?_
  refine KF.b fun v2 => ?_
  refine KF.w (fq_tA hM) fun M3 h_M3 => ?_
  refine KF.i ?_ KF.n
  refine KF.c (kq_X6_far h_M3) fun r4 h_r4 => ?_
  refine KF.b fun v6 => ?_
  refine KF.b fun v7 => ?_
  refine KF.w (fq_tA h_r4) fun M8 h_M8 => ?_
  exact KF.s h_M8
theorem kq_X6_farWith {M0 : zM} {a0 : Nat} {i1 : Int32} {i2 : Int32} {M : zM} (hM : FQ M0 M) : KF (FQ M0) (f_X6_farWith a0 i1 i2 M) := by
  unfold f_X6_farWith
  exact (kq_X6_farWith_0 hM)
theorem kq_X7_areSets_139 {M0 : zM} {RC_X7_areSets : Nat → Int32 → zM → Option (Int32 × zM)} (hRC_X7_areSets : ∀ {x0 : Nat} {x1 : Int32} {M : zM}, FQ M0 M → KF (FQ M0) (RC_X7_areSets x0 x1 M)) : ∀ (n : Nat) {a0 : Nat} {i2 : Int32} {i3 : Int32} {i4 : Int32} {M : zM}, FQ M0 M → KF (FQ M0) (f_X7_areSets_139 RC_X7_areSets n a0 i2 i3 i4 M) := by
  intro n
  induction n with
  | zero => exact fun _ => KF.n
  | succ n ih =>
    intro a0 i2 i3 i4 M hM
    rw [f_X7_areSets_139]
    refine KF.i ?_ ?_
    · refine KF.i ?_ KF.n
      exact KF.s hM
    · refine KF.b fun v2 => ?_
      refine KF.w (fq_tA hM) fun M3 h_M3 => ?_
      exact (ih h_M3)
theorem kq_X7_areSets_106 {M0 : zM} {RC_X7_areSets : Nat → Int32 → zM → Option (Int32 × zM)} (hRC_X7_areSets : ∀ {x0 : Nat} {x1 : Int32} {M : zM}, FQ M0 M → KF (FQ M0) (RC_X7_areSets x0 x1 M)) : ∀ (n : Nat) {a0 : Nat} {i1 : Int32} {i2 : Int32} {i4 : Int32} {M : zM}, FQ M0 M → KF (FQ M0) (f_X7_areSets_106 RC_X7_areSets n a0 i1 i2 i4 M) := by
  intro n
  induction n with
  | zero => exact fun _ => KF.n
  | succ n ih =>
    intro a0 i1 i2 i4 M hM
    rw [f_X7_areSets_106]
    refine KF.i ?_ ?_
    · refine KF.c (hRC_X7_areSets hM) fun r1 h_r1 => ?_
      exact (kq_X7_areSets_139 hRC_X7_areSets zN h_r1)
    · refine KF.b fun v2 => ?_
      refine KF.w (fq_tA hM) fun M3 h_M3 => ?_
      exact (ih h_M3)
theorem kq_X7_areSets_73 {M0 : zM} {RC_X7_areSets : Nat → Int32 → zM → Option (Int32 × zM)} (hRC_X7_areSets : ∀ {x0 : Nat} {x1 : Int32} {M : zM}, FQ M0 M → KF (FQ M0) (RC_X7_areSets x0 x1 M)) {a0 : Nat} {i1 : Int32} {i2 : Int32} {i3 : Int32} {M : zM} (hM : FQ M0 M) : KF (FQ M0) (f_X7_areSets_73 RC_X7_areSets a0 i1 i2 i3 M) := by
  unfold f_X7_areSets_73
  refine KF.i ?_ ?_
  · refine KF.c (kq_X7_isRun hM) fun r2 h_r2 => ?_
    refine KF.i ?_ ?_
    · refine KF.i ?_ KF.n
      exact KF.s h_r2
    · refine KF.b fun v4 => ?_
      refine KF.i ?_ ?_
      · refine KF.i ?_ KF.n
        exact KF.s h_r2
      · refine KF.b fun v6 => ?_
        refine KF.i ?_ ?_
        · refine KF.i ?_ KF.n
          exact KF.s h_r2
        · exact (kq_X7_areSets_106 hRC_X7_areSets zN h_r2)
  · refine KF.i ?_ KF.n
    exact KF.s hM
theorem kq_X7_areSets_20 {M0 : zM} {RC_X7_areSets : Nat → Int32 → zM → Option (Int32 × zM)} (hRC_X7_areSets : ∀ {x0 : Nat} {x1 : Int32} {M : zM}, FQ M0 M → KF (FQ M0) (RC_X7_areSets x0 x1 M)) {a0 : Nat} {i1 : Int32} {i2 : Int32} {M : zM} (hM : FQ M0 M) : KF (FQ M0) (f_X7_areSets_20 RC_X7_areSets a0 i1 i2 M) := by
  unfold f_X7_areSets_20
  refine KF.i ?_ ?_
  · refine KF.i ?_ ?_
    · exact KF.s hM
    · exact KF.s hM
  · refine KF.i ?_ ?_
    · exact KF.s hM
    · refine KF.b fun v1 => ?_
      refine KF.i ?_ ?_
      · exact (kq_X7_areSets_73 hRC_X7_areSets hM)
      · refine KF.b fun v2 => ?_
        refine KF.w (fq_tA hM) fun M3 h_M3 => ?_
        refine KF.c (hRC_X7_areSets h_M3) fun r4 h_r4 => ?_
        refine KF.b fun v5 => ?_
        refine KF.w (fq_tA h_r4) fun M6 h_M6 => ?_
        exact (kq_X7_areSets_73 hRC_X7_areSets h_M6)
theorem kq_X7_areSets_2 {M0 : zM} {RC_X7_areSets : Nat → Int32 → zM → Option (Int32 × zM)} (hRC_X7_areSets : ∀ {x0 : Nat} {x1 : Int32} {M : zM}, FQ M0 M → KF (FQ M0) (RC_X7_areSets x0 x1 M)) : ∀ (n : Nat) {a0 : Nat} {i1 : Int32} {i2 : Int32} {M : zM}, FQ M0 M → KF (FQ M0) (f_X7_areSets_2 RC_X7_areSets n a0 i1 i2 M) := by
  intro n
  induction n with
  | zero => exact fun _ => KF.n
  | succ n ih =>
    intro a0 i1 i2 M hM
    rw [f_X7_areSets_2]
    refine KF.i ?_ ?_
    · exact (kq_X7_areSets_20 hRC_X7_areSets hM)
    · refine KF.b fun v1 => ?_
      refine KF.i ?_ ?_
      · exact (ih hM)
      · exact (kq_X7_areSets_20 hRC_X7_areSets hM)
theorem kq_X7_areSets_0 {M0 : zM} {RC_X7_areSets : Nat → Int32 → zM → Option (Int32 × zM)} (hRC_X7_areSets : ∀ {x0 : Nat} {x1 : Int32} {M : zM}, FQ M0 M → KF (FQ M0) (RC_X7_areSets x0 x1 M)) {a0 : Nat} {i1 : Int32} {M : zM} (hM : FQ M0 M) : KF (FQ M0) (f_X7_areSets_0 RC_X7_areSets a0 i1 M) := by
  unfold f_X7_areSets_0
  exact (kq_X7_areSets_2 hRC_X7_areSets zN hM)
theorem kq_X7_areSets {M0 : zM} : ∀ (n : Nat) {a0 : Nat} {i1 : Int32} {M : zM}, FQ M0 M → KF (FQ M0) (f_X7_areSets n a0 i1 M) := by
  intro n
  induction n with
  | zero => exact fun _ => KF.n
  | succ n ih =>
    intro a0 i1 M hM
    rw [f_X7_areSets]
    exact (kq_X7_areSets_0 ih hM)
theorem kq_X7_isComplete_2 {M0 : zM} : ∀ (n : Nat) {a0 : Nat} {i1 : Int32} {i2 : Int32} {M : zM}, FQ M0 M → KF (FQ M0) (f_X7_isComplete_2 n a0 i1 i2 M) := by
  intro n
  induction n with
  | zero => exact fun _ => KF.n
  | succ n ih =>
    intro a0 i1 i2 M hM
    rw [f_X7_isComplete_2]
    refine KF.i ?_ ?_
    · exact KF.s hM
    · refine KF.b fun v1 => ?_
      refine KF.i ?_ ?_
      · refine KF.b fun v2 => ?_
        refine KF.w (fq_tA hM) fun M3 h_M3 => ?_
        refine KF.c (kq_X7_areSets zR h_M3) fun r4 h_r4 => ?_
        refine KF.b fun v5 => ?_
        refine KF.w (fq_tA h_r4) fun M6 h_M6 => ?_
        refine KF.i ?_ ?_
        · exact (ih h_M6)
        · exact KF.s h_M6
      · exact (ih hM)
theorem kq_X7_isComplete_0 {M0 : zM} {a0 : Nat} {i1 : Int32} {M : zM} (hM : FQ M0 M) : KF (FQ M0) (f_X7_isComplete_0 a0 i1 M) := by
  unfold f_X7_isComplete_0
  exact (kq_X7_isComplete_2 zN hM)
theorem kq_X7_isComplete {M0 : zM} {a0 : Nat} {i1 : Int32} {M : zM} (hM : FQ M0 M) : KF (FQ M0) (f_X7_isComplete a0 i1 M) := by
  unfold f_X7_isComplete
  exact (kq_X7_isComplete_0 hM)
theorem kq_X6_waits_64 {M0 : zM} {K4 : Nat → Int64 → Int32 → zM → Option (Int64 × zM)} (hK4 : ∀ {x0 : Nat} {x1 : Int64} {x2 : Int32} {M : zM}, FQ M0 M → KF (FQ M0) (K4 x0 x1 x2 M)) {a0 : Nat} {i3 : Int32} {j_0 : Int64} {j_1 : Int64} {M : zM} (hM : FQ M0 M) : KF (FQ M0) (f_X6_waits_64 K4 a0 i3 j_0 j_1 M) := by
  unfold f_X6_waits_64
  refine KF.b fun v1 => ?_
  refine KF.b fun v2 => ?_
  refine KF.w (fq_tA hM) fun M3 h_M3 => ?_
  exact (hK4 h_M3)
theorem kq_X6_waits_4 {M0 : zM} : ∀ (n : Nat) {a0 : Nat} {j1 : Int64} {i3 : Int32} {M : zM}, FQ M0 M → KF (FQ M0) (f_X6_waits_4 n a0 j1 i3 M) := by
  intro n
  induction n with
  | zero => exact fun _ => KF.n
  | succ n ih =>
    intro a0 j1 i3 M hM
    rw [f_X6_waits_4]
    refine KF.i ?_ ?_
    · exact KF.s hM
    · refine KF.i ?_ KF.n
      refine KF.c (kq_X6_tiles hM) fun r1 h_r1 => ?_
      refine KF.b fun v3 => ?_
      refine KF.i ?_ KF.n
      refine KF.c (kq_Jx4a65c_size_8abf5 h_r1) fun r4 h_r4 => ?_
      refine KF.i ?_ ?_
      · refine KF.b fun v6 => ?_
        refine KF.b fun v7 => ?_
        refine KF.w (fq_tA h_r4) fun M8 h_M8 => ?_
        refine KF.b fun v9 => ?_
        refine KF.b fun v10 => ?_
        refine KF.i ?_ KF.n
        refine KF.c (kq_Jx4a65c_size_8abf5 h_M8) fun r11 h_r11 => ?_
        refine KF.c (kq_X7_isComplete h_r11) fun r13 h_r13 => ?_
        refine KF.i ?_ ?_
        · exact (kq_X6_waits_64 ih h_r13)
        · exact (kq_X6_waits_64 ih h_r13)
      · exact KF.s h_r4
theorem kq_X6_waits_0 {M0 : zM} {a0 : Nat} {M : zM} (hM : FQ M0 M) : KF (FQ M0) (f_X6_waits_0 a0 M) := by
  unfold f_X6_waits_0
  exact (kq_X6_waits_4 zN hM)
theorem kq_X6_waits {M0 : zM} {a0 : Nat} {M : zM} (hM : FQ M0 M) : KF (FQ M0) (f_X6_waits a0 M) := by
  unfold f_X6_waits
  exact (kq_X6_waits_0 hM)
theorem kq_X6_isReady_0 {M0 : zM} {a0 : Nat} {M : zM} (hM : FQ M0 M) : KF (FQ M0) (f_X6_isReady_0 a0 M) := by
  unfold f_X6_isReady_0
  refine KF.i ?_ KF.n
  refine KF.c (kq_X6_waits hM) fun r1 h_r1 => ?_
  refine KF.i ?_ ?_
  · exact KF.s h_r1
  · exact KF.s h_r1
theorem kq_X6_isReady {M0 : zM} {a0 : Nat} {M : zM} (hM : FQ M0 M) : KF (FQ M0) (f_X6_isReady a0 M) := by
  unfold f_X6_isReady
  exact (kq_X6_isReady_0 hM)
theorem kq_X7_isKind_0 {M0 : zM} {i0 : Int32} {M : zM} (hM : FQ M0 M) : KF (FQ M0) (f_X7_isKind_0 i0 M) := by
  unfold f_X7_isKind_0
  refine KF.c (kq_X7_isIn hM) fun r1 h_r1 => ?_
  refine KF.i ?_ KF.n
  exact KF.s h_r1
theorem kq_X7_isKind {M0 : zM} {i0 : Int32} {M : zM} (hM : FQ M0 M) : KF (FQ M0) (f_X7_isKind i0 M) := by
  unfold f_X7_isKind
  exact (kq_X7_isKind_0 hM)
theorem kq_X7_isEnd_0 {M0 : zM} {i0 : Int32} {M : zM} (hM : FQ M0 M) : KF (FQ M0) (f_X7_isEnd_0 i0 M) := by
  unfold f_X7_isEnd_0
  refine KF.i ?_ ?_
  · exact KF.s hM
  · refine KF.i ?_ ?_
    · exact KF.s hM
    · refine KF.i ?_ ?_
      · exact KF.s hM
      · exact KF.s hM
theorem kq_X7_isEnd {M0 : zM} {i0 : Int32} {M : zM} (hM : FQ M0 M) : KF (FQ M0) (f_X7_isEnd i0 M) := by
  unfold f_X7_isEnd
  exact (kq_X7_isEnd_0 hM)
theorem kq_X7_lucky_0 {M0 : zM} {i0 : Int32} {M : zM} (hM : FQ M0 M) : KF (FQ M0) (f_X7_lucky_0 i0 M) := by
  unfold f_X7_lucky_0
  refine KF.i ?_ ?_
  · refine KF.i ?_ ?_
    · exact KF.s hM
    · refine KF.i ?_ ?_
      · exact KF.s hM
      · exact KF.s hM
  · refine KF.i ?_ ?_
    · exact KF.s hM
    · exact KF.s hM
theorem kq_X7_lucky {M0 : zM} {i0 : Int32} {M : zM} (hM : FQ M0 M) : KF (FQ M0) (f_X7_lucky i0 M) := by
  unfold f_X7_lucky
  exact (kq_X7_lucky_0 hM)
theorem kq_X7_thrown_0 {M0 : zM} {a0 : Nat} {M : zM} (hM : FQ M0 M) : KF (FQ M0) (f_X7_thrown_0 a0 M) := by
  unfold f_X7_thrown_0
  refine KF.b fun v1 => ?_
  exact KF.s hM
theorem kq_X7_thrown {M0 : zM} {a0 : Nat} {M : zM} (hM : FQ M0 M) : KF (FQ M0) (f_X7_thrown a0 M) := by
  unfold f_X7_thrown
  exact (kq_X7_thrown_0 hM)
theorem kq_X7_refuse_16 {M0 : zM} {a0 : Nat} {M : zM} (hM : FQ M0 M) : KF (FQ M0) (f_X7_refuse_16 a0 M) := by
  unfold f_X7_refuse_16
  refine KF.b fun v1 => ?_
  refine KF.i ?_ ?_
  · exact KF.s hM
  · exact KF.s hM
theorem kq_X7_refuse_0 {M0 : zM} {a0 : Nat} {i1 : Int32} {i2 : Int32} {M : zM} (hM : FQ M0 M) : KF (FQ M0) (f_X7_refuse_0 a0 i1 i2 M) := by
  unfold f_X7_refuse_0
  refine KF.i ?_ ?_
  · exact (kq_X7_refuse_16 hM)
  · refine KF.b fun v1 => ?_
    refine KF.i ?_ ?_
    · refine KF.w (fq_pI hM rfl) fun M2 h_M2 => ?_
      exact (kq_X7_refuse_16 h_M2)
    · exact (kq_X7_refuse_16 hM)
theorem kq_X7_refuse {M0 : zM} {a0 : Nat} {i1 : Int32} {i2 : Int32} {M : zM} (hM : FQ M0 M) : KF (FQ M0) (f_X7_refuse a0 i1 i2 M) := by
  unfold f_X7_refuse
  exact (kq_X7_refuse_0 hM)
theorem kq_X7_start_0 {M0 : zM} {a0 : Nat} {i1 : Int32} {i2 : Int32} {M : zM} (hM : FQ M0 M) : KF (FQ M0) (f_X7_start_0 a0 i1 i2 M) := by
  unfold f_X7_start_0
  refine KF.w (fq_pI hM rfl) fun M1 h_M1 => ?_
  refine KF.i ?_ KF.n
  refine KF.c (kq_X7_refuse h_M1) fun r2 h_r2 => ?_
  refine KF.i ?_ KF.n
  exact KF.s h_r2
theorem kq_X7_start {M0 : zM} {a0 : Nat} {i1 : Int32} {i2 : Int32} {M : zM} (hM : FQ M0 M) : KF (FQ M0) (f_X7_start a0 i1 i2 M) := by
  unfold f_X7_start
  exact (kq_X7_start_0 hM)
theorem kq_X7_isNoPlayer_0 {M0 : zM} {i0 : Int32} {M : zM} (hM : FQ M0 M) : KF (FQ M0) (f_X7_isNoPlayer_0 i0 M) := by
  unfold f_X7_isNoPlayer_0
  refine KF.c (kq_X7_isIn hM) fun r1 h_r1 => ?_
  refine KF.i ?_ ?_
  · exact KF.s h_r1
  · exact KF.s h_r1
theorem kq_X7_isNoPlayer {M0 : zM} {i0 : Int32} {M : zM} (hM : FQ M0 M) : KF (FQ M0) (f_X7_isNoPlayer i0 M) := by
  unfold f_X7_isNoPlayer
  exact (kq_X7_isNoPlayer_0 hM)
theorem kq_X7_left_0 {M0 : zM} {a0 : Nat} {M : zM} (hM : FQ M0 M) : KF (FQ M0) (f_X7_left_0 a0 M) := by
  unfold f_X7_left_0
  refine KF.b fun v1 => ?_
  refine KF.i ?_ ?_
  · exact KF.s hM
  · refine KF.b fun v2 => ?_
    refine KF.b fun v3 => ?_
    exact KF.s hM
theorem kq_X7_left {M0 : zM} {a0 : Nat} {M : zM} (hM : FQ M0 M) : KF (FQ M0) (f_X7_left a0 M) := by
  unfold f_X7_left
  exact (kq_X7_left_0 hM)
theorem kq_X7_canDraw_0 {M0 : zM} {a0 : Nat} {M : zM} (hM : FQ M0 M) : KF (FQ M0) (f_X7_canDraw_0 a0 M) := by
  unfold f_X7_canDraw_0
  refine KF.i ?_ KF.n
  refine KF.c (kq_X7_left hM) fun r1 h_r1 => ?_
  refine KF.i ?_ ?_
  · exact KF.s h_r1
  · exact KF.s h_r1
theorem kq_X7_canDraw {M0 : zM} {a0 : Nat} {M : zM} (hM : FQ M0 M) : KF (FQ M0) (f_X7_canDraw a0 M) := by
  unfold f_X7_canDraw
  exact (kq_X7_canDraw_0 hM)
theorem kq_X7_its_0 {M0 : zM} {a0 : Nat} {M : zM} (hM : FQ M0 M) : KF (FQ M0) (f_X7_its_0 a0 M) := by
  unfold f_X7_its_0
  refine KF.b fun v1 => ?_
  refine KF.b fun v2 => ?_
  refine KF.b fun v3 => ?_
  exact KF.s hM
theorem kq_X7_its {M0 : zM} {a0 : Nat} {M : zM} (hM : FQ M0 M) : KF (FQ M0) (f_X7_its a0 M) := by
  unfold f_X7_its
  exact (kq_X7_its_0 hM)
theorem kq_X7_take_0 {M0 : zM} {a0 : Nat} {i1 : Int32} {M : zM} (hM : FQ M0 M) : KF (FQ M0) (f_X7_take_0 a0 i1 M) := by
  unfold f_X7_take_0
  refine KF.i ?_ KF.n
  refine KF.c (kq_X7_its hM) fun r1 h_r1 => ?_
  refine KF.b fun v3 => ?_
  refine KF.b fun v4 => ?_
  refine KF.w (fq_tA h_r1) fun M5 h_M5 => ?_
  refine KF.w (fq_pI h_M5 rfl) fun M6 h_M6 => ?_
  refine KF.w (fq_pI h_M6 rfl) fun M7 h_M7 => ?_
  exact KF.s h_M7
theorem kq_X7_take {M0 : zM} {a0 : Nat} {i1 : Int32} {M : zM} (hM : FQ M0 M) : KF (FQ M0) (f_X7_take a0 i1 M) := by
  unfold f_X7_take
  exact (kq_X7_take_0 hM)
theorem kq_Jxd2413_init_da8c8_0 {M0 : zM} {a0 : Nat} {M : zM} (hM : FQ M0 M) : KF (FQ M0) (f_Jxd2413_init_da8c8_0 a0 M) := by
  unfold f_Jxd2413_init_da8c8_0
  exact KF.s hM
theorem kq_Jxd2413_init_da8c8 {M0 : zM} {a0 : Nat} {M : zM} (hM : FQ M0 M) : KF (FQ M0) (f_Jxd2413_init_da8c8 a0 M) := by
  unfold f_Jxd2413_init_da8c8
  exact (kq_Jxd2413_init_da8c8_0 hM)
theorem kq_J6_init_d00df_0 {M0 : zM} {a0 : Nat} {i1 : Int32} {M : zM} (hM : FQ M0 M) : KF (FQ M0) (f_J6_init_d00df_0 a0 i1 M) := by
  unfold f_J6_init_d00df_0
  refine KF.c (kq_Jxd2413_init_da8c8 hM) fun r1 h_r1 => ?_
  refine KF.w (fq_pI h_r1 rfl) fun M2 h_M2 => ?_
  exact KF.s h_M2
theorem kq_J6_init_d00df {M0 : zM} {a0 : Nat} {i1 : Int32} {M : zM} (hM : FQ M0 M) : KF (FQ M0) (f_J6_init_d00df a0 i1 M) := by
  unfold f_J6_init_d00df
  exact (kq_J6_init_d00df_0 hM)
theorem kq_J6_valueOf_2dffe_23 {M0 : zM} {i0 : Int32} {M : zM} (hM : FQ M0 M) : KF (FQ M0) (f_J6_valueOf_2dffe_23 i0 M) := by
  unfold f_J6_valueOf_2dffe_23
  refine KF.c (kq_J6_init_d00df (fq_nO hM)) fun r1 h_r1 => ?_
  exact KF.s h_r1
theorem kq_J6_valueOf_2dffe_0 {M0 : zM} {i0 : Int32} {M : zM} (hM : FQ M0 M) : KF (FQ M0) (f_J6_valueOf_2dffe_0 i0 M) := by
  unfold f_J6_valueOf_2dffe_0
  refine KF.i ?_ ?_
  · exact (kq_J6_valueOf_2dffe_23 hM)
  · refine KF.i ?_ ?_
    · exact (kq_J6_valueOf_2dffe_23 hM)
    · refine KF.b fun v1 => ?_
      exact KF.s hM
theorem kq_J6_valueOf_2dffe {M0 : zM} {i0 : Int32} {M : zM} (hM : FQ M0 M) : KF (FQ M0) (f_J6_valueOf_2dffe i0 M) := by
  unfold f_J6_valueOf_2dffe
  exact (kq_J6_valueOf_2dffe_0 hM)
theorem kq_J7_copyOf_6403c_24 {M0 : zM} {a0 : Nat} {i1 : Int32} {a_0 : Nat} {M : zM} (hM : FQ M0 M) : KF (FQ M0) (f_J7_copyOf_6403c_24 a0 i1 a_0 M) := by
  unfold f_J7_copyOf_6403c_24
  refine KF.b fun v1 => ?_
  refine KF.c (kq_J9_min_7cf53 hM) fun r2 h_r2 => ?_
  refine KF.w (fq_yQ h_r2) fun M3 h_M3 => ?_
  exact KF.s h_M3
theorem kq_J7_copyOf_6403c_0 {M0 : zM} {a0 : Nat} {i1 : Int32} {a2 : Nat} {M : zM} (hM : FQ M0 M) : KF (FQ M0) (f_J7_copyOf_6403c_0 a0 i1 a2 M) := by
  unfold f_J7_copyOf_6403c_0
  refine KF.i ?_ KF.n
  refine KF.i ?_ KF.n
  refine KF.c (fq_aQ hM) fun r1 h_r1 => ?_
  exact (kq_J7_copyOf_6403c_24 h_r1)
theorem kq_J7_copyOf_6403c {M0 : zM} {a0 : Nat} {i1 : Int32} {a2 : Nat} {M : zM} (hM : FQ M0 M) : KF (FQ M0) (f_J7_copyOf_6403c a0 i1 a2 M) := by
  unfold f_J7_copyOf_6403c
  exact (kq_J7_copyOf_6403c_0 hM)
theorem kq_J7_copyOf_1904c_0 {M0 : zM} {a0 : Nat} {i1 : Int32} {M : zM} (hM : FQ M0 M) : KF (FQ M0) (f_J7_copyOf_1904c_0 a0 i1 M) := by
  unfold f_J7_copyOf_1904c_0
  refine KF.i ?_ KF.n
  refine KF.c (kq_J7_copyOf_6403c hM) fun r2 h_r2 => ?_
  exact KF.s h_r2
theorem kq_J7_copyOf_1904c {M0 : zM} {a0 : Nat} {i1 : Int32} {M : zM} (hM : FQ M0 M) : KF (FQ M0) (f_J7_copyOf_1904c a0 i1 M) := by
  unfold f_J7_copyOf_1904c
  exact (kq_J7_copyOf_1904c_0 hM)
theorem kq_Jx4a65c_grow_92f84_20 {M0 : zM} {a0 : Nat} {i1 : Int32} {i2 : Int32} {M : zM} (hM : FQ M0 M) : KF (FQ M0) (f_Jx4a65c_grow_92f84_20 a0 i1 i2 M) := by
  unfold f_Jx4a65c_grow_92f84_20
  refine KF.c (kq_J8_newLength_cabcc hM) fun r1 h_r1 => ?_
  refine KF.b fun v2 => ?_
  refine KF.c (kq_J7_copyOf_1904c h_r1) fun r3 h_r3 => ?_
  refine KF.w (fq_pR h_r3 rfl) fun M4 h_M4 => ?_
  exact KF.s h_M4
theorem kq_Jx4a65c_grow_92f84_0 {M0 : zM} {a0 : Nat} {i1 : Int32} {M : zM} (hM : FQ M0 M) : KF (FQ M0) (f_Jx4a65c_grow_92f84_0 a0 i1 M) := by
  unfold f_Jx4a65c_grow_92f84_0
  refine KF.b fun v1 => ?_
  refine KF.b fun v2 => ?_
  refine KF.i ?_ ?_
  · exact (kq_Jx4a65c_grow_92f84_20 hM)
  · refine KF.b fun v3 => ?_
    refine KF.i ?_ KF.n
    refine KF.i ?_ ?_
    · refine KF.c (kq_J9_max_7cf53 hM) fun r4 h_r4 => ?_
      refine KF.c (fq_aQ h_r4) fun r5 h_r5 => ?_
      refine KF.w (fq_pR h_r5 rfl) fun M6 h_M6 => ?_
      exact KF.s h_M6
    · exact (kq_Jx4a65c_grow_92f84_20 hM)
theorem kq_Jx4a65c_grow_92f84 {M0 : zM} {a0 : Nat} {i1 : Int32} {M : zM} (hM : FQ M0 M) : KF (FQ M0) (f_Jx4a65c_grow_92f84 a0 i1 M) := by
  unfold f_Jx4a65c_grow_92f84
  exact (kq_Jx4a65c_grow_92f84_0 hM)
theorem kq_Jx4a65c_grow_d5877_0 {M0 : zM} {a0 : Nat} {M : zM} (hM : FQ M0 M) : KF (FQ M0) (f_Jx4a65c_grow_d5877_0 a0 M) := by
  unfold f_Jx4a65c_grow_d5877_0
  refine KF.b fun v1 => ?_
  refine KF.i ?_ KF.n
  refine KF.c (kq_Jx4a65c_grow_92f84 hM) fun r2 h_r2 => ?_
  exact KF.s h_r2
theorem kq_Jx4a65c_grow_d5877 {M0 : zM} {a0 : Nat} {M : zM} (hM : FQ M0 M) : KF (FQ M0) (f_Jx4a65c_grow_d5877 a0 M) := by
  unfold f_Jx4a65c_grow_d5877
  exact (kq_Jx4a65c_grow_d5877_0 hM)
theorem kq_Jx4a65c_add_72be8_11 {M0 : zM} {a0 : Nat} {a1 : Nat} {a2 : Nat} {i3 : Int32} {M : zM} (hM : FQ M0 M) : KF (FQ M0) (f_Jx4a65c_add_72be8_11 a0 a1 a2 i3 M) := by
  unfold f_Jx4a65c_add_72be8_11
  refine KF.i ?_ KF.n
  refine KF.w (fq_tQ hM) fun M1 h_M1 => ?_
  refine KF.w (fq_pI h_M1 rfl) fun M2 h_M2 => ?_
  exact KF.s h_M2
theorem kq_Jx4a65c_add_72be8_0 {M0 : zM} {a0 : Nat} {a1 : Nat} {a2 : Nat} {i3 : Int32} {M : zM} (hM : FQ M0 M) : KF (FQ M0) (f_Jx4a65c_add_72be8_0 a0 a1 a2 i3 M) := by
  unfold f_Jx4a65c_add_72be8_0
  refine KF.b fun v1 => ?_
  refine KF.i ?_ ?_
  · refine KF.i ?_ KF.n
    refine KF.c (kq_Jx4a65c_grow_d5877 hM) fun r2 h_r2 => ?_
    exact (kq_Jx4a65c_add_72be8_11 h_r2)
  · exact (kq_Jx4a65c_add_72be8_11 hM)
theorem kq_Jx4a65c_add_72be8 {M0 : zM} {a0 : Nat} {a1 : Nat} {a2 : Nat} {i3 : Int32} {M : zM} (hM : FQ M0 M) : KF (FQ M0) (f_Jx4a65c_add_72be8 a0 a1 a2 i3 M) := by
  unfold f_Jx4a65c_add_72be8
  exact (kq_Jx4a65c_add_72be8_0 hM)
theorem kq_Jx4a65c_add_9ea2d_0 {M0 : zM} {a0 : Nat} {a1 : Nat} {M : zM} (hM : FQ M0 M) : KF (FQ M0) (f_Jx4a65c_add_9ea2d_0 a0 a1 M) := by
  unfold f_Jx4a65c_add_9ea2d_0
  refine KF.b fun v1 => ?_
  refine KF.w (fq_pI hM rfl) fun M2 h_M2 => ?_
  refine KF.b fun v3 => ?_
  refine KF.b fun v4 => ?_
  refine KF.i ?_ KF.n
  refine KF.c (kq_Jx4a65c_add_72be8 h_M2) fun r5 h_r5 => ?_
  exact KF.s h_r5
theorem kq_Jx4a65c_add_9ea2d {M0 : zM} {a0 : Nat} {a1 : Nat} {M : zM} (hM : FQ M0 M) : KF (FQ M0) (f_Jx4a65c_add_9ea2d a0 a1 M) := by
  unfold f_Jx4a65c_add_9ea2d
  exact (kq_Jx4a65c_add_9ea2d_0 hM)
theorem kq_X7_away_0 {M0 : zM} {a0 : Nat} {i1 : Int32} {M : zM} (hM : FQ M0 M) : KF (FQ M0) (f_X7_away_0 a0 i1 M) := by
  unfold f_X7_away_0
  refine KF.i ?_ KF.n
  refine KF.c (kq_X7_its hM) fun r1 h_r1 => ?_
  refine KF.b fun v3 => ?_
  refine KF.b fun v4 => ?_
  refine KF.w (fq_tA h_r1) fun M5 h_M5 => ?_
  refine KF.b fun v6 => ?_
  refine KF.c (kq_J6_valueOf_2dffe h_M5) fun r7 h_r7 => ?_
  refine KF.i ?_ KF.n
  refine KF.c (kq_Jx4a65c_add_9ea2d h_r7) fun r8 h_r8 => ?_
  refine KF.b fun v10 => ?_
  refine KF.w (fq_pJ h_r8 rfl) fun M11 h_M11 => ?_
  refine KF.w (fq_pI h_M11 rfl) fun M12 h_M12 => ?_
  refine KF.w (fq_pI h_M12 rfl) fun M13 h_M13 => ?_
  refine KF.b fun v14 => ?_
  refine KF.i ?_ KF.n
  refine KF.c (kq_Jx4a65c_size_8abf5 h_M13) fun r15 h_r15 => ?_
  exact KF.s h_r15
theorem kq_X7_away {M0 : zM} {a0 : Nat} {i1 : Int32} {M : zM} (hM : FQ M0 M) : KF (FQ M0) (f_X7_away a0 i1 M) := by
  unfold f_X7_away
  exact (kq_X7_away_0 hM)
theorem kq_X7_discard_65 {M0 : zM} {a0 : Nat} {i1 : Int32} {i_0 : Int32} {M : zM} (hM : FQ M0 M) : KF (FQ M0) (f_X7_discard_65 a0 i1 i_0 M) := by
  unfold f_X7_discard_65
  refine KF.i ?_ KF.n
  refine KF.c (kq_X7_refuse hM) fun r1 h_r1 => ?_
  refine KF.i ?_ ?_
  · refine KF.i ?_ KF.n
    refine KF.c (kq_X7_away h_r1) fun r3 h_r3 => ?_
    exact KF.s h_r3
  · exact KF.s h_r1
theorem kq_X7_discard_60 {M0 : zM} {a0 : Nat} {i1 : Int32} {M : zM} (hM : FQ M0 M) : KF (FQ M0) (f_X7_discard_60 a0 i1 M) := by
  unfold f_X7_discard_60
  exact (kq_X7_discard_65 hM)
theorem kq_X7_discard_64 {M0 : zM} {a0 : Nat} {i1 : Int32} {M : zM} (hM : FQ M0 M) : KF (FQ M0) (f_X7_discard_64 a0 i1 M) := by
  unfold f_X7_discard_64
  exact (kq_X7_discard_65 hM)
theorem kq_X7_discard_13 {M0 : zM} {a0 : Nat} {i1 : Int32} {i_0 : Int32} {a_1 : Nat} {M : zM} (hM : FQ M0 M) : KF (FQ M0) (f_X7_discard_13 a0 i1 i_0 a_1 M) := by
  unfold f_X7_discard_13
  refine KF.i ?_ KF.n
  refine KF.c (kq_X7_start hM) fun r1 h_r1 => ?_
  refine KF.i ?_ ?_
  · refine KF.b fun v3 => ?_
    refine KF.i ?_ ?_
    · refine KF.i ?_ KF.n
      refine KF.c (kq_X7_its h_r1) fun r4 h_r4 => ?_
      refine KF.b fun v6 => ?_
      refine KF.b fun v7 => ?_
      refine KF.i ?_ ?_
      · exact (kq_X7_discard_60 h_r4)
      · refine KF.i ?_ KF.n
        refine KF.c (kq_X7_its h_r4) fun r8 h_r8 => ?_
        refine KF.b fun v10 => ?_
        refine KF.i ?_ ?_
        · exact (kq_X7_discard_64 h_r8)
        · refine KF.b fun v11 => ?_
          refine KF.i ?_ ?_
          · exact (kq_X7_discard_64 h_r8)
          · exact (kq_X7_discard_60 h_r8)
    · exact (kq_X7_discard_60 h_r1)
  · exact KF.s h_r1
theorem kq_X7_discard_0 {M0 : zM} {a0 : Nat} {i1 : Int32} {M : zM} (hM : FQ M0 M) : KF (FQ M0) (f_X7_discard_0 a0 i1 M) := by
  unfold f_X7_discard_0
  refine KF.c (kq_X7_isKind hM) fun r1 h_r1 => ?_
  refine KF.i ?_ ?_
  · exact (kq_X7_discard_13 h_r1)
  · exact (kq_X7_discard_13 h_r1)
theorem kq_X7_discard {M0 : zM} {a0 : Nat} {i1 : Int32} {M : zM} (hM : FQ M0 M) : KF (FQ M0) (f_X7_discard a0 i1 M) := by
  unfold f_X7_discard
  exact (kq_X7_discard_0 hM)
theorem kq_X7_mayCall_0 {M0 : zM} {a0 : Nat} {i1 : Int32} {M : zM} (hM : FQ M0 M) : KF (FQ M0) (f_X7_mayCall_0 a0 i1 M) := by
  unfold f_X7_mayCall_0
  refine KF.b fun v1 => ?_
  refine KF.i ?_ ?_
  · refine KF.i ?_ KF.n
    refine KF.c (kq_X7_its hM) fun r2 h_r2 => ?_
    refine KF.i ?_ KF.n
    refine KF.c (kq_X6_open h_r2) fun r4 h_r4 => ?_
    refine KF.i ?_ ?_
    · exact KF.s h_r4
    · refine KF.i ?_ KF.n
      refine KF.c (kq_X7_its h_r4) fun r6 h_r6 => ?_
      refine KF.b fun v8 => ?_
      refine KF.i ?_ ?_
      · refine KF.i ?_ KF.n
        refine KF.c (kq_X7_its h_r6) fun r9 h_r9 => ?_
        refine KF.b fun v11 => ?_
        refine KF.b fun v12 => ?_
        refine KF.i ?_ ?_
        · exact KF.s h_r9
        · refine KF.i ?_ KF.n
          refine KF.c (kq_X7_its h_r9) fun r13 h_r13 => ?_
          refine KF.b fun v15 => ?_
          refine KF.b fun v16 => ?_
          refine KF.w (fq_tA h_r13) fun M17 h_M17 => ?_
          refine KF.i ?_ KF.n
          refine KF.c (kq_X7_its h_M17) fun r18 h_r18 => ?_
          refine KF.i ?_ KF.n
          refine KF.c (kq_X6_isReady h_r18) fun r20 h_r20 => ?_
          refine KF.i ?_ KF.n
          refine KF.c (kq_X7_its h_r20) fun r22 h_r22 => ?_
          refine KF.b fun v24 => ?_
          refine KF.b fun v25 => ?_
          refine KF.w (fq_tA h_r22) fun M26 h_M26 => ?_
          refine KF.i ?_ KF.n
          exact KF.s h_M26
      · exact KF.s h_r6
  · exact KF.s hM
theorem kq_X7_mayCall {M0 : zM} {a0 : Nat} {i1 : Int32} {M : zM} (hM : FQ M0 M) : KF (FQ M0) (f_X7_mayCall a0 i1 M) := by
  unfold f_X7_mayCall
  exact (kq_X7_mayCall_0 hM)
theorem kq_X7_mayFour_0 {M0 : zM} {a0 : Nat} {M : zM} (hM : FQ M0 M) : KF (FQ M0) (f_X7_mayFour_0 a0 M) := by
  unfold f_X7_mayFour_0
  refine KF.b fun v1 => ?_
  refine KF.i ?_ ?_
  · exact KF.s hM
  · refine KF.i ?_ KF.n
    refine KF.c (kq_X7_canDraw hM) fun r2 h_r2 => ?_
    refine KF.i ?_ ?_
    · exact KF.s h_r2
    · exact KF.s h_r2
theorem kq_X7_mayFour {M0 : zM} {a0 : Nat} {M : zM} (hM : FQ M0 M) : KF (FQ M0) (f_X7_mayFour a0 M) := by
  unfold f_X7_mayFour
  exact (kq_X7_mayFour_0 hM)
theorem kq_X7_mayClaim_130 {M0 : zM} : ∀ (n : Nat) {a0 : Nat} {i3 : Int32} {a4 : Nat} {i5 : Int32} {M : zM}, FQ M0 M → KF (FQ M0) (f_X7_mayClaim_130 n a0 i3 a4 i5 M) := by
  intro n
  induction n with
  | zero => exact fun _ => KF.n
  | succ n ih =>
    intro a0 i3 a4 i5 M hM
    rw [f_X7_mayClaim_130]
    refine KF.i ?_ ?_
    · exact KF.s hM
    · refine KF.b fun v1 => ?_
      refine KF.i ?_ ?_
      · exact (ih hM)
      · refine KF.b fun v2 => ?_
        refine KF.i ?_ ?_
        · exact KF.s hM
        · exact (ih hM)
theorem kq_X7_mayClaim_0 {M0 : zM} {a0 : Nat} {i1 : Int32} {i2 : Int32} {i3 : Int32} {M : zM} (hM : FQ M0 M) : KF (FQ M0) (f_X7_mayClaim_0 a0 i1 i2 i3 M) := by
  unfold f_X7_mayClaim_0
  refine KF.b fun v1 => ?_
  refine KF.i ?_ ?_
  · refine KF.b fun v2 => ?_
    refine KF.i ?_ ?_
    · exact KF.s hM
    · refine KF.b fun v3 => ?_
      refine KF.b fun v4 => ?_
      refine KF.b fun v5 => ?_
      refine KF.i ?_ ?_
      · refine KF.b fun v6 => ?_
        refine KF.b fun v7 => ?_
        refine KF.b fun v8 => ?_
        refine KF.i ?_ ?_
        · refine KF.b fun v23 => ?_
          refine KF.b fun v24 => ?_
          refine KF.i ?_ ?_
          · exact KF.s hM
          · exact KF.s hM
        · refine KF.i ?_ ?_
          · refine KF.b fun v16 => ?_
            refine KF.b fun v17 => ?_
            refine KF.i ?_ ?_
            · exact KF.s hM
            · refine KF.i ?_ KF.n
              refine KF.c (kq_X7_mayFour hM) fun r18 h_r18 => ?_
              refine KF.i ?_ ?_
              · exact KF.s h_r18
              · exact KF.s h_r18
          · refine KF.b fun v9 => ?_
            refine KF.i ?_ ?_
            · refine KF.c (kq_X7_isRun hM) fun r10 h_r10 => ?_
              refine KF.i ?_ ?_
              · exact KF.s h_r10
              · refine KF.b fun v11 => ?_
                refine KF.c (kq_X7_isIn h_r10) fun r12 h_r12 => ?_
                refine KF.i ?_ ?_
                · exact KF.s h_r12
                · exact (kq_X7_mayClaim_130 zN h_r12)
            · exact KF.s hM
      · exact KF.s hM
  · exact KF.s hM
theorem kq_X7_mayClaim {M0 : zM} {a0 : Nat} {i1 : Int32} {i2 : Int32} {i3 : Int32} {M : zM} (hM : FQ M0 M) : KF (FQ M0) (f_X7_mayClaim a0 i1 i2 i3 M) := by
  unfold f_X7_mayClaim
  exact (kq_X7_mayClaim_0 hM)
theorem kq_J15_checkIndex_7cf53_0 {M0 : zM} {i0 : Int32} {i1 : Int32} {M : zM} (hM : FQ M0 M) : KF (FQ M0) (f_J15_checkIndex_7cf53_0 i0 i1 M) := by
  unfold f_J15_checkIndex_7cf53_0
  refine KF.c (kq_J3_checkIndex_8e157 hM) fun r1 h_r1 => ?_
  exact KF.s h_r1
theorem kq_J15_checkIndex_7cf53 {M0 : zM} {i0 : Int32} {i1 : Int32} {M : zM} (hM : FQ M0 M) : KF (FQ M0) (f_J15_checkIndex_7cf53 i0 i1 M) := by
  unfold f_J15_checkIndex_7cf53
  exact (kq_J15_checkIndex_7cf53_0 hM)
theorem kq_Jx4a65c_fastRemove_b59b0_34 {M0 : zM} {a0 : Nat} {a1 : Nat} {i3 : Int32} {M : zM} (hM : FQ M0 M) : KF (FQ M0) (f_Jx4a65c_fastRemove_b59b0_34 a0 a1 i3 M) := by
  unfold f_Jx4a65c_fastRemove_b59b0_34
  refine KF.w (fq_pI hM rfl) fun M1 h_M1 => ?_
  refine KF.w (fq_tQ h_M1) fun M2 h_M2 => ?_
  exact KF.s h_M2
theorem kq_Jx4a65c_fastRemove_b59b0_0 {M0 : zM} {a0 : Nat} {a1 : Nat} {i2 : Int32} {M : zM} (hM : FQ M0 M) : KF (FQ M0) (f_Jx4a65c_fastRemove_b59b0_0 a0 a1 i2 M) := by
  unfold f_Jx4a65c_fastRemove_b59b0_0
  refine KF.b fun v1 => ?_
  refine KF.w (fq_pI hM rfl) fun M2 h_M2 => ?_
  refine KF.b fun v3 => ?_
  refine KF.i ?_ ?_
  · exact (kq_Jx4a65c_fastRemove_b59b0_34 h_M2)
  · refine KF.w (fq_yQ h_M2) fun M4 h_M4 => ?_
    exact (kq_Jx4a65c_fastRemove_b59b0_34 h_M4)
theorem kq_Jx4a65c_fastRemove_b59b0 {M0 : zM} {a0 : Nat} {a1 : Nat} {i2 : Int32} {M : zM} (hM : FQ M0 M) : KF (FQ M0) (f_Jx4a65c_fastRemove_b59b0 a0 a1 i2 M) := by
  unfold f_Jx4a65c_fastRemove_b59b0
  exact (kq_Jx4a65c_fastRemove_b59b0_0 hM)
theorem kq_Jx4a65c_remove_915e3_0 {M0 : zM} {a0 : Nat} {i1 : Int32} {M : zM} (hM : FQ M0 M) : KF (FQ M0) (f_Jx4a65c_remove_915e3_0 a0 i1 M) := by
  unfold f_Jx4a65c_remove_915e3_0
  refine KF.b fun v1 => ?_
  refine KF.c (kq_J15_checkIndex_7cf53 hM) fun r2 h_r2 => ?_
  refine KF.b fun v3 => ?_
  refine KF.b fun v4 => ?_
  refine KF.i ?_ KF.n
  refine KF.c (kq_Jx4a65c_fastRemove_b59b0 h_r2) fun r5 h_r5 => ?_
  exact KF.s h_r5
theorem kq_Jx4a65c_remove_915e3 {M0 : zM} {a0 : Nat} {i1 : Int32} {M : zM} (hM : FQ M0 M) : KF (FQ M0) (f_Jx4a65c_remove_915e3 a0 i1 M) := by
  unfold f_Jx4a65c_remove_915e3
  exact (kq_Jx4a65c_remove_915e3_0 hM)
theorem kq_X7_leave_0 {M0 : zM} {a0 : Nat} {M : zM} (hM : FQ M0 M) : KF (FQ M0) (f_X7_leave_0 a0 M) := by
  unfold f_X7_leave_0
  refine KF.i ?_ KF.n
  refine KF.c (kq_X7_its hM) fun r1 h_r1 => ?_
  refine KF.b fun v3 => ?_
  refine KF.i ?_ KF.n
  refine KF.c (kq_X7_its h_r1) fun r4 h_r4 => ?_
  refine KF.b fun v6 => ?_
  refine KF.i ?_ KF.n
  refine KF.c (kq_Jx4a65c_size_8abf5 h_r4) fun r7 h_r7 => ?_
  refine KF.i ?_ KF.n
  refine KF.c (kq_Jx4a65c_remove_915e3 h_r7) fun r9 h_r9 => ?_
  exact KF.s h_r9
theorem kq_X7_leave {M0 : zM} {a0 : Nat} {M : zM} (hM : FQ M0 M) : KF (FQ M0) (f_X7_leave a0 M) := by
  unfold f_X7_leave
  exact (kq_X7_leave_0 hM)
theorem kq_X7_drawLast_0 {M0 : zM} {a0 : Nat} {M : zM} (hM : FQ M0 M) : KF (FQ M0) (f_X7_drawLast_0 a0 M) := by
  unfold f_X7_drawLast_0
  refine KF.b fun v1 => ?_
  refine KF.w (fq_pI hM rfl) fun M2 h_M2 => ?_
  refine KF.b fun v3 => ?_
  refine KF.b fun v4 => ?_
  refine KF.w (fq_pI h_M2 rfl) fun M5 h_M5 => ?_
  refine KF.b fun v6 => ?_
  refine KF.i ?_ KF.n
  refine KF.c (kq_X7_take h_M5) fun r7 h_r7 => ?_
  exact KF.s h_r7
theorem kq_X7_drawLast {M0 : zM} {a0 : Nat} {M : zM} (hM : FQ M0 M) : KF (FQ M0) (f_X7_drawLast a0 M) := by
  unfold f_X7_drawLast
  exact (kq_X7_drawLast_0 hM)
theorem kq_X7_claim_193 {M0 : zM} {a4 : Nat} {M : zM} (hM : FQ M0 M) : KF (FQ M0) (f_X7_claim_193 a4 M) := by
  unfold f_X7_claim_193
  refine KF.b fun v1 => ?_
  refine KF.i ?_ KF.n
  refine KF.c (kq_Jx4a65c_size_8abf5 hM) fun r2 h_r2 => ?_
  exact KF.s h_r2
theorem kq_X7_claim_157 {M0 : zM} {K122 : Nat → Int32 → Int32 → Nat → Int32 → Int32 → zM → Option (Int32 × zM)} (hK122 : ∀ {x0 : Nat} {x1 : Int32} {x2 : Int32} {x3 : Nat} {x4 : Int32} {x5 : Int32} {M : zM}, FQ M0 M → KF (FQ M0) (K122 x0 x1 x2 x3 x4 x5 M)) {a0 : Nat} {i1 : Int32} {i2 : Int32} {a4 : Nat} {i5 : Int32} {i6 : Int32} {i_0 : Int32} {a_1 : Nat} {M : zM} (hM : FQ M0 M) : KF (FQ M0) (f_X7_claim_157 K122 a0 i1 i2 a4 i5 i6 i_0 a_1 M) := by
  unfold f_X7_claim_157
  refine KF.b fun v1 => ?_
  refine KF.w (fq_tA hM) fun M2 h_M2 => ?_
  exact (hK122 h_M2)
theorem kq_X7_claim_134 {M0 : zM} {K122 : Nat → Int32 → Int32 → Nat → Int32 → Int32 → zM → Option (Int32 × zM)} (hK122 : ∀ {x0 : Nat} {x1 : Int32} {x2 : Int32} {x3 : Nat} {x4 : Int32} {x5 : Int32} {M : zM}, FQ M0 M → KF (FQ M0) (K122 x0 x1 x2 x3 x4 x5 M)) {a0 : Nat} {i1 : Int32} {i2 : Int32} {a4 : Nat} {i5 : Int32} {i6 : Int32} {i_0 : Int32} {i_1 : Int32} {M : zM} (hM : FQ M0 M) : KF (FQ M0) (f_X7_claim_134 K122 a0 i1 i2 a4 i5 i6 i_0 i_1 M) := by
  unfold f_X7_claim_134
  refine KF.i ?_ ?_
  · refine KF.w (fq_pI hM rfl) fun M1 h_M1 => ?_
    refine KF.w (fq_pI h_M1 rfl) fun M2 h_M2 => ?_
    refine KF.w (fq_pI h_M2 rfl) fun M3 h_M3 => ?_
    refine KF.i ?_ ?_
    · refine KF.i ?_ KF.n
      refine KF.c (kq_X7_drawLast h_M3) fun r4 h_r4 => ?_
      exact (kq_X7_claim_193 h_r4)
    · exact (kq_X7_claim_193 h_M3)
  · refine KF.b fun v7 => ?_
    refine KF.i ?_ ?_
    · exact (kq_X7_claim_157 hK122 hM)
    · exact (kq_X7_claim_157 hK122 hM)
theorem kq_X7_claim_122 {M0 : zM} : ∀ (n : Nat) {a0 : Nat} {i1 : Int32} {i2 : Int32} {a4 : Nat} {i5 : Int32} {i6 : Int32} {M : zM}, FQ M0 M → KF (FQ M0) (f_X7_claim_122 n a0 i1 i2 a4 i5 i6 M) := by
  intro n
  induction n with
  | zero => exact fun _ => KF.n
  | succ n ih =>
    intro a0 i1 i2 a4 i5 i6 M hM
    rw [f_X7_claim_122]
    refine KF.i ?_ ?_
    · exact (kq_X7_claim_134 ih hM)
    · exact (kq_X7_claim_134 ih hM)
theorem kq_X7_claim_98 {M0 : zM} {a0 : Nat} {i1 : Int32} {i2 : Int32} {a4 : Nat} {i_0 : Int32} {M : zM} (hM : FQ M0 M) : KF (FQ M0) (f_X7_claim_98 a0 i1 i2 a4 i_0 M) := by
  unfold f_X7_claim_98
  refine KF.b fun v1 => ?_
  refine KF.c (kq_X5_init (fq_nO hM)) fun r2 h_r2 => ?_
  refine KF.i ?_ KF.n
  refine KF.c (kq_Jx4a65c_add_9ea2d h_r2) fun r3 h_r3 => ?_
  exact (kq_X7_claim_122 zN h_r3)
theorem kq_X7_claim_50 {M0 : zM} {a0 : Nat} {i1 : Int32} {i2 : Int32} {i3 : Int32} {i_0 : Int32} {a_1 : Nat} {M : zM} (hM : FQ M0 M) : KF (FQ M0) (f_X7_claim_50 a0 i1 i2 i3 i_0 a_1 M) := by
  unfold f_X7_claim_50
  refine KF.i ?_ KF.n
  refine KF.c (kq_X7_refuse hM) fun r1 h_r1 => ?_
  refine KF.i ?_ ?_
  · refine KF.i ?_ KF.n
    refine KF.c (kq_X7_leave h_r1) fun r3 h_r3 => ?_
    refine KF.b fun v5 => ?_
    refine KF.b fun v6 => ?_
    refine KF.b fun v7 => ?_
    refine KF.b fun v8 => ?_
    refine KF.b fun v9 => ?_
    refine KF.w (fq_tA h_r3) fun M10 h_M10 => ?_
    refine KF.i ?_ ?_
    · exact (kq_X7_claim_98 h_M10)
    · refine KF.b fun v11 => ?_
      exact (kq_X7_claim_98 h_M10)
  · exact KF.s h_r1
theorem kq_X7_claim_27 {M0 : zM} {a0 : Nat} {i1 : Int32} {i2 : Int32} {i3 : Int32} {i_0 : Int32} {a_1 : Nat} {M : zM} (hM : FQ M0 M) : KF (FQ M0) (f_X7_claim_27 a0 i1 i2 i3 i_0 a_1 M) := by
  unfold f_X7_claim_27
  refine KF.i ?_ KF.n
  refine KF.c (kq_X7_refuse hM) fun r1 h_r1 => ?_
  refine KF.i ?_ ?_
  · refine KF.i ?_ KF.n
    refine KF.c (kq_X7_mayClaim h_r1) fun r3 h_r3 => ?_
    refine KF.i ?_ ?_
    · exact (kq_X7_claim_50 h_r3)
    · exact (kq_X7_claim_50 h_r3)
  · exact KF.s h_r1
theorem kq_X7_claim_0 {M0 : zM} {a0 : Nat} {i1 : Int32} {i2 : Int32} {i3 : Int32} {M : zM} (hM : FQ M0 M) : KF (FQ M0) (f_X7_claim_0 a0 i1 i2 i3 M) := by
  unfold f_X7_claim_0
  refine KF.c (kq_X7_isNoPlayer hM) fun r1 h_r1 => ?_
  refine KF.i ?_ KF.n
  refine KF.c (kq_X7_start h_r1) fun r2 h_r2 => ?_
  refine KF.i ?_ ?_
  · refine KF.c (kq_X7_isIn h_r2) fun r4 h_r4 => ?_
    refine KF.i ?_ ?_
    · exact (kq_X7_claim_27 h_r4)
    · exact (kq_X7_claim_27 h_r4)
  · exact KF.s h_r2
theorem kq_X7_claim {M0 : zM} {a0 : Nat} {i1 : Int32} {i2 : Int32} {i3 : Int32} {M : zM} (hM : FQ M0 M) : KF (FQ M0) (f_X7_claim a0 i1 i2 i3 M) := by
  unfold f_X7_claim
  exact (kq_X7_claim_0 hM)
theorem kq_X7_four_76 {M0 : zM} {a0 : Nat} {i1 : Int32} {i_0 : Int32} {a_1 : Nat} {M : zM} (hM : FQ M0 M) : KF (FQ M0) (f_X7_four_76 a0 i1 i_0 a_1 M) := by
  unfold f_X7_four_76
  refine KF.i ?_ KF.n
  refine KF.c (kq_X7_refuse hM) fun r1 h_r1 => ?_
  refine KF.i ?_ ?_
  · refine KF.i ?_ KF.n
    refine KF.c (kq_X7_its h_r1) fun r3 h_r3 => ?_
    refine KF.b fun v5 => ?_
    refine KF.b fun v6 => ?_
    refine KF.w (fq_tA h_r3) fun M7 h_M7 => ?_
    refine KF.i ?_ KF.n
    refine KF.c (kq_X7_its h_M7) fun r8 h_r8 => ?_
    refine KF.b fun v10 => ?_
    refine KF.c (kq_X5_init (fq_nO h_r8)) fun r11 h_r11 => ?_
    refine KF.i ?_ KF.n
    refine KF.c (kq_Jx4a65c_add_9ea2d h_r11) fun r12 h_r12 => ?_
    refine KF.i ?_ KF.n
    refine KF.c (kq_X7_drawLast h_r12) fun r14 h_r14 => ?_
    exact KF.s h_r14
  · exact KF.s h_r1
theorem kq_X7_four_65 {M0 : zM} {a0 : Nat} {i1 : Int32} {i_0 : Int32} {M : zM} (hM : FQ M0 M) : KF (FQ M0) (f_X7_four_65 a0 i1 i_0 M) := by
  unfold f_X7_four_65
  refine KF.i ?_ ?_
  · exact (kq_X7_four_76 hM)
  · exact (kq_X7_four_76 hM)
theorem kq_X7_four_64 {M0 : zM} {a0 : Nat} {i1 : Int32} {M : zM} (hM : FQ M0 M) : KF (FQ M0) (f_X7_four_64 a0 i1 M) := by
  unfold f_X7_four_64
  exact (kq_X7_four_65 hM)
theorem kq_X7_four_13 {M0 : zM} {a0 : Nat} {i1 : Int32} {i_0 : Int32} {a_1 : Nat} {M : zM} (hM : FQ M0 M) : KF (FQ M0) (f_X7_four_13 a0 i1 i_0 a_1 M) := by
  unfold f_X7_four_13
  refine KF.i ?_ KF.n
  refine KF.c (kq_X7_start hM) fun r1 h_r1 => ?_
  refine KF.i ?_ ?_
  · refine KF.b fun v3 => ?_
    refine KF.i ?_ ?_
    · refine KF.i ?_ KF.n
      refine KF.c (kq_X7_its h_r1) fun r4 h_r4 => ?_
      refine KF.b fun v6 => ?_
      refine KF.i ?_ ?_
      · refine KF.i ?_ KF.n
        refine KF.c (kq_X7_its h_r4) fun r7 h_r7 => ?_
        refine KF.b fun v9 => ?_
        refine KF.b fun v10 => ?_
        refine KF.i ?_ ?_
        · refine KF.i ?_ KF.n
          refine KF.c (kq_X7_mayFour h_r7) fun r11 h_r11 => ?_
          refine KF.i ?_ ?_
          · exact (kq_X7_four_64 h_r11)
          · exact (kq_X7_four_65 h_r11)
        · exact (kq_X7_four_64 h_r7)
      · exact (kq_X7_four_64 h_r4)
    · exact (kq_X7_four_64 h_r1)
  · exact KF.s h_r1
theorem kq_X7_four_0 {M0 : zM} {a0 : Nat} {i1 : Int32} {M : zM} (hM : FQ M0 M) : KF (FQ M0) (f_X7_four_0 a0 i1 M) := by
  unfold f_X7_four_0
  refine KF.c (kq_X7_isKind hM) fun r1 h_r1 => ?_
  refine KF.i ?_ ?_
  · exact (kq_X7_four_13 h_r1)
  · exact (kq_X7_four_13 h_r1)
theorem kq_X7_four {M0 : zM} {a0 : Nat} {i1 : Int32} {M : zM} (hM : FQ M0 M) : KF (FQ M0) (f_X7_four a0 i1 M) := by
  unfold f_X7_four
  exact (kq_X7_four_0 hM)
theorem kq_X7_pass_14 {M0 : zM} {a0 : Nat} {i_0 : Int32} {a_1 : Nat} {M : zM} (hM : FQ M0 M) : KF (FQ M0) (f_X7_pass_14 a0 i_0 a_1 M) := by
  unfold f_X7_pass_14
  refine KF.i ?_ KF.n
  refine KF.c (kq_X7_start hM) fun r1 h_r1 => ?_
  refine KF.i ?_ ?_
  · refine KF.b fun v3 => ?_
    refine KF.w (fq_pI h_r1 rfl) fun M4 h_M4 => ?_
    refine KF.w (fq_pI h_M4 rfl) fun M5 h_M5 => ?_
    refine KF.b fun v6 => ?_
    exact KF.s h_M5
  · exact KF.s h_r1
theorem kq_X7_pass_0 {M0 : zM} {a0 : Nat} {M : zM} (hM : FQ M0 M) : KF (FQ M0) (f_X7_pass_0 a0 M) := by
  unfold f_X7_pass_0
  refine KF.b fun v1 => ?_
  refine KF.i ?_ ?_
  · exact (kq_X7_pass_14 hM)
  · exact (kq_X7_pass_14 hM)
theorem kq_X7_pass {M0 : zM} {a0 : Nat} {M : zM} (hM : FQ M0 M) : KF (FQ M0) (f_X7_pass a0 M) := by
  unfold f_X7_pass
  exact (kq_X7_pass_0 hM)
theorem kq_J9_floorMod_7cf53_0 {M0 : zM} {i0 : Int32} {i1 : Int32} {M : zM} (hM : FQ M0 M) : KF (FQ M0) (f_J9_floorMod_7cf53_0 i0 i1 M) := by
  unfold f_J9_floorMod_7cf53_0
  refine KF.i ?_ ?_
  · exact KF.n
  · refine KF.i ?_ ?_
    · exact KF.s hM
    · refine KF.i ?_ ?_
      · exact KF.s hM
      · exact KF.s hM
theorem kq_J9_floorMod_7cf53 {M0 : zM} {i0 : Int32} {i1 : Int32} {M : zM} (hM : FQ M0 M) : KF (FQ M0) (f_J9_floorMod_7cf53 i0 i1 M) := by
  unfold f_J9_floorMod_7cf53
  exact (kq_J9_floorMod_7cf53_0 hM)
theorem kq_X7_wind_0 {M0 : zM} {a0 : Nat} {i1 : Int32} {M : zM} (hM : FQ M0 M) : KF (FQ M0) (f_X7_wind_0 a0 i1 M) := by
  unfold f_X7_wind_0
  refine KF.b fun v1 => ?_
  refine KF.c (kq_J9_floorMod_7cf53 hM) fun r2 h_r2 => ?_
  exact KF.s h_r2
theorem kq_X7_wind {M0 : zM} {a0 : Nat} {i1 : Int32} {M : zM} (hM : FQ M0 M) : KF (FQ M0) (f_X7_wind a0 i1 M) := by
  unfold f_X7_wind
  exact (kq_X7_wind_0 hM)
theorem kq_X7_areAll_2 {M0 : zM} : ∀ (n : Nat) {a0 : Nat} {i1 : Int32} {i2 : Int32} {i3 : Int32} {M : zM}, FQ M0 M → KF (FQ M0) (f_X7_areAll_2 n a0 i1 i2 i3 M) := by
  intro n
  induction n with
  | zero => exact fun _ => KF.n
  | succ n ih =>
    intro a0 i1 i2 i3 M hM
    rw [f_X7_areAll_2]
    refine KF.i ?_ ?_
    · exact KF.s hM
    · refine KF.b fun v1 => ?_
      refine KF.i ?_ ?_
      · exact (ih hM)
      · refine KF.c (kq_X7_isIn hM) fun r2 h_r2 => ?_
        refine KF.i ?_ ?_
        · exact KF.s h_r2
        · exact (ih h_r2)
theorem kq_X7_areAll_0 {M0 : zM} {a0 : Nat} {i1 : Int32} {i2 : Int32} {M : zM} (hM : FQ M0 M) : KF (FQ M0) (f_X7_areAll_0 a0 i1 i2 M) := by
  unfold f_X7_areAll_0
  exact (kq_X7_areAll_2 zN hM)
theorem kq_X7_areAll {M0 : zM} {a0 : Nat} {i1 : Int32} {i2 : Int32} {M : zM} (hM : FQ M0 M) : KF (FQ M0) (f_X7_areAll a0 i1 i2 M) := by
  unfold f_X7_areAll
  exact (kq_X7_areAll_0 hM)
theorem kq_X7_valueOfTiles_250 {M0 : zM} {i5 : Int32} {i6 : Int32} {i_0 : Int32} {M : zM} (hM : FQ M0 M) : KF (FQ M0) (f_X7_valueOfTiles_250 i5 i6 i_0 M) := by
  unfold f_X7_valueOfTiles_250
  refine KF.i ?_ ?_
  · exact KF.s hM
  · refine KF.i ?_ ?_
    · exact KF.s hM
    · exact KF.s hM
theorem kq_X7_valueOfTiles_249 {M0 : zM} {i5 : Int32} {i6 : Int32} {M : zM} (hM : FQ M0 M) : KF (FQ M0) (f_X7_valueOfTiles_249 i5 i6 M) := by
  unfold f_X7_valueOfTiles_249
  exact (kq_X7_valueOfTiles_250 hM)
theorem kq_X7_valueOfTiles_245 {M0 : zM} {i5 : Int32} {i6 : Int32} {M : zM} (hM : FQ M0 M) : KF (FQ M0) (f_X7_valueOfTiles_245 i5 i6 M) := by
  unfold f_X7_valueOfTiles_245
  exact (kq_X7_valueOfTiles_250 hM)
theorem kq_X7_valueOfTiles_215 {M0 : zM} {i5 : Int32} {i6 : Int32} {a7 : Nat} {i_0 : Int32} {M : zM} (hM : FQ M0 M) : KF (FQ M0) (f_X7_valueOfTiles_215 i5 i6 a7 i_0 M) := by
  unfold f_X7_valueOfTiles_215
  refine KF.i ?_ ?_
  · exact (kq_X7_valueOfTiles_249 hM)
  · refine KF.c (kq_X7_areAll hM) fun r1 h_r1 => ?_
    refine KF.i ?_ ?_
    · refine KF.c (kq_X7_areAll h_r1) fun r2 h_r2 => ?_
      refine KF.i ?_ ?_
      · exact (kq_X7_valueOfTiles_249 h_r2)
      · exact (kq_X7_valueOfTiles_245 h_r2)
    · exact (kq_X7_valueOfTiles_245 h_r1)
theorem kq_X7_valueOfTiles_179 {M0 : zM} {a3 : Nat} {i5 : Int32} {i_0 : Int32} {i_1 : Int32} {M : zM} (hM : FQ M0 M) : KF (FQ M0) (f_X7_valueOfTiles_179 a3 i5 i_0 i_1 M) := by
  unfold f_X7_valueOfTiles_179
  refine KF.c (fq_aA hM) fun r1 h_r1 => ?_
  refine KF.w (fq_yI h_r1) fun M2 h_M2 => ?_
  refine KF.c (kq_X7_areAll h_M2) fun r3 h_r3 => ?_
  refine KF.i ?_ ?_
  · exact (kq_X7_valueOfTiles_215 h_r3)
  · exact (kq_X7_valueOfTiles_215 h_r3)
theorem kq_X7_valueOfTiles_161 {M0 : zM} {a0 : Nat} {a3 : Nat} {i4 : Int32} {i5 : Int32} {i_0 : Int32} {i_1 : Int32} {M : zM} (hM : FQ M0 M) : KF (FQ M0) (f_X7_valueOfTiles_161 a0 a3 i4 i5 i_0 i_1 M) := by
  unfold f_X7_valueOfTiles_161
  refine KF.b fun v1 => ?_
  refine KF.b fun v2 => ?_
  refine KF.i ?_ ?_
  · exact (kq_X7_valueOfTiles_179 hM)
  · exact (kq_X7_valueOfTiles_179 hM)
theorem kq_X7_valueOfTiles_160 {M0 : zM} {a0 : Nat} {a3 : Nat} {i4 : Int32} {i5 : Int32} {i_0 : Int32} {M : zM} (hM : FQ M0 M) : KF (FQ M0) (f_X7_valueOfTiles_160 a0 a3 i4 i5 i_0 M) := by
  unfold f_X7_valueOfTiles_160
  exact (kq_X7_valueOfTiles_161 hM)
theorem kq_X7_valueOfTiles_144 {M0 : zM} {a0 : Nat} {a1 : Nat} {i2 : Int32} {a3 : Nat} {i4 : Int32} {i5 : Int32} {i_0 : Int32} {i_1 : Int32} {M : zM} (hM : FQ M0 M) : KF (FQ M0) (f_X7_valueOfTiles_144 a0 a1 i2 a3 i4 i5 i_0 i_1 M) := by
  unfold f_X7_valueOfTiles_144
  refine KF.i ?_ ?_
  · exact (kq_X7_valueOfTiles_160 hM)
  · refine KF.i ?_ KF.n
    refine KF.c (kq_X6_open hM) fun r1 h_r1 => ?_
    refine KF.i ?_ ?_
    · exact (kq_X7_valueOfTiles_161 h_r1)
    · exact (kq_X7_valueOfTiles_160 h_r1)
theorem kq_X7_valueOfTiles_105 {M0 : zM} {K14 : Nat → Nat → Int32 → Nat → Int32 → Int32 → Int32 → zM → Option (Int32 × zM)} (hK14 : ∀ {x0 : Nat} {x1 : Nat} {x2 : Int32} {x3 : Nat} {x4 : Int32} {x5 : Int32} {x6 : Int32} {M : zM}, FQ M0 M → KF (FQ M0) (K14 x0 x1 x2 x3 x4 x5 x6 M)) {a0 : Nat} {a1 : Nat} {i2 : Int32} {a3 : Nat} {i5 : Int32} {i6 : Int32} {i_0 : Int32} {i_1 : Int32} {M : zM} (hM : FQ M0 M) : KF (FQ M0) (f_X7_valueOfTiles_105 K14 a0 a1 i2 a3 i5 i6 i_0 i_1 M) := by
  unfold f_X7_valueOfTiles_105
  refine KF.i ?_ ?_
  · exact (hK14 hM)
  · exact (hK14 hM)
theorem kq_X7_valueOfTiles_41 {M0 : zM} {K14 : Nat → Nat → Int32 → Nat → Int32 → Int32 → Int32 → zM → Option (Int32 × zM)} (hK14 : ∀ {x0 : Nat} {x1 : Nat} {x2 : Int32} {x3 : Nat} {x4 : Int32} {x5 : Int32} {x6 : Int32} {M : zM}, FQ M0 M → KF (FQ M0) (K14 x0 x1 x2 x3 x4 x5 x6 M)) : ∀ (n : Nat) {a0 : Nat} {a1 : Nat} {i2 : Int32} {a3 : Nat} {i4 : Int32} {i5 : Int32} {i6 : Int32} {a7 : Nat} {M : zM}, FQ M0 M → KF (FQ M0) (f_X7_valueOfTiles_41 K14 n a0 a1 i2 a3 i4 i5 i6 a7 M) := by
  intro n
  induction n with
  | zero => exact fun _ => KF.n
  | succ n ih =>
    intro a0 a1 i2 a3 i4 i5 i6 a7 M hM
    rw [f_X7_valueOfTiles_41]
    refine KF.i ?_ KF.n
    refine KF.c (kq_Jx35411_hasNext_aae02 hM) fun r1 h_r1 => ?_
    refine KF.i ?_ ?_
    · refine KF.b fun v3 => ?_
      refine KF.i ?_ ?_
      · exact (hK14 h_r1)
      · refine KF.c (kq_X7_isEnd h_r1) fun r4 h_r4 => ?_
        refine KF.i ?_ ?_
        · exact (kq_X7_valueOfTiles_105 hK14 h_r4)
        · exact (kq_X7_valueOfTiles_105 hK14 h_r4)
    · refine KF.i ?_ KF.n
      refine KF.c (kq_Jx35411_next_0502b h_r1) fun r7 h_r7 => ?_
      refine KF.i ?_ KF.n
      refine KF.b fun v10 => ?_
      refine KF.i ?_ KF.n
      refine KF.c (kq_X5_of h_r7) fun r11 h_r11 => ?_
      refine KF.w (fq_tA h_r11) fun M13 h_M13 => ?_
      exact (ih h_M13)
theorem kq_X7_valueOfTiles_14 {M0 : zM} : ∀ (n : Nat) {a0 : Nat} {a1 : Nat} {i2 : Int32} {a3 : Nat} {i4 : Int32} {i5 : Int32} {i6 : Int32} {M : zM}, FQ M0 M → KF (FQ M0) (f_X7_valueOfTiles_14 n a0 a1 i2 a3 i4 i5 i6 M) := by
  intro n
  induction n with
  | zero => exact fun _ => KF.n
  | succ n ih =>
    intro a0 a1 i2 a3 i4 i5 i6 M hM
    rw [f_X7_valueOfTiles_14]
    refine KF.i ?_ ?_
    · refine KF.b fun v1 => ?_
      refine KF.i ?_ ?_
      · exact (kq_X7_valueOfTiles_144 hM)
      · exact (kq_X7_valueOfTiles_144 hM)
    · refine KF.b fun v3 => ?_
      refine KF.b fun v4 => ?_
      refine KF.w (fq_tA hM) fun M5 h_M5 => ?_
      refine KF.b fun v6 => ?_
      refine KF.i ?_ KF.n
      refine KF.c (kq_Jx4a65c_iterator_32c93 h_M5) fun r7 h_r7 => ?_
      exact (kq_X7_valueOfTiles_41 ih zN h_r7)
theorem kq_X7_valueOfTiles_0 {M0 : zM} {a0 : Nat} {a1 : Nat} {i2 : Int32} {M : zM} (hM : FQ M0 M) : KF (FQ M0) (f_X7_valueOfTiles_0 a0 a1 i2 M) := by
  unfold f_X7_valueOfTiles_0
  refine KF.c (fq_aA hM) fun r1 h_r1 => ?_
  exact (kq_X7_valueOfTiles_14 zN h_r1)
theorem kq_X7_valueOfTiles {M0 : zM} {a0 : Nat} {a1 : Nat} {i2 : Int32} {M : zM} (hM : FQ M0 M) : KF (FQ M0) (f_X7_valueOfTiles a0 a1 i2 M) := by
  unfold f_X7_valueOfTiles
  exact (kq_X7_valueOfTiles_0 hM)
theorem kq_X7_valueOfThree_0 {M0 : zM} {a0 : Nat} {i1 : Int32} {i2 : Int32} {M : zM} (hM : FQ M0 M) : KF (FQ M0) (f_X7_valueOfThree_0 a0 i1 i2 M) := by
  unfold f_X7_valueOfThree_0
  refine KF.i ?_ ?_
  · exact KF.s hM
  · refine KF.i ?_ KF.n
    refine KF.c (kq_X7_wind hM) fun r1 h_r1 => ?_
    refine KF.i ?_ ?_
    · exact KF.s h_r1
    · exact KF.s h_r1
theorem kq_X7_valueOfThree {M0 : zM} {a0 : Nat} {i1 : Int32} {i2 : Int32} {M : zM} (hM : FQ M0 M) : KF (FQ M0) (f_X7_valueOfThree a0 i1 i2 M) := by
  unfold f_X7_valueOfThree
  exact (kq_X7_valueOfThree_0 hM)
theorem kq_X7_valueOfSets_185 {M0 : zM} {RC_X7_valueOfSets : Nat → Nat → Int32 → Int32 → Int32 → Int32 → zM → Option (Int32 × zM)} (hRC_X7_valueOfSets : ∀ {x0 : Nat} {x1 : Nat} {x2 : Int32} {x3 : Int32} {x4 : Int32} {x5 : Int32} {M : zM}, FQ M0 M → KF (FQ M0) (RC_X7_valueOfSets x0 x1 x2 x3 x4 x5 M)) : ∀ (n : Nat) {a1 : Nat} {i6 : Int32} {i7 : Int32} {i8 : Int32} {M : zM}, FQ M0 M → KF (FQ M0) (f_X7_valueOfSets_185 RC_X7_valueOfSets n a1 i6 i7 i8 M) := by
  intro n
  induction n with
  | zero => exact fun _ => KF.n
  | succ n ih =>
    intro a1 i6 i7 i8 M hM
    rw [f_X7_valueOfSets_185]
    refine KF.i ?_ ?_
    · exact KF.s hM
    · refine KF.b fun v1 => ?_
      refine KF.w (fq_tA hM) fun M2 h_M2 => ?_
      exact (ih h_M2)
theorem kq_X7_valueOfSets_139 {M0 : zM} {RC_X7_valueOfSets : Nat → Nat → Int32 → Int32 → Int32 → Int32 → zM → Option (Int32 × zM)} (hRC_X7_valueOfSets : ∀ {x0 : Nat} {x1 : Nat} {x2 : Int32} {x3 : Int32} {x4 : Int32} {x5 : Int32} {M : zM}, FQ M0 M → KF (FQ M0) (RC_X7_valueOfSets x0 x1 x2 x3 x4 x5 M)) : ∀ (n : Nat) {a0 : Nat} {a1 : Nat} {i2 : Int32} {i3 : Int32} {i4 : Int32} {i5 : Int32} {i6 : Int32} {i7 : Int32} {i8 : Int32} {M : zM}, FQ M0 M → KF (FQ M0) (f_X7_valueOfSets_139 RC_X7_valueOfSets n a0 a1 i2 i3 i4 i5 i6 i7 i8 M) := by
  intro n
  induction n with
  | zero => exact fun _ => KF.n
  | succ n ih =>
    intro a0 a1 i2 i3 i4 i5 i6 i7 i8 M hM
    rw [f_X7_valueOfSets_139]
    refine KF.i ?_ ?_
    · refine KF.i ?_ KF.n
      refine KF.c (hRC_X7_valueOfSets hM) fun r1 h_r1 => ?_
      refine KF.c (kq_J9_max_7cf53 h_r1) fun r3 h_r3 => ?_
      exact (kq_X7_valueOfSets_185 hRC_X7_valueOfSets zN h_r3)
    · refine KF.b fun v4 => ?_
      refine KF.w (fq_tA hM) fun M5 h_M5 => ?_
      exact (ih h_M5)
theorem kq_X7_valueOfSets_106 {M0 : zM} {RC_X7_valueOfSets : Nat → Nat → Int32 → Int32 → Int32 → Int32 → zM → Option (Int32 × zM)} (hRC_X7_valueOfSets : ∀ {x0 : Nat} {x1 : Nat} {x2 : Int32} {x3 : Int32} {x4 : Int32} {x5 : Int32} {M : zM}, FQ M0 M → KF (FQ M0) (RC_X7_valueOfSets x0 x1 x2 x3 x4 x5 M)) {a0 : Nat} {a1 : Nat} {i2 : Int32} {i3 : Int32} {i4 : Int32} {i5 : Int32} {i6 : Int32} {i7 : Int32} {M : zM} (hM : FQ M0 M) : KF (FQ M0) (f_X7_valueOfSets_106 RC_X7_valueOfSets a0 a1 i2 i3 i4 i5 i6 i7 M) := by
  unfold f_X7_valueOfSets_106
  refine KF.c (kq_X7_isRun hM) fun r1 h_r1 => ?_
  refine KF.i ?_ ?_
  · exact KF.s h_r1
  · refine KF.b fun v2 => ?_
    refine KF.i ?_ ?_
    · exact KF.s h_r1
    · refine KF.b fun v3 => ?_
      refine KF.i ?_ ?_
      · exact KF.s h_r1
      · exact (kq_X7_valueOfSets_139 hRC_X7_valueOfSets zN h_r1)
theorem kq_X7_valueOfSets_23 {M0 : zM} {RC_X7_valueOfSets : Nat → Nat → Int32 → Int32 → Int32 → Int32 → zM → Option (Int32 × zM)} (hRC_X7_valueOfSets : ∀ {x0 : Nat} {x1 : Nat} {x2 : Int32} {x3 : Int32} {x4 : Int32} {x5 : Int32} {M : zM}, FQ M0 M → KF (FQ M0) (RC_X7_valueOfSets x0 x1 x2 x3 x4 x5 M)) {a0 : Nat} {a1 : Nat} {i2 : Int32} {i3 : Int32} {i4 : Int32} {i5 : Int32} {i6 : Int32} {M : zM} (hM : FQ M0 M) : KF (FQ M0) (f_X7_valueOfSets_23 RC_X7_valueOfSets a0 a1 i2 i3 i4 i5 i6 M) := by
  unfold f_X7_valueOfSets_23
  refine KF.i ?_ ?_
  · refine KF.i ?_ ?_
    · refine KF.i ?_ ?_
      · exact KF.s hM
      · exact KF.s hM
    · exact KF.s hM
  · refine KF.b fun v1 => ?_
    refine KF.i ?_ ?_
    · exact (kq_X7_valueOfSets_106 hRC_X7_valueOfSets hM)
    · refine KF.b fun v2 => ?_
      refine KF.w (fq_tA hM) fun M3 h_M3 => ?_
      refine KF.i ?_ KF.n
      refine KF.c (kq_X7_valueOfThree h_M3) fun r4 h_r4 => ?_
      refine KF.i ?_ KF.n
      refine KF.c (hRC_X7_valueOfSets h_r4) fun r6 h_r6 => ?_
      refine KF.b fun v8 => ?_
      refine KF.w (fq_tA h_r6) fun M9 h_M9 => ?_
      exact (kq_X7_valueOfSets_106 hRC_X7_valueOfSets h_M9)
theorem kq_X7_valueOfSets_3 {M0 : zM} {RC_X7_valueOfSets : Nat → Nat → Int32 → Int32 → Int32 → Int32 → zM → Option (Int32 × zM)} (hRC_X7_valueOfSets : ∀ {x0 : Nat} {x1 : Nat} {x2 : Int32} {x3 : Int32} {x4 : Int32} {x5 : Int32} {M : zM}, FQ M0 M → KF (FQ M0) (RC_X7_valueOfSets x0 x1 x2 x3 x4 x5 M)) : ∀ (n : Nat) {a0 : Nat} {a1 : Nat} {i2 : Int32} {i3 : Int32} {i4 : Int32} {i5 : Int32} {i6 : Int32} {M : zM}, FQ M0 M → KF (FQ M0) (f_X7_valueOfSets_3 RC_X7_valueOfSets n a0 a1 i2 i3 i4 i5 i6 M) := by
  intro n
  induction n with
  | zero => exact fun _ => KF.n
  | succ n ih =>
    intro a0 a1 i2 i3 i4 i5 i6 M hM
    rw [f_X7_valueOfSets_3]
    refine KF.i ?_ ?_
    · exact (kq_X7_valueOfSets_23 hRC_X7_valueOfSets hM)
    · refine KF.b fun v1 => ?_
      refine KF.i ?_ ?_
      · exact (ih hM)
      · exact (kq_X7_valueOfSets_23 hRC_X7_valueOfSets hM)
theorem kq_X7_valueOfSets_0 {M0 : zM} {RC_X7_valueOfSets : Nat → Nat → Int32 → Int32 → Int32 → Int32 → zM → Option (Int32 × zM)} (hRC_X7_valueOfSets : ∀ {x0 : Nat} {x1 : Nat} {x2 : Int32} {x3 : Int32} {x4 : Int32} {x5 : Int32} {M : zM}, FQ M0 M → KF (FQ M0) (RC_X7_valueOfSets x0 x1 x2 x3 x4 x5 M)) {a0 : Nat} {a1 : Nat} {i2 : Int32} {i3 : Int32} {i4 : Int32} {i5 : Int32} {M : zM} (hM : FQ M0 M) : KF (FQ M0) (f_X7_valueOfSets_0 RC_X7_valueOfSets a0 a1 i2 i3 i4 i5 M) := by
  unfold f_X7_valueOfSets_0
  exact (kq_X7_valueOfSets_3 hRC_X7_valueOfSets zN hM)
theorem kq_X7_valueOfSets {M0 : zM} : ∀ (n : Nat) {a0 : Nat} {a1 : Nat} {i2 : Int32} {i3 : Int32} {i4 : Int32} {i5 : Int32} {M : zM}, FQ M0 M → KF (FQ M0) (f_X7_valueOfSets n a0 a1 i2 i3 i4 i5 M) := by
  intro n
  induction n with
  | zero => exact fun _ => KF.n
  | succ n ih =>
    intro a0 a1 i2 i3 i4 i5 M hM
    rw [f_X7_valueOfSets]
    exact (kq_X7_valueOfSets_0 ih hM)
theorem kq_X7_value_80 {M0 : zM} : ∀ (n : Nat) {a0 : Nat} {i1 : Int32} {i2 : Int32} {a3 : Nat} {i4 : Int32} {i5 : Int32} {i6 : Int32} {i7 : Int32} {M : zM}, FQ M0 M → KF (FQ M0) (f_X7_value_80 n a0 i1 i2 a3 i4 i5 i6 i7 M) := by
  intro n
  induction n with
  | zero => exact fun _ => KF.n
  | succ n ih =>
    intro a0 i1 i2 a3 i4 i5 i6 i7 M hM
    rw [f_X7_value_80]
    refine KF.i ?_ ?_
    · refine KF.i ?_ KF.n
      refine KF.c (kq_X7_valueOfTiles hM) fun r1 h_r1 => ?_
      refine KF.c (kq_J9_min_7cf53 h_r1) fun r3 h_r3 => ?_
      exact KF.s h_r3
    · refine KF.b fun v4 => ?_
      refine KF.b fun v5 => ?_
      refine KF.i ?_ ?_
      · exact (ih hM)
      · refine KF.b fun v6 => ?_
        refine KF.b fun v7 => ?_
        refine KF.w (fq_tA hM) fun M8 h_M8 => ?_
        refine KF.b fun v9 => ?_
        refine KF.b fun v10 => ?_
        refine KF.i ?_ KF.n
        refine KF.c (kq_Jx4a65c_size_8abf5 h_M8) fun r11 h_r11 => ?_
        refine KF.i ?_ KF.n
        refine KF.c (kq_X7_valueOfSets zR h_r11) fun r13 h_r13 => ?_
        refine KF.c (kq_J9_max_7cf53 h_r13) fun r15 h_r15 => ?_
        refine KF.b fun v16 => ?_
        refine KF.b fun v17 => ?_
        refine KF.w (fq_tA h_r15) fun M18 h_M18 => ?_
        exact (ih h_M18)
theorem kq_X7_value_22 {M0 : zM} : ∀ (n : Nat) {a0 : Nat} {i1 : Int32} {i2 : Int32} {a3 : Nat} {i4 : Int32} {i5 : Int32} {a6 : Nat} {M : zM}, FQ M0 M → KF (FQ M0) (f_X7_value_22 n a0 i1 i2 a3 i4 i5 a6 M) := by
  intro n
  induction n with
  | zero => exact fun _ => KF.n
  | succ n ih =>
    intro a0 i1 i2 a3 i4 i5 a6 M hM
    rw [f_X7_value_22]
    refine KF.i ?_ KF.n
    refine KF.c (kq_Jx35411_hasNext_aae02 hM) fun r1 h_r1 => ?_
    refine KF.i ?_ ?_
    · exact (kq_X7_value_80 zN h_r1)
    · refine KF.i ?_ KF.n
      refine KF.c (kq_Jx35411_next_0502b h_r1) fun r3 h_r3 => ?_
      refine KF.i ?_ KF.n
      refine KF.b fun v6 => ?_
      refine KF.i ?_ ?_
      · exact (ih h_r3)
      · refine KF.b fun v7 => ?_
        refine KF.i ?_ KF.n
        refine KF.c (kq_X7_valueOfThree h_r3) fun r8 h_r8 => ?_
        exact (ih h_r8)
theorem kq_X7_value_0 {M0 : zM} {a0 : Nat} {i1 : Int32} {i2 : Int32} {M : zM} (hM : FQ M0 M) : KF (FQ M0) (f_X7_value_0 a0 i1 i2 M) := by
  unfold f_X7_value_0
  refine KF.b fun v1 => ?_
  refine KF.b fun v2 => ?_
  refine KF.b fun v3 => ?_
  refine KF.i ?_ KF.n
  refine KF.c (kq_Jx4a65c_iterator_32c93 hM) fun r4 h_r4 => ?_
  exact (kq_X7_value_22 zN h_r4)
theorem kq_X7_value {M0 : zM} {a0 : Nat} {i1 : Int32} {i2 : Int32} {M : zM} (hM : FQ M0 M) : KF (FQ M0) (f_X7_value a0 i1 i2 M) := by
  unfold f_X7_value
  exact (kq_X7_value_0 hM)
theorem kq_X7_isBarred_0 {M0 : zM} {a0 : Nat} {a1 : Nat} {M : zM} (hM : FQ M0 M) : KF (FQ M0) (f_X7_isBarred_0 a0 a1 M) := by
  unfold f_X7_isBarred_0
  refine KF.i ?_ KF.n
  refine KF.c (kq_X6_waits hM) fun r1 h_r1 => ?_
  refine KF.b fun v3 => ?_
  refine KF.i ?_ ?_
  · exact KF.s h_r1
  · exact KF.s h_r1
theorem kq_X7_isBarred {M0 : zM} {a0 : Nat} {a1 : Nat} {M : zM} (hM : FQ M0 M) : KF (FQ M0) (f_X7_isBarred a0 a1 M) := by
  unfold f_X7_isBarred
  exact (kq_X7_isBarred_0 hM)
theorem kq_X7_mayWin_0 {M0 : zM} {a0 : Nat} {i1 : Int32} {M : zM} (hM : FQ M0 M) : KF (FQ M0) (f_X7_mayWin_0 a0 i1 M) := by
  unfold f_X7_mayWin_0
  refine KF.b fun v1 => ?_
  refine KF.b fun v2 => ?_
  refine KF.b fun v3 => ?_
  refine KF.i ?_ ?_
  · refine KF.b fun v15 => ?_
    refine KF.i ?_ ?_
    · refine KF.b fun v16 => ?_
      refine KF.i ?_ ?_
      · exact KF.s hM
      · refine KF.b fun v17 => ?_
        refine KF.b fun v18 => ?_
        refine KF.i ?_ KF.n
        refine KF.c (kq_Jx4a65c_size_8abf5 hM) fun r19 h_r19 => ?_
        refine KF.c (kq_X7_isComplete h_r19) fun r21 h_r21 => ?_
        refine KF.i ?_ ?_
        · exact KF.s h_r21
        · exact KF.s h_r21
    · exact KF.s hM
  · refine KF.b fun v4 => ?_
    refine KF.i ?_ ?_
    · refine KF.b fun v5 => ?_
      refine KF.i ?_ ?_
      · exact KF.s hM
      · refine KF.i ?_ KF.n
        refine KF.c (kq_X6_waits hM) fun r6 h_r6 => ?_
        refine KF.b fun v8 => ?_
        refine KF.i ?_ ?_
        · refine KF.i ?_ KF.n
          refine KF.c (kq_X7_isBarred h_r6) fun r9 h_r9 => ?_
          refine KF.i ?_ ?_
          · exact KF.s h_r9
          · exact KF.s h_r9
        · exact KF.s h_r6
    · exact KF.s hM
theorem kq_X7_mayWin {M0 : zM} {a0 : Nat} {i1 : Int32} {M : zM} (hM : FQ M0 M) : KF (FQ M0) (f_X7_mayWin a0 i1 M) := by
  unfold f_X7_mayWin
  exact (kq_X7_mayWin_0 hM)
theorem kq_X7_has_25 {M0 : zM} {a0 : Nat} {i1 : Int32} {i2 : Int32} {i_0 : Int32} {a_1 : Nat} {M : zM} (hM : FQ M0 M) : KF (FQ M0) (f_X7_has_25 a0 i1 i2 i_0 a_1 M) := by
  unfold f_X7_has_25
  refine KF.i ?_ KF.n
  refine KF.c (kq_X7_refuse hM) fun r1 h_r1 => ?_
  refine KF.i ?_ ?_
  · refine KF.b fun v3 => ?_
    refine KF.b fun v4 => ?_
    refine KF.b fun v5 => ?_
    refine KF.b fun v6 => ?_
    exact KF.s h_r1
  · exact KF.s h_r1
theorem kq_X7_has_0 {M0 : zM} {a0 : Nat} {i1 : Int32} {i2 : Int32} {M : zM} (hM : FQ M0 M) : KF (FQ M0) (f_X7_has_0 a0 i1 i2 M) := by
  unfold f_X7_has_0
  refine KF.c (kq_X7_isNoPlayer hM) fun r1 h_r1 => ?_
  refine KF.i ?_ KF.n
  refine KF.c (kq_X7_start h_r1) fun r2 h_r2 => ?_
  refine KF.i ?_ ?_
  · refine KF.c (kq_X7_isKind h_r2) fun r4 h_r4 => ?_
    refine KF.i ?_ ?_
    · exact (kq_X7_has_25 h_r4)
    · exact (kq_X7_has_25 h_r4)
  · exact KF.s h_r2
theorem kq_X7_has {M0 : zM} {a0 : Nat} {i1 : Int32} {i2 : Int32} {M : zM} (hM : FQ M0 M) : KF (FQ M0) (f_X7_has a0 i1 i2 M) := by
  unfold f_X7_has
  exact (kq_X7_has_0 hM)
theorem kq_X7_ofPlayerNow_0 {M0 : zM} {a0 : Nat} {i1 : Int32} {i2 : Int32} {M : zM} (hM : FQ M0 M) : KF (FQ M0) (f_X7_ofPlayerNow_0 a0 i1 i2 M) := by
  unfold f_X7_ofPlayerNow_0
  refine KF.b fun v1 => ?_
  refine KF.b fun v2 => ?_
  refine KF.i ?_ ?_
  · refine KF.b fun v34 => ?_
    exact KF.s hM
  · refine KF.i ?_ ?_
    · refine KF.b fun v31 => ?_
      refine KF.i ?_ KF.n
      refine KF.c (kq_Jx4a65c_size_8abf5 hM) fun r32 h_r32 => ?_
      exact KF.s h_r32
    · refine KF.i ?_ ?_
      · refine KF.i ?_ KF.n
        refine KF.c (kq_X6_open hM) fun r29 h_r29 => ?_
        exact KF.s h_r29
      · refine KF.i ?_ ?_
        · refine KF.i ?_ KF.n
          refine KF.c (kq_X6_tiles hM) fun r27 h_r27 => ?_
          exact KF.s h_r27
        · refine KF.i ?_ ?_
          · refine KF.b fun v24 => ?_
            refine KF.i ?_ KF.n
            refine KF.c (kq_Jx4a65c_size_8abf5 hM) fun r25 h_r25 => ?_
            exact KF.s h_r25
          · refine KF.i ?_ ?_
            · refine KF.b fun v22 => ?_
              refine KF.i ?_ ?_
              · exact KF.s hM
              · exact KF.s hM
            · refine KF.i ?_ ?_
              · refine KF.i ?_ KF.n
                refine KF.c (kq_X6_far hM) fun r20 h_r20 => ?_
                exact KF.s h_r20
              · refine KF.i ?_ ?_
                · refine KF.b fun v16 => ?_
                  refine KF.i ?_ ?_
                  · exact KF.s hM
                  · refine KF.i ?_ KF.n
                    refine KF.c (kq_X7_wind hM) fun r17 h_r17 => ?_
                    exact KF.s h_r17
                · refine KF.i ?_ ?_
                  · refine KF.b fun v15 => ?_
                    exact KF.s hM
                  · refine KF.i ?_ KF.n
                    refine KF.c (kq_X7_isBarred hM) fun r12 h_r12 => ?_
                    refine KF.i ?_ ?_
                    · exact KF.s h_r12
                    · exact KF.s h_r12
theorem kq_X7_ofPlayerNow {M0 : zM} {a0 : Nat} {i1 : Int32} {i2 : Int32} {M : zM} (hM : FQ M0 M) : KF (FQ M0) (f_X7_ofPlayerNow a0 i1 i2 M) := by
  unfold f_X7_ofPlayerNow
  exact (kq_X7_ofPlayerNow_0 hM)
theorem kq_X7_ofPlayer_28 {M0 : zM} {a0 : Nat} {i1 : Int32} {i2 : Int32} {i_0 : Int32} {a_1 : Nat} {M : zM} (hM : FQ M0 M) : KF (FQ M0) (f_X7_ofPlayer_28 a0 i1 i2 i_0 a_1 M) := by
  unfold f_X7_ofPlayer_28
  refine KF.i ?_ KF.n
  refine KF.c (kq_X7_refuse hM) fun r1 h_r1 => ?_
  refine KF.i ?_ ?_
  · refine KF.i ?_ KF.n
    refine KF.c (kq_X7_ofPlayerNow h_r1) fun r3 h_r3 => ?_
    exact KF.s h_r3
  · exact KF.s h_r1
theorem kq_X7_ofPlayer_0 {M0 : zM} {a0 : Nat} {i1 : Int32} {i2 : Int32} {M : zM} (hM : FQ M0 M) : KF (FQ M0) (f_X7_ofPlayer_0 a0 i1 i2 M) := by
  unfold f_X7_ofPlayer_0
  refine KF.c (kq_X7_isNoPlayer hM) fun r1 h_r1 => ?_
  refine KF.i ?_ KF.n
  refine KF.c (kq_X7_start h_r1) fun r2 h_r2 => ?_
  refine KF.i ?_ ?_
  · refine KF.c (kq_X7_isIn h_r2) fun r4 h_r4 => ?_
    refine KF.i ?_ ?_
    · exact (kq_X7_ofPlayer_28 h_r4)
    · exact (kq_X7_ofPlayer_28 h_r4)
  · exact KF.s h_r2
theorem kq_X7_ofPlayer {M0 : zM} {a0 : Nat} {i1 : Int32} {i2 : Int32} {M : zM} (hM : FQ M0 M) : KF (FQ M0) (f_X7_ofPlayer a0 i1 i2 M) := by
  unfold f_X7_ofPlayer
  exact (kq_X7_ofPlayer_0 hM)
theorem kq_X7_ofSetNow_0 {M0 : zM} {a0 : Nat} {M : zM} (hM : FQ M0 M) : KF (FQ M0) (f_X7_ofSetNow_0 a0 M) := by
  unfold f_X7_ofSetNow_0
  refine KF.b fun v1 => ?_
  refine KF.b fun v2 => ?_
  exact KF.s hM
theorem kq_X7_ofSetNow {M0 : zM} {a0 : Nat} {M : zM} (hM : FQ M0 M) : KF (FQ M0) (f_X7_ofSetNow a0 M) := by
  unfold f_X7_ofSetNow
  exact (kq_X7_ofSetNow_0 hM)
theorem kq_Jx4a65c_elementData_915e3_0 {M0 : zM} {a0 : Nat} {i1 : Int32} {M : zM} (hM : FQ M0 M) : KF (FQ M0) (f_Jx4a65c_elementData_915e3_0 a0 i1 M) := by
  unfold f_Jx4a65c_elementData_915e3_0
  refine KF.b fun v1 => ?_
  refine KF.b fun v2 => ?_
  exact KF.s hM
theorem kq_Jx4a65c_elementData_915e3 {M0 : zM} {a0 : Nat} {i1 : Int32} {M : zM} (hM : FQ M0 M) : KF (FQ M0) (f_Jx4a65c_elementData_915e3 a0 i1 M) := by
  unfold f_Jx4a65c_elementData_915e3
  exact (kq_Jx4a65c_elementData_915e3_0 hM)
theorem kq_Jx4a65c_get_915e3_0 {M0 : zM} {a0 : Nat} {i1 : Int32} {M : zM} (hM : FQ M0 M) : KF (FQ M0) (f_Jx4a65c_get_915e3_0 a0 i1 M) := by
  unfold f_Jx4a65c_get_915e3_0
  refine KF.b fun v1 => ?_
  refine KF.c (kq_J15_checkIndex_7cf53 hM) fun r2 h_r2 => ?_
  refine KF.i ?_ KF.n
  refine KF.c (kq_Jx4a65c_elementData_915e3 h_r2) fun r3 h_r3 => ?_
  exact KF.s h_r3
theorem kq_Jx4a65c_get_915e3 {M0 : zM} {a0 : Nat} {i1 : Int32} {M : zM} (hM : FQ M0 M) : KF (FQ M0) (f_Jx4a65c_get_915e3 a0 i1 M) := by
  unfold f_Jx4a65c_get_915e3
  exact (kq_Jx4a65c_get_915e3_0 hM)
theorem kq_X7_ofSet_35 {M0 : zM} {a0 : Nat} {i1 : Int32} {i2 : Int32} {i_0 : Int32} {a_1 : Nat} {M : zM} (hM : FQ M0 M) : KF (FQ M0) (f_X7_ofSet_35 a0 i1 i2 i_0 a_1 M) := by
  unfold f_X7_ofSet_35
  refine KF.i ?_ KF.n
  refine KF.c (kq_X7_start hM) fun r1 h_r1 => ?_
  refine KF.i ?_ ?_
  · refine KF.b fun v3 => ?_
    refine KF.b fun v4 => ?_
    refine KF.b fun v5 => ?_
    refine KF.i ?_ KF.n
    refine KF.c (kq_Jx4a65c_get_915e3 h_r1) fun r6 h_r6 => ?_
    refine KF.i ?_ KF.n
    refine KF.c (kq_X7_ofSetNow h_r6) fun r9 h_r9 => ?_
    exact KF.s h_r9
  · exact KF.s h_r1
theorem kq_X7_ofSet_30 {M0 : zM} {a0 : Nat} {i1 : Int32} {i2 : Int32} {a_0 : Nat} {M : zM} (hM : FQ M0 M) : KF (FQ M0) (f_X7_ofSet_30 a0 i1 i2 a_0 M) := by
  unfold f_X7_ofSet_30
  exact (kq_X7_ofSet_35 hM)
theorem kq_X7_ofSet_0 {M0 : zM} {a0 : Nat} {i1 : Int32} {i2 : Int32} {M : zM} (hM : FQ M0 M) : KF (FQ M0) (f_X7_ofSet_0 a0 i1 i2 M) := by
  unfold f_X7_ofSet_0
  refine KF.c (kq_X7_isNoPlayer hM) fun r1 h_r1 => ?_
  refine KF.i ?_ ?_
  · refine KF.b fun v2 => ?_
    refine KF.b fun v3 => ?_
    refine KF.b fun v4 => ?_
    refine KF.i ?_ KF.n
    refine KF.c (kq_Jx4a65c_size_8abf5 h_r1) fun r5 h_r5 => ?_
    refine KF.c (kq_X7_isIn h_r5) fun r7 h_r7 => ?_
    refine KF.i ?_ ?_
    · exact (kq_X7_ofSet_30 h_r7)
    · exact (kq_X7_ofSet_35 h_r7)
  · exact (kq_X7_ofSet_30 h_r1)
theorem kq_X7_ofSet {M0 : zM} {a0 : Nat} {i1 : Int32} {i2 : Int32} {M : zM} (hM : FQ M0 M) : KF (FQ M0) (f_X7_ofSet a0 i1 i2 M) := by
  unfold f_X7_ofSet
  exact (kq_X7_ofSet_0 hM)
theorem kq_J6_intValue_8abf5_0 {M0 : zM} {a0 : Nat} {M : zM} (hM : FQ M0 M) : KF (FQ M0) (f_J6_intValue_8abf5_0 a0 M) := by
  unfold f_J6_intValue_8abf5_0
  refine KF.b fun v1 => ?_
  exact KF.s hM
theorem kq_J6_intValue_8abf5 {M0 : zM} {a0 : Nat} {M : zM} (hM : FQ M0 M) : KF (FQ M0) (f_J6_intValue_8abf5 a0 M) := by
  unfold f_J6_intValue_8abf5
  exact (kq_J6_intValue_8abf5_0 hM)
theorem kq_X7_river_35 {M0 : zM} {a0 : Nat} {i1 : Int32} {i2 : Int32} {i_0 : Int32} {a_1 : Nat} {M : zM} (hM : FQ M0 M) : KF (FQ M0) (f_X7_river_35 a0 i1 i2 i_0 a_1 M) := by
  unfold f_X7_river_35
  refine KF.i ?_ KF.n
  refine KF.c (kq_X7_start hM) fun r1 h_r1 => ?_
  refine KF.i ?_ ?_
  · refine KF.b fun v3 => ?_
    refine KF.b fun v4 => ?_
    refine KF.b fun v5 => ?_
    refine KF.i ?_ KF.n
    refine KF.c (kq_Jx4a65c_get_915e3 h_r1) fun r6 h_r6 => ?_
    refine KF.i ?_ KF.n
    refine KF.i ?_ KF.n
    refine KF.c (kq_J6_intValue_8abf5 h_r6) fun r9 h_r9 => ?_
    exact KF.s h_r9
  · exact KF.s h_r1
theorem kq_X7_river_30 {M0 : zM} {a0 : Nat} {i1 : Int32} {i2 : Int32} {a_0 : Nat} {M : zM} (hM : FQ M0 M) : KF (FQ M0) (f_X7_river_30 a0 i1 i2 a_0 M) := by
  unfold f_X7_river_30
  exact (kq_X7_river_35 hM)
theorem kq_X7_river_0 {M0 : zM} {a0 : Nat} {i1 : Int32} {i2 : Int32} {M : zM} (hM : FQ M0 M) : KF (FQ M0) (f_X7_river_0 a0 i1 i2 M) := by
  unfold f_X7_river_0
  refine KF.c (kq_X7_isNoPlayer hM) fun r1 h_r1 => ?_
  refine KF.i ?_ ?_
  · refine KF.b fun v2 => ?_
    refine KF.b fun v3 => ?_
    refine KF.b fun v4 => ?_
    refine KF.i ?_ KF.n
    refine KF.c (kq_Jx4a65c_size_8abf5 h_r1) fun r5 h_r5 => ?_
    refine KF.c (kq_X7_isIn h_r5) fun r7 h_r7 => ?_
    refine KF.i ?_ ?_
    · exact (kq_X7_river_30 h_r7)
    · exact (kq_X7_river_35 h_r7)
  · exact (kq_X7_river_30 h_r1)
theorem kq_X7_river {M0 : zM} {a0 : Nat} {i1 : Int32} {i2 : Int32} {M : zM} (hM : FQ M0 M) : KF (FQ M0) (f_X7_river a0 i1 i2 M) := by
  unfold f_X7_river
  exact (kq_X7_river_0 hM)
theorem kq_X7_seenNow_81 {M0 : zM} {K14 : Int32 → Int32 → Nat → Int32 → Int32 → zM → Option (Int32 × zM)} (hK14 : ∀ {x0 : Int32} {x1 : Int32} {x2 : Nat} {x3 : Int32} {x4 : Int32} {M : zM}, FQ M0 M → KF (FQ M0) (K14 x0 x1 x2 x3 x4 M)) : ∀ (n : Nat) {i1 : Int32} {i2 : Int32} {a3 : Nat} {i4 : Int32} {i5 : Int32} {a7 : Nat} {M : zM}, FQ M0 M → KF (FQ M0) (f_X7_seenNow_81 K14 n i1 i2 a3 i4 i5 a7 M) := by
  intro n
  induction n with
  | zero => exact fun _ => KF.n
  | succ n ih =>
    intro i1 i2 a3 i4 i5 a7 M hM
    rw [f_X7_seenNow_81]
    refine KF.i ?_ KF.n
    refine KF.c (kq_Jx35411_hasNext_aae02 hM) fun r1 h_r1 => ?_
    refine KF.i ?_ ?_
    · exact (hK14 h_r1)
    · refine KF.i ?_ KF.n
      refine KF.c (kq_Jx35411_next_0502b h_r1) fun r3 h_r3 => ?_
      refine KF.i ?_ KF.n
      refine KF.i ?_ KF.n
      refine KF.c (kq_J6_intValue_8abf5 h_r3) fun r6 h_r6 => ?_
      refine KF.i ?_ ?_
      · exact (ih h_r6)
      · exact (ih h_r6)
theorem kq_X7_seenNow_37 {M0 : zM} {K14 : Int32 → Int32 → Nat → Int32 → Int32 → zM → Option (Int32 × zM)} (hK14 : ∀ {x0 : Int32} {x1 : Int32} {x2 : Nat} {x3 : Int32} {x4 : Int32} {M : zM}, FQ M0 M → KF (FQ M0) (K14 x0 x1 x2 x3 x4 M)) : ∀ (n : Nat) {i1 : Int32} {i2 : Int32} {a3 : Nat} {i4 : Int32} {i5 : Int32} {a6 : Nat} {a7 : Nat} {M : zM}, FQ M0 M → KF (FQ M0) (f_X7_seenNow_37 K14 n i1 i2 a3 i4 i5 a6 a7 M) := by
  intro n
  induction n with
  | zero => exact fun _ => KF.n
  | succ n ih =>
    intro i1 i2 a3 i4 i5 a6 a7 M hM
    rw [f_X7_seenNow_37]
    refine KF.i ?_ KF.n
    refine KF.c (kq_Jx35411_hasNext_aae02 hM) fun r1 h_r1 => ?_
    refine KF.i ?_ ?_
    · refine KF.b fun v3 => ?_
      refine KF.i ?_ KF.n
      refine KF.c (kq_Jx4a65c_iterator_32c93 h_r1) fun r4 h_r4 => ?_
      exact (kq_X7_seenNow_81 hK14 zN h_r4)
    · refine KF.i ?_ KF.n
      refine KF.c (kq_Jx35411_next_0502b h_r1) fun r6 h_r6 => ?_
      refine KF.i ?_ KF.n
      refine KF.i ?_ KF.n
      refine KF.c (kq_X5_of h_r6) fun r9 h_r9 => ?_
      exact (ih h_r9)
theorem kq_X7_seenNow_14 {M0 : zM} : ∀ (n : Nat) {i1 : Int32} {i2 : Int32} {a3 : Nat} {i4 : Int32} {i5 : Int32} {M : zM}, FQ M0 M → KF (FQ M0) (f_X7_seenNow_14 n i1 i2 a3 i4 i5 M) := by
  intro n
  induction n with
  | zero => exact fun _ => KF.n
  | succ n ih =>
    intro i1 i2 a3 i4 i5 M hM
    rw [f_X7_seenNow_14]
    refine KF.i ?_ ?_
    · exact KF.s hM
    · refine KF.b fun v1 => ?_
      refine KF.b fun v2 => ?_
      refine KF.i ?_ KF.n
      refine KF.c (kq_Jx4a65c_iterator_32c93 hM) fun r3 h_r3 => ?_
      exact (kq_X7_seenNow_37 ih zN h_r3)
theorem kq_X7_seenNow_0 {M0 : zM} {a0 : Nat} {i1 : Int32} {M : zM} (hM : FQ M0 M) : KF (FQ M0) (f_X7_seenNow_0 a0 i1 M) := by
  unfold f_X7_seenNow_0
  refine KF.b fun v1 => ?_
  refine KF.b fun v2 => ?_
  exact (kq_X7_seenNow_14 zN hM)
theorem kq_X7_seenNow {M0 : zM} {a0 : Nat} {i1 : Int32} {M : zM} (hM : FQ M0 M) : KF (FQ M0) (f_X7_seenNow a0 i1 M) := by
  unfold f_X7_seenNow
  exact (kq_X7_seenNow_0 hM)
theorem kq_X7_seen_13 {M0 : zM} {a0 : Nat} {i1 : Int32} {i_0 : Int32} {a_1 : Nat} {M : zM} (hM : FQ M0 M) : KF (FQ M0) (f_X7_seen_13 a0 i1 i_0 a_1 M) := by
  unfold f_X7_seen_13
  refine KF.i ?_ KF.n
  refine KF.c (kq_X7_start hM) fun r1 h_r1 => ?_
  refine KF.i ?_ ?_
  · refine KF.i ?_ KF.n
    refine KF.c (kq_X7_seenNow h_r1) fun r3 h_r3 => ?_
    exact KF.s h_r3
  · exact KF.s h_r1
theorem kq_X7_seen_0 {M0 : zM} {a0 : Nat} {i1 : Int32} {M : zM} (hM : FQ M0 M) : KF (FQ M0) (f_X7_seen_0 a0 i1 M) := by
  unfold f_X7_seen_0
  refine KF.c (kq_X7_isKind hM) fun r1 h_r1 => ?_
  refine KF.i ?_ ?_
  · exact (kq_X7_seen_13 h_r1)
  · exact (kq_X7_seen_13 h_r1)
theorem kq_X7_seen {M0 : zM} {a0 : Nat} {i1 : Int32} {M : zM} (hM : FQ M0 M) : KF (FQ M0) (f_X7_seen a0 i1 M) := by
  unfold f_X7_seen
  exact (kq_X7_seen_0 hM)
theorem kq_X7_waits_0 {M0 : zM} {a0 : Nat} {i1 : Int32} {M : zM} (hM : FQ M0 M) : KF (FQ M0) (f_X7_waits_0 a0 i1 M) := by
  unfold f_X7_waits_0
  refine KF.c (kq_X7_isNoPlayer hM) fun r1 h_r1 => ?_
  refine KF.i ?_ KF.n
  refine KF.c (kq_X7_start h_r1) fun r2 h_r2 => ?_
  refine KF.i ?_ ?_
  · refine KF.b fun v4 => ?_
    refine KF.b fun v5 => ?_
    refine KF.i ?_ KF.n
    refine KF.c (kq_X6_waits h_r2) fun r6 h_r6 => ?_
    exact KF.s h_r6
  · exact KF.s h_r2
theorem kq_X7_waits {M0 : zM} {a0 : Nat} {i1 : Int32} {M : zM} (hM : FQ M0 M) : KF (FQ M0) (f_X7_waits a0 i1 M) := by
  unfold f_X7_waits
  exact (kq_X7_waits_0 hM)
theorem kq_J5_charAt_5068e_0 {M0 : zM} {a0 : Nat} {i1 : Int32} {M : zM} (hM : FQ M0 M) : KF (FQ M0) (f_J5_charAt_5068e_0 a0 i1 M) := by
  unfold f_J5_charAt_5068e_0
  refine KF.b fun v1 => ?_
  refine KF.b fun v2 => ?_
  refine KF.b fun v3 => ?_
  refine KF.b fun v4 => ?_
  refine KF.c (kq_J9_min_7cf53 hM) fun r5 h_r5 => ?_
  refine KF.c (kq_J0_checkIndex_df160 h_r5) fun r6 h_r6 => ?_
  refine KF.i ?_ KF.n
  refine KF.b fun v7 => ?_
  refine KF.i ?_ KF.n
  exact KF.s h_r6
theorem kq_J5_charAt_5068e {M0 : zM} {a0 : Nat} {i1 : Int32} {M : zM} (hM : FQ M0 M) : KF (FQ M0) (f_J5_charAt_5068e a0 i1 M) := by
  unfold f_J5_charAt_5068e
  exact (kq_J5_charAt_5068e_0 hM)
theorem kq_J4_charAt_5068e_0 {M0 : zM} {a0 : Nat} {i1 : Int32} {M : zM} (hM : FQ M0 M) : KF (FQ M0) (f_J4_charAt_5068e_0 a0 i1 M) := by
  unfold f_J4_charAt_5068e_0
  refine KF.i ?_ KF.n
  refine KF.c (kq_J5_charAt_5068e hM) fun r1 h_r1 => ?_
  refine KF.i ?_ KF.n
  exact KF.s h_r1
theorem kq_J4_charAt_5068e {M0 : zM} {a0 : Nat} {i1 : Int32} {M : zM} (hM : FQ M0 M) : KF (FQ M0) (f_J4_charAt_5068e a0 i1 M) := by
  unfold f_J4_charAt_5068e
  exact (kq_J4_charAt_5068e_0 hM)
theorem kq_X7_hand_118 {M0 : zM} {K37 : Nat → Nat → Int32 → zM → Option (Nat × zM)} (hK37 : ∀ {x0 : Nat} {x1 : Nat} {x2 : Int32} {M : zM}, FQ M0 M → KF (FQ M0) (K37 x0 x1 x2 M)) {a2 : Nat} {a3 : Nat} {i4 : Int32} {M : zM} (hM : FQ M0 M) : KF (FQ M0) (f_X7_hand_118 K37 a2 a3 i4 M) := by
  unfold f_X7_hand_118
  refine KF.i ?_ ?_
  · refine KF.i ?_ KF.n
    refine KF.c (kq_J4_length_8abf5 hM) fun r1 h_r1 => ?_
    refine KF.i ?_ ?_
    · exact (hK37 h_r1)
    · refine KF.i ?_ KF.n
      refine KF.c (kq_J4_length_8abf5 h_r1) fun r3 h_r3 => ?_
      refine KF.i ?_ KF.n
      refine KF.c (kq_J4_charAt_5068e h_r3) fun r5 h_r5 => ?_
      refine KF.i ?_ ?_
      · exact (hK37 h_r5)
      · refine KF.i ?_ KF.n
        refine KF.c (kq_J4_append_cf468 h_r5) fun r7 h_r7 => ?_
        exact (hK37 h_r7)
  · exact (hK37 hM)
theorem kq_X7_hand_87 {M0 : zM} {K37 : Nat → Nat → Int32 → zM → Option (Nat × zM)} {K47 : Nat → Nat → Int32 → Int32 → zM → Option (Nat × zM)} (hK37 : ∀ {x0 : Nat} {x1 : Nat} {x2 : Int32} {M : zM}, FQ M0 M → KF (FQ M0) (K37 x0 x1 x2 M)) (hK47 : ∀ {x0 : Nat} {x1 : Nat} {x2 : Int32} {x3 : Int32} {M : zM}, FQ M0 M → KF (FQ M0) (K47 x0 x1 x2 x3 M)) {a2 : Nat} {a3 : Nat} {i4 : Int32} {i5 : Int32} {i_0 : Int32} {a_1 : Nat} {M : zM} (hM : FQ M0 M) : KF (FQ M0) (f_X7_hand_87 K37 K47 a2 a3 i4 i5 i_0 a_1 M) := by
  unfold f_X7_hand_87
  refine KF.i ?_ KF.n
  refine KF.c (kq_J4_append_cf468 hM) fun r1 h_r1 => ?_
  exact (hK47 h_r1)
theorem kq_X7_hand_47 {M0 : zM} {K37 : Nat → Nat → Int32 → zM → Option (Nat × zM)} (hK37 : ∀ {x0 : Nat} {x1 : Nat} {x2 : Int32} {M : zM}, FQ M0 M → KF (FQ M0) (K37 x0 x1 x2 M)) : ∀ (n : Nat) {a2 : Nat} {a3 : Nat} {i4 : Int32} {i5 : Int32} {M : zM}, FQ M0 M → KF (FQ M0) (f_X7_hand_47 K37 n a2 a3 i4 i5 M) := by
  intro n
  induction n with
  | zero => exact fun _ => KF.n
  | succ n ih =>
    intro a2 a3 i4 i5 M hM
    rw [f_X7_hand_47]
    refine KF.b fun v1 => ?_
    refine KF.i ?_ ?_
    · refine KF.i ?_ ?_
      · refine KF.i ?_ KF.n
        refine KF.c (kq_J4_length_8abf5 hM) fun r2 h_r2 => ?_
        refine KF.i ?_ ?_
        · exact (kq_X7_hand_118 hK37 h_r2)
        · refine KF.i ?_ KF.n
          refine KF.c (kq_J4_append_cf468 h_r2) fun r4 h_r4 => ?_
          exact (kq_X7_hand_118 hK37 h_r4)
      · exact (kq_X7_hand_118 hK37 hM)
    · refine KF.i ?_ ?_
      · refine KF.i ?_ KF.n
        refine KF.c (kq_J0_charAt_5068e hM) fun r8 h_r8 => ?_
        exact (kq_X7_hand_87 hK37 ih h_r8)
      · exact (kq_X7_hand_87 hK37 ih hM)
theorem kq_X7_hand_37 {M0 : zM} : ∀ (n : Nat) {a2 : Nat} {a3 : Nat} {i4 : Int32} {M : zM}, FQ M0 M → KF (FQ M0) (f_X7_hand_37 n a2 a3 i4 M) := by
  intro n
  induction n with
  | zero => exact fun _ => KF.n
  | succ n ih =>
    intro a2 a3 i4 M hM
    rw [f_X7_hand_37]
    refine KF.i ?_ ?_
    · refine KF.i ?_ KF.n
      refine KF.c (kq_J4_toString_0e30d hM) fun r1 h_r1 => ?_
      exact KF.s h_r1
    · exact (kq_X7_hand_47 ih zN hM)
theorem kq_X7_hand_0 {M0 : zM} {a0 : Nat} {i1 : Int32} {M : zM} (hM : FQ M0 M) : KF (FQ M0) (f_X7_hand_0 a0 i1 M) := by
  unfold f_X7_hand_0
  refine KF.c (kq_X7_isNoPlayer hM) fun r1 h_r1 => ?_
  refine KF.i ?_ KF.n
  refine KF.c (kq_X7_start h_r1) fun r2 h_r2 => ?_
  refine KF.i ?_ ?_
  · refine KF.c (kq_J4_init_da8c8 (fq_nO h_r2)) fun r4 h_r4 => ?_
    refine KF.b fun v5 => ?_
    refine KF.b fun v6 => ?_
    refine KF.b fun v7 => ?_
    exact (kq_X7_hand_37 zN h_r4)
  · exact KF.s h_r2
theorem kq_X7_hand {M0 : zM} {a0 : Nat} {i1 : Int32} {M : zM} (hM : FQ M0 M) : KF (FQ M0) (f_X7_hand a0 i1 M) := by
  unfold f_X7_hand
  exact (kq_X7_hand_0 hM)
theorem kq_X7_manyNow_62 {M0 : zM} {a0 : Nat} {i1 : Int32} {i_0 : Int32} {i_1 : Int32} {a_2 : Nat} {a_3 : Nat} {M : zM} (hM : FQ M0 M) : KF (FQ M0) (f_X7_manyNow_62 a0 i1 i_0 i_1 a_2 a_3 M) := by
  unfold f_X7_manyNow_62
  refine KF.w (fq_tA hM) fun M1 h_M1 => ?_
  refine KF.b fun v2 => ?_
  refine KF.w (fq_tA h_M1) fun M3 h_M3 => ?_
  refine KF.b fun v4 => ?_
  refine KF.w (fq_tA h_M3) fun M5 h_M5 => ?_
  refine KF.b fun v6 => ?_
  refine KF.w (fq_tA h_M5) fun M7 h_M7 => ?_
  refine KF.b fun v8 => ?_
  refine KF.w (fq_tA h_M7) fun M9 h_M9 => ?_
  refine KF.b fun v10 => ?_
  refine KF.w (fq_tA h_M9) fun M11 h_M11 => ?_
  refine KF.b fun v12 => ?_
  exact KF.s h_M11
theorem kq_X7_manyNow_29 {M0 : zM} {a0 : Nat} {i1 : Int32} {i_0 : Int32} {i_1 : Int32} {a_2 : Nat} {a_3 : Nat} {M : zM} (hM : FQ M0 M) : KF (FQ M0) (f_X7_manyNow_29 a0 i1 i_0 i_1 a_2 a_3 M) := by
  unfold f_X7_manyNow_29
  refine KF.w (fq_tA hM) fun M1 h_M1 => ?_
  refine KF.i ?_ KF.n
  refine KF.c (kq_X7_left h_M1) fun r2 h_r2 => ?_
  refine KF.w (fq_tA h_r2) fun M4 h_M4 => ?_
  refine KF.b fun v5 => ?_
  refine KF.w (fq_tA h_M4) fun M6 h_M6 => ?_
  refine KF.b fun v7 => ?_
  refine KF.i ?_ ?_
  · refine KF.b fun v8 => ?_
    exact (kq_X7_manyNow_62 h_M6)
  · exact (kq_X7_manyNow_62 h_M6)
theorem kq_X7_manyNow_0 {M0 : zM} {a0 : Nat} {i1 : Int32} {M : zM} (hM : FQ M0 M) : KF (FQ M0) (f_X7_manyNow_0 a0 i1 M) := by
  unfold f_X7_manyNow_0
  refine KF.c (fq_aA hM) fun r1 h_r1 => ?_
  refine KF.b fun v2 => ?_
  refine KF.w (fq_tA h_r1) fun M3 h_M3 => ?_
  refine KF.b fun v4 => ?_
  refine KF.i ?_ ?_
  · exact (kq_X7_manyNow_29 h_M3)
  · refine KF.b fun v5 => ?_
    exact (kq_X7_manyNow_29 h_M3)
theorem kq_X7_manyNow {M0 : zM} {a0 : Nat} {i1 : Int32} {M : zM} (hM : FQ M0 M) : KF (FQ M0) (f_X7_manyNow a0 i1 M) := by
  unfold f_X7_manyNow
  exact (kq_X7_manyNow_0 hM)
theorem kq_X7_many_16 {M0 : zM} {a0 : Nat} {i1 : Int32} {i_0 : Int32} {a_1 : Nat} {M : zM} (hM : FQ M0 M) : KF (FQ M0) (f_X7_many_16 a0 i1 i_0 a_1 M) := by
  unfold f_X7_many_16
  refine KF.i ?_ KF.n
  refine KF.c (kq_X7_start hM) fun r1 h_r1 => ?_
  refine KF.i ?_ ?_
  · refine KF.i ?_ KF.n
    refine KF.c (kq_X7_manyNow h_r1) fun r3 h_r3 => ?_
    exact KF.s h_r3
  · exact KF.s h_r1
theorem kq_X7_many_0 {M0 : zM} {a0 : Nat} {i1 : Int32} {M : zM} (hM : FQ M0 M) : KF (FQ M0) (f_X7_many_0 a0 i1 M) := by
  unfold f_X7_many_0
  refine KF.c (kq_X7_isIn hM) fun r1 h_r1 => ?_
  refine KF.i ?_ ?_
  · exact (kq_X7_many_16 h_r1)
  · exact (kq_X7_many_16 h_r1)
theorem kq_X7_many {M0 : zM} {a0 : Nat} {i1 : Int32} {M : zM} (hM : FQ M0 M) : KF (FQ M0) (f_X7_many a0 i1 M) := by
  unfold f_X7_many
  exact (kq_X7_many_0 hM)
theorem kq_X7_leadNow_14 {M0 : zM} : ∀ (n : Nat) {a0 : Nat} {i1 : Int32} {i2 : Int32} {a3 : Nat} {i4 : Int32} {i5 : Int32} {M : zM}, FQ M0 M → KF (FQ M0) (f_X7_leadNow_14 n a0 i1 i2 a3 i4 i5 M) := by
  intro n
  induction n with
  | zero => exact fun _ => KF.n
  | succ n ih =>
    intro a0 i1 i2 a3 i4 i5 M hM
    rw [f_X7_leadNow_14]
    refine KF.i ?_ ?_
    · refine KF.b fun v1 => ?_
      refine KF.b fun v2 => ?_
      refine KF.b fun v3 => ?_
      refine KF.i ?_ KF.n
      refine KF.i ?_ KF.n
      exact KF.s hM
    · refine KF.b fun v6 => ?_
      refine KF.b fun v7 => ?_
      exact (ih hM)
theorem kq_X7_leadNow_0 {M0 : zM} {a0 : Nat} {i1 : Int32} {M : zM} (hM : FQ M0 M) : KF (FQ M0) (f_X7_leadNow_0 a0 i1 M) := by
  unfold f_X7_leadNow_0
  refine KF.b fun v1 => ?_
  refine KF.b fun v2 => ?_
  exact (kq_X7_leadNow_14 zN hM)
theorem kq_X7_leadNow {M0 : zM} {a0 : Nat} {i1 : Int32} {M : zM} (hM : FQ M0 M) : KF (FQ M0) (f_X7_leadNow a0 i1 M) := by
  unfold f_X7_leadNow
  exact (kq_X7_leadNow_0 hM)
theorem kq_X7_lead_0 {M0 : zM} {a0 : Nat} {i1 : Int32} {M : zM} (hM : FQ M0 M) : KF (FQ M0) (f_X7_lead_0 a0 i1 M) := by
  unfold f_X7_lead_0
  refine KF.c (kq_X7_isNoPlayer hM) fun r1 h_r1 => ?_
  refine KF.i ?_ KF.n
  refine KF.c (kq_X7_start h_r1) fun r2 h_r2 => ?_
  refine KF.i ?_ ?_
  · refine KF.i ?_ KF.n
    refine KF.c (kq_X7_leadNow h_r2) fun r4 h_r4 => ?_
    exact KF.s h_r4
  · exact KF.s h_r2
theorem kq_X7_lead {M0 : zM} {a0 : Nat} {i1 : Int32} {M : zM} (hM : FQ M0 M) : KF (FQ M0) (f_X7_lead a0 i1 M) := by
  unfold f_X7_lead
  exact (kq_X7_lead_0 hM)
theorem kq_X7_worth_25 {M0 : zM} {a0 : Nat} {i1 : Int32} {i2 : Int32} {i_0 : Int32} {a_1 : Nat} {M : zM} (hM : FQ M0 M) : KF (FQ M0) (f_X7_worth_25 a0 i1 i2 i_0 a_1 M) := by
  unfold f_X7_worth_25
  refine KF.i ?_ KF.n
  refine KF.c (kq_X7_refuse hM) fun r1 h_r1 => ?_
  refine KF.i ?_ ?_
  · refine KF.b fun v3 => ?_
    refine KF.b fun v4 => ?_
    refine KF.i ?_ KF.n
    refine KF.c (kq_X6_waits h_r1) fun r5 h_r5 => ?_
    refine KF.i ?_ ?_
    · exact KF.s h_r5
    · refine KF.b fun v7 => ?_
      refine KF.b fun v8 => ?_
      refine KF.w (fq_tA h_r5) fun M9 h_M9 => ?_
      refine KF.i ?_ KF.n
      refine KF.c (kq_X7_value h_M9) fun r10 h_r10 => ?_
      refine KF.b fun v12 => ?_
      refine KF.b fun v13 => ?_
      refine KF.w (fq_tA h_r10) fun M14 h_M14 => ?_
      exact KF.s h_M14
  · exact KF.s h_r1
theorem kq_X7_worth_0 {M0 : zM} {a0 : Nat} {i1 : Int32} {i2 : Int32} {M : zM} (hM : FQ M0 M) : KF (FQ M0) (f_X7_worth_0 a0 i1 i2 M) := by
  unfold f_X7_worth_0
  refine KF.c (kq_X7_isNoPlayer hM) fun r1 h_r1 => ?_
  refine KF.i ?_ KF.n
  refine KF.c (kq_X7_start h_r1) fun r2 h_r2 => ?_
  refine KF.i ?_ ?_
  · refine KF.c (kq_X7_isKind h_r2) fun r4 h_r4 => ?_
    refine KF.i ?_ ?_
    · exact (kq_X7_worth_25 h_r4)
    · exact (kq_X7_worth_25 h_r4)
  · exact KF.s h_r2
theorem kq_X7_worth {M0 : zM} {a0 : Nat} {i1 : Int32} {i2 : Int32} {M : zM} (hM : FQ M0 M) : KF (FQ M0) (f_X7_worth a0 i1 i2 M) := by
  unfold f_X7_worth
  exact (kq_X7_worth_0 hM)
theorem kq_X7_bestNow_84 {M0 : zM} {K25 : Nat → Int32 → Int32 → Nat → Int32 → zM → Option (Int32 × zM)} (hK25 : ∀ {x0 : Nat} {x1 : Int32} {x2 : Int32} {x3 : Nat} {x4 : Int32} {M : zM}, FQ M0 M → KF (FQ M0) (K25 x0 x1 x2 x3 x4 M)) {a0 : Nat} {a3 : Nat} {i4 : Int32} {i5 : Int32} {M : zM} (hM : FQ M0 M) : KF (FQ M0) (f_X7_bestNow_84 K25 a0 a3 i4 i5 M) := by
  unfold f_X7_bestNow_84
  exact (hK25 hM)
theorem kq_X7_bestNow_25 {M0 : zM} : ∀ (n : Nat) {a0 : Nat} {i1 : Int32} {i2 : Int32} {a3 : Nat} {i4 : Int32} {M : zM}, FQ M0 M → KF (FQ M0) (f_X7_bestNow_25 n a0 i1 i2 a3 i4 M) := by
  intro n
  induction n with
  | zero => exact fun _ => KF.n
  | succ n ih =>
    intro a0 i1 i2 a3 i4 M hM
    rw [f_X7_bestNow_25]
    refine KF.i ?_ ?_
    · exact KF.s hM
    · refine KF.b fun v1 => ?_
      refine KF.i ?_ ?_
      · exact (ih hM)
      · refine KF.i ?_ KF.n
        refine KF.c (kq_X7_its hM) fun r2 h_r2 => ?_
        refine KF.i ?_ KF.n
        refine KF.c (kq_X6_farWith h_r2) fun r4 h_r4 => ?_
        refine KF.i ?_ ?_
        · exact (kq_X7_bestNow_84 ih h_r4)
        · refine KF.i ?_ ?_
          · exact (ih h_r4)
          · refine KF.i ?_ ?_
            · refine KF.b fun v6 => ?_
              refine KF.b fun v7 => ?_
              refine KF.i ?_ ?_
              · exact (kq_X7_bestNow_84 ih h_r4)
              · exact (ih h_r4)
            · exact (kq_X7_bestNow_84 ih h_r4)
theorem kq_X7_bestNow_0 {M0 : zM} {a0 : Nat} {M : zM} (hM : FQ M0 M) : KF (FQ M0) (f_X7_bestNow_0 a0 M) := by
  unfold f_X7_bestNow_0
  refine KF.b fun v1 => ?_
  refine KF.i ?_ ?_
  · refine KF.i ?_ KF.n
    refine KF.c (kq_X7_its hM) fun r2 h_r2 => ?_
    refine KF.b fun v4 => ?_
    exact (kq_X7_bestNow_25 zN h_r2)
  · exact KF.s hM
theorem kq_X7_bestNow {M0 : zM} {a0 : Nat} {M : zM} (hM : FQ M0 M) : KF (FQ M0) (f_X7_bestNow a0 M) := by
  unfold f_X7_bestNow
  exact (kq_X7_bestNow_0 hM)
theorem kq_X7_best_0 {M0 : zM} {a0 : Nat} {M : zM} (hM : FQ M0 M) : KF (FQ M0) (f_X7_best_0 a0 M) := by
  unfold f_X7_best_0
  refine KF.w (fq_pI hM rfl) fun M1 h_M1 => ?_
  refine KF.i ?_ KF.n
  refine KF.c (kq_X7_bestNow h_M1) fun r2 h_r2 => ?_
  exact KF.s h_r2
theorem kq_X7_best {M0 : zM} {a0 : Nat} {M : zM} (hM : FQ M0 M) : KF (FQ M0) (f_X7_best a0 M) := by
  unfold f_X7_best
  exact (kq_X7_best_0 hM)
theorem kq_X7_isSafe_36 {M0 : zM} : ∀ (n : Nat) {a0 : Nat} {i1 : Int32} {i2 : Int32} {i3 : Int32} {M : zM}, FQ M0 M → KF (FQ M0) (f_X7_isSafe_36 n a0 i1 i2 i3 M) := by
  intro n
  induction n with
  | zero => exact fun _ => KF.n
  | succ n ih =>
    intro a0 i1 i2 i3 M hM
    rw [f_X7_isSafe_36]
    refine KF.i ?_ ?_
    · exact KF.s hM
    · refine KF.i ?_ ?_
      · exact (ih hM)
      · refine KF.b fun v1 => ?_
        refine KF.b fun v2 => ?_
        refine KF.b fun v3 => ?_
        refine KF.i ?_ ?_
        · exact (ih hM)
        · refine KF.b fun v4 => ?_
          refine KF.b fun v5 => ?_
          refine KF.b fun v6 => ?_
          refine KF.i ?_ ?_
          · exact KF.s hM
          · exact (ih hM)
theorem kq_X7_isSafe_25 {M0 : zM} {a0 : Nat} {i1 : Int32} {i2 : Int32} {i_0 : Int32} {a_1 : Nat} {M : zM} (hM : FQ M0 M) : KF (FQ M0) (f_X7_isSafe_25 a0 i1 i2 i_0 a_1 M) := by
  unfold f_X7_isSafe_25
  refine KF.i ?_ KF.n
  refine KF.c (kq_X7_refuse hM) fun r1 h_r1 => ?_
  refine KF.i ?_ ?_
  · exact (kq_X7_isSafe_36 zN h_r1)
  · exact KF.s h_r1
theorem kq_X7_isSafe_0 {M0 : zM} {a0 : Nat} {i1 : Int32} {i2 : Int32} {M : zM} (hM : FQ M0 M) : KF (FQ M0) (f_X7_isSafe_0 a0 i1 i2 M) := by
  unfold f_X7_isSafe_0
  refine KF.c (kq_X7_isNoPlayer hM) fun r1 h_r1 => ?_
  refine KF.i ?_ KF.n
  refine KF.c (kq_X7_start h_r1) fun r2 h_r2 => ?_
  refine KF.i ?_ ?_
  · refine KF.c (kq_X7_isKind h_r2) fun r4 h_r4 => ?_
    refine KF.i ?_ ?_
    · exact (kq_X7_isSafe_25 h_r4)
    · exact (kq_X7_isSafe_25 h_r4)
  · exact KF.s h_r2
theorem kq_X7_isSafe {M0 : zM} {a0 : Nat} {i1 : Int32} {i2 : Int32} {M : zM} (hM : FQ M0 M) : KF (FQ M0) (f_X7_isSafe a0 i1 i2 M) := by
  unfold f_X7_isSafe
  exact (kq_X7_isSafe_0 hM)
theorem kq_X7_unseen_0 {M0 : zM} {a0 : Nat} {i1 : Int32} {i2 : Int32} {M : zM} (hM : FQ M0 M) : KF (FQ M0) (f_X7_unseen_0 a0 i1 i2 M) := by
  unfold f_X7_unseen_0
  refine KF.b fun v1 => ?_
  refine KF.b fun v2 => ?_
  refine KF.b fun v3 => ?_
  refine KF.b fun v4 => ?_
  refine KF.i ?_ KF.n
  refine KF.c (kq_X7_seenNow hM) fun r5 h_r5 => ?_
  exact KF.s h_r5
theorem kq_X7_unseen {M0 : zM} {a0 : Nat} {i1 : Int32} {i2 : Int32} {M : zM} (hM : FQ M0 M) : KF (FQ M0) (f_X7_unseen a0 i1 i2 M) := by
  unfold f_X7_unseen
  exact (kq_X7_unseen_0 hM)
theorem kq_X7_outs_41 {M0 : zM} : ∀ (n : Nat) {a0 : Nat} {i1 : Int32} {i2 : Int32} {i3 : Int32} {i4 : Int32} {M : zM}, FQ M0 M → KF (FQ M0) (f_X7_outs_41 n a0 i1 i2 i3 i4 M) := by
  intro n
  induction n with
  | zero => exact fun _ => KF.n
  | succ n ih =>
    intro a0 i1 i2 i3 i4 M hM
    rw [f_X7_outs_41]
    refine KF.i ?_ ?_
    · exact KF.s hM
    · refine KF.i ?_ KF.n
      refine KF.c (kq_X7_unseen hM) fun r1 h_r1 => ?_
      refine KF.i ?_ ?_
      · exact (ih h_r1)
      · refine KF.b fun v3 => ?_
        refine KF.b fun v4 => ?_
        refine KF.i ?_ KF.n
        refine KF.c (kq_X6_farWith h_r1) fun r5 h_r5 => ?_
        refine KF.i ?_ ?_
        · exact (ih h_r5)
        · refine KF.i ?_ KF.n
          refine KF.c (kq_X7_unseen h_r5) fun r7 h_r7 => ?_
          exact (ih h_r7)
theorem kq_X7_outs_0 {M0 : zM} {a0 : Nat} {i1 : Int32} {M : zM} (hM : FQ M0 M) : KF (FQ M0) (f_X7_outs_0 a0 i1 M) := by
  unfold f_X7_outs_0
  refine KF.c (kq_X7_isNoPlayer hM) fun r1 h_r1 => ?_
  refine KF.i ?_ KF.n
  refine KF.c (kq_X7_start h_r1) fun r2 h_r2 => ?_
  refine KF.i ?_ ?_
  · refine KF.b fun v4 => ?_
    refine KF.b fun v5 => ?_
    refine KF.i ?_ KF.n
    refine KF.c (kq_X6_hasTooMany h_r2) fun r6 h_r6 => ?_
    refine KF.i ?_ ?_
    · refine KF.b fun v8 => ?_
      refine KF.b fun v9 => ?_
      refine KF.i ?_ KF.n
      refine KF.c (kq_X6_far h_r6) fun r10 h_r10 => ?_
      exact (kq_X7_outs_41 zN h_r10)
    · exact KF.s h_r6
  · exact KF.s h_r2
theorem kq_X7_outs {M0 : zM} {a0 : Nat} {i1 : Int32} {M : zM} (hM : FQ M0 M) : KF (FQ M0) (f_X7_outs a0 i1 M) := by
  unfold f_X7_outs
  exact (kq_X7_outs_0 hM)
theorem kq_X7_add_0 {M0 : zM} {j0 : Int64} {j2 : Int64} {M : zM} (hM : FQ M0 M) : KF (FQ M0) (f_X7_add_0 j0 j2 M) := by
  unfold f_X7_add_0
  exact KF.s hM
theorem kq_X7_add {M0 : zM} {j0 : Int64} {j2 : Int64} {M : zM} (hM : FQ M0 M) : KF (FQ M0) (f_X7_add j0 j2 M) := by
  unfold f_X7_add
  exact (kq_X7_add_0 hM)
theorem kq_X7_digest_168 {M0 : zM} {K36 : Nat → Int64 → Int32 → zM → Option (Int64 × zM)} (hK36 : ∀ {x0 : Nat} {x1 : Int64} {x2 : Int32} {M : zM}, FQ M0 M → KF (FQ M0) (K36 x0 x1 x2 M)) : ∀ (n : Nat) {a0 : Nat} {j1 : Int64} {i3 : Int32} {a4 : Nat} {M : zM}, FQ M0 M → KF (FQ M0) (f_X7_digest_168 K36 n a0 j1 i3 a4 M) := by
  intro n
  induction n with
  | zero => exact fun _ => KF.n
  | succ n ih =>
    intro a0 j1 i3 a4 M hM
    rw [f_X7_digest_168]
    refine KF.i ?_ KF.n
    refine KF.c (kq_Jx35411_hasNext_aae02 hM) fun r1 h_r1 => ?_
    refine KF.i ?_ ?_
    · refine KF.b fun v3 => ?_
      refine KF.b fun v4 => ?_
      refine KF.i ?_ KF.n
      refine KF.c (kq_X6_waits h_r1) fun r5 h_r5 => ?_
      refine KF.c (kq_X7_add h_r5) fun r7 h_r7 => ?_
      refine KF.i ?_ KF.n
      refine KF.c (kq_X7_leadNow h_r7) fun r8 h_r8 => ?_
      refine KF.i ?_ KF.n
      refine KF.c (kq_X7_add h_r8) fun r10 h_r10 => ?_
      exact (hK36 h_r10)
    · refine KF.i ?_ KF.n
      refine KF.c (kq_Jx35411_next_0502b h_r1) fun r12 h_r12 => ?_
      refine KF.i ?_ KF.n
      refine KF.i ?_ KF.n
      refine KF.c (kq_J6_intValue_8abf5 h_r12) fun r15 h_r15 => ?_
      refine KF.c (kq_X7_add h_r15) fun r17 h_r17 => ?_
      exact (ih h_r17)
theorem kq_X7_digest_118 {M0 : zM} {K36 : Nat → Int64 → Int32 → zM → Option (Int64 × zM)} (hK36 : ∀ {x0 : Nat} {x1 : Int64} {x2 : Int32} {M : zM}, FQ M0 M → KF (FQ M0) (K36 x0 x1 x2 M)) : ∀ (n : Nat) {a0 : Nat} {j1 : Int64} {i3 : Int32} {a4 : Nat} {M : zM}, FQ M0 M → KF (FQ M0) (f_X7_digest_118 K36 n a0 j1 i3 a4 M) := by
  intro n
  induction n with
  | zero => exact fun _ => KF.n
  | succ n ih =>
    intro a0 j1 i3 a4 M hM
    rw [f_X7_digest_118]
    refine KF.i ?_ KF.n
    refine KF.c (kq_Jx35411_hasNext_aae02 hM) fun r1 h_r1 => ?_
    refine KF.i ?_ ?_
    · refine KF.b fun v3 => ?_
      refine KF.b fun v4 => ?_
      refine KF.b fun v5 => ?_
      refine KF.i ?_ KF.n
      refine KF.c (kq_Jx4a65c_iterator_32c93 h_r1) fun r6 h_r6 => ?_
      exact (kq_X7_digest_168 hK36 zN h_r6)
    · refine KF.i ?_ KF.n
      refine KF.c (kq_Jx35411_next_0502b h_r1) fun r8 h_r8 => ?_
      refine KF.i ?_ KF.n
      refine KF.c (kq_X7_ofSetNow h_r8) fun r11 h_r11 => ?_
      refine KF.c (kq_X7_add h_r11) fun r12 h_r12 => ?_
      exact (ih h_r12)
theorem kq_X7_digest_73 {M0 : zM} {K36 : Nat → Int64 → Int32 → zM → Option (Int64 × zM)} (hK36 : ∀ {x0 : Nat} {x1 : Int64} {x2 : Int32} {M : zM}, FQ M0 M → KF (FQ M0) (K36 x0 x1 x2 M)) : ∀ (n : Nat) {a0 : Nat} {j1 : Int64} {i3 : Int32} {i4 : Int32} {M : zM}, FQ M0 M → KF (FQ M0) (f_X7_digest_73 K36 n a0 j1 i3 i4 M) := by
  intro n
  induction n with
  | zero => exact fun _ => KF.n
  | succ n ih =>
    intro a0 j1 i3 i4 M hM
    rw [f_X7_digest_73]
    refine KF.i ?_ ?_
    · refine KF.b fun v1 => ?_
      refine KF.b fun v2 => ?_
      refine KF.b fun v3 => ?_
      refine KF.i ?_ KF.n
      refine KF.c (kq_Jx4a65c_iterator_32c93 hM) fun r4 h_r4 => ?_
      exact (kq_X7_digest_118 hK36 zN h_r4)
    · refine KF.b fun v6 => ?_
      refine KF.b fun v7 => ?_
      refine KF.b fun v8 => ?_
      refine KF.b fun v9 => ?_
      refine KF.c (kq_X7_add hM) fun r10 h_r10 => ?_
      exact (ih h_r10)
theorem kq_X7_digest_44 {M0 : zM} {K36 : Nat → Int64 → Int32 → zM → Option (Int64 × zM)} (hK36 : ∀ {x0 : Nat} {x1 : Int64} {x2 : Int32} {M : zM}, FQ M0 M → KF (FQ M0) (K36 x0 x1 x2 M)) : ∀ (n : Nat) {a0 : Nat} {j1 : Int64} {i3 : Int32} {i4 : Int32} {M : zM}, FQ M0 M → KF (FQ M0) (f_X7_digest_44 K36 n a0 j1 i3 i4 M) := by
  intro n
  induction n with
  | zero => exact fun _ => KF.n
  | succ n ih =>
    intro a0 j1 i3 i4 M hM
    rw [f_X7_digest_44]
    refine KF.i ?_ ?_
    · exact (kq_X7_digest_73 hK36 zN hM)
    · refine KF.i ?_ KF.n
      refine KF.c (kq_X7_ofPlayerNow hM) fun r1 h_r1 => ?_
      refine KF.c (kq_X7_add h_r1) fun r3 h_r3 => ?_
      exact (ih h_r3)
theorem kq_X7_digest_36 {M0 : zM} : ∀ (n : Nat) {a0 : Nat} {j1 : Int64} {i3 : Int32} {M : zM}, FQ M0 M → KF (FQ M0) (f_X7_digest_36 n a0 j1 i3 M) := by
  intro n
  induction n with
  | zero => exact fun _ => KF.n
  | succ n ih =>
    intro a0 j1 i3 M hM
    rw [f_X7_digest_36]
    refine KF.i ?_ ?_
    · refine KF.i ?_ KF.n
      refine KF.c (kq_X7_bestNow hM) fun r1 h_r1 => ?_
      refine KF.c (kq_X7_add h_r1) fun r3 h_r3 => ?_
      exact KF.s h_r3
    · exact (kq_X7_digest_44 ih zN hM)
theorem kq_X7_digest_11 {M0 : zM} : ∀ (n : Nat) {a0 : Nat} {j1 : Int64} {i3 : Int32} {M : zM}, FQ M0 M → KF (FQ M0) (f_X7_digest_11 n a0 j1 i3 M) := by
  intro n
  induction n with
  | zero => exact fun _ => KF.n
  | succ n ih =>
    intro a0 j1 i3 M hM
    rw [f_X7_digest_11]
    refine KF.i ?_ ?_
    · exact (kq_X7_digest_36 zN hM)
    · refine KF.i ?_ KF.n
      refine KF.c (kq_X7_manyNow hM) fun r1 h_r1 => ?_
      refine KF.c (kq_X7_add h_r1) fun r3 h_r3 => ?_
      exact (ih h_r3)
theorem kq_X7_digest_0 {M0 : zM} {a0 : Nat} {M : zM} (hM : FQ M0 M) : KF (FQ M0) (f_X7_digest_0 a0 M) := by
  unfold f_X7_digest_0
  refine KF.w (fq_pI hM rfl) fun M1 h_M1 => ?_
  exact (kq_X7_digest_11 zN h_M1)
theorem kq_X7_digest {M0 : zM} {a0 : Nat} {M : zM} (hM : FQ M0 M) : KF (FQ M0) (f_X7_digest a0 M) := by
  unfold f_X7_digest
  exact (kq_X7_digest_0 hM)
theorem kq_X4_init_0 {M0 : zM} {a0 : Nat} {M : zM} (hM : FQ M0 M) : KF (FQ M0) (f_X4_init_0 a0 M) := by
  unfold f_X4_init_0
  exact KF.s hM
theorem kq_X4_init {M0 : zM} {a0 : Nat} {M : zM} (hM : FQ M0 M) : KF (FQ M0) (f_X4_init a0 M) := by
  unfold f_X4_init
  exact (kq_X4_init_0 hM)
