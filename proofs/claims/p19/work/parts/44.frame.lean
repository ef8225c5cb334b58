/-! ===== FRAMES: what a method leaves as it was ===== -/
/-- whatever it comes to has this -/
def KF {α : Type} (Φ : zM → Prop) (x : Option (α × zM)) : Prop := ∀ r, x = some r → Φ r.2
section KFR
variable {Φ : zM → Prop}
theorem KF.n {α : Type} : KF Φ (none : Option (α × zM)) := fun r h => nomatch h
theorem KF.s {α : Type} {v : α} {M : zM} (h : Φ M) : KF Φ (some (v, M)) := fun r e => by cases e; exact h
theorem KF.i {α : Type} {c : Prop} [Decidable c] {x y : Option (α × zM)} (h1 : KF Φ x) (h2 : KF Φ y) : KF Φ (if c then x else y) := by
  by_cases q : c
  · rw [if_pos q]; exact h1
  · rw [if_neg q]; exact h2
theorem KF.b {α β : Type} {x : Option β} {f : β → Option (α × zM)} (h : ∀ v, KF Φ (f v)) : KF Φ (x.bind f) := fun r e => by
  obtain ⟨v, -, e2⟩ := ob e
  exact h v r e2
theorem KF.c {α β : Type} {x : Option (β × zM)} {f : β × zM → Option (α × zM)} (hx : KF Φ x) (h : ∀ r, Φ r.2 → KF Φ (f r)) : KF Φ (x.bind f) := fun r e => by
  obtain ⟨v, e1, e2⟩ := ob e
  exact h v (hx v e1) r e2
theorem KF.w {α : Type} {x : Option zM} {f : zM → Option (α × zM)} (hx : ∀ M, x = some M → Φ M) (h : ∀ M, Φ M → KF Φ (f M)) : KF Φ (x.bind f) := fun r e => by
  obtain ⟨v, e1, e2⟩ := ob e
  exact h v (hx v e1) r e2
theorem KF.p {α : Type} {P : Nat → Prop} {x : Option Nat} {f : Nat → Option (α × zM)} (hx : ∀ v, x = some v → P v) (h : ∀ v, P v → KF Φ (f v)) : KF Φ (x.bind f) := fun r e => by
  obtain ⟨v, e1, e2⟩ := ob e
  exact h v (hx v e1) r e2
theorem KF.cp {α : Type} {P : Nat → Prop} {x : Option (Nat × zM)} {f : Nat × zM → Option (α × zM)} (hx : ∀ r, x = some r → P r.1 ∧ Φ r.2) (h : ∀ r, P r.1 → Φ r.2 → KF Φ (f r)) : KF Φ (x.bind f) := fun r e => by
  obtain ⟨v, e1, e2⟩ := ob e
  exact h v (hx v e1).1 (hx v e1).2 r e2
theorem KF.xb {α β : Type} {x : Option ((String ⊕ α) × zM)} {f : α → zM → Option ((String ⊕ β) × zM)} (hx : KF Φ x) (h : ∀ v M, Φ M → KF Φ (f v M)) : KF Φ (xb x f) := fun r e => by
  rcases xbs e with ⟨E, M, e1, rfl⟩ | ⟨v, M, e1, e2⟩
  · exact hx _ e1
  · exact h v M (hx _ e1) r e2
end KFR
/-- the place is as it was -/
def SA (M0 M : zM) (a : Nat) : Prop := mK M a = mK M0 a ∧ mL M a = mL M0 a ∧ (∀ k, mI M k a = mI M0 k a) ∧ (∀ k, mJ M k a = mJ M0 k a) ∧ (∀ k, mR M k a = mR M0 k a) ∧ mA M a = mA M0 a ∧ mQ M a = mQ M0 a
theorem SA.rf (M : zM) (a : Nat) : SA M M a := ⟨rfl, rfl, fun _ => rfl, fun _ => rfl, fun _ => rfl, rfl, rfl⟩
theorem SA.tr {M0 M1 M2 : zM} {a : Nat} (h : SA M0 M1 a) (g : SA M1 M2 a) : SA M0 M2 a := ⟨g.1.trans h.1, g.2.1.trans h.2.1, fun k => (g.2.2.1 k).trans (h.2.2.1 k), fun k => (g.2.2.2.1 k).trans (h.2.2.2.1 k), fun k => (g.2.2.2.2.1 k).trans (h.2.2.2.2.1 k), g.2.2.2.2.2.1.trans h.2.2.2.2.2.1, g.2.2.2.2.2.2.trans h.2.2.2.2.2.2⟩
section SASET
variable {M0 M : zM} {a b : Nat}
theorem SA.sI (h : SA M0 M b) (n : b ≠ a) (k : Nat) (v : Int32) : SA M0 (sI M k a v) b := ⟨h.1, h.2.1, fun q => (if_neg (fun z => n z.2)).trans (h.2.2.1 q), h.2.2.2⟩
theorem SA.sJ (h : SA M0 M b) (n : b ≠ a) (k : Nat) (v : Int64) : SA M0 (sJ M k a v) b := ⟨h.1, h.2.1, h.2.2.1, fun q => (if_neg (fun z => n z.2)).trans (h.2.2.2.1 q), h.2.2.2.2⟩
theorem SA.sD (h : SA M0 M b) (k : Nat) (v : UInt64) : SA M0 (sD M k a v) b := h
theorem SA.sR (h : SA M0 M b) (n : b ≠ a) (k : Nat) (v : Option Nat) : SA M0 (sR M k a v) b := ⟨h.1, h.2.1, h.2.2.1, h.2.2.2.1, fun q => (if_neg (fun z => n z.2)).trans (h.2.2.2.2.1 q), h.2.2.2.2.2⟩
theorem SA.sA (h : SA M0 M b) (n : b ≠ a) (i : Nat) (v : Int32) : SA M0 (sA M a i v) b := ⟨h.1, h.2.1, h.2.2.1, h.2.2.2.1, h.2.2.2.2.1, (funext fun q => if_neg (fun z => n z.1)).trans h.2.2.2.2.2.1, h.2.2.2.2.2.2⟩
theorem SA.sAr (h : SA M0 M b) (n : b ≠ a) (g : Nat → Int32) : SA M0 (sAr M a g) b := ⟨h.1, h.2.1, h.2.2.1, h.2.2.2.1, h.2.2.2.2.1, (funext fun q => if_neg n).trans h.2.2.2.2.2.1, h.2.2.2.2.2.2⟩
theorem SA.sQ (h : SA M0 M b) (n : b ≠ a) (i : Nat) (v : Option Nat) : SA M0 (sQ M a i v) b := ⟨h.1, h.2.1, h.2.2.1, h.2.2.2.1, h.2.2.2.2.1, h.2.2.2.2.2.1, (funext fun q => if_neg (fun z => n z.1)).trans h.2.2.2.2.2.2⟩
theorem SA.sQr (h : SA M0 M b) (n : b ≠ a) (g : Nat → Option Nat) : SA M0 (sQr M a g) b := ⟨h.1, h.2.1, h.2.2.1, h.2.2.2.1, h.2.2.2.2.1, h.2.2.2.2.2.1, (funext fun q => if_neg n).trans h.2.2.2.2.2.2⟩
theorem SA.nO (h : SA M0 M b) (n : b ≠ mX M) (c N : Nat) : SA M0 (nO M c N) b := ⟨(if_neg n).trans h.1, h.2.1, fun q => (if_neg n).trans (h.2.2.1 q), fun q => (if_neg n).trans (h.2.2.2.1 q), fun q => (if_neg n).trans (h.2.2.2.2.1 q), h.2.2.2.2.2⟩
theorem SA.nA (h : SA M0 M b) (n : b ≠ mX M) (t N : Nat) : SA M0 (nA M t N) b := ⟨(if_neg n).trans h.1, (if_neg n).trans h.2.1, h.2.2.1, h.2.2.2.1, h.2.2.2.2.1, (funext fun q => if_neg n).trans h.2.2.2.2.2.1, h.2.2.2.2.2.2⟩
theorem SA.nQ (h : SA M0 M b) (n : b ≠ mX M) (t N : Nat) : SA M0 (nQ M t N) b := ⟨(if_neg n).trans h.1, (if_neg n).trans h.2.1, h.2.2.1, h.2.2.2.1, h.2.2.2.2.1, h.2.2.2.2.2.1, (funext fun q => if_neg n).trans h.2.2.2.2.2.2⟩
end SASET
/-- old places outside W are as they were -/
def FX (W : Nat → Prop) (M0 M : zM) : Prop := (mX M0 ≤ mX M ∧ mS M0 ≤ mS M) ∧ ∀ b, b < mX M0 → ¬ W b → SA M0 M b
section FRMSET
variable {W : Nat → Prop} {M0 M : zM} {a : Nat}
theorem FX.rf (W : Nat → Prop) (M : zM) : FX W M M := ⟨⟨Nat.le_refl _, Nat.le_refl _⟩, fun b _ _ => SA.rf M b⟩
theorem FX.ne (ha : W a ∨ mX M0 ≤ a) {b : Nat} (hb : b < mX M0) (hw : ¬ W b) : b ≠ a := fun e => by
  subst e
  exact ha.elim hw (fun q => Nat.lt_irrefl _ (Nat.lt_of_lt_of_le hb q))
theorem FX.sI (h : FX W M0 M) (ha : W a ∨ mX M0 ≤ a) (k : Nat) (v : Int32) : FX W M0 (sI M k a v) := ⟨h.1, fun b hb hw => (h.2 b hb hw).sI (FX.ne ha hb hw) k v⟩
theorem FX.sJ (h : FX W M0 M) (ha : W a ∨ mX M0 ≤ a) (k : Nat) (v : Int64) : FX W M0 (sJ M k a v) := ⟨h.1, fun b hb hw => (h.2 b hb hw).sJ (FX.ne ha hb hw) k v⟩
theorem FX.sD (h : FX W M0 M) (k : Nat) (v : UInt64) : FX W M0 (sD M k a v) := ⟨h.1, fun b hb hw => (h.2 b hb hw).sD k v⟩
theorem FX.sR (h : FX W M0 M) (ha : W a ∨ mX M0 ≤ a) (k : Nat) (v : Option Nat) : FX W M0 (sR M k a v) := ⟨h.1, fun b hb hw => (h.2 b hb hw).sR (FX.ne ha hb hw) k v⟩
theorem FX.sA (h : FX W M0 M) (ha : W a ∨ mX M0 ≤ a) (i : Nat) (v : Int32) : FX W M0 (sA M a i v) := ⟨h.1, fun b hb hw => (h.2 b hb hw).sA (FX.ne ha hb hw) i v⟩
theorem FX.sAr (h : FX W M0 M) (ha : W a ∨ mX M0 ≤ a) (g : Nat → Int32) : FX W M0 (sAr M a g) := ⟨h.1, fun b hb hw => (h.2 b hb hw).sAr (FX.ne ha hb hw) g⟩
theorem FX.sQ (h : FX W M0 M) (ha : W a ∨ mX M0 ≤ a) (i : Nat) (v : Option Nat) : FX W M0 (sQ M a i v) := ⟨h.1, fun b hb hw => (h.2 b hb hw).sQ (FX.ne ha hb hw) i v⟩
theorem FX.sQr (h : FX W M0 M) (ha : W a ∨ mX M0 ≤ a) (g : Nat → Option Nat) : FX W M0 (sQr M a g) := ⟨h.1, fun b hb hw => (h.2 b hb hw).sQr (FX.ne ha hb hw) g⟩
theorem FX.nO (h : FX W M0 M) (c N : Nat) : FX W M0 (nO M c N) := ⟨⟨Nat.le_succ_of_le h.1.1, Nat.le_trans h.1.2 (Nat.le_add_right _ _)⟩, fun b hb hw => (h.2 b hb hw).nO (fun e => by have := h.1.1; omega) c N⟩
theorem FX.nA (h : FX W M0 M) (t N : Nat) : FX W M0 (nA M t N) := ⟨⟨Nat.le_succ_of_le h.1.1, Nat.le_trans h.1.2 (Nat.le_add_right _ _)⟩, fun b hb hw => (h.2 b hb hw).nA (fun e => by have := h.1.1; omega) t N⟩
theorem FX.nQ (h : FX W M0 M) (t N : Nat) : FX W M0 (nQ M t N) := ⟨⟨Nat.le_succ_of_le h.1.1, Nat.le_trans h.1.2 (Nat.le_add_right _ _)⟩, fun b hb hw => (h.2 b hb hw).nQ (fun e => by have := h.1.1; omega) t N⟩
theorem FX.nE (h : FX W M0 M) : FX W M0 (nE M) := ⟨⟨Nat.le_succ_of_le h.1.1, Nat.le_trans h.1.2 (Nat.le_add_right _ _)⟩, h.2⟩
end FRMSET
/-! what the component writes: its own places -/
def own (a : Nat) : Prop := 1000 ≤ a ∧ a < 1026
def FC (M0 M : zM) : Prop := FX own M0 M ∧ ∀ a, own a → (∀ k, mR M k a = mR M0 k a) ∧ mQ M a = mQ M0 a
def RG (M0 : zM) : Prop := 1026 ≤ mX M0 ∧ (∀ k a v, own a → mR M0 k a = some v → own v) ∧ (∀ a i v, own a → mQ M0 a i = some v → own v)
section FCR
variable {M0 M : zM} {a c k t : Nat}
theorem FC.rf (M : zM) : FC M M := ⟨FX.rf _ M, fun _ _ => ⟨fun _ => rfl, rfl⟩⟩
theorem fc_gR (hg : RG M0) (h : FC M0 M) (ha : own a) (v : Nat) (e : gR c k M a = some v) : own v := hg.2.1 _ a v ha (((h.2 a ha).1 _).symm.trans (ox e).2)
theorem fc_lQ {i : Int32} (hg : RG M0) (h : FC M0 M) (ha : own a) (v : Nat) (e : lQ t M a i = some v) : own v := hg.2.2 a i.toNatClampNeg v ha ((congrFun (h.2 a ha).2 i.toNatClampNeg).symm.trans (ox e).2)
theorem fc_pI {v : Int32} (h : FC M0 M) (ha : own a) (M' : zM) (e : pI c k M a v = some M') : FC M0 M' := by
  obtain ⟨-, e⟩ := ox e
  cases e
  exact ⟨h.1.sI (Or.inl ha) _ v, h.2⟩
theorem fc_pZ {v : Int32} (h : FC M0 M) (ha : own a) (M' : zM) (e : pZ c k M a v = some M') : FC M0 M' := by
  obtain ⟨-, e⟩ := ox e
  cases e
  exact ⟨h.1.sI (Or.inl ha) _ v, h.2⟩
theorem fc_pJ {v : Int64} (h : FC M0 M) (ha : own a) (M' : zM) (e : pJ c k M a v = some M') : FC M0 M' := by
  obtain ⟨-, e⟩ := ox e
  cases e
  exact ⟨h.1.sJ (Or.inl ha) _ v, h.2⟩
theorem fc_tA {i v : Int32} (h : FC M0 M) (ha : own a) (M' : zM) (e : tA M a i v = some M') : FC M0 M' := by
  obtain ⟨-, e⟩ := ox e
  cases e
  exact ⟨h.1.sA (Or.inl ha) _ v, h.2⟩
theorem fc_nE (h : FC M0 M) : FC M0 (nE M) := ⟨h.1.nE, h.2⟩
end FCR
/-! what the reference writes: places from 1026 on -/
def hi (a : Nat) : Prop := 1026 ≤ a
def rk (c : Nat) : Bool := c == 1 || c == 2 || c == 3 || c == 4 || c == 5 || c == 10 || c == 11 || c == 12 || c == 13 || c == 101 || c == 102 || c == 110 || c == 112
def FR (M0 M : zM) : Prop := FX hi M0 M ∧ ∀ a v, mR M 386 a = some v ∨ mR M 418 a = some v → hi v
def KD (M0 : zM) : Prop := 1026 ≤ mX M0 ∧ ∀ a, a < 1026 → rk (mK M0 a) = false
section FRR
variable {M0 M : zM} {a c k t : Nat}
theorem fr_hi (hg : KD M0) (h : FR M0 M) (hc : rk c = true) (e : mK M a = c) : hi a := by
  refine Nat.le_of_not_lt fun q => ?_
  have e2 := (h.1.2 a (by have := hg.1; omega) (fun z => by unfold hi at z; omega)).1
  have e3 := hg.2 a q
  rw [← e2, e, hc] at e3
  cases e3
theorem FR.rR (h : FX hi M0 M) (g : FR M0 M) : FR M0 M := g
theorem fr_gRh (h : FR M0 M) (v : Nat) (e : gR 12 2 M a = some v) : hi v := h.2 a v (Or.inl (ox e).2)
theorem fr_gRw (h : FR M0 M) (v : Nat) (e : gR 13 2 M a = some v) : hi v := h.2 a v (Or.inr (ox e).2)
theorem fr_pI {v : Int32} (hg : KD M0) (h : FR M0 M) (hc : rk c = true) (M' : zM) (e : pI c k M a v = some M') : FR M0 M' := by
  obtain ⟨q, e⟩ := ox e
  cases e
  exact ⟨h.1.sI (Or.inl (fr_hi hg h hc q)) _ v, h.2⟩
theorem fr_pZ {v : Int32} (hg : KD M0) (h : FR M0 M) (hc : rk c = true) (M' : zM) (e : pZ c k M a v = some M') : FR M0 M' := by
  obtain ⟨q, e⟩ := ox e
  cases e
  exact ⟨h.1.sI (Or.inl (fr_hi hg h hc q.1)) _ v, h.2⟩
theorem fr_pJ {v : Int64} (hg : KD M0) (h : FR M0 M) (hc : rk c = true) (M' : zM) (e : pJ c k M a v = some M') : FR M0 M' := by
  obtain ⟨q, e⟩ := ox e
  cases e
  exact ⟨h.1.sJ (Or.inl (fr_hi hg h hc q)) _ v, h.2⟩
theorem fr_pD {v : UInt64} (hg : KD M0) (h : FR M0 M) (hc : rk c = true) (M' : zM) (e : pD c k M a v = some M') : FR M0 M' := by
  obtain ⟨q, e⟩ := ox e
  cases e
  exact ⟨h.1.sD _ v, h.2⟩
theorem fr_pR {v : Nat} (hg : KD M0) (h : FR M0 M) (hc : rk c = true) (hv : 32 * c + k = 386 ∨ 32 * c + k = 418 → hi v) (M' : zM) (e : pR c k M a v = some M') : FR M0 M' := by
  obtain ⟨q, e⟩ := ox e
  cases e
  refine ⟨h.1.sR (Or.inl (fr_hi hg h hc q)) _ _, fun b w hb => ?_⟩
  have hb' : (if 386 = 32 * c + k ∧ b = a then some v else mR M 386 b) = some w ∨ (if 418 = 32 * c + k ∧ b = a then some v else mR M 418 b) = some w := hb
  rcases hb' with z | z
  · by_cases y : 386 = 32 * c + k ∧ b = a
    · rw [if_pos y] at z
      cases z
      exact hv (Or.inl y.1.symm)
    · rw [if_neg y] at z
      exact h.2 b w (Or.inl z)
  · by_cases y : 418 = 32 * c + k ∧ b = a
    · rw [if_pos y] at z
      cases z
      exact hv (Or.inr y.1.symm)
    · rw [if_neg y] at z
      exact h.2 b w (Or.inr z)
theorem fr_tA {i v : Int32} (h : FR M0 M) (ha : hi a) (M' : zM) (e : tA M a i v = some M') : FR M0 M' := by
  obtain ⟨-, e⟩ := ox e
  cases e
  exact ⟨h.1.sA (Or.inl ha) _ v, h.2⟩
theorem fr_tB {i v : Int32} (hg : KD M0) (h : FR M0 M) (M' : zM) (e : tB M a i v = some M') : FR M0 M' := by
  obtain ⟨q, e⟩ := ox e
  cases e
  exact ⟨h.1.sA (Or.inl (fr_hi hg h (c := 101) rfl q.1)) _ _, h.2⟩
theorem fr_tZ {i v : Int32} (hg : KD M0) (h : FR M0 M) (M' : zM) (e : tZ M a i v = some M') : FR M0 M' := by
  obtain ⟨q, e⟩ := ox e
  cases e
  exact ⟨h.1.sA (Or.inl (fr_hi hg h (c := 102) rfl q.1)) _ _, h.2⟩
theorem fr_tQ {i : Int32} {v : Option Nat} (hg : KD M0) (h : FR M0 M) (hc : rk (110 + t) = true) (M' : zM) (e : tQ t M a i v = some M') : FR M0 M' := by
  obtain ⟨q, e⟩ := ox e
  cases e
  exact ⟨h.1.sQ (Or.inl (fr_hi hg h hc q.1)) _ _, h.2⟩
theorem fr_yI0 {b : Nat} {sp dp n : Int32} (h : FR M0 M) (hb : hi b) (M' : zM) (e : yI 0 M a sp b dp n = some M') : FR M0 M' := by
  obtain ⟨-, e⟩ := ox0 e
  cases e
  exact ⟨h.1.sAr (Or.inl hb) _, h.2⟩
theorem fr_yI1 {b : Nat} {sp dp n : Int32} (hg : KD M0) (h : FR M0 M) (M' : zM) (e : yI 1 M a sp b dp n = some M') : FR M0 M' := by
  obtain ⟨q, e⟩ := ox0 e
  cases e
  exact ⟨h.1.sAr (Or.inl (fr_hi hg h (c := 101) rfl q.2.1)) _, h.2⟩
theorem fr_yQ {b : Nat} {sp dp n : Int32} (hg : KD M0) (h : FR M0 M) (M' : zM) (e : yQ M a sp b dp n = some M') : FR M0 M' := by
  obtain ⟨q, e⟩ := ox0 e
  cases e
  exact ⟨h.1.sQr (Or.inl (fr_hi hg h (c := 110) rfl q.2.1)) _, h.2⟩
theorem fr_nO (h : FR M0 M) {N : Nat} : FR M0 (nO M c N) := by
  refine ⟨h.1.nO c N, fun b w hb => ?_⟩
  have hb' : (if b = mX M then none else mR M 386 b) = some w ∨ (if b = mX M then none else mR M 418 b) = some w := hb
  by_cases y : b = mX M
  · rw [if_pos y, if_pos y] at hb'
    rcases hb' with z | z <;> cases z
  · rw [if_neg y, if_neg y] at hb'
    exact h.2 b w hb'
theorem fr_aA {n : Int32} (hg : KD M0) (h : FR M0 M) (r : Nat × zM) (e : aA t M n = some r) : hi r.1 ∧ FR M0 r.2 := by
  obtain ⟨-, e⟩ := ox e
  cases e
  exact ⟨Nat.le_trans hg.1 h.1.1.1, h.1.nA _ _, h.2⟩
theorem fr_aQ {n : Int32} (hg : KD M0) (h : FR M0 M) (r : Nat × zM) (e : aQ t M n = some r) : hi r.1 ∧ FR M0 r.2 := by
  obtain ⟨-, e⟩ := ox e
  cases e
  exact ⟨Nat.le_trans hg.1 h.1.1.1, h.1.nQ _ _, h.2⟩
theorem fr_aC (hg : KD M0) (h : FR M0 M) (r : Nat × zM) (e : aC M a = some r) : hi r.1 ∧ FR M0 r.2 := by
  obtain ⟨-, e⟩ := ox0 e
  cases e
  exact ⟨Nat.le_trans hg.1 h.1.1.1, (h.1.nA _ _).sAr (Or.inr h.1.1.1) _, h.2⟩
end FRR
/-! what is written where a text is made: texts and their bytes alone -/
def hk (c : Nat) : Bool := c == 1 || c == 2 || c == 101
def FH (M0 M : zM) : Prop := FX (fun a => hk (mK M0 a) = true) M0 M ∧ ∀ a, a < mX M0 → mK M a = mK M0 a
section FHR
variable {M0 M : zM} {a c k t : Nat}
theorem FH.rf (M : zM) : FH M M := ⟨FX.rf _ M, fun _ _ => rfl⟩
theorem fh_w (h : FH M0 M) (hc : hk c = true) (e : mK M a = c) : hk (mK M0 a) = true ∨ mX M0 ≤ a := by
  by_cases q : a < mX M0
  · exact Or.inl (by rw [← h.2 a q, e]; exact hc)
  · exact Or.inr (by omega)
theorem fh_pI {v : Int32} (h : FH M0 M) (hc : hk c = true) (M' : zM) (e : pI c k M a v = some M') : FH M0 M' := by
  obtain ⟨q, e⟩ := ox e
  cases e
  exact ⟨h.1.sI (fh_w h hc q) _ v, h.2⟩
theorem fh_pZ {v : Int32} (h : FH M0 M) (hc : hk c = true) (M' : zM) (e : pZ c k M a v = some M') : FH M0 M' := by
  obtain ⟨q, e⟩ := ox e
  cases e
  exact ⟨h.1.sI (fh_w h hc q.1) _ v, h.2⟩
theorem fh_pR {v : Nat} (h : FH M0 M) (hc : hk c = true) (M' : zM) (e : pR c k M a v = some M') : FH M0 M' := by
  obtain ⟨q, e⟩ := ox e
  cases e
  exact ⟨h.1.sR (fh_w h hc q) _ _, h.2⟩
theorem fh_tB {i v : Int32} (h : FH M0 M) (M' : zM) (e : tB M a i v = some M') : FH M0 M' := by
  obtain ⟨q, e⟩ := ox e
  cases e
  exact ⟨h.1.sA (fh_w h (c := 101) rfl q.1) _ _, h.2⟩
theorem fh_yI {b : Nat} {sp dp n : Int32} (h : FH M0 M) (M' : zM) (e : yI 1 M a sp b dp n = some M') : FH M0 M' := by
  obtain ⟨q, e⟩ := ox0 e
  cases e
  exact ⟨h.1.sAr (fh_w h (c := 101) rfl q.2.1) _, h.2⟩
theorem fh_nO (h : FH M0 M) {N : Nat} : FH M0 (nO M c N) := ⟨h.1.nO c N, fun b hb => (if_neg (fun e => by have := h.1.1.1; omega)).trans (h.2 b hb)⟩
theorem fh_aA {n : Int32} (h : FH M0 M) : KF (FH M0) (aA t M n) := fun r e => by
  obtain ⟨-, e⟩ := ox e
  cases e
  exact ⟨h.1.nA _ _, fun b hb => (if_neg (fun e => by have := h.1.1.1; omega)).trans (h.2 b hb)⟩
theorem fh_aC (h : FH M0 M) : KF (FH M0) (aC M a) := fun r e => by
  obtain ⟨-, e⟩ := ox0 e
  cases e
  exact ⟨(h.1.nA _ _).sAr (Or.inr h.1.1.1) _, fun b hb => (if_neg (fun e => by have := h.1.1.1; omega)).trans (h.2 b hb)⟩
theorem fh_nE (h : FH M0 M) : FH M0 (nE M) := ⟨h.1.nE, h.2⟩
end FHR
/-! ===== FRAMES of the component ===== -/
theorem kc_X1_clear_2 {M0 : zM} (hg : RG M0) : ∀ (n : Nat) {a0 : Nat} {i1 : Int32} {M : zM}, own a0 → FC M0 M → KF (FC M0) (f_X1_clear_2 n a0 i1 M) := by
  intro n
  induction n with
  | zero => exact fun _ _ => KF.n
  | succ n ih =>
    intro a0 i1 M h_a0 hM
    rw [f_X1_clear_2]
    refine KF.i ?_ ?_
    · refine KF.w (fc_pJ hM h_a0) fun M1 h_M1 => ?_
      refine KF.w (fc_pI h_M1 h_a0) fun M2 h_M2 => ?_
      refine KF.w (fc_pI h_M2 h_a0) fun M3 h_M3 => ?_
      refine KF.w (fc_pZ h_M3 h_a0) fun M4 h_M4 => ?_
      exact KF.s h_M4
    · refine KF.p (fc_gR hg hM h_a0) fun v5 h_v5 => ?_
      refine KF.w (fc_tA hM h_v5) fun M6 h_M6 => ?_
      exact (ih h_a0 h_M6)
theorem kc_X1_clear_0 {M0 : zM} (hg : RG M0) {a0 : Nat} {M : zM} (h_a0 : own a0) (hM : FC M0 M) : KF (FC M0) (f_X1_clear_0 a0 M) := by
  unfold f_X1_clear_0
  exact (kc_X1_clear_2 hg zN h_a0 hM)
theorem kc_X1_clear {M0 : zM} (hg : RG M0) {a0 : Nat} {M : zM} (h_a0 : own a0) (hM : FC M0 M) : KF (FC M0) (f_X1_clear a0 M) := by
  unfold f_X1_clear
  exact (kc_X1_clear_0 hg h_a0 hM)
theorem kc_X1_count_0 {M0 : zM} (hg : RG M0) {a0 : Nat} {i1 : Int32} {M : zM} (h_a0 : own a0) (hM : FC M0 M) : KF (FC M0) (f_X1_count_0 a0 i1 M) := by
  unfold f_X1_count_0
  refine KF.i ?_ ?_
  · exact KF.s hM
  · refine KF.i ?_ ?_
    · exact KF.s hM
    · refine KF.p (fc_gR hg hM h_a0) fun v1 h_v1 => ?_
      refine KF.b fun v2 => ?_
      exact KF.s hM
theorem kc_X1_count {M0 : zM} (hg : RG M0) {a0 : Nat} {i1 : Int32} {M : zM} (h_a0 : own a0) (hM : FC M0 M) : KF (FC M0) (f_X1_count a0 i1 M) := by
  unfold f_X1_count
  exact (kc_X1_count_0 hg h_a0 hM)
theorem kc_X1_change_0 {M0 : zM} (hg : RG M0) {a0 : Nat} {i1 : Int32} {i2 : Int32} {M : zM} (h_a0 : own a0) (hM : FC M0 M) : KF (FC M0) (f_X1_change_0 a0 i1 i2 M) := by
  unfold f_X1_change_0
  refine KF.i ?_ ?_
  · exact KF.s hM
  · refine KF.i ?_ ?_
    · exact KF.s hM
    · refine KF.p (fc_gR hg hM h_a0) fun v1 h_v1 => ?_
      refine KF.b fun v2 => ?_
      refine KF.w (fc_tA hM h_v1) fun M3 h_M3 => ?_
      exact KF.s h_M3
theorem kc_X1_change {M0 : zM} (hg : RG M0) {a0 : Nat} {i1 : Int32} {i2 : Int32} {M : zM} (h_a0 : own a0) (hM : FC M0 M) : KF (FC M0) (f_X1_change a0 i1 i2 M) := by
  unfold f_X1_change
  exact (kc_X1_change_0 hg h_a0 hM)
theorem kc_X1_inHand_4 {M0 : zM} (hg : RG M0) : ∀ (n : Nat) {a0 : Nat} {i1 : Int32} {i2 : Int32} {M : zM}, own a0 → FC M0 M → KF (FC M0) (f_X1_inHand_4 n a0 i1 i2 M) := by
  intro n
  induction n with
  | zero => exact fun _ _ => KF.n
  | succ n ih =>
    intro a0 i1 i2 M h_a0 hM
    rw [f_X1_inHand_4]
    refine KF.i ?_ ?_
    · exact KF.s hM
    · refine KF.p (fc_gR hg hM h_a0) fun v1 h_v1 => ?_
      refine KF.b fun v2 => ?_
      exact (ih h_a0 hM)
theorem kc_X1_inHand_0 {M0 : zM} (hg : RG M0) {a0 : Nat} {M : zM} (h_a0 : own a0) (hM : FC M0 M) : KF (FC M0) (f_X1_inHand_0 a0 M) := by
  unfold f_X1_inHand_0
  exact (kc_X1_inHand_4 hg zN h_a0 hM)
theorem kc_X1_inHand {M0 : zM} (hg : RG M0) {a0 : Nat} {M : zM} (h_a0 : own a0) (hM : FC M0 M) : KF (FC M0) (f_X1_inHand a0 M) := by
  unfold f_X1_inHand
  exact (kc_X1_inHand_0 hg h_a0 hM)
theorem kc_X1_size_0 {M0 : zM} (hg : RG M0) {a0 : Nat} {M : zM} (h_a0 : own a0) (hM : FC M0 M) : KF (FC M0) (f_X1_size_0 a0 M) := by
  unfold f_X1_size_0
  refine KF.i ?_ KF.n
  refine KF.c (kc_X1_inHand hg h_a0 hM) fun r1 h_r1 => ?_
  refine KF.b fun v3 => ?_
  exact KF.s h_r1
theorem kc_X1_size {M0 : zM} (hg : RG M0) {a0 : Nat} {M : zM} (h_a0 : own a0) (hM : FC M0 M) : KF (FC M0) (f_X1_size a0 M) := by
  unfold f_X1_size
  exact (kc_X1_size_0 hg h_a0 hM)
theorem kc_X1_openSets_4 {M0 : zM} (hg : RG M0) : ∀ (n : Nat) {a0 : Nat} {i1 : Int32} {i2 : Int32} {M : zM}, own a0 → FC M0 M → KF (FC M0) (f_X1_openSets_4 n a0 i1 i2 M) := by
  intro n
  induction n with
  | zero => exact fun _ _ => KF.n
  | succ n ih =>
    intro a0 i1 i2 M h_a0 hM
    rw [f_X1_openSets_4]
    refine KF.b fun v1 => ?_
    refine KF.i ?_ ?_
    · exact KF.s hM
    · refine KF.i ?_ ?_
      · exact KF.s hM
      · refine KF.p (fc_gR hg hM h_a0) fun v2 h_v2 => ?_
        refine KF.b fun v3 => ?_
        refine KF.i ?_ ?_
        · exact (ih h_a0 hM)
        · exact (ih h_a0 hM)
theorem kc_X1_openSets_0 {M0 : zM} (hg : RG M0) {a0 : Nat} {M : zM} (h_a0 : own a0) (hM : FC M0 M) : KF (FC M0) (f_X1_openSets_0 a0 M) := by
  unfold f_X1_openSets_0
  exact (kc_X1_openSets_4 hg zN h_a0 hM)
theorem kc_X1_openSets {M0 : zM} (hg : RG M0) {a0 : Nat} {M : zM} (h_a0 : own a0) (hM : FC M0 M) : KF (FC M0) (f_X1_openSets a0 M) := by
  unfold f_X1_openSets
  exact (kc_X1_openSets_0 hg h_a0 hM)
theorem kc_X1_rowLies_2 {M0 : zM} (hg : RG M0) : ∀ (n : Nat) {a0 : Nat} {i1 : Int32} {M : zM}, own a0 → FC M0 M → KF (FC M0) (f_X1_rowLies_2 n a0 i1 M) := by
  intro n
  induction n with
  | zero => exact fun _ _ => KF.n
  | succ n ih =>
    intro a0 i1 M h_a0 hM
    rw [f_X1_rowLies_2]
    refine KF.b fun v1 => ?_
    refine KF.i ?_ ?_
    · exact KF.s hM
    · refine KF.i ?_ ?_
      · exact KF.s hM
      · refine KF.p (fc_gR hg hM h_a0) fun v2 h_v2 => ?_
        refine KF.b fun v3 => ?_
        refine KF.i ?_ ?_
        · exact KF.s hM
        · exact (ih h_a0 hM)
theorem kc_X1_rowLies_0 {M0 : zM} (hg : RG M0) {a0 : Nat} {M : zM} (h_a0 : own a0) (hM : FC M0 M) : KF (FC M0) (f_X1_rowLies_0 a0 M) := by
  unfold f_X1_rowLies_0
  exact (kc_X1_rowLies_2 hg zN h_a0 hM)
theorem kc_X1_rowLies {M0 : zM} (hg : RG M0) {a0 : Nat} {M : zM} (h_a0 : own a0) (hM : FC M0 M) : KF (FC M0) (f_X1_rowLies a0 M) := by
  unfold f_X1_rowLies
  exact (kc_X1_rowLies_0 hg h_a0 hM)
theorem kc_X1_tilesOf_0 {M0 : zM} (hg : RG M0) {i0 : Int32} {i1 : Int32} {i2 : Int32} {M : zM} (hM : FC M0 M) : KF (FC M0) (f_X1_tilesOf_0 i0 i1 i2 M) := by
  unfold f_X1_tilesOf_0
  refine KF.i ?_ ?_
  · refine KF.i ?_ ?_
    · exact KF.s hM
    · refine KF.i ?_ ?_
      · exact KF.s hM
      · exact KF.s hM
  · refine KF.i ?_ ?_
    · refine KF.i ?_ ?_
      · exact KF.s hM
      · exact KF.s hM
    · exact KF.s hM
theorem kc_X1_tilesOf {M0 : zM} (hg : RG M0) {i0 : Int32} {i1 : Int32} {i2 : Int32} {M : zM} (hM : FC M0 M) : KF (FC M0) (f_X1_tilesOf i0 i1 i2 M) := by
  unfold f_X1_tilesOf
  exact (kc_X1_tilesOf_0 hg hM)
theorem kc_X1_inSets_4 {M0 : zM} (hg : RG M0) : ∀ (n : Nat) {a0 : Nat} {i1 : Int32} {i2 : Int32} {i3 : Int32} {M : zM}, own a0 → FC M0 M → KF (FC M0) (f_X1_inSets_4 n a0 i1 i2 i3 M) := by
  intro n
  induction n with
  | zero => exact fun _ _ => KF.n
  | succ n ih =>
    intro a0 i1 i2 i3 M h_a0 hM
    rw [f_X1_inSets_4]
    refine KF.b fun v1 => ?_
    refine KF.i ?_ ?_
    · exact KF.s hM
    · refine KF.i ?_ ?_
      · exact KF.s hM
      · refine KF.p (fc_gR hg hM h_a0) fun v2 h_v2 => ?_
        refine KF.b fun v3 => ?_
        refine KF.p (fc_gR hg hM h_a0) fun v4 h_v4 => ?_
        refine KF.b fun v5 => ?_
        refine KF.c (kc_X1_tilesOf hg hM) fun r6 h_r6 => ?_
        exact (ih h_a0 h_r6)
theorem kc_X1_inSets_0 {M0 : zM} (hg : RG M0) {a0 : Nat} {i1 : Int32} {M : zM} (h_a0 : own a0) (hM : FC M0 M) : KF (FC M0) (f_X1_inSets_0 a0 i1 M) := by
  unfold f_X1_inSets_0
  exact (kc_X1_inSets_4 hg zN h_a0 hM)
theorem kc_X1_inSets {M0 : zM} (hg : RG M0) {a0 : Nat} {i1 : Int32} {M : zM} (h_a0 : own a0) (hM : FC M0 M) : KF (FC M0) (f_X1_inSets a0 i1 M) := by
  unfold f_X1_inSets
  exact (kc_X1_inSets_0 hg h_a0 hM)
theorem kc_X1_lying_8 {M0 : zM} (hg : RG M0) : ∀ (n : Nat) {a0 : Nat} {i1 : Int32} {i2 : Int32} {i3 : Int32} {M : zM}, own a0 → FC M0 M → KF (FC M0) (f_X1_lying_8 n a0 i1 i2 i3 M) := by
  intro n
  induction n with
  | zero => exact fun _ _ => KF.n
  | succ n ih =>
    intro a0 i1 i2 i3 M h_a0 hM
    rw [f_X1_lying_8]
    refine KF.b fun v1 => ?_
    refine KF.i ?_ ?_
    · exact KF.s hM
    · refine KF.i ?_ ?_
      · exact KF.s hM
      · refine KF.p (fc_gR hg hM h_a0) fun v2 h_v2 => ?_
        refine KF.b fun v3 => ?_
        refine KF.i ?_ ?_
        · exact (ih h_a0 hM)
        · exact (ih h_a0 hM)
theorem kc_X1_lying_0 {M0 : zM} (hg : RG M0) {a0 : Nat} {i1 : Int32} {M : zM} (h_a0 : own a0) (hM : FC M0 M) : KF (FC M0) (f_X1_lying_0 a0 i1 M) := by
  unfold f_X1_lying_0
  refine KF.i ?_ KF.n
  refine KF.c (kc_X1_inSets hg h_a0 hM) fun r1 h_r1 => ?_
  exact (kc_X1_lying_8 hg zN h_a0 h_r1)
theorem kc_X1_lying {M0 : zM} (hg : RG M0) {a0 : Nat} {i1 : Int32} {M : zM} (h_a0 : own a0) (hM : FC M0 M) : KF (FC M0) (f_X1_lying a0 i1 M) := by
  unfold f_X1_lying
  exact (kc_X1_lying_0 hg h_a0 hM)
theorem kc_X1_laySet_18 {M0 : zM} (hg : RG M0) : ∀ (n : Nat) {a0 : Nat} {i1 : Int32} {i2 : Int32} {i3 : Int32} {M : zM}, own a0 → FC M0 M → KF (FC M0) (f_X1_laySet_18 n a0 i1 i2 i3 M) := by
  intro n
  induction n with
  | zero => exact fun _ _ => KF.n
  | succ n ih =>
    intro a0 i1 i2 i3 M h_a0 hM
    rw [f_X1_laySet_18]
    refine KF.i ?_ ?_
    · refine KF.p (fc_gR hg hM h_a0) fun v1 h_v1 => ?_
      refine KF.b fun v2 => ?_
      refine KF.w (fc_tA hM h_v1) fun M3 h_M3 => ?_
      refine KF.b fun v4 => ?_
      refine KF.w (fc_pI h_M3 h_a0) fun M5 h_M5 => ?_
      exact KF.s h_M5
    · refine KF.p (fc_gR hg hM h_a0) fun v6 h_v6 => ?_
      refine KF.b fun v7 => ?_
      refine KF.c (kc_X1_tilesOf hg hM) fun r8 h_r8 => ?_
      refine KF.w (fc_tA h_r8 h_v6) fun M9 h_M9 => ?_
      exact (ih h_a0 h_M9)
theorem kc_X1_laySet_0 {M0 : zM} (hg : RG M0) {a0 : Nat} {i1 : Int32} {i2 : Int32} {M : zM} (h_a0 : own a0) (hM : FC M0 M) : KF (FC M0) (f_X1_laySet_0 a0 i1 i2 M) := by
  unfold f_X1_laySet_0
  refine KF.b fun v1 => ?_
  refine KF.i ?_ ?_
  · exact KF.s hM
  · refine KF.b fun v2 => ?_
    refine KF.i ?_ ?_
    · exact (kc_X1_laySet_18 hg zN h_a0 hM)
    · exact KF.s hM
theorem kc_X1_laySet {M0 : zM} (hg : RG M0) {a0 : Nat} {i1 : Int32} {i2 : Int32} {M : zM} (h_a0 : own a0) (hM : FC M0 M) : KF (FC M0) (f_X1_laySet a0 i1 i2 M) := by
  unfold f_X1_laySet
  exact (kc_X1_laySet_0 hg h_a0 hM)
theorem kc_X1_toRiver_0 {M0 : zM} (hg : RG M0) {a0 : Nat} {i1 : Int32} {M : zM} (h_a0 : own a0) (hM : FC M0 M) : KF (FC M0) (f_X1_toRiver_0 a0 i1 M) := by
  unfold f_X1_toRiver_0
  refine KF.b fun v1 => ?_
  refine KF.i ?_ ?_
  · exact KF.s hM
  · refine KF.b fun v2 => ?_
    refine KF.i ?_ ?_
    · refine KF.i ?_ KF.n
      refine KF.c (kc_X1_change hg h_a0 hM) fun r3 h_r3 => ?_
      refine KF.p (fc_gR hg h_r3 h_a0) fun v5 h_v5 => ?_
      refine KF.b fun v6 => ?_
      refine KF.w (fc_tA h_r3 h_v5) fun M7 h_M7 => ?_
      refine KF.b fun v8 => ?_
      refine KF.w (fc_pI h_M7 h_a0) fun M9 h_M9 => ?_
      refine KF.b fun v10 => ?_
      refine KF.w (fc_pJ h_M9 h_a0) fun M11 h_M11 => ?_
      exact KF.s h_M11
    · exact KF.s hM
theorem kc_X1_toRiver {M0 : zM} (hg : RG M0) {a0 : Nat} {i1 : Int32} {M : zM} (h_a0 : own a0) (hM : FC M0 M) : KF (FC M0) (f_X1_toRiver a0 i1 M) := by
  unfold f_X1_toRiver
  exact (kc_X1_toRiver_0 hg h_a0 hM)
theorem kc_X1_latestInRiver_0 {M0 : zM} (hg : RG M0) {a0 : Nat} {M : zM} (h_a0 : own a0) (hM : FC M0 M) : KF (FC M0) (f_X1_latestInRiver_0 a0 M) := by
  unfold f_X1_latestInRiver_0
  refine KF.b fun v1 => ?_
  refine KF.i ?_ ?_
  · exact KF.s hM
  · refine KF.b fun v2 => ?_
    refine KF.i ?_ ?_
    · exact KF.s hM
    · refine KF.p (fc_gR hg hM h_a0) fun v3 h_v3 => ?_
      refine KF.b fun v4 => ?_
      refine KF.b fun v5 => ?_
      exact KF.s hM
theorem kc_X1_latestInRiver {M0 : zM} (hg : RG M0) {a0 : Nat} {M : zM} (h_a0 : own a0) (hM : FC M0 M) : KF (FC M0) (f_X1_latestInRiver a0 M) := by
  unfold f_X1_latestInRiver
  exact (kc_X1_latestInRiver_0 hg h_a0 hM)
theorem kc_X1_leaveRiver_0 {M0 : zM} (hg : RG M0) {a0 : Nat} {M : zM} (h_a0 : own a0) (hM : FC M0 M) : KF (FC M0) (f_X1_leaveRiver_0 a0 M) := by
  unfold f_X1_leaveRiver_0
  refine KF.i ?_ KF.n
  refine KF.c (kc_X1_latestInRiver hg h_a0 hM) fun r1 h_r1 => ?_
  refine KF.b fun v3 => ?_
  refine KF.i ?_ ?_
  · exact KF.s h_r1
  · refine KF.b fun v4 => ?_
    refine KF.w (fc_pI h_r1 h_a0) fun M5 h_M5 => ?_
    exact KF.s h_M5
theorem kc_X1_leaveRiver {M0 : zM} (hg : RG M0) {a0 : Nat} {M : zM} (h_a0 : own a0) (hM : FC M0 M) : KF (FC M0) (f_X1_leaveRiver a0 M) := by
  unfold f_X1_leaveRiver
  exact (kc_X1_leaveRiver_0 hg h_a0 hM)
theorem kc_X0_copy_2 {M0 : zM} (hg : RG M0) : ∀ (n : Nat) {a0 : Nat} {a1 : Nat} {i2 : Int32} {M : zM}, own a0 → own a1 → FC M0 M → KF (FC M0) (f_X0_copy_2 n a0 a1 i2 M) := by
  intro n
  induction n with
  | zero => exact fun _ _ _ => KF.n
  | succ n ih =>
    intro a0 a1 i2 M h_a0 h_a1 hM
    rw [f_X0_copy_2]
    refine KF.i ?_ ?_
    · exact KF.s hM
    · refine KF.b fun v1 => ?_
      refine KF.i ?_ ?_
      · exact KF.s hM
      · refine KF.p (fc_gR hg hM h_a0) fun v2 h_v2 => ?_
        refine KF.b fun v3 => ?_
        refine KF.w (fc_tA hM h_v2) fun M4 h_M4 => ?_
        exact (ih h_a0 h_a1 h_M4)
theorem kc_X0_copy_0 {M0 : zM} (hg : RG M0) {a0 : Nat} {a1 : Nat} {M : zM} (h_a0 : own a0) (h_a1 : own a1) (hM : FC M0 M) : KF (FC M0) (f_X0_copy_0 a0 a1 M) := by
  unfold f_X0_copy_0
  exact (kc_X0_copy_2 hg zN h_a0 h_a1 hM)
theorem kc_X0_copy {M0 : zM} (hg : RG M0) {a0 : Nat} {a1 : Nat} {M : zM} (h_a0 : own a0) (h_a1 : own a1) (hM : FC M0 M) : KF (FC M0) (f_X0_copy a0 a1 M) := by
  unfold f_X0_copy
  exact (kc_X0_copy_0 hg h_a0 h_a1 hM)
theorem kc_X3_startsRow_0 {M0 : zM} (hg : RG M0) {i0 : Int32} {M : zM} (hM : FC M0 M) : KF (FC M0) (f_X3_startsRow_0 i0 M) := by
  unfold f_X3_startsRow_0
  refine KF.i ?_ ?_
  · exact KF.s hM
  · refine KF.i ?_ ?_
    · exact KF.s hM
    · refine KF.i ?_ ?_
      · exact KF.s hM
      · exact KF.s hM
theorem kc_X3_startsRow {M0 : zM} (hg : RG M0) {i0 : Int32} {M : zM} (hM : FC M0 M) : KF (FC M0) (f_X3_startsRow i0 M) := by
  unfold f_X3_startsRow
  exact (kc_X3_startsRow_0 hg hM)
theorem kc_X0_restIsSets_2 {M0 : zM} (hg : RG M0) : ∀ (n : Nat) {a0 : Nat} {i1 : Int32} {M : zM}, own a0 → FC M0 M → KF (FC M0) (f_X0_restIsSets_2 n a0 i1 M) := by
  intro n
  induction n with
  | zero => exact fun _ _ => KF.n
  | succ n ih =>
    intro a0 i1 M h_a0 hM
    rw [f_X0_restIsSets_2]
    refine KF.i ?_ ?_
    · exact KF.s hM
    · refine KF.p (fc_gR hg hM h_a0) fun v1 h_v1 => ?_
      refine KF.b fun v2 => ?_
      refine KF.i ?_ ?_
      · exact (ih h_a0 hM)
      · refine KF.c (kc_X3_startsRow hg hM) fun r3 h_r3 => ?_
        refine KF.i ?_ ?_
        · exact KF.s h_r3
        · refine KF.i ?_ ?_
          · exact KF.s h_r3
          · refine KF.p (fc_gR hg h_r3 h_a0) fun v4 h_v4 => ?_
            refine KF.b fun v5 => ?_
            refine KF.i ?_ ?_
            · exact KF.s h_r3
            · refine KF.p (fc_gR hg h_r3 h_a0) fun v6 h_v6 => ?_
              refine KF.b fun v7 => ?_
              refine KF.i ?_ ?_
              · refine KF.p (fc_gR hg h_r3 h_a0) fun v8 h_v8 => ?_
                refine KF.b fun v9 => ?_
                refine KF.w (fc_tA h_r3 h_v8) fun M10 h_M10 => ?_
                refine KF.p (fc_gR hg h_M10 h_a0) fun v11 h_v11 => ?_
                refine KF.b fun v12 => ?_
                refine KF.w (fc_tA h_M10 h_v11) fun M13 h_M13 => ?_
                exact (ih h_a0 h_M13)
              · exact KF.s h_r3
theorem kc_X0_restIsSets_0 {M0 : zM} (hg : RG M0) {a0 : Nat} {M : zM} (h_a0 : own a0) (hM : FC M0 M) : KF (FC M0) (f_X0_restIsSets_0 a0 M) := by
  unfold f_X0_restIsSets_0
  exact (kc_X0_restIsSets_2 hg zN h_a0 hM)
theorem kc_X0_restIsSets {M0 : zM} (hg : RG M0) {a0 : Nat} {M : zM} (h_a0 : own a0) (hM : FC M0 M) : KF (FC M0) (f_X0_restIsSets a0 M) := by
  unfold f_X0_restIsSets
  exact (kc_X0_restIsSets_0 hg h_a0 hM)
theorem kc_X0_complete_2 {M0 : zM} (hg : RG M0) : ∀ (n : Nat) {a0 : Nat} {a1 : Nat} {i2 : Int32} {M : zM}, own a0 → own a1 → FC M0 M → KF (FC M0) (f_X0_complete_2 n a0 a1 i2 M) := by
  intro n
  induction n with
  | zero => exact fun _ _ _ => KF.n
  | succ n ih =>
    intro a0 a1 i2 M h_a0 h_a1 hM
    rw [f_X0_complete_2]
    refine KF.i ?_ ?_
    · exact KF.s hM
    · refine KF.b fun v1 => ?_
      refine KF.i ?_ ?_
      · exact (ih h_a0 h_a1 hM)
      · refine KF.b fun v2 => ?_
        refine KF.i ?_ ?_
        · exact (ih h_a0 h_a1 hM)
        · refine KF.i ?_ KF.n
          refine KF.c (kc_X0_copy hg h_a0 h_a1 hM) fun r3 h_r3 => ?_
          refine KF.p (fc_gR hg h_r3 h_a0) fun v5 h_v5 => ?_
          refine KF.b fun v6 => ?_
          refine KF.w (fc_tA h_r3 h_v5) fun M7 h_M7 => ?_
          refine KF.i ?_ KF.n
          refine KF.c (kc_X0_restIsSets hg h_a0 h_M7) fun r8 h_r8 => ?_
          refine KF.i ?_ ?_
          · exact (ih h_a0 h_a1 h_r8)
          · exact KF.s h_r8
theorem kc_X0_complete_0 {M0 : zM} (hg : RG M0) {a0 : Nat} {a1 : Nat} {M : zM} (h_a0 : own a0) (h_a1 : own a1) (hM : FC M0 M) : KF (FC M0) (f_X0_complete_0 a0 a1 M) := by
  unfold f_X0_complete_0
  exact (kc_X0_complete_2 hg zN h_a0 h_a1 hM)
theorem kc_X0_complete {M0 : zM} (hg : RG M0) {a0 : Nat} {a1 : Nat} {M : zM} (h_a0 : own a0) (h_a1 : own a1) (hM : FC M0 M) : KF (FC M0) (f_X0_complete a0 a1 M) := by
  unfold f_X0_complete
  exact (kc_X0_complete_0 hg h_a0 h_a1 hM)
theorem kc_J9_max_7cf53_0 {M0 : zM} (hg : RG M0) {i0 : Int32} {i1 : Int32} {M : zM} (hM : FC M0 M) : KF (FC M0) (f_J9_max_7cf53_0 i0 i1 M) := by
  unfold f_J9_max_7cf53_0
  refine KF.i ?_ ?_
  · exact KF.s hM
  · exact KF.s hM
theorem kc_J9_max_7cf53 {M0 : zM} (hg : RG M0) {i0 : Int32} {i1 : Int32} {M : zM} (hM : FC M0 M) : KF (FC M0) (f_J9_max_7cf53 i0 i1 M) := by
  unfold f_J9_max_7cf53
  exact (kc_J9_max_7cf53_0 hg hM)
theorem kc_J9_min_7cf53_0 {M0 : zM} (hg : RG M0) {i0 : Int32} {i1 : Int32} {M : zM} (hM : FC M0 M) : KF (FC M0) (f_J9_min_7cf53_0 i0 i1 M) := by
  unfold f_J9_min_7cf53_0
  refine KF.i ?_ ?_
  · exact KF.s hM
  · exact KF.s hM
theorem kc_J9_min_7cf53 {M0 : zM} (hg : RG M0) {i0 : Int32} {i1 : Int32} {M : zM} (hM : FC M0 M) : KF (FC M0) (f_J9_min_7cf53 i0 i1 M) := by
  unfold f_J9_min_7cf53
  exact (kc_J9_min_7cf53_0 hg hM)
theorem kc_X0_joinParts_90 {M0 : zM} (hg : RG M0) {a0 : Nat} {i1 : Int32} {i2 : Int32} {i3 : Int32} {M : zM} (h_a0 : own a0) (hM : FC M0 M) : KF (FC M0) (f_X0_joinParts_90 a0 i1 i2 i3 M) := by
  unfold f_X0_joinParts_90
  refine KF.p (fc_gR hg hM h_a0) fun v1 h_v1 => ?_
  refine KF.w (fc_tA hM h_v1) fun M2 h_M2 => ?_
  refine KF.p (fc_gR hg h_M2 h_a0) fun v3 h_v3 => ?_
  refine KF.w (fc_tA h_M2 h_v3) fun M4 h_M4 => ?_
  exact KF.s h_M4
theorem kc_X0_joinParts_7 {M0 : zM} (hg : RG M0) : ∀ (n : Nat) {a0 : Nat} {i1 : Int32} {i2 : Int32} {i3 : Int32} {i4 : Int32} {M : zM}, own a0 → FC M0 M → KF (FC M0) (f_X0_joinParts_7 n a0 i1 i2 i3 i4 M) := by
  intro n
  induction n with
  | zero => exact fun _ _ => KF.n
  | succ n ih =>
    intro a0 i1 i2 i3 i4 M h_a0 hM
    rw [f_X0_joinParts_7]
    refine KF.i ?_ ?_
    · exact (kc_X0_joinParts_90 hg h_a0 hM)
    · refine KF.i ?_ ?_
      · exact (kc_X0_joinParts_90 hg h_a0 hM)
      · refine KF.p (fc_gR hg hM h_a0) fun v1 h_v1 => ?_
        refine KF.b fun v2 => ?_
        refine KF.p (fc_gR hg hM h_a0) fun v3 h_v3 => ?_
        refine KF.b fun v4 => ?_
        refine KF.c (kc_J9_max_7cf53 hg hM) fun r5 h_r5 => ?_
        refine KF.p (fc_gR hg h_r5 h_a0) fun v6 h_v6 => ?_
        refine KF.b fun v7 => ?_
        refine KF.p (fc_gR hg h_r5 h_a0) fun v8 h_v8 => ?_
        refine KF.b fun v9 => ?_
        refine KF.c (kc_J9_max_7cf53 hg h_r5) fun r10 h_r10 => ?_
        refine KF.p (fc_gR hg h_r10 h_a0) fun v11 h_v11 => ?_
        refine KF.b fun v12 => ?_
        refine KF.p (fc_gR hg h_r10 h_a0) fun v13 h_v13 => ?_
        refine KF.b fun v14 => ?_
        refine KF.c (kc_J9_max_7cf53 hg h_r10) fun r15 h_r15 => ?_
        exact (ih h_a0 h_r15)
theorem kc_X0_joinParts_0 {M0 : zM} (hg : RG M0) {a0 : Nat} {i1 : Int32} {M : zM} (h_a0 : own a0) (hM : FC M0 M) : KF (FC M0) (f_X0_joinParts_0 a0 i1 M) := by
  unfold f_X0_joinParts_0
  exact (kc_X0_joinParts_7 hg zN h_a0 hM)
theorem kc_X0_joinParts {M0 : zM} (hg : RG M0) {a0 : Nat} {i1 : Int32} {M : zM} (h_a0 : own a0) (hM : FC M0 M) : KF (FC M0) (f_X0_joinParts a0 i1 M) := by
  unfold f_X0_joinParts
  exact (kc_X0_joinParts_0 hg h_a0 hM)
theorem kc_X0_changePart_47 {M0 : zM} (hg : RG M0) {a0 : Nat} {i1 : Int32} {i2 : Int32} {i3 : Int32} {M : zM} (h_a0 : own a0) (hM : FC M0 M) : KF (FC M0) (f_X0_changePart_47 a0 i1 i2 i3 M) := by
  unfold f_X0_changePart_47
  refine KF.b fun v1 => ?_
  refine KF.i ?_ ?_
  · exact KF.s hM
  · refine KF.b fun v2 => ?_
    refine KF.b fun v3 => ?_
    refine KF.w (fc_tA hM h_a0) fun M4 h_M4 => ?_
    exact KF.s h_M4
theorem kc_X0_changePart_0 {M0 : zM} (hg : RG M0) {a0 : Nat} {i1 : Int32} {i2 : Int32} {i3 : Int32} {M : zM} (h_a0 : own a0) (hM : FC M0 M) : KF (FC M0) (f_X0_changePart_0 a0 i1 i2 i3 M) := by
  unfold f_X0_changePart_0
  refine KF.i ?_ ?_
  · exact KF.s hM
  · refine KF.b fun v1 => ?_
    refine KF.i ?_ ?_
    · refine KF.b fun v2 => ?_
      refine KF.b fun v3 => ?_
      refine KF.w (fc_tA hM h_a0) fun M4 h_M4 => ?_
      refine KF.b fun v5 => ?_
      refine KF.i ?_ ?_
      · exact (kc_X0_changePart_47 hg h_a0 h_M4)
      · refine KF.b fun v6 => ?_
        refine KF.b fun v7 => ?_
        refine KF.w (fc_tA h_M4 h_a0) fun M8 h_M8 => ?_
        exact (kc_X0_changePart_47 hg h_a0 h_M8)
    · exact KF.s hM
theorem kc_X0_changePart {M0 : zM} (hg : RG M0) {a0 : Nat} {i1 : Int32} {i2 : Int32} {i3 : Int32} {M : zM} (h_a0 : own a0) (hM : FC M0 M) : KF (FC M0) (f_X0_changePart a0 i1 i2 i3 M) := by
  unfold f_X0_changePart
  exact (kc_X0_changePart_0 hg h_a0 hM)
theorem kc_X0_fits_86 {M0 : zM} (hg : RG M0) {i3 : Int32} {i4 : Int32} {i_0 : Int32} {M : zM} (hM : FC M0 M) : KF (FC M0) (f_X0_fits_86 i3 i4 i_0 M) := by
  unfold f_X0_fits_86
  refine KF.b fun v1 => ?_
  refine KF.i ?_ ?_
  · exact KF.s hM
  · refine KF.b fun v2 => ?_
    refine KF.i ?_ ?_
    · exact KF.s hM
    · exact KF.s hM
theorem kc_X0_fits_68 {M0 : zM} (hg : RG M0) {a0 : Nat} {i1 : Int32} {i2 : Int32} {i3 : Int32} {i_0 : Int32} {M : zM} (h_a0 : own a0) (hM : FC M0 M) : KF (FC M0) (f_X0_fits_68 a0 i1 i2 i3 i_0 M) := by
  unfold f_X0_fits_68
  refine KF.i ?_ ?_
  · exact (kc_X0_fits_86 hg hM)
  · refine KF.b fun v1 => ?_
    exact (kc_X0_fits_86 hg hM)
theorem kc_X0_fits_0 {M0 : zM} (hg : RG M0) {a0 : Nat} {i1 : Int32} {i2 : Int32} {i3 : Int32} {M : zM} (h_a0 : own a0) (hM : FC M0 M) : KF (FC M0) (f_X0_fits_0 a0 i1 i2 i3 M) := by
  unfold f_X0_fits_0
  refine KF.i ?_ ?_
  · exact KF.s hM
  · refine KF.i ?_ ?_
    · exact KF.s hM
    · refine KF.b fun v1 => ?_
      refine KF.i ?_ ?_
      · exact KF.s hM
      · refine KF.b fun v2 => ?_
        refine KF.b fun v3 => ?_
        refine KF.i ?_ ?_
        · refine KF.b fun v4 => ?_
          refine KF.b fun v5 => ?_
          refine KF.i ?_ ?_
          · exact KF.s hM
          · refine KF.i ?_ ?_
            · refine KF.i ?_ ?_
              · exact (kc_X0_fits_68 hg h_a0 hM)
              · refine KF.b fun v6 => ?_
                exact (kc_X0_fits_68 hg h_a0 hM)
            · exact KF.s hM
        · exact KF.s hM
theorem kc_X0_fits {M0 : zM} (hg : RG M0) {a0 : Nat} {i1 : Int32} {i2 : Int32} {i3 : Int32} {M : zM} (h_a0 : own a0) (hM : FC M0 M) : KF (FC M0) (f_X0_fits a0 i1 i2 i3 M) := by
  unfold f_X0_fits
  exact (kc_X0_fits_0 hg h_a0 hM)
theorem kc_X0_most_76 {M0 : zM} (hg : RG M0) {RC_X0_most : Nat → Int32 → Int32 → Int32 → zM → Option (Int32 × zM)} {K21 : Nat → Int32 → Int32 → Int32 → Int32 → zM → Option (Int32 × zM)} {K38 : Nat → Int32 → Int32 → Int32 → Int32 → Int32 → zM → Option (Int32 × zM)} (hRC_X0_most : ∀ {x0 : Nat} {x1 : Int32} {x2 : Int32} {x3 : Int32} {M : zM}, own x0 → FC M0 M → KF (FC M0) (RC_X0_most x0 x1 x2 x3 M)) (hK21 : ∀ {x0 : Nat} {x1 : Int32} {x2 : Int32} {x3 : Int32} {x4 : Int32} {M : zM}, own x0 → FC M0 M → KF (FC M0) (K21 x0 x1 x2 x3 x4 M)) (hK38 : ∀ {x0 : Nat} {x1 : Int32} {x2 : Int32} {x3 : Int32} {x4 : Int32} {x5 : Int32} {M : zM}, own x0 → FC M0 M → KF (FC M0) (K38 x0 x1 x2 x3 x4 x5 M)) {a0 : Nat} {i2 : Int32} {i3 : Int32} {i4 : Int32} {i5 : Int32} {i6 : Int32} {i_0 : Int32} {M : zM} (h_a0 : own a0) (hM : FC M0 M) : KF (FC M0) (f_X0_most_76 RC_X0_most K21 K38 a0 i2 i3 i4 i5 i6 i_0 M) := by
  unfold f_X0_most_76
  refine KF.c (hRC_X0_most h_a0 hM) fun r1 h_r1 => ?_
  refine KF.c (kc_J9_max_7cf53 hg h_r1) fun r2 h_r2 => ?_
  refine KF.c (kc_X0_changePart hg h_a0 h_r2) fun r3 h_r3 => ?_
  exact (hK38 h_a0 h_r3)
theorem kc_X0_most_38 {M0 : zM} (hg : RG M0) {RC_X0_most : Nat → Int32 → Int32 → Int32 → zM → Option (Int32 × zM)} {K21 : Nat → Int32 → Int32 → Int32 → Int32 → zM → Option (Int32 × zM)} (hRC_X0_most : ∀ {x0 : Nat} {x1 : Int32} {x2 : Int32} {x3 : Int32} {M : zM}, own x0 → FC M0 M → KF (FC M0) (RC_X0_most x0 x1 x2 x3 M)) (hK21 : ∀ {x0 : Nat} {x1 : Int32} {x2 : Int32} {x3 : Int32} {x4 : Int32} {M : zM}, own x0 → FC M0 M → KF (FC M0) (K21 x0 x1 x2 x3 x4 M)) : ∀ (n : Nat) {a0 : Nat} {i2 : Int32} {i3 : Int32} {i4 : Int32} {i5 : Int32} {i6 : Int32} {M : zM}, own a0 → FC M0 M → KF (FC M0) (f_X0_most_38 RC_X0_most K21 n a0 i2 i3 i4 i5 i6 M) := by
  intro n
  induction n with
  | zero => exact fun _ _ => KF.n
  | succ n ih =>
    intro a0 i2 i3 i4 i5 i6 M h_a0 hM
    rw [f_X0_most_38]
    refine KF.i ?_ ?_
    · exact (hK21 h_a0 hM)
    · refine KF.c (kc_X0_fits hg h_a0 hM) fun r1 h_r1 => ?_
      refine KF.i ?_ ?_
      · exact (ih h_a0 h_r1)
      · refine KF.c (kc_X0_changePart hg h_a0 h_r1) fun r2 h_r2 => ?_
        refine KF.i ?_ ?_
        · exact (kc_X0_most_76 hg hRC_X0_most hK21 ih h_a0 h_r2)
        · exact (kc_X0_most_76 hg hRC_X0_most hK21 ih h_a0 h_r2)
theorem kc_X0_most_21 {M0 : zM} (hg : RG M0) {RC_X0_most : Nat → Int32 → Int32 → Int32 → zM → Option (Int32 × zM)} (hRC_X0_most : ∀ {x0 : Nat} {x1 : Int32} {x2 : Int32} {x3 : Int32} {M : zM}, own x0 → FC M0 M → KF (FC M0) (RC_X0_most x0 x1 x2 x3 M)) : ∀ (n : Nat) {a0 : Nat} {i2 : Int32} {i3 : Int32} {i4 : Int32} {i5 : Int32} {M : zM}, own a0 → FC M0 M → KF (FC M0) (f_X0_most_21 RC_X0_most n a0 i2 i3 i4 i5 M) := by
  intro n
  induction n with
  | zero => exact fun _ _ => KF.n
  | succ n ih =>
    intro a0 i2 i3 i4 i5 M h_a0 hM
    rw [f_X0_most_21]
    refine KF.i ?_ ?_
    · exact KF.s hM
    · refine KF.i ?_ ?_
      · exact KF.s hM
      · exact (kc_X0_most_38 hg hRC_X0_most ih zN h_a0 hM)
theorem kc_X0_most_0 {M0 : zM} (hg : RG M0) {RC_X0_most : Nat → Int32 → Int32 → Int32 → zM → Option (Int32 × zM)} (hRC_X0_most : ∀ {x0 : Nat} {x1 : Int32} {x2 : Int32} {x3 : Int32} {M : zM}, own x0 → FC M0 M → KF (FC M0) (RC_X0_most x0 x1 x2 x3 M)) {a0 : Nat} {i1 : Int32} {i2 : Int32} {i3 : Int32} {M : zM} (h_a0 : own a0) (hM : FC M0 M) : KF (FC M0) (f_X0_most_0 RC_X0_most a0 i1 i2 i3 M) := by
  unfold f_X0_most_0
  refine KF.i ?_ ?_
  · exact KF.s hM
  · refine KF.i ?_ ?_
    · exact KF.s hM
    · refine KF.i ?_ ?_
      · exact (kc_X0_most_21 hg hRC_X0_most zN h_a0 hM)
      · exact KF.s hM
theorem kc_X0_most {M0 : zM} (hg : RG M0) : ∀ (n : Nat) {a0 : Nat} {i1 : Int32} {i2 : Int32} {i3 : Int32} {M : zM}, own a0 → FC M0 M → KF (FC M0) (f_X0_most n a0 i1 i2 i3 M) := by
  intro n
  induction n with
  | zero => exact fun _ _ => KF.n
  | succ n ih =>
    intro a0 i1 i2 i3 M h_a0 hM
    rw [f_X0_most]
    exact (kc_X0_most_0 hg ih h_a0 hM)
theorem kc_X0_join_166 {M0 : zM} (hg : RG M0) : ∀ (n : Nat) {a0 : Nat} {i4 : Int32} {M : zM}, own a0 → FC M0 M → KF (FC M0) (f_X0_join_166 n a0 i4 M) := by
  intro n
  induction n with
  | zero => exact fun _ _ => KF.n
  | succ n ih =>
    intro a0 i4 M h_a0 hM
    rw [f_X0_join_166]
    refine KF.i ?_ ?_
    · exact KF.s hM
    · refine KF.i ?_ KF.n
      refine KF.c (kc_X0_joinParts hg h_a0 hM) fun r1 h_r1 => ?_
      exact (ih h_a0 h_r1)
theorem kc_X0_join_159 {M0 : zM} (hg : RG M0) {a0 : Nat} {i3 : Int32} {M : zM} (h_a0 : own a0) (hM : FC M0 M) : KF (FC M0) (f_X0_join_159 a0 i3 M) := by
  unfold f_X0_join_159
  refine KF.c (kc_J9_min_7cf53 hg hM) fun r1 h_r1 => ?_
  exact (kc_X0_join_166 hg zN h_a0 h_r1)
theorem kc_X0_join_142 {M0 : zM} (hg : RG M0) {K56 : Nat → Int32 → Int32 → Int32 → Int32 → zM → Option (Unit × zM)} (hK56 : ∀ {x0 : Nat} {x1 : Int32} {x2 : Int32} {x3 : Int32} {x4 : Int32} {M : zM}, own x0 → FC M0 M → KF (FC M0) (K56 x0 x1 x2 x3 x4 M)) {a0 : Nat} {i1 : Int32} {i2 : Int32} {i3 : Int32} {i4 : Int32} {M : zM} (h_a0 : own a0) (hM : FC M0 M) : KF (FC M0) (f_X0_join_142 K56 a0 i1 i2 i3 i4 M) := by
  unfold f_X0_join_142
  refine KF.p (fc_gR hg hM h_a0) fun v1 h_v1 => ?_
  refine KF.b fun v2 => ?_
  refine KF.w (fc_tA hM h_v1) fun M3 h_M3 => ?_
  exact (hK56 h_a0 h_M3)
theorem kc_X0_join_94 {M0 : zM} (hg : RG M0) {K56 : Nat → Int32 → Int32 → Int32 → Int32 → zM → Option (Unit × zM)} (hK56 : ∀ {x0 : Nat} {x1 : Int32} {x2 : Int32} {x3 : Int32} {x4 : Int32} {M : zM}, own x0 → FC M0 M → KF (FC M0) (K56 x0 x1 x2 x3 x4 M)) : ∀ (n : Nat) {a0 : Nat} {i1 : Int32} {i2 : Int32} {i3 : Int32} {i4 : Int32} {i5 : Int32} {M : zM}, own a0 → FC M0 M → KF (FC M0) (f_X0_join_94 K56 n a0 i1 i2 i3 i4 i5 M) := by
  intro n
  induction n with
  | zero => exact fun _ _ => KF.n
  | succ n ih =>
    intro a0 i1 i2 i3 i4 i5 M h_a0 hM
    rw [f_X0_join_94]
    refine KF.i ?_ ?_
    · exact (kc_X0_join_142 hg hK56 h_a0 hM)
    · refine KF.i ?_ ?_
      · exact (kc_X0_join_142 hg hK56 h_a0 hM)
      · refine KF.p (fc_gR hg hM h_a0) fun v1 h_v1 => ?_
        refine KF.p (fc_gR hg hM h_a0) fun v2 h_v2 => ?_
        refine KF.b fun v3 => ?_
        refine KF.p (fc_gR hg hM h_a0) fun v4 h_v4 => ?_
        refine KF.c (kc_X0_most hg zR h_v4 hM) fun r5 h_r5 => ?_
        refine KF.c (kc_J9_max_7cf53 hg h_r5) fun r6 h_r6 => ?_
        refine KF.w (fc_tA h_r6 h_v1) fun M7 h_M7 => ?_
        exact (ih h_a0 h_M7)
theorem kc_X0_join_56 {M0 : zM} (hg : RG M0) : ∀ (n : Nat) {a0 : Nat} {i1 : Int32} {i2 : Int32} {i3 : Int32} {i4 : Int32} {M : zM}, own a0 → FC M0 M → KF (FC M0) (f_X0_join_56 n a0 i1 i2 i3 i4 M) := by
  intro n
  induction n with
  | zero => exact fun _ _ => KF.n
  | succ n ih =>
    intro a0 i1 i2 i3 i4 M h_a0 hM
    rw [f_X0_join_56]
    refine KF.i ?_ ?_
    · exact (kc_X0_join_159 hg h_a0 hM)
    · refine KF.i ?_ ?_
      · exact (kc_X0_join_159 hg h_a0 hM)
      · refine KF.p (fc_gR hg hM h_a0) fun v1 h_v1 => ?_
        refine KF.b fun v2 => ?_
        refine KF.i ?_ ?_
        · exact (ih h_a0 hM)
        · refine KF.p (fc_gR hg hM h_a0) fun v3 h_v3 => ?_
          refine KF.b fun v4 => ?_
          refine KF.w (fc_tA hM h_v3) fun M5 h_M5 => ?_
          exact (kc_X0_join_94 hg ih zN h_a0 h_M5)
theorem kc_X0_join_3 {M0 : zM} (hg : RG M0) : ∀ (n : Nat) {a0 : Nat} {i1 : Int32} {i2 : Int32} {i3 : Int32} {i4 : Int32} {M : zM}, own a0 → FC M0 M → KF (FC M0) (f_X0_join_3 n a0 i1 i2 i3 i4 M) := by
  intro n
  induction n with
  | zero => exact fun _ _ => KF.n
  | succ n ih =>
    intro a0 i1 i2 i3 i4 M h_a0 hM
    rw [f_X0_join_3]
    refine KF.i ?_ ?_
    · exact (kc_X0_join_56 hg zN h_a0 hM)
    · refine KF.i ?_ ?_
      · exact (kc_X0_join_56 hg zN h_a0 hM)
      · refine KF.p (fc_gR hg hM h_a0) fun v1 h_v1 => ?_
        refine KF.p (fc_gR hg hM h_a0) fun v2 h_v2 => ?_
        refine KF.c (kc_X0_most hg zR h_v2 hM) fun r3 h_r3 => ?_
        refine KF.w (fc_tA h_r3 h_v1) fun M4 h_M4 => ?_
        refine KF.p (fc_gR hg h_M4 h_a0) fun v5 h_v5 => ?_
        refine KF.p (fc_gR hg h_M4 h_a0) fun v6 h_v6 => ?_
        refine KF.b fun v7 => ?_
        refine KF.w (fc_tA h_M4 h_v5) fun M8 h_M8 => ?_
        exact (ih h_a0 h_M8)
theorem kc_X0_join_0 {M0 : zM} (hg : RG M0) {a0 : Nat} {i1 : Int32} {i2 : Int32} {i3 : Int32} {M : zM} (h_a0 : own a0) (hM : FC M0 M) : KF (FC M0) (f_X0_join_0 a0 i1 i2 i3 M) := by
  unfold f_X0_join_0
  exact (kc_X0_join_3 hg zN h_a0 hM)
theorem kc_X0_join {M0 : zM} (hg : RG M0) {a0 : Nat} {i1 : Int32} {i2 : Int32} {i3 : Int32} {M : zM} (h_a0 : own a0) (hM : FC M0 M) : KF (FC M0) (f_X0_join a0 i1 i2 i3 M) := by
  unfold f_X0_join
  exact (kc_X0_join_0 hg h_a0 hM)
theorem kc_X0_far_29 {M0 : zM} (hg : RG M0) : ∀ (n : Nat) {a0 : Nat} {i3 : Int32} {i4 : Int32} {M : zM}, own a0 → FC M0 M → KF (FC M0) (f_X0_far_29 n a0 i3 i4 M) := by
  intro n
  induction n with
  | zero => exact fun _ _ => KF.n
  | succ n ih =>
    intro a0 i3 i4 M h_a0 hM
    rw [f_X0_far_29]
    refine KF.i ?_ ?_
    · refine KF.i ?_ KF.n
      refine KF.c (kc_X0_join hg h_a0 hM) fun r1 h_r1 => ?_
      refine KF.i ?_ KF.n
      refine KF.c (kc_X0_join hg h_a0 h_r1) fun r3 h_r3 => ?_
      refine KF.i ?_ KF.n
      refine KF.c (kc_X0_join hg h_a0 h_r3) fun r5 h_r5 => ?_
      refine KF.p (fc_gR hg h_r5 h_a0) fun v7 h_v7 => ?_
      refine KF.b fun v8 => ?_
      exact KF.s h_r5
    · refine KF.p (fc_gR hg hM h_a0) fun v9 h_v9 => ?_
      refine KF.w (fc_tA hM h_v9) fun M10 h_M10 => ?_
      refine KF.p (fc_gR hg h_M10 h_a0) fun v11 h_v11 => ?_
      refine KF.w (fc_tA h_M10 h_v11) fun M12 h_M12 => ?_
      exact (ih h_a0 h_M12)
theorem kc_X0_far_20 {M0 : zM} (hg : RG M0) {a0 : Nat} {a1 : Nat} {i_0 : Int32} {M : zM} (h_a0 : own a0) (h_a1 : own a1) (hM : FC M0 M) : KF (FC M0) (f_X0_far_20 a0 a1 i_0 M) := by
  unfold f_X0_far_20
  refine KF.i ?_ KF.n
  refine KF.c (kc_X0_copy hg h_a0 h_a1 hM) fun r1 h_r1 => ?_
  exact (kc_X0_far_29 hg zN h_a0 h_r1)
theorem kc_X0_far_0 {M0 : zM} (hg : RG M0) {a0 : Nat} {a1 : Nat} {i2 : Int32} {M : zM} (h_a0 : own a0) (h_a1 : own a1) (hM : FC M0 M) : KF (FC M0) (f_X0_far_0 a0 a1 i2 M) := by
  unfold f_X0_far_0
  refine KF.i ?_ ?_
  · refine KF.i ?_ ?_
    · exact (kc_X0_far_20 hg h_a0 h_a1 hM)
    · exact (kc_X0_far_20 hg h_a0 h_a1 hM)
  · exact (kc_X0_far_20 hg h_a0 h_a1 hM)
theorem kc_X0_far {M0 : zM} (hg : RG M0) {a0 : Nat} {a1 : Nat} {i2 : Int32} {M : zM} (h_a0 : own a0) (h_a1 : own a1) (hM : FC M0 M) : KF (FC M0) (f_X0_far a0 a1 i2 M) := by
  unfold f_X0_far
  exact (kc_X0_far_0 hg h_a0 h_a1 hM)
theorem kc_X2_gather_2 {M0 : zM} (hg : RG M0) : ∀ (n : Nat) {a0 : Nat} {a1 : Nat} {i2 : Int32} {M : zM}, own a0 → own a1 → FC M0 M → KF (FC M0) (f_X2_gather_2 n a0 a1 i2 M) := by
  intro n
  induction n with
  | zero => exact fun _ _ _ => KF.n
  | succ n ih =>
    intro a0 a1 i2 M h_a0 h_a1 hM
    rw [f_X2_gather_2]
    refine KF.i ?_ ?_
    · exact KF.s hM
    · refine KF.p (fc_gR hg hM h_a0) fun v1 h_v1 => ?_
      refine KF.i ?_ KF.n
      refine KF.c (kc_X1_count hg h_a1 hM) fun r2 h_r2 => ?_
      refine KF.i ?_ KF.n
      refine KF.c (kc_X1_inSets hg h_a1 h_r2) fun r4 h_r4 => ?_
      refine KF.w (fc_tA h_r4 h_v1) fun M6 h_M6 => ?_
      exact (ih h_a0 h_a1 h_M6)
theorem kc_X2_gather_0 {M0 : zM} (hg : RG M0) {a0 : Nat} {a1 : Nat} {M : zM} (h_a0 : own a0) (h_a1 : own a1) (hM : FC M0 M) : KF (FC M0) (f_X2_gather_0 a0 a1 M) := by
  unfold f_X2_gather_0
  exact (kc_X2_gather_2 hg zN h_a0 h_a1 hM)
theorem kc_X2_gather {M0 : zM} (hg : RG M0) {a0 : Nat} {a1 : Nat} {M : zM} (h_a0 : own a0) (h_a1 : own a1) (hM : FC M0 M) : KF (FC M0) (f_X2_gather a0 a1 M) := by
  unfold f_X2_gather
  exact (kc_X2_gather_0 hg h_a0 h_a1 hM)
theorem kc_X2_anyOf_2 {M0 : zM} (hg : RG M0) : ∀ (n : Nat) {a0 : Nat} {i2 : Int32} {i3 : Int32} {M : zM}, own a0 → FC M0 M → KF (FC M0) (f_X2_anyOf_2 n a0 i2 i3 M) := by
  intro n
  induction n with
  | zero => exact fun _ _ => KF.n
  | succ n ih =>
    intro a0 i2 i3 M h_a0 hM
    rw [f_X2_anyOf_2]
    refine KF.i ?_ ?_
    · exact KF.s hM
    · refine KF.i ?_ ?_
      · exact KF.s hM
      · refine KF.i ?_ ?_
        · exact KF.s hM
        · refine KF.p (fc_gR hg hM h_a0) fun v1 h_v1 => ?_
          refine KF.b fun v2 => ?_
          refine KF.i ?_ ?_
          · exact (ih h_a0 hM)
          · exact KF.s hM
theorem kc_X2_anyOf_0 {M0 : zM} (hg : RG M0) {a0 : Nat} {i1 : Int32} {i2 : Int32} {M : zM} (h_a0 : own a0) (hM : FC M0 M) : KF (FC M0) (f_X2_anyOf_0 a0 i1 i2 M) := by
  unfold f_X2_anyOf_0
  exact (kc_X2_anyOf_2 hg zN h_a0 hM)
theorem kc_X2_anyOf {M0 : zM} (hg : RG M0) {a0 : Nat} {i1 : Int32} {i2 : Int32} {M : zM} (h_a0 : own a0) (hM : FC M0 M) : KF (FC M0) (f_X2_anyOf a0 i1 i2 M) := by
  unfold f_X2_anyOf
  exact (kc_X2_anyOf_0 hg h_a0 hM)
theorem kc_X2_ofOneSuit_0 {M0 : zM} (hg : RG M0) {a0 : Nat} {M : zM} (h_a0 : own a0) (hM : FC M0 M) : KF (FC M0) (f_X2_ofOneSuit_0 a0 M) := by
  unfold f_X2_ofOneSuit_0
  refine KF.i ?_ KF.n
  refine KF.c (kc_X2_anyOf hg h_a0 hM) fun r1 h_r1 => ?_
  refine KF.i ?_ KF.n
  refine KF.c (kc_X2_anyOf hg h_a0 h_r1) fun r3 h_r3 => ?_
  refine KF.i ?_ ?_
  · exact KF.s h_r3
  · refine KF.i ?_ KF.n
    refine KF.c (kc_X2_anyOf hg h_a0 h_r3) fun r5 h_r5 => ?_
    refine KF.i ?_ ?_
    · exact KF.s h_r5
    · exact KF.s h_r5
theorem kc_X2_ofOneSuit {M0 : zM} (hg : RG M0) {a0 : Nat} {M : zM} (h_a0 : own a0) (hM : FC M0 M) : KF (FC M0) (f_X2_ofOneSuit a0 M) := by
  unfold f_X2_ofOneSuit
  exact (kc_X2_ofOneSuit_0 hg h_a0 hM)
theorem kc_X2_setOf_0 {M0 : zM} (hg : RG M0) {a0 : Nat} {i1 : Int32} {M : zM} (h_a0 : own a0) (hM : FC M0 M) : KF (FC M0) (f_X2_setOf_0 a0 i1 M) := by
  unfold f_X2_setOf_0
  refine KF.i ?_ ?_
  · exact KF.s hM
  · refine KF.i ?_ ?_
    · exact KF.s hM
    · refine KF.p (fc_gR hg hM h_a0) fun v1 h_v1 => ?_
      refine KF.b fun v2 => ?_
      refine KF.i ?_ ?_
      · exact KF.s hM
      · exact KF.s hM
theorem kc_X2_setOf {M0 : zM} (hg : RG M0) {a0 : Nat} {i1 : Int32} {M : zM} (h_a0 : own a0) (hM : FC M0 M) : KF (FC M0) (f_X2_setOf a0 i1 M) := by
  unfold f_X2_setOf
  exact (kc_X2_setOf_0 hg h_a0 hM)
theorem kc_X2_withoutEndsAndHonours_29 {M0 : zM} (hg : RG M0) {K2 : Nat → Int32 → zM → Option (Int32 × zM)} (hK2 : ∀ {x0 : Nat} {x1 : Int32} {M : zM}, own x0 → FC M0 M → KF (FC M0) (K2 x0 x1 M)) {a0 : Nat} {i1 : Int32} {i_0 : Int32} {M : zM} (h_a0 : own a0) (hM : FC M0 M) : KF (FC M0) (f_X2_withoutEndsAndHonours_29 K2 a0 i1 i_0 M) := by
  unfold f_X2_withoutEndsAndHonours_29
  refine KF.p (fc_gR hg hM h_a0) fun v1 h_v1 => ?_
  refine KF.b fun v2 => ?_
  refine KF.i ?_ ?_
  · exact (hK2 h_a0 hM)
  · refine KF.i ?_ ?_
    · exact KF.s hM
    · refine KF.i ?_ ?_
      · exact (hK2 h_a0 hM)
      · exact KF.s hM
theorem kc_X2_withoutEndsAndHonours_24 {M0 : zM} (hg : RG M0) {K2 : Nat → Int32 → zM → Option (Int32 × zM)} (hK2 : ∀ {x0 : Nat} {x1 : Int32} {M : zM}, own x0 → FC M0 M → KF (FC M0) (K2 x0 x1 M)) {a0 : Nat} {i1 : Int32} {M : zM} (h_a0 : own a0) (hM : FC M0 M) : KF (FC M0) (f_X2_withoutEndsAndHonours_24 K2 a0 i1 M) := by
  unfold f_X2_withoutEndsAndHonours_24
  exact (kc_X2_withoutEndsAndHonours_29 hg hK2 h_a0 hM)
theorem kc_X2_withoutEndsAndHonours_2 {M0 : zM} (hg : RG M0) : ∀ (n : Nat) {a0 : Nat} {i1 : Int32} {M : zM}, own a0 → FC M0 M → KF (FC M0) (f_X2_withoutEndsAndHonours_2 n a0 i1 M) := by
  intro n
  induction n with
  | zero => exact fun _ _ => KF.n
  | succ n ih =>
    intro a0 i1 M h_a0 hM
    rw [f_X2_withoutEndsAndHonours_2]
    refine KF.i ?_ ?_
    · exact KF.s hM
    · refine KF.i ?_ ?_
      · exact (kc_X2_withoutEndsAndHonours_24 hg ih h_a0 hM)
      · refine KF.i ?_ ?_
        · exact (kc_X2_withoutEndsAndHonours_24 hg ih h_a0 hM)
        · exact (kc_X2_withoutEndsAndHonours_29 hg ih h_a0 hM)
theorem kc_X2_withoutEndsAndHonours_0 {M0 : zM} (hg : RG M0) {a0 : Nat} {M : zM} (h_a0 : own a0) (hM : FC M0 M) : KF (FC M0) (f_X2_withoutEndsAndHonours_0 a0 M) := by
  unfold f_X2_withoutEndsAndHonours_0
  exact (kc_X2_withoutEndsAndHonours_2 hg zN h_a0 hM)
theorem kc_X2_withoutEndsAndHonours {M0 : zM} (hg : RG M0) {a0 : Nat} {M : zM} (h_a0 : own a0) (hM : FC M0 M) : KF (FC M0) (f_X2_withoutEndsAndHonours a0 M) := by
  unfold f_X2_withoutEndsAndHonours
  exact (kc_X2_withoutEndsAndHonours_0 hg h_a0 hM)
theorem kc_X2_withoutRows_4 {M0 : zM} (hg : RG M0) : ∀ (n : Nat) {a0 : Nat} {i1 : Int32} {i2 : Int32} {M : zM}, own a0 → FC M0 M → KF (FC M0) (f_X2_withoutRows_4 n a0 i1 i2 M) := by
  intro n
  induction n with
  | zero => exact fun _ _ => KF.n
  | succ n ih =>
    intro a0 i1 i2 M h_a0 hM
    rw [f_X2_withoutRows_4]
    refine KF.i ?_ ?_
    · refine KF.i ?_ ?_
      · refine KF.i ?_ KF.n
        refine KF.c (kc_X1_rowLies hg h_a0 hM) fun r1 h_r1 => ?_
        refine KF.i ?_ ?_
        · exact KF.s h_r1
        · exact KF.s h_r1
      · exact KF.s hM
    · refine KF.i ?_ KF.n
      refine KF.c (kc_X1_count hg h_a0 hM) fun r5 h_r5 => ?_
      refine KF.i ?_ ?_
      · exact KF.s h_r5
      · refine KF.i ?_ ?_
        · exact (ih h_a0 h_r5)
        · exact (ih h_a0 h_r5)
theorem kc_X2_withoutRows_0 {M0 : zM} (hg : RG M0) {a0 : Nat} {M : zM} (h_a0 : own a0) (hM : FC M0 M) : KF (FC M0) (f_X2_withoutRows_0 a0 M) := by
  unfold f_X2_withoutRows_0
  exact (kc_X2_withoutRows_4 hg zN h_a0 hM)
theorem kc_X2_withoutRows {M0 : zM} (hg : RG M0) {a0 : Nat} {M : zM} (h_a0 : own a0) (hM : FC M0 M) : KF (FC M0) (f_X2_withoutRows a0 M) := by
  unfold f_X2_withoutRows
  exact (kc_X2_withoutRows_0 hg h_a0 hM)
theorem kc_X2_value_144 {M0 : zM} (hg : RG M0) {a0 : Nat} {i_0 : Int32} {i_1 : Int32} {M : zM} (h_a0 : own a0) (hM : FC M0 M) : KF (FC M0) (f_X2_value_144 a0 i_0 i_1 M) := by
  unfold f_X2_value_144
  refine KF.i ?_ KF.n
  refine KF.c (kc_X2_ofOneSuit hg h_a0 hM) fun r1 h_r1 => ?_
  refine KF.c (kc_J9_min_7cf53 hg h_r1) fun r3 h_r3 => ?_
  exact KF.s h_r3
theorem kc_X2_value_127 {M0 : zM} (hg : RG M0) {a0 : Nat} {a1 : Nat} {i_0 : Int32} {i_1 : Int32} {M : zM} (h_a0 : own a0) (h_a1 : own a1) (hM : FC M0 M) : KF (FC M0) (f_X2_value_127 a0 a1 i_0 i_1 M) := by
  unfold f_X2_value_127
  refine KF.c (kc_X2_withoutRows hg h_a1 hM) fun r1 h_r1 => ?_
  refine KF.i ?_ ?_
  · exact (kc_X2_value_144 hg h_a0 h_r1)
  · exact (kc_X2_value_144 hg h_a0 h_r1)
theorem kc_X2_value_75 {M0 : zM} (hg : RG M0) : ∀ (n : Nat) {a0 : Nat} {a1 : Nat} {i4 : Int32} {i5 : Int32} {i6 : Int32} {M : zM}, own a0 → own a1 → FC M0 M → KF (FC M0) (f_X2_value_75 n a0 a1 i4 i5 i6 M) := by
  intro n
  induction n with
  | zero => exact fun _ _ _ => KF.n
  | succ n ih =>
    intro a0 a1 i4 i5 i6 M h_a0 h_a1 hM
    rw [f_X2_value_75]
    refine KF.i ?_ ?_
    · refine KF.i ?_ KF.n
      refine KF.c (kc_X2_setOf hg h_a0 hM) fun r1 h_r1 => ?_
      refine KF.i ?_ KF.n
      refine KF.c (kc_X2_withoutEndsAndHonours hg h_a0 h_r1) fun r3 h_r3 => ?_
      refine KF.i ?_ ?_
      · exact (kc_X2_value_127 hg h_a0 h_a1 h_r3)
      · exact (kc_X2_value_127 hg h_a0 h_a1 h_r3)
    · refine KF.i ?_ KF.n
      refine KF.c (kc_X2_setOf hg h_a0 hM) fun r6 h_r6 => ?_
      exact (ih h_a0 h_a1 h_r6)
theorem kc_X2_value_68 {M0 : zM} (hg : RG M0) {a0 : Nat} {a1 : Nat} {i4 : Int32} {i_0 : Int32} {i_1 : Int32} {M : zM} (h_a0 : own a0) (h_a1 : own a1) (hM : FC M0 M) : KF (FC M0) (f_X2_value_68 a0 a1 i4 i_0 i_1 M) := by
  unfold f_X2_value_68
  exact (kc_X2_value_75 hg zN h_a0 h_a1 hM)
theorem kc_X2_value_67 {M0 : zM} (hg : RG M0) {a0 : Nat} {a1 : Nat} {i4 : Int32} {i_0 : Int32} {M : zM} (h_a0 : own a0) (h_a1 : own a1) (hM : FC M0 M) : KF (FC M0) (f_X2_value_67 a0 a1 i4 i_0 M) := by
  unfold f_X2_value_67
  exact (kc_X2_value_68 hg h_a0 h_a1 hM)
theorem kc_X2_value_43 {M0 : zM} (hg : RG M0) {a0 : Nat} {a1 : Nat} {i3 : Int32} {i4 : Int32} {i_0 : Int32} {i_1 : Int32} {M : zM} (h_a0 : own a0) (h_a1 : own a1) (hM : FC M0 M) : KF (FC M0) (f_X2_value_43 a0 a1 i3 i4 i_0 i_1 M) := by
  unfold f_X2_value_43
  refine KF.i ?_ ?_
  · exact (kc_X2_value_67 hg h_a0 h_a1 hM)
  · refine KF.i ?_ ?_
    · exact (kc_X2_value_67 hg h_a0 h_a1 hM)
    · refine KF.p (fc_gR hg hM h_a0) fun v1 h_v1 => ?_
      refine KF.b fun v2 => ?_
      exact (kc_X2_value_68 hg h_a0 h_a1 hM)
theorem kc_X2_value_42 {M0 : zM} (hg : RG M0) {a0 : Nat} {a1 : Nat} {i3 : Int32} {i4 : Int32} {i_0 : Int32} {M : zM} (h_a0 : own a0) (h_a1 : own a1) (hM : FC M0 M) : KF (FC M0) (f_X2_value_42 a0 a1 i3 i4 i_0 M) := by
  unfold f_X2_value_42
  exact (kc_X2_value_43 hg h_a0 h_a1 hM)
theorem kc_X2_value_22 {M0 : zM} (hg : RG M0) {a0 : Nat} {a1 : Nat} {i2 : Int32} {i3 : Int32} {i4 : Int32} {i_0 : Int32} {i_1 : Int32} {M : zM} (h_a0 : own a0) (h_a1 : own a1) (hM : FC M0 M) : KF (FC M0) (f_X2_value_22 a0 a1 i2 i3 i4 i_0 i_1 M) := by
  unfold f_X2_value_22
  refine KF.i ?_ ?_
  · exact (kc_X2_value_42 hg h_a0 h_a1 hM)
  · refine KF.i ?_ KF.n
    refine KF.c (kc_X1_openSets hg h_a1 hM) fun r1 h_r1 => ?_
    refine KF.i ?_ ?_
    · exact (kc_X2_value_43 hg h_a0 h_a1 h_r1)
    · exact (kc_X2_value_42 hg h_a0 h_a1 h_r1)
theorem kc_X2_value_0 {M0 : zM} (hg : RG M0) {a0 : Nat} {a1 : Nat} {i2 : Int32} {i3 : Int32} {i4 : Int32} {M : zM} (h_a0 : own a0) (h_a1 : own a1) (hM : FC M0 M) : KF (FC M0) (f_X2_value_0 a0 a1 i2 i3 i4 M) := by
  unfold f_X2_value_0
  refine KF.i ?_ KF.n
  refine KF.c (kc_X2_gather hg h_a0 h_a1 hM) fun r1 h_r1 => ?_
  refine KF.b fun v3 => ?_
  refine KF.i ?_ ?_
  · exact (kc_X2_value_22 hg h_a0 h_a1 h_r1)
  · exact (kc_X2_value_22 hg h_a0 h_a1 h_r1)
theorem kc_X2_value {M0 : zM} (hg : RG M0) {a0 : Nat} {a1 : Nat} {i2 : Int32} {i3 : Int32} {i4 : Int32} {M : zM} (h_a0 : own a0) (h_a1 : own a1) (hM : FC M0 M) : KF (FC M0) (f_X2_value a0 a1 i2 i3 i4 M) := by
  unfold f_X2_value
  exact (kc_X2_value_0 hg h_a0 h_a1 hM)
theorem kc_X3_beginRound_0 {M0 : zM} (hg : RG M0) {a0 : Nat} {M : zM} (h_a0 : own a0) (hM : FC M0 M) : KF (FC M0) (f_X3_beginRound_0 a0 M) := by
  unfold f_X3_beginRound_0
  refine KF.b fun v1 => ?_
  refine KF.w (fc_pI hM h_a0) fun M2 h_M2 => ?_
  refine KF.b fun v3 => ?_
  refine KF.w (fc_pI h_M2 h_a0) fun M4 h_M4 => ?_
  refine KF.b fun v5 => ?_
  refine KF.w (fc_pI h_M4 h_a0) fun M6 h_M6 => ?_
  refine KF.w (fc_pI h_M6 h_a0) fun M7 h_M7 => ?_
  refine KF.w (fc_pI h_M7 h_a0) fun M8 h_M8 => ?_
  refine KF.w (fc_pI h_M8 h_a0) fun M9 h_M9 => ?_
  refine KF.w (fc_pI h_M9 h_a0) fun M10 h_M10 => ?_
  refine KF.w (fc_pZ h_M10 h_a0) fun M11 h_M11 => ?_
  exact KF.s h_M11
theorem kc_X3_beginRound {M0 : zM} (hg : RG M0) {a0 : Nat} {M : zM} (h_a0 : own a0) (hM : FC M0 M) : KF (FC M0) (f_X3_beginRound a0 M) := by
  unfold f_X3_beginRound
  exact (kc_X3_beginRound_0 hg h_a0 hM)
theorem kc_X3_kindAt_0 {M0 : zM} (hg : RG M0) {a0 : Nat} {i1 : Int32} {M : zM} (h_a0 : own a0) (hM : FC M0 M) : KF (FC M0) (f_X3_kindAt_0 a0 i1 M) := by
  unfold f_X3_kindAt_0
  refine KF.b fun v1 => ?_
  refine KF.b fun v2 => ?_
  exact KF.s hM
theorem kc_X3_kindAt {M0 : zM} (hg : RG M0) {a0 : Nat} {i1 : Int32} {M : zM} (h_a0 : own a0) (hM : FC M0 M) : KF (FC M0) (f_X3_kindAt a0 i1 M) := by
  unfold f_X3_kindAt
  exact (kc_X3_kindAt_0 hg h_a0 hM)
theorem kc_X3_dealTo_13 {M0 : zM} (hg : RG M0) : ∀ (n : Nat) {a0 : Nat} {i1 : Int32} {a2 : Nat} {i3 : Int32} {M : zM}, own a0 → own a2 → FC M0 M → KF (FC M0) (f_X3_dealTo_13 n a0 i1 a2 i3 M) := by
  intro n
  induction n with
  | zero => exact fun _ _ _ => KF.n
  | succ n ih =>
    intro a0 i1 a2 i3 M h_a0 h_a2 hM
    rw [f_X3_dealTo_13]
    refine KF.i ?_ ?_
    · exact KF.s hM
    · refine KF.i ?_ KF.n
      refine KF.c (kc_X3_kindAt hg h_a0 hM) fun r1 h_r1 => ?_
      refine KF.i ?_ KF.n
      refine KF.c (kc_X1_change hg h_a2 h_r1) fun r3 h_r3 => ?_
      exact (ih h_a0 h_a2 h_r3)
theorem kc_X3_dealTo_0 {M0 : zM} (hg : RG M0) {a0 : Nat} {i1 : Int32} {M : zM} (h_a0 : own a0) (hM : FC M0 M) : KF (FC M0) (f_X3_dealTo_0 a0 i1 M) := by
  unfold f_X3_dealTo_0
  refine KF.p (fc_gR hg hM h_a0) fun v1 h_v1 => ?_
  refine KF.p (fc_lQ hg hM h_v1) fun v2 h_v2 => ?_
  refine KF.i ?_ KF.n
  refine KF.c (kc_X1_clear hg h_v2 hM) fun r3 h_r3 => ?_
  exact (kc_X3_dealTo_13 hg zN h_a0 h_v2 h_r3)
theorem kc_X3_dealTo {M0 : zM} (hg : RG M0) {a0 : Nat} {i1 : Int32} {M : zM} (h_a0 : own a0) (hM : FC M0 M) : KF (FC M0) (f_X3_dealTo a0 i1 M) := by
  unfold f_X3_dealTo
  exact (kc_X3_dealTo_0 hg h_a0 hM)
theorem kc_X3_follower_0 {M0 : zM} (hg : RG M0) {i0 : Int32} {M : zM} (hM : FC M0 M) : KF (FC M0) (f_X3_follower_0 i0 M) := by
  unfold f_X3_follower_0
  refine KF.i ?_ ?_
  · refine KF.i ?_ ?_
    · refine KF.i ?_ ?_
      · exact KF.s hM
      · exact KF.s hM
    · refine KF.i ?_ ?_
      · exact KF.s hM
      · exact KF.s hM
  · refine KF.i ?_ ?_
    · exact KF.s hM
    · exact KF.s hM
theorem kc_X3_follower {M0 : zM} (hg : RG M0) {i0 : Int32} {M : zM} (hM : FC M0 M) : KF (FC M0) (f_X3_follower i0 M) := by
  unfold f_X3_follower
  exact (kc_X3_follower_0 hg hM)
theorem kc_X3_requirePhase_0 {M0 : zM} (hg : RG M0) {a0 : Nat} {i1 : Int32} {M : zM} (h_a0 : own a0) (hM : FC M0 M) : KF (FC M0) (f_X3_requirePhase_0 a0 i1 M) := by
  unfold f_X3_requirePhase_0
  refine KF.b fun v1 => ?_
  refine KF.i ?_ ?_
  · exact KF.s hM
  · exact KF.s (fc_nE hM)
theorem kc_X3_requirePhase {M0 : zM} (hg : RG M0) {a0 : Nat} {i1 : Int32} {M : zM} (h_a0 : own a0) (hM : FC M0 M) : KF (FC M0) (f_X3_requirePhase a0 i1 M) := by
  unfold f_X3_requirePhase
  exact (kc_X3_requirePhase_0 hg h_a0 hM)
theorem kc_X3_lay_33 {M0 : zM} (hg : RG M0) {M : zM} (hM : FC M0 M) : KF (FC M0) (f_X3_lay_33 M) := by
  unfold f_X3_lay_33
  exact KF.s (fc_nE hM)
theorem kc_X3_lay_64 {M0 : zM} (hg : RG M0) : ∀ (n : Nat) {a0 : Nat} {i3 : Int32} {M : zM}, own a0 → FC M0 M → KF (FC M0) (f_X3_lay_64 n a0 i3 M) := by
  intro n
  induction n with
  | zero => exact fun _ _ => KF.n
  | succ n ih =>
    intro a0 i3 M h_a0 hM
    rw [f_X3_lay_64]
    refine KF.i ?_ ?_
    · refine KF.i ?_ KF.n
      refine KF.c (kc_X3_kindAt hg h_a0 hM) fun r1 h_r1 => ?_
      refine KF.c (kc_X3_follower hg h_r1) fun r3 h_r3 => ?_
      refine KF.w (fc_pI h_r3 h_a0) fun M4 h_M4 => ?_
      refine KF.b fun v5 => ?_
      exact KF.s h_M4
    · refine KF.i ?_ KF.n
      refine KF.c (kc_X3_dealTo hg h_a0 hM) fun r6 h_r6 => ?_
      exact (ih h_a0 h_r6)
theorem kc_X3_lay_0 {M0 : zM} (hg : RG M0) {a0 : Nat} {i1 : Int32} {i2 : Int32} {M : zM} (h_a0 : own a0) (hM : FC M0 M) : KF (FC M0) (f_X3_lay_0 a0 i1 i2 M) := by
  unfold f_X3_lay_0
  refine KF.i ?_ ?_
  · exact (kc_X3_lay_33 hg hM)
  · refine KF.i ?_ ?_
    · exact (kc_X3_lay_33 hg hM)
    · refine KF.i ?_ ?_
      · exact (kc_X3_lay_33 hg hM)
      · refine KF.i ?_ ?_
        · exact (kc_X3_lay_33 hg hM)
        · refine KF.i ?_ ?_
          · exact (kc_X3_lay_33 hg hM)
          · refine KF.i ?_ ?_
            · refine KF.i ?_ KF.n
              refine KF.xb (kc_X3_requirePhase hg h_a0 hM) fun w1 Mw1 h_Mw1 => ?_
              refine KF.w (fc_pI h_Mw1 h_a0) fun M7 h_M7 => ?_
              refine KF.w (fc_pI h_M7 h_a0) fun M8 h_M8 => ?_
              refine KF.i ?_ KF.n
              refine KF.c (kc_X3_beginRound hg h_a0 h_M8) fun r9 h_r9 => ?_
              exact (kc_X3_lay_64 hg zN h_a0 h_r9)
            · exact (kc_X3_lay_33 hg hM)
theorem kc_X3_lay {M0 : zM} (hg : RG M0) {a0 : Nat} {i1 : Int32} {i2 : Int32} {M : zM} (h_a0 : own a0) (hM : FC M0 M) : KF (FC M0) (f_X3_lay a0 i1 i2 M) := by
  unfold f_X3_lay
  exact (kc_X3_lay_0 hg h_a0 hM)
theorem kc_X3_tilesLeft_0 {M0 : zM} (hg : RG M0) {a0 : Nat} {M : zM} (h_a0 : own a0) (hM : FC M0 M) : KF (FC M0) (f_X3_tilesLeft_0 a0 M) := by
  unfold f_X3_tilesLeft_0
  refine KF.b fun v1 => ?_
  refine KF.i ?_ ?_
  · exact KF.s hM
  · refine KF.b fun v2 => ?_
    refine KF.b fun v3 => ?_
    exact KF.s hM
theorem kc_X3_tilesLeft {M0 : zM} (hg : RG M0) {a0 : Nat} {M : zM} (h_a0 : own a0) (hM : FC M0 M) : KF (FC M0) (f_X3_tilesLeft a0 M) := by
  unfold f_X3_tilesLeft
  exact (kc_X3_tilesLeft_0 hg h_a0 hM)
theorem kc_X3_canDraw_0 {M0 : zM} (hg : RG M0) {a0 : Nat} {M : zM} (h_a0 : own a0) (hM : FC M0 M) : KF (FC M0) (f_X3_canDraw_0 a0 M) := by
  unfold f_X3_canDraw_0
  refine KF.i ?_ KF.n
  refine KF.c (kc_X3_tilesLeft hg h_a0 hM) fun r1 h_r1 => ?_
  refine KF.i ?_ ?_
  · exact KF.s h_r1
  · exact KF.s h_r1
theorem kc_X3_canDraw {M0 : zM} (hg : RG M0) {a0 : Nat} {M : zM} (h_a0 : own a0) (hM : FC M0 M) : KF (FC M0) (f_X3_canDraw a0 M) := by
  unfold f_X3_canDraw
  exact (kc_X3_canDraw_0 hg h_a0 hM)
theorem kc_X3_waitsOf_51 {M0 : zM} (hg : RG M0) {K16 : Nat → Nat → Int64 → Int32 → zM → Option (Int64 × zM)} (hK16 : ∀ {x0 : Nat} {x1 : Nat} {x2 : Int64} {x3 : Int32} {M : zM}, own x0 → own x1 → FC M0 M → KF (FC M0) (K16 x0 x1 x2 x3 M)) {a0 : Nat} {a1 : Nat} {j2 : Int64} {i4 : Int32} {M : zM} (h_a0 : own a0) (h_a1 : own a1) (hM : FC M0 M) : KF (FC M0) (f_X3_waitsOf_51 K16 a0 a1 j2 i4 M) := by
  unfold f_X3_waitsOf_51
  refine KF.i ?_ KF.n
  refine KF.c (kc_X1_change hg h_a1 hM) fun r1 h_r1 => ?_
  exact (hK16 h_a0 h_a1 h_r1)
theorem kc_X3_waitsOf_16 {M0 : zM} (hg : RG M0) : ∀ (n : Nat) {a0 : Nat} {a1 : Nat} {j2 : Int64} {i4 : Int32} {M : zM}, own a0 → own a1 → FC M0 M → KF (FC M0) (f_X3_waitsOf_16 n a0 a1 j2 i4 M) := by
  intro n
  induction n with
  | zero => exact fun _ _ _ => KF.n
  | succ n ih =>
    intro a0 a1 j2 i4 M h_a0 h_a1 hM
    rw [f_X3_waitsOf_16]
    refine KF.i ?_ ?_
    · exact KF.s hM
    · refine KF.i ?_ KF.n
      refine KF.c (kc_X1_change hg h_a1 hM) fun r1 h_r1 => ?_
      refine KF.p (fc_gR hg h_r1 h_a0) fun v3 h_v3 => ?_
      refine KF.p (fc_gR hg h_r1 h_a1) fun v4 h_v4 => ?_
      refine KF.i ?_ KF.n
      refine KF.c (kc_X0_complete hg h_v3 h_v4 h_r1) fun r5 h_r5 => ?_
      refine KF.i ?_ ?_
      · exact (kc_X3_waitsOf_51 hg ih h_a0 h_a1 h_r5)
      · exact (kc_X3_waitsOf_51 hg ih h_a0 h_a1 h_r5)
theorem kc_X3_waitsOf_0 {M0 : zM} (hg : RG M0) {a0 : Nat} {a1 : Nat} {M : zM} (h_a0 : own a0) (h_a1 : own a1) (hM : FC M0 M) : KF (FC M0) (f_X3_waitsOf_0 a0 a1 M) := by
  unfold f_X3_waitsOf_0
  refine KF.i ?_ KF.n
  refine KF.c (kc_X1_size hg h_a1 hM) fun r1 h_r1 => ?_
  refine KF.i ?_ ?_
  · exact (kc_X3_waitsOf_16 hg zN h_a0 h_a1 h_r1)
  · exact KF.s h_r1
theorem kc_X3_waitsOf {M0 : zM} (hg : RG M0) {a0 : Nat} {a1 : Nat} {M : zM} (h_a0 : own a0) (h_a1 : own a1) (hM : FC M0 M) : KF (FC M0) (f_X3_waitsOf a0 a1 M) := by
  unfold f_X3_waitsOf
  exact (kc_X3_waitsOf_0 hg h_a0 h_a1 hM)
theorem kc_X3_endWithoutWinner_90 {M0 : zM} (hg : RG M0) {K40 : Nat → Int32 → Int32 → zM → Option (Unit × zM)} (hK40 : ∀ {x0 : Nat} {x1 : Int32} {x2 : Int32} {M : zM}, own x0 → FC M0 M → KF (FC M0) (K40 x0 x1 x2 M)) {a0 : Nat} {i1 : Int32} {i2 : Int32} {i_0 : Int32} {i_1 : Int32} {i_2 : Int32} {a_3 : Nat} {M : zM} (h_a0 : own a0) (h_a_3 : own a_3) (hM : FC M0 M) : KF (FC M0) (f_X3_endWithoutWinner_90 K40 a0 i1 i2 i_0 i_1 i_2 a_3 M) := by
  unfold f_X3_endWithoutWinner_90
  refine KF.w (fc_pI hM h_a_3) fun M1 h_M1 => ?_
  exact (hK40 h_a0 h_M1)
theorem kc_X3_endWithoutWinner_65 {M0 : zM} (hg : RG M0) {K40 : Nat → Int32 → Int32 → zM → Option (Unit × zM)} (hK40 : ∀ {x0 : Nat} {x1 : Int32} {x2 : Int32} {M : zM}, own x0 → FC M0 M → KF (FC M0) (K40 x0 x1 x2 M)) {a0 : Nat} {i1 : Int32} {i2 : Int32} {i_0 : Int32} {M : zM} (h_a0 : own a0) (hM : FC M0 M) : KF (FC M0) (f_X3_endWithoutWinner_65 K40 a0 i1 i2 i_0 M) := by
  unfold f_X3_endWithoutWinner_65
  refine KF.p (fc_gR hg hM h_a0) fun v1 h_v1 => ?_
  refine KF.p (fc_lQ hg hM h_v1) fun v2 h_v2 => ?_
  refine KF.b fun v3 => ?_
  refine KF.i ?_ ?_
  · exact (kc_X3_endWithoutWinner_90 hg hK40 h_a0 h_v2 hM)
  · exact (kc_X3_endWithoutWinner_90 hg hK40 h_a0 h_v2 hM)
theorem kc_X3_endWithoutWinner_40 {M0 : zM} (hg : RG M0) : ∀ (n : Nat) {a0 : Nat} {i1 : Int32} {i2 : Int32} {M : zM}, own a0 → FC M0 M → KF (FC M0) (f_X3_endWithoutWinner_40 n a0 i1 i2 M) := by
  intro n
  induction n with
  | zero => exact fun _ _ => KF.n
  | succ n ih =>
    intro a0 i1 i2 M h_a0 hM
    rw [f_X3_endWithoutWinner_40]
    refine KF.i ?_ ?_
    · refine KF.w (fc_pI hM h_a0) fun M1 h_M1 => ?_
      refine KF.w (fc_pI h_M1 h_a0) fun M2 h_M2 => ?_
      exact KF.s h_M2
    · refine KF.p (fc_gR hg hM h_a0) fun v3 h_v3 => ?_
      refine KF.p (fc_lQ hg hM h_v3) fun v4 h_v4 => ?_
      refine KF.i ?_ KF.n
      refine KF.c (kc_X3_waitsOf hg h_a0 h_v4 hM) fun r5 h_r5 => ?_
      refine KF.i ?_ ?_
      · exact (kc_X3_endWithoutWinner_65 hg ih h_a0 h_r5)
      · exact (kc_X3_endWithoutWinner_65 hg ih h_a0 h_r5)
theorem kc_X3_endWithoutWinner_4 {M0 : zM} (hg : RG M0) : ∀ (n : Nat) {a0 : Nat} {i1 : Int32} {i2 : Int32} {M : zM}, own a0 → FC M0 M → KF (FC M0) (f_X3_endWithoutWinner_4 n a0 i1 i2 M) := by
  intro n
  induction n with
  | zero => exact fun _ _ => KF.n
  | succ n ih =>
    intro a0 i1 i2 M h_a0 hM
    rw [f_X3_endWithoutWinner_4]
    refine KF.i ?_ ?_
    · exact (kc_X3_endWithoutWinner_40 hg zN h_a0 hM)
    · refine KF.p (fc_gR hg hM h_a0) fun v1 h_v1 => ?_
      refine KF.p (fc_lQ hg hM h_v1) fun v2 h_v2 => ?_
      refine KF.i ?_ KF.n
      refine KF.c (kc_X3_waitsOf hg h_a0 h_v2 hM) fun r3 h_r3 => ?_
      refine KF.i ?_ ?_
      · exact (ih h_a0 h_r3)
      · exact (ih h_a0 h_r3)
theorem kc_X3_endWithoutWinner_0 {M0 : zM} (hg : RG M0) {a0 : Nat} {M : zM} (h_a0 : own a0) (hM : FC M0 M) : KF (FC M0) (f_X3_endWithoutWinner_0 a0 M) := by
  unfold f_X3_endWithoutWinner_0
  exact (kc_X3_endWithoutWinner_4 hg zN h_a0 hM)
theorem kc_X3_endWithoutWinner {M0 : zM} (hg : RG M0) {a0 : Nat} {M : zM} (h_a0 : own a0) (hM : FC M0 M) : KF (FC M0) (f_X3_endWithoutWinner a0 M) := by
  unfold f_X3_endWithoutWinner
  exact (kc_X3_endWithoutWinner_0 hg h_a0 hM)
theorem kc_seatInTurn {M0 : zM} (hg : RG M0) {a0 : Nat} {M : zM} (h : own a0) (hM : FC M0 M) (r : Nat × zM) (e : f_X3_seatInTurn a0 M = some r) : own r.1 ∧ FC M0 r.2 := by
  have k27 : ∀ r, f_X3_seatInTurn_27 a0 M = some r → own r.1 ∧ FC M0 r.2 := fun r e => by
    unfold f_X3_seatInTurn_27 at e
    obtain ⟨v1, e1, e⟩ := ob e
    obtain ⟨v2, e2, e⟩ := ob e
    cases e
    exact ⟨fc_lQ hg hM (fc_gR hg hM h _ e1) _ e2, hM⟩
  unfold f_X3_seatInTurn f_X3_seatInTurn_0 at e
  obtain ⟨v1, -, e⟩ := ob e
  by_cases q : v1 < 0
  · rw [if_pos q] at e
    exact k27 r e
  · rw [if_neg q] at e
    obtain ⟨v2, -, e⟩ := ob e
    by_cases q2 : (4 : Int32) ≤ v2
    · rw [if_pos q2] at e
      exact k27 r e
    · rw [if_neg q2] at e
      obtain ⟨v3, e3, e⟩ := ob e
      obtain ⟨v4, -, e⟩ := ob e
      obtain ⟨v5, e5, e⟩ := ob e
      cases e
      exact ⟨fc_lQ hg hM (fc_gR hg hM h _ e3) _ e5, hM⟩
theorem kc_X3_receive_0 {M0 : zM} (hg : RG M0) {a0 : Nat} {i1 : Int32} {M : zM} (h_a0 : own a0) (hM : FC M0 M) : KF (FC M0) (f_X3_receive_0 a0 i1 M) := by
  unfold f_X3_receive_0
  refine KF.i ?_ KF.n
  refine KF.cp (kc_seatInTurn hg h_a0 hM) fun r1 h_r1 g_r1 => ?_
  refine KF.i ?_ KF.n
  refine KF.c (kc_X1_change hg h_r1 g_r1) fun r3 h_r3 => ?_
  refine KF.w (fc_pI h_r3 h_a0) fun M5 h_M5 => ?_
  refine KF.w (fc_pZ h_M5 h_a0) fun M6 h_M6 => ?_
  exact KF.s h_M6
theorem kc_X3_receive {M0 : zM} (hg : RG M0) {a0 : Nat} {i1 : Int32} {M : zM} (h_a0 : own a0) (hM : FC M0 M) : KF (FC M0) (f_X3_receive a0 i1 M) := by
  unfold f_X3_receive
  exact (kc_X3_receive_0 hg h_a0 hM)
theorem kc_X3_draw_0 {M0 : zM} (hg : RG M0) {a0 : Nat} {M : zM} (h_a0 : own a0) (hM : FC M0 M) : KF (FC M0) (f_X3_draw_0 a0 M) := by
  unfold f_X3_draw_0
  refine KF.i ?_ KF.n
  refine KF.xb (kc_X3_requirePhase hg h_a0 hM) fun w1 Mw1 h_Mw1 => ?_
  refine KF.i ?_ KF.n
  refine KF.c (kc_X3_canDraw hg h_a0 h_Mw1) fun r16 h_r16 => ?_
  refine KF.i ?_ ?_
  · refine KF.i ?_ KF.n
    refine KF.c (kc_X3_endWithoutWinner hg h_a0 h_r16) fun r26 h_r26 => ?_
    exact KF.s h_r26
  · refine KF.b fun v18 => ?_
    refine KF.i ?_ KF.n
    refine KF.c (kc_X3_kindAt hg h_a0 h_r16) fun r19 h_r19 => ?_
    refine KF.b fun v21 => ?_
    refine KF.w (fc_pI h_r19 h_a0) fun M22 h_M22 => ?_
    refine KF.w (fc_pI h_M22 h_a0) fun M23 h_M23 => ?_
    refine KF.i ?_ KF.n
    refine KF.c (kc_X3_receive hg h_a0 h_M23) fun r24 h_r24 => ?_
    exact KF.s h_r24
theorem kc_X3_draw {M0 : zM} (hg : RG M0) {a0 : Nat} {M : zM} (h_a0 : own a0) (hM : FC M0 M) : KF (FC M0) (f_X3_draw a0 M) := by
  unfold f_X3_draw
  exact (kc_X3_draw_0 hg h_a0 hM)
theorem kc_X3_layIntoRiver_0 {M0 : zM} (hg : RG M0) {a0 : Nat} {a1 : Nat} {i2 : Int32} {M : zM} (h_a0 : own a0) (h_a1 : own a1) (hM : FC M0 M) : KF (FC M0) (f_X3_layIntoRiver_0 a0 a1 i2 M) := by
  unfold f_X3_layIntoRiver_0
  refine KF.i ?_ KF.n
  refine KF.c (kc_X1_toRiver hg h_a1 hM) fun r1 h_r1 => ?_
  refine KF.w (fc_pI h_r1 h_a0) fun M3 h_M3 => ?_
  exact KF.s h_M3
theorem kc_X3_layIntoRiver {M0 : zM} (hg : RG M0) {a0 : Nat} {a1 : Nat} {i2 : Int32} {M : zM} (h_a0 : own a0) (h_a1 : own a1) (hM : FC M0 M) : KF (FC M0) (f_X3_layIntoRiver a0 a1 i2 M) := by
  unfold f_X3_layIntoRiver
  exact (kc_X3_layIntoRiver_0 hg h_a0 h_a1 hM)
theorem kc_X3_requireKind_10 {M0 : zM} (hg : RG M0) {M : zM} (hM : FC M0 M) : KF (FC M0) (f_X3_requireKind_10 M) := by
  unfold f_X3_requireKind_10
  exact KF.s (fc_nE hM)
theorem kc_X3_requireKind_0 {M0 : zM} (hg : RG M0) {i0 : Int32} {M : zM} (hM : FC M0 M) : KF (FC M0) (f_X3_requireKind_0 i0 M) := by
  unfold f_X3_requireKind_0
  refine KF.i ?_ ?_
  · exact (kc_X3_requireKind_10 hg hM)
  · refine KF.i ?_ ?_
    · exact KF.s hM
    · exact (kc_X3_requireKind_10 hg hM)
theorem kc_X3_requireKind {M0 : zM} (hg : RG M0) {i0 : Int32} {M : zM} (hM : FC M0 M) : KF (FC M0) (f_X3_requireKind i0 M) := by
  unfold f_X3_requireKind
  exact (kc_X3_requireKind_0 hg hM)
theorem kc_X3_discard_37 {M0 : zM} (hg : RG M0) {M : zM} (hM : FC M0 M) : KF (FC M0) (f_X3_discard_37 M) := by
  unfold f_X3_discard_37
  exact KF.s (fc_nE hM)
theorem kc_X3_discard_47 {M0 : zM} (hg : RG M0) {a0 : Nat} {i1 : Int32} {a2 : Nat} {M : zM} (h_a0 : own a0) (h_a2 : own a2) (hM : FC M0 M) : KF (FC M0) (f_X3_discard_47 a0 i1 a2 M) := by
  unfold f_X3_discard_47
  refine KF.i ?_ KF.n
  refine KF.c (kc_X3_layIntoRiver hg h_a0 h_a2 hM) fun r1 h_r1 => ?_
  refine KF.b fun v3 => ?_
  exact KF.s h_r1
theorem kc_X3_discard_0 {M0 : zM} (hg : RG M0) {a0 : Nat} {i1 : Int32} {M : zM} (h_a0 : own a0) (hM : FC M0 M) : KF (FC M0) (f_X3_discard_0 a0 i1 M) := by
  unfold f_X3_discard_0
  refine KF.xb (kc_X3_requireKind hg hM) fun w1 Mw1 h_Mw1 => ?_
  refine KF.i ?_ KF.n
  refine KF.xb (kc_X3_requirePhase hg h_a0 h_Mw1) fun w22 Mw22 h_Mw22 => ?_
  refine KF.i ?_ KF.n
  refine KF.cp (kc_seatInTurn hg h_a0 h_Mw22) fun r33 h_r33 g_r33 => ?_
  refine KF.i ?_ KF.n
  refine KF.c (kc_X1_count hg h_r33 g_r33) fun r35 h_r35 => ?_
  refine KF.i ?_ ?_
  · exact (kc_X3_discard_37 hg h_r35)
  · refine KF.b fun v37 => ?_
    refine KF.i ?_ ?_
    · exact (kc_X3_discard_47 hg h_a0 h_r33 h_r35)
    · refine KF.b fun v38 => ?_
      refine KF.i ?_ ?_
      · exact (kc_X3_discard_47 hg h_a0 h_r33 h_r35)
      · exact (kc_X3_discard_37 hg h_r35)
theorem kc_X3_discard {M0 : zM} (hg : RG M0) {a0 : Nat} {i1 : Int32} {M : zM} (h_a0 : own a0) (hM : FC M0 M) : KF (FC M0) (f_X3_discard a0 i1 M) := by
  unfold f_X3_discard
  exact (kc_X3_discard_0 hg h_a0 hM)
theorem kc_X3_readyWithout_21 {M0 : zM} (hg : RG M0) {a1 : Nat} {i2 : Int32} {i_0 : Int32} {M : zM} (h_a1 : own a1) (hM : FC M0 M) : KF (FC M0) (f_X3_readyWithout_21 a1 i2 i_0 M) := by
  unfold f_X3_readyWithout_21
  refine KF.i ?_ KF.n
  refine KF.c (kc_X1_change hg h_a1 hM) fun r1 h_r1 => ?_
  refine KF.i ?_ KF.n
  exact KF.s h_r1
theorem kc_X3_readyWithout_0 {M0 : zM} (hg : RG M0) {a0 : Nat} {a1 : Nat} {i2 : Int32} {M : zM} (h_a0 : own a0) (h_a1 : own a1) (hM : FC M0 M) : KF (FC M0) (f_X3_readyWithout_0 a0 a1 i2 M) := by
  unfold f_X3_readyWithout_0
  refine KF.i ?_ KF.n
  refine KF.c (kc_X1_change hg h_a1 hM) fun r1 h_r1 => ?_
  refine KF.i ?_ KF.n
  refine KF.c (kc_X3_waitsOf hg h_a0 h_a1 h_r1) fun r3 h_r3 => ?_
  refine KF.i ?_ ?_
  · exact (kc_X3_readyWithout_21 hg h_a1 h_r3)
  · exact (kc_X3_readyWithout_21 hg h_a1 h_r3)
theorem kc_X3_readyWithout {M0 : zM} (hg : RG M0) {a0 : Nat} {a1 : Nat} {i2 : Int32} {M : zM} (h_a0 : own a0) (h_a1 : own a1) (hM : FC M0 M) : KF (FC M0) (f_X3_readyWithout a0 a1 i2 M) := by
  unfold f_X3_readyWithout
  exact (kc_X3_readyWithout_0 hg h_a0 h_a1 hM)
theorem kc_X3_call_45 {M0 : zM} (hg : RG M0) {M : zM} (hM : FC M0 M) : KF (FC M0) (f_X3_call_45 M) := by
  unfold f_X3_call_45
  exact KF.s (fc_nE hM)
theorem kc_X3_call_0 {M0 : zM} (hg : RG M0) {a0 : Nat} {i1 : Int32} {M : zM} (h_a0 : own a0) (hM : FC M0 M) : KF (FC M0) (f_X3_call_0 a0 i1 M) := by
  unfold f_X3_call_0
  refine KF.xb (kc_X3_requireKind hg hM) fun w1 Mw1 h_Mw1 => ?_
  refine KF.i ?_ KF.n
  refine KF.xb (kc_X3_requirePhase hg h_a0 h_Mw1) fun w46 Mw46 h_Mw46 => ?_
  refine KF.i ?_ KF.n
  refine KF.cp (kc_seatInTurn hg h_a0 h_Mw46) fun r69 h_r69 g_r69 => ?_
  refine KF.b fun v71 => ?_
  refine KF.i ?_ ?_
  · refine KF.i ?_ KF.n
    refine KF.c (kc_X1_openSets hg h_r69 g_r69) fun r72 h_r72 => ?_
    refine KF.i ?_ ?_
    · exact (kc_X3_call_45 hg h_r72)
    · refine KF.i ?_ KF.n
      refine KF.c (kc_X1_count hg h_r69 h_r72) fun r74 h_r74 => ?_
      refine KF.i ?_ ?_
      · exact (kc_X3_call_45 hg h_r74)
      · refine KF.i ?_ KF.n
        refine KF.c (kc_X3_readyWithout hg h_a0 h_r69 h_r74) fun r76 h_r76 => ?_
        refine KF.i ?_ ?_
        · exact (kc_X3_call_45 hg h_r76)
        · refine KF.b fun v78 => ?_
          refine KF.w (fc_pI h_r76 h_r69) fun M79 h_M79 => ?_
          refine KF.b fun v80 => ?_
          refine KF.w (fc_pI h_M79 h_a0) fun M81 h_M81 => ?_
          refine KF.w (fc_pZ h_M81 h_r69) fun M82 h_M82 => ?_
          refine KF.i ?_ KF.n
          refine KF.c (kc_X3_layIntoRiver hg h_a0 h_r69 h_M82) fun r83 h_r83 => ?_
          refine KF.b fun v85 => ?_
          exact KF.s h_r83
  · exact (kc_X3_call_45 hg g_r69)
theorem kc_X3_call {M0 : zM} (hg : RG M0) {a0 : Nat} {i1 : Int32} {M : zM} (h_a0 : own a0) (hM : FC M0 M) : KF (FC M0) (f_X3_call a0 i1 M) := by
  unfold f_X3_call
  exact (kc_X3_call_0 hg h_a0 hM)
theorem kc_X3_drawForFour_0 {M0 : zM} (hg : RG M0) {a0 : Nat} {M : zM} (h_a0 : own a0) (hM : FC M0 M) : KF (FC M0) (f_X3_drawForFour_0 a0 M) := by
  unfold f_X3_drawForFour_0
  refine KF.b fun v1 => ?_
  refine KF.i ?_ KF.n
  refine KF.c (kc_X3_kindAt hg h_a0 hM) fun r2 h_r2 => ?_
  refine KF.b fun v4 => ?_
  refine KF.w (fc_pI h_r2 h_a0) fun M5 h_M5 => ?_
  refine KF.i ?_ KF.n
  refine KF.c (kc_X3_receive hg h_a0 h_M5) fun r6 h_r6 => ?_
  exact KF.s h_r6
theorem kc_X3_drawForFour {M0 : zM} (hg : RG M0) {a0 : Nat} {M : zM} (h_a0 : own a0) (hM : FC M0 M) : KF (FC M0) (f_X3_drawForFour a0 M) := by
  unfold f_X3_drawForFour
  exact (kc_X3_drawForFour_0 hg h_a0 hM)
theorem kc_X3_completesRow_23 {M0 : zM} (hg : RG M0) : ∀ (n : Nat) {a0 : Nat} {i1 : Int32} {i2 : Int32} {i3 : Int32} {M : zM}, own a0 → FC M0 M → KF (FC M0) (f_X3_completesRow_23 n a0 i1 i2 i3 M) := by
  intro n
  induction n with
  | zero => exact fun _ _ => KF.n
  | succ n ih =>
    intro a0 i1 i2 i3 M h_a0 hM
    rw [f_X3_completesRow_23]
    refine KF.i ?_ ?_
    · exact KF.s hM
    · refine KF.i ?_ ?_
      · exact (ih h_a0 hM)
      · refine KF.i ?_ KF.n
        refine KF.c (kc_X1_count hg h_a0 hM) fun r1 h_r1 => ?_
        refine KF.i ?_ ?_
        · exact KF.s h_r1
        · exact (ih h_a0 h_r1)
theorem kc_X3_completesRow_0 {M0 : zM} (hg : RG M0) {a0 : Nat} {i1 : Int32} {i2 : Int32} {M : zM} (h_a0 : own a0) (hM : FC M0 M) : KF (FC M0) (f_X3_completesRow_0 a0 i1 i2 M) := by
  unfold f_X3_completesRow_0
  refine KF.c (kc_X3_startsRow hg hM) fun r1 h_r1 => ?_
  refine KF.i ?_ ?_
  · exact KF.s h_r1
  · refine KF.i ?_ ?_
    · exact KF.s h_r1
    · refine KF.i ?_ ?_
      · exact (kc_X3_completesRow_23 hg zN h_a0 h_r1)
      · exact KF.s h_r1
theorem kc_X3_completesRow {M0 : zM} (hg : RG M0) {a0 : Nat} {i1 : Int32} {i2 : Int32} {M : zM} (h_a0 : own a0) (hM : FC M0 M) : KF (FC M0) (f_X3_completesRow a0 i1 i2 M) := by
  unfold f_X3_completesRow
  exact (kc_X3_completesRow_0 hg h_a0 hM)
theorem kc_X3_fourAllowed_0 {M0 : zM} (hg : RG M0) {a0 : Nat} {M : zM} (h_a0 : own a0) (hM : FC M0 M) : KF (FC M0) (f_X3_fourAllowed_0 a0 M) := by
  unfold f_X3_fourAllowed_0
  refine KF.b fun v1 => ?_
  refine KF.i ?_ ?_
  · exact KF.s hM
  · refine KF.i ?_ KF.n
    refine KF.c (kc_X3_canDraw hg h_a0 hM) fun r2 h_r2 => ?_
    refine KF.i ?_ ?_
    · exact KF.s h_r2
    · exact KF.s h_r2
theorem kc_X3_fourAllowed {M0 : zM} (hg : RG M0) {a0 : Nat} {M : zM} (h_a0 : own a0) (hM : FC M0 M) : KF (FC M0) (f_X3_fourAllowed a0 M) := by
  unfold f_X3_fourAllowed
  exact (kc_X3_fourAllowed_0 hg h_a0 hM)
theorem kc_X3_mayClaim_0 {M0 : zM} (hg : RG M0) {a0 : Nat} {i1 : Int32} {i2 : Int32} {i3 : Int32} {M : zM} (h_a0 : own a0) (hM : FC M0 M) : KF (FC M0) (f_X3_mayClaim_0 a0 i1 i2 i3 M) := by
  unfold f_X3_mayClaim_0
  refine KF.b fun v1 => ?_
  refine KF.i ?_ ?_
  · refine KF.b fun v2 => ?_
    refine KF.i ?_ ?_
    · exact KF.s hM
    · refine KF.p (fc_gR hg hM h_a0) fun v3 h_v3 => ?_
      refine KF.p (fc_lQ hg hM h_v3) fun v4 h_v4 => ?_
      refine KF.b fun v5 => ?_
      refine KF.i ?_ ?_
      · refine KF.p (fc_gR hg hM h_a0) fun v6 h_v6 => ?_
        refine KF.p (fc_lQ hg hM h_v6) fun v7 h_v7 => ?_
        refine KF.i ?_ KF.n
        refine KF.cp (kc_seatInTurn hg h_a0 hM) fun r8 h_r8 g_r8 => ?_
        refine KF.i ?_ KF.n
        refine KF.c (kc_X1_latestInRiver hg h_r8 g_r8) fun r10 h_r10 => ?_
        refine KF.i ?_ ?_
        · refine KF.b fun v22 => ?_
          refine KF.i ?_ ?_
          · refine KF.c (kc_X3_completesRow hg h_v7 h_r10) fun r23 h_r23 => ?_
            refine KF.i ?_ ?_
            · exact KF.s h_r23
            · exact KF.s h_r23
          · exact KF.s h_r10
        · refine KF.i ?_ ?_
          · refine KF.i ?_ KF.n
            refine KF.c (kc_X1_count hg h_v7 h_r10) fun r15 h_r15 => ?_
            refine KF.i ?_ ?_
            · exact KF.s h_r15
            · refine KF.i ?_ KF.n
              refine KF.c (kc_X3_fourAllowed hg h_a0 h_r15) fun r17 h_r17 => ?_
              refine KF.i ?_ ?_
              · exact KF.s h_r17
              · exact KF.s h_r17
          · refine KF.i ?_ KF.n
            refine KF.c (kc_X1_count hg h_v7 h_r10) fun r12 h_r12 => ?_
            refine KF.i ?_ ?_
            · exact KF.s h_r12
            · exact KF.s h_r12
      · exact KF.s hM
  · exact KF.s hM
theorem kc_X3_mayClaim {M0 : zM} (hg : RG M0) {a0 : Nat} {i1 : Int32} {i2 : Int32} {i3 : Int32} {M : zM} (h_a0 : own a0) (hM : FC M0 M) : KF (FC M0) (f_X3_mayClaim a0 i1 i2 i3 M) := by
  unfold f_X3_mayClaim
  exact (kc_X3_mayClaim_0 hg h_a0 hM)
theorem kc_X3_requirePlayer_9 {M0 : zM} (hg : RG M0) {M : zM} (hM : FC M0 M) : KF (FC M0) (f_X3_requirePlayer_9 M) := by
  unfold f_X3_requirePlayer_9
  exact KF.s (fc_nE hM)
theorem kc_X3_requirePlayer_0 {M0 : zM} (hg : RG M0) {i0 : Int32} {M : zM} (hM : FC M0 M) : KF (FC M0) (f_X3_requirePlayer_0 i0 M) := by
  unfold f_X3_requirePlayer_0
  refine KF.i ?_ ?_
  · exact (kc_X3_requirePlayer_9 hg hM)
  · refine KF.i ?_ ?_
    · exact KF.s hM
    · exact (kc_X3_requirePlayer_9 hg hM)
theorem kc_X3_requirePlayer {M0 : zM} (hg : RG M0) {i0 : Int32} {M : zM} (hM : FC M0 M) : KF (FC M0) (f_X3_requirePlayer i0 M) := by
  unfold f_X3_requirePlayer
  exact (kc_X3_requirePlayer_0 hg hM)
theorem kc_X3_claim_13 {M0 : zM} (hg : RG M0) {M : zM} (hM : FC M0 M) : KF (FC M0) (f_X3_claim_13 M) := by
  unfold f_X3_claim_13
  exact KF.s (fc_nE hM)
theorem kc_X3_claim_110 {M0 : zM} (hg : RG M0) {a4 : Nat} {M : zM} (h_a4 : own a4) (hM : FC M0 M) : KF (FC M0) (f_X3_claim_110 a4 M) := by
  unfold f_X3_claim_110
  refine KF.b fun v1 => ?_
  exact KF.s hM
theorem kc_X3_claim_97 {M0 : zM} (hg : RG M0) {a0 : Nat} {i2 : Int32} {a4 : Nat} {i_0 : Int32} {i_1 : Int32} {a_2 : Nat} {M : zM} (h_a0 : own a0) (h_a4 : own a4) (h_a_2 : own a_2) (hM : FC M0 M) : KF (FC M0) (f_X3_claim_97 a0 i2 a4 i_0 i_1 a_2 M) := by
  unfold f_X3_claim_97
  refine KF.i ?_ KF.n
  refine KF.c (kc_X1_laySet hg h_a_2 hM) fun r1 h_r1 => ?_
  refine KF.i ?_ ?_
  · refine KF.i ?_ KF.n
    refine KF.c (kc_X3_drawForFour hg h_a0 h_r1) fun r3 h_r3 => ?_
    exact (kc_X3_claim_110 hg h_a4 h_r3)
  · exact (kc_X3_claim_110 hg h_a4 h_r1)
theorem kc_X3_claim_0 {M0 : zM} (hg : RG M0) {a0 : Nat} {i1 : Int32} {i2 : Int32} {i3 : Int32} {M : zM} (h_a0 : own a0) (hM : FC M0 M) : KF (FC M0) (f_X3_claim_0 a0 i1 i2 i3 M) := by
  unfold f_X3_claim_0
  refine KF.xb (kc_X3_requirePlayer hg hM) fun w1 Mw1 h_Mw1 => ?_
  refine KF.i ?_ ?_
  · exact (kc_X3_claim_13 hg h_Mw1)
  · refine KF.i ?_ ?_
    · refine KF.i ?_ KF.n
      refine KF.c (kc_X3_mayClaim hg h_a0 h_Mw1) fun r19 h_r19 => ?_
      refine KF.i ?_ ?_
      · exact KF.s (fc_nE h_r19)
      · refine KF.p (fc_gR hg h_r19 h_a0) fun v21 h_v21 => ?_
        refine KF.p (fc_lQ hg h_r19 h_v21) fun v22 h_v22 => ?_
        refine KF.i ?_ KF.n
        refine KF.cp (kc_seatInTurn hg h_a0 h_r19) fun r23 h_r23 g_r23 => ?_
        refine KF.i ?_ KF.n
        refine KF.c (kc_X1_leaveRiver hg h_r23 g_r23) fun r25 h_r25 => ?_
        refine KF.w (fc_pI h_r25 h_a0) fun M27 h_M27 => ?_
        refine KF.w (fc_pI h_M27 h_a0) fun M28 h_M28 => ?_
        refine KF.w (fc_pZ h_M28 h_a0) fun M29 h_M29 => ?_
        refine KF.i ?_ KF.n
        refine KF.c (kc_X1_change hg h_v22 h_M29) fun r30 h_r30 => ?_
        refine KF.i ?_ ?_
        · exact (kc_X3_claim_97 hg h_a0 h_v22 h_v22 h_r30)
        · exact (kc_X3_claim_97 hg h_a0 h_v22 h_v22 h_r30)
    · exact (kc_X3_claim_13 hg h_Mw1)
theorem kc_X3_claim {M0 : zM} (hg : RG M0) {a0 : Nat} {i1 : Int32} {i2 : Int32} {i3 : Int32} {M : zM} (h_a0 : own a0) (hM : FC M0 M) : KF (FC M0) (f_X3_claim a0 i1 i2 i3 M) := by
  unfold f_X3_claim
  exact (kc_X3_claim_0 hg h_a0 hM)
theorem kc_X3_four_37 {M0 : zM} (hg : RG M0) {M : zM} (hM : FC M0 M) : KF (FC M0) (f_X3_four_37 M) := by
  unfold f_X3_four_37
  exact KF.s (fc_nE hM)
theorem kc_X3_four_0 {M0 : zM} (hg : RG M0) {a0 : Nat} {i1 : Int32} {M : zM} (h_a0 : own a0) (hM : FC M0 M) : KF (FC M0) (f_X3_four_0 a0 i1 M) := by
  unfold f_X3_four_0
  refine KF.xb (kc_X3_requireKind hg hM) fun w1 Mw1 h_Mw1 => ?_
  refine KF.i ?_ KF.n
  refine KF.xb (kc_X3_requirePhase hg h_a0 h_Mw1) fun w32 Mw32 h_Mw32 => ?_
  refine KF.i ?_ KF.n
  refine KF.cp (kc_seatInTurn hg h_a0 h_Mw32) fun r48 h_r48 g_r48 => ?_
  refine KF.b fun v50 => ?_
  refine KF.i ?_ ?_
  · refine KF.i ?_ KF.n
    refine KF.c (kc_X1_count hg h_r48 g_r48) fun r51 h_r51 => ?_
    refine KF.i ?_ ?_
    · exact (kc_X3_four_37 hg h_r51)
    · refine KF.i ?_ KF.n
      refine KF.c (kc_X3_fourAllowed hg h_a0 h_r51) fun r53 h_r53 => ?_
      refine KF.i ?_ ?_
      · exact (kc_X3_four_37 hg h_r53)
      · refine KF.i ?_ KF.n
        refine KF.c (kc_X1_laySet hg h_r48 h_r53) fun r55 h_r55 => ?_
        refine KF.i ?_ KF.n
        refine KF.c (kc_X3_drawForFour hg h_a0 h_r55) fun r57 h_r57 => ?_
        exact KF.s h_r57
  · exact (kc_X3_four_37 hg g_r48)
theorem kc_X3_four {M0 : zM} (hg : RG M0) {a0 : Nat} {i1 : Int32} {M : zM} (h_a0 : own a0) (hM : FC M0 M) : KF (FC M0) (f_X3_four a0 i1 M) := by
  unfold f_X3_four
  exact (kc_X3_four_0 hg h_a0 hM)
theorem kc_X3_pass_0 {M0 : zM} (hg : RG M0) {a0 : Nat} {M : zM} (h_a0 : own a0) (hM : FC M0 M) : KF (FC M0) (f_X3_pass_0 a0 M) := by
  unfold f_X3_pass_0
  refine KF.i ?_ KF.n
  refine KF.xb (kc_X3_requirePhase hg h_a0 hM) fun w1 Mw1 h_Mw1 => ?_
  refine KF.b fun v7 => ?_
  refine KF.w (fc_pI h_Mw1 h_a0) fun M8 h_M8 => ?_
  refine KF.w (fc_pI h_M8 h_a0) fun M9 h_M9 => ?_
  refine KF.b fun v10 => ?_
  exact KF.s h_M9
theorem kc_X3_pass {M0 : zM} (hg : RG M0) {a0 : Nat} {M : zM} (h_a0 : own a0) (hM : FC M0 M) : KF (FC M0) (f_X3_pass a0 M) := by
  unfold f_X3_pass
  exact (kc_X3_pass_0 hg h_a0 hM)
theorem kc_X3_payWin_92 {M0 : zM} (hg : RG M0) {a0 : Nat} {i1 : Int32} {M : zM} (h_a0 : own a0) (hM : FC M0 M) : KF (FC M0) (f_X3_payWin_92 a0 i1 M) := by
  unfold f_X3_payWin_92
  refine KF.p (fc_gR hg hM h_a0) fun v1 h_v1 => ?_
  refine KF.p (fc_lQ hg hM h_v1) fun v2 h_v2 => ?_
  refine KF.b fun v3 => ?_
  refine KF.b fun v4 => ?_
  refine KF.w (fc_pI hM h_v2) fun M5 h_M5 => ?_
  refine KF.w (fc_pI h_M5 h_a0) fun M6 h_M6 => ?_
  exact KF.s h_M6
theorem kc_X3_payWin_7 {M0 : zM} (hg : RG M0) : ∀ (n : Nat) {a0 : Nat} {i1 : Int32} {i3 : Int32} {i4 : Int32} {M : zM}, own a0 → FC M0 M → KF (FC M0) (f_X3_payWin_7 n a0 i1 i3 i4 M) := by
  intro n
  induction n with
  | zero => exact fun _ _ => KF.n
  | succ n ih =>
    intro a0 i1 i3 i4 M h_a0 hM
    rw [f_X3_payWin_7]
    refine KF.i ?_ ?_
    · refine KF.p (fc_gR hg hM h_a0) fun v1 h_v1 => ?_
      refine KF.p (fc_lQ hg hM h_v1) fun v2 h_v2 => ?_
      refine KF.b fun v3 => ?_
      refine KF.w (fc_pI hM h_v2) fun M4 h_M4 => ?_
      exact (kc_X3_payWin_92 hg h_a0 h_M4)
    · refine KF.p (fc_gR hg hM h_a0) fun v5 h_v5 => ?_
      refine KF.p (fc_lQ hg hM h_v5) fun v6 h_v6 => ?_
      refine KF.b fun v7 => ?_
      refine KF.w (fc_pI hM h_v6) fun M8 h_M8 => ?_
      exact (ih h_a0 h_M8)
theorem kc_X3_payWin_0 {M0 : zM} (hg : RG M0) {a0 : Nat} {i1 : Int32} {i2 : Int32} {i3 : Int32} {M : zM} (h_a0 : own a0) (hM : FC M0 M) : KF (FC M0) (f_X3_payWin_0 a0 i1 i2 i3 M) := by
  unfold f_X3_payWin_0
  refine KF.i ?_ ?_
  · refine KF.i ?_ KF.n
    refine KF.cp (kc_seatInTurn hg h_a0 hM) fun r1 h_r1 g_r1 => ?_
    refine KF.b fun v3 => ?_
    refine KF.w (fc_pI g_r1 h_r1) fun M4 h_M4 => ?_
    refine KF.p (fc_gR hg h_M4 h_a0) fun v5 h_v5 => ?_
    refine KF.p (fc_lQ hg h_M4 h_v5) fun v6 h_v6 => ?_
    refine KF.b fun v7 => ?_
    refine KF.w (fc_pI h_M4 h_v6) fun M8 h_M8 => ?_
    exact (kc_X3_payWin_92 hg h_a0 h_M8)
  · exact (kc_X3_payWin_7 hg zN h_a0 hM)
theorem kc_X3_payWin {M0 : zM} (hg : RG M0) {a0 : Nat} {i1 : Int32} {i2 : Int32} {i3 : Int32} {M : zM} (h_a0 : own a0) (hM : FC M0 M) : KF (FC M0) (f_X3_payWin a0 i1 i2 i3 M) := by
  unfold f_X3_payWin
  exact (kc_X3_payWin_0 hg h_a0 hM)
theorem kc_X3_windOf_0 {M0 : zM} (hg : RG M0) {a0 : Nat} {i1 : Int32} {M : zM} (h_a0 : own a0) (hM : FC M0 M) : KF (FC M0) (f_X3_windOf_0 a0 i1 M) := by
  unfold f_X3_windOf_0
  refine KF.b fun v1 => ?_
  refine KF.i ?_ ?_
  · exact KF.s hM
  · refine KF.b fun v2 => ?_
    exact KF.s hM
theorem kc_X3_windOf {M0 : zM} (hg : RG M0) {a0 : Nat} {i1 : Int32} {M : zM} (h_a0 : own a0) (hM : FC M0 M) : KF (FC M0) (f_X3_windOf a0 i1 M) := by
  unfold f_X3_windOf
  exact (kc_X3_windOf_0 hg h_a0 hM)
theorem kc_X3_winsAlone_0 {M0 : zM} (hg : RG M0) {a0 : Nat} {i1 : Int32} {M : zM} (h_a0 : own a0) (hM : FC M0 M) : KF (FC M0) (f_X3_winsAlone_0 a0 i1 M) := by
  unfold f_X3_winsAlone_0
  refine KF.p (fc_gR hg hM h_a0) fun v1 h_v1 => ?_
  refine KF.p (fc_lQ hg hM h_v1) fun v2 h_v2 => ?_
  refine KF.b fun v3 => ?_
  refine KF.i ?_ ?_
  · refine KF.b fun v4 => ?_
    refine KF.i ?_ ?_
    · exact KF.s hM
    · refine KF.i ?_ KF.n
      refine KF.c (kc_X1_size hg h_v2 hM) fun r5 h_r5 => ?_
      refine KF.i ?_ ?_
      · refine KF.p (fc_gR hg h_r5 h_a0) fun v7 h_v7 => ?_
        refine KF.p (fc_gR hg h_r5 h_v2) fun v8 h_v8 => ?_
        refine KF.i ?_ KF.n
        refine KF.c (kc_X0_complete hg h_v7 h_v8 h_r5) fun r9 h_r9 => ?_
        refine KF.i ?_ ?_
        · exact KF.s h_r9
        · exact KF.s h_r9
      · exact KF.s h_r5
  · exact KF.s hM
theorem kc_X3_winsAlone {M0 : zM} (hg : RG M0) {a0 : Nat} {i1 : Int32} {M : zM} (h_a0 : own a0) (hM : FC M0 M) : KF (FC M0) (f_X3_winsAlone a0 i1 M) := by
  unfold f_X3_winsAlone
  exact (kc_X3_winsAlone_0 hg h_a0 hM)
theorem kc_X3_winsByDiscard_0 {M0 : zM} (hg : RG M0) {a0 : Nat} {i1 : Int32} {M : zM} (h_a0 : own a0) (hM : FC M0 M) : KF (FC M0) (f_X3_winsByDiscard_0 a0 i1 M) := by
  unfold f_X3_winsByDiscard_0
  refine KF.b fun v1 => ?_
  refine KF.i ?_ ?_
  · refine KF.b fun v2 => ?_
    refine KF.i ?_ ?_
    · exact KF.s hM
    · refine KF.p (fc_gR hg hM h_a0) fun v3 h_v3 => ?_
      refine KF.p (fc_lQ hg hM h_v3) fun v4 h_v4 => ?_
      refine KF.i ?_ KF.n
      refine KF.c (kc_X3_waitsOf hg h_a0 h_v4 hM) fun r5 h_r5 => ?_
      refine KF.i ?_ KF.n
      refine KF.cp (kc_seatInTurn hg h_a0 h_r5) fun r7 h_r7 g_r7 => ?_
      refine KF.i ?_ KF.n
      refine KF.c (kc_X1_latestInRiver hg h_r7 g_r7) fun r9 h_r9 => ?_
      refine KF.i ?_ ?_
      · exact KF.s h_r9
      · refine KF.i ?_ ?_
        · refine KF.b fun v11 => ?_
          refine KF.i ?_ ?_
          · exact KF.s h_r9
          · exact KF.s h_r9
        · exact KF.s h_r9
  · exact KF.s hM
theorem kc_X3_winsByDiscard {M0 : zM} (hg : RG M0) {a0 : Nat} {i1 : Int32} {M : zM} (h_a0 : own a0) (hM : FC M0 M) : KF (FC M0) (f_X3_winsByDiscard a0 i1 M) := by
  unfold f_X3_winsByDiscard
  exact (kc_X3_winsByDiscard_0 hg h_a0 hM)
theorem kc_X3_win_74 {M0 : zM} (hg : RG M0) {a0 : Nat} {i1 : Int32} {i2 : Int32} {a3 : Nat} {M : zM} (h_a0 : own a0) (h_a3 : own a3) (hM : FC M0 M) : KF (FC M0) (f_X3_win_74 a0 i1 i2 a3 M) := by
  unfold f_X3_win_74
  refine KF.p (fc_gR hg hM h_a0) fun v1 h_v1 => ?_
  refine KF.b fun v2 => ?_
  refine KF.i ?_ KF.n
  refine KF.c (kc_X3_windOf hg h_a0 hM) fun r3 h_r3 => ?_
  refine KF.i ?_ KF.n
  refine KF.c (kc_X2_value hg h_v1 h_a3 h_r3) fun r5 h_r5 => ?_
  refine KF.i ?_ KF.n
  refine KF.c (kc_X3_payWin hg h_a0 h_r5) fun r7 h_r7 => ?_
  refine KF.b fun v9 => ?_
  refine KF.w (fc_pI h_r7 h_a3) fun M10 h_M10 => ?_
  refine KF.w (fc_pI h_M10 h_a0) fun M11 h_M11 => ?_
  refine KF.w (fc_pI h_M11 h_a0) fun M12 h_M12 => ?_
  exact KF.s h_M12
theorem kc_X3_win_51 {M0 : zM} (hg : RG M0) {a0 : Nat} {i1 : Int32} {i2 : Int32} {M : zM} (h_a0 : own a0) (hM : FC M0 M) : KF (FC M0) (f_X3_win_51 a0 i1 i2 M) := by
  unfold f_X3_win_51
  refine KF.p (fc_gR hg hM h_a0) fun v1 h_v1 => ?_
  refine KF.p (fc_lQ hg hM h_v1) fun v2 h_v2 => ?_
  refine KF.i ?_ ?_
  · refine KF.i ?_ KF.n
    refine KF.cp (kc_seatInTurn hg h_a0 hM) fun r3 h_r3 g_r3 => ?_
    refine KF.i ?_ KF.n
    refine KF.c (kc_X1_leaveRiver hg h_r3 g_r3) fun r5 h_r5 => ?_
    refine KF.i ?_ KF.n
    refine KF.c (kc_X1_change hg h_v2 h_r5) fun r7 h_r7 => ?_
    exact (kc_X3_win_74 hg h_a0 h_v2 h_r7)
  · exact (kc_X3_win_74 hg h_a0 h_v2 hM)
theorem kc_X3_win_41 {M0 : zM} (hg : RG M0) {M : zM} (hM : FC M0 M) : KF (FC M0) (f_X3_win_41 M) := by
  unfold f_X3_win_41
  exact KF.s (fc_nE hM)
theorem kc_X3_win_17 {M0 : zM} (hg : RG M0) {a0 : Nat} {i1 : Int32} {i_0 : Int32} {M : zM} (h_a0 : own a0) (hM : FC M0 M) : KF (FC M0) (f_X3_win_17 a0 i1 i_0 M) := by
  unfold f_X3_win_17
  refine KF.i ?_ ?_
  · refine KF.i ?_ KF.n
    refine KF.c (kc_X3_winsByDiscard hg h_a0 hM) fun r1 h_r1 => ?_
    refine KF.i ?_ ?_
    · exact (kc_X3_win_41 hg h_r1)
    · exact (kc_X3_win_51 hg h_a0 h_r1)
  · refine KF.i ?_ KF.n
    refine KF.c (kc_X3_winsAlone hg h_a0 hM) fun r4 h_r4 => ?_
    refine KF.i ?_ ?_
    · exact (kc_X3_win_41 hg h_r4)
    · exact (kc_X3_win_51 hg h_a0 h_r4)
theorem kc_X3_win_0 {M0 : zM} (hg : RG M0) {a0 : Nat} {i1 : Int32} {M : zM} (h_a0 : own a0) (hM : FC M0 M) : KF (FC M0) (f_X3_win_0 a0 i1 M) := by
  unfold f_X3_win_0
  refine KF.xb (kc_X3_requirePlayer hg hM) fun w1 Mw1 h_Mw1 => ?_
  refine KF.b fun v4 => ?_
  refine KF.i ?_ ?_
  · exact (kc_X3_win_17 hg h_a0 h_Mw1)
  · exact (kc_X3_win_17 hg h_a0 h_Mw1)
theorem kc_X3_win {M0 : zM} (hg : RG M0) {a0 : Nat} {i1 : Int32} {M : zM} (h_a0 : own a0) (hM : FC M0 M) : KF (FC M0) (f_X3_win a0 i1 M) := by
  unfold f_X3_win
  exact (kc_X3_win_0 hg h_a0 hM)
theorem kc_X3_has_0 {M0 : zM} (hg : RG M0) {a0 : Nat} {i1 : Int32} {i2 : Int32} {M : zM} (h_a0 : own a0) (hM : FC M0 M) : KF (FC M0) (f_X3_has_0 a0 i1 i2 M) := by
  unfold f_X3_has_0
  refine KF.xb (kc_X3_requirePlayer hg hM) fun w1 Mw1 h_Mw1 => ?_
  refine KF.xb (kc_X3_requireKind hg h_Mw1) fun w11 Mw11 h_Mw11 => ?_
  refine KF.p (fc_gR hg h_Mw11 h_a0) fun v16 h_v16 => ?_
  refine KF.p (fc_lQ hg h_Mw11 h_v16) fun v17 h_v17 => ?_
  refine KF.i ?_ KF.n
  refine KF.c (kc_X1_count hg h_v17 h_Mw11) fun r18 h_r18 => ?_
  exact KF.s h_r18
theorem kc_X3_has {M0 : zM} (hg : RG M0) {a0 : Nat} {i1 : Int32} {i2 : Int32} {M : zM} (h_a0 : own a0) (hM : FC M0 M) : KF (FC M0) (f_X3_has a0 i1 i2 M) := by
  unfold f_X3_has
  exact (kc_X3_has_0 hg h_a0 hM)
theorem kc_X3_ofPlayer_0 {M0 : zM} (hg : RG M0) {a0 : Nat} {i1 : Int32} {i2 : Int32} {M : zM} (h_a0 : own a0) (hM : FC M0 M) : KF (FC M0) (f_X3_ofPlayer_0 a0 i1 i2 M) := by
  unfold f_X3_ofPlayer_0
  refine KF.xb (kc_X3_requirePlayer hg hM) fun w1 Mw1 h_Mw1 => ?_
  refine KF.p (fc_gR hg h_Mw1 h_a0) fun v35 h_v35 => ?_
  refine KF.p (fc_lQ hg h_Mw1 h_v35) fun v36 h_v36 => ?_
  refine KF.i ?_ ?_
  · refine KF.b fun v67 => ?_
    exact KF.s h_Mw1
  · refine KF.i ?_ ?_
    · refine KF.b fun v66 => ?_
      exact KF.s h_Mw1
    · refine KF.i ?_ ?_
      · refine KF.i ?_ KF.n
        refine KF.c (kc_X1_openSets hg h_v36 h_Mw1) fun r64 h_r64 => ?_
        exact KF.s h_r64
      · refine KF.i ?_ ?_
        · refine KF.i ?_ KF.n
          refine KF.c (kc_X1_inHand hg h_v36 h_Mw1) fun r62 h_r62 => ?_
          exact KF.s h_r62
        · refine KF.i ?_ ?_
          · refine KF.b fun v61 => ?_
            exact KF.s h_Mw1
          · refine KF.i ?_ ?_
            · refine KF.b fun v59 => ?_
              refine KF.i ?_ ?_
              · exact KF.s h_Mw1
              · exact KF.s h_Mw1
            · refine KF.i ?_ ?_
              · refine KF.p (fc_gR hg h_Mw1 h_a0) fun v54 h_v54 => ?_
                refine KF.p (fc_gR hg h_Mw1 h_v36) fun v55 h_v55 => ?_
                refine KF.b fun v56 => ?_
                refine KF.i ?_ KF.n
                refine KF.c (kc_X0_far hg h_v54 h_v55 h_Mw1) fun r57 h_r57 => ?_
                exact KF.s h_r57
              · refine KF.i ?_ ?_
                · refine KF.i ?_ KF.n
                  refine KF.c (kc_X3_windOf hg h_a0 h_Mw1) fun r52 h_r52 => ?_
                  exact KF.s h_r52
                · refine KF.i ?_ ?_
                  · refine KF.b fun v51 => ?_
                    exact KF.s h_Mw1
                  · refine KF.i ?_ ?_
                    · refine KF.i ?_ KF.n
                      refine KF.c (kc_X3_waitsOf hg h_a0 h_v36 h_Mw1) fun r47 h_r47 => ?_
                      refine KF.b fun v49 => ?_
                      refine KF.i ?_ ?_
                      · exact KF.s h_r47
                      · exact KF.s h_r47
                    · exact KF.s (fc_nE h_Mw1)
theorem kc_X3_ofPlayer {M0 : zM} (hg : RG M0) {a0 : Nat} {i1 : Int32} {i2 : Int32} {M : zM} (h_a0 : own a0) (hM : FC M0 M) : KF (FC M0) (f_X3_ofPlayer a0 i1 i2 M) := by
  unfold f_X3_ofPlayer
  exact (kc_X3_ofPlayer_0 hg h_a0 hM)
theorem kc_X3_ofSet_28 {M0 : zM} (hg : RG M0) {M : zM} (hM : FC M0 M) : KF (FC M0) (f_X3_ofSet_28 M) := by
  unfold f_X3_ofSet_28
  exact KF.s (fc_nE hM)
theorem kc_X3_ofSet_0 {M0 : zM} (hg : RG M0) {a0 : Nat} {i1 : Int32} {i2 : Int32} {M : zM} (h_a0 : own a0) (hM : FC M0 M) : KF (FC M0) (f_X3_ofSet_0 a0 i1 i2 M) := by
  unfold f_X3_ofSet_0
  refine KF.xb (kc_X3_requirePlayer hg hM) fun w1 Mw1 h_Mw1 => ?_
  refine KF.p (fc_gR hg h_Mw1 h_a0) fun v10 h_v10 => ?_
  refine KF.p (fc_lQ hg h_Mw1 h_v10) fun v11 h_v11 => ?_
  refine KF.i ?_ ?_
  · exact (kc_X3_ofSet_28 hg h_Mw1)
  · refine KF.b fun v12 => ?_
    refine KF.i ?_ ?_
    · exact (kc_X3_ofSet_28 hg h_Mw1)
    · refine KF.i ?_ ?_
      · refine KF.p (fc_gR hg h_Mw1 h_v11) fun v13 h_v13 => ?_
        refine KF.b fun v14 => ?_
        exact KF.s h_Mw1
      · exact (kc_X3_ofSet_28 hg h_Mw1)
theorem kc_X3_ofSet {M0 : zM} (hg : RG M0) {a0 : Nat} {i1 : Int32} {i2 : Int32} {M : zM} (h_a0 : own a0) (hM : FC M0 M) : KF (FC M0) (f_X3_ofSet a0 i1 i2 M) := by
  unfold f_X3_ofSet
  exact (kc_X3_ofSet_0 hg h_a0 hM)
theorem kc_X3_river_29 {M0 : zM} (hg : RG M0) {M : zM} (hM : FC M0 M) : KF (FC M0) (f_X3_river_29 M) := by
  unfold f_X3_river_29
  exact KF.s (fc_nE hM)
theorem kc_X3_river_0 {M0 : zM} (hg : RG M0) {a0 : Nat} {i1 : Int32} {i2 : Int32} {M : zM} (h_a0 : own a0) (hM : FC M0 M) : KF (FC M0) (f_X3_river_0 a0 i1 i2 M) := by
  unfold f_X3_river_0
  refine KF.xb (kc_X3_requirePlayer hg hM) fun w1 Mw1 h_Mw1 => ?_
  refine KF.p (fc_gR hg h_Mw1 h_a0) fun v10 h_v10 => ?_
  refine KF.p (fc_lQ hg h_Mw1 h_v10) fun v11 h_v11 => ?_
  refine KF.i ?_ ?_
  · exact (kc_X3_river_29 hg h_Mw1)
  · refine KF.b fun v12 => ?_
    refine KF.i ?_ ?_
    · exact (kc_X3_river_29 hg h_Mw1)
    · refine KF.i ?_ ?_
      · refine KF.p (fc_gR hg h_Mw1 h_v11) fun v13 h_v13 => ?_
        refine KF.b fun v14 => ?_
        exact KF.s h_Mw1
      · exact (kc_X3_river_29 hg h_Mw1)
theorem kc_X3_river {M0 : zM} (hg : RG M0) {a0 : Nat} {i1 : Int32} {i2 : Int32} {M : zM} (h_a0 : own a0) (hM : FC M0 M) : KF (FC M0) (f_X3_river a0 i1 i2 M) := by
  unfold f_X3_river
  exact (kc_X3_river_0 hg h_a0 hM)
theorem kc_X3_waits_0 {M0 : zM} (hg : RG M0) {a0 : Nat} {i1 : Int32} {M : zM} (h_a0 : own a0) (hM : FC M0 M) : KF (FC M0) (f_X3_waits_0 a0 i1 M) := by
  unfold f_X3_waits_0
  refine KF.xb (kc_X3_requirePlayer hg hM) fun w1 Mw1 h_Mw1 => ?_
  refine KF.p (fc_gR hg h_Mw1 h_a0) fun v6 h_v6 => ?_
  refine KF.p (fc_lQ hg h_Mw1 h_v6) fun v7 h_v7 => ?_
  refine KF.i ?_ KF.n
  refine KF.c (kc_X3_waitsOf hg h_a0 h_v7 h_Mw1) fun r8 h_r8 => ?_
  exact KF.s h_r8
theorem kc_X3_waits {M0 : zM} (hg : RG M0) {a0 : Nat} {i1 : Int32} {M : zM} (h_a0 : own a0) (hM : FC M0 M) : KF (FC M0) (f_X3_waits a0 i1 M) := by
  unfold f_X3_waits
  exact (kc_X3_waits_0 hg h_a0 hM)
theorem kc_X3_seen_8 {M0 : zM} (hg : RG M0) : ∀ (n : Nat) {a0 : Nat} {i1 : Int32} {i2 : Int32} {i3 : Int32} {M : zM}, own a0 → FC M0 M → KF (FC M0) (f_X3_seen_8 n a0 i1 i2 i3 M) := by
  intro n
  induction n with
  | zero => exact fun _ _ => KF.n
  | succ n ih =>
    intro a0 i1 i2 i3 M h_a0 hM
    rw [f_X3_seen_8]
    refine KF.i ?_ ?_
    · exact KF.s hM
    · refine KF.p (fc_gR hg hM h_a0) fun v1 h_v1 => ?_
      refine KF.p (fc_lQ hg hM h_v1) fun v2 h_v2 => ?_
      refine KF.i ?_ KF.n
      refine KF.c (kc_X1_lying hg h_v2 hM) fun r3 h_r3 => ?_
      exact (ih h_a0 h_r3)
theorem kc_X3_seen_0 {M0 : zM} (hg : RG M0) {a0 : Nat} {i1 : Int32} {M : zM} (h_a0 : own a0) (hM : FC M0 M) : KF (FC M0) (f_X3_seen_0 a0 i1 M) := by
  unfold f_X3_seen_0
  refine KF.xb (kc_X3_requireKind hg hM) fun w1 Mw1 h_Mw1 => ?_
  exact (kc_X3_seen_8 hg zN h_a0 h_Mw1)
theorem kc_X3_seen {M0 : zM} (hg : RG M0) {a0 : Nat} {i1 : Int32} {M : zM} (h_a0 : own a0) (hM : FC M0 M) : KF (FC M0) (f_X3_seen a0 i1 M) := by
  unfold f_X3_seen
  exact (kc_X3_seen_0 hg h_a0 hM)
theorem kc_X3_many_0 {M0 : zM} (hg : RG M0) {a0 : Nat} {i1 : Int32} {M : zM} (h_a0 : own a0) (hM : FC M0 M) : KF (FC M0) (f_X3_many_0 a0 i1 M) := by
  unfold f_X3_many_0
  refine KF.i ?_ ?_
  · refine KF.b fun v28 => ?_
    exact KF.s hM
  · refine KF.i ?_ ?_
    · refine KF.b fun v25 => ?_
      refine KF.i ?_ ?_
      · exact KF.s hM
      · refine KF.b fun v26 => ?_
        exact KF.s hM
    · refine KF.i ?_ ?_
      · refine KF.i ?_ KF.n
        refine KF.c (kc_X3_tilesLeft hg h_a0 hM) fun r23 h_r23 => ?_
        exact KF.s h_r23
      · refine KF.i ?_ ?_
        · refine KF.b fun v22 => ?_
          exact KF.s hM
        · refine KF.i ?_ ?_
          · refine KF.b fun v16 => ?_
            refine KF.i ?_ ?_
            · refine KF.i ?_ KF.n
              refine KF.cp (kc_seatInTurn hg h_a0 hM) fun r17 h_r17 g_r17 => ?_
              refine KF.i ?_ KF.n
              refine KF.c (kc_X1_latestInRiver hg h_r17 g_r17) fun r19 h_r19 => ?_
              exact KF.s h_r19
            · exact KF.s hM
          · refine KF.i ?_ ?_
            · refine KF.b fun v15 => ?_
              exact KF.s hM
            · refine KF.i ?_ ?_
              · refine KF.b fun v14 => ?_
                exact KF.s hM
              · refine KF.i ?_ ?_
                · refine KF.b fun v13 => ?_
                  exact KF.s hM
                · refine KF.i ?_ ?_
                  · refine KF.b fun v12 => ?_
                    exact KF.s hM
                  · refine KF.i ?_ ?_
                    · refine KF.b fun v11 => ?_
                      exact KF.s hM
                    · exact KF.s (fc_nE hM)
theorem kc_X3_many {M0 : zM} (hg : RG M0) {a0 : Nat} {i1 : Int32} {M : zM} (h_a0 : own a0) (hM : FC M0 M) : KF (FC M0) (f_X3_many a0 i1 M) := by
  unfold f_X3_many
  exact (kc_X3_many_0 hg h_a0 hM)
theorem kc_X3_fourLeads_4 {M0 : zM} (hg : RG M0) : ∀ (n : Nat) {a0 : Nat} {i1 : Int32} {i2 : Int32} {i3 : Int32} {M : zM}, own a0 → FC M0 M → KF (FC M0) (f_X3_fourLeads_4 n a0 i1 i2 i3 M) := by
  intro n
  induction n with
  | zero => exact fun _ _ => KF.n
  | succ n ih =>
    intro a0 i1 i2 i3 M h_a0 hM
    rw [f_X3_fourLeads_4]
    refine KF.i ?_ ?_
    · refine KF.p (fc_gR hg hM h_a0) fun v1 h_v1 => ?_
      refine KF.p (fc_lQ hg hM h_v1) fun v2 h_v2 => ?_
      refine KF.b fun v3 => ?_
      exact KF.s hM
    · refine KF.p (fc_gR hg hM h_a0) fun v4 h_v4 => ?_
      refine KF.p (fc_lQ hg hM h_v4) fun v5 h_v5 => ?_
      refine KF.b fun v6 => ?_
      exact (ih h_a0 hM)
theorem kc_X3_fourLeads_0 {M0 : zM} (hg : RG M0) {a0 : Nat} {i1 : Int32} {M : zM} (h_a0 : own a0) (hM : FC M0 M) : KF (FC M0) (f_X3_fourLeads_0 a0 i1 M) := by
  unfold f_X3_fourLeads_0
  exact (kc_X3_fourLeads_4 hg zN h_a0 hM)
theorem kc_X3_fourLeads {M0 : zM} (hg : RG M0) {a0 : Nat} {i1 : Int32} {M : zM} (h_a0 : own a0) (hM : FC M0 M) : KF (FC M0) (f_X3_fourLeads a0 i1 M) := by
  unfold f_X3_fourLeads
  exact (kc_X3_fourLeads_0 hg h_a0 hM)
theorem kc_X3_lead_0 {M0 : zM} (hg : RG M0) {a0 : Nat} {i1 : Int32} {M : zM} (h_a0 : own a0) (hM : FC M0 M) : KF (FC M0) (f_X3_lead_0 a0 i1 M) := by
  unfold f_X3_lead_0
  refine KF.xb (kc_X3_requirePlayer hg hM) fun w1 Mw1 h_Mw1 => ?_
  refine KF.i ?_ KF.n
  refine KF.c (kc_X3_fourLeads hg h_a0 h_Mw1) fun r5 h_r5 => ?_
  refine KF.i ?_ KF.n
  exact KF.s h_r5
theorem kc_X3_lead {M0 : zM} (hg : RG M0) {a0 : Nat} {i1 : Int32} {M : zM} (h_a0 : own a0) (hM : FC M0 M) : KF (FC M0) (f_X3_lead a0 i1 M) := by
  unfold f_X3_lead
  exact (kc_X3_lead_0 hg h_a0 hM)
theorem kc_X3_worth_0 {M0 : zM} (hg : RG M0) {a0 : Nat} {i1 : Int32} {i2 : Int32} {M : zM} (h_a0 : own a0) (hM : FC M0 M) : KF (FC M0) (f_X3_worth_0 a0 i1 i2 M) := by
  unfold f_X3_worth_0
  refine KF.xb (kc_X3_requirePlayer hg hM) fun w1 Mw1 h_Mw1 => ?_
  refine KF.xb (kc_X3_requireKind hg h_Mw1) fun w33 Mw33 h_Mw33 => ?_
  refine KF.p (fc_gR hg h_Mw33 h_a0) fun v49 h_v49 => ?_
  refine KF.p (fc_lQ hg h_Mw33 h_v49) fun v50 h_v50 => ?_
  refine KF.i ?_ KF.n
  refine KF.c (kc_X3_waitsOf hg h_a0 h_v50 h_Mw33) fun r51 h_r51 => ?_
  refine KF.i ?_ ?_
  · exact KF.s h_r51
  · refine KF.i ?_ KF.n
    refine KF.c (kc_X1_change hg h_v50 h_r51) fun r53 h_r53 => ?_
    refine KF.p (fc_gR hg h_r53 h_a0) fun v55 h_v55 => ?_
    refine KF.b fun v56 => ?_
    refine KF.i ?_ KF.n
    refine KF.c (kc_X3_windOf hg h_a0 h_r53) fun r57 h_r57 => ?_
    refine KF.i ?_ KF.n
    refine KF.c (kc_X2_value hg h_v55 h_v50 h_r57) fun r59 h_r59 => ?_
    refine KF.i ?_ KF.n
    refine KF.c (kc_X1_change hg h_v50 h_r59) fun r61 h_r61 => ?_
    exact KF.s h_r61
theorem kc_X3_worth {M0 : zM} (hg : RG M0) {a0 : Nat} {i1 : Int32} {i2 : Int32} {M : zM} (h_a0 : own a0) (hM : FC M0 M) : KF (FC M0) (f_X3_worth a0 i1 i2 M) := by
  unfold f_X3_worth
  exact (kc_X3_worth_0 hg h_a0 hM)
theorem kc_X3_farWith_0 {M0 : zM} (hg : RG M0) {a0 : Nat} {a1 : Nat} {i2 : Int32} {i3 : Int32} {M : zM} (h_a0 : own a0) (h_a1 : own a1) (hM : FC M0 M) : KF (FC M0) (f_X3_farWith_0 a0 a1 i2 i3 M) := by
  unfold f_X3_farWith_0
  refine KF.i ?_ KF.n
  refine KF.c (kc_X1_change hg h_a1 hM) fun r1 h_r1 => ?_
  refine KF.p (fc_gR hg h_r1 h_a0) fun v3 h_v3 => ?_
  refine KF.p (fc_gR hg h_r1 h_a1) fun v4 h_v4 => ?_
  refine KF.b fun v5 => ?_
  refine KF.i ?_ KF.n
  refine KF.c (kc_X0_far hg h_v3 h_v4 h_r1) fun r6 h_r6 => ?_
  refine KF.i ?_ KF.n
  refine KF.c (kc_X1_change hg h_a1 h_r6) fun r8 h_r8 => ?_
  exact KF.s h_r8
theorem kc_X3_farWith {M0 : zM} (hg : RG M0) {a0 : Nat} {a1 : Nat} {i2 : Int32} {i3 : Int32} {M : zM} (h_a0 : own a0) (h_a1 : own a1) (hM : FC M0 M) : KF (FC M0) (f_X3_farWith a0 a1 i2 i3 M) := by
  unfold f_X3_farWith
  exact (kc_X3_farWith_0 hg h_a0 h_a1 hM)
theorem kc_X3_best_96 {M0 : zM} (hg : RG M0) {K22 : Nat → Nat → Int32 → Int32 → Int32 → zM → Option (Int32 × zM)} (hK22 : ∀ {x0 : Nat} {x1 : Nat} {x2 : Int32} {x3 : Int32} {x4 : Int32} {M : zM}, own x0 → own x1 → FC M0 M → KF (FC M0) (K22 x0 x1 x2 x3 x4 M)) {a0 : Nat} {a1 : Nat} {i4 : Int32} {i5 : Int32} {M : zM} (h_a0 : own a0) (h_a1 : own a1) (hM : FC M0 M) : KF (FC M0) (f_X3_best_96 K22 a0 a1 i4 i5 M) := by
  unfold f_X3_best_96
  exact (hK22 h_a0 h_a1 hM)
theorem kc_X3_best_72 {M0 : zM} (hg : RG M0) {K22 : Nat → Nat → Int32 → Int32 → Int32 → zM → Option (Int32 × zM)} (hK22 : ∀ {x0 : Nat} {x1 : Nat} {x2 : Int32} {x3 : Int32} {x4 : Int32} {M : zM}, own x0 → own x1 → FC M0 M → KF (FC M0) (K22 x0 x1 x2 x3 x4 M)) {a0 : Nat} {a1 : Nat} {i2 : Int32} {i3 : Int32} {i4 : Int32} {i5 : Int32} {i_0 : Int32} {M : zM} (h_a0 : own a0) (h_a1 : own a1) (hM : FC M0 M) : KF (FC M0) (f_X3_best_72 K22 a0 a1 i2 i3 i4 i5 i_0 M) := by
  unfold f_X3_best_72
  refine KF.i ?_ ?_
  · exact (kc_X3_best_96 hg hK22 h_a0 h_a1 hM)
  · refine KF.i ?_ ?_
    · exact (kc_X3_best_96 hg hK22 h_a0 h_a1 hM)
    · refine KF.i ?_ ?_
      · refine KF.i ?_ ?_
        · exact (hK22 h_a0 h_a1 hM)
        · exact (kc_X3_best_96 hg hK22 h_a0 h_a1 hM)
      · exact (hK22 h_a0 h_a1 hM)
theorem kc_X3_best_71 {M0 : zM} (hg : RG M0) {K22 : Nat → Nat → Int32 → Int32 → Int32 → zM → Option (Int32 × zM)} (hK22 : ∀ {x0 : Nat} {x1 : Nat} {x2 : Int32} {x3 : Int32} {x4 : Int32} {M : zM}, own x0 → own x1 → FC M0 M → KF (FC M0) (K22 x0 x1 x2 x3 x4 M)) {a0 : Nat} {a1 : Nat} {i2 : Int32} {i3 : Int32} {i4 : Int32} {i5 : Int32} {M : zM} (h_a0 : own a0) (h_a1 : own a1) (hM : FC M0 M) : KF (FC M0) (f_X3_best_71 K22 a0 a1 i2 i3 i4 i5 M) := by
  unfold f_X3_best_71
  exact (kc_X3_best_72 hg hK22 h_a0 h_a1 hM)
theorem kc_X3_best_22 {M0 : zM} (hg : RG M0) : ∀ (n : Nat) {a0 : Nat} {a1 : Nat} {i2 : Int32} {i3 : Int32} {i4 : Int32} {M : zM}, own a0 → own a1 → FC M0 M → KF (FC M0) (f_X3_best_22 n a0 a1 i2 i3 i4 M) := by
  intro n
  induction n with
  | zero => exact fun _ _ _ => KF.n
  | succ n ih =>
    intro a0 a1 i2 i3 i4 M h_a0 h_a1 hM
    rw [f_X3_best_22]
    refine KF.i ?_ ?_
    · exact KF.s hM
    · refine KF.i ?_ KF.n
      refine KF.c (kc_X1_count hg h_a1 hM) fun r1 h_r1 => ?_
      refine KF.i ?_ ?_
      · exact (ih h_a0 h_a1 h_r1)
      · refine KF.i ?_ KF.n
        refine KF.c (kc_X3_farWith hg h_a0 h_a1 h_r1) fun r3 h_r3 => ?_
        refine KF.i ?_ ?_
        · exact (kc_X3_best_71 hg ih h_a0 h_a1 h_r3)
        · refine KF.i ?_ KF.n
          refine KF.c (kc_X1_count hg h_a1 h_r3) fun r5 h_r5 => ?_
          refine KF.i ?_ KF.n
          refine KF.c (kc_X1_count hg h_a1 h_r5) fun r7 h_r7 => ?_
          refine KF.i ?_ ?_
          · exact (kc_X3_best_71 hg ih h_a0 h_a1 h_r7)
          · exact (kc_X3_best_72 hg ih h_a0 h_a1 h_r7)
theorem kc_X3_best_0 {M0 : zM} (hg : RG M0) {a0 : Nat} {M : zM} (h_a0 : own a0) (hM : FC M0 M) : KF (FC M0) (f_X3_best_0 a0 M) := by
  unfold f_X3_best_0
  refine KF.b fun v1 => ?_
  refine KF.i ?_ ?_
  · refine KF.i ?_ KF.n
    refine KF.cp (kc_seatInTurn hg h_a0 hM) fun r2 h_r2 g_r2 => ?_
    exact (kc_X3_best_22 hg zN h_a0 h_r2 g_r2)
  · exact KF.s hM
theorem kc_X3_best {M0 : zM} (hg : RG M0) {a0 : Nat} {M : zM} (h_a0 : own a0) (hM : FC M0 M) : KF (FC M0) (f_X3_best a0 M) := by
  unfold f_X3_best
  exact (kc_X3_best_0 hg h_a0 hM)
theorem kc_X3_isSafe_10 {M0 : zM} (hg : RG M0) : ∀ (n : Nat) {a0 : Nat} {i1 : Int32} {i2 : Int32} {i3 : Int32} {M : zM}, own a0 → FC M0 M → KF (FC M0) (f_X3_isSafe_10 n a0 i1 i2 i3 M) := by
  intro n
  induction n with
  | zero => exact fun _ _ => KF.n
  | succ n ih =>
    intro a0 i1 i2 i3 M h_a0 hM
    rw [f_X3_isSafe_10]
    refine KF.i ?_ ?_
    · exact KF.s hM
    · refine KF.i ?_ ?_
      · exact (ih h_a0 hM)
      · refine KF.p (fc_gR hg hM h_a0) fun v1 h_v1 => ?_
        refine KF.p (fc_lQ hg hM h_v1) fun v2 h_v2 => ?_
        refine KF.b fun v3 => ?_
        refine KF.i ?_ ?_
        · exact (ih h_a0 hM)
        · refine KF.p (fc_gR hg hM h_a0) fun v4 h_v4 => ?_
          refine KF.p (fc_lQ hg hM h_v4) fun v5 h_v5 => ?_
          refine KF.b fun v6 => ?_
          refine KF.i ?_ ?_
          · exact KF.s hM
          · exact (ih h_a0 hM)
theorem kc_X3_isSafe_0 {M0 : zM} (hg : RG M0) {a0 : Nat} {i1 : Int32} {i2 : Int32} {M : zM} (h_a0 : own a0) (hM : FC M0 M) : KF (FC M0) (f_X3_isSafe_0 a0 i1 i2 M) := by
  unfold f_X3_isSafe_0
  refine KF.xb (kc_X3_requirePlayer hg hM) fun w1 Mw1 h_Mw1 => ?_
  refine KF.xb (kc_X3_requireKind hg h_Mw1) fun w3 Mw3 h_Mw3 => ?_
  exact (kc_X3_isSafe_10 hg zN h_a0 h_Mw3)
theorem kc_X3_isSafe {M0 : zM} (hg : RG M0) {a0 : Nat} {i1 : Int32} {i2 : Int32} {M : zM} (h_a0 : own a0) (hM : FC M0 M) : KF (FC M0) (f_X3_isSafe a0 i1 i2 M) := by
  unfold f_X3_isSafe
  exact (kc_X3_isSafe_0 hg h_a0 hM)
theorem kc_X3_outs_44 {M0 : zM} (hg : RG M0) : ∀ (n : Nat) {a0 : Nat} {a2 : Nat} {i3 : Int32} {i4 : Int32} {i5 : Int32} {M : zM}, own a0 → own a2 → FC M0 M → KF (FC M0) (f_X3_outs_44 n a0 a2 i3 i4 i5 M) := by
  intro n
  induction n with
  | zero => exact fun _ _ _ => KF.n
  | succ n ih =>
    intro a0 a2 i3 i4 i5 M h_a0 h_a2 hM
    rw [f_X3_outs_44]
    refine KF.i ?_ ?_
    · exact KF.s hM
    · refine KF.i ?_ KF.n
      refine KF.c (kc_X1_count hg h_a2 hM) fun r1 h_r1 => ?_
      refine KF.i ?_ KF.n
      refine KF.xb (kc_X3_seen hg h_a0 h_r1) fun w3 Mw3 h_Mw3 => ?_
      refine KF.i ?_ ?_
      · exact (ih h_a0 h_a2 h_Mw3)
      · refine KF.i ?_ KF.n
        refine KF.c (kc_X3_farWith hg h_a0 h_a2 h_Mw3) fun r9 h_r9 => ?_
        refine KF.i ?_ ?_
        · exact (ih h_a0 h_a2 h_r9)
        · exact (ih h_a0 h_a2 h_r9)
theorem kc_X3_outs_0 {M0 : zM} (hg : RG M0) {a0 : Nat} {i1 : Int32} {M : zM} (h_a0 : own a0) (hM : FC M0 M) : KF (FC M0) (f_X3_outs_0 a0 i1 M) := by
  unfold f_X3_outs_0
  refine KF.xb (kc_X3_requirePlayer hg hM) fun w1 Mw1 h_Mw1 => ?_
  refine KF.p (fc_gR hg h_Mw1 h_a0) fun v12 h_v12 => ?_
  refine KF.p (fc_lQ hg h_Mw1 h_v12) fun v13 h_v13 => ?_
  refine KF.i ?_ KF.n
  refine KF.c (kc_X1_size hg h_v13 h_Mw1) fun r14 h_r14 => ?_
  refine KF.i ?_ ?_
  · refine KF.p (fc_gR hg h_r14 h_a0) fun v16 h_v16 => ?_
    refine KF.p (fc_gR hg h_r14 h_v13) fun v17 h_v17 => ?_
    refine KF.b fun v18 => ?_
    refine KF.i ?_ KF.n
    refine KF.c (kc_X0_far hg h_v16 h_v17 h_r14) fun r19 h_r19 => ?_
    exact (kc_X3_outs_44 hg zN h_a0 h_v13 h_r19)
  · exact KF.s h_r14
theorem kc_X3_outs {M0 : zM} (hg : RG M0) {a0 : Nat} {i1 : Int32} {M : zM} (h_a0 : own a0) (hM : FC M0 M) : KF (FC M0) (f_X3_outs a0 i1 M) := by
  unfold f_X3_outs
  exact (kc_X3_outs_0 hg h_a0 hM)
theorem kc_X3_digestPlayer_164 {M0 : zM} (hg : RG M0) {a0 : Nat} {i3 : Int32} {a4 : Nat} {j5 : Int64} {M : zM} (h_a0 : own a0) (h_a4 : own a4) (hM : FC M0 M) : KF (FC M0) (f_X3_digestPlayer_164 a0 i3 a4 j5 M) := by
  unfold f_X3_digestPlayer_164
  refine KF.i ?_ KF.n
  refine KF.c (kc_X3_waitsOf hg h_a0 h_a4 hM) fun r1 h_r1 => ?_
  refine KF.i ?_ KF.n
  refine KF.c (kc_X3_fourLeads hg h_a0 h_r1) fun r3 h_r3 => ?_
  exact KF.s h_r3
theorem kc_X3_digestPlayer_123 {M0 : zM} (hg : RG M0) : ∀ (n : Nat) {a0 : Nat} {i3 : Int32} {a4 : Nat} {j5 : Int64} {i7 : Int32} {M : zM}, own a0 → own a4 → FC M0 M → KF (FC M0) (f_X3_digestPlayer_123 n a0 i3 a4 j5 i7 M) := by
  intro n
  induction n with
  | zero => exact fun _ _ _ => KF.n
  | succ n ih =>
    intro a0 i3 a4 j5 i7 M h_a0 h_a4 hM
    rw [f_X3_digestPlayer_123]
    refine KF.b fun v1 => ?_
    refine KF.i ?_ ?_
    · exact (kc_X3_digestPlayer_164 hg h_a0 h_a4 hM)
    · refine KF.i ?_ ?_
      · exact (kc_X3_digestPlayer_164 hg h_a0 h_a4 hM)
      · refine KF.p (fc_gR hg hM h_a4) fun v2 h_v2 => ?_
        refine KF.b fun v3 => ?_
        exact (ih h_a0 h_a4 hM)
theorem kc_X3_digestPlayer_80 {M0 : zM} (hg : RG M0) : ∀ (n : Nat) {a0 : Nat} {i3 : Int32} {a4 : Nat} {j5 : Int64} {i7 : Int32} {M : zM}, own a0 → own a4 → FC M0 M → KF (FC M0) (f_X3_digestPlayer_80 n a0 i3 a4 j5 i7 M) := by
  intro n
  induction n with
  | zero => exact fun _ _ _ => KF.n
  | succ n ih =>
    intro a0 i3 a4 j5 i7 M h_a0 h_a4 hM
    rw [f_X3_digestPlayer_80]
    refine KF.b fun v1 => ?_
    refine KF.i ?_ ?_
    · exact (kc_X3_digestPlayer_123 hg zN h_a0 h_a4 hM)
    · refine KF.i ?_ ?_
      · exact (kc_X3_digestPlayer_123 hg zN h_a0 h_a4 hM)
      · refine KF.p (fc_gR hg hM h_a4) fun v2 h_v2 => ?_
        refine KF.b fun v3 => ?_
        exact (ih h_a0 h_a4 hM)
theorem kc_X3_digestPlayer_47 {M0 : zM} (hg : RG M0) : ∀ (n : Nat) {a0 : Nat} {i3 : Int32} {a4 : Nat} {j5 : Int64} {i7 : Int32} {M : zM}, own a0 → own a4 → FC M0 M → KF (FC M0) (f_X3_digestPlayer_47 n a0 i3 a4 j5 i7 M) := by
  intro n
  induction n with
  | zero => exact fun _ _ _ => KF.n
  | succ n ih =>
    intro a0 i3 a4 j5 i7 M h_a0 h_a4 hM
    rw [f_X3_digestPlayer_47]
    refine KF.i ?_ ?_
    · exact (kc_X3_digestPlayer_80 hg zN h_a0 h_a4 hM)
    · refine KF.i ?_ KF.n
      refine KF.c (kc_X1_count hg h_a4 hM) fun r1 h_r1 => ?_
      exact (ih h_a0 h_a4 h_r1)
theorem kc_X3_digestPlayer_14 {M0 : zM} (hg : RG M0) : ∀ (n : Nat) {a0 : Nat} {i3 : Int32} {a4 : Nat} {j5 : Int64} {i7 : Int32} {M : zM}, own a0 → own a4 → FC M0 M → KF (FC M0) (f_X3_digestPlayer_14 n a0 i3 a4 j5 i7 M) := by
  intro n
  induction n with
  | zero => exact fun _ _ _ => KF.n
  | succ n ih =>
    intro a0 i3 a4 j5 i7 M h_a0 h_a4 hM
    rw [f_X3_digestPlayer_14]
    refine KF.i ?_ ?_
    · exact (kc_X3_digestPlayer_47 hg zN h_a0 h_a4 hM)
    · refine KF.i ?_ KF.n
      refine KF.xb (kc_X3_ofPlayer hg h_a0 hM) fun w1 Mw1 h_Mw1 => ?_
      exact (ih h_a0 h_a4 h_Mw1)
theorem kc_X3_digestPlayer_0 {M0 : zM} (hg : RG M0) {a0 : Nat} {j1 : Int64} {i3 : Int32} {M : zM} (h_a0 : own a0) (hM : FC M0 M) : KF (FC M0) (f_X3_digestPlayer_0 a0 j1 i3 M) := by
  unfold f_X3_digestPlayer_0
  refine KF.p (fc_gR hg hM h_a0) fun v1 h_v1 => ?_
  refine KF.p (fc_lQ hg hM h_v1) fun v2 h_v2 => ?_
  exact (kc_X3_digestPlayer_14 hg zN h_a0 h_v2 hM)
theorem kc_X3_digestPlayer {M0 : zM} (hg : RG M0) {a0 : Nat} {j1 : Int64} {i3 : Int32} {M : zM} (h_a0 : own a0) (hM : FC M0 M) : KF (FC M0) (f_X3_digestPlayer a0 j1 i3 M) := by
  unfold f_X3_digestPlayer
  exact (kc_X3_digestPlayer_0 hg h_a0 hM)
theorem kc_X3_digest_33 {M0 : zM} (hg : RG M0) : ∀ (n : Nat) {a0 : Nat} {j1 : Int64} {i3 : Int32} {M : zM}, own a0 → FC M0 M → KF (FC M0) (f_X3_digest_33 n a0 j1 i3 M) := by
  intro n
  induction n with
  | zero => exact fun _ _ => KF.n
  | succ n ih =>
    intro a0 j1 i3 M h_a0 hM
    rw [f_X3_digest_33]
    refine KF.i ?_ ?_
    · refine KF.i ?_ KF.n
      refine KF.c (kc_X3_best hg h_a0 hM) fun r1 h_r1 => ?_
      exact KF.s h_r1
    · refine KF.i ?_ KF.n
      refine KF.xb (kc_X3_digestPlayer hg h_a0 hM) fun w3 Mw3 h_Mw3 => ?_
      exact (ih h_a0 h_Mw3)
theorem kc_X3_digest_6 {M0 : zM} (hg : RG M0) : ∀ (n : Nat) {a0 : Nat} {j1 : Int64} {i3 : Int32} {M : zM}, own a0 → FC M0 M → KF (FC M0) (f_X3_digest_6 n a0 j1 i3 M) := by
  intro n
  induction n with
  | zero => exact fun _ _ => KF.n
  | succ n ih =>
    intro a0 j1 i3 M h_a0 hM
    rw [f_X3_digest_6]
    refine KF.i ?_ ?_
    · exact (kc_X3_digest_33 hg zN h_a0 hM)
    · refine KF.i ?_ KF.n
      refine KF.xb (kc_X3_many hg h_a0 hM) fun w1 Mw1 h_Mw1 => ?_
      exact (ih h_a0 h_Mw1)
theorem kc_X3_digest_0 {M0 : zM} (hg : RG M0) {a0 : Nat} {M : zM} (h_a0 : own a0) (hM : FC M0 M) : KF (FC M0) (f_X3_digest_0 a0 M) := by
  unfold f_X3_digest_0
  exact (kc_X3_digest_6 hg zN h_a0 hM)
theorem kc_X3_digest {M0 : zM} (hg : RG M0) {a0 : Nat} {M : zM} (h_a0 : own a0) (hM : FC M0 M) : KF (FC M0) (f_X3_digest a0 M) := by
  unfold f_X3_digest
  exact (kc_X3_digest_0 hg h_a0 hM)
