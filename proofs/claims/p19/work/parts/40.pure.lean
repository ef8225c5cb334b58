/-! ===== PURE: what is read behind a write ===== -/
theorem g_K_sI (M : zM) (k a : Nat) (v : Int32) : mK (sI M k a v) = mK M := rfl
theorem g_L_sI (M : zM) (k a : Nat) (v : Int32) : mL (sI M k a v) = mL M := rfl
theorem g_I_sI (M : zM) (k a : Nat) (v : Int32) : mI (sI M k a v) = u2 (mI M) k a v := rfl
theorem g_J_sI (M : zM) (k a : Nat) (v : Int32) : mJ (sI M k a v) = mJ M := rfl
theorem g_D_sI (M : zM) (k a : Nat) (v : Int32) : mD (sI M k a v) = mD M := rfl
theorem g_R_sI (M : zM) (k a : Nat) (v : Int32) : mR (sI M k a v) = mR M := rfl
theorem g_A_sI (M : zM) (k a : Nat) (v : Int32) : mA (sI M k a v) = mA M := rfl
theorem g_Q_sI (M : zM) (k a : Nat) (v : Int32) : mQ (sI M k a v) = mQ M := rfl
theorem g_X_sI (M : zM) (k a : Nat) (v : Int32) : mX (sI M k a v) = mX M := rfl
theorem g_S_sI (M : zM) (k a : Nat) (v : Int32) : mS (sI M k a v) = mS M := rfl
theorem g_K_sJ (M : zM) (k a : Nat) (v : Int64) : mK (sJ M k a v) = mK M := rfl
theorem g_L_sJ (M : zM) (k a : Nat) (v : Int64) : mL (sJ M k a v) = mL M := rfl
theorem g_I_sJ (M : zM) (k a : Nat) (v : Int64) : mI (sJ M k a v) = mI M := rfl
theorem g_J_sJ (M : zM) (k a : Nat) (v : Int64) : mJ (sJ M k a v) = u2 (mJ M) k a v := rfl
theorem g_D_sJ (M : zM) (k a : Nat) (v : Int64) : mD (sJ M k a v) = mD M := rfl
theorem g_R_sJ (M : zM) (k a : Nat) (v : Int64) : mR (sJ M k a v) = mR M := rfl
theorem g_A_sJ (M : zM) (k a : Nat) (v : Int64) : mA (sJ M k a v) = mA M := rfl
theorem g_Q_sJ (M : zM) (k a : Nat) (v : Int64) : mQ (sJ M k a v) = mQ M := rfl
theorem g_X_sJ (M : zM) (k a : Nat) (v : Int64) : mX (sJ M k a v) = mX M := rfl
theorem g_S_sJ (M : zM) (k a : Nat) (v : Int64) : mS (sJ M k a v) = mS M := rfl
theorem g_K_sD (M : zM) (k a : Nat) (v : UInt64) : mK (sD M k a v) = mK M := rfl
theorem g_L_sD (M : zM) (k a : Nat) (v : UInt64) : mL (sD M k a v) = mL M := rfl
theorem g_I_sD (M : zM) (k a : Nat) (v : UInt64) : mI (sD M k a v) = mI M := rfl
theorem g_J_sD (M : zM) (k a : Nat) (v : UInt64) : mJ (sD M k a v) = mJ M := rfl
theorem g_D_sD (M : zM) (k a : Nat) (v : UInt64) : mD (sD M k a v) = u2 (mD M) k a v := rfl
theorem g_R_sD (M : zM) (k a : Nat) (v : UInt64) : mR (sD M k a v) = mR M := rfl
theorem g_A_sD (M : zM) (k a : Nat) (v : UInt64) : mA (sD M k a v) = mA M := rfl
theorem g_Q_sD (M : zM) (k a : Nat) (v : UInt64) : mQ (sD M k a v) = mQ M := rfl
theorem g_X_sD (M : zM) (k a : Nat) (v : UInt64) : mX (sD M k a v) = mX M := rfl
theorem g_S_sD (M : zM) (k a : Nat) (v : UInt64) : mS (sD M k a v) = mS M := rfl
theorem g_K_sR (M : zM) (k a : Nat) (v : Option Nat) : mK (sR M k a v) = mK M := rfl
theorem g_L_sR (M : zM) (k a : Nat) (v : Option Nat) : mL (sR M k a v) = mL M := rfl
theorem g_I_sR (M : zM) (k a : Nat) (v : Option Nat) : mI (sR M k a v) = mI M := rfl
theorem g_J_sR (M : zM) (k a : Nat) (v : Option Nat) : mJ (sR M k a v) = mJ M := rfl
theorem g_D_sR (M : zM) (k a : Nat) (v : Option Nat) : mD (sR M k a v) = mD M := rfl
theorem g_R_sR (M : zM) (k a : Nat) (v : Option Nat) : mR (sR M k a v) = u2 (mR M) k a v := rfl
theorem g_A_sR (M : zM) (k a : Nat) (v : Option Nat) : mA (sR M k a v) = mA M := rfl
theorem g_Q_sR (M : zM) (k a : Nat) (v : Option Nat) : mQ (sR M k a v) = mQ M := rfl
theorem g_X_sR (M : zM) (k a : Nat) (v : Option Nat) : mX (sR M k a v) = mX M := rfl
theorem g_S_sR (M : zM) (k a : Nat) (v : Option Nat) : mS (sR M k a v) = mS M := rfl
theorem g_K_sA (M : zM) (a i : Nat) (v : Int32) : mK (sA M a i v) = mK M := rfl
theorem g_L_sA (M : zM) (a i : Nat) (v : Int32) : mL (sA M a i v) = mL M := rfl
theorem g_I_sA (M : zM) (a i : Nat) (v : Int32) : mI (sA M a i v) = mI M := rfl
theorem g_J_sA (M : zM) (a i : Nat) (v : Int32) : mJ (sA M a i v) = mJ M := rfl
theorem g_D_sA (M : zM) (a i : Nat) (v : Int32) : mD (sA M a i v) = mD M := rfl
theorem g_R_sA (M : zM) (a i : Nat) (v : Int32) : mR (sA M a i v) = mR M := rfl
theorem g_A_sA (M : zM) (a i : Nat) (v : Int32) : mA (sA M a i v) = u2 (mA M) a i v := rfl
theorem g_Q_sA (M : zM) (a i : Nat) (v : Int32) : mQ (sA M a i v) = mQ M := rfl
theorem g_X_sA (M : zM) (a i : Nat) (v : Int32) : mX (sA M a i v) = mX M := rfl
theorem g_S_sA (M : zM) (a i : Nat) (v : Int32) : mS (sA M a i v) = mS M := rfl
theorem g_K_sAr (M : zM) (a : Nat) (g : Nat → Int32) : mK (sAr M a g) = mK M := rfl
theorem g_L_sAr (M : zM) (a : Nat) (g : Nat → Int32) : mL (sAr M a g) = mL M := rfl
theorem g_I_sAr (M : zM) (a : Nat) (g : Nat → Int32) : mI (sAr M a g) = mI M := rfl
theorem g_J_sAr (M : zM) (a : Nat) (g : Nat → Int32) : mJ (sAr M a g) = mJ M := rfl
theorem g_D_sAr (M : zM) (a : Nat) (g : Nat → Int32) : mD (sAr M a g) = mD M := rfl
theorem g_R_sAr (M : zM) (a : Nat) (g : Nat → Int32) : mR (sAr M a g) = mR M := rfl
theorem g_A_sAr (M : zM) (a : Nat) (g : Nat → Int32) : mA (sAr M a g) = ur (mA M) a g := rfl
theorem g_Q_sAr (M : zM) (a : Nat) (g : Nat → Int32) : mQ (sAr M a g) = mQ M := rfl
theorem g_X_sAr (M : zM) (a : Nat) (g : Nat → Int32) : mX (sAr M a g) = mX M := rfl
theorem g_S_sAr (M : zM) (a : Nat) (g : Nat → Int32) : mS (sAr M a g) = mS M := rfl
theorem g_K_sQ (M : zM) (a i : Nat) (v : Option Nat) : mK (sQ M a i v) = mK M := rfl
theorem g_L_sQ (M : zM) (a i : Nat) (v : Option Nat) : mL (sQ M a i v) = mL M := rfl
theorem g_I_sQ (M : zM) (a i : Nat) (v : Option Nat) : mI (sQ M a i v) = mI M := rfl
theorem g_J_sQ (M : zM) (a i : Nat) (v : Option Nat) : mJ (sQ M a i v) = mJ M := rfl
theorem g_D_sQ (M : zM) (a i : Nat) (v : Option Nat) : mD (sQ M a i v) = mD M := rfl
theorem g_R_sQ (M : zM) (a i : Nat) (v : Option Nat) : mR (sQ M a i v) = mR M := rfl
theorem g_A_sQ (M : zM) (a i : Nat) (v : Option Nat) : mA (sQ M a i v) = mA M := rfl
theorem g_Q_sQ (M : zM) (a i : Nat) (v : Option Nat) : mQ (sQ M a i v) = u2 (mQ M) a i v := rfl
theorem g_X_sQ (M : zM) (a i : Nat) (v : Option Nat) : mX (sQ M a i v) = mX M := rfl
theorem g_S_sQ (M : zM) (a i : Nat) (v : Option Nat) : mS (sQ M a i v) = mS M := rfl
theorem g_K_sQr (M : zM) (a : Nat) (g : Nat → Option Nat) : mK (sQr M a g) = mK M := rfl
theorem g_L_sQr (M : zM) (a : Nat) (g : Nat → Option Nat) : mL (sQr M a g) = mL M := rfl
theorem g_I_sQr (M : zM) (a : Nat) (g : Nat → Option Nat) : mI (sQr M a g) = mI M := rfl
theorem g_J_sQr (M : zM) (a : Nat) (g : Nat → Option Nat) : mJ (sQr M a g) = mJ M := rfl
theorem g_D_sQr (M : zM) (a : Nat) (g : Nat → Option Nat) : mD (sQr M a g) = mD M := rfl
theorem g_R_sQr (M : zM) (a : Nat) (g : Nat → Option Nat) : mR (sQr M a g) = mR M := rfl
theorem g_A_sQr (M : zM) (a : Nat) (g : Nat → Option Nat) : mA (sQr M a g) = mA M := rfl
theorem g_Q_sQr (M : zM) (a : Nat) (g : Nat → Option Nat) : mQ (sQr M a g) = ur (mQ M) a g := rfl
theorem g_X_sQr (M : zM) (a : Nat) (g : Nat → Option Nat) : mX (sQr M a g) = mX M := rfl
theorem g_S_sQr (M : zM) (a : Nat) (g : Nat → Option Nat) : mS (sQr M a g) = mS M := rfl
theorem g_K_nO (M : zM) (c n : Nat) : mK (nO M c n) = u1 (mK M) (mX M) c := rfl
theorem g_L_nO (M : zM) (c n : Nat) : mL (nO M c n) = mL M := rfl
theorem g_I_nO (M : zM) (c n : Nat) : mI (nO M c n) = uc (mI M) (mX M) 0 := rfl
theorem g_J_nO (M : zM) (c n : Nat) : mJ (nO M c n) = uc (mJ M) (mX M) 0 := rfl
theorem g_D_nO (M : zM) (c n : Nat) : mD (nO M c n) = uc (mD M) (mX M) 0 := rfl
theorem g_R_nO (M : zM) (c n : Nat) : mR (nO M c n) = uc (mR M) (mX M) none := rfl
theorem g_A_nO (M : zM) (c n : Nat) : mA (nO M c n) = mA M := rfl
theorem g_Q_nO (M : zM) (c n : Nat) : mQ (nO M c n) = mQ M := rfl
theorem g_X_nO (M : zM) (c n : Nat) : mX (nO M c n) = mX M + 1 := rfl
theorem g_S_nO (M : zM) (c n : Nat) : mS (nO M c n) = mS M + n := rfl
theorem g_K_nA (M : zM) (t n : Nat) : mK (nA M t n) = u1 (mK M) (mX M) (100 + t) := rfl
theorem g_L_nA (M : zM) (t n : Nat) : mL (nA M t n) = u1 (mL M) (mX M) n := rfl
theorem g_I_nA (M : zM) (t n : Nat) : mI (nA M t n) = mI M := rfl
theorem g_J_nA (M : zM) (t n : Nat) : mJ (nA M t n) = mJ M := rfl
theorem g_D_nA (M : zM) (t n : Nat) : mD (nA M t n) = mD M := rfl
theorem g_R_nA (M : zM) (t n : Nat) : mR (nA M t n) = mR M := rfl
theorem g_A_nA (M : zM) (t n : Nat) : mA (nA M t n) = ur (mA M) (mX M) fun _ => 0 := rfl
theorem g_Q_nA (M : zM) (t n : Nat) : mQ (nA M t n) = mQ M := rfl
theorem g_X_nA (M : zM) (t n : Nat) : mX (nA M t n) = mX M + 1 := rfl
theorem g_S_nA (M : zM) (t n : Nat) : mS (nA M t n) = mS M + n := rfl
theorem g_K_nQ (M : zM) (t n : Nat) : mK (nQ M t n) = u1 (mK M) (mX M) (110 + t) := rfl
theorem g_L_nQ (M : zM) (t n : Nat) : mL (nQ M t n) = u1 (mL M) (mX M) n := rfl
theorem g_I_nQ (M : zM) (t n : Nat) : mI (nQ M t n) = mI M := rfl
theorem g_J_nQ (M : zM) (t n : Nat) : mJ (nQ M t n) = mJ M := rfl
theorem g_D_nQ (M : zM) (t n : Nat) : mD (nQ M t n) = mD M := rfl
theorem g_R_nQ (M : zM) (t n : Nat) : mR (nQ M t n) = mR M := rfl
theorem g_A_nQ (M : zM) (t n : Nat) : mA (nQ M t n) = mA M := rfl
theorem g_Q_nQ (M : zM) (t n : Nat) : mQ (nQ M t n) = ur (mQ M) (mX M) fun _ => none := rfl
theorem g_X_nQ (M : zM) (t n : Nat) : mX (nQ M t n) = mX M + 1 := rfl
theorem g_S_nQ (M : zM) (t n : Nat) : mS (nQ M t n) = mS M + n := rfl
theorem g_K_nE (M : zM)  : mK (nE M ) = mK M := rfl
theorem g_L_nE (M : zM)  : mL (nE M ) = mL M := rfl
theorem g_I_nE (M : zM)  : mI (nE M ) = mI M := rfl
theorem g_J_nE (M : zM)  : mJ (nE M ) = mJ M := rfl
theorem g_D_nE (M : zM)  : mD (nE M ) = mD M := rfl
theorem g_R_nE (M : zM)  : mR (nE M ) = mR M := rfl
theorem g_A_nE (M : zM)  : mA (nE M ) = mA M := rfl
theorem g_Q_nE (M : zM)  : mQ (nE M ) = mQ M := rfl
theorem g_X_nE (M : zM)  : mX (nE M ) = mX M + 1 := rfl
theorem g_S_nE (M : zM)  : mS (nE M ) = mS M + 6 := rfl
theorem g_u1 {α : Type} (f : Nat → α) (a : Nat) (v : α) (j : Nat) : u1 f a v j = if j = a then v else f j := rfl
theorem g_u2 {α : Type} (f : Nat → Nat → α) (k a : Nat) (v : α) (i j : Nat) : u2 f k a v i j = if i = k ∧ j = a then v else f i j := rfl
theorem g_uc {α : Type} (f : Nat → Nat → α) (a : Nat) (v : α) (i j : Nat) : uc f a v i j = if j = a then v else f i j := rfl
theorem g_ur {α : Type} (f : Nat → Nat → α) (a : Nat) (g : Nat → α) (i j : Nat) : ur f a g i j = if i = a then g j else f i j := rfl
theorem zM_ext {M N : zM} (h1 : mK M = mK N) (h2 : mL M = mL N) (h3 : mI M = mI N) (h4 : mJ M = mJ N) (h5 : mD M = mD N) (h6 : mR M = mR N) (h7 : mA M = mA N) (h8 : mQ M = mQ N) (h9 : mX M = mX N) (h10 : mS M = mS N) : M = N :=
  Prod.ext h1 (Prod.ext h2 (Prod.ext h3 (Prod.ext h4 (Prod.ext h5 (Prod.ext h6 (Prod.ext h7 (Prod.ext h8 (Prod.ext h9 h10))))))))
/-- it comes to an answer, and that is one with P -/
def ok {α : Type} (x : Option α) (P : α → Prop) : Prop := ∃ a, x = some a ∧ P a
theorem ok.eq {α : Type} {x : Option α} {a : α} (h : ok x fun b => b = a) : x = some a := by
  obtain ⟨b, e, rfl⟩ := h
  exact e
theorem ok.of {α : Type} {x : Option α} {a : α} {P : α → Prop} (e : x = some a) (h : P a) : ok x P := ⟨a, e, h⟩
theorem ok.b {α β : Type} {x : Option α} {f : α → Option β} {P : β → Prop} (h : ok x fun a => ok (f a) P) : ok (x.bind f) P := by
  obtain ⟨a, e, b, e2, h2⟩ := h
  exact ⟨b, by rw [e]; exact e2, h2⟩
theorem ok.be {α β : Type} {x : Option α} {f : α → Option β} {P : β → Prop} {a : α} (e : x = some a) (h : ok (f a) P) : ok (x.bind f) P := by
  rw [e]
  exact h
theorem ok.s {α : Type} {a : α} {P : α → Prop} (h : P a) : ok (some a) P := ⟨a, rfl, h⟩
theorem ok.i {c : Prop} [Decidable c] {α : Type} {x y : Option α} {P : α → Prop} (h1 : c → ok x P) (h2 : ¬ c → ok y P) : ok (if c then x else y) P := by
  by_cases q : c
  · rw [if_pos q]; exact h1 q
  · rw [if_neg q]; exact h2 q
theorem ok.t {c : Prop} [Decidable c] {α : Type} {x y : Option α} {P : α → Prop} (q : c) (h : ok x P) : ok (if c then x else y) P := by
  rw [if_pos q]; exact h
theorem ok.f {c : Prop} [Decidable c] {α : Type} {x y : Option α} {P : α → Prop} (q : ¬ c) (h : ok y P) : ok (if c then x else y) P := by
  rw [if_neg q]; exact h
theorem ok.w {α : Type} {x : Option α} {P Q : α → Prop} (h : ok x P) (k : ∀ a, P a → Q a) : ok x Q := by
  obtain ⟨a, e, h⟩ := h
  exact ⟨a, e, k a h⟩
theorem ok.x {α β : Type} {x : Option ((String ⊕ α) × zM)} {f : α → zM → Option ((String ⊕ β) × zM)} {P : (String ⊕ β) × zM → Prop} {v : α} {M : zM} (e : x = some (.inr v, M)) (h : ok (f v M) P) : ok (xb x f) P := by
  rw [e]
  exact h
theorem ok.xE {α β : Type} {x : Option ((String ⊕ α) × zM)} {f : α → zM → Option ((String ⊕ β) × zM)} {P : (String ⊕ β) × zM → Prop} {E : String} {M : zM} (e : x = some (.inl E, M)) (h : P (.inl E, M)) : ok (xb x f) P := by
  rw [e]
  exact ⟨_, rfl, h⟩
theorem ok_gI {M : zM} {c k q a : Nat} {P : Int32 → Prop} (hq : 32 * c + k = q) (hk : mK M a = c) (h : P (mI M q a)) : ok (gI c k M a) P := ⟨_, by unfold gI; rw [if_pos hk, hq], h⟩
theorem ok_gJ {M : zM} {c k q a : Nat} {P : Int64 → Prop} (hq : 32 * c + k = q) (hk : mK M a = c) (h : P (mJ M q a)) : ok (gJ c k M a) P := ⟨_, by unfold gJ; rw [if_pos hk, hq], h⟩
theorem ok_gD {M : zM} {c k q a : Nat} {P : UInt64 → Prop} (hq : 32 * c + k = q) (hk : mK M a = c) (h : P (mD M q a)) : ok (gD c k M a) P := ⟨_, by unfold gD; rw [if_pos hk, hq], h⟩
theorem ok_gR {M : zM} {c k q a v : Nat} {P : Nat → Prop} (hq : 32 * c + k = q) (hk : mK M a = c) (hv : mR M q a = some v) (h : P v) : ok (gR c k M a) P := ⟨_, by unfold gR; rw [if_pos hk, hq, hv], h⟩
theorem ok_hI {M : zM} {c k q a : Nat} {P : Int32 → Prop} (hq : 32 * c + k = q) (hk : mK M a = c ∨ mK M a = 300 + c) (h : P (mI M q a)) : ok (hI c k M a) P := ⟨_, by unfold hI; rw [if_pos hk, hq], h⟩
theorem ok_hR {M : zM} {c k q a v : Nat} {P : Nat → Prop} (hq : 32 * c + k = q) (hk : mK M a = c ∨ mK M a = 300 + c) (hv : mR M q a = some v) (h : P v) : ok (hR c k M a) P := ⟨_, by unfold hR; rw [if_pos hk, hq, hv], h⟩
theorem ok_pI {M : zM} {c k q a : Nat} {v : Int32} {P : zM → Prop} (hq : 32 * c + k = q) (hk : mK M a = c) (h : P (sI M q a v)) : ok (pI c k M a v) P := ⟨_, by unfold pI; rw [if_pos hk, hq], h⟩
theorem ok_pJ {M : zM} {c k q a : Nat} {v : Int64} {P : zM → Prop} (hq : 32 * c + k = q) (hk : mK M a = c) (h : P (sJ M q a v)) : ok (pJ c k M a v) P := ⟨_, by unfold pJ; rw [if_pos hk, hq], h⟩
theorem ok_pD {M : zM} {c k q a : Nat} {v : UInt64} {P : zM → Prop} (hq : 32 * c + k = q) (hk : mK M a = c) (h : P (sD M q a v)) : ok (pD c k M a v) P := ⟨_, by unfold pD; rw [if_pos hk, hq], h⟩
theorem ok_pR {M : zM} {c k q a v : Nat} {P : zM → Prop} (hq : 32 * c + k = q) (hk : mK M a = c) (h : P (sR M q a (some v))) : ok (pR c k M a v) P := ⟨_, by unfold pR; rw [if_pos hk, hq], h⟩
theorem ok_pZ {M : zM} {c k q a : Nat} {v : Int32} {P : zM → Prop} (hq : 32 * c + k = q) (hk : mK M a = c) (hv : v = 0 ∨ v = 1) (h : P (sI M q a v)) : ok (pZ c k M a v) P := ⟨_, by unfold pZ; rw [if_pos ⟨hk, hv⟩, hq], h⟩
theorem ok_lA {M : zM} {t a : Nat} {i : Int32} {P : Int32 → Prop} (hk : mK M a = 100 + t ∨ mK M a = 200 + t) (hi : ¬ oob i (mL M a)) (h : P (mA M a i.toNatClampNeg)) : ok (lA t M a i) P := ⟨_, by unfold lA; rw [if_pos ⟨hk, hi⟩], h⟩
theorem ok_tA {M : zM} {a : Nat} {i v : Int32} {P : zM → Prop} (hk : mK M a = 100) (hi : ¬ oob i (mL M a)) (h : P (sA M a i.toNatClampNeg v)) : ok (tA M a i v) P := ⟨_, by unfold tA; rw [if_pos ⟨hk, hi⟩], h⟩
theorem ok_tB {M : zM} {a : Nat} {i v : Int32} {P : zM → Prop} (hk : mK M a = 101) (hi : ¬ oob i (mL M a)) (h : P (sA M a i.toNatClampNeg (vp_nar .byte v))) : ok (tB M a i v) P := ⟨_, by unfold tB; rw [if_pos ⟨hk, hi⟩], h⟩
theorem ok_tZ {M : zM} {a : Nat} {i v : Int32} {P : zM → Prop} (hk : mK M a = 102) (hi : ¬ oob i (mL M a)) (h : P (sA M a i.toNatClampNeg (vp_nar .boolean v))) : ok (tZ M a i v) P := ⟨_, by unfold tZ; rw [if_pos ⟨hk, hi⟩], h⟩
theorem ok_lQ {M : zM} {t a v : Nat} {i : Int32} {P : Nat → Prop} (hk : (mK M a = 110 + t ∧ t < 3) ∨ mK M a = 210 + t) (hi : ¬ oob i (mL M a)) (hv : mQ M a i.toNatClampNeg = some v) (h : P v) : ok (lQ t M a i) P := ⟨_, by unfold lQ; rw [if_pos ⟨hk, hi⟩, hv], h⟩
theorem ok_tQ {M : zM} {t a : Nat} {i : Int32} {v : Option Nat} {P : zM → Prop} (hk : mK M a = 110 + t) (hi : ¬ oob i (mL M a)) (h : P (sQ M a i.toNatClampNeg v)) : ok (tQ t M a i v) P := ⟨_, by unfold tQ; rw [if_pos ⟨hk, hi⟩], h⟩
theorem ok_gL {M : zM} {a : Nat} {P : Int32 → Prop} (hk : zrow (mK M a)) (h : P (nI (mL M a))) : ok (gL M a) P := ⟨_, by unfold gL; rw [if_pos hk], h⟩
theorem ok_aA {M : zM} {t : Nat} {n : Int32} {P : Nat × zM → Prop} (hn : ¬ n < 0 ∧ n.toNatClampNeg ≤ 100000) (h : P (mX M, nA M t n.toNatClampNeg)) : ok (aA t M n) P := ⟨_, by unfold aA; rw [if_pos hn], h⟩
theorem ok_aQ {M : zM} {t : Nat} {n : Int32} {P : Nat × zM → Prop} (hn : ¬ n < 0 ∧ n.toNatClampNeg ≤ 100000) (h : P (mX M, nQ M t n.toNatClampNeg)) : ok (aQ t M n) P := ⟨_, by unfold aQ; rw [if_pos hn], h⟩
theorem nI_oob {n N : Nat} (h : n < N) (hN : N < 2 ^ 31) : ¬ oob (nI n) N := nI_in h hN
theorem nI_nn {n : Nat} (h : n < 2 ^ 31) : ¬ nI n < 0 := by
  have e : (0 : Int32) = nI 0 := rfl
  rw [e, nI_ltI h (by decide)]
  exact Nat.not_lt_zero _
theorem nI_cl {n : Nat} (h : n < 2 ^ 31) : (nI n).toNatClampNeg = n := pk_cl n rfl h
/-! ===== PURE: the class's state: fields, long fields, rows of numbers over a memory whose shape stays ===== -/
def cs (I : Nat → Nat → Int32) (J : Nat → Nat → Int64) (A : Nat → Nat → Int32) (M : zM) : zM := (mK M, mL M, I, J, mD M, mR M, A, mQ M, mX M, mS M)
theorem cs_eta (M : zM) : cs (mI M) (mJ M) (mA M) M = M := rfl
section CS
variable {I : Nat → Nat → Int32} {J : Nat → Nat → Int64} {A : Nat → Nat → Int32} {M : zM}
theorem cs_K : mK (cs I J A M) = mK M := rfl
theorem gI_cs {c k a : Nat} (q : Nat) (hk : mK M a = c) (hq : 32 * c + k = q := by rfl) : gI c k (cs I J A M) a = some (I q a) := by
  subst hq
  exact if_pos hk
theorem gJ_cs {c k a : Nat} (q : Nat) (hk : mK M a = c) (hq : 32 * c + k = q := by rfl) : gJ c k (cs I J A M) a = some (J q a) := by
  subst hq
  exact if_pos hk
theorem gR_cs {c k a v : Nat} (q : Nat) (hk : mK M a = c) (hv : mR M q a = some v) (hq : 32 * c + k = q := by rfl) : gR c k (cs I J A M) a = some v := by
  subst hq
  exact (if_pos hk).trans hv
theorem pI_cs {c k a : Nat} {v : Int32} (q : Nat) (hk : mK M a = c) (hq : 32 * c + k = q := by rfl) : pI c k (cs I J A M) a v = some (cs (u2 I q a v) J A M) := by
  subst hq
  exact if_pos hk
theorem pJ_cs {c k a : Nat} {v : Int64} (q : Nat) (hk : mK M a = c) (hq : 32 * c + k = q := by rfl) : pJ c k (cs I J A M) a v = some (cs I (u2 J q a v) A M) := by
  subst hq
  exact if_pos hk
theorem pZ_cs {c k a : Nat} {v : Int32} (q : Nat) (hk : mK M a = c) (hv : v = 0 ∨ v = 1) (hq : 32 * c + k = q := by rfl) : pZ c k (cs I J A M) a v = some (cs (u2 I q a v) J A M) := by
  subst hq
  exact if_pos ⟨hk, hv⟩
theorem lA_cs {b i : Nat} (hk : mK M b = 100) (hi : i < mL M b) (hL : mL M b < 2 ^ 31) : lA 0 (cs I J A M) b (nI i) = some (A b i) := by
  have e : lA 0 (cs I J A M) b (nI i) = some (A b (nI i).toNatClampNeg) := if_pos ⟨Or.inl hk, nI_oob hi hL⟩
  rw [e, nI_cl (by omega)]
theorem lA_ex {b i : Nat} (hk : mK M b = 200) (hi : i < mL M b) (hL : mL M b < 2 ^ 31) : lA 0 (cs I J A M) b (nI i) = some (A b i) := by
  have e : lA 0 (cs I J A M) b (nI i) = some (A b (nI i).toNatClampNeg) := if_pos ⟨Or.inr hk, nI_oob hi hL⟩
  rw [e, nI_cl (by omega)]
theorem tA_cs {b i : Nat} {v : Int32} (hk : mK M b = 100) (hi : i < mL M b) (hL : mL M b < 2 ^ 31) : tA (cs I J A M) b (nI i) v = some (cs I J (u2 A b i v) M) := by
  have e : tA (cs I J A M) b (nI i) v = some (cs I J (u2 A b (nI i).toNatClampNeg v) M) := if_pos ⟨hk, nI_oob hi hL⟩
  rw [e, nI_cl (by omega)]
theorem gL_cs {b n : Nat} (hk : mK M b = 100) (hn : mL M b = n) : gL (cs I J A M) b = some (nI n) := by
  subst hn
  exact if_pos (Or.inl ⟨Nat.le_of_eq hk.symm, by show mK M b < 103; omega⟩)
end CS
theorem le_t {x y : Int32} (a b : Nat) (h : a ≤ b) (hb : b < 2 ^ 31) (hx : x = nI a := by rfl) (hy : y = nI b := by rfl) : x ≤ y := by
  subst hx; subst hy
  exact (nI_leI (by omega) hb).mpr h
theorem le_f {x y : Int32} (a b : Nat) (h : b < a) (ha : a < 2 ^ 31) (hx : x = nI a := by rfl) (hy : y = nI b := by rfl) : ¬ x ≤ y := by
  subst hx; subst hy
  exact fun q => by have := (nI_leI ha (by omega)).mp q; omega
theorem lt_t {x y : Int32} (a b : Nat) (h : a < b) (hb : b < 2 ^ 31) (hx : x = nI a := by rfl) (hy : y = nI b := by rfl) : x < y := by
  subst hx; subst hy
  exact (nI_ltI (by omega) hb).mpr h
theorem lt_f {x y : Int32} (a b : Nat) (h : b ≤ a) (ha : a < 2 ^ 31) (hx : x = nI a := by rfl) (hy : y = nI b := by rfl) : ¬ x < y := by
  subst hx; subst hy
  exact fun q => by have := (nI_ltI ha (by omega)).mp q; omega
theorem eq_f {x y : Int32} (a b : Nat) (h : a ≠ b) (ha : a < 2 ^ 31) (hb : b < 2 ^ 31) (hx : x = nI a := by rfl) (hy : y = nI b := by rfl) : ¬ x = y := by
  subst hx; subst hy
  exact fun q => h ((nI_eq ha hb).mp q)
/-- a seat: its tiles, its sets, its river -/
def SE (M : zM) (a t s r : Nat) : Prop := mK M a = 7 ∧ mR M 224 a = some t ∧ mR M 225 a = some s ∧ mR M 226 a = some r ∧ (mK M t = 100 ∧ mL M t = 25) ∧ (mK M s = 100 ∧ mL M s = 3) ∧ (mK M r = 100 ∧ mL M r = 64)
/-- the sum of d values from i on -/
def sm (f : Nat → Int32) (i : Nat) : Nat → Int32
  | 0 => 0
  | d + 1 => f i + sm f (i + 1) d
section SEAT
variable {I : Nat → Nat → Int32} {J : Nat → Nat → Int64} {A : Nat → Nat → Int32} {M : zM} {a t s r : Nat}
theorem q_count (h : SE M a t s r) {k : Nat} (hk : k < 25) : f_X1_count a (nI k) (cs I J A M) = some (A t k, cs I J A M) := by
  obtain ⟨h1, h2, h3, h4, ⟨h5, h6⟩, -⟩ := h
  unfold f_X1_count f_X1_count_0
  rw [if_neg (nI_nn (by omega)), if_neg (le_f (x := 25) 25 k (by omega) (by decide)), gR_cs 224 h1 h2]
  show (lA 0 (cs I J A M) t (nI k)).bind _ = _
  rw [lA_cs h5 (by omega) (by omega)]
  rfl
theorem q_change (h : SE M a t s r) {k : Nat} (hk : k < 25) (v : Int32) : f_X1_change a (nI k) v (cs I J A M) = some ((), cs I J (u2 A t k (A t k + v)) M) := by
  obtain ⟨h1, h2, h3, h4, ⟨h5, h6⟩, -⟩ := h
  unfold f_X1_change f_X1_change_0
  rw [if_neg (nI_nn (by omega)), if_neg (le_f (x := 25) 25 k (by omega) (by decide)), gR_cs 224 h1 h2]
  show (lA 0 (cs I J A M) t (nI k)).bind _ = _
  rw [lA_cs h5 (by omega) (by omega)]
  show (tA (cs I J A M) t (nI k) _).bind _ = _
  rw [tA_cs h5 (by omega) (by omega)]
  rfl
theorem q_inHand_4 (h : SE M a t s r) : ∀ (d n i : Nat) (v : Int32), i + d = 25 → d < n → f_X1_inHand_4 n a v (nI i) (cs I J A M) = some (v + sm (A t) i d, cs I J A M) := by
  obtain ⟨h1, h2, h3, h4, ⟨h5, h6⟩, -⟩ := h
  intro d
  induction d with
  | zero =>
    intro n i v hi hn
    obtain ⟨n, rfl⟩ : ∃ m, n = m + 1 := ⟨n - 1, by omega⟩
    rw [f_X1_inHand_4, if_pos (le_t (x := 25) 25 i (by omega) (by omega))]
    simp [sm]
  | succ d ih =>
    intro n i v hi hn
    obtain ⟨n, rfl⟩ : ∃ m, n = m + 1 := ⟨n - 1, by omega⟩
    rw [f_X1_inHand_4, if_neg (le_f (x := 25) 25 i (by omega) (by decide)), gR_cs 224 h1 h2]
    show (lA 0 (cs I J A M) t (nI i)).bind _ = _
    rw [lA_cs h5 (by omega) (by omega)]
    show f_X1_inHand_4 n a (v + A t i) (nI i + 1) (cs I J A M) = _
    rw [nI_1, ih n (i + 1) _ (by omega) (by omega), sm, Int32.add_assoc]
theorem q_inHand (h : SE M a t s r) : f_X1_inHand a (cs I J A M) = some (sm (A t) 0 25, cs I J A M) := by
  have e := q_inHand_4 (I := I) (J := J) (A := A) h 25 zN 0 0 rfl (by decide)
  rw [Int32.zero_add] at e
  exact e
theorem q_size (h : SE M a t s r) : f_X1_size a (cs I J A M) = some (sm (A t) 0 25 + 3 * I 228 a, cs I J A M) := by
  unfold f_X1_size f_X1_size_0
  rw [if_pos (show mK (cs I J A M) a = 7 from h.1), q_inHand h]
  show (gI 7 4 (cs I J A M) a).bind _ = _
  rw [gI_cs 228 h.1]
  rfl
end SEAT
/-! ===== PURE: a seat of the class ===== -/
/-- how many tiles of a kind a set takes -/
def tl (f l k : Int32) : Int32 := if f = 1 then (if k < l then 0 else if l + 2 < k then 0 else 1) else if k = l then (if f = 0 then 3 else 4) else 0
/-- a row, zero below i -/
def z25 (A : Nat → Nat → Int32) (t i : Nat) : Nat → Nat → Int32 := fun b j => if b = t ∧ j < i then 0 else A b j
theorem z25_0 (A : Nat → Nat → Int32) (t : Nat) : z25 A t 0 = A := by
  funext b j
  unfold z25
  rw [if_neg (by omega)]
theorem z25_s (A : Nat → Nat → Int32) (t i : Nat) : u2 (z25 A t i) t i 0 = z25 A t (i + 1) := by
  funext b j
  unfold u2 z25
  by_cases h : b = t ∧ j < i + 1
  · rw [if_pos h]
    by_cases q : b = t ∧ j = i
    · rw [if_pos q]
    · rw [if_neg q, if_pos (by omega)]
  · rw [if_neg h, if_neg (by omega), if_neg (by omega)]
/-- a row less a function, below i -/
def mn (A : Nat → Nat → Int32) (t : Nat) (g : Nat → Int32) (i : Nat) : Nat → Nat → Int32 := fun b j => if b = t ∧ j < i then A b j - g j else A b j
theorem mn_0 (A : Nat → Nat → Int32) (t : Nat) (g : Nat → Int32) : mn A t g 0 = A := by
  funext b j
  unfold mn
  rw [if_neg (by omega)]
theorem mn_s (A : Nat → Nat → Int32) (t : Nat) (g : Nat → Int32) (i : Nat) : u2 (mn A t g i) t i (A t i - g i) = mn A t g (i + 1) := by
  funext b j
  unfold u2 mn
  by_cases q : b = t ∧ j = i
  · obtain ⟨rfl, rfl⟩ := q
    rw [if_pos ⟨rfl, rfl⟩, if_pos ⟨rfl, by omega⟩]
  · rw [if_neg q]
    by_cases h : b = t ∧ j < i
    · rw [if_pos h, if_pos (by omega)]
    · rw [if_neg h, if_neg (by omega)]
section SEAT1
variable {I : Nat → Nat → Int32} {J : Nat → Nat → Int64} {A : Nat → Nat → Int32} {M : zM} {a t s r : Nat}
theorem q_clear_2 (h : SE M a t s r) : ∀ (d n i : Nat), i + d = 25 → d < n → f_X1_clear_2 n a (nI i) (cs I J (z25 A t i) M) = some ((), cs (u2 (u2 (u2 I 228 a 0) 229 a 0) 230 a 0) (u2 J 227 a 0) (z25 A t 25) M) := by
  obtain ⟨h1, h2, h3, h4, ⟨h5, h6⟩, -⟩ := h
  intro d
  induction d with
  | zero =>
    intro n i hi hn
    obtain ⟨n, rfl⟩ : ∃ m, n = m + 1 := ⟨n - 1, by omega⟩
    obtain rfl : i = 25 := by omega
    rw [f_X1_clear_2, if_pos (le_t (x := 25) 25 25 (by omega) (by omega)), pJ_cs 227 h1]
    show (pI 7 4 (cs _ _ _ M) a 0).bind _ = _
    rw [pI_cs 228 h1]
    show (pI 7 5 (cs _ _ _ M) a 0).bind _ = _
    rw [pI_cs 229 h1]
    show (pZ 7 6 (cs _ _ _ M) a 0).bind _ = _
    rw [pZ_cs 230 h1 (Or.inl rfl)]
    rfl
  | succ d ih =>
    intro n i hi hn
    obtain ⟨n, rfl⟩ : ∃ m, n = m + 1 := ⟨n - 1, by omega⟩
    rw [f_X1_clear_2, if_neg (le_f (x := 25) 25 i (by omega) (by decide)), gR_cs 224 h1 h2]
    show (tA (cs _ _ _ M) t (nI i) 0).bind _ = _
    rw [tA_cs h5 (by omega) (by omega)]
    show f_X1_clear_2 n a (nI i + 1) (cs I J (u2 (z25 A t i) t i 0) M) = _
    rw [nI_1, z25_s, ih n (i + 1) (by omega) (by omega)]
theorem q_clear (h : SE M a t s r) : f_X1_clear a (cs I J A M) = some ((), cs (u2 (u2 (u2 I 228 a 0) 229 a 0) 230 a 0) (u2 J 227 a 0) (z25 A t 25) M) := by
  have e := q_clear_2 (I := I) (J := J) (A := A) h 25 zN 0 rfl (by decide)
  rw [z25_0] at e
  exact e
theorem q_tilesOf (f l k : Int32) (M : zM) : f_X1_tilesOf f l k M = some (tl f l k, M) := by
  unfold f_X1_tilesOf f_X1_tilesOf_0 tl
  repeat' split
  all_goals first | rfl | contradiction
theorem q_openSets_4 (h : SE M a t s r) {N : Nat} (hN : I 228 a = nI N) (hN3 : N ≤ 3) : ∀ (d n i : Nat) (v : Int32), i + d = N → d < n → f_X1_openSets_4 n a v (nI i) (cs I J A M) = some (v + sm (fun j => if A s j / 100 = 3 then 0 else 1) i d, cs I J A M) := by
  obtain ⟨h1, h2, h3, h4, -, ⟨h5, h6⟩, -⟩ := h
  intro d
  induction d with
  | zero =>
    intro n i v hi hn
    obtain ⟨n, rfl⟩ : ∃ m, n = m + 1 := ⟨n - 1, by omega⟩
    rw [f_X1_openSets_4, gI_cs 228 h1]
    show (if I 228 a ≤ nI i then _ else _) = _
    rw [hN, if_pos (le_t N i (by omega) (by omega))]
    simp [sm]
  | succ d ih =>
    intro n i v hi hn
    obtain ⟨n, rfl⟩ : ∃ m, n = m + 1 := ⟨n - 1, by omega⟩
    rw [f_X1_openSets_4, gI_cs 228 h1]
    show (if I 228 a ≤ nI i then _ else _) = _
    rw [hN, if_neg (le_f N i (by omega) (by omega)), if_neg (le_f (x := 3) 3 i (by omega) (by decide)), gR_cs 225 h1 h3]
    show (lA 0 (cs I J A M) s (nI i)).bind _ = _
    rw [lA_cs h5 (by omega) (by omega)]
    show (if A s i / 100 = 3 then _ else _) = _
    rw [nI_1, sm]
    by_cases q : A s i / 100 = 3
    · rw [if_pos q, if_pos q, ih n (i + 1) _ (by omega) (by omega), Int32.add_assoc]
    · rw [if_neg q, if_neg q, ih n (i + 1) _ (by omega) (by omega), Int32.add_assoc]
theorem q_openSets (h : SE M a t s r) {N : Nat} (hN : I 228 a = nI N) (hN3 : N ≤ 3) : f_X1_openSets a (cs I J A M) = some (sm (fun j => if A s j / 100 = 3 then 0 else 1) 0 N, cs I J A M) := by
  have e := q_openSets_4 (J := J) (A := A) h hN hN3 N zN 0 0 (by omega) (by show N < 130; omega)
  rw [Int32.zero_add] at e
  exact e
theorem q_rowLies_2 (h : SE M a t s r) {N : Nat} (hN : I 228 a = nI N) (hN3 : N ≤ 3) : ∀ (d n i : Nat), i + d = N → d < n → ∃ v : Int32, f_X1_rowLies_2 n a (nI i) (cs I J A M) = some (v, cs I J A M) ∧ (v = 0 ∨ v = 1) ∧ (v = 0 ↔ ∀ j, i ≤ j → j < N → A s j / 100 ≠ 1) := by
  obtain ⟨h1, h2, h3, h4, -, ⟨h5, h6⟩, -⟩ := h
  intro d
  induction d with
  | zero =>
    intro n i hi hn
    obtain ⟨n, rfl⟩ : ∃ m, n = m + 1 := ⟨n - 1, by omega⟩
    rw [f_X1_rowLies_2, gI_cs 228 h1]
    refine ⟨0, ?_, Or.inl rfl, ⟨fun _ j q1 q2 => by omega, fun _ => rfl⟩⟩
    show (if I 228 a ≤ nI i then _ else _) = _
    rw [hN, if_pos (le_t N i (by omega) (by omega))]
  | succ d ih =>
    intro n i hi hn
    obtain ⟨n, rfl⟩ : ∃ m, n = m + 1 := ⟨n - 1, by omega⟩
    have e : f_X1_rowLies_2 (n + 1) a (nI i) (cs I J A M) = if A s i / 100 = 1 then some (1, cs I J A M) else f_X1_rowLies_2 n a (nI (i + 1)) (cs I J A M) := by
      rw [f_X1_rowLies_2, gI_cs 228 h1]
      show (if I 228 a ≤ nI i then _ else _) = _
      rw [hN, if_neg (le_f N i (by omega) (by omega)), if_neg (le_f (x := 3) 3 i (by omega) (by decide)), gR_cs 225 h1 h3]
      show (lA 0 (cs I J A M) s (nI i)).bind _ = _
      rw [lA_cs h5 (by omega) (by omega), ← nI_1]
      rfl
    by_cases q : A s i / 100 = 1
    · refine ⟨1, by rw [e, if_pos q], Or.inr rfl, ⟨fun z => absurd z (by decide), fun z => absurd q (z i (Nat.le_refl _) (by omega))⟩⟩
    · obtain ⟨v, e1, e2, e3⟩ := ih n (i + 1) (by omega) (by omega)
      refine ⟨v, by rw [e, if_neg q, e1], e2, e3.trans ⟨fun z j q1 q2 => ?_, fun z j q1 q2 => z j (by omega) q2⟩⟩
      by_cases w : j = i
      · rw [w]; exact q
      · exact z j (by omega) q2
theorem q_rowLies (h : SE M a t s r) {N : Nat} (hN : I 228 a = nI N) (hN3 : N ≤ 3) : ∃ v : Int32, f_X1_rowLies a (cs I J A M) = some (v, cs I J A M) ∧ (v = 0 ∨ v = 1) ∧ (v = 0 ↔ ∀ j, j < N → A s j / 100 ≠ 1) := by
  obtain ⟨v, e1, e2, e3⟩ := q_rowLies_2 (J := J) (A := A) h hN hN3 N zN 0 (by omega) (by show N < 130; omega)
  exact ⟨v, e1, e2, e3.trans ⟨fun z j q => z j (Nat.zero_le _) q, fun z j _ q => z j q⟩⟩
theorem q_inSets_4 (h : SE M a t s r) {N : Nat} (hN : I 228 a = nI N) (hN3 : N ≤ 3) (k : Int32) : ∀ (d n i : Nat) (v : Int32), i + d = N → d < n → f_X1_inSets_4 n a k v (nI i) (cs I J A M) = some (v + sm (fun j => tl (A s j / 100) (zmd (A s j) 100) k) i d, cs I J A M) := by
  obtain ⟨h1, h2, h3, h4, -, ⟨h5, h6⟩, -⟩ := h
  intro d
  induction d with
  | zero =>
    intro n i v hi hn
    obtain ⟨n, rfl⟩ : ∃ m, n = m + 1 := ⟨n - 1, by omega⟩
    rw [f_X1_inSets_4, gI_cs 228 h1]
    show (if I 228 a ≤ nI i then _ else _) = _
    rw [hN, if_pos (le_t N i (by omega) (by omega))]
    simp [sm]
  | succ d ih =>
    intro n i v hi hn
    obtain ⟨n, rfl⟩ : ∃ m, n = m + 1 := ⟨n - 1, by omega⟩
    rw [f_X1_inSets_4, gI_cs 228 h1]
    show (if I 228 a ≤ nI i then _ else _) = _
    rw [hN, if_neg (le_f N i (by omega) (by omega)), if_neg (le_f (x := 3) 3 i (by omega) (by decide)), gR_cs 225 h1 h3]
    show (lA 0 (cs I J A M) s (nI i)).bind _ = _
    rw [lA_cs h5 (by omega) (by omega)]
    rw [Option.bind_some, Option.bind_some, lA_cs h5 (by omega) (by omega), Option.bind_some, q_tilesOf, Option.bind_some]
    show f_X1_inSets_4 n a k _ (nI i + 1) (cs I J A M) = _
    rw [nI_1, ih n (i + 1) _ (by omega) (by omega), sm, Int32.add_assoc]
theorem q_inSets (h : SE M a t s r) {N : Nat} (hN : I 228 a = nI N) (hN3 : N ≤ 3) (k : Int32) : f_X1_inSets a k (cs I J A M) = some (sm (fun j => tl (A s j / 100) (zmd (A s j) 100) k) 0 N, cs I J A M) := by
  have e := q_inSets_4 (J := J) (A := A) h hN hN3 k N zN 0 0 (by omega) (by show N < 130; omega)
  rw [Int32.zero_add] at e
  exact e
theorem q_lying_8 (h : SE M a t s r) {N : Nat} (hN : I 229 a = nI N) (hN3 : N ≤ 64) (k : Int32) : ∀ (d n i : Nat) (v : Int32), i + d = N → d < n → f_X1_lying_8 n a k v (nI i) (cs I J A M) = some (v + sm (fun j => if A r j = k then 1 else 0) i d, cs I J A M) := by
  obtain ⟨h1, h2, h3, h4, -, -, ⟨h5, h6⟩⟩ := h
  intro d
  induction d with
  | zero =>
    intro n i v hi hn
    obtain ⟨n, rfl⟩ : ∃ m, n = m + 1 := ⟨n - 1, by omega⟩
    rw [f_X1_lying_8, gI_cs 229 h1]
    show (if I 229 a ≤ nI i then _ else _) = _
    rw [hN, if_pos (le_t N i (by omega) (by omega))]
    simp [sm]
  | succ d ih =>
    intro n i v hi hn
    obtain ⟨n, rfl⟩ : ∃ m, n = m + 1 := ⟨n - 1, by omega⟩
    rw [f_X1_lying_8, gI_cs 229 h1]
    show (if I 229 a ≤ nI i then _ else _) = _
    rw [hN, if_neg (le_f N i (by omega) (by omega)), if_neg (le_f (x := 64) 64 i (by omega) (by decide)), gR_cs 226 h1 h4]
    show (lA 0 (cs I J A M) r (nI i)).bind _ = _
    rw [lA_cs h5 (by omega) (by omega)]
    show (if A r i = k then _ else _) = _
    rw [nI_1, sm]
    by_cases q : A r i = k
    · rw [if_pos q, if_pos q, ih n (i + 1) _ (by omega) (by omega), Int32.add_assoc]
    · rw [if_neg q, if_neg q, ih n (i + 1) _ (by omega) (by omega), Int32.add_assoc]
theorem q_lying (h : SE M a t s r) {N m : Nat} (hN : I 228 a = nI N) (hN3 : N ≤ 3) (hm : I 229 a = nI m) (hm64 : m ≤ 64) (k : Int32) : f_X1_lying a k (cs I J A M) = some (sm (fun j => tl (A s j / 100) (zmd (A s j) 100) k) 0 N + sm (fun j => if A r j = k then 1 else 0) 0 m, cs I J A M) := by
  unfold f_X1_lying f_X1_lying_0
  rw [if_pos (show mK (cs I J A M) a = 7 from h.1), q_inSets h hN hN3, Option.bind_some]
  exact q_lying_8 (J := J) (A := A) h hm hm64 k m zN 0 _ (by omega) (by show m < 130; omega)
theorem q_laySet_18 (h : SE M a t s r) {N : Nat} (hN : I 228 a = nI N) (hN3 : N < 3) (hts : t ≠ s) (f l : Int32) : ∀ (d n i : Nat), i + d = 25 → d < n → f_X1_laySet_18 n a f l (nI i) (cs I J (mn A t (fun j => tl f l (nI j)) i) M) = some ((), cs (u2 I 228 a (nI N + 1)) J (u2 (mn A t (fun j => tl f l (nI j)) 25) s N (100 * f + l)) M) := by
  obtain ⟨h1, h2, h3, h4, ⟨h5, h6⟩, ⟨h7, h8⟩, -⟩ := h
  intro d
  induction d with
  | zero =>
    intro n i hi hn
    obtain ⟨n, rfl⟩ : ∃ m, n = m + 1 := ⟨n - 1, by omega⟩
    obtain rfl : i = 25 := by omega
    rw [f_X1_laySet_18, if_pos (le_t (x := 25) 25 25 (by omega) (by omega)), gR_cs 225 h1 h3]
    show (gI 7 4 (cs _ _ _ M) a).bind _ = _
    rw [gI_cs 228 h1]
    show (tA (cs _ _ _ M) s (I 228 a) _).bind _ = _
    rw [hN, tA_cs h7 (by omega) (by omega)]
    show (gI 7 4 (cs _ _ _ M) a).bind _ = _
    rw [gI_cs 228 h1]
    show (pI 7 4 (cs _ _ _ M) a (I 228 a + 1)).bind _ = _
    rw [hN, pI_cs 228 h1]
    rfl
  | succ d ih =>
    intro n i hi hn
    obtain ⟨n, rfl⟩ : ∃ m, n = m + 1 := ⟨n - 1, by omega⟩
    rw [f_X1_laySet_18, if_neg (le_f (x := 25) 25 i (by omega) (by decide)), gR_cs 224 h1 h2]
    show (lA 0 (cs _ _ _ M) t (nI i)).bind _ = _
    rw [lA_cs h5 (by omega) (by omega)]
    show (f_X1_tilesOf _ _ _ _).bind _ = _
    rw [q_tilesOf]
    show (tA (cs _ _ _ M) t (nI i) _).bind _ = _
    rw [tA_cs h5 (by omega) (by omega)]
    show f_X1_laySet_18 n a f l (nI i + 1) (cs I J (u2 (mn A t (fun j => tl f l (nI j)) i) t i (mn A t (fun j => tl f l (nI j)) i t i - tl f l (nI i))) M) = _
    have e : mn A t (fun j => tl f l (nI j)) i t i = A t i := if_neg (by omega)
    rw [nI_1, e, mn_s, ih n (i + 1) (by omega) (by omega)]
theorem q_laySet (h : SE M a t s r) {N : Nat} (hN : I 228 a = nI N) (hN3 : N < 3) (hts : t ≠ s) (f l : Int32) : f_X1_laySet a f l (cs I J A M) = some ((), cs (u2 I 228 a (nI N + 1)) J (u2 (mn A t (fun j => tl f l (nI j)) 25) s N (100 * f + l)) M) := by
  unfold f_X1_laySet f_X1_laySet_0
  rw [gI_cs 228 h.1]
  show (if I 228 a < 0 then _ else _) = _
  rw [hN, if_neg (nI_nn (by omega))]
  rw [Option.bind_some, if_pos (lt_t (y := 3) N 3 (by omega) (by decide))]
  have e := q_laySet_18 (J := J) (A := A) h hN hN3 hts f l 25 zN 0 rfl (by decide)
  rw [mn_0] at e
  exact e
theorem q_toRiver (h : SE M a t s r) {m k : Nat} (hm : I 229 a = nI m) (hm64 : m < 64) (hk : k < 25) : f_X1_toRiver a (nI k) (cs I J A M) = some ((), cs (u2 I 229 a (nI m + 1)) (u2 J 227 a (J 227 a ||| ((1 : Int64) <<< ((nI k).toInt64 &&& 63)))) (u2 (u2 A t k (A t k + -1)) r m (nI k)) M) := by
  have h' := h
  obtain ⟨h1, h2, h3, h4, ⟨h5, h6⟩, -, ⟨h7, h8⟩⟩ := h
  unfold f_X1_toRiver f_X1_toRiver_0
  rw [gI_cs 229 h1]
  show (if I 229 a < 0 then _ else _) = _
  rw [hm, if_neg (nI_nn (by omega))]
  rw [Option.bind_some, if_pos (lt_t (y := 64) m 64 (by omega) (by decide)), if_pos (show mK (cs I J A M) a = 7 from h1), q_change h' hk]
  show (gR 7 2 (cs _ _ _ M) a).bind _ = _
  rw [gR_cs 226 h1 h4]
  show (gI 7 5 (cs _ _ _ M) a).bind _ = _
  rw [gI_cs 229 h1]
  show (tA (cs _ _ _ M) r (I 229 a) (nI k)).bind _ = _
  rw [hm, tA_cs h7 (by omega) (by omega)]
  show (gI 7 5 (cs _ _ _ M) a).bind _ = _
  rw [gI_cs 229 h1]
  show (pI 7 5 (cs _ _ _ M) a (I 229 a + 1)).bind _ = _
  rw [hm, pI_cs 229 h1]
  show (gJ 7 3 (cs _ _ _ M) a).bind _ = _
  rw [gJ_cs 227 h1]
  show (pJ 7 3 (cs _ _ _ M) a _).bind _ = _
  rw [pJ_cs 227 h1]
  rfl
theorem q_latest (h : SE M a t s r) {m : Nat} (hm : I 229 a = nI m) (hm64 : m ≤ 64) : f_X1_latestInRiver a (cs I J A M) = some (if m = 0 then -1 else A r (m - 1), cs I J A M) := by
  obtain ⟨h1, h2, h3, h4, -, -, ⟨h7, h8⟩⟩ := h
  unfold f_X1_latestInRiver f_X1_latestInRiver_0
  rw [gI_cs 229 h1]
  show (if I 229 a ≤ 0 then _ else _) = _
  by_cases q : m = 0
  · subst q
    rw [hm, if_pos (le_t (y := 0) 0 0 (by omega) (by decide)), if_pos rfl]
  · rw [hm, if_neg (le_f (y := 0) m 0 (by omega) (by omega)), if_neg q]
    have e : nI m - 1 = nI (m - 1) := pk_sub (a := m) (b := 1) (by omega)
    rw [Option.bind_some, if_neg (lt_f (x := 64) 64 m (by omega) (by decide)), gR_cs 226 h1 h4, Option.bind_some, Option.bind_some, e, lA_cs h7 (by omega) (by omega)]
    rfl
theorem q_leave (h : SE M a t s r) {m : Nat} (hm : I 229 a = nI m) (hm64 : m ≤ 64) : f_X1_leaveRiver a (cs I J A M) = some (if m = 0 then -1 else A r (m - 1), if m = 0 then cs I J A M else cs (u2 I 229 a (nI (m - 1))) J A M) := by
  unfold f_X1_leaveRiver f_X1_leaveRiver_0
  rw [if_pos (show mK (cs I J A M) a = 7 from h.1), q_latest h hm hm64, Option.bind_some]
  show (gI 7 5 (cs I J A M) a).bind _ = _
  rw [gI_cs 229 h.1, Option.bind_some, hm]
  by_cases q : m = 0
  · subst q
    rw [if_pos (le_t (y := 0) 0 0 (by omega) (by decide)), if_pos rfl, if_pos rfl]
  · rw [if_neg (le_f (y := 0) m 0 (by omega) (by omega)), if_neg q, if_neg q]
    have e : nI m - 1 = nI (m - 1) := pk_sub (a := m) (b := 1) (by omega)
    rw [Option.bind_some, e]
    show (pI 7 5 (cs I J A M) a (nI (m - 1))).bind _ = _
    rw [pI_cs 229 h.1]
    rfl
end SEAT1
/-! ===== PURE: how the class parts a hand into sets and a pair ===== -/
theorem ur_ur {α : Type} (A : Nat → Nat → α) (r : Nat) (w w' : Nat → α) : ur (ur A r w) r w' = ur A r w' := by
  funext i j
  unfold ur
  by_cases h : i = r
  · rw [if_pos h, if_pos h]
  · rw [if_neg h, if_neg h, if_neg h]
theorem u2_ur {α : Type} (A : Nat → Nat → α) (r k : Nat) (w : Nat → α) (v : α) : u2 (ur A r w) r k v = ur A r (u1 w k v) := by
  funext i j
  unfold u2 ur u1
  by_cases h : i = r
  · subst h
    by_cases q : j = k
    · rw [if_pos ⟨rfl, q⟩, if_pos rfl, if_pos q]
    · rw [if_neg (fun z => q z.2), if_pos rfl, if_pos rfl, if_neg q]
  · rw [if_neg (fun z => h z.1), if_neg h, if_neg h]
theorem ur_at {α : Type} (A : Nat → Nat → α) (r j : Nat) (w : Nat → α) : ur A r w r j = w j := if_pos rfl
theorem ur_ne {α : Type} (A : Nat → Nat → α) {r b : Nat} (j : Nat) (w : Nat → α) (h : b ≠ r) : ur A r w b j = A b j := if_neg h
theorem ur_self {α : Type} (A : Nat → Nat → α) (r : Nat) : ur A r (A r) = A := by
  funext i j
  unfold ur
  by_cases h : i = r
  · rw [if_pos h, h]
  · rw [if_neg h]
theorem u1_at {α : Type} (w : Nat → α) (k : Nat) (v : α) : u1 w k v k = v := if_pos rfl
theorem u1_ne {α : Type} (w : Nat → α) {k j : Nat} (v : α) (h : j ≠ k) : u1 w k v j = w j := if_neg h
/-- a row begins there -/
def rw_ (i : Nat) : Bool := decide (i < 18 ∧ i % 9 ≤ 6)
/-- what is left over by three must begin rows -/
def ris : Nat → Nat → (Nat → Nat) → Bool
  | 0, _, _ => true
  | d + 1, i, g => if g i % 3 = 0 then ris d (i + 1) g else if rw_ i = false ∨ g (i + 1) < g i % 3 ∨ g (i + 2) < g i % 3 then false else ris d (i + 1) (u1 (u1 g (i + 1) (g (i + 1) - g i % 3)) (i + 2) (g (i + 2) - g i % 3))
/-- sets and a pair: by the first pair from i on that leaves sets -/
def cmp : Nat → Nat → (Nat → Nat) → Bool
  | 0, _, _ => false
  | d + 1, i, g => if 2 ≤ g i ∧ ris 25 0 (u1 g i (g i - 2)) = true then true else cmp d (i + 1) g
def b32 (b : Bool) : Int32 := if b then 1 else 0
theorem b32_0 (b : Bool) : b32 b = 0 ↔ b = false := by cases b <;> decide
/-- the rows that the class parts with -/
def PA (M : zM) (a q : Nat) : Prop := mK M a = 6 ∧ mR M 192 a = some q ∧ mK M q = 100 ∧ mL M q = 25
theorem q_startsRow (i : Nat) (hi : i < 2 ^ 31) (M : zM) : f_X3_startsRow (nI i) M = some (b32 (rw_ i), M) := by
  unfold f_X3_startsRow f_X3_startsRow_0
  rw [if_neg (nI_nn hi)]
  by_cases h : 18 ≤ i
  · rw [if_pos (le_t (x := 18) 18 i h hi)]
    have e : rw_ i = false := decide_eq_false (by omega)
    rw [e]
    rfl
  · rw [if_neg (le_f (x := 18) 18 i (by omega) (by decide))]
    have e : zmd (nI i) 9 = nI (i % 9) := pk_rem (a := i) (d := 9) hi (by decide) (by decide)
    rw [e]
    by_cases h2 : i % 9 ≤ 6
    · rw [if_neg (lt_f (x := 6) 6 (i % 9) h2 (by decide))]
      have e : rw_ i = true := decide_eq_true (by omega)
      rw [e]
      rfl
    · rw [if_pos (lt_t (x := 6) 6 (i % 9) (by omega) (by omega))]
      have e : rw_ i = false := decide_eq_false (by omega)
      rw [e]
      rfl
section PART
variable {I : Nat → Nat → Int32} {J : Nat → Nat → Int64} {A : Nat → Nat → Int32} {M : zM} {a q t : Nat}
theorem q_restIsSets_2 (h : PA M a q) : ∀ (d n i : Nat) (g : Nat → Nat) (w : Nat → Int32), i + d = 25 → d < n → (∀ k, k < 25 → w k = nI (g k)) → (∀ k, k < 25 → g k < 1000) → ∃ w', f_X0_restIsSets_2 n a (nI i) (cs I J (ur A q w) M) = some (b32 (ris d i g), cs I J (ur A q w') M) := by
  obtain ⟨h1, h2, h3, h4⟩ := h
  intro d
  induction d with
  | zero =>
    intro n i g w hi hn hw hg
    obtain ⟨n, rfl⟩ : ∃ m, n = m + 1 := ⟨n - 1, by omega⟩
    refine ⟨w, ?_⟩
    rw [f_X0_restIsSets_2, if_pos (le_t (x := 25) 25 i (by omega) (by omega))]
    rfl
  | succ d ih =>
    intro n i g w hi hn hw hg
    obtain ⟨n, rfl⟩ : ∃ m, n = m + 1 := ⟨n - 1, by omega⟩
    have hgi := hg i (by omega)
    have em : zmd (nI (g i)) 3 = nI (g i % 3) := pk_rem (a := g i) (d := 3) (by omega) (by decide) (by decide)
    rw [f_X0_restIsSets_2, if_neg (le_f (x := 25) 25 i (by omega) (by decide)), gR_cs 192 h1 h2, Option.bind_some, lA_cs h3 (by omega) (by omega), Option.bind_some, ur_at, hw i (by omega), em]
    by_cases z : g i % 3 = 0
    · obtain ⟨w', e⟩ := ih n (i + 1) g w (by omega) (by omega) hw hg
      refine ⟨w', ?_⟩
      rw [if_pos (le_t (y := 0) (g i % 3) 0 (by omega) (by decide)), nI_1, e, ris, if_pos z]
    · rw [if_neg (le_f (y := 0) (g i % 3) 0 (by omega) (by omega)), q_startsRow i (by omega), Option.bind_some]
      show ∃ w', (if b32 (rw_ i) = 0 then _ else _) = _
      rw [ris, if_neg z]
      by_cases z1 : rw_ i = false
      · refine ⟨w, ?_⟩
        rw [if_pos ((b32_0 _).mpr z1), if_pos (Or.inl z1)]
        rfl
      · have hi18 : i < 18 := by
          have : rw_ i = true := by cases hh : rw_ i; exact absurd hh z1; rfl
          exact (of_decide_eq_true this).1
        rw [if_neg (fun k => z1 ((b32_0 _).mp k))]
        have e1 : nI i + 1 = nI (i + 1) := nI_1 i
        have e2 : nI i + 2 = nI (i + 2) := nI_add i 2
        rw [e1, e2, if_neg (le_f (x := 25) 25 (i + 2) (by omega) (by decide))]
        show ∃ w', (gR 6 0 (cs I J (ur A q w) M) a).bind _ = _
        rw [gR_cs 192 h1 h2, Option.bind_some, lA_cs h3 (by omega) (by omega), Option.bind_some, ur_at, hw (i + 1) (by omega)]
        have hg1 := hg (i + 1) (by omega)
        have hg2 := hg (i + 2) (by omega)
        by_cases z2 : g (i + 1) < g i % 3
        · refine ⟨w, ?_⟩
          rw [if_pos (lt_t (g (i + 1)) (g i % 3) z2 (by omega)), if_pos (Or.inr (Or.inl z2))]
          rfl
        · rw [if_neg (lt_f (g (i + 1)) (g i % 3) (by omega) (by omega)), Option.bind_some]
          show ∃ w', (lA 0 (cs I J (ur A q w) M) q (nI (i + 2))).bind _ = _
          rw [lA_cs h3 (by omega) (by omega), Option.bind_some, ur_at, hw (i + 2) (by omega)]
          by_cases z3 : g (i + 2) < g i % 3
          · refine ⟨w, ?_⟩
            rw [if_neg (le_f (g i % 3) (g (i + 2)) z3 (by omega)), if_pos (Or.inr (Or.inr z3))]
            rfl
          · rw [if_pos (le_t (g i % 3) (g (i + 2)) (by omega) (by omega)), if_neg (fun k => k.elim z1 fun k => k.elim z2 z3)]
            rw [Option.bind_some]
            show ∃ w', (lA 0 (cs I J (ur A q w) M) q (nI (i + 1))).bind _ = _
            rw [lA_cs h3 (by omega) (by omega), Option.bind_some, ur_at, hw (i + 1) (by omega), pk_sub (by omega)]
            show ∃ w', (tA (cs I J (ur A q w) M) q (nI (i + 1)) _).bind _ = _
            rw [tA_cs h3 (by omega) (by omega), Option.bind_some, u2_ur, gR_cs 192 h1 h2, Option.bind_some, lA_cs h3 (by omega) (by omega), Option.bind_some, ur_at, u1_ne w _ (by omega), hw (i + 2) (by omega), pk_sub (by omega), tA_cs h3 (by omega) (by omega), Option.bind_some, u2_ur]
            refine ih n (i + 1) _ _ (by omega) (by omega) (fun k hk => ?_) (fun k hk => ?_)
            · by_cases y2 : k = i + 2
              · rw [y2, u1_at, u1_at]
              · rw [u1_ne _ _ y2, u1_ne _ _ y2]
                by_cases y1 : k = i + 1
                · rw [y1, u1_at, u1_at]
                · rw [u1_ne _ _ y1, u1_ne _ _ y1, hw k hk]
            · by_cases y2 : k = i + 2
              · rw [y2, u1_at]; omega
              · rw [u1_ne _ _ y2]
                by_cases y1 : k = i + 1
                · rw [y1, u1_at]; omega
                · rw [u1_ne _ _ y1]; exact hg k hk
theorem q_restIsSets (h : PA M a q) {g : Nat → Nat} {w : Nat → Int32} (hw : ∀ k, k < 25 → w k = nI (g k)) (hg : ∀ k, k < 25 → g k < 1000) : ∃ w', f_X0_restIsSets a (cs I J (ur A q w) M) = some (b32 (ris 25 0 g), cs I J (ur A q w') M) :=
  q_restIsSets_2 h 25 zN 0 g w rfl (by decide) hw hg
theorem q_copy_2 (h : PA M a q) (ht : mK M t = 100 ∧ mL M t = 25) (htq : t ≠ q) : ∀ (d n i : Nat) (w : Nat → Int32), i + d = 25 → d < n → (∀ k, k < i → w k = A t k) → ∃ w', f_X0_copy_2 n a t (nI i) (cs I J (ur A q w) M) = some ((), cs I J (ur A q w') M) ∧ ∀ k, k < 25 → w' k = A t k := by
  obtain ⟨h1, h2, h3, h4⟩ := h
  intro d
  induction d with
  | zero =>
    intro n i w hi hn hw
    obtain ⟨n, rfl⟩ : ∃ m, n = m + 1 := ⟨n - 1, by omega⟩
    refine ⟨w, ?_, fun k hk => hw k (by omega)⟩
    rw [f_X0_copy_2, if_pos (le_t (x := 25) 25 i (by omega) (by omega))]
  | succ d ih =>
    intro n i w hi hn hw
    obtain ⟨n, rfl⟩ : ∃ m, n = m + 1 := ⟨n - 1, by omega⟩
    rw [f_X0_copy_2, if_neg (le_f (x := 25) 25 i (by omega) (by decide)), gL_cs ht.1 ht.2, Option.bind_some, if_neg (le_f 25 i (by omega) (by decide)), gR_cs 192 h1 h2, Option.bind_some, lA_cs ht.1 (by omega) (by omega), Option.bind_some, ur_ne A i w htq, tA_cs h3 (by omega) (by omega), Option.bind_some, u2_ur, nI_1]
    refine ih n (i + 1) _ (by omega) (by omega) (fun k hk => ?_)
    by_cases y : k = i
    · rw [y, u1_at]
    · rw [u1_ne _ _ y]
      exact hw k (by omega)
theorem q_copy (h : PA M a q) (ht : mK M t = 100 ∧ mL M t = 25) (htq : t ≠ q) (w : Nat → Int32) : ∃ w', f_X0_copy a t (cs I J (ur A q w) M) = some ((), cs I J (ur A q w') M) ∧ ∀ k, k < 25 → w' k = A t k :=
  q_copy_2 h ht htq 25 zN 0 w rfl (by decide) (fun k hk => absurd hk (Nat.not_lt_zero _))
theorem q_complete_2 (h : PA M a q) (ht : mK M t = 100 ∧ mL M t = 25) (htq : t ≠ q) {g : Nat → Nat} (hw : ∀ k, k < 25 → A t k = nI (g k)) (hg : ∀ k, k < 25 → g k < 1000) : ∀ (d n i : Nat) (w : Nat → Int32), i + d = 25 → d < n → ∃ w', f_X0_complete_2 n a t (nI i) (cs I J (ur A q w) M) = some (b32 (cmp d i g), cs I J (ur A q w') M) := by
  have hh := h
  obtain ⟨h1, h2, h3, h4⟩ := h
  intro d
  induction d with
  | zero =>
    intro n i w hi hn
    obtain ⟨n, rfl⟩ : ∃ m, n = m + 1 := ⟨n - 1, by omega⟩
    refine ⟨w, ?_⟩
    rw [f_X0_complete_2, if_pos (le_t (x := 25) 25 i (by omega) (by omega))]
    rfl
  | succ d ih =>
    intro n i w hi hn
    obtain ⟨n, rfl⟩ : ∃ m, n = m + 1 := ⟨n - 1, by omega⟩
    have hgi := hg i (by omega)
    rw [f_X0_complete_2, if_neg (le_f (x := 25) 25 i (by omega) (by decide)), gL_cs ht.1 ht.2, Option.bind_some, if_neg (le_f 25 i (by omega) (by decide)), lA_cs ht.1 (by omega) (by omega), Option.bind_some, ur_ne A i w htq, hw i (by omega), cmp]
    by_cases z : g i < 2
    · obtain ⟨w', e⟩ := ih n (i + 1) w (by omega) (by omega)
      refine ⟨w', ?_⟩
      rw [if_pos (lt_t (y := 2) (g i) 2 z (by decide)), nI_1, e, if_neg (by omega)]
    · rw [if_neg (lt_f (y := 2) (g i) 2 (by omega) (by omega)), if_pos (show mK (cs I J (ur A q w) M) a = 6 from h1)]
      obtain ⟨w1, e1, hw1⟩ := q_copy (I := I) (J := J) (A := A) hh ht htq w
      rw [e1, Option.bind_some]
      show ∃ w', (gR 6 0 (cs I J (ur A q w1) M) a).bind _ = _
      rw [gR_cs 192 h1 h2, Option.bind_some, lA_cs h3 (by omega) (by omega), Option.bind_some, ur_at, hw1 i (by omega), hw i (by omega)]
      have e2 : nI (g i) - 2 = nI (g i - 2) := pk_sub (a := g i) (b := 2) (by omega)
      rw [e2, tA_cs h3 (by omega) (by omega), Option.bind_some, u2_ur, if_pos (show mK (cs I J _ M) a = 6 from h1)]
      obtain ⟨w2, e3⟩ := q_restIsSets (I := I) (J := J) (A := A) (w := u1 w1 i (nI (g i - 2))) (g := u1 g i (g i - 2)) hh (fun k hk => by
        by_cases y : k = i
        · rw [y, u1_at, u1_at]
        · rw [u1_ne _ _ y, u1_ne _ _ y, hw1 k hk, hw k hk]) (fun k hk => by
        by_cases y : k = i
        · rw [y, u1_at]; omega
        · rw [u1_ne _ _ y]; exact hg k hk)
      rw [e3, Option.bind_some]
      show ∃ w', (if b32 (ris 25 0 (u1 g i (g i - 2))) = 0 then _ else _) = _
      by_cases y : ris 25 0 (u1 g i (g i - 2)) = false
      · obtain ⟨w', e⟩ := ih n (i + 1) w2 (by omega) (by omega)
        refine ⟨w', ?_⟩
        rw [if_pos ((b32_0 _).mpr y), nI_1, e, if_neg (fun k => by rw [y] at k; exact absurd k.2 (by decide))]
      · have y' : ris 25 0 (u1 g i (g i - 2)) = true := by cases hx : ris 25 0 (u1 g i (g i - 2)); exact absurd hx y; rfl
        refine ⟨w2, ?_⟩
        rw [if_neg (fun k => y ((b32_0 _).mp k)), if_pos ⟨by omega, y'⟩]
        rfl
theorem q_complete (h : PA M a q) (ht : mK M t = 100 ∧ mL M t = 25) (htq : t ≠ q) {g : Nat → Nat} (hw : ∀ k, k < 25 → A t k = nI (g k)) (hg : ∀ k, k < 25 → g k < 1000) : ∃ w', f_X0_complete a t (cs I J A M) = some (b32 (cmp 25 0 g), cs I J (ur A q w') M) := by
  have e := q_complete_2 (I := I) (J := J) h ht htq hw hg 25 zN 0 (A q) rfl (by decide)
  rw [ur_self] at e
  exact e
end PART
/-! ===== PURE: sets and a pair, by whom ever they are sought ===== -/
/-- what the rows with these beginnings take of a kind -/
def pr (r : Nat → Nat) (k : Nat) : Nat := r k + (if 1 ≤ k then r (k - 1) else 0) + (if 2 ≤ k then r (k - 2) else 0)
/-- from i on it is threes and rows -/
def Dec (i : Nat) (g : Nat → Nat) : Prop := ∃ r : Nat → Nat, (∀ j, r j ≠ 0 → rw_ j = true ∧ i ≤ j) ∧ ∀ k, i ≤ k → k < 25 → ∃ t, g k = 3 * t + pr r k
theorem rw_lt {i : Nat} (h : rw_ i = true) : i < 18 := (of_decide_eq_true h).1
theorem Dec_end (g : Nat → Nat) {i : Nat} (h : 25 ≤ i) : Dec i g := ⟨fun _ => 0, fun j q => absurd rfl q, fun k q1 q2 => by omega⟩
theorem pr_at {r : Nat → Nat} {i : Nat} (h : ∀ j, r j ≠ 0 → rw_ j = true ∧ i ≤ j) : pr r i = r i := by
  have h1 : 1 ≤ i → r (i - 1) = 0 := fun q => by
    rcases Nat.eq_zero_or_pos (r (i - 1)) with z | z
    · exact z
    · have := (h (i - 1) (by omega)).2
      omega
  have h2 : 2 ≤ i → r (i - 2) = 0 := fun q => by
    rcases Nat.eq_zero_or_pos (r (i - 2)) with z | z
    · exact z
    · have := (h (i - 2) (by omega)).2
      omega
  unfold pr
  split <;> split <;> omega
theorem Dec_step {i : Nat} (hi : i < 25) (g : Nat → Nat) : Dec i g ↔ if g i % 3 = 0 then Dec (i + 1) g else rw_ i = true ∧ g i % 3 ≤ g (i + 1) ∧ g i % 3 ≤ g (i + 2) ∧ Dec (i + 1) (u1 (u1 g (i + 1) (g (i + 1) - g i % 3)) (i + 2) (g (i + 2) - g i % 3)) := by
  constructor
  · rintro ⟨r, h1, h2⟩
    obtain ⟨t0, e0⟩ := h2 i (Nat.le_refl _) hi
    rw [pr_at h1] at e0
    have em : g i % 3 = r i % 3 := by omega
    -- without the row beginnings at i
    have h3 : ∀ j, u1 r i 0 j ≠ 0 → rw_ j = true ∧ i + 1 ≤ j := fun j q => by
      by_cases y : j = i
      · rw [y, u1_at] at q; exact absurd rfl q
      · rw [u1_ne _ _ y] at q
        have := h1 j q
        exact ⟨this.1, by omega⟩
    have p1 : pr r (i + 1) = pr (u1 r i 0) (i + 1) + r i := by
      unfold pr
      have a1 : u1 r i 0 (i + 1) = r (i + 1) := u1_ne _ _ (by omega)
      have a2 : u1 r i 0 (i + 1 - 1) = 0 := by rw [Nat.add_sub_cancel]; exact u1_at _ _ _
      have a3 : r (i + 1 - 1) = r i := by rw [Nat.add_sub_cancel]
      rw [if_pos (show 1 ≤ i + 1 by omega), if_pos (show 1 ≤ i + 1 by omega), a1, a2, a3]
      by_cases y : 2 ≤ i + 1
      · rw [if_pos y, if_pos y, u1_ne _ _ (show i + 1 - 2 ≠ i by omega)]
        omega
      · rw [if_neg y, if_neg y]; omega
    have p2 : pr r (i + 2) = pr (u1 r i 0) (i + 2) + r i := by
      unfold pr
      have a1 : u1 r i 0 (i + 2) = r (i + 2) := u1_ne _ _ (by omega)
      have a2 : u1 r i 0 (i + 2 - 1) = r (i + 2 - 1) := u1_ne _ _ (by omega)
      have a3 : u1 r i 0 (i + 2 - 2) = 0 := by rw [Nat.add_sub_cancel]; exact u1_at _ _ _
      have a4 : r (i + 2 - 2) = r i := by rw [Nat.add_sub_cancel]
      rw [if_pos (show 1 ≤ i + 2 by omega), if_pos (show 1 ≤ i + 2 by omega), if_pos (show 2 ≤ i + 2 by omega), if_pos (show 2 ≤ i + 2 by omega), a1, a2, a3, a4]
      omega
    have p3 : ∀ k, i + 3 ≤ k → pr r k = pr (u1 r i 0) k := fun k hk => by
      unfold pr
      rw [u1_ne _ _ (show k ≠ i by omega), u1_ne _ _ (show k - 1 ≠ i by omega), u1_ne _ _ (show k - 2 ≠ i by omega)]
    by_cases z : g i % 3 = 0
    · rw [if_pos z]
      refine ⟨u1 r i 0, h3, fun k q1 q2 => ?_⟩
      obtain ⟨t, e⟩ := h2 k (by omega) q2
      by_cases y1 : k = i + 1
      · subst y1
        exact ⟨t + r i / 3, by rw [e, p1]; omega⟩
      · by_cases y2 : k = i + 2
        · subst y2
          exact ⟨t + r i / 3, by rw [e, p2]; omega⟩
        · exact ⟨t, by rw [e, p3 k (by omega)]⟩
    · rw [if_neg z]
      have hr : rw_ i = true := (h1 i (by omega)).1
      have hi18 := rw_lt hr
      obtain ⟨t1, e1⟩ := h2 (i + 1) (by omega) (by omega)
      obtain ⟨t2, e2⟩ := h2 (i + 2) (by omega) (by omega)
      rw [p1] at e1
      rw [p2] at e2
      refine ⟨hr, by omega, by omega, u1 r i 0, h3, fun k q1 q2 => ?_⟩
      obtain ⟨t, e⟩ := h2 k (by omega) q2
      by_cases y2 : k = i + 2
      · subst y2
        exact ⟨t2 + r i / 3, by rw [u1_at]; omega⟩
      · rw [u1_ne _ _ y2]
        by_cases y1 : k = i + 1
        · subst y1
          exact ⟨t1 + r i / 3, by rw [u1_at]; omega⟩
        · rw [u1_ne _ _ y1]
          exact ⟨t, by rw [e, p3 k (by omega)]⟩
  · intro h
    by_cases z : g i % 3 = 0
    · rw [if_pos z] at h
      obtain ⟨r, h1, h2⟩ := h
      refine ⟨r, fun j q => ⟨(h1 j q).1, by have := (h1 j q).2; omega⟩, fun k q1 q2 => ?_⟩
      by_cases y : k = i
      · subst y
        have e := pr_at (r := r) (i := k) (fun j q => ⟨(h1 j q).1, by have := (h1 j q).2; omega⟩)
        have e2 : r k = 0 := by
          rcases Nat.eq_zero_or_pos (r k) with w | w
          · exact w
          · have := (h1 k (by omega)).2; omega
        exact ⟨g k / 3, by rw [e, e2]; omega⟩
      · exact h2 k (by omega) q2
    · rw [if_neg z] at h
      obtain ⟨hr, l1, l2, r, h1, h2⟩ := h
      have hi18 := rw_lt hr
      have z0 : ∀ j, j ≤ i → r j = 0 := fun j hj => by
        rcases Nat.eq_zero_or_pos (r j) with w | w
        · exact w
        · have := (h1 j (by omega)).2; omega
      refine ⟨u1 r i (g i % 3), fun j q => ?_, fun k q1 q2 => ?_⟩
      · by_cases y : j = i
        · subst y; exact ⟨hr, Nat.le_refl _⟩
        · rw [u1_ne _ _ y] at q
          exact ⟨(h1 j q).1, by have := (h1 j q).2; omega⟩
      · by_cases y : k = i
        · subst y
          have e := pr_at (r := u1 r k (g k % 3)) (i := k) (fun j q => by
            by_cases y : j = k
            · subst y; exact ⟨hr, Nat.le_refl _⟩
            · rw [u1_ne _ _ y] at q
              exact ⟨(h1 j q).1, by have := (h1 j q).2; omega⟩)
          exact ⟨g k / 3, by rw [e, u1_at]; omega⟩
        · obtain ⟨t, e⟩ := h2 k (by omega) q2
          by_cases y1 : k = i + 1
          · subst y1
            rw [u1_ne _ _ (by omega), u1_at] at e
            refine ⟨t, ?_⟩
            have p : pr (u1 r i (g i % 3)) (i + 1) = pr r (i + 1) + g i % 3 := by
              unfold pr
              have a2 : u1 r i (g i % 3) (i + 1 - 1) = g i % 3 := by rw [Nat.add_sub_cancel]; exact u1_at _ _ _
              have a3 : r (i + 1 - 1) = 0 := by rw [Nat.add_sub_cancel]; exact z0 i (Nat.le_refl _)
              rw [u1_ne _ _ (show i + 1 ≠ i by omega), if_pos (show 1 ≤ i + 1 by omega), if_pos (show 1 ≤ i + 1 by omega), a2, a3]
              by_cases y : 2 ≤ i + 1
              · rw [if_pos y, if_pos y, u1_ne _ _ (show i + 1 - 2 ≠ i by omega)]; omega
              · rw [if_neg y, if_neg y]; omega
            omega
          · by_cases y2 : k = i + 2
            · subst y2
              rw [u1_at] at e
              refine ⟨t, ?_⟩
              have p : pr (u1 r i (g i % 3)) (i + 2) = pr r (i + 2) + g i % 3 := by
                unfold pr
                have a3 : u1 r i (g i % 3) (i + 2 - 2) = g i % 3 := by rw [Nat.add_sub_cancel]; exact u1_at _ _ _
                have a4 : r (i + 2 - 2) = 0 := by rw [Nat.add_sub_cancel]; exact z0 i (Nat.le_refl _)
                rw [u1_ne _ _ (show i + 2 ≠ i by omega), u1_ne _ _ (show i + 2 - 1 ≠ i by omega), if_pos (show 1 ≤ i + 2 by omega), if_pos (show 2 ≤ i + 2 by omega), if_pos (show 2 ≤ i + 2 by omega), a3, a4]
                omega
              omega
            · rw [u1_ne _ _ y2, u1_ne _ _ y1] at e
              refine ⟨t, ?_⟩
              have p : pr (u1 r i (g i % 3)) k = pr r k := by
                unfold pr
                rw [u1_ne _ _ (show k ≠ i by omega), u1_ne _ _ (show k - 1 ≠ i by omega), u1_ne _ _ (show k - 2 ≠ i by omega)]
              rw [p]; exact e
theorem ris_iff : ∀ (d i : Nat) (g : Nat → Nat), i + d = 25 → (ris d i g = true ↔ Dec i g) := by
  intro d
  induction d with
  | zero => exact fun i g hi => ⟨fun _ => Dec_end g (by omega), fun _ => rfl⟩
  | succ d ih =>
    intro i g hi
    rw [Dec_step (by omega), ris]
    by_cases z : g i % 3 = 0
    · rw [if_pos z, if_pos z]
      exact ih (i + 1) g (by omega)
    · rw [if_neg z, if_neg z]
      by_cases y : rw_ i = false ∨ g (i + 1) < g i % 3 ∨ g (i + 2) < g i % 3
      · rw [if_pos y]
        refine ⟨fun q => absurd q (by decide), fun q => ?_⟩
        rcases y with y | y | y
        · rw [y] at q; exact absurd q.1 (by decide)
        · omega
        · omega
      · rw [if_neg y, ih (i + 1) _ (by omega)]
        have y1 : rw_ i = true := by cases hx : rw_ i; exact absurd (Or.inl hx) y; rfl
        exact ⟨fun q => ⟨y1, by omega, by omega, q⟩, fun q => q.2.2.2⟩
theorem cmp_iff : ∀ (d i : Nat) (g : Nat → Nat), i + d = 25 → (cmp d i g = true ↔ ∃ p, i ≤ p ∧ p < 25 ∧ 2 ≤ g p ∧ Dec 0 (u1 g p (g p - 2))) := by
  intro d
  induction d with
  | zero => exact fun i g hi => ⟨fun q => by simp [cmp] at q, fun ⟨p, h1, h2, _⟩ => by omega⟩
  | succ d ih =>
    intro i g hi
    rw [cmp]
    by_cases z : 2 ≤ g i ∧ ris 25 0 (u1 g i (g i - 2)) = true
    · rw [if_pos z]
      exact ⟨fun _ => ⟨i, Nat.le_refl _, by omega, z.1, (ris_iff 25 0 _ rfl).mp z.2⟩, fun _ => rfl⟩
    · rw [if_neg z, ih (i + 1) g (by omega)]
      refine ⟨fun ⟨p, h1, h2⟩ => ⟨p, by omega, h2⟩, fun ⟨p, h1, h2, h3, h4⟩ => ?_⟩
      by_cases y : p = i
      · subst y
        exact absurd ⟨h3, (ris_iff 25 0 _ rfl).mpr h4⟩ z
      · exact ⟨p, by omega, h2, h3, h4⟩
