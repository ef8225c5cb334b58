/-! ===== PURE: far by the class, exactly: whether a part fits; what is left; the most of a suit ===== -/
def fit (l e f : Nat) (g : Nat → Nat) : Bool := decide (l < e ∧ ptk f 0 ≤ g l ∧ ((f = 0 ∨ f = 2) ∨ (l < 18 ∧ ptk f 1 ≤ (if l + 1 < e then g (l + 1) else 0) ∧ ptk f 2 ≤ (if l + 2 < e then g (l + 2) else 0))))
/-- a suit, or the honours -/
def GSU (s e : Nat) : Prop := (s = 0 ∧ e = 9) ∨ (s = 9 ∧ e = 18) ∨ (s = 18 ∧ e = 25)
theorem GSU.e {s e : Nat} (h : GSU s e) : e ≤ 25 ∧ s < e ∧ (e = 0 ∨ e = 9 ∨ e = 18 ∨ e = 25) ∧ (s = 0 ∨ s = 9 ∨ s = 18 ∨ s = 25) := by
  unfold GSU at h
  omega
theorem fit_1 {s e l f : Nat} {g : Nat → Nat} (hG : GSU s e) (hs : s ≤ l) (hf : f < 5) (h : fit l e f g = true) : l < e ∧ pok (l, f) ∧ ∀ k, k < 25 → ptn (l, f) k ≤ g k := by
  obtain ⟨h1, h2, h3⟩ := of_decide_eq_true h
  have hG' := hG
  unfold GSU at hG'
  have q2 : ∀ x : Nat, (1 ≤ (if l + 2 < e then x else 0)) → l + 2 < e ∧ 1 ≤ x := fun x y => by
    split at y
    · exact ⟨by assumption, y⟩
    · omega
  have q1 : ∀ x : Nat, (1 ≤ (if l + 1 < e then x else 0)) → l + 1 < e ∧ 1 ≤ x := fun x y => by
    split at y
    · exact ⟨by assumption, y⟩
    · omega
  have fin : ptk f 1 ≤ g (l + 1) → ptk f 2 ≤ g (l + 2) → ∀ k, k < 25 → ptn (l, f) k ≤ g k := fun u1 u2 k hk => by
    by_cases y0 : k = l
    · subst y0; rw [ptn_0]; exact h2
    · by_cases y1 : k = l + 1
      · subst y1; rw [ptn_1]; exact u1
      · by_cases y2 : k = l + 2
        · subst y2; rw [ptn_2]; exact u2
        · rw [ptn_o l f y0 y1 y2]; exact Nat.zero_le _
  rcases (show f = 0 ∨ f = 1 ∨ f = 2 ∨ f = 3 ∨ f = 4 by omega) with z | z | z | z | z
  · subst z
    exact ⟨h1, ⟨hf, by show l < 25; omega, fun z => by simp only at z; omega, fun z => by simp only at z; omega⟩, fin (Nat.zero_le _) (Nat.zero_le _)⟩
  · subst z
    rcases h3 with h3 | ⟨h3, h4, h5⟩
    · omega
    · have a := q1 _ h4
      have b := q2 _ h5
      exact ⟨h1, ⟨hf, by show l < 25; omega, fun _ => decide_eq_true ⟨h3, by omega⟩, fun z => by simp only at z; omega⟩, fin a.2 b.2⟩
  · subst z
    exact ⟨h1, ⟨hf, by show l < 25; omega, fun z => by simp only at z; omega, fun z => by simp only at z; omega⟩, fin (Nat.zero_le _) (Nat.zero_le _)⟩
  · subst z
    rcases h3 with h3 | ⟨h3, h4, h5⟩
    · omega
    · have a := q1 _ h4
      exact ⟨h1, ⟨hf, by show l < 25; omega, fun z => by simp only at z; omega, fun _ => ⟨h3, by show l % 9 ≤ 7; omega⟩⟩, fin a.2 (Nat.zero_le _)⟩
  · subst z
    rcases h3 with h3 | ⟨h3, h4, h5⟩
    · omega
    · have b := q2 _ h5
      exact ⟨h1, ⟨hf, by show l < 25; omega, fun _ => decide_eq_true ⟨h3, by omega⟩, fun z => by simp only at z; omega⟩, fin (Nat.zero_le _) b.2⟩
theorem fit_2 {s e l f : Nat} {g : Nat → Nat} (hG : GSU s e) (hs : s ≤ l) (h1 : l < e) (hp : pok (l, f)) (h : ∀ k, k < 25 → ptn (l, f) k ≤ g k) : fit l e f g = true := by
  unfold GSU at hG
  obtain ⟨p1, p2, p3, p4⟩ := hp
  have p1 : f < 5 := p1
  have p2 : l < 25 := p2
  have a0 : ptk f 0 ≤ g l := by have := h l p2; rw [ptn_0] at this; exact this
  refine decide_eq_true ⟨h1, a0, ?_⟩
  rcases (show f = 0 ∨ f = 1 ∨ f = 2 ∨ f = 3 ∨ f = 4 by omega) with z | z | z | z | z
  · exact Or.inl (Or.inl z)
  · have hr := p3 (Or.inl z)
    have r9 : l % 9 ≤ 6 := rw_9 hr
    have r18 : l < 18 := rw_lt hr
    have b1 := h (l + 1) (by omega)
    have b2 := h (l + 2) (by omega)
    rw [ptn_1] at b1
    rw [ptn_2] at b2
    exact Or.inr ⟨r18, by rw [if_pos (by omega)]; exact b1, by rw [if_pos (by omega)]; exact b2⟩
  · exact Or.inl (Or.inr z)
  · have hr := p4 z
    have r9 : l % 9 ≤ 7 := hr.2
    have r18 : l < 18 := hr.1
    have b1 := h (l + 1) (by omega)
    rw [ptn_1] at b1
    exact Or.inr ⟨r18, by rw [if_pos (by omega)]; exact b1, by subst z; exact Nat.zero_le _⟩
  · have hr := p3 (Or.inr z)
    have r9 : l % 9 ≤ 6 := rw_9 hr
    have r18 : l < 18 := rw_lt hr
    have b2 := h (l + 2) (by omega)
    rw [ptn_2] at b2
    exact Or.inr ⟨r18, by subst z; exact Nat.zero_le _, by rw [if_pos (by omega)]; exact b2⟩
/-! the loop over the first part -/
def PVM (p f0 e k0 f : Nat) (g : Nat → Nat) (V : Nat) : Prop := (∃ L, OB (p + 1) 0 f0 e g L none ∧ pvl L = V) ∧ ∀ L, OB (p + 1) 0 f0 e g L none → (∃ q, q ∈ L ∧ (q.1 < k0 ∨ q.1 = k0 ∧ q.2 < f) ∧ ∀ r, r ∈ L → q.1 ≤ r.1) → pvl L ≤ V
section PVMS
variable {p s f0 e k0 f : Nat} {g : Nat → Nat} {V v : Nat}
theorem PVM.le (x : PVM p f0 e k0 f g V) : V ≤ 2 * (p + 1) := by
  obtain ⟨⟨L, a, rfl⟩, -⟩ := x
  have := a.le
  omega
theorem PVM.init (p f0 e : Nat) (g : Nat → Nat) : PVM p f0 e f0 0 g 0 :=
  ⟨⟨[], OB.nil g _ _ _ _, rfl⟩, fun L x ⟨q, q1, q2, _⟩ => by
    have := (x.2.2.1 q q1).2.1
    omega⟩
theorem PVM.skip (hG : GSU s e) (hs : s ≤ k0) (hf : f < 5) (hk : k0 < e) (z : fit k0 e f g = false) (x : PVM p f0 e k0 f g V) : PVM p f0 e k0 (f + 1) g V :=
  ⟨x.1, fun L y ⟨q, q1, q2, q3⟩ => by
    by_cases w : q.1 < k0 ∨ q.1 = k0 ∧ q.2 < f
    · exact x.2 L y ⟨q, q1, w, q3⟩
    · obtain ⟨l, c⟩ := q
      have e1 : l = k0 := by simp only at q2 w; omega
      have e2 : c = f := by simp only at q2 w; omega
      subst e1; subst e2
      have fits := fit_2 (g := g) hG hs hk (y.2.2.1 _ q1).1 (fun k hk9 => by
        obtain ⟨L', -, b, -⟩ := prm q1
        have := y.2.2.2.2 k hk9
        rw [b k] at this
        omega)
      rw [fits] at z
      cases z⟩
theorem PVM.take (h0 : f0 ≤ k0) (hk : k0 < e) (hp : pok (k0, f)) (hu : ∀ k, k < 25 → ptn (k0, f) k ≤ g k) (w : MB p 0 k0 e (fun k => g k - ptn (k0, f) k) v) (x : PVM p f0 e k0 f g V) : PVM p f0 e k0 (f + 1) g (max V (pvf f + v)) := by
  refine ⟨?_, fun L y ⟨q, q1, q2, q3⟩ => ?_⟩
  · by_cases c : V ≤ pvf f + v
    · rw [Nat.max_eq_right c]
      obtain ⟨⟨L, h, a, b⟩, -⟩ := w
      have hn := pv_0 a.2.1
      subst hn
      refine ⟨(k0, f) :: L, ⟨?_, Nat.le_refl _, fun q hq => ?_, fun l hl => (by cases hl), fun k hk9 => ?_⟩, ?_⟩
      · rw [List.length_cons]; have := a.1; omega
      · rcases List.mem_cons.mp hq with rfl | hq
        · exact ⟨hp, h0, hk⟩
        · have := a.2.2.1 q hq
          exact ⟨this.1, Nat.le_trans h0 this.2.1, this.2.2⟩
      · have h1 := a.2.2.2.2 k hk9
        have h2 := hu k hk9
        rw [pus]
        show ptn (k0, f) k + pus L k + 0 ≤ g k
        have h1 : pus L k + 0 ≤ g k - ptn (k0, f) k := h1
        omega
      · rw [pvl]
        have b : pvl L + 0 = v := b
        show pvf f + pvl L = _
        omega
    · rw [Nat.max_eq_left (by omega)]
      exact x.1
  · by_cases c : q.1 < k0 ∨ q.1 = k0 ∧ q.2 < f
    · exact Nat.le_trans (x.2 L y ⟨q, q1, c, q3⟩) (Nat.le_max_left _ _)
    · obtain ⟨l, c2⟩ := q
      have e1 : l = k0 := by simp only at q2 c; omega
      have e2 : c2 = f := by simp only at q2 c; omega
      subst e1; subst e2
      obtain ⟨L', a, b, c3, d⟩ := prm q1
      have ob : OB p 0 l e (fun k => g k - ptn (l, c2) k) L' none := by
        refine ⟨by have := y.1; omega, Nat.le_refl _, fun r hr => ?_, fun l hl => (by cases hl), fun k hk9 => ?_⟩
        · have h1 := y.2.2.1 r (d r hr)
          exact ⟨h1.1, q3 r (d r hr), h1.2.2⟩
        · have h1 := y.2.2.2.2 k hk9
          rw [b k] at h1
          have h1 : ptn (l, c2) k + pus L' k + 0 ≤ g k := h1
          show pus L' k + 0 ≤ g k - ptn (l, c2) k
          omega
      have h2 := w.2 L' none ob
      have h2 : pvl L' + 0 ≤ v := h2
      have a : pvl L = pvf c2 + pvl L' := a
      have := Nat.le_max_right V (pvf c2 + v)
      omega
theorem PVM.next (x : PVM p f0 e k0 5 g V) : PVM p f0 e (k0 + 1) 0 g V :=
  ⟨x.1, fun L y ⟨q, q1, q2, q3⟩ => x.2 L y ⟨q, q1, by have := (y.2.2.1 q q1).1.1; omega, q3⟩⟩
theorem PVM.fin (h : ∀ L, OB (p + 1) 0 f0 e g L none → pvl L ≤ V) (x : PVM p f0 e k0 f g V) : MB (p + 1) 0 f0 e g V := by
  obtain ⟨⟨L, a, b⟩, -⟩ := x
  refine ⟨⟨L, none, a, b⟩, fun L h' y => ?_⟩
  have hn := pv_0 y.2.1
  subst hn
  exact h L y
theorem PVM.last (hk : e ≤ k0) (x : PVM p f0 e k0 f g V) : MB (p + 1) 0 f0 e g V := by
  refine x.fin fun L y => ?_
  by_cases c : L = []
  · subst c; exact Nat.zero_le _
  · obtain ⟨q, q1, q2⟩ := pmin c
    exact x.2 L y ⟨q, q1, by have := (y.2.2.1 q q1).2.2; omega, q2⟩
theorem PVM.cut (hV : 2 * (p + 1) ≤ V) (x : PVM p f0 e k0 f g V) : MB (p + 1) 0 f0 e g V :=
  x.fin fun L y => Nat.le_trans (pvl_le L) (Nat.le_trans (Nat.mul_le_mul_left 2 y.1) hV)
end PVMS
/-! the class's steps -/
/-- the three small tables -/
def TB (A : Nat → Nat → Int32) : Prop := ∀ f, f < 5 → A 1 f = nI (ptk f 0) ∧ A 2 f = nI (ptk f 1) ∧ A 3 f = nI (ptk f 2)
theorem x_max {a b : Nat} (ha : a < 2 ^ 30) (hb : b < 2 ^ 30) (M : zM) : f_J9_max_7cf53 (nI a) (nI b) M = some (nI (max a b), M) := by
  unfold f_J9_max_7cf53 f_J9_max_7cf53_0
  by_cases h : a < b
  · rw [if_pos (lt_t a b h (by omega)), Nat.max_eq_right (by omega)]
  · rw [if_neg (lt_f a b (by omega) (by omega)), Nat.max_eq_left (by omega)]
theorem b32_t {b : Bool} {c : Prop} [Decidable c] (h : b = true ↔ c) : b32 b = if c then 1 else 0 := by
  by_cases y : c
  · rw [if_pos y, h.mpr y]; rfl
  · rw [if_neg y]
    cases b
    · rfl
    · exact absurd (h.mp rfl) y
section XFAR
variable {I : Nat → Nat → Int32} {J : Nat → Nat → Int64} {A : Nat → Nat → Int32} {M : zM} {q : Nat}
theorem x_fits_86 (hA : AT A M) (hT : TB A) (hq : 1000 ≤ q) {f x y : Nat} (hf : f < 5) (hx : x < 1000) (hy : y < 1000) (w : Nat → Int32) : f_X0_fits_86 (nI f) (nI x) (nI y) (cs I J (ur A q w) M) = some (b32 (decide (ptk f 1 ≤ x ∧ ptk f 2 ≤ y)), cs I J (ur A q w) M) := by
  have h2 := hA 2 (by decide) (by decide)
  have h3 := hA 3 (by decide) (by decide)
  have p1 := ptk_le f 1
  have p2 := ptk_le f 2
  unfold f_X0_fits_86
  rw [lA_ex h2.1 (by omega) (by omega), Option.bind_some, ur_ne A f w (by omega), (hT f hf).2.1]
  by_cases y1 : x < ptk f 1
  · rw [if_pos (lt_t x _ y1 (by omega)), decide_eq_false (by omega)]
    rfl
  · rw [if_neg (lt_f x (ptk f 1) (by omega) (by omega)), lA_ex h3.1 (by omega) (by omega), Option.bind_some, ur_ne A f w (by omega), (hT f hf).2.2]
    by_cases y2 : y < ptk f 2
    · rw [if_pos (lt_t y _ y2 (by omega)), decide_eq_false (by omega)]
      rfl
    · rw [if_neg (lt_f y (ptk f 2) (by omega) (by omega)), decide_eq_true (by omega)]
      rfl
theorem x_fits_68 (hA : AT A M) (hT : TB A) (hk : mK M q = 100) (hl : mL M q = 25) (hq : 1000 ≤ q) {l e f x : Nat} (he : e ≤ 25) (hle : l < 25) (hf : f < 5) (hx : x < 1000) {g : Nat → Nat} {w : Nat → Int32} (hw : ∀ k, k < 25 → w k = nI (g k)) (hg : ∀ k, k < 25 → g k < 1000) : f_X0_fits_68 q (nI l) (nI e) (nI f) (nI x) (cs I J (ur A q w) M) = some (b32 (decide (ptk f 1 ≤ x ∧ ptk f 2 ≤ (if l + 2 < e then g (l + 2) else 0))), cs I J (ur A q w) M) := by
  unfold f_X0_fits_68
  have e2 : nI l + 2 = nI (l + 2) := nI_add l 2
  rw [e2]
  by_cases z : e ≤ l + 2
  · rw [if_pos (le_t e (l + 2) z (by omega)), if_neg (show ¬ l + 2 < e by omega)]
    exact x_fits_86 hA hT hq hf hx (show 0 < 1000 by decide) w
  · rw [if_neg (le_f e (l + 2) (by omega) (by omega)), lA_cs hk (by omega) (by omega), Option.bind_some, ur_at, hw (l + 2) (by omega), if_pos (show l + 2 < e by omega)]
    exact x_fits_86 hA hT hq hf hx (hg _ (by omega)) w
theorem x_fits (hA : AT A M) (hT : TB A) (hk : mK M q = 100) (hl : mL M q = 25) (hq : 1000 ≤ q) {l e f : Nat} (he : e ≤ 25) (hle : l < e) (hf : f < 5) {g : Nat → Nat} {w : Nat → Int32} (hw : ∀ k, k < 25 → w k = nI (g k)) (hg : ∀ k, k < 25 → g k < 1000) : f_X0_fits q (nI l) (nI e) (nI f) (cs I J (ur A q w) M) = some (b32 (fit l e f g), cs I J (ur A q w) M) := by
  have h1 := hA 1 (by decide) (by decide)
  have h2 := hA 2 (by decide) (by decide)
  have h3 := hA 3 (by decide) (by decide)
  have p0 := ptk_le f 0
  have p1 := ptk_le f 1
  have p2 := ptk_le f 2
  have gl := hg l (by omega)
  have e1 : nI l + 1 = nI (l + 1) := nI_1 l
  unfold f_X0_fits f_X0_fits_0
  rw [if_neg (nI_nn (by omega)), if_neg (le_f e l (by omega) (by omega)), gL_cs hk hl, Option.bind_some, if_neg (lt_f 25 e he (by decide)), lA_cs hk (by omega) (by omega), Option.bind_some, lA_ex h1.1 (by omega) (by omega), Option.bind_some, ur_at, hw l (by omega), ur_ne A f w (by omega), (hT f hf).1]
  by_cases y0 : ptk f 0 ≤ g l
  · rw [if_pos (le_t _ _ y0 (by omega)), lA_ex h2.1 (by omega) (by omega), Option.bind_some, lA_ex h3.1 (by omega) (by omega), Option.bind_some, ur_ne A f w (by omega), (hT f hf).2.1, ur_ne A f w (by omega), (hT f hf).2.2, nI_add]
    by_cases y1 : f = 0 ∨ f = 2
    · have e0 : ptk f 1 + ptk f 2 = 0 := by
        rcases y1 with rfl | rfl
        · rfl
        · rfl
      rw [e0, if_pos (show nI 0 = 0 from rfl), show fit l e f g = true from decide_eq_true ⟨hle, y0, Or.inl y1⟩]
      rfl
    · have e0 : ptk f 1 + ptk f 2 ≠ 0 := by
        rcases (show f = 1 ∨ f = 3 ∨ f = 4 by omega) with rfl | rfl | rfl
        · decide
        · decide
        · decide
      rw [if_neg (eq_f (y := 0) _ 0 e0 (by omega) (by decide))]
      by_cases y2 : l < 18
      · have ef : fit l e f g = decide (ptk f 1 ≤ (if l + 1 < e then g (l + 1) else 0) ∧ ptk f 2 ≤ (if l + 2 < e then g (l + 2) else 0)) := decide_eq_decide.mpr ⟨fun u => u.2.2.elim (fun z => absurd z y1) (fun z => z.2), fun u => ⟨hle, y0, Or.inr ⟨y2, u⟩⟩⟩
        rw [if_pos (lt_t (y := 18) l 18 y2 (by decide)), e1, ef]
        by_cases z1 : e ≤ l + 1
        · rw [if_pos (le_t e (l + 1) z1 (by omega)), if_neg (show ¬ l + 1 < e by omega)]
          exact x_fits_68 hA hT hk hl hq he (by omega) hf (show 0 < 1000 by decide) hw hg
        · rw [if_neg (le_f e (l + 1) (by omega) (by omega)), lA_cs hk (by omega) (by omega), Option.bind_some, ur_at, hw (l + 1) (by omega), if_pos (show l + 1 < e by omega)]
          exact x_fits_68 hA hT hk hl hq he (by omega) hf (hg _ (by omega)) hw hg
      · rw [if_neg (lt_f (y := 18) l 18 (by omega) (by omega)), show fit l e f g = false from decide_eq_false (fun u => u.2.2.elim y1 (fun z => y2 z.1))]
        rfl
  · rw [if_neg (le_f (ptk f 0) (g l) (by omega) (by omega)), show fit l e f g = false from decide_eq_false (fun u => y0 u.2.1)]
    rfl
theorem chg_tk (hT : TB A) {l f : Nat} (hf : f < 5) {g : Nat → Nat} {w : Nat → Int32} (hw : ∀ k, k < 25 → w k = nI (g k)) (hu : ∀ k, k < 25 → ptn (l, f) k ≤ g k) : ∀ k, k < 25 → chg A l f (-1) w k = nI (g k - ptn (l, f) k) := fun k hk => by
  have m : ∀ x y : Nat, y ≤ x → nI x + (-1) * nI y = nI (x - y) := fun x y h => by
    rw [← pk_sub h]
    grind
  obtain ⟨t1, t2, t3⟩ := hT f hf
  have h := hu k hk
  unfold chg
  by_cases y0 : k = l
  · subst y0
    rw [ptn_0] at h ⊢
    rw [if_pos rfl, hw k hk, t1]
    exact m _ _ h
  · rw [if_neg y0]
    by_cases y1 : k = l + 1
    · subst y1
      rw [ptn_1] at h ⊢
      rw [if_pos rfl, hw _ hk, t2]
      exact m _ _ h
    · rw [if_neg y1]
      by_cases y2 : k = l + 2
      · subst y2
        rw [ptn_2] at h ⊢
        rw [if_pos rfl, hw _ hk, t3]
        exact m _ _ h
      · rw [if_neg y2, hw k hk, ptn_o l f y0 y1 y2, Nat.sub_zero]
/-- the most, by whom ever it is sought -/
def MOSTX (I : Nat → Nat → Int32) (J : Nat → Nat → Int64) (A : Nat → Nat → Int32) (M : zM) (q p s e : Nat) (RC : Nat → Int32 → Int32 → Int32 → zM → Option (Int32 × zM)) : Prop :=
  ∀ (f : Nat) (g : Nat → Nat) (w : Nat → Int32), s ≤ f → f < 26 → (∀ k, k < 25 → w k = nI (g k)) → (∀ k, k < 25 → g k < 1000) → ∃ (v : Nat) (w' : Nat → Int32), RC q (nI f) (nI e) (nI p) (cs I J (ur A q w) M) = some (nI v, cs I J (ur A q w') M) ∧ (∀ k, k < 25 → w' k = w k) ∧ MB p 0 f e g v
theorem x_most_38 (hA : AT A M) (hT : TB A) (hk : mK M q = 100) (hl : mL M q = 25) (hq : 1000 ≤ q) {RC : Nat → Int32 → Int32 → Int32 → zM → Option (Int32 × zM)} {p s e f0 k0 : Nat} (hp : p < 3) (hG : GSU s e) (IH : MOSTX I J A M q p s e RC) (K21 : Nat → Int32 → Int32 → Int32 → Int32 → zM → Option (Int32 × zM)) (hs : s ≤ f0) (h0 : f0 ≤ k0) (hke : k0 < e) {g : Nat → Nat} {w : Nat → Int32} (hw : ∀ k, k < 25 → w k = nI (g k)) (hg : ∀ k, k < 25 → g k < 1000)
    (hK : ∀ (V : Nat) (w1 : Nat → Int32), PVM p f0 e (k0 + 1) 0 g V → (∀ k, k < 25 → w1 k = w k) → ∃ (v' : Nat) (w' : Nat → Int32), K21 q (nI e) (nI (p + 1)) (nI V) (nI (k0 + 1)) (cs I J (ur A q w1) M) = some (nI v', cs I J (ur A q w') M) ∧ (∀ k, k < 25 → w' k = w k) ∧ MB (p + 1) 0 f0 e g v') :
    ∀ (d n f V : Nat) (w1 : Nat → Int32), f + d = 5 → d < n → PVM p f0 e k0 f g V → (∀ k, k < 25 → w1 k = w k) → ∃ (v' : Nat) (w' : Nat → Int32), f_X0_most_38 RC K21 n q (nI e) (nI (p + 1)) (nI V) (nI k0) (nI f) (cs I J (ur A q w1) M) = some (nI v', cs I J (ur A q w') M) ∧ (∀ k, k < 25 → w' k = w k) ∧ MB (p + 1) 0 f0 e g v' := by
  have he := hG.e.1
  intro d
  induction d with
  | zero =>
    intro n f V w1 hf hn hV hw1
    obtain ⟨n, rfl⟩ : ∃ m, n = m + 1 := ⟨n - 1, by omega⟩
    obtain rfl : f = 5 := by omega
    rw [f_X0_most_38, if_pos (le_t (x := 5) 5 5 (by omega) (by omega)), nI_1]
    exact hK V w1 hV.next hw1
  | succ d ih =>
    intro n f V w1 hf hn hV hw1
    obtain ⟨n, rfl⟩ : ∃ m, n = m + 1 := ⟨n - 1, by omega⟩
    have hwg : ∀ k, k < 25 → w1 k = nI (g k) := fun k hk9 => (hw1 k hk9).trans (hw k hk9)
    have eb := x_fits (I := I) (J := J) hA hT hk hl hq he hke (show f < 5 by omega) hwg hg
    rw [f_X0_most_38, if_neg (le_f (x := 5) 5 f (by omega) (by decide)), eb, Option.bind_some]
    dsimp only
    cases hb : fit k0 e f g with
    | false =>
      rw [if_pos (show b32 false = 0 from rfl), nI_1]
      exact ih n (f + 1) V w1 (by omega) (by omega) (hV.skip hG (by omega) (by omega) hke hb) hw1
    | true =>
      obtain ⟨-, hpo, hu⟩ := fit_1 hG (by omega) (show f < 5 by omega) hb
      rw [if_neg (show ¬ b32 true = 0 by decide)]
      obtain ⟨w2, e2, h2⟩ := q_changePart (I := I) (J := J) hA hk hl hq (show k0 < 25 by omega) (show f < 5 by omega) (-1) w1
      rw [e2, Option.bind_some]
      dsimp only
      have hw2 : ∀ k, k < 25 → w2 k = nI (g k - ptn (k0, f) k) := fun k hk9 => (h2 k hk9).trans (chg_tk hT (show f < 5 by omega) hwg hu k hk9)
      have fin : ∀ x : Int32, x = nI (pvf f) → ∃ (v' : Nat) (w' : Nat → Int32), f_X0_most_76 RC K21 (f_X0_most_38 RC K21 n) q (nI e) (nI (p + 1)) (nI V) (nI k0) (nI f) x (cs I J (ur A q w2) M) = some (nI v', cs I J (ur A q w') M) ∧ (∀ k, k < 25 → w' k = w k) ∧ MB (p + 1) 0 f0 e g v' := fun x hx => by
        subst hx
        have ep : nI (p + 1) - 1 = nI p := pk_sub (a := p + 1) (b := 1) (by omega)
        unfold f_X0_most_76
        rw [ep]
        obtain ⟨v3, w3, e3, h3, m3⟩ := IH k0 (fun k => g k - ptn (k0, f) k) w2 (by omega) (by omega) hw2 (fun k hk9 => by have := hg k hk9; show g k - _ < 1000; omega)
        have l3 := m3.le
        have lV := hV.le
        have lf := pvf_le f
        obtain ⟨w5, e5, h5⟩ := q_changePart (I := I) (J := J) hA hk hl hq (show k0 < 25 by omega) (show f < 5 by omega) 1 w3
        rw [e3, Option.bind_some]
        dsimp only
        rw [nI_add, x_max (by omega) (by omega), Option.bind_some]
        dsimp only
        rw [e5, Option.bind_some, nI_1]
        exact ih n (f + 1) _ w5 (by omega) (by omega) (hV.take h0 hke hpo hu m3) (fun k hk' => (h5 k hk').trans ((chg_back A k0 f w1 w3 (fun k hk' => (h3 k hk').trans (h2 k hk')) k hk').trans (hw1 k hk')))
      by_cases z : 1 < f
      · rw [if_pos (lt_t (x := 1) 1 f z (by omega))]
        exact fin 1 (by rw [show pvf f = 1 from if_neg (by omega)]; rfl)
      · rw [if_neg (lt_f (x := 1) 1 f (by omega) (by decide))]
        exact fin 2 (by rw [show pvf f = 2 from if_pos (by omega)]; rfl)
theorem x_most_21 (hA : AT A M) (hT : TB A) (hk : mK M q = 100) (hl : mL M q = 25) (hq : 1000 ≤ q) {RC : Nat → Int32 → Int32 → Int32 → zM → Option (Int32 × zM)} {p s e f0 : Nat} (hp : p < 3) (hG : GSU s e) (IH : MOSTX I J A M q p s e RC) (hs : s ≤ f0) {g : Nat → Nat} {w : Nat → Int32} (hw : ∀ k, k < 25 → w k = nI (g k)) (hg : ∀ k, k < 25 → g k < 1000) : ∀ (d n k0 V : Nat) (w1 : Nat → Int32), k0 + d = 26 → d < n → f0 ≤ k0 → PVM p f0 e k0 0 g V → (∀ k, k < 25 → w1 k = w k) → ∃ (v' : Nat) (w' : Nat → Int32), f_X0_most_21 RC n q (nI e) (nI (p + 1)) (nI V) (nI k0) (cs I J (ur A q w1) M) = some (nI v', cs I J (ur A q w') M) ∧ (∀ k, k < 25 → w' k = w k) ∧ MB (p + 1) 0 f0 e g v' := by
  have he := hG.e.1
  intro d
  induction d with
  | zero =>
    intro n k0 V w1 hi hn h0 hV hw1
    obtain ⟨n, rfl⟩ : ∃ m, n = m + 1 := ⟨n - 1, by omega⟩
    exact ⟨V, w1, by rw [f_X0_most_21, if_pos (le_t e k0 (by omega) (by omega))], hw1, hV.last (by omega)⟩
  | succ d ih =>
    intro n k0 V w1 hi hn h0 hV hw1
    obtain ⟨n, rfl⟩ : ∃ m, n = m + 1 := ⟨n - 1, by omega⟩
    by_cases z : e ≤ k0
    · exact ⟨V, w1, by rw [f_X0_most_21, if_pos (le_t e k0 z (by omega))], hw1, hV.last z⟩
    · have lV := hV.le
      have e2 : (2 : Int32) * nI (p + 1) = nI (2 * (p + 1)) := pk_mul 2 (p + 1)
      rw [f_X0_most_21, if_neg (le_f e k0 (by omega) (by omega)), e2]
      by_cases c : 2 * (p + 1) ≤ V
      · exact ⟨V, w1, by rw [if_pos (le_t (2 * (p + 1)) V c (by omega))], hw1, hV.cut c⟩
      · rw [if_neg (le_f (2 * (p + 1)) V (by omega) (by omega))]
        exact x_most_38 hA hT hk hl hq hp hG IH (f_X0_most_21 RC n) hs h0 (by omega) hw hg (fun V w1 u1 u2 => ih n (k0 + 1) V w1 (by omega) (by omega) (by omega) u1 u2) 5 zN 0 V w1 rfl (by decide) hV hw1
theorem x_most (hA : AT A M) (hT : TB A) (hk : mK M q = 100) (hl : mL M q = 25) (hq : 1000 ≤ q) {s e : Nat} (hG : GSU s e) : ∀ (p n : Nat), p < n → p ≤ 3 → MOSTX I J A M q p s e (f_X0_most n) := by
  intro p
  induction p with
  | zero =>
    intro n hn _ f g w hsf hf hw hg
    obtain ⟨n, rfl⟩ : ∃ m, n = m + 1 := ⟨n - 1, by omega⟩
    refine ⟨0, w, ?_, fun _ _ => rfl, MB.none_ fun L h x => ⟨List.eq_nil_of_length_eq_zero (Nat.le_zero.mp x.1), pv_0 x.2.1⟩⟩
    rw [f_X0_most]
    unfold f_X0_most_0
    rw [if_pos (le_t (y := 0) 0 0 (by omega) (by decide))]
    rfl
  | succ p ih =>
    intro n hn hp f g w hsf hf hw hg
    obtain ⟨n, rfl⟩ : ∃ m, n = m + 1 := ⟨n - 1, by omega⟩
    rw [f_X0_most]
    unfold f_X0_most_0
    rw [if_neg (le_f (y := 0) (p + 1) 0 (by omega) (by omega)), if_neg (lt_f (x := 3) 3 (p + 1) (by omega) (by decide)), if_pos (le_t (x := 0) 0 f (by omega) (by omega))]
    exact x_most_21 hA hT hk hl hq (by omega) hG (ih n (by omega) (by omega)) hsf hw hg (26 - f) zN f 0 w (by omega) (by show 26 - f < 130; omega) (Nat.le_refl _) (PVM.init p f e g) (fun _ _ => rfl)
end XFAR
