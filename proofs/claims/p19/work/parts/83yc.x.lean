/-! ===== PURE: far by the class, exactly: suits are joined ===== -/
theorem pu_o {h : Option Nat} {k : Nat} (y : ∀ l, h = some l → l ≠ k) : pu h k = 0 := if_neg fun z => y k z rfl
section JOIN
variable {n m s e : Nat} {g : Nat → Nat} {L1 L2 : List (Nat × Nat)} {h1 h2 : Option Nat} {n1 n2 : Nat}
theorem OB.ap (hG : GSU s e) (x : OB n1 m 0 s g L1 h1) (y : OB n2 m s e g L2 h2) (z : h1 = none ∨ h2 = none) : OB (n1 + n2) m 0 e g (L1 ++ L2) (if h1 = none then h2 else h1) ∧ pvl (L1 ++ L2) + pv (if h1 = none then h2 else h1) = pvl L1 + pv h1 + (pvl L2 + pv h2) := by
  obtain ⟨x1, x2, x3, x4, x5⟩ := x
  obtain ⟨y1, y2, y3, y4, y5⟩ := y
  obtain ⟨-, hse, -, hs⟩ := hG.e
  have hs' : s = 0 ∨ s = 9 ∨ s = 18 ∨ s = 25 := hs
  have u : ∀ k, k < 25 → (k < s → pus L2 k + pu h2 k = 0) ∧ (s ≤ k → pus L1 k + pu h1 k = 0) := fun k hk => ⟨fun q => by
    rw [pus_lo q (fun r hr => (y3 r hr).2.1), pu_o (fun l hl => by have := (y4 l hl).1; omega)], fun q => by
    rw [pus_hi hs' q (fun r hr => ⟨(x3 r hr).1, (x3 r hr).2.2⟩), pu_o (fun l hl => by have := (x4 l hl).2; omega)]⟩
  have hh : ∀ k, k < 25 → pus L1 k + pu h1 k + (pus L2 k + pu h2 k) ≤ g k := fun k hk => by
    have := u k hk
    by_cases q : k < s
    · have := this.1 q
      have := x5 k hk
      omega
    · have := this.2 (by omega)
      have := y5 k hk
      omega
  have mem : ∀ q, q ∈ L1 ++ L2 → pok q ∧ 0 ≤ q.1 ∧ q.1 < e := fun q hq => by
    rcases List.mem_append.mp hq with hq | hq
    · have := x3 q hq
      exact ⟨this.1, Nat.zero_le _, by omega⟩
    · have := y3 q hq
      exact ⟨this.1, Nat.zero_le _, this.2.2⟩
  have len : (L1 ++ L2).length ≤ n1 + n2 := by rw [List.length_append]; omega
  by_cases c : h1 = none
  · subst c
    rw [if_pos rfl]
    refine ⟨⟨len, y2, mem, fun l hl => ⟨Nat.zero_le _, (y4 l hl).2⟩, fun k hk => ?_⟩, ?_⟩
    · have := hh k hk
      have e0 : pu none k = 0 := rfl
      rw [pus_ap]
      omega
    · have e0 : pv none = 0 := rfl
      rw [pvl_ap]
      omega
  · have c2 : h2 = none := z.elim (fun w => absurd w c) id
    subst c2
    rw [if_neg c]
    refine ⟨⟨len, x2, mem, fun l hl => ⟨Nat.zero_le _, by have := (x4 l hl).2; omega⟩, fun k hk => ?_⟩, ?_⟩
    · have := hh k hk
      have e0 : pu none k = 0 := rfl
      rw [pus_ap]
      omega
    · have e0 : pv none = 0 := rfl
      rw [pvl_ap]
      omega
/-- the best of what was joined with fewer than i parts ahead -/
def JM (n m i s e : Nat) (g : Nat → Nat) (X : Nat) : Prop := (∃ L h, OB n m 0 e g L h ∧ pvl L + pv h = X) ∧ ∀ L1 L2 h1 h2, (h1 = none ∨ h2 = none) → L1.length < i → OB L1.length m 0 s g L1 h1 → OB (n - L1.length) m s e g L2 h2 → pvl L1 + pv h1 + (pvl L2 + pv h2) ≤ X
theorem JM.init (n m s e : Nat) (g : Nat → Nat) : JM n m 0 s e g 0 := ⟨⟨[], none, OB.nil g _ _ _ _, rfl⟩, fun _ _ _ _ _ h => absurd h (Nat.not_lt_zero _)⟩
theorem JM.le {i X : Nat} (x : JM n m i s e g X) : X ≤ 2 * n + m := by
  obtain ⟨⟨L, h, a, rfl⟩, -⟩ := x
  exact a.le
theorem OB.mm {h : Option Nat} {L : List (Nat × Nat)} {m' : Nat} (x : OB n m s e g L h) (y : pv h ≤ m') : OB n m' s e g L h := ⟨x.1, y, x.2.2⟩
theorem JM.step0 {i X a c : Nat} (hG : GSU s e) (hi : i ≤ n) (ha : MB i 0 0 s g a) (hc : MB (n - i) 0 s e g c) (x : JM n 0 i s e g X) : JM n 0 (i + 1) s e g (max X (a + c)) := by
  refine ⟨?_, fun L1 L2 h1 h2 z l a1 a2 => ?_⟩
  · by_cases y : X ≤ a + c
    · rw [Nat.max_eq_right y]
      obtain ⟨⟨L1, h1, b1, rfl⟩, -⟩ := ha
      obtain ⟨⟨L2, h2, b2, rfl⟩, -⟩ := hc
      have := OB.ap hG b1 b2 (Or.inl (pv_0 b1.2.1))
      rw [show i + (n - i) = n by omega] at this
      exact ⟨_, _, this.1, this.2⟩
    · rw [Nat.max_eq_left (by omega)]
      exact x.1
  · by_cases y : L1.length < i
    · exact Nat.le_trans (x.2 L1 L2 h1 h2 z y a1 a2) (Nat.le_max_left _ _)
    · have e1 : L1.length = i := by omega
      rw [e1] at a1 a2
      exact Nat.le_trans (Nat.add_le_add (ha.2 L1 h1 a1) (hc.2 L2 h2 a2)) (Nat.le_max_right _ _)
theorem JM.step1 {i X a b c d : Nat} (hG : GSU s e) (hi : i ≤ n) (ha : MB i 0 0 s g a) (hb : MB i 1 0 s g b) (hc : MB (n - i) 0 s e g c) (hd : MB (n - i) 1 s e g d) (x : JM n 1 i s e g X) : JM n 1 (i + 1) s e g (max (max X (b + c)) (a + d)) := by
  have c1 : ∃ L h, OB n 1 0 e g L h ∧ pvl L + pv h = b + c := by
    obtain ⟨⟨L1, h1, b1, rfl⟩, -⟩ := hb
    obtain ⟨⟨L2, h2, b2, rfl⟩, -⟩ := hc
    have := OB.ap hG b1 (b2.mm (pv_le h2)) (Or.inr (pv_0 b2.2.1))
    rw [show i + (n - i) = n by omega] at this
    exact ⟨_, _, this.1, this.2⟩
  have c2 : ∃ L h, OB n 1 0 e g L h ∧ pvl L + pv h = a + d := by
    obtain ⟨⟨L1, h1, b1, rfl⟩, -⟩ := ha
    obtain ⟨⟨L2, h2, b2, rfl⟩, -⟩ := hd
    have := OB.ap hG (b1.mm (pv_le h1)) b2 (Or.inl (pv_0 b1.2.1))
    rw [show i + (n - i) = n by omega] at this
    exact ⟨_, _, this.1, this.2⟩
  refine ⟨?_, fun L1 L2 h1 h2 z l a1 a2 => ?_⟩
  · rcases (show max (max X (b + c)) (a + d) = X ∨ max (max X (b + c)) (a + d) = b + c ∨ max (max X (b + c)) (a + d) = a + d by omega) with y | y | y
    · rw [y]; exact x.1
    · rw [y]; exact c1
    · rw [y]; exact c2
  · by_cases y : L1.length < i
    · have := x.2 L1 L2 h1 h2 z y a1 a2
      omega
    · have e1 : L1.length = i := by omega
      rw [e1] at a1 a2
      rcases z with z | z
      · subst z
        have u1 := ha.2 L1 none (a1.mm (Nat.le_refl _))
        have u2 := hd.2 L2 h2 a2
        omega
      · subst z
        have u1 := hb.2 L1 h1 a1
        have u2 := hc.2 L2 none (a2.mm (Nat.le_refl _))
        omega
theorem JM.fin {X : Nat} (hG : GSU s e) (x : JM n m (n + 1) s e g X) : MB n m 0 e g X := by
  refine ⟨x.1, fun L h y => ?_⟩
  obtain ⟨L1, L2, a, b, c, d, f⟩ := psp s L
  obtain ⟨y1, y2, y3, y4, y5⟩ := y
  have k1 : ∀ h1, pv h1 ≤ m → (∀ l, h1 = some l → l < s) → (∀ k, pu h1 k ≤ pu h k) → OB L1.length m 0 s g L1 h1 := fun h1 z1 z2 z3 => ⟨Nat.le_refl _, z1, fun q hq => ⟨(y3 q (a q hq).1).1, Nat.zero_le _, (a q hq).2⟩, fun l hl => ⟨Nat.zero_le _, z2 l hl⟩, fun k hk => by
    have := y5 k hk
    have := f k
    have := z3 k
    omega⟩
  have k2 : ∀ h2, pv h2 ≤ m → (∀ l, h2 = some l → s ≤ l ∧ l < e) → (∀ k, pu h2 k ≤ pu h k) → OB (n - L1.length) m s e g L2 h2 := fun h1 z1 z2 z3 => ⟨by omega, z1, fun q hq => ⟨(y3 q (b q hq).1).1, (b q hq).2, (y3 q (b q hq).1).2.2⟩, z2, fun k hk => by
    have := y5 k hk
    have := f k
    have := z3 k
    omega⟩
  have e0 : pv none = 0 := rfl
  cases h with
  | none =>
    have := x.2 L1 L2 none none (Or.inl rfl) (by omega) (k1 none y2 (fun l hl => by cases hl) (fun k => Nat.le_refl _)) (k2 none y2 (fun l hl => by cases hl) (fun k => Nat.le_refl _))
    omega
  | some l =>
    by_cases w : l < s
    · have := x.2 L1 L2 (some l) none (Or.inr rfl) (by omega) (k1 (some l) y2 (fun l' hl => by cases hl; exact w) (fun k => Nat.le_refl _)) (k2 none (Nat.zero_le _) (fun l hl => by cases hl) (fun k => Nat.zero_le _))
      omega
    · have := x.2 L1 L2 none (some l) (Or.inl rfl) (by omega) (k1 none (Nat.zero_le _) (fun l hl => by cases hl) (fun k => Nat.zero_le _)) (k2 (some l) y2 (fun l' hl => by cases hl; exact ⟨by omega, (y4 _ rfl).2⟩) (fun k => Nat.le_refl _))
      omega
/-- the best with a pair ahead of k, or none -/
def PD (n s e k : Nat) (g : Nat → Nat) (V : Nat) : Prop := (∃ L h, OB n 1 s e g L h ∧ pvl L + pv h = V) ∧ ∀ L h, OB n 1 s e g L h → (∀ l, h = some l → l < k) → pvl L + pv h ≤ V
theorem PD.le {k V : Nat} (x : PD n s e k g V) : V ≤ 2 * n + 1 := by
  obtain ⟨⟨L, h, a, rfl⟩, -⟩ := x
  exact a.le
theorem PD.init {V : Nat} (x : MB n 0 s e g V) : PD n s e s g V := by
  obtain ⟨⟨L, h, a, b⟩, c⟩ := x
  refine ⟨⟨L, h, a.mm (pv_le h), b⟩, fun L h y z => ?_⟩
  cases h with
  | none => exact c L none (y.mm (Nat.le_refl _))
  | some l => exact absurd (z l rfl) (by have := (y.2.2.2.1 l rfl).1; omega)
theorem PD.skip {k V : Nat} (hk : k < 25) (hg : g k < 2) (x : PD n s e k g V) : PD n s e (k + 1) g V :=
  ⟨x.1, fun L h y z => x.2 L h y fun l hl => by
    have h1 := z l hl
    by_cases w : l = k
    · have := y.2.2.2.2 k hk
      have e2 : pu h k = 2 := if_pos (by rw [hl, w])
      omega
    · omega⟩
theorem PD.take {k V v : Nat} (hk : s ≤ k) (hke : k < e) (he : e ≤ 25) (hg : 2 ≤ g k) (w : MB n 0 s e (u1 g k (g k - 2)) v) (x : PD n s e k g V) : PD n s e (k + 1) g (max V (1 + v)) := by
  have pk : ∀ j, pu (some k) j = if j = k then 2 else 0 := fun j => by
    unfold pu
    by_cases y : j = k
    · rw [if_pos y, if_pos (by rw [y])]
    · rw [if_neg y, if_neg (fun z => y (Option.some.inj z).symm)]
  refine ⟨?_, fun L h y z => ?_⟩
  · by_cases c : V ≤ 1 + v
    · rw [Nat.max_eq_right c]
      obtain ⟨⟨L, h, a, b⟩, -⟩ := w
      have hn := pv_0 a.2.1
      subst hn
      refine ⟨L, some k, ⟨a.1, Nat.le_refl _, a.2.2.1, fun l hl => by cases hl; exact ⟨hk, hke⟩, fun j hj => ?_⟩, ?_⟩
      · have := a.2.2.2.2 j hj
        have this : pus L j + 0 ≤ u1 g k (g k - 2) j := this
        rw [pk]
        by_cases y : j = k
        · subst y
          rw [u1_at] at this
          rw [if_pos rfl]
          omega
        · rw [u1_ne _ _ y] at this
          rw [if_neg y]
          exact this
      · have b : pvl L + 0 = v := b
        show pvl L + 1 = 1 + v
        omega
    · rw [Nat.max_eq_left (by omega)]
      exact x.1
  · by_cases c : h = some k
    · subst c
      have ob : OB n 0 s e (u1 g k (g k - 2)) L none := ⟨y.1, Nat.le_refl _, y.2.2.1, fun l hl => (by cases hl), fun j hj => by
        have := y.2.2.2.2 j hj
        rw [pk] at this
        show pus L j + 0 ≤ _
        by_cases w : j = k
        · subst w
          rw [if_pos rfl] at this
          rw [u1_at]
          omega
        · rw [if_neg w] at this
          rw [u1_ne _ _ w]
          exact this⟩
      have := w.2 L none ob
      have this : pvl L + 0 ≤ v := this
      have e1 : pv (some k) = 1 := rfl
      omega
    · have := x.2 L h y fun l hl => by
        have h1 := z l hl
        by_cases w : l = k
        · exact absurd (by rw [hl, w]) c
        · omega
      omega
theorem PD.fin {k V : Nat} (hk : e ≤ k) (x : PD n s e k g V) : MB n 1 s e g V :=
  ⟨x.1, fun L h y => x.2 L h y fun l hl => by have := (y.2.2.2.1 l hl).2; omega⟩
end JOIN
/-! the steps -/
def RWP (A : Nat → Nat → Int32) (b p : Nat) (P : Nat → Nat → Prop) : Prop := ∀ i, i ≤ p → ∃ V, V < 100 ∧ A b i = nI V ∧ P i V
theorem u2_rw (A : Nat → Nat → Int32) {b c : Nat} (i : Nat) (v : Int32) (h : b ≠ c) : u2 A c i v b = A b := by
  funext j
  exact if_neg fun z => h z.1
theorem u2_ro (A : Nat → Nat → Int32) {c i j : Nat} (v : Int32) (h : j ≠ i) : u2 A c i v c j = A c j := if_neg fun z => h z.2
theorem u2_rs (A : Nat → Nat → Int32) (c i : Nat) (v : Int32) : u2 A c i v c i = v := if_pos ⟨rfl, rfl⟩
theorem RWP.eq {A A' : Nat → Nat → Int32} {b p : Nat} {P : Nat → Nat → Prop} (h : RWP A b p P) (e : A' b = A b) : RWP A' b p P := fun i hi => by
  rw [e]
  exact h i hi
theorem RWP.w {A : Nat → Nat → Int32} {b p : Nat} {P P' : Nat → Nat → Prop} (h : RWP A b p P) (e : ∀ i V, i ≤ p → P i V → P' i V) : RWP A b p P' := fun i hi => by
  obtain ⟨V, a, b, c⟩ := h i hi
  exact ⟨V, a, b, e i V hi c⟩
/-- the tables, the rest, what the suits ahead of s make together -/
def JW (A : Nat → Nat → Int32) (q p s : Nat) (g r : Nat → Nat) : Prop := TB A ∧ (∀ k, k < 25 → A q k = nI (r k)) ∧ RWP A (q + 1) p (fun i V => MB i 0 0 s g V) ∧ RWP A (q + 2) p (fun i V => MB i 1 0 s g V)
theorem TB.eq {A A' : Nat → Nat → Int32} (h : TB A) (e : ∀ b, b ≤ 3 → A' b = A b) : TB A' := fun f hf => by
  rw [e 1 (by decide), e 2 (by decide), e 3 (by decide)]
  exact h f hf
theorem JW.eq {A A' : Nat → Nat → Int32} {q p s : Nat} {g r : Nat → Nat} (h : JW A q p s g r) (e : ∀ b, b ≤ 3 ∨ b = q + 1 ∨ b = q + 2 → A' b = A b) (e2 : ∀ k, k < 25 → A' q k = A q k) : JW A' q p s g r :=
  ⟨h.1.eq fun b hb => e b (Or.inl hb), fun k hk => (e2 k hk).trans (h.2.1 k hk), h.2.2.1.eq (e _ (Or.inr (Or.inl rfl))), h.2.2.2.eq (e _ (Or.inr (Or.inr rfl)))⟩
section XJOIN
variable {I : Nat → Nat → Int32} {J : Nat → Nat → Int64} {A : Nat → Nat → Int32} {M : zM} {a q : Nat}
theorem x_mostF (hA : AT A M) (h : PB M a q) {p s e : Nat} (hp : p ≤ 3) (hG : GSU s e) {A1 : Nat → Nat → Int32} (hT : TB A1) {r : Nat → Nat} (hr : ∀ k, k < 25 → A1 q k = nI (r k)) (hg : ∀ k, k < 25 → r k < 1000) : ∃ (v : Nat) (A2 : Nat → Nat → Int32), f_X0_most zR q (nI s) (nI e) (nI p) (cs I J A1 M) = some (nI v, cs I J A2 M) ∧ (∀ b, b ≠ q → A2 b = A1 b) ∧ (∀ k, k < 25 → A2 q k = A1 q k) ∧ MB p 0 s e r v := by
  have hs : s < 26 := by have := hG.e; omega
  obtain ⟨v, w', e1, e2, e3⟩ := x_most (I := I) (J := J) (A := A1) (M := M) (show AT A1 M from hA) hT h.2.2.2.2.2.2.1.1 h.2.2.2.2.2.2.1.2 h.2.2.2.2.2.2.2.2 hG p zR (by show p < 64; omega) hp s r (A1 q) (Nat.le_refl _) hs hr hg
  rw [ur_self] at e1
  exact ⟨v, _, e1, fun b hb => by funext j; exact if_neg hb, fun k hk => (ur_at A1 q k w').trans (e2 k hk), e3⟩
theorem x_joinParts_7 (h : PB M a q) {p s e : Nat} (hp : p ≤ 3) (hG : GSU s e) {g : Nat → Nat} {A1 : Nat → Nat → Int32} (b1 : RWP A1 (q + 1) p (fun i V => MB i 0 0 s g V)) (b2 : RWP A1 (q + 2) p (fun i V => MB i 1 0 s g V)) (b3 : RWP A1 (q + 3) p (fun i V => MB i 0 s e g V)) (b4 : RWP A1 (q + 4) p (fun i V => MB i 1 s e g V)) : ∀ (d n i X Y : Nat), i + d = p + 1 → d < n → JM p 0 i s e g X → JM p 1 i s e g Y → ∃ X' Y', f_X0_joinParts_7 n a (nI p) (nI X) (nI Y) (nI i) (cs I J A1 M) = some ((), cs I J (u2 (u2 A1 (q + 1) p (nI X')) (q + 2) p (nI Y')) M) ∧ MB p 0 0 e g X' ∧ MB p 1 0 e g Y' := by
  obtain ⟨h1, h2, h3, h4, h5, h6, h7, h8, h9⟩ := h
  have r1 := h8 1 (by decide) (by decide)
  have r2 := h8 2 (by decide) (by decide)
  have r3 := h8 3 (by decide) (by decide)
  have r4 := h8 4 (by decide) (by decide)
  intro d
  induction d with
  | zero =>
    intro n i X Y hi hn hX hY
    obtain ⟨n, rfl⟩ : ∃ m, n = m + 1 := ⟨n - 1, by omega⟩
    obtain rfl : i = p + 1 := by omega
    refine ⟨X, Y, ?_, hX.fin hG, hY.fin hG⟩
    rw [f_X0_joinParts_7, if_pos (lt_t p (p + 1) (by omega) (by omega))]
    unfold f_X0_joinParts_90
    rw [gR_cs 193 h1 h3, Option.bind_some, tA_cs r1.1 (by omega) (by omega), Option.bind_some, gR_cs 194 h1 h4, Option.bind_some, tA_cs r2.1 (by omega) (by omega), Option.bind_some]
  | succ d ih =>
    intro n i X Y hi hn hX hY
    obtain ⟨n, rfl⟩ : ∃ m, n = m + 1 := ⟨n - 1, by omega⟩
    have es : nI p - nI i = nI (p - i) := pk_sub (by omega)
    obtain ⟨va, la, ea, ma⟩ := b1 i (by omega)
    obtain ⟨vb, lb, eb, mb⟩ := b2 i (by omega)
    obtain ⟨vc, lc, ec, mc⟩ := b3 (p - i) (by omega)
    obtain ⟨vd, ld, ed, md⟩ := b4 (p - i) (by omega)
    have lX := hX.le
    have lY := hY.le
    rw [f_X0_joinParts_7, if_neg (lt_f p i (by omega) (by omega)), if_neg (lt_f (x := 3) 3 p hp (by decide)), gR_cs 193 h1 h3, Option.bind_some, lA_cs r1.1 (by omega) (by omega), Option.bind_some, gR_cs 195 h1 h5, Option.bind_some, es, lA_cs r3.1 (by omega) (by omega), Option.bind_some, ea, ec, nI_add, x_max (by omega) (by omega), Option.bind_some]
    dsimp only
    rw [gR_cs 194 h1 h4, Option.bind_some, lA_cs r2.1 (by omega) (by omega), Option.bind_some, gR_cs 195 h1 h5, Option.bind_some, lA_cs r3.1 (by omega) (by omega), Option.bind_some, eb, ec, nI_add, x_max (by omega) (by omega), Option.bind_some]
    dsimp only
    rw [gR_cs 193 h1 h3, Option.bind_some, lA_cs r1.1 (by omega) (by omega), Option.bind_some, gR_cs 196 h1 h6, Option.bind_some, lA_cs r4.1 (by omega) (by omega), Option.bind_some, ea, ed, nI_add, x_max (by omega) (by omega), Option.bind_some, nI_1]
    exact ih n (i + 1) _ _ (by omega) (by omega) (hX.step0 hG (by omega) ma mc) (hY.step1 hG (by omega) ma mb mc md)
theorem x_joinParts (h : PB M a q) {p s e : Nat} (hp : p ≤ 3) (hG : GSU s e) {g : Nat → Nat} {A1 : Nat → Nat → Int32} (b1 : RWP A1 (q + 1) p (fun i V => MB i 0 0 s g V)) (b2 : RWP A1 (q + 2) p (fun i V => MB i 1 0 s g V)) (b3 : RWP A1 (q + 3) p (fun i V => MB i 0 s e g V)) (b4 : RWP A1 (q + 4) p (fun i V => MB i 1 s e g V)) : ∃ X Y, f_X0_joinParts a (nI p) (cs I J A1 M) = some ((), cs I J (u2 (u2 A1 (q + 1) p (nI X)) (q + 2) p (nI Y)) M) ∧ MB p 0 0 e g X ∧ MB p 1 0 e g Y :=
  x_joinParts_7 h hp hG b1 b2 b3 b4 (p + 1) zN 0 0 0 (by omega) (by show p + 1 < 130; omega) (JM.init p 0 s e g) (JM.init p 1 s e g)
theorem x_join_166 (h : PB M a q) {p s e : Nat} (hp : p ≤ 3) (hG : GSU s e) {g : Nat → Nat} : ∀ (d n : Nat) (x : Int32) (A1 : Nat → Nat → Int32), d ≤ p + 1 → x + 1 = nI d → d < n → RWP A1 (q + 1) p (fun i V => MB i 0 0 (if i < d then s else e) g V) → RWP A1 (q + 2) p (fun i V => MB i 1 0 (if i < d then s else e) g V) → RWP A1 (q + 3) p (fun i V => MB i 0 s e g V) → RWP A1 (q + 4) p (fun i V => MB i 1 s e g V) → ∃ A2, f_X0_join_166 n a x (cs I J A1 M) = some ((), cs I J A2 M) ∧ (∀ b, b ≠ q + 1 → b ≠ q + 2 → A2 b = A1 b) ∧ RWP A2 (q + 1) p (fun i V => MB i 0 0 e g V) ∧ RWP A2 (q + 2) p (fun i V => MB i 1 0 e g V) := by
  intro d
  induction d with
  | zero =>
    intro n x A1 hd hx hn b1 b2 b3 b4
    obtain ⟨n, rfl⟩ : ∃ m, n = m + 1 := ⟨n - 1, by omega⟩
    have e : x = -1 := by
      have e2 : x + 1 = 0 := hx
      grind
    subst e
    exact ⟨A1, by rw [f_X0_join_166, if_pos (by decide)], fun _ _ _ => rfl, b1, b2⟩
  | succ d ih =>
    intro n x A1 hd hx hn b1 b2 b3 b4
    obtain ⟨n, rfl⟩ : ∃ m, n = m + 1 := ⟨n - 1, by omega⟩
    have e : x = nI d := by
      rw [← nI_1] at hx
      grind
    subst e
    have sub : ∀ {b : Nat} {P : Nat → Nat → Nat → Prop}, RWP A1 b p (fun i V => P i (if i < d + 1 then s else e) V) → RWP A1 b d (fun i V => P i s V) := fun z i hi => by
      obtain ⟨V, u1, u2, u3⟩ := z i (by omega)
      rw [if_pos (show i < d + 1 by omega)] at u3
      exact ⟨V, u1, u2, u3⟩
    have sub2 : ∀ {b : Nat} {P : Nat → Nat → Prop}, RWP A1 b p P → RWP A1 b d P := fun z i hi => z i (by omega)
    obtain ⟨X, Y, e2, m1, m2⟩ := x_joinParts (I := I) (J := J) h (show d ≤ 3 by omega) hG (sub (P := fun i s V => MB i 0 0 s g V) b1) (sub (P := fun i s V => MB i 1 0 s g V) b2) (sub2 b3) (sub2 b4)
    have l1 := m1.le
    have l2 := m2.le
    rw [f_X0_join_166, if_neg (nI_nn (by omega)), if_pos (show mK (cs I J A1 M) a = 6 from h.1), e2, Option.bind_some]
    dsimp only
    obtain ⟨A3, e3, f3, c1, c2⟩ := ih n (nI d + -1) (u2 (u2 A1 (q + 1) d (nI X)) (q + 2) d (nI Y)) (by omega) (by grind) (by omega) (fun i hi => by
        rw [u2_rw _ d _ (show q + 1 ≠ q + 2 by omega)]
        by_cases y : i = d
        · subst y
          exact ⟨X, by omega, u2_rs _ _ _ _, by dsimp only; rw [if_neg (Nat.lt_irrefl _)]; exact m1⟩
        · obtain ⟨V, u1, u2, u3⟩ := b1 i hi
          refine ⟨V, u1, (u2_ro _ _ y).trans u2, ?_⟩
          dsimp only
          by_cases z : i < d
          · rw [if_pos z]; rw [if_pos (show i < d + 1 by omega)] at u3; exact u3
          · rw [if_neg z]; rw [if_neg (show ¬ i < d + 1 by omega)] at u3; exact u3) (fun i hi => by
        by_cases y : i = d
        · subst y
          exact ⟨Y, by omega, u2_rs _ _ _ _, by dsimp only; rw [if_neg (Nat.lt_irrefl _)]; exact m2⟩
        · obtain ⟨V, u1, u2, u3⟩ := b2 i hi
          refine ⟨V, u1, (u2_ro _ _ y).trans ((congrFun (u2_rw _ d _ (show q + 2 ≠ q + 1 by omega)) i).trans u2), ?_⟩
          dsimp only
          by_cases z : i < d
          · rw [if_pos z]; rw [if_pos (show i < d + 1 by omega)] at u3; exact u3
          · rw [if_neg z]; rw [if_neg (show ¬ i < d + 1 by omega)] at u3; exact u3) (b3.eq (by rw [u2_rw _ d _ (show q + 3 ≠ q + 2 by omega), u2_rw _ d _ (show q + 3 ≠ q + 1 by omega)])) (b4.eq (by rw [u2_rw _ d _ (show q + 4 ≠ q + 2 by omega), u2_rw _ d _ (show q + 4 ≠ q + 1 by omega)]))
    exact ⟨A3, e3, fun b z1 z2 => by rw [f3 b z1 z2, u2_rw _ d _ z2, u2_rw _ d _ z1], c1, c2⟩
/-- what a join gives -/
def JR (I : Nat → Nat → Int32) (J : Nat → Nat → Int64) (M : zM) (q p e : Nat) (g : Nat → Nat) (A1 : Nat → Nat → Int32) (x : Option (Unit × zM)) : Prop := ∃ A2, x = some ((), cs I J A2 M) ∧ FRM q A1 A2 ∧ JW A2 q p e g g
theorem JR.fr {q p e : Nat} {g : Nat → Nat} {A1 A2 : Nat → Nat → Int32} {x : Option (Unit × zM)} (h : JR I J M q p e g A2 x) (f : FRM q A1 A2) : JR I J M q p e g A1 x := by
  obtain ⟨A3, a, b, c⟩ := h
  exact ⟨A3, a, f.tr b, c⟩
theorem x_join_159 (h : PB M a q) {p s e : Nat} (hp : p ≤ 3) (hG : GSU s e) {g : Nat → Nat} {A1 : Nat → Nat → Int32} (b : JW A1 q p s g g) (b3 : RWP A1 (q + 3) p (fun i V => MB i 0 s e g V)) (b4 : RWP A1 (q + 4) p (fun i V => MB i 1 s e g V)) : JR I J M q p e g A1 (f_X0_join_159 a (nI p) (cs I J A1 M)) := by
  have hq := h.2.2.2.2.2.2.2.2
  unfold f_X0_join_159
  rw [q_min, Option.bind_some, if_neg (lt_f (x := 3) 3 p hp (by decide))]
  dsimp only
  obtain ⟨A2, e2, f2, c1, c2⟩ := x_join_166 (I := I) (J := J) h hp hG (g := g) (p + 1) zN (nI p) A1 (by omega) (nI_1 p) (by show p + 1 < 130; omega) (b.2.2.1.w fun i V hi u => by rw [if_pos (show i < p + 1 by omega)]; exact u) (b.2.2.2.w fun i V hi u => by rw [if_pos (show i < p + 1 by omega)]; exact u) b3 b4
  refine ⟨A2, e2, fun c hc => f2 c (by omega) (by omega), b.1.eq (fun c hc => f2 c (by omega) (by omega)), fun k hk => ?_, c1, c2⟩
  rw [f2 q (by omega) (by omega)]
  exact b.2.1 k hk
theorem x_join_94 (hA : AT A M) (h : PB M a q) (K : Nat → Int32 → Int32 → Int32 → Int32 → zM → Option (Unit × zM)) {s e p k : Nat} (hG : GSU s e) (hp : p ≤ 3) (hs : s ≤ k) (hk : k < e) {g : Nat → Nat} (hg : ∀ k, k < 25 → g k < 1000) (h2 : 2 ≤ g k) (hK : ∀ A1, JW A1 q p s g g → RWP A1 (q + 3) p (fun i V => MB i 0 s e g V) → RWP A1 (q + 4) p (fun i V => PD i s e (k + 1) g V) → JR I J M q p e g A1 (K a (nI s) (nI e) (nI p) (nI (k + 1)) (cs I J A1 M))) : ∀ (d n i : Nat) (A1 : Nat → Nat → Int32), i + d = p + 1 → d < n → JW A1 q p s g (u1 g k (g k - 2)) → RWP A1 (q + 3) p (fun i V => MB i 0 s e g V) → RWP A1 (q + 4) p (fun j V => PD j s e (if j < i then k + 1 else k) g V) → JR I J M q p e g A1 (f_X0_join_94 K n a (nI s) (nI e) (nI p) (nI k) (nI i) (cs I J A1 M)) := by
  have hh := h
  obtain ⟨h1, h2', h3, h4, h5, h6, h7, h8, h9⟩ := h
  have r4 := h8 4 (by decide) (by decide)
  have he := hG.e
  intro d
  induction d with
  | zero =>
    intro n i A1 hi hn b b3 b4
    obtain ⟨n, rfl⟩ : ∃ m, n = m + 1 := ⟨n - 1, by omega⟩
    obtain rfl : i = p + 1 := by omega
    rw [f_X0_join_94, if_pos (lt_t p (p + 1) (by omega) (by omega))]
    unfold f_X0_join_142
    have eb : nI (g k - 2) + 2 = nI (g k) := (nI_add (g k - 2) 2).trans (congrArg nI (by omega))
    rw [gR_cs 192 h1 h2', Option.bind_some, lA_cs h7.1 (by omega) (by omega), Option.bind_some, tA_cs h7.1 (by omega) (by omega), Option.bind_some, nI_1, b.2.1 k (by omega), u1_at, eb]
    have fr : FRM q A1 (u2 A1 q k (nI (g k))) := (FRM.rf A1).u2 (Nat.le_refl _) (by omega)
    refine (hK (u2 A1 q k (nI (g k))) ⟨b.1.eq (fun c hc => u2_rw _ _ _ (by omega)), fun j hj => ?_, b.2.2.1.eq (u2_rw _ _ _ (by omega)), b.2.2.2.eq (u2_rw _ _ _ (by omega))⟩ (b3.eq (u2_rw _ _ _ (by omega))) ?_).fr fr
    · by_cases y : j = k
      · subst y; exact u2_rs _ _ _ _
      · rw [u2_ro _ _ y, b.2.1 j hj, u1_ne _ _ y]
    · exact (b4.w fun j V hj u => by rw [if_pos (show j < p + 1 by omega)] at u; exact u).eq (u2_rw _ _ _ (by omega))
  | succ d ih =>
    intro n i A1 hi hn b b3 b4
    obtain ⟨n, rfl⟩ : ∃ m, n = m + 1 := ⟨n - 1, by omega⟩
    obtain ⟨V, lV, eV, mV⟩ := b4 i (by omega)
    rw [if_neg (Nat.lt_irrefl _)] at mV
    have gr : ∀ j, j < 25 → u1 g k (g k - 2) j < 1000 := fun j hj => by
      have := hg j hj
      by_cases y : j = k
      · subst y; rw [u1_at]; omega
      · rw [u1_ne _ _ y]; exact this
    obtain ⟨v, A2, e2, f2, f2q, m2⟩ := x_mostF (I := I) (J := J) hA hh (show i ≤ 3 by omega) hG b.1 b.2.1 gr
    have lv := m2.le
    rw [f_X0_join_94, if_neg (lt_f p i (by omega) (by omega)), if_neg (lt_f (x := 3) 3 i (by omega) (by decide)), gR_cs 196 h1 h6, Option.bind_some, Option.bind_some, lA_cs r4.1 (by omega) (by omega), Option.bind_some, gR_cs 192 h1 h2', Option.bind_some, e2, Option.bind_some, eV]
    dsimp only
    have e1v : (1 : Int32) + nI v = nI (1 + v) := nI_add 1 v
    rw [e1v, x_max (by omega) (by omega), Option.bind_some]
    dsimp only
    rw [tA_cs r4.1 (by omega) (by omega), Option.bind_some, nI_1]
    have row : ∀ c, c ≠ q → c ≠ q + 4 → u2 A2 (q + 4) i (nI (max V (1 + v))) c = A1 c := fun c c1 c2 => (u2_rw _ _ _ c2).trans (f2 c c1)
    refine (ih n (i + 1) (u2 A2 (q + 4) i (nI (max V (1 + v)))) (by omega) (by omega) (b.eq (fun c hc => row c (by omega) (by omega)) (fun j hj => by rw [u2_rw _ _ _ (show q ≠ q + 4 by omega)]; exact f2q j hj)) (b3.eq (row _ (by omega) (by omega))) (fun j hj => ?_)).fr (fun c hc => row c (by omega) (by omega))
    by_cases y : j = i
    · subst y
      exact ⟨_, by omega, u2_rs _ _ _ _, by dsimp only; rw [if_pos (Nat.lt_succ_self _)]; exact mV.take hs hk he.1 h2 m2⟩
    · obtain ⟨V', u1, u2, u3⟩ := b4 j hj
      refine ⟨V', u1, (u2_ro _ _ y).trans ((congrFun (f2 _ (by omega)) j).trans u2), ?_⟩
      dsimp only
      by_cases z : j < i
      · rw [if_pos (show j < i + 1 by omega)]; rw [if_pos z] at u3; exact u3
      · rw [if_neg (show ¬ j < i + 1 by omega)]; rw [if_neg z] at u3; exact u3
theorem x_join_56 (hA : AT A M) (h : PB M a q) {s e p : Nat} (hG : GSU s e) (hp : p ≤ 3) {g : Nat → Nat} (hg : ∀ k, k < 25 → g k < 1000) : ∀ (d n k : Nat) (A1 : Nat → Nat → Int32), k + d = 26 → d < n → s ≤ k → JW A1 q p s g g → RWP A1 (q + 3) p (fun i V => MB i 0 s e g V) → RWP A1 (q + 4) p (fun i V => PD i s e k g V) → JR I J M q p e g A1 (f_X0_join_56 n a (nI s) (nI e) (nI p) (nI k) (cs I J A1 M)) := by
  have hh := h
  obtain ⟨h1, h2, h3, h4, h5, h6, h7, h8, h9⟩ := h
  have he := hG.e
  intro d
  induction d with
  | zero =>
    intro n k A1 hi hn hs b b3 b4
    obtain ⟨n, rfl⟩ : ∃ m, n = m + 1 := ⟨n - 1, by omega⟩
    rw [f_X0_join_56, if_pos (le_t e k (by omega) (by omega))]
    exact x_join_159 hh hp hG b b3 (b4.w fun i V hi u => u.fin (by omega))
  | succ d ih =>
    intro n k A1 hi hn hs b b3 b4
    obtain ⟨n, rfl⟩ : ∃ m, n = m + 1 := ⟨n - 1, by omega⟩
    by_cases z : e ≤ k
    · rw [f_X0_join_56, if_pos (le_t e k z (by omega))]
      exact x_join_159 hh hp hG b b3 (b4.w fun i V hi u => u.fin z)
    · have hgk := hg k (by omega)
      rw [f_X0_join_56, if_neg (le_f e k (by omega) (by omega)), if_neg (le_f (x := 25) 25 k (by omega) (by decide)), gR_cs 192 h1 h2, Option.bind_some, lA_cs h7.1 (by omega) (by omega), Option.bind_some, b.2.1 k (by omega)]
      by_cases y : g k < 2
      · rw [if_pos (lt_t (y := 2) (g k) 2 y (by decide)), nI_1]
        exact ih n (k + 1) A1 (by omega) (by omega) (by omega) b b3 (b4.w fun i V hi u => u.skip (by omega) y)
      · have em : nI (g k) - 2 = nI (g k - 2) := pk_sub (a := g k) (b := 2) (by omega)
        rw [if_neg (lt_f (y := 2) (g k) 2 (by omega) (by omega)), Option.bind_some, lA_cs h7.1 (by omega) (by omega), Option.bind_some, tA_cs h7.1 (by omega) (by omega), Option.bind_some, b.2.1 k (by omega), em]
        have fr : FRM q A1 (u2 A1 q k (nI (g k - 2))) := (FRM.rf A1).u2 (Nat.le_refl _) (by omega)
        refine (x_join_94 (I := I) (J := J) hA hh (f_X0_join_56 n) hG hp hs (by omega) hg (by omega) (fun A1 c c3 c4 => ih n (k + 1) A1 (by omega) (by omega) (by omega) c c3 c4) (p + 1) zN 0 (u2 A1 q k (nI (g k - 2))) (by omega) (by show p + 1 < 130; omega) ⟨b.1.eq (fun c hc => u2_rw _ _ _ (by omega)), fun j hj => ?_, b.2.2.1.eq (u2_rw _ _ _ (by omega)), b.2.2.2.eq (u2_rw _ _ _ (by omega))⟩ (b3.eq (u2_rw _ _ _ (by omega))) ((b4.w fun i V hi u => by rw [if_neg (Nat.not_lt_zero _)]; exact u).eq (u2_rw _ _ _ (by omega)))).fr fr
        by_cases y : j = k
        · subst y
          rw [u1_at]
          exact u2_rs _ _ _ _
        · rw [u2_ro _ _ y, b.2.1 j hj, u1_ne _ _ y]
theorem x_join_3 (hA : AT A M) (h : PB M a q) {s e p : Nat} (hG : GSU s e) (hp : p ≤ 3) {g : Nat → Nat} (hg : ∀ k, k < 25 → g k < 1000) : ∀ (d n i : Nat) (A1 : Nat → Nat → Int32), i + d = p + 1 → d < n → JW A1 q p s g g → (∀ j, j < i → ∃ V, V < 100 ∧ A1 (q + 3) j = nI V ∧ MB j 0 s e g V) → (∀ j, j < i → ∃ V, V < 100 ∧ A1 (q + 4) j = nI V ∧ PD j s e s g V) → JR I J M q p e g A1 (f_X0_join_3 n a (nI s) (nI e) (nI p) (nI i) (cs I J A1 M)) := by
  have hh := h
  obtain ⟨h1, h2, h3, h4, h5, h6, h7, h8, h9⟩ := h
  have r3 := h8 3 (by decide) (by decide)
  have r4 := h8 4 (by decide) (by decide)
  have he := hG.e
  intro d
  induction d with
  | zero =>
    intro n i A1 hi hn b b3 b4
    obtain ⟨n, rfl⟩ : ∃ m, n = m + 1 := ⟨n - 1, by omega⟩
    obtain rfl : i = p + 1 := by omega
    rw [f_X0_join_3, if_pos (lt_t p (p + 1) (by omega) (by omega))]
    exact x_join_56 hA hh hG hp hg (26 - s) zN s A1 (by omega) (by show 26 - s < 130; omega) (Nat.le_refl _) b (fun i hi => b3 i (by omega)) (fun i hi => b4 i (by omega))
  | succ d ih =>
    intro n i A1 hi hn b b3 b4
    obtain ⟨n, rfl⟩ : ∃ m, n = m + 1 := ⟨n - 1, by omega⟩
    obtain ⟨v, A2, e2, f2, f2q, m2⟩ := x_mostF (I := I) (J := J) hA hh (show i ≤ 3 by omega) hG b.1 b.2.1 hg
    have lv := m2.le
    rw [f_X0_join_3, if_neg (lt_f p i (by omega) (by omega)), if_neg (lt_f (x := 3) 3 i (by omega) (by decide)), gR_cs 195 h1 h5, Option.bind_some, gR_cs 192 h1 h2, Option.bind_some, e2, Option.bind_some]
    dsimp only
    rw [tA_cs r3.1 (by omega) (by omega), Option.bind_some, gR_cs 196 h1 h6, Option.bind_some, gR_cs 195 h1 h5, Option.bind_some, lA_cs r3.1 (by omega) (by omega), Option.bind_some, u2_rs, tA_cs r4.1 (by omega) (by omega), Option.bind_some, nI_1]
    have row : ∀ c, c ≠ q → c ≠ q + 3 → c ≠ q + 4 → u2 (u2 A2 (q + 3) i (nI v)) (q + 4) i (nI v) c = A1 c := fun c c1 c2 c3 => (u2_rw _ _ _ c3).trans ((u2_rw _ _ _ c2).trans (f2 c c1))
    refine (ih n (i + 1) (u2 (u2 A2 (q + 3) i (nI v)) (q + 4) i (nI v)) (by omega) (by omega) (b.eq (fun c hc => row c (by omega) (by omega) (by omega)) (fun j hj => by rw [u2_rw _ _ _ (show q ≠ q + 4 by omega), u2_rw _ _ _ (show q ≠ q + 3 by omega)]; exact f2q j hj)) (fun j hj => ?_) (fun j hj => ?_)).fr (fun c hc => row c (by omega) (by omega) (by omega))
    · rw [u2_rw _ _ _ (show q + 3 ≠ q + 4 by omega)]
      by_cases y : j = i
      · subst y
        exact ⟨v, by omega, u2_rs _ _ _ _, m2⟩
      · obtain ⟨V, u1, u2, u3⟩ := b3 j (by omega)
        exact ⟨V, u1, (u2_ro _ _ y).trans ((congrFun (f2 _ (by omega)) j).trans u2), u3⟩
    · by_cases y : j = i
      · subst y
        exact ⟨v, by omega, u2_rs _ _ _ _, PD.init m2⟩
      · obtain ⟨V, u1, u2, u3⟩ := b4 j (by omega)
        exact ⟨V, u1, (u2_ro _ _ y).trans ((congrFun (u2_rw _ _ _ (show q + 4 ≠ q + 3 by omega)) j).trans ((congrFun (f2 _ (by omega)) j).trans u2)), u3⟩
theorem x_join (hA : AT A M) (h : PB M a q) {s e p : Nat} (hG : GSU s e) (hp : p ≤ 3) {g : Nat → Nat} (hg : ∀ k, k < 25 → g k < 1000) {A1 : Nat → Nat → Int32} (b : JW A1 q p s g g) : JR I J M q p e g A1 (f_X0_join a (nI s) (nI e) (nI p) (cs I J A1 M)) :=
  x_join_3 hA h hG hp hg (p + 1) zN 0 A1 (by omega) (by show p + 1 < 130; omega) b (fun j hj => absurd hj (Nat.not_lt_zero _)) (fun j hj => absurd hj (Nat.not_lt_zero _))
theorem x_far_29 (hA : AT A M) (h : PB M a q) {p : Nat} (hp : p ≤ 3) {g : Nat → Nat} (hg : ∀ k, k < 25 → g k < 1000) : ∀ (d n i : Nat) (A1 : Nat → Nat → Int32), i + d = 4 → d < n → TB A1 → (∀ k, k < 25 → A1 q k = nI (g k)) → (∀ j, j < i → A1 (q + 1) j = nI 0 ∧ A1 (q + 2) j = nI 0) → ∃ v A2, f_X0_far_29 n a (nI p) (nI i) (cs I J A1 M) = some (nI (2 * p) - nI v, cs I J A2 M) ∧ FRM q A1 A2 ∧ MB p 1 0 25 g v := by
  have hh := h
  obtain ⟨h1, h2, h3, h4, h5, h6, h7, h8, h9⟩ := h
  have r1 := h8 1 (by decide) (by decide)
  have r2 := h8 2 (by decide) (by decide)
  intro d
  induction d with
  | zero =>
    intro n i A1 hi hn hT hr hz
    obtain ⟨n, rfl⟩ : ∃ m, n = m + 1 := ⟨n - 1, by omega⟩
    have b0 : JW A1 q p 0 g g := ⟨hT, hr, fun j hj => ⟨0, by omega, (hz j (by omega)).1, MB.start j 0 g⟩, fun j hj => ⟨0, by omega, (hz j (by omega)).2, MB.start j 1 g⟩⟩
    obtain ⟨A2, e2, f2, b2⟩ := x_join (I := I) (J := J) hA hh (s := 0) (e := 9) (Or.inl ⟨rfl, rfl⟩) hp hg b0
    obtain ⟨A3, e3, f3, b3⟩ := x_join (I := I) (J := J) hA hh (s := 9) (e := 18) (Or.inr (Or.inl ⟨rfl, rfl⟩)) hp hg b2
    obtain ⟨A4, e4, f4, b4⟩ := x_join (I := I) (J := J) hA hh (s := 18) (e := 25) (Or.inr (Or.inr ⟨rfl, rfl⟩)) hp hg b3
    have e2' : f_X0_join a 0 9 (nI p) (cs I J A1 M) = some ((), cs I J A2 M) := e2
    have e3' : f_X0_join a 9 18 (nI p) (cs I J A2 M) = some ((), cs I J A3 M) := e3
    have e4' : f_X0_join a 18 25 (nI p) (cs I J A3 M) = some ((), cs I J A4 M) := e4
    obtain ⟨V, lV, eV, mV⟩ := b4.2.2.2 p (Nat.le_refl _)
    have em : (2 : Int32) * nI p = nI (2 * p) := pk_mul 2 p
    rw [f_X0_far_29, if_pos (lt_t (x := 3) 3 i (by omega) (by omega)), if_pos (show mK (cs I J A1 M) a = 6 from h1), e2', Option.bind_some, if_pos (show mK (cs I J A2 M) a = 6 from h1)]
    dsimp only
    rw [e3', Option.bind_some, if_pos (show mK (cs I J A3 M) a = 6 from h1)]
    dsimp only
    rw [e4', Option.bind_some]
    dsimp only
    rw [gR_cs 194 h1 h4, Option.bind_some, lA_cs r2.1 (by omega) (by omega), Option.bind_some, eV, em]
    exact ⟨V, A4, rfl, f2.tr (f3.tr f4), mV⟩
  | succ d ih =>
    intro n i A1 hi hn hT hr hz
    obtain ⟨n, rfl⟩ : ∃ m, n = m + 1 := ⟨n - 1, by omega⟩
    rw [f_X0_far_29, if_neg (lt_f (x := 3) 3 i (by omega) (by decide)), gR_cs 193 h1 h3, Option.bind_some, tA_cs r1.1 (by omega) (by omega), Option.bind_some, gR_cs 194 h1 h4, Option.bind_some, tA_cs r2.1 (by omega) (by omega), Option.bind_some, nI_1]
    have row : ∀ c, c ≠ q + 1 → c ≠ q + 2 → u2 (u2 A1 (q + 1) i 0) (q + 2) i 0 c = A1 c := fun c c1 c2 => (u2_rw _ _ _ c2).trans (u2_rw _ _ _ c1)
    obtain ⟨v, A2, e2, f2, m2⟩ := ih n (i + 1) (u2 (u2 A1 (q + 1) i 0) (q + 2) i 0) (by omega) (by omega) (hT.eq fun c hc => row c (by omega) (by omega)) (fun k hk => by rw [row q (by omega) (by omega)]; exact hr k hk) (fun j hj => by
      by_cases y : j = i
      · subst y
        exact ⟨(congrFun (u2_rw _ _ _ (show q + 1 ≠ q + 2 by omega)) j).trans (u2_rs _ _ _ _), u2_rs _ _ _ _⟩
      · have := hz j (by omega)
        exact ⟨(congrFun (u2_rw _ _ _ (show q + 1 ≠ q + 2 by omega)) j).trans ((u2_ro _ _ y).trans this.1), (u2_ro _ _ y).trans ((congrFun (u2_rw _ _ _ (show q + 2 ≠ q + 1 by omega)) j).trans this.2)⟩)
    exact ⟨v, A2, e2, (((FRM.rf A1).u2 (by omega) (by omega)).u2 (by omega) (by omega)).tr f2, m2⟩
/-- far by the class -/
theorem x_far (hA : AT A M) (h : PB M a q) {t N : Nat} (ht : mK M t = 100 ∧ mL M t = 25) (htq : t ≠ q) (hN : N ≤ 3) {g : Nat → Nat} (hg : ∀ k, k < 25 → g k < 1000) {A1 : Nat → Nat → Int32} (hT : TB A1) (hw : ∀ k, k < 25 → A1 t k = nI (g k)) : ∃ v A2, f_X0_far a t (nI N) (cs I J A1 M) = some (nI (2 * (3 - N)) - nI v, cs I J A2 M) ∧ FRM q A1 A2 ∧ MB (3 - N) 1 0 25 g v := by
  unfold f_X0_far f_X0_far_0
  have e : (3 : Int32) - nI N = nI (3 - N) := pk_sub (a := 3) (b := N) hN
  rw [if_pos (le_t (x := 0) 0 N (Nat.zero_le _) (by omega)), if_pos (le_t (y := 3) N 3 hN (by decide)), e]
  unfold f_X0_far_20
  rw [if_pos (show mK (cs I J A1 M) a = 6 from h.1)]
  obtain ⟨w', e1, h1⟩ := q_copy (I := I) (J := J) (A := A1) h.pa ht htq (A1 q)
  rw [ur_self] at e1
  rw [e1, Option.bind_some]
  dsimp only
  have hq := h.2.2.2.2.2.2.2.2
  obtain ⟨v, A2, e2, f2, m2⟩ := x_far_29 (I := I) (J := J) hA h (show 3 - N ≤ 3 by omega) hg 4 zN 0 (ur A1 q w') rfl (by decide) (hT.eq fun c hc => by funext j; exact if_neg (by omega)) (fun k hk => by rw [ur_at, h1 k hk, hw k hk]) (fun j hj => absurd hj (Nat.not_lt_zero _))
  exact ⟨v, A2, e2, ((FRM.rf A1).ur (Nat.le_refl _) (by omega)).tr f2, m2⟩
end XJOIN
