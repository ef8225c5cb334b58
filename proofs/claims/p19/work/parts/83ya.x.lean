/-! ===== PURE: parts of a hand, and the most that they make ===== -/
/-- what a part of a form takes, so far behind its smallest kind -/
def ptk (f d : Nat) : Nat := if f = 0 then (if d = 0 then 3 else 0) else if f = 1 then (if d ≤ 2 then 1 else 0) else if f = 2 then (if d = 0 then 2 else 0) else if f = 3 then (if d ≤ 1 then 1 else 0) else (if d = 0 ∨ d = 2 then 1 else 0)
def ptn (q : Nat × Nat) (k : Nat) : Nat := if q.1 ≤ k then ptk q.2 (k - q.1) else 0
def pvf (f : Nat) : Nat := if f ≤ 1 then 2 else 1
/-- a part that may be -/
def pok (q : Nat × Nat) : Prop := q.2 < 5 ∧ q.1 < 25 ∧ (q.2 = 1 ∨ q.2 = 4 → rw_ q.1 = true) ∧ (q.2 = 3 → q.1 < 18 ∧ q.1 % 9 ≤ 7)
def pus : List (Nat × Nat) → Nat → Nat
  | [], _ => 0
  | q :: L, k => ptn q k + pus L k
def pvl : List (Nat × Nat) → Nat
  | [] => 0
  | q :: L => pvf q.2 + pvl L
/-- the pair beside them -/
def pu (h : Option Nat) (k : Nat) : Nat := if h = some k then 2 else 0
def pv (h : Option Nat) : Nat := if h = none then 0 else 1
/-- parts of the kinds from s on and ahead of e, n at most, and m pairs at most, out of g -/
def OB (n m s e : Nat) (g : Nat → Nat) (L : List (Nat × Nat)) (h : Option Nat) : Prop := L.length ≤ n ∧ pv h ≤ m ∧ (∀ q, q ∈ L → pok q ∧ s ≤ q.1 ∧ q.1 < e) ∧ (∀ l, h = some l → s ≤ l ∧ l < e) ∧ ∀ k, k < 25 → pus L k + pu h k ≤ g k
/-- the most -/
def MB (n m s e : Nat) (g : Nat → Nat) (v : Nat) : Prop := (∃ L h, OB n m s e g L h ∧ pvl L + pv h = v) ∧ ∀ L h, OB n m s e g L h → pvl L + pv h ≤ v
theorem ptk_le (f d : Nat) : ptk f d ≤ 3 := by
  unfold ptk
  repeat' split
  all_goals omega
theorem ptn_0 (l f : Nat) : ptn (l, f) l = ptk f 0 := by
  unfold ptn
  rw [if_pos (Nat.le_refl _)]
  show ptk f (l - l) = _
  rw [Nat.sub_self]
theorem ptn_1 (l f : Nat) : ptn (l, f) (l + 1) = ptk f 1 := by
  unfold ptn
  rw [if_pos (Nat.le_succ _)]
  show ptk f (l + 1 - l) = _
  rw [Nat.add_sub_cancel_left]
theorem ptn_2 (l f : Nat) : ptn (l, f) (l + 2) = ptk f 2 := by
  unfold ptn
  rw [if_pos (Nat.le_add_right _ _)]
  show ptk f (l + 2 - l) = _
  rw [Nat.add_sub_cancel_left]
theorem ptk_o (f : Nat) {d : Nat} (hd : 3 ≤ d) : ptk f d = 0 := by
  unfold ptk
  repeat' split
  all_goals omega
theorem ptn_o (l f : Nat) {k : Nat} (h0 : k ≠ l) (h1 : k ≠ l + 1) (h2 : k ≠ l + 2) : ptn (l, f) k = 0 := by
  unfold ptn
  split
  · rename_i y
    exact ptk_o f (by have : l ≤ k := y; show 3 ≤ k - l; omega)
  · rfl
theorem ptk_0 (f : Nat) : 1 ≤ ptk f 0 := by
  unfold ptk
  repeat' split
  all_goals omega
theorem ptn_lo {q : Nat × Nat} {k : Nat} (h : k < q.1) : ptn q k = 0 := if_neg (by omega)
theorem rw_9 {i : Nat} (h : rw_ i = true) : i % 9 ≤ 6 := (of_decide_eq_true h).2
/-- no part reaches out of its suit -/
theorem ptn_hi {q : Nat × Nat} (h : pok q) {e k : Nat} (he : e = 0 ∨ e = 9 ∨ e = 18 ∨ e = 25) (h1 : q.1 < e) (h2 : e ≤ k) : ptn q k = 0 := by
  obtain ⟨l, f⟩ := q
  obtain ⟨p1, p2, p3, p4⟩ := h
  have p1 : f < 5 := p1
  have h1 : l < e := h1
  by_cases y0 : k = l
  · omega
  · by_cases y1 : k = l + 1
    · subst y1
      rw [ptn_1]
      rcases (show f = 0 ∨ f = 1 ∨ f = 2 ∨ f = 3 ∨ f = 4 by omega) with z | z | z | z | z
      · subst z; rfl
      · have := rw_9 (p3 (Or.inl z)); have := rw_lt (p3 (Or.inl z)); simp only at *; omega
      · subst z; rfl
      · have := p4 z; simp only at *; omega
      · subst z; rfl
    · by_cases y2 : k = l + 2
      · subst y2
        rw [ptn_2]
        rcases (show f = 0 ∨ f = 1 ∨ f = 2 ∨ f = 3 ∨ f = 4 by omega) with z | z | z | z | z
        · subst z; rfl
        · have := rw_9 (p3 (Or.inl z)); have := rw_lt (p3 (Or.inl z)); simp only at *; omega
        · subst z; rfl
        · subst z; rfl
        · have := rw_9 (p3 (Or.inr z)); have := rw_lt (p3 (Or.inr z)); simp only at *; omega
      · exact ptn_o l f y0 y1 y2
theorem pvf_le (f : Nat) : pvf f ≤ 2 := by
  unfold pvf
  split <;> omega
theorem pv_le (h : Option Nat) : pv h ≤ 1 := by
  unfold pv
  split <;> omega
theorem pv_0 {h : Option Nat} (z : pv h ≤ 0) : h = none := by
  cases h with
  | none => rfl
  | some l => exact absurd z (by show ¬ (1 : Nat) ≤ 0; omega)
theorem pvl_le : ∀ L : List (Nat × Nat), pvl L ≤ 2 * L.length := by
  intro L
  induction L with
  | nil => exact Nat.le_refl _
  | cons q L ih =>
    have := pvf_le q.2
    rw [pvl, List.length_cons]
    omega
theorem prm {q : Nat × Nat} : ∀ {L : List (Nat × Nat)}, q ∈ L → ∃ L', pvl L = pvf q.2 + pvl L' ∧ (∀ k, pus L k = ptn q k + pus L' k) ∧ L.length = L'.length + 1 ∧ ∀ r, r ∈ L' → r ∈ L := by
  intro L
  induction L with
  | nil => exact fun h => absurd h List.not_mem_nil
  | cons r L ih =>
    intro h
    rcases List.mem_cons.mp h with rfl | h
    · exact ⟨L, rfl, fun k => rfl, rfl, fun r hr => List.mem_cons.mpr (Or.inr hr)⟩
    · obtain ⟨L', a, b, c, d⟩ := ih h
      refine ⟨r :: L', ?_, fun k => ?_, ?_, fun x hx => ?_⟩
      · rw [pvl, pvl, a]; omega
      · rw [pus, pus, b k]; omega
      · rw [List.length_cons, List.length_cons, c]
      · rcases List.mem_cons.mp hx with rfl | hx
        · exact List.mem_cons.mpr (Or.inl rfl)
        · exact List.mem_cons.mpr (Or.inr (d x hx))
theorem pmin : ∀ {L : List (Nat × Nat)}, L ≠ [] → ∃ q, q ∈ L ∧ ∀ r, r ∈ L → q.1 ≤ r.1 := by
  intro L
  induction L with
  | nil => exact fun h => absurd rfl h
  | cons r L ih =>
    intro _
    by_cases y : L = []
    · subst y
      exact ⟨r, List.mem_cons.mpr (Or.inl rfl), fun x hx => by
        rcases List.mem_cons.mp hx with rfl | hx
        · exact Nat.le_refl _
        · exact absurd hx List.not_mem_nil⟩
    · obtain ⟨q, q1, q2⟩ := ih y
      by_cases z : r.1 ≤ q.1
      · exact ⟨r, List.mem_cons.mpr (Or.inl rfl), fun x hx => by
          rcases List.mem_cons.mp hx with rfl | hx
          · exact Nat.le_refl _
          · have := q2 x hx; omega⟩
      · exact ⟨q, List.mem_cons.mpr (Or.inr q1), fun x hx => by
          rcases List.mem_cons.mp hx with rfl | hx
          · omega
          · exact q2 x hx⟩
theorem pus_lo {s k : Nat} (hk : k < s) : ∀ {L : List (Nat × Nat)}, (∀ q, q ∈ L → s ≤ q.1) → pus L k = 0 := by
  intro L
  induction L with
  | nil => exact fun _ => rfl
  | cons r L ih =>
    intro h
    have := h r (List.mem_cons.mpr (Or.inl rfl))
    rw [pus, ptn_lo (by omega), ih (fun q hq => h q (List.mem_cons.mpr (Or.inr hq)))]
theorem pus_hi {e k : Nat} (he : e = 0 ∨ e = 9 ∨ e = 18 ∨ e = 25) (hk : e ≤ k) : ∀ {L : List (Nat × Nat)}, (∀ q, q ∈ L → pok q ∧ q.1 < e) → pus L k = 0 := by
  intro L
  induction L with
  | nil => exact fun _ => rfl
  | cons r L ih =>
    intro h
    have := h r (List.mem_cons.mpr (Or.inl rfl))
    rw [pus, ptn_hi this.1 he this.2 hk, ih (fun q hq => h q (List.mem_cons.mpr (Or.inr hq)))]
theorem pus_ap (k : Nat) (K : List (Nat × Nat)) : ∀ L, pus (L ++ K) k = pus L k + pus K k := by
  intro L
  induction L with
  | nil => show pus K k = 0 + pus K k; omega
  | cons r L ih =>
    rw [List.cons_append, pus, pus, ih]
    omega
theorem pvl_ap (K : List (Nat × Nat)) : ∀ L, pvl (L ++ K) = pvl L + pvl K := by
  intro L
  induction L with
  | nil => show pvl K = 0 + pvl K; omega
  | cons r L ih =>
    rw [List.cons_append, pvl, pvl, ih]
    omega
theorem psp (s : Nat) : ∀ L : List (Nat × Nat), ∃ L1 L2, (∀ q, q ∈ L1 → q ∈ L ∧ q.1 < s) ∧ (∀ q, q ∈ L2 → q ∈ L ∧ s ≤ q.1) ∧ L1.length + L2.length = L.length ∧ pvl L1 + pvl L2 = pvl L ∧ ∀ k, pus L1 k + pus L2 k = pus L k := by
  intro L
  induction L with
  | nil => exact ⟨[], [], fun q hq => absurd hq List.not_mem_nil, fun q hq => absurd hq List.not_mem_nil, rfl, rfl, fun k => rfl⟩
  | cons r L ih =>
    obtain ⟨L1, L2, a, b, c, d, e⟩ := ih
    by_cases y : r.1 < s
    · refine ⟨r :: L1, L2, fun q hq => ?_, fun q hq => ⟨List.mem_cons.mpr (Or.inr (b q hq).1), (b q hq).2⟩, ?_, ?_, fun k => ?_⟩
      · rcases List.mem_cons.mp hq with rfl | hq
        · exact ⟨List.mem_cons.mpr (Or.inl rfl), y⟩
        · exact ⟨List.mem_cons.mpr (Or.inr (a q hq).1), (a q hq).2⟩
      · rw [List.length_cons, List.length_cons]; omega
      · rw [pvl, pvl]; omega
      · have := e k; rw [pus, pus]; omega
    · refine ⟨L1, r :: L2, fun q hq => ⟨List.mem_cons.mpr (Or.inr (a q hq).1), (a q hq).2⟩, fun q hq => ?_, ?_, ?_, fun k => ?_⟩
      · rcases List.mem_cons.mp hq with rfl | hq
        · exact ⟨List.mem_cons.mpr (Or.inl rfl), by omega⟩
        · exact ⟨List.mem_cons.mpr (Or.inr (b q hq).1), (b q hq).2⟩
      · rw [List.length_cons, List.length_cons]; omega
      · rw [pvl, pvl]; omega
      · have := e k; rw [pus, pus]; omega
section OBS
variable {n m s e : Nat} {g g' : Nat → Nat} {L : List (Nat × Nat)} {h : Option Nat} {v w : Nat}
theorem OB.nil (g : Nat → Nat) (n m s e : Nat) : OB n m s e g [] none := ⟨Nat.zero_le _, Nat.zero_le _, fun q hq => absurd hq List.not_mem_nil, fun l hl => (by cases hl), fun k _ => Nat.zero_le _⟩
theorem OB.gg (x : OB n m s e g L h) (y : ∀ k, k < 25 → g k ≤ g' k) : OB n m s e g' L h := ⟨x.1, x.2.1, x.2.2.1, x.2.2.2.1, fun k hk => Nat.le_trans (x.2.2.2.2 k hk) (y k hk)⟩
theorem OB.le (x : OB n m s e g L h) : pvl L + pv h ≤ 2 * n + m := by
  have := pvl_le L
  have := x.1
  have := x.2.1
  omega
theorem MB.le (x : MB n m s e g v) : v ≤ 2 * n + m := by
  obtain ⟨⟨L, h, a, rfl⟩, -⟩ := x
  exact a.le
theorem MB.uq (x : MB n m s e g v) (y : MB n m s e g w) : v = w := by
  obtain ⟨⟨L, h, a, rfl⟩, b⟩ := x
  obtain ⟨⟨L', h', a', rfl⟩, b'⟩ := y
  exact Nat.le_antisymm (b' L h a) (b L' h' a')
theorem MB.gg (x : MB n m s e g v) (y : ∀ k, k < 25 → g k = g' k) : MB n m s e g' v := by
  obtain ⟨⟨L, h, a, b⟩, c⟩ := x
  exact ⟨⟨L, h, a.gg fun k hk => Nat.le_of_eq (y k hk), b⟩, fun L h z => c L h (z.gg fun k hk => Nat.le_of_eq (y k hk).symm)⟩
/-- nothing to part -/
theorem MB.none_ (h0 : ∀ L h, OB n m s e g L h → L = [] ∧ h = none) : MB n m s e g 0 :=
  ⟨⟨[], none, OB.nil g n m s e, rfl⟩, fun L h x => by
    obtain ⟨rfl, rfl⟩ := h0 L h x
    exact Nat.le_refl _⟩
theorem MB.start (n m : Nat) (g : Nat → Nat) : MB n m 0 0 g 0 := MB.none_ fun L h x => by
  refine ⟨?_, ?_⟩
  · cases L with
    | nil => rfl
    | cons q L => exact absurd (x.2.2.1 q (List.mem_cons.mpr (Or.inl rfl))).2.2 (Nat.not_lt_zero _)
  · cases h with
    | none => rfl
    | some l => exact absurd (x.2.2.2.1 l rfl).2 (Nat.not_lt_zero _)
end OBS
