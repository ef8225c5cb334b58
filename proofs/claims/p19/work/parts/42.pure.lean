/-! ===== PURE: the game: one picture for the class and for the reference; the class's calls on it ===== -/
/-- scalars (0 step, 1 shift, 2 drawn, 3 fours, 4 phase, 5 turn, 6 dealer + 1, 7 rounds, 8 last drawn + 1, 9 whether the latest was drawn), hands, sets: how many, which, rivers: how many, what, discarded, called -/
abbrev zG : Type := (Nat → Nat) × (Nat → Nat → Nat) × (Nat → Nat) × (Nat → Nat → Nat) × (Nat → Nat) × (Nat → Nat → Nat) × (Nat → Int64) × (Nat → Bool)
def eS (G : zG) : Nat → Nat := G.1
def eH (G : zG) : Nat → Nat → Nat := G.2.1
def eN (G : zG) : Nat → Nat := G.2.2.1
def eV (G : zG) : Nat → Nat → Nat := G.2.2.2.1
def eM (G : zG) : Nat → Nat := G.2.2.2.2.1
def eR (G : zG) : Nat → Nat → Nat := G.2.2.2.2.2.1
def eD (G : zG) : Nat → Int64 := G.2.2.2.2.2.2.1
def eC (G : zG) : Nat → Bool := G.2.2.2.2.2.2.2
/-- the game with another scalar -/
def wS (G : zG) (k v : Nat) : zG := (u1 (eS G) k v, G.2)
theorem wS_S (G : zG) (k v j : Nat) : eS (wS G k v) j = if j = k then v else eS G j := rfl
/-- a seat of the class holds what the game says -/
def CRp (I : Nat → Nat → Int32) (J : Nat → Nat → Int64) (A : Nat → Nat → Int32) (G : zG) (p : Nat) : Prop :=
  (∀ k, k < 25 → A (1011 + 4 * p) k = nI (eH G p k)) ∧ I 228 (1010 + 4 * p) = nI (eN G p) ∧ (∀ j, j < eN G p → A (1012 + 4 * p) j = nI (eV G p j)) ∧ I 229 (1010 + 4 * p) = nI (eM G p) ∧ (∀ j, j < eM G p → A (1013 + 4 * p) j = nI (eR G p j)) ∧ J 227 (1010 + 4 * p) = eD G p ∧ I 230 (1010 + 4 * p) = b32 (eC G p)
/-- the class's scalars -/
def CRs (I : Nat → Nat → Int32) (G : zG) : Prop :=
  I 291 1000 = nI (eS G 0) ∧ I 292 1000 = nI (eS G 1) ∧ I 293 1000 = nI (eS G 2) ∧ I 294 1000 = nI (eS G 3) ∧ I 295 1000 = nI (eS G 4) ∧ I 296 1000 = nI (eS G 5) ∧ I 297 1000 + 1 = nI (eS G 6) ∧ I 298 1000 = nI (eS G 7) ∧ I 302 1000 + 1 = nI (eS G 8) ∧ I 303 1000 = nI (eS G 9)
/-- the class holds the game -/
def CR (I : Nat → Nat → Int32) (J : Nat → Nat → Int64) (A : Nat → Nat → Int32) (G : zG) : Prop := CRs I G ∧ ∀ p, p < 4 → CRp I J A G p
/-- small numbers -/
def WF (G : zG) : Prop := eS G 0 < 100 ∧ eS G 1 < 100 ∧ eS G 2 + eS G 3 ≤ 60 ∧ eS G 3 ≤ 4 ∧ eS G 4 < 4 ∧ eS G 5 < 4 ∧ eS G 6 ≤ 4 ∧ eS G 7 < 2 ^ 20 ∧ eS G 8 ≤ 25 ∧ eS G 9 ≤ 1 ∧ ∀ p, p < 4 → (∀ k, k < 25 → eH G p k ≤ 4) ∧ eN G p ≤ 3 ∧ eM G p ≤ 60 ∧ (∀ j, j < eM G p → eR G p j < 25)
/-- the rows that the class writes for itself: those that part hands, that of the value -/
def OWN (b : Nat) : Prop := (1003 ≤ b ∧ b ≤ 1007) ∨ b = 1009
theorem CRp.own {I : Nat → Nat → Int32} {J : Nat → Nat → Int64} {A A' : Nat → Nat → Int32} {G : zG} {p : Nat} (h : CRp I J A G p) (hA : ∀ b, ¬ OWN b → A' b = A b) : CRp I J A' G p := by
  obtain ⟨h1, h2, h3, h4, h5, h6, h7⟩ := h
  have n1 : A' (1011 + 4 * p) = A (1011 + 4 * p) := hA _ (by unfold OWN; omega)
  have n2 : A' (1012 + 4 * p) = A (1012 + 4 * p) := hA _ (by unfold OWN; omega)
  have n3 : A' (1013 + 4 * p) = A (1013 + 4 * p) := hA _ (by unfold OWN; omega)
  exact ⟨by rw [n1]; exact h1, h2, by rw [n2]; exact h3, h4, by rw [n3]; exact h5, h6, h7⟩
theorem own_ur (A : Nat → Nat → Int32) (w : Nat → Int32) {q : Nat} (hq : OWN q) : ∀ b, ¬ OWN b → ur A q w b = A b := fun b hb => by
  funext j
  exact if_neg (fun (z : b = q) => hb (by rw [z]; exact hq))
theorem sn_le (g : Nat → Nat) (m : Nat) : ∀ (d i : Nat), (∀ k, i ≤ k → k < i + d → g k ≤ m) → sn g i d ≤ d * m := by
  intro d
  induction d with
  | zero => exact fun i _ => by simp [sn]
  | succ d ih =>
    intro i h
    have := ih (i + 1) (fun k q1 q2 => h k (by omega) (by omega))
    have := h i (Nat.le_refl _) (by omega)
    rw [sn, Nat.succ_mul]
    omega
section GAME
variable {I : Nat → Nat → Int32} {J : Nat → Nat → Int64} {A : Nat → Nat → Int32} {M : zM} {G : zG}
theorem q_requirePhase (h : CSH M) (hc : CRs I G) (hw : eS G 4 < 4) (n : Nat) (hn : n < 4) : f_X3_requirePhase 1000 (nI n) (cs I J A M) = if eS G 4 = n then some (.inr (), cs I J A M) else some (.inl "java/lang/IllegalStateException", cs I J A (nE M)) := by
  unfold f_X3_requirePhase f_X3_requirePhase_0
  rw [gI_cs 295 h.1, Option.bind_some, hc.2.2.2.2.1]
  by_cases y : eS G 4 = n
  · rw [if_pos y, y, if_pos rfl]
  · rw [if_neg y, if_neg (eq_f (eS G 4) n y (by omega) (by omega))]
    rfl
/-- a class's wait in the game -/
def gW (G : zG) (p : Nat) : Int64 := wts (eN G p) (eH G p)
theorem q_waitsG (h : CSH M) (hc : CR I J A G) (hw : WF G) {p : Nat} (hp : p < 4) : ∃ A', f_X3_waitsOf 1000 (1010 + 4 * p) (cs I J A M) = some (gW G p, cs I J A' M) ∧ ∀ b, ¬ OWN b → A' b = A b := by
  obtain ⟨c1, c2, -⟩ := hc.2 p hp
  obtain ⟨w1, w2, -⟩ := hw.2.2.2.2.2.2.2.2.2.2 p hp
  obtain ⟨w', e⟩ := q_waitsOf (J := J) (A := A) h hp c1 (fun k hk => by have := w1 k hk; omega) (by have := sn_le (eH G p) 4 25 0 (fun k _ q => w1 k (by omega)); omega) c2 w2
  exact ⟨_, e, own_ur A w' (Or.inl ⟨by decide, by decide⟩)⟩
/-- pass: what it answers, and the game then -/
theorem q_pass (h : CSH M) (hc : CR I J A G) (hw : WF G) : (eS G 4 ≠ 2 ∧ f_X3_pass 1000 (cs I J A M) = some (.inl "java/lang/IllegalStateException", cs I J A (nE M))) ∨ (eS G 4 = 2 ∧ ∃ I', f_X3_pass 1000 (cs I J A M) = some (.inr (nI ((eS G 5 + 1) % 4)), cs I' J A M) ∧ CR I' J A (wS (wS G 5 ((eS G 5 + 1) % 4)) 4 0)) := by
  obtain ⟨hs, hpp⟩ := hc
  obtain ⟨w0, w1, w2, w3, w4, w5, -⟩ := hw
  have e := q_requirePhase (I := I) (J := J) (A := A) h hs w4 2 (by decide)
  have e' : f_X3_requirePhase 1000 2 (cs I J A M) = if eS G 4 = 2 then some (.inr (), cs I J A M) else some (.inl "java/lang/IllegalStateException", cs I J A (nE M)) := e
  unfold f_X3_pass f_X3_pass_0
  rw [if_pos (show mK (cs I J A M) 1000 = 9 from h.1), e']
  by_cases y : eS G 4 = 2
  · refine Or.inr ⟨y, u2 (u2 I 296 1000 (nI ((eS G 5 + 1) % 4))) 295 1000 0, ?_⟩
    rw [if_pos y]
    show (gI 9 8 (cs I J A M) 1000).bind _ = _ ∧ _
    have em : zmd (nI (eS G 5 + 1)) 4 = nI ((eS G 5 + 1) % 4) := pk_rem (a := eS G 5 + 1) (d := 4) (by omega) (by decide) (by decide)
    rw [gI_cs 296 h.1, Option.bind_some, hs.2.2.2.2.2.1, nI_1, em, pI_cs 296 h.1, Option.bind_some, pI_cs 295 h.1, Option.bind_some, gI_cs 296 h.1, Option.bind_some]
    refine ⟨rfl, ?_, fun p hp => ?_⟩
    · obtain ⟨h1, h2, h3, h4, h5, h6, h7, h8, h9, h10⟩ := hs
      exact ⟨h1, h2, h3, h4, rfl, rfl, h7, h8, h9, h10⟩
    · obtain ⟨h1, h2, h3, h4, h5, h6, h7⟩ := hpp p hp
      exact ⟨h1, h2, h3, h4, h5, h6, h7⟩
  · refine Or.inl ⟨y, ?_⟩
    rw [if_neg y]
    rfl
end GAME
/-! ===== PURE: the class's draw on the game ===== -/
/-- the kind that lies at a place of the wall -/
def gK (G : zG) (t : Nat) : Nat := (eS G 0 * t + eS G 1) % 100 / 4
theorem gK_lt (G : zG) (t : Nat) : gK G t < 25 := by
  unfold gK
  omega
/-- another count in a hand -/
def wH (G : zG) (p k v : Nat) : zG := (eS G, u2 (eH G) p k v, G.2.2)
def gCan (G : zG) : Bool := decide (eS G 7 ≠ 0 ∧ 24 < 60 - eS G 2 - eS G 3)
theorem CR.hand {I : Nat → Nat → Int32} {J : Nat → Nat → Int64} {A : Nat → Nat → Int32} {G : zG} (h : CR I J A G) {p k v : Nat} (hp : p < 4) (hk : k < 25) : CR I J (u2 A (1011 + 4 * p) k (nI v)) (wH G p k v) := by
  refine ⟨h.1, fun c hc => ?_⟩
  obtain ⟨h1, h2, h3, h4, h5, h6, h7⟩ := h.2 c hc
  refine ⟨fun j hj => ?_, h2, fun j hj => ?_, h4, fun j hj => ?_, h6, h7⟩
  · show u2 A (1011 + 4 * p) k (nI v) (1011 + 4 * c) j = nI (u2 (eH G) p k v c j)
    unfold u2
    by_cases y : c = p ∧ j = k
    · rw [if_pos y, if_pos ⟨by omega, y.2⟩]
    · rw [if_neg y, if_neg (by omega)]
      exact h1 j hj
  · exact (if_neg (by omega)).trans (h3 j hj)
  · exact (if_neg (by omega)).trans (h5 j hj)
theorem CR.own {I : Nat → Nat → Int32} {J : Nat → Nat → Int64} {A A' : Nat → Nat → Int32} {G : zG} (h : CR I J A G) (hA : ∀ b, ¬ OWN b → A' b = A b) : CR I J A' G := ⟨h.1, fun p hp => (h.2 p hp).own hA⟩
/-- points, wins, the pot, the winner, the lucky kind: the game does without -/
theorem CR.free {I I' : Nat → Nat → Int32} {J : Nat → Nat → Int64} {A : Nat → Nat → Int32} {G : zG} (h : CR I J A G) (hI : ∀ k b, (k = 231 ∨ k = 232 ∨ (299 ≤ k ∧ k ≤ 301)) ∨ I' k b = I k b) : CR I' J A G := by
  have e : ∀ k b, ¬ (k = 231 ∨ k = 232 ∨ (299 ≤ k ∧ k ≤ 301)) → I' k b = I k b := fun k b hk => (hI k b).resolve_left hk
  obtain ⟨⟨s1, s2, s3, s4, s5, s6, s7, s8, s9, s10⟩, hp⟩ := h
  refine ⟨⟨(e _ _ (by omega)).trans s1, (e _ _ (by omega)).trans s2, (e _ _ (by omega)).trans s3, (e _ _ (by omega)).trans s4, (e _ _ (by omega)).trans s5, (e _ _ (by omega)).trans s6, by rw [e _ _ (by omega)]; exact s7, (e _ _ (by omega)).trans s8, by rw [e _ _ (by omega)]; exact s9, (e _ _ (by omega)).trans s10⟩, fun p h9 => ?_⟩
  obtain ⟨h1, h2, h3, h4, h5, h6, h7⟩ := hp p h9
  exact ⟨h1, (e _ _ (by omega)).trans h2, h3, (e _ _ (by omega)).trans h4, h5, h6, (e _ _ (by omega)).trans h7⟩
section DRAW
variable {J : Nat → Nat → Int64} {M : zM} {G : zG}
theorem q_ewn_40 (h : CSH M) (hw : WF G) : ∀ (d n i : Nat) (x : Int32) (I : Nat → Nat → Int32) (A : Nat → Nat → Int32), i + d = 4 → d < n → CR I J A G → ∃ I' A', f_X3_endWithoutWinner_40 n 1000 x (nI i) (cs I J A M) = some ((), cs I' J A' M) ∧ CR I' J A' (wS G 4 3) := by
  intro d
  induction d with
  | zero =>
    intro n i x I A hi hn hc
    obtain ⟨n, rfl⟩ : ∃ m, n = m + 1 := ⟨n - 1, by omega⟩
    refine ⟨u2 (u2 I 301 1000 (-1)) 295 1000 3, A, ?_, ?_⟩
    · rw [f_X3_endWithoutWinner_40, if_pos (le_t (x := 4) 4 i (by omega) (by omega)), pI_cs 301 h.1, Option.bind_some, pI_cs 295 h.1, Option.bind_some]
    · obtain ⟨⟨s1, s2, s3, s4, s5, s6, s7, s8, s9, s10⟩, hp⟩ := hc
      exact ⟨⟨s1, s2, s3, s4, rfl, s6, s7, s8, s9, s10⟩, fun p h9 => hp p h9⟩
  | succ d ih =>
    intro n i x I A hi hn hc
    obtain ⟨n, rfl⟩ : ∃ m, n = m + 1 := ⟨n - 1, by omega⟩
    have hp : i < 4 := by omega
    obtain ⟨A1, e1, f1⟩ := q_waitsG h hc hw hp
    have hc1 := hc.own f1
    rw [f_X3_endWithoutWinner_40, if_neg (le_f (x := 4) 4 i (by omega) (by decide)), gR_cs 288 h.1 h.2.1, Option.bind_some, h.seat hp, Option.bind_some, if_pos (show mK (cs I J A M) 1000 = 9 from h.1), e1, Option.bind_some]
    have fin : ∀ y : Int32, ∃ I' A', f_X3_endWithoutWinner_65 (f_X3_endWithoutWinner_40 n) 1000 x (nI i) y (cs I J A1 M) = some ((), cs I' J A' M) ∧ CR I' J A' (wS G 4 3) := fun y => by
      have hs := h.2.2.2.2.2.2.2.1 i hp
      unfold f_X3_endWithoutWinner_65
      rw [gR_cs 288 h.1 h.2.1, Option.bind_some, h.seat hp, Option.bind_some, gI_cs 231 hs.1, Option.bind_some]
      have fin2 : ∀ z u : Int32, ∃ I' A', f_X3_endWithoutWinner_90 (f_X3_endWithoutWinner_40 n) 1000 x (nI i) z u (I 231 (1010 + 4 * i)) (1010 + 4 * i) (cs I J A1 M) = some ((), cs I' J A' M) ∧ CR I' J A' (wS G 4 3) := fun z u => by
        unfold f_X3_endWithoutWinner_90
        rw [pI_cs 231 hs.1, Option.bind_some, nI_1]
        exact ih n (i + 1) x _ A1 (by omega) (by omega) (hc1.free (fun k b => by
          by_cases y : k = 231
          · exact Or.inl (Or.inl y)
          · exact Or.inr (if_neg (fun q => y q.1))))
      split
      · exact fin2 _ _
      · exact fin2 _ _
    show ∃ I' A', (if lg_cmp (gW G i) 0 = 0 then _ else _) = _ ∧ _
    split
    · exact fin 0
    · exact fin 1
theorem q_ewn_4 (h : CSH M) (hw : WF G) {I : Nat → Nat → Int32} : ∀ (d n i : Nat) (x : Int32) (A : Nat → Nat → Int32), i + d = 4 → d < n → CR I J A G → ∃ I' A', f_X3_endWithoutWinner_4 n 1000 x (nI i) (cs I J A M) = some ((), cs I' J A' M) ∧ CR I' J A' (wS G 4 3) := by
  intro d
  induction d with
  | zero =>
    intro n i x A hi hn hc
    obtain ⟨n, rfl⟩ : ∃ m, n = m + 1 := ⟨n - 1, by omega⟩
    rw [f_X3_endWithoutWinner_4, if_pos (le_t (x := 4) 4 i (by omega) (by omega))]
    exact q_ewn_40 h hw 4 zN 0 x I A rfl (by decide) hc
  | succ d ih =>
    intro n i x A hi hn hc
    obtain ⟨n, rfl⟩ : ∃ m, n = m + 1 := ⟨n - 1, by omega⟩
    have hp : i < 4 := by omega
    obtain ⟨A1, e1, f1⟩ := q_waitsG h hc hw hp
    rw [f_X3_endWithoutWinner_4, if_neg (le_f (x := 4) 4 i (by omega) (by decide)), gR_cs 288 h.1 h.2.1, Option.bind_some, h.seat hp, Option.bind_some, if_pos (show mK (cs I J A M) 1000 = 9 from h.1), e1, Option.bind_some, nI_1]
    show ∃ I' A', (if lg_cmp (gW G i) 0 = 0 then _ else _) = _ ∧ _
    split
    · exact ih n (i + 1) _ A1 (by omega) (by omega) (hc.own f1)
    · exact ih n (i + 1) _ A1 (by omega) (by omega) (hc.own f1)
theorem q_endWithoutWinner (h : CSH M) (hw : WF G) {I : Nat → Nat → Int32} {A : Nat → Nat → Int32} (hc : CR I J A G) : ∃ I' A', f_X3_endWithoutWinner 1000 (cs I J A M) = some ((), cs I' J A' M) ∧ CR I' J A' (wS G 4 3) :=
  q_ewn_4 h hw 4 zN 0 0 A rfl (by decide) hc
/-- a tile comes to the one in turn -/
def gRec (G : zG) (k : Nat) : zG := wS (wS (wH G (eS G 5) k (eH G (eS G 5) k + 1)) 8 (k + 1)) 9 1
theorem q_receive (h : CSH M) (hw : WF G) {I : Nat → Nat → Int32} {A : Nat → Nat → Int32} (hc : CR I J A G) {k : Nat} (hk : k < 25) : ∃ I' A', f_X3_receive 1000 (nI k) (cs I J A M) = some ((), cs I' J A' M) ∧ CR I' J A' (gRec G k) := by
  have ht : eS G 5 < 4 := hw.2.2.2.2.2.1
  have hs := h.2.2.2.2.2.2.2.1 _ ht
  unfold f_X3_receive f_X3_receive_0
  rw [if_pos (show mK (cs I J A M) 1000 = 9 from h.1), q_seatInTurn h ht hc.1.2.2.2.2.2.1, Option.bind_some, if_pos (show mK (cs I J A M) (1010 + 4 * eS G 5) = 7 from hs.1), q_change hs hk 1, Option.bind_some, (hc.2 _ ht).1 k hk, nI_1]
  show ∃ I' A', (pI 9 14 (cs I J _ M) 1000 (nI k)).bind _ = _ ∧ _
  rw [pI_cs 302 h.1, Option.bind_some, pZ_cs 303 h.1 (Or.inr rfl), Option.bind_some]
  refine ⟨_, _, rfl, ?_⟩
  obtain ⟨⟨s1, s2, s3, s4, s5, s6, s7, s8, s9, s10⟩, hp⟩ := hc.hand ht hk (v := eH G (eS G 5) k + 1)
  exact ⟨⟨s1, s2, s3, s4, s5, s6, s7, s8, nI_1 k, rfl⟩, fun p h9 => hp p h9⟩
/-- draw: what it answers, and the game then -/
def gDraw (G : zG) : zG := if gCan G = true then gRec (wS (wS G 2 (eS G 2 + 1)) 4 1) (gK G (40 + eS G 2)) else wS G 4 3
theorem q_draw (h : CSH M) (hw : WF G) {I : Nat → Nat → Int32} {A : Nat → Nat → Int32} (hc : CR I J A G) : (eS G 4 ≠ 0 ∧ f_X3_draw 1000 (cs I J A M) = some (.inl "java/lang/IllegalStateException", cs I J A (nE M))) ∨ (eS G 4 = 0 ∧ ∃ I' A', f_X3_draw 1000 (cs I J A M) = some (.inr (if gCan G = true then nI (gK G (40 + eS G 2)) else -1), cs I' J A' M) ∧ CR I' J A' (gDraw G)) := by
  have hs := hc.1
  have hw' := hw
  obtain ⟨w0, w1, w2, w3, w4, w5, w6, w7, -⟩ := hw
  have e := q_requirePhase (I := I) (J := J) (A := A) h hs w4 0 (by decide)
  have e' : f_X3_requirePhase 1000 0 (cs I J A M) = if eS G 4 = 0 then some (.inr (), cs I J A M) else some (.inl "java/lang/IllegalStateException", cs I J A (nE M)) := e
  unfold f_X3_draw f_X3_draw_0
  rw [if_pos (show mK (cs I J A M) 1000 = 9 from h.1), e']
  by_cases y : eS G 4 = 0
  · refine Or.inr ⟨y, ?_⟩
    rw [if_pos y]
    show ∃ I' A', (if mK (cs I J A M) 1000 = 9 then _ else none) = _ ∧ _
    rw [if_pos (show mK (cs I J A M) 1000 = 9 from h.1), q_canDraw h hs.2.2.2.2.2.2.2.1 (by omega) hs.2.2.1 hs.2.2.2.1 w2, Option.bind_some]
    show ∃ I' A', (if b32 (gCan G) = 0 then _ else _) = _ ∧ _
    unfold gDraw
    by_cases z : gCan G = true
    · rw [if_pos z, if_pos z, z, if_neg (show ¬ b32 true = 0 by decide)]
      show ∃ I' A', (gI 9 5 (cs I J A M) 1000).bind _ = _ ∧ _
      have e40 : (40 : Int32) + nI (eS G 2) = nI (40 + eS G 2) := nI_add 40 _
      rw [gI_cs 293 h.1, Option.bind_some, if_pos (show mK (cs I J A M) 1000 = 9 from h.1), hs.2.2.1, e40, q_kindAt h hs.1 hs.2.1 w0 w1 (show 40 + eS G 2 < 100 by
        have := of_decide_eq_true z
        omega), Option.bind_some]
      show ∃ I' A', (gI 9 5 (cs I J A M) 1000).bind _ = _ ∧ _
      rw [gI_cs 293 h.1, Option.bind_some, hs.2.2.1, nI_1]
      show ∃ I' A', (pI 9 5 (cs I J A M) 1000 (nI (eS G 2 + 1))).bind _ = _ ∧ _
      rw [pI_cs 293 h.1, Option.bind_some, pI_cs 295 h.1, Option.bind_some, if_pos (show mK (cs _ J A M) 1000 = 9 from h.1)]
      have hc2 : CR (u2 (u2 I 293 1000 (nI (eS G 2 + 1))) 295 1000 1) J A (wS (wS G 2 (eS G 2 + 1)) 4 1) := by
        obtain ⟨⟨s1, s2, s3, s4, s5, s6, s7, s8, s9, s10⟩, hp⟩ := hc
        exact ⟨⟨s1, s2, rfl, s4, rfl, s6, s7, s8, s9, s10⟩, fun p h9 => hp p h9⟩
      have hw2 : WF (wS (wS G 2 (eS G 2 + 1)) 4 1) := by
        have hcan := of_decide_eq_true z
        obtain ⟨v0, v1, v2, v3, v4, v5, v6, v7, v8, v9, v10⟩ := hw'
        exact ⟨v0, v1, (by show eS G 2 + 1 + eS G 3 ≤ 60; omega), v3, (by show 1 < 4; decide), v5, v6, v7, v8, v9, v10⟩
      obtain ⟨I', A', e3, f3⟩ := q_receive h hw2 hc2 (gK_lt G (40 + eS G 2))
      refine ⟨I', A', ?_, f3⟩
      show (f_X3_receive 1000 (nI (gK G (40 + eS G 2))) (cs (u2 (u2 I 293 1000 (nI (eS G 2 + 1))) 295 1000 1) J A M)).bind _ = _
      rw [e3]
      rfl
    · have z' : gCan G = false := by cases hx : gCan G; rfl; exact absurd hx z
      rw [if_neg z, if_neg z, z', if_pos (show b32 false = 0 from rfl)]
      show ∃ I' A', (if mK (cs I J A M) 1000 = 9 then _ else none) = _ ∧ _
      rw [if_pos (show mK (cs I J A M) 1000 = 9 from h.1)]
      obtain ⟨I', A', e3, f3⟩ := q_endWithoutWinner h hw' hc
      refine ⟨I', A', ?_, f3⟩
      show (f_X3_endWithoutWinner 1000 (cs I J A M)).bind _ = _
      rw [e3]
      rfl
  · refine Or.inl ⟨y, ?_⟩
    rw [if_neg y]
    rfl
end DRAW
/-! ===== PURE: the class's discard and call on the game ===== -/
/-- a tile of the one in turn goes into the river -/
def gRiv (G : zG) (k : Nat) : zG :=
  (u1 (eS G) 4 2, u2 (eH G) (eS G 5) k (eH G (eS G 5) k - 1), eN G, eV G, u1 (eM G) (eS G 5) (eM G (eS G 5) + 1), u2 (eR G) (eS G 5) (eM G (eS G 5)) k,
    u1 (eD G) (eS G 5) (eD G (eS G 5) ||| ((1 : Int64) <<< ((nI k).toInt64 &&& 63))), eC G)
/-- called -/
def gCal (G : zG) (p : Nat) : zG := (eS G, eH G, eN G, eV G, eM G, eR G, eD G, u1 (eC G) p true)
theorem nI_all (i : Int32) : i < 0 ∨ ∃ n, n < 2 ^ 31 ∧ i = nI n := by
  by_cases h : i < 0
  · exact Or.inl h
  · refine Or.inr ⟨i.toNatClampNeg, ?_, ?_⟩
    · have h1 : i.toInt < 2 ^ 31 := Int32.toInt_lt i
      show i.toInt.toNat < 2 ^ 31
      omega
    · have h0 : 0 ≤ i.toInt := by
        have h2 : (0 : Int32).toInt = 0 := rfl
        have : ¬ i.toInt < (0 : Int32).toInt := fun q => h (Int32.lt_iff_toInt_lt.mpr q)
        omega
      have h1 : i.toInt < 2 ^ 31 := Int32.toInt_lt i
      apply Int32.toInt_inj.mp
      show i.toInt = (Int32.ofNat i.toInt.toNat).toInt
      rw [Int32.toInt_ofNat_of_lt (by omega)]
      omega
section DISC
variable {I : Nat → Nat → Int32} {J : Nat → Nat → Int64} {A : Nat → Nat → Int32} {M : zM} {G : zG}
theorem q_requireKind_no {i : Int32} (h : i < 0 ∨ ∃ n, n < 2 ^ 31 ∧ 25 ≤ n ∧ i = nI n) (M : zM) : f_X3_requireKind i M = some (.inl "java/lang/IllegalArgumentException", nE M) := by
  unfold f_X3_requireKind f_X3_requireKind_0
  rcases h with h | ⟨n, h1, h2, h3⟩
  · rw [if_pos h]; rfl
  · rw [h3, if_neg (nI_nn h1), if_neg (lt_f (y := 25) n 25 h2 h1)]; rfl
theorem q_requireKind_ok {k : Nat} (h : k < 25) (M : zM) : f_X3_requireKind (nI k) M = some (.inr (), M) := by
  unfold f_X3_requireKind f_X3_requireKind_0
  rw [if_neg (nI_nn (by omega)), if_pos (lt_t (y := 25) k 25 h (by decide))]
theorem q_layIntoRiver (h : CSH M) (hw : WF G) (hc : CR I J A G) {k : Nat} (hk : k < 25) (hH : eH G (eS G 5) k ≠ 0) : ∃ I' J' A', f_X3_layIntoRiver 1000 (1010 + 4 * eS G 5) (nI k) (cs I J A M) = some ((), cs I' J' A' M) ∧ CR I' J' A' (gRiv G k) ∧ I' 229 (1010 + 4 * eS G 5) = nI (eM G (eS G 5) + 1) ∧ I' 231 = I 231 := by
  obtain ⟨w0, w1, w2, w3, w4, ht, w6, w7, w8, w9, w10⟩ := hw
  obtain ⟨v1, v2, v3, v4⟩ := w10 _ ht
  have hs := h.2.2.2.2.2.2.2.1 _ ht
  obtain ⟨c1, c2, c3, c4, c5, c6, c7⟩ := hc.2 _ ht
  have em : nI (eH G (eS G 5) k) + -1 = nI (eH G (eS G 5) k - 1) := by
    obtain ⟨j, hj⟩ : ∃ j, eH G (eS G 5) k = j + 1 := ⟨eH G (eS G 5) k - 1, by omega⟩
    rw [hj, pk_m1]
    rfl
  unfold f_X3_layIntoRiver f_X3_layIntoRiver_0
  rw [if_pos (show mK (cs I J A M) (1010 + 4 * eS G 5) = 7 from hs.1), q_toRiver hs c4 (by omega) hk, Option.bind_some, pI_cs 295 h.1, Option.bind_some, c1 k hk, em]
  refine ⟨_, _, _, rfl, ⟨?_, fun p hp => ?_⟩, ?_, ?_⟩
  · obtain ⟨⟨s1, s2, s3, s4, s5, s6, s7, s8, s9, s10⟩, -⟩ := hc
    exact ⟨s1, s2, s3, s4, rfl, s6, s7, s8, s9, s10⟩
  · obtain ⟨d1, d2, d3, d4, d5, d6, d7⟩ := hc.2 p hp
    refine ⟨fun j hj => ?_, d2, fun j hj => ?_, ?_, fun j hj => ?_, ?_, d7⟩
    · show u2 (u2 A (1011 + 4 * eS G 5) k _) (1013 + 4 * eS G 5) _ _ (1011 + 4 * p) j = nI (u2 (eH G) (eS G 5) k _ p j)
      unfold u2
      rw [if_neg (by omega)]
      by_cases y : p = eS G 5 ∧ j = k
      · rw [if_pos y, if_pos ⟨by omega, y.2⟩]
      · rw [if_neg y, if_neg (by omega)]
        exact d1 j hj
    · exact ((if_neg (by omega)).trans (if_neg (by omega))).trans (d3 j hj)
    · show u2 (u2 I 229 (1010 + 4 * eS G 5) _) 295 1000 2 229 (1010 + 4 * p) = nI (u1 (eM G) (eS G 5) _ p)
      unfold u2 u1
      rw [if_neg (by omega)]
      by_cases y : p = eS G 5
      · rw [if_pos y, if_pos ⟨rfl, by omega⟩]
        exact nI_1 _
      · rw [if_neg y, if_neg (by omega)]
        exact d4
    · show u2 (u2 A (1011 + 4 * eS G 5) k _) (1013 + 4 * eS G 5) _ _ (1013 + 4 * p) j = nI (u2 (eR G) (eS G 5) _ k p j)
      have hj' : j < (if p = eS G 5 then eM G (eS G 5) + 1 else eM G p) := hj
      unfold u2
      by_cases y : p = eS G 5 ∧ j = eM G (eS G 5)
      · rw [if_pos y, if_pos ⟨by omega, y.2⟩]
      · rw [if_neg y, if_neg (by omega), if_neg (by omega)]
        refine d5 j ?_
        by_cases z : p = eS G 5
        · rw [if_pos z] at hj'
          rw [z]
          omega
        · rw [if_neg z] at hj'
          exact hj'
    · show u2 J 227 (1010 + 4 * eS G 5) _ 227 (1010 + 4 * p) = u1 (eD G) (eS G 5) _ p
      unfold u2 u1
      by_cases y : p = eS G 5
      · rw [if_pos y, if_pos ⟨rfl, by omega⟩, c6]
      · rw [if_neg y, if_neg (by omega)]
        exact d6
  · exact ((if_neg (fun q => by have := q.1; omega)).trans (if_pos ⟨rfl, rfl⟩)).trans (nI_1 _)
  · funext b
    exact (if_neg (fun q => by have := q.1; omega)).trans (if_neg (fun q => by have := q.1; omega))
/-- discard: whether it goes -/
def oDisc (G : zG) (i : Int32) : Option String :=
  if i < 0 ∨ 25 ≤ i.toNatClampNeg then some "java/lang/IllegalArgumentException"
  else if eS G 4 = 1 ∧ eH G (eS G 5) i.toNatClampNeg ≠ 0 ∧ (eC G (eS G 5) = true → i.toNatClampNeg + 1 = eS G 8) then none
  else some "java/lang/IllegalStateException"
theorem q_discard (h : CSH M) (hw : WF G) (hc : CR I J A G) (i : Int32) : match oDisc G i with
    | some x => f_X3_discard 1000 i (cs I J A M) = some (.inl x, cs I J A (nE M))
    | none => ∃ I' J' A', f_X3_discard 1000 i (cs I J A M) = some (.inr (nI (eM G (eS G 5) + 1)), cs I' J' A' M) ∧ CR I' J' A' (gRiv G i.toNatClampNeg) := by
  unfold oDisc f_X3_discard f_X3_discard_0
  by_cases y : i < 0 ∨ 25 ≤ i.toNatClampNeg
  · rw [if_pos y, q_requireKind_no (by
      rcases nI_all i with z | ⟨n, z1, z2⟩
      · exact Or.inl z
      · refine Or.inr ⟨n, z1, ?_, z2⟩
        rcases y with y | y
        · exact absurd y (z2 ▸ nI_nn z1)
        · rw [z2, nI_cl z1] at y
          exact y) _]
    rfl
  · rw [if_neg y]
    obtain ⟨k, hk, rfl⟩ : ∃ k, k < 25 ∧ i = nI k := by
      rcases nI_all i with z | ⟨n, z1, z2⟩
      · exact absurd (Or.inl z) y
      · refine ⟨n, ?_, z2⟩
        rw [z2, nI_cl z1] at y
        omega
    rw [nI_cl (by omega), q_requireKind_ok hk]
    have hs := hc.1
    have hw' := hw
    obtain ⟨w0, w1, w2, w3, w4, ht, w6, w7, w8, w9, w10⟩ := hw'
    obtain ⟨c1, c2, c3, c4, c5, c6, c7⟩ := hc.2 _ ht
    have hse := h.2.2.2.2.2.2.2.1 _ ht
    have e := q_requirePhase (I := I) (J := J) (A := A) h hs w4 1 (by decide)
    have e' : f_X3_requirePhase 1000 1 (cs I J A M) = if eS G 4 = 1 then some (.inr (), cs I J A M) else some (.inl "java/lang/IllegalStateException", cs I J A (nE M)) := e
    show match (if _ then _ else _ : Option String) with | some x => (if mK (cs I J A M) 1000 = 9 then _ else none) = _ | none => ∃ I' J' A', (if mK (cs I J A M) 1000 = 9 then _ else none) = _ ∧ _
    rw [if_pos (show mK (cs I J A M) 1000 = 9 from h.1), e']
    by_cases z : eS G 4 = 1
    · rw [if_pos z]
      show match (if _ then _ else _ : Option String) with | some x => (if mK (cs I J A M) 1000 = 9 then _ else none) = _ | none => ∃ I' J' A', (if mK (cs I J A M) 1000 = 9 then _ else none) = _ ∧ _
      rw [if_pos (show mK (cs I J A M) 1000 = 9 from h.1), q_seatInTurn h ht hs.2.2.2.2.2.1, Option.bind_some, if_pos (show mK (cs I J A M) (1010 + 4 * eS G 5) = 7 from hse.1), q_count hse hk, Option.bind_some, c1 k hk]
      have v1 := (w10 _ ht).1 k hk
      by_cases x : eH G (eS G 5) k = 0
      · rw [if_neg (fun q => q.2.1 x), x]
        rfl
      · show match (if _ then _ else _ : Option String) with | some x => (if nI (eH G (eS G 5) k) = 0 then _ else _) = _ | none => ∃ I' J' A', (if nI (eH G (eS G 5) k) = 0 then _ else _) = _ ∧ _
        rw [if_neg (eq_f (y := 0) (eH G (eS G 5) k) 0 x (by omega) (by decide)), gI_cs 230 hse.1, Option.bind_some, c7]
        have fin : ∃ I' J' A', f_X3_discard_47 1000 (nI k) (1010 + 4 * eS G 5) (cs I J A M) = some (.inr (nI (eM G (eS G 5) + 1)), cs I' J' A' M) ∧ CR I' J' A' (gRiv G k) := by
          obtain ⟨I', J', A', e1, e2, e3, -⟩ := q_layIntoRiver h hw hc hk x
          refine ⟨I', J', A', ?_, e2⟩
          unfold f_X3_discard_47
          rw [if_pos (show mK (cs I J A M) 1000 = 9 from h.1), e1, Option.bind_some, gI_cs 229 hse.1, Option.bind_some, e3]
        cases hC : eC G (eS G 5) with
        | false =>
          rw [if_pos ⟨z, x, fun q => by cases q⟩, if_pos (show b32 false = 0 from rfl)]
          exact fin
        | true =>
          rw [if_neg (show ¬ b32 true = 0 by decide), gI_cs 302 h.1, Option.bind_some]
          have hl : I 302 1000 = nI (eS G 8) - 1 := by
            rw [← hs.2.2.2.2.2.2.2.2.1]
            grind
          by_cases u : k + 1 = eS G 8
          · rw [if_pos ⟨z, x, fun _ => u⟩, if_pos (by
              rw [hl, ← u, ← nI_1]
              grind)]
            exact fin
          · rw [if_neg (fun q => u (q.2.2 rfl)), if_neg (fun q => u (by
              have q2 : nI (k + 1) = nI (eS G 8) := by
                rw [← nI_1, q, hl]
                grind
              exact Classical.byContradiction fun q3 => eq_f (x := nI (k + 1)) (y := nI (eS G 8)) (k + 1) (eS G 8) q3 (by omega) (by omega) rfl rfl q2))]
            rfl
    · rw [if_neg z, if_neg (fun q => z q.1)]
      rfl
end DISC
/-! ===== PURE: sets that are laid; the class's four and call on the game ===== -/
def tlN (f l k : Nat) : Nat := if f = 1 then (if k < l then 0 else if l + 2 < k then 0 else 1) else if k = l then (if f = 0 then 3 else 4) else 0
theorem tl_nI {f l k : Nat} (hf : f < 2 ^ 31) (hl : l + 2 < 2 ^ 31) (hk : k < 2 ^ 31) : tl (nI f) (nI l) (nI k) = nI (tlN f l k) := by
  unfold tl tlN
  have e2 : nI l + 2 = nI (l + 2) := nI_add l 2
  by_cases y : f = 1
  · rw [if_pos y, if_pos (by rw [y]; rfl), e2]
    by_cases z : k < l
    · rw [if_pos z, if_pos (lt_t k l z (by omega))]; rfl
    · rw [if_neg z, if_neg (lt_f k l (by omega) hk)]
      by_cases x : l + 2 < k
      · rw [if_pos x, if_pos (lt_t (l + 2) k x hk)]; rfl
      · rw [if_neg x, if_neg (lt_f (l + 2) k (by omega) hl)]; rfl
  · rw [if_neg y, if_neg (eq_f (y := 1) f 1 y hf (by decide))]
    by_cases z : k = l
    · rw [if_pos z, if_pos (by rw [z])]
      by_cases x : f = 0
      · rw [if_pos x, if_pos (by rw [x]; rfl)]; rfl
      · rw [if_neg x, if_neg (eq_f (y := 0) f 0 x hf (by decide))]; rfl
    · rw [if_neg z, if_neg (eq_f k l z hk (by omega))]; rfl
/-- a set is laid out of a hand -/
def gSet (G : zG) (p f l : Nat) : zG := (eS G, fun c k => if c = p ∧ k < 25 then eH G c k - tlN f l k else eH G c k, u1 (eN G) p (eN G p + 1), u2 (eV G) p (eN G p) (100 * f + l), eM G, eR G, eD G, eC G)
theorem CR.set {I : Nat → Nat → Int32} {J : Nat → Nat → Int64} {A : Nat → Nat → Int32} {G : zG} (h : CR I J A G) {p f l : Nat} (hp : p < 4) (hf : f < 4) (hl : l < 25) (hle : ∀ k, k < 25 → tlN f l k ≤ eH G p k) (hH : ∀ k, k < 25 → eH G p k < 2 ^ 31) : CR (u2 I 228 (1010 + 4 * p) (nI (eN G p) + 1)) J (u2 (mn A (1011 + 4 * p) (fun j => tl (nI f) (nI l) (nI j)) 25) (1012 + 4 * p) (eN G p) (100 * nI f + nI l)) (gSet G p f l) := by
  refine ⟨?_, fun c hc => ?_⟩
  · obtain ⟨⟨s1, s2, s3, s4, s5, s6, s7, s8, s9, s10⟩, -⟩ := h
    exact ⟨s1, s2, s3, s4, s5, s6, s7, s8, s9, s10⟩
  · obtain ⟨h1, h2, h3, h4, h5, h6, h7⟩ := h.2 c hc
    refine ⟨fun j hj => ?_, ?_, fun j hj => ?_, h4, fun j hj => ?_, h6, h7⟩
    · show u2 (mn A (1011 + 4 * p) _ 25) (1012 + 4 * p) (eN G p) _ (1011 + 4 * c) j = nI (if c = p ∧ j < 25 then eH G c j - tlN f l j else eH G c j)
      unfold u2 mn
      rw [if_neg (by omega)]
      by_cases y : c = p
      · subst y
        rw [if_pos ⟨rfl, hj⟩, if_pos ⟨rfl, hj⟩, h1 j hj]
        show nI (eH G c j) - tl (nI f) (nI l) (nI j) = _
        rw [tl_nI (f := f) (l := l) (k := j) (by omega) (by omega) (by omega), pk_sub (hle j hj)]
      · rw [if_neg (fun q => y (by have := q.1; omega)), if_neg (fun q => y q.1)]
        exact h1 j hj
    · show u2 I 228 (1010 + 4 * p) _ 228 (1010 + 4 * c) = nI (u1 (eN G) p _ c)
      unfold u2 u1
      by_cases y : c = p
      · rw [if_pos y, if_pos ⟨rfl, by omega⟩]
        exact nI_1 _
      · rw [if_neg y, if_neg (by omega)]
        exact h2
    · show u2 (mn A (1011 + 4 * p) _ 25) (1012 + 4 * p) (eN G p) _ (1012 + 4 * c) j = nI (u2 (eV G) p (eN G p) _ c j)
      have hj' : j < (if c = p then eN G p + 1 else eN G c) := hj
      unfold u2 mn
      by_cases y : c = p ∧ j = eN G p
      · rw [if_pos y, if_pos ⟨by omega, y.2⟩, show (100 : Int32) = nI 100 from rfl, pk_mul, nI_add]
      · rw [if_neg y, if_neg (by omega), if_neg (by omega)]
        refine h3 j ?_
        by_cases z : c = p
        · rw [if_pos z] at hj'
          rw [z]
          omega
        · rw [if_neg z] at hj'
          exact hj'
    · exact ((if_neg (by omega)).trans (if_neg (by omega))).trans (h5 j hj)
theorem WF.set {G : zG} (hw : WF G) {p f l : Nat} (hN : eN G p < 3) : WF (gSet G p f l) := by
  obtain ⟨w0, w1, w2, w3, w4, ht, w6, w7, w8, w9, w10⟩ := hw
  refine ⟨w0, w1, w2, w3, w4, ht, w6, w7, w8, w9, fun c hc => ?_⟩
  obtain ⟨v1, v2, v3, v4⟩ := w10 c hc
  refine ⟨fun k hk => ?_, ?_, v3, v4⟩
  · show (if c = p ∧ k < 25 then eH G c k - tlN f l k else eH G c k) ≤ 4
    have := v1 k hk
    split <;> omega
  · show (if c = p then eN G p + 1 else eN G c) ≤ 3
    split <;> omega
section FOUR
variable {I : Nat → Nat → Int32} {J : Nat → Nat → Int64} {A : Nat → Nat → Int32} {M : zM} {G : zG}
def gF4 (G : zG) : Bool := decide (eS G 3 < 4 ∧ eS G 7 ≠ 0 ∧ 24 < 60 - eS G 2 - eS G 3)
/-- one more from the other end -/
def gDF (G : zG) : zG := gRec (wS G 3 (eS G 3 + 1)) (gK G (99 - eS G 3))
theorem q_drawForFour (h : CSH M) (hw : WF G) (hc : CR I J A G) (h4 : gF4 G = true) : ∃ I' A', f_X3_drawForFour 1000 (cs I J A M) = some (nI (gK G (99 - eS G 3)), cs I' J A' M) ∧ CR I' J A' (gDF G) := by
  have hw' := hw
  obtain ⟨w0, w1, w2, w3, w4, ht, w6, w7, w8, w9, w10⟩ := hw'
  have h4' := of_decide_eq_true h4
  have hs := hc.1
  unfold f_X3_drawForFour f_X3_drawForFour_0
  have e99 : (99 : Int32) - nI (eS G 3) = nI (99 - eS G 3) := pk_sub (a := 99) (by omega)
  rw [gI_cs 294 h.1, Option.bind_some, if_pos (show mK (cs I J A M) 1000 = 9 from h.1), hs.2.2.2.1, e99, q_kindAt h hs.1 hs.2.1 w0 w1 (show 99 - eS G 3 < 100 by omega), Option.bind_some, gI_cs 294 h.1, Option.bind_some, hs.2.2.2.1, nI_1, pI_cs 294 h.1, Option.bind_some, if_pos (show mK (cs _ J A M) 1000 = 9 from h.1)]
  have hc2 : CR (u2 I 294 1000 (nI (eS G 3 + 1))) J A (wS G 3 (eS G 3 + 1)) := by
    obtain ⟨⟨s1, s2, s3, s4, s5, s6, s7, s8, s9, s10⟩, hp⟩ := hc
    exact ⟨⟨s1, s2, s3, rfl, s5, s6, s7, s8, s9, s10⟩, fun p h9 => hp p h9⟩
  have hw2 : WF (wS G 3 (eS G 3 + 1)) := ⟨w0, w1, (by show eS G 2 + (eS G 3 + 1) ≤ 60; omega), (by show eS G 3 + 1 ≤ 4; omega), w4, ht, w6, w7, w8, w9, w10⟩
  obtain ⟨I', A', e3, f3⟩ := q_receive h hw2 hc2 (gK_lt G (99 - eS G 3))
  refine ⟨I', A', ?_, f3⟩
  · show (f_X3_receive 1000 (nI (gK G (99 - eS G 3))) (cs (u2 I 294 1000 (nI (eS G 3 + 1))) J A M)).bind _ = _
    rw [e3]
    rfl
end FOUR
/-! ===== PURE: the class's four and call on the game ===== -/
abbrev oBad (i : Int32) : Prop := i < 0 ∨ 25 ≤ i.toNatClampNeg
theorem oBad_no {i : Int32} (h : ¬ oBad i) : ∃ k, k < 25 ∧ i = nI k := by
  rcases nI_all i with z | ⟨n, z1, z2⟩
  · exact absurd (Or.inl z) h
  · refine ⟨n, Nat.lt_of_not_le fun q => h (Or.inr ?_), z2⟩
    rw [z2, nI_cl z1]
    exact q
theorem q_bad {i : Int32} (h : oBad i) (M : zM) : f_X3_requireKind i M = some (.inl "java/lang/IllegalArgumentException", nE M) :=
  q_requireKind_no (by
    rcases nI_all i with z | ⟨n, z1, z2⟩
    · exact Or.inl z
    · refine Or.inr ⟨n, z1, ?_, z2⟩
      rcases h with y | y
      · exact absurd y (z2 ▸ nI_nn z1)
      · rw [z2, nI_cl z1] at y
        exact y) M
def oFour (G : zG) (i : Int32) : Option String :=
  if oBad i then some "java/lang/IllegalArgumentException"
  else if eS G 4 = 1 ∧ eC G (eS G 5) = false ∧ 4 ≤ eH G (eS G 5) i.toNatClampNeg ∧ gF4 G = true then none
  else some "java/lang/IllegalStateException"
/-- sizes of hands -/
def WZ (G : zG) : Prop := ∀ p, p < 4 → sn (eH G p) 0 25 + 3 * eN G p ≤ 11
/-- the sets are small numbers -/
def WV (G : zG) : Prop := ∀ p, p < 4 → ∀ j, j < eN G p → eV G p j < 400
section FC
variable {I : Nat → Nat → Int32} {J : Nat → Nat → Int64} {A : Nat → Nat → Int32} {M : zM} {G : zG}
theorem q_phase1 (h : CSH M) (hw : WF G) (hc : CR I J A G) : f_X3_requirePhase 1000 1 (cs I J A M) = if eS G 4 = 1 then some (.inr (), cs I J A M) else some (.inl "java/lang/IllegalStateException", cs I J A (nE M)) :=
  q_requirePhase (I := I) (J := J) (A := A) h hc.1 hw.2.2.2.2.1 1 (by decide)
theorem q_four (h : CSH M) (hw : WF G) (hz : WZ G) (hc : CR I J A G) (i : Int32) : match (generalizing := false) oFour G i with
    | some x => f_X3_four 1000 i (cs I J A M) = some (.inl x, cs I J A (nE M))
    | none => ∃ I' J' A', f_X3_four 1000 i (cs I J A M) = some (.inr (nI (gK G (99 - eS G 3))), cs I' J' A' M) ∧ CR I' J' A' (gDF (gSet G (eS G 5) 3 i.toNatClampNeg)) := by
  unfold oFour f_X3_four f_X3_four_0
  by_cases y : oBad i
  · rw [if_pos y, q_bad y]
    rfl
  · rw [if_neg y]
    obtain ⟨k, hk, rfl⟩ := oBad_no y
    have hs := hc.1
    have hw' := hw
    obtain ⟨w0, w1, w2, w3, w4, ht, w6, w7, w8, w9, w10⟩ := hw'
    obtain ⟨c1, c2, c3, c4, c5, c6, c7⟩ := hc.2 _ ht
    have hse := h.2.2.2.2.2.2.2.1 _ ht
    have v1 := (w10 _ ht).1
    rw [nI_cl (by omega), q_requireKind_ok hk]
    show match (generalizing := false) (if _ then _ else _ : Option String) with | some x => (if mK (cs I J A M) 1000 = 9 then _ else none) = _ | none => ∃ I' J' A', (if mK (cs I J A M) 1000 = 9 then _ else none) = _ ∧ _
    rw [if_pos (show mK (cs I J A M) 1000 = 9 from h.1), q_phase1 h hw hc]
    by_cases z : eS G 4 = 1
    · rw [if_pos z]
      show match (generalizing := false) (if _ then _ else _ : Option String) with | some x => (if mK (cs I J A M) 1000 = 9 then _ else none) = _ | none => ∃ I' J' A', (if mK (cs I J A M) 1000 = 9 then _ else none) = _ ∧ _
      rw [if_pos (show mK (cs I J A M) 1000 = 9 from h.1), q_seatInTurn h ht hs.2.2.2.2.2.1, Option.bind_some, gI_cs 230 hse.1, Option.bind_some, c7]
      cases hC : eC G (eS G 5) with
      | true =>
        rw [if_neg (show ¬ b32 true = 0 by decide), if_neg (fun q => by cases q.2.1)]
        rfl
      | false =>
        rw [if_pos (show b32 false = 0 from rfl), if_pos (show mK (cs I J A M) (1010 + 4 * eS G 5) = 7 from hse.1), q_count hse hk, Option.bind_some, c1 k hk]
        show match (generalizing := false) (if _ then _ else _ : Option String) with | some x => (if nI (eH G (eS G 5) k) < 4 then _ else _) = _ | none => ∃ I' J' A', (if nI (eH G (eS G 5) k) < 4 then _ else _) = _ ∧ _
        have v1k := v1 k hk
        by_cases x : eH G (eS G 5) k < 4
        · rw [if_pos (lt_t (y := 4) _ 4 x (by decide)), if_neg (fun q => by omega)]
          rfl
        · rw [if_neg (lt_f (y := 4) (eH G (eS G 5) k) 4 (by omega) (by omega)), if_pos (show mK (cs I J A M) 1000 = 9 from h.1), q_fourAllowed h hs.2.2.2.2.2.2.2.1 (by omega) hs.2.2.1 hs.2.2.2.1 w2, Option.bind_some]
          show match (generalizing := false) (if _ then _ else _ : Option String) with | some x => (if b32 (gF4 G) = 0 then _ else _) = _ | none => ∃ I' J' A', (if b32 (gF4 G) = 0 then _ else _) = _ ∧ _
          cases h4 : gF4 G with
          | false =>
            rw [if_pos (show b32 false = 0 from rfl), if_neg (fun q => by cases q.2.2.2)]
            rfl
          | true =>
            have hsn := sn_ge (eH G (eS G 5)) k 25 0 (Nat.zero_le _) (by omega)
            have hzz := hz _ ht
            have hN : eN G (eS G 5) < 3 := by omega
            rw [if_neg (show ¬ b32 true = 0 by decide), if_pos ⟨z, rfl, by omega, rfl⟩, if_pos (show mK (cs I J A M) (1010 + 4 * eS G 5) = 7 from hse.1), q_laySet hse c2 hN (by omega), Option.bind_some]
            have hle : ∀ j, j < 25 → tlN 3 k j ≤ eH G (eS G 5) j := fun j hj => by
              show (if j = k then 4 else 0) ≤ _
              split
              · next q => rw [q]; omega
              · omega
            have hc2 := hc.set (f := 3) (l := k) ht (by decide) hk hle (fun j hj => by have := v1 j hj; omega)
            obtain ⟨I', A', e1, e2⟩ := q_drawForFour (G := gSet G (eS G 5) 3 k) h (WF.set (f := 3) (l := k) hw hN) hc2 h4
            refine ⟨I', J, A', ?_, e2⟩
            show (if mK (cs _ J _ M) 1000 = 9 then (f_X3_drawForFour 1000 (cs _ J _ M)).bind _ else none) = _
            rw [if_pos (show mK (cs _ J _ M) 1000 = 9 from h.1)]
            refine (congrArg (fun q => Option.bind q _) e1).trans ?_
            rfl
    · rw [if_neg z, if_neg (fun q => z q.1)]
      rfl
end FC
/-! ===== PURE: the class's call on the game ===== -/
/-- open sets -/
def opN (G : zG) (p : Nat) : Nat := sn (fun j => if eV G p j / 100 = 3 then 0 else 1) 0 (eN G p)
def oCall (G : zG) (i : Int32) : Option String :=
  if oBad i then some "java/lang/IllegalArgumentException"
  else if eS G 4 = 1 ∧ eC G (eS G 5) = false ∧ opN G (eS G 5) = 0 ∧ eH G (eS G 5) i.toNatClampNeg ≠ 0 ∧ wts (eN G (eS G 5)) (u1 (eH G (eS G 5)) i.toNatClampNeg (eH G (eS G 5) i.toNatClampNeg - 1)) ≠ 0 then none
  else some "java/lang/IllegalStateException"
theorem CR.cal {I : Nat → Nat → Int32} {J : Nat → Nat → Int64} {A : Nat → Nat → Int32} {G : zG} (h : CR I J A G) (p : Nat) : CR (u2 I 230 (1010 + 4 * p) 1) J A (gCal G p) := by
  refine ⟨?_, fun c hc => ?_⟩
  · obtain ⟨⟨s1, s2, s3, s4, s5, s6, s7, s8, s9, s10⟩, -⟩ := h
    exact ⟨s1, s2, s3, s4, s5, s6, s7, s8, s9, s10⟩
  · obtain ⟨h1, h2, h3, h4, h5, h6, h7⟩ := h.2 c hc
    refine ⟨h1, h2, h3, h4, h5, h6, ?_⟩
    show u2 I 230 (1010 + 4 * p) 1 230 (1010 + 4 * c) = b32 (u1 (eC G) p true c)
    unfold u2 u1
    by_cases y : c = p
    · rw [if_pos y, if_pos ⟨rfl, by omega⟩]
      rfl
    · rw [if_neg y, if_neg (by omega)]
      exact h7
section CALL
variable {I : Nat → Nat → Int32} {J : Nat → Nat → Int64} {A : Nat → Nat → Int32} {M : zM} {G : zG}
theorem sn_le1 (f : Nat → Nat) (hf : ∀ j, f j ≤ 1) : ∀ (d i : Nat), sn f i d ≤ d := by
  intro d
  induction d with
  | zero => exact fun i => Nat.le_refl _
  | succ d ih =>
    intro i
    have := ih (i + 1)
    have := hf i
    rw [sn]
    omega
theorem q_open (h : CSH M) (hv : WV G) (hw : WF G) (hc : CR I J A G) {p : Nat} (hp : p < 4) : f_X1_openSets (1010 + 4 * p) (cs I J A M) = some (nI (opN G p), cs I J A M) := by
  obtain ⟨c1, c2, c3, c4, c5, c6, c7⟩ := hc.2 _ hp
  rw [q_openSets (h.2.2.2.2.2.2.2.1 _ hp) c2 (hw.2.2.2.2.2.2.2.2.2.2 p hp).2.1, sm_nI _ (fun j => if eV G p j / 100 = 3 then 0 else 1) (eN G p) 0 (fun j _ hj => ?_)]
  · rfl
  · have hj' : j < eN G p := by omega
    have hb := hv p hp j hj'
    have e2 : nI (eV G p j) / 100 = nI (eV G p j / 100) := pk_div (a := eV G p j) (d := 100) (by omega) (by decide) (by decide)
    show (if A (1012 + 4 * p) j / 100 = 3 then (0 : Int32) else 1) = nI (if eV G p j / 100 = 3 then 0 else 1)
    rw [c3 j hj', e2]
    by_cases y : eV G p j / 100 = 3
    · rw [if_pos y, if_pos (by rw [y]; rfl)]; rfl
    · rw [if_neg y, if_neg (eq_f (y := 3) (eV G p j / 100) 3 y (by omega) (by decide))]; rfl
theorem q_call (h : CSH M) (hw : WF G) (hv : WV G) (hz : WZ G) (hc : CR I J A G) (i : Int32) : match (generalizing := false) oCall G i with
    | some x => ∃ A', f_X3_call 1000 i (cs I J A M) = some (.inl x, cs I J A' (nE M)) ∧ CR I J A' G
    | none => ∃ I' J' A' v, f_X3_call 1000 i (cs I J A M) = some (.inr v, cs I' J' A' M) ∧ CR I' J' A' (gRiv (gCal G (eS G 5)) i.toNatClampNeg) := by
  unfold oCall f_X3_call f_X3_call_0
  by_cases y : oBad i
  · rw [if_pos y, q_bad y]
    exact ⟨A, rfl, hc⟩
  · rw [if_neg y]
    obtain ⟨k, hk, rfl⟩ := oBad_no y
    have hs := hc.1
    have hw' := hw
    obtain ⟨w0, w1, w2, w3, w4, ht, w6, w7, w8, w9, w10⟩ := hw'
    obtain ⟨c1, c2, c3, c4, c5, c6, c7⟩ := hc.2 _ ht
    have hse := h.2.2.2.2.2.2.2.1 _ ht
    have v1 := (w10 _ ht).1
    have vN := (w10 _ ht).2.1
    rw [nI_cl (by omega), q_requireKind_ok hk]
    show match (generalizing := false) (if _ then _ else _ : Option String) with | some x => ∃ A', (if mK (cs I J A M) 1000 = 9 then _ else none) = _ ∧ _ | none => ∃ I' J' A' v, (if mK (cs I J A M) 1000 = 9 then _ else none) = _ ∧ _
    rw [if_pos (show mK (cs I J A M) 1000 = 9 from h.1), q_phase1 h hw hc]
    by_cases z : eS G 4 = 1
    · rw [if_pos z]
      show match (generalizing := false) (if _ then _ else _ : Option String) with | some x => ∃ A', (if mK (cs I J A M) 1000 = 9 then _ else none) = _ ∧ _ | none => ∃ I' J' A' v, (if mK (cs I J A M) 1000 = 9 then _ else none) = _ ∧ _
      rw [if_pos (show mK (cs I J A M) 1000 = 9 from h.1), q_seatInTurn h ht hs.2.2.2.2.2.1, Option.bind_some, gI_cs 230 hse.1, Option.bind_some, c7]
      cases hC : eC G (eS G 5) with
      | true =>
        rw [if_neg (show ¬ b32 true = 0 by decide), if_neg (fun q => by cases q.2.1)]
        exact ⟨A, rfl, hc⟩
      | false =>
        rw [if_pos (show b32 false = 0 from rfl), if_pos (show mK (cs I J A M) (1010 + 4 * eS G 5) = 7 from hse.1), q_open h hv hw hc ht, Option.bind_some]
        show match (generalizing := false) (if _ then _ else _ : Option String) with | some x => ∃ A', (if 0 < nI (opN G (eS G 5)) then _ else _) = _ ∧ _ | none => ∃ I' J' A' v, (if 0 < nI (opN G (eS G 5)) then _ else _) = _ ∧ _
        have hop : opN G (eS G 5) ≤ eN G (eS G 5) := sn_le1 _ (fun j => by show (if _ then 0 else 1) ≤ 1; split <;> omega) _ 0
        by_cases x : opN G (eS G 5) = 0
        · rw [x, if_neg (show ¬ (0 : Int32) < nI 0 by decide), if_pos (show mK (cs I J A M) (1010 + 4 * eS G 5) = 7 from hse.1), q_count hse hk, Option.bind_some, c1 k hk]
          show match (generalizing := false) (if _ then _ else _ : Option String) with | some x => ∃ A', (if nI (eH G (eS G 5) k) = 0 then _ else _) = _ ∧ _ | none => ∃ I' J' A' v, (if nI (eH G (eS G 5) k) = 0 then _ else _) = _ ∧ _
          have v1k := v1 k hk
          by_cases u : eH G (eS G 5) k = 0
          · rw [if_pos (show nI (eH G (eS G 5) k) = 0 by rw [u]; rfl), if_neg (fun q => q.2.2.2.1 u)]
            exact ⟨A, rfl, hc⟩
          · obtain ⟨w', e3⟩ := q_readyWithout (J := J) (A := A) h ht c1 (fun j hj => by have := v1 j hj; omega) (by have := hz _ ht; omega) c2 vN hk u
            rw [if_neg (eq_f (y := 0) _ 0 u (by omega) (by decide)), if_pos (show mK (cs I J A M) 1000 = 9 from h.1), e3, Option.bind_some]
            have hc3 : CR I J (ur A 1003 w') G := hc.own (own_ur A w' (Or.inl ⟨by decide, by decide⟩))
            show match (generalizing := false) (if _ then _ else _ : Option String) with | some x => ∃ A', (if b32 (decide (wts (eN G (eS G 5)) (u1 (eH G (eS G 5)) k (eH G (eS G 5) k - 1)) ≠ 0)) = 0 then _ else _) = _ ∧ _ | none => ∃ I' J' A' v, (if b32 (decide (wts (eN G (eS G 5)) (u1 (eH G (eS G 5)) k (eH G (eS G 5) k - 1)) ≠ 0)) = 0 then _ else _) = _ ∧ _
            by_cases r : wts (eN G (eS G 5)) (u1 (eH G (eS G 5)) k (eH G (eS G 5) k - 1)) ≠ 0
            · rw [decide_eq_true r, if_neg (show ¬ b32 true = 0 by decide), if_pos ⟨z, rfl, rfl, u, r⟩, gI_cs 231 hse.1, Option.bind_some, pI_cs 231 hse.1, Option.bind_some, gI_cs 299 h.1, Option.bind_some, pI_cs 299 h.1, Option.bind_some, pZ_cs 230 hse.1 (Or.inr rfl), Option.bind_some, if_pos (show mK (cs _ J _ M) 1000 = 9 from h.1)]
              have hcf : ∀ a b, CR (u2 (u2 I 231 (1010 + 4 * eS G 5) a) 299 1000 b) J (ur A 1003 w') G := fun a b => hc3.free (fun c d => by
                by_cases y1 : c = 231
                · exact Or.inl (Or.inl y1)
                · by_cases y2 : c = 299
                  · exact Or.inl (Or.inr (Or.inr (by omega)))
                  · exact Or.inr ((if_neg (fun q => y2 q.1)).trans (if_neg (fun q => y1 q.1))))
              obtain ⟨I', J', A', e1, e2, e4, -⟩ := q_layIntoRiver (G := gCal G (eS G 5)) h hw ((hcf _ _).cal (eS G 5)) hk u
              refine ⟨I', J', A', I' 231 (1010 + 4 * eS G 5), (congrArg (fun q => Option.bind q _) e1).trans ?_, e2⟩
              show (gI 7 7 (cs I' J' A' M) (1010 + 4 * eS G 5)).bind _ = _
              rw [gI_cs 231 hse.1, Option.bind_some]
            · rw [decide_eq_false r, if_pos (show b32 false = 0 from rfl), if_neg (fun q => r q.2.2.2.2)]
              exact ⟨_, rfl, hc3⟩
        · rw [if_pos (lt_t (x := 0) (y := nI (opN G (eS G 5))) 0 (opN G (eS G 5)) (by omega) (by omega)), if_neg (fun q => x q.2.2.1)]
          exact ⟨A, rfl, hc⟩
    · rw [if_neg z, if_neg (fun q => z q.1)]
      exact ⟨A, rfl, hc⟩
end CALL
/-! ===== PURE: who may claim, by the class ===== -/
def crl (g : Nat → Nat) (t : Nat) : Nat → Nat → Bool
  | 0, _ => true
  | d + 1, i => if i = t then crl g t d (i + 1) else if g i = 0 then false else crl g t d (i + 1)
def crow (g : Nat → Nat) (t : Nat) (i : Int32) : Bool := if i < 0 then false else if rw_ i.toNatClampNeg = true ∧ i.toNatClampNeg ≤ t ∧ t ≤ i.toNatClampNeg + 2 then crl g t 3 i.toNatClampNeg else false
/-- the latest of the river in turn -/
def lst (G : zG) : Nat := eR G (eS G 5) (eM G (eS G 5) - 1)
/-- somebody discarded -/
def WL (G : zG) : Prop := eS G 4 = 2 → 0 < eM G (eS G 5)
def oMay (G : zG) (p w : Nat) (i : Int32) : Bool := decide (eS G 4 = 2 ∧ p ≠ eS G 5 ∧ eC G p = false) && (if w = 1 then decide (p = (eS G 5 + 1) % 4) && crow (eH G p) (lst G) i else if w = 2 then decide (3 ≤ eH G p (lst G)) && gF4 G else decide (2 ≤ eH G p (lst G)))
section MAY
variable {I : Nat → Nat → Int32} {J : Nat → Nat → Int64} {A : Nat → Nat → Int32} {M : zM} {G : zG} {a t s r : Nat}
theorem q_crl (h : SE M a t s r) {g : Nat → Nat} (hg : ∀ k, k < 25 → A t k = nI (g k)) (hg4 : ∀ k, k < 25 → g k ≤ 4) {T l : Nat} (hT : T < 25) (hl : l < 18) : ∀ (d n i : Nat), i + d = l + 3 → d < n → f_X3_completesRow_23 n a (nI T) (nI l) (nI i) (cs I J A M) = some (b32 (crl g T d i), cs I J A M) := by
  intro d
  induction d with
  | zero =>
    intro n i hi hn
    obtain ⟨n, rfl⟩ : ∃ m, n = m + 1 := ⟨n - 1, by omega⟩
    have e2 : nI l + 2 = nI (l + 2) := nI_add l 2
    rw [f_X3_completesRow_23, e2, if_pos (lt_t (l + 2) i (by omega) (by omega))]
    rfl
  | succ d ih =>
    intro n i hi hn
    obtain ⟨n, rfl⟩ : ∃ m, n = m + 1 := ⟨n - 1, by omega⟩
    have e2 : nI l + 2 = nI (l + 2) := nI_add l 2
    have e3 := ih n (i + 1) (by omega) (by omega)
    rw [f_X3_completesRow_23, e2, if_neg (lt_f (l + 2) i (by omega) (by omega)), nI_1, crl]
    by_cases y : i = T
    · rw [if_pos y, if_pos (show nI i = nI T by rw [y])]
      exact e3
    · rw [if_neg y, if_neg (eq_f i T y (by omega) (by omega)), if_pos (show mK (cs I J A M) a = 7 from h.1), q_count h (show i < 25 by omega), Option.bind_some, hg i (by omega)]
      show (if nI (g i) = 0 then _ else _) = _
      have := hg4 i (by omega)
      by_cases z : g i = 0
      · rw [if_pos z, if_pos (show nI (g i) = 0 by rw [z]; rfl)]
        rfl
      · rw [if_neg z, if_neg (eq_f (y := 0) (g i) 0 z (by omega) (by decide))]
        exact e3
theorem q_completesRow (h : SE M a t s r) {g : Nat → Nat} (hg : ∀ k, k < 25 → A t k = nI (g k)) (hg4 : ∀ k, k < 25 → g k ≤ 4) {T : Nat} (hT : T < 25) (i : Int32) : f_X3_completesRow a (nI T) i (cs I J A M) = some (b32 (crow g T i), cs I J A M) := by
  unfold f_X3_completesRow f_X3_completesRow_0 crow
  rcases nI_all i with z | ⟨l, z1, rfl⟩
  · have e : f_X3_startsRow i (cs I J A M) = some (0, cs I J A M) := by
      unfold f_X3_startsRow f_X3_startsRow_0
      rw [if_pos z]
    rw [e, if_pos z]
    rfl
  · rw [q_startsRow l z1, if_neg (nI_nn z1), nI_cl z1, Option.bind_some]
    cases hr : rw_ l with
    | false =>
      rw [if_neg (show ¬ (false = true ∧ l ≤ T ∧ T ≤ l + 2) from fun q => by cases q.1)]
      rfl
    | true =>
      have hl : l < 18 := (of_decide_eq_true hr).1
      have e2 : nI l + 2 = nI (l + 2) := nI_add l 2
      show (if b32 true = 0 then _ else if nI T < nI l then _ else if nI T ≤ nI l + 2 then _ else _) = _
      rw [if_neg (show ¬ b32 true = 0 by decide), e2]
      by_cases y : T < l
      · rw [if_pos (lt_t T l y (by omega)), if_neg (fun q => by omega)]
        rfl
      · rw [if_neg (lt_f T l (by omega) (by omega))]
        by_cases x : T ≤ l + 2
        · rw [if_pos (le_t T (l + 2) x (by omega)), if_pos ⟨rfl, by omega, x⟩]
          exact q_crl h hg hg4 hT hl 3 zN l rfl (by decide)
        · rw [if_neg (le_f T (l + 2) (by omega) (by omega)), if_neg (fun q => x q.2.2)]
          rfl
theorem q_mayClaim (h : CSH M) (hw : WF G) (hL : WL G) (hc : CR I J A G) {p w : Nat} (hp : p < 4) (hw2 : w ≤ 2) (i : Int32) : f_X3_mayClaim 1000 (nI p) (nI w) i (cs I J A M) = some (b32 (oMay G p w i), cs I J A M) := by
  have hs := hc.1
  obtain ⟨w0, w1, w2, w3, w4, ht, w6, w7, w8, w9, w10⟩ := hw
  obtain ⟨c1, c2, c3, c4, c5, c6, c7⟩ := hc.2 _ ht
  obtain ⟨d1, d2, d3, d4, d5, d6, d7⟩ := hc.2 _ hp
  have hse := h.2.2.2.2.2.2.2.1 _ ht
  have hsp := h.2.2.2.2.2.2.2.1 _ hp
  obtain ⟨v1, v2, v3, v4⟩ := w10 _ ht
  have u1' := (w10 _ hp).1
  unfold f_X3_mayClaim f_X3_mayClaim_0 oMay
  rw [gI_cs 295 h.1, Option.bind_some, hs.2.2.2.2.1]
  by_cases z : eS G 4 = 2
  · have hm := hL z
    have hlt : lst G < 25 := v4 _ (by omega)
    rw [if_pos (show nI (eS G 4) = 2 by rw [z]; rfl), gI_cs 296 h.1, Option.bind_some, hs.2.2.2.2.2.1]
    by_cases y : p = eS G 5
    · rw [if_pos (show nI p = nI (eS G 5) by rw [y]), decide_eq_false (fun q => q.2.1 y)]
      rfl
    · rw [if_neg (eq_f p (eS G 5) y (by omega) (by omega)), gR_cs 288 h.1 h.2.1, Option.bind_some, h.seat hp, Option.bind_some, gI_cs 230 hsp.1, Option.bind_some, d7]
      cases hC : eC G p with
      | true =>
        rw [if_neg (show ¬ b32 true = 0 by decide), decide_eq_false (fun q => by cases q.2.2)]
        rfl
      | false =>
        have eA : A (1013 + 4 * eS G 5) (eM G (eS G 5) - 1) = nI (lst G) := c5 _ (by omega)
        rw [if_pos (show b32 false = 0 from rfl), Option.bind_some, h.seat hp, Option.bind_some, if_pos (show mK (cs I J A M) 1000 = 9 from h.1), q_seatInTurn h ht hs.2.2.2.2.2.1, Option.bind_some, if_pos (show mK (cs I J A M) (1010 + 4 * eS G 5) = 7 from hse.1), q_latest hse c4 (by omega), Option.bind_some, if_neg (show ¬ eM G (eS G 5) = 0 by omega), eA, decide_eq_true ⟨z, y, rfl⟩, Bool.true_and]
        by_cases x1 : w = 1
        · subst x1
          have em : zmd (nI (eS G 5 + 1)) 4 = nI ((eS G 5 + 1) % 4) := pk_rem (a := eS G 5 + 1) (d := 4) (by omega) (by decide) (by decide)
          rw [if_pos (show nI 1 = (1 : Int32) from rfl), gI_cs 296 h.1, Option.bind_some, hs.2.2.2.2.2.1, nI_1, em, if_pos rfl]
          by_cases x : p = (eS G 5 + 1) % 4
          · rw [if_pos (show nI p = nI ((eS G 5 + 1) % 4) by rw [x]), q_completesRow hsp d1 u1' hlt, Option.bind_some]
            cases hr : crow (eH G p) (lst G) i with
            | false =>
              rw [decide_eq_true x]
              rfl
            | true =>
              rw [decide_eq_true x]
              rfl
          · rw [if_neg (eq_f p ((eS G 5 + 1) % 4) x (by omega) (by omega)), decide_eq_false x]
            rfl
        · rw [if_neg (eq_f (x := nI w) (y := 1) w 1 x1 (by omega) (by decide)), if_neg x1]
          have k1 := u1' _ hlt
          by_cases x2 : w = 2
          · subst x2
            rw [if_pos (show nI 2 = (2 : Int32) from rfl), if_pos rfl, if_pos (show mK (cs I J A M) (1010 + 4 * p) = 7 from hsp.1), q_count hsp hlt, Option.bind_some, d1 _ hlt]
            show (if nI (eH G p (lst G)) < 3 then _ else _) = _
            by_cases x : eH G p (lst G) < 3
            · rw [if_pos (lt_t (y := 3) (eH G p (lst G)) 3 x (by decide)), decide_eq_false (show ¬ 3 ≤ eH G p (lst G) by omega)]
              rfl
            · rw [if_neg (lt_f (y := 3) (eH G p (lst G)) 3 (by omega) (by omega)), if_pos (show mK (cs I J A M) 1000 = 9 from h.1), q_fourAllowed h hs.2.2.2.2.2.2.2.1 (by omega) hs.2.2.1 hs.2.2.2.1 w2, Option.bind_some]
              show (if b32 (gF4 G) = 0 then _ else _) = _
              cases h4 : gF4 G with
              | false =>
                rw [decide_eq_true (show 3 ≤ eH G p (lst G) by omega)]
                rfl
              | true =>
                rw [decide_eq_true (show 3 ≤ eH G p (lst G) by omega)]
                rfl
          · rw [if_neg (eq_f (x := nI w) (y := 2) w 2 x2 (by omega) (by decide)), if_neg x2, if_pos (show mK (cs I J A M) (1010 + 4 * p) = 7 from hsp.1), q_count hsp hlt, Option.bind_some, d1 _ hlt]
            show (if nI (eH G p (lst G)) < 2 then _ else _) = _
            by_cases x : eH G p (lst G) < 2
            · rw [if_pos (lt_t (y := 2) (eH G p (lst G)) 2 x (by decide)), decide_eq_false (show ¬ 2 ≤ eH G p (lst G) by omega)]
              rfl
            · rw [if_neg (lt_f (y := 2) (eH G p (lst G)) 2 (by omega) (by omega)), decide_eq_true (show 2 ≤ eH G p (lst G) by omega)]
              rfl
  · rw [if_neg (eq_f (y := 2) (eS G 4) 2 z (by omega) (by decide)), decide_eq_false (fun q => z q.1)]
    rfl
end MAY
/-! ===== PURE: the class's claim on the game ===== -/
def oClaim (G : zG) (i1 i2 i3 : Int32) : Option String :=
  if i1 < 0 ∨ 4 ≤ i1.toNatClampNeg then some "java/lang/IndexOutOfBoundsException"
  else if i2 < 0 ∨ 3 ≤ i2.toNatClampNeg then some "java/lang/IllegalArgumentException"
  else if oMay G i1.toNatClampNeg i2.toNatClampNeg i3 = true then none
  else some "java/lang/IllegalStateException"
/-- the tile goes over -/
def gLv (G : zG) (p : Nat) : zG := (u1 (u1 (u1 (eS G) 5 p) 4 1) 9 0, u2 (eH G) p (lst G) (eH G p (lst G) + 1), eN G, eV G, u1 (eM G) (eS G 5) (eM G (eS G 5) - 1), eR G, eD G, eC G)
def cLow (G : zG) (w : Nat) (i : Int32) : Nat := if w = 1 then i.toNatClampNeg else lst G
def gClm (G : zG) (p w : Nat) (i : Int32) : zG := if w = 2 then gDF (gSet (gLv G p) p w (cLow G w i)) else gSet (gLv G p) p w (cLow G w i)
/-- nobody holds all four of what was discarded -/
def WT (G : zG) : Prop := eS G 4 = 2 → ∀ p, p < 4 → eH G p (lst G) < 4
theorem crl_all (g : Nat → Nat) (t : Nat) : ∀ (d i : Nat), crl g t d i = true → ∀ k, i ≤ k → k < i + d → k = t ∨ g k ≠ 0 := by
  intro d
  induction d with
  | zero => exact fun i _ k h1 h2 => absurd h2 (by omega)
  | succ d ih =>
    intro i h k h1 h2
    rw [crl] at h
    by_cases y : i = t
    · rw [if_pos y] at h
      by_cases z : k = i
      · exact Or.inl (z.trans y)
      · exact ih (i + 1) h k (by omega) (by omega)
    · rw [if_neg y] at h
      by_cases x : g i = 0
      · rw [if_pos x] at h
        cases h
      · rw [if_neg x] at h
        by_cases z : k = i
        · exact Or.inr (z ▸ x)
        · exact ih (i + 1) h k (by omega) (by omega)
section CLAIM
variable {I : Nat → Nat → Int32} {J : Nat → Nat → Int64} {A : Nat → Nat → Int32} {M : zM} {G : zG}
theorem oMay_w {p w : Nat} {i : Int32} (hm : oMay G p w i = true) : eS G 4 = 2 ∧ p ≠ eS G 5 ∧ eC G p = false ∧ (w = 1 → crow (eH G p) (lst G) i = true) ∧ (w = 2 → 3 ≤ eH G p (lst G) ∧ gF4 G = true) ∧ (w ≠ 1 → w ≠ 2 → 2 ≤ eH G p (lst G)) := by
  unfold oMay at hm
  rw [Bool.and_eq_true] at hm
  obtain ⟨h1, h2⟩ := hm
  obtain ⟨q1, q2, q3⟩ := of_decide_eq_true h1
  refine ⟨q1, q2, q3, fun y => ?_, fun y => ?_, fun y z => ?_⟩
  · rw [if_pos y, Bool.and_eq_true] at h2
    exact h2.2
  · rw [if_neg (by omega), if_pos y, Bool.and_eq_true] at h2
    exact ⟨of_decide_eq_true h2.1, h2.2⟩
  · rw [if_neg y, if_neg z] at h2
    exact of_decide_eq_true h2
theorem crow_l {g : Nat → Nat} {t : Nat} {i : Int32} (h : crow g t i = true) : ∃ l, l < 18 ∧ i = nI l ∧ ∀ k, l ≤ k → k ≤ l + 2 → k = t ∨ g k ≠ 0 := by
  unfold crow at h
  rcases nI_all i with z | ⟨l, z1, rfl⟩
  · rw [if_pos z] at h
    cases h
  · rw [if_neg (nI_nn z1), nI_cl z1] at h
    by_cases y : rw_ l = true ∧ l ≤ t ∧ t ≤ l + 2
    · rw [if_pos y] at h
      exact ⟨l, (of_decide_eq_true y.1).1, rfl, fun k h1 h2 => crl_all g t 3 l h k h1 (by omega)⟩
    · rw [if_neg y] at h
      cases h
theorem CR.lv (h : CR I J A G) {p : Nat} (hp : p < 4) (ht : eS G 5 < 4) (hl : lst G < 25) : CR (u2 (u2 (u2 (u2 I 229 (1010 + 4 * eS G 5) (nI (eM G (eS G 5) - 1))) 296 1000 (nI p)) 295 1000 1) 303 1000 0) J (u2 A (1011 + 4 * p) (lst G) (nI (eH G p (lst G) + 1))) (gLv G p) := by
  refine ⟨?_, fun c hc => ?_⟩
  · obtain ⟨⟨s1, s2, s3, s4, s5, s6, s7, s8, s9, s10⟩, -⟩ := h
    exact ⟨s1, s2, s3, s4, rfl, rfl, s7, s8, s9, rfl⟩
  · obtain ⟨h1, h2, h3, h4, h5, h6, h7⟩ := h.2 c hc
    refine ⟨fun j hj => ?_, h2, fun j hj => ?_, ?_, fun j hj => ?_, h6, h7⟩
    · show u2 A (1011 + 4 * p) (lst G) _ (1011 + 4 * c) j = nI (u2 (eH G) p (lst G) _ c j)
      unfold u2
      by_cases y : c = p ∧ j = lst G
      · rw [if_pos y, if_pos ⟨by omega, y.2⟩]
      · rw [if_neg y, if_neg (by omega)]
        exact h1 j hj
    · exact (if_neg (by omega)).trans (h3 j hj)
    · show u2 I 229 (1010 + 4 * eS G 5) _ 229 (1010 + 4 * c) = nI (u1 (eM G) (eS G 5) _ c)
      unfold u2 u1
      by_cases y : c = eS G 5
      · rw [if_pos y, if_pos ⟨rfl, by omega⟩]
      · rw [if_neg y, if_neg (by omega)]
        exact h4
    · have hj' : j < (if c = eS G 5 then eM G (eS G 5) - 1 else eM G c) := hj
      refine (if_neg (by omega)).trans (h5 j ?_)
      by_cases y : c = eS G 5
      · rw [if_pos y] at hj'
        rw [y]
        omega
      · rw [if_neg y] at hj'
        exact hj'
theorem WF.lv {p : Nat} (hw : WF G) (hT : eH G p (lst G) < 4) (hp : p < 4) : WF (gLv G p) := by
  obtain ⟨w0, w1, w2, w3, w4, ht, w6, w7, w8, w9, w10⟩ := hw
  refine ⟨w0, w1, w2, w3, (by show 1 < 4; decide), hp, w6, w7, w8, (by show 0 ≤ 1; decide), fun c hc => ?_⟩
  obtain ⟨v1, v2, v3, v4⟩ := w10 c hc
  refine ⟨fun k hk => ?_, v2, ?_, fun j hj => ?_⟩
  · show (if c = p ∧ k = lst G then eH G p (lst G) + 1 else eH G c k) ≤ 4
    have := v1 k hk
    split <;> omega
  · show (if c = eS G 5 then eM G (eS G 5) - 1 else eM G c) ≤ 60
    have := (w10 _ ht).2.2.1
    split <;> omega
  · have hj' : j < (if c = eS G 5 then eM G (eS G 5) - 1 else eM G c) := hj
    refine v4 j ?_
    by_cases y : c = eS G 5
    · rw [if_pos y] at hj'
      rw [y]
      omega
    · rw [if_neg y] at hj'
      exact hj'
end CLAIM
/-! ===== PURE: the class's claim on the game, 2 ===== -/
section CLAIM2
variable {I : Nat → Nat → Int32} {J : Nat → Nat → Int64} {A : Nat → Nat → Int32} {M : zM} {G : zG}
theorem may_le {p w : Nat} {i : Int32} (hm : oMay G p w i = true) (hw2 : w ≤ 2) (hl : lst G < 25) : ∃ l, l < 25 ∧ l = cLow G w i ∧ (w = 1 → i = nI l) ∧ (w ≠ 1 → l = lst G) ∧ ∀ k, k < 25 → tlN w l k ≤ eH (gLv G p) p k := by
  obtain ⟨m1, m2, m3, m4, m5, m6⟩ := oMay_w hm
  have eh : ∀ k, eH (gLv G p) p k = if k = lst G then eH G p (lst G) + 1 else eH G p k := fun k => by
    show (if p = p ∧ k = lst G then _ else _) = _
    by_cases y : k = lst G
    · rw [if_pos ⟨rfl, y⟩, if_pos y]
    · rw [if_neg (fun q => y q.2), if_neg y]
  by_cases y : w = 1
  · obtain ⟨l, l1, l2, l3⟩ := crow_l (m4 y)
    refine ⟨l, by omega, ?_, fun _ => l2, fun q => absurd y q, fun k hk => ?_⟩
    · unfold cLow
      rw [if_pos y, l2, nI_cl (by omega)]
    · rw [eh k]
      unfold tlN
      rw [if_pos y]
      by_cases a : k < l
      · rw [if_pos a]; omega
      · rw [if_neg a]
        by_cases b : l + 2 < k
        · rw [if_pos b]; omega
        · rw [if_neg b]
          rcases l3 k (by omega) (by omega) with c | c
          · rw [if_pos c]; omega
          · split <;> omega
  · refine ⟨lst G, hl, ?_, fun q => absurd q y, fun _ => rfl, fun k hk => ?_⟩
    · unfold cLow
      rw [if_neg y]
    · rw [eh k]
      unfold tlN
      rw [if_neg y]
      by_cases a : k = lst G
      · rw [if_pos a, if_pos a]
        by_cases b : w = 2
        · have := (m5 b).1
          rw [if_neg (by omega)]
          omega
        · have := m6 y b
          rw [if_pos (by omega)]
          omega
      · rw [if_neg a]
        omega
theorem q_claim_97 (h : CSH M) (hw : WF G) (hc : CR I J A G) {p w l : Nat} (hp : p < 4) (hw2 : w ≤ 2) (hl : l < 25) (hN : eN G p < 3) (hle : ∀ k, k < 25 → tlN w l k ≤ eH G p k) (h4 : w = 2 → gF4 G = true) : ∃ I' A', f_X3_claim_97 1000 (nI w) (1010 + 4 * p) (nI l) (nI w) (1010 + 4 * p) (cs I J A M) = some (.inr (nI (eN G p + 1)), cs I' J A' M) ∧ CR I' J A' (if w = 2 then gDF (gSet G p w l) else gSet G p w l) := by
  have hsp := h.2.2.2.2.2.2.2.1 _ hp
  obtain ⟨d1, d2, d3, d4, d5, d6, d7⟩ := hc.2 _ hp
  have w10 := hw.2.2.2.2.2.2.2.2.2.2
  have hc2 := hc.set (f := w) (l := l) hp (by omega) hl hle (fun j hj => by have := (w10 _ hp).1 j hj; omega)
  have eN2 : eN (gSet G p w l) p = eN G p + 1 := if_pos rfl
  unfold f_X3_claim_97
  rw [if_pos (show mK (cs I J A M) (1010 + 4 * p) = 7 from hsp.1), q_laySet hsp d2 hN (by omega), Option.bind_some]
  by_cases y : w = 2
  · subst y
    obtain ⟨I', A', e1, e2⟩ := q_drawForFour (G := gSet G p 2 l) h (WF.set (f := 2) (l := l) hw hN) hc2 (h4 rfl)
    refine ⟨I', A', ?_, by rw [if_pos rfl]; exact e2⟩
    rw [if_pos (show nI 2 = (2 : Int32) from rfl)]
    show (if mK (cs _ J _ M) 1000 = 9 then (f_X3_drawForFour 1000 (cs _ J _ M)).bind _ else none) = _
    rw [if_pos (show mK (cs _ J _ M) 1000 = 9 from h.1)]
    refine (congrArg (fun q => Option.bind q _) e1).trans ?_
    show f_X3_claim_110 (1010 + 4 * p) (cs I' J A' M) = _
    unfold f_X3_claim_110
    have e5 : I' 228 (1010 + 4 * p) = nI (eN G p + 1) := (e2.2 p hp).2.1.trans (congrArg nI eN2)
    rw [gI_cs 228 hsp.1, Option.bind_some, e5]
  · rw [if_neg (eq_f (x := nI w) (y := 2) w 2 y (by omega) (by decide)), if_neg y]
    refine ⟨_, _, ?_, hc2⟩
    show f_X3_claim_110 (1010 + 4 * p) (cs _ J _ M) = _
    unfold f_X3_claim_110
    have e5 : u2 I 228 (1010 + 4 * p) (nI (eN G p) + 1) 228 (1010 + 4 * p) = nI (eN G p + 1) := (hc2.2 p hp).2.1.trans (congrArg nI eN2)
    rw [gI_cs 228 hsp.1, Option.bind_some, e5]
theorem q_claim (h : CSH M) (hw : WF G) (hL : WL G) (hT : WT G) (hc : CR I J A G) (i1 i2 i3 : Int32) (hN : ∀ p w, p < 4 → w ≤ 2 → oMay G p w i3 = true → eN G p < 3) : match (generalizing := false) oClaim G i1 i2 i3 with
    | some x => f_X3_claim 1000 i1 i2 i3 (cs I J A M) = some (.inl x, cs I J A (nE M))
    | none => ∃ I' A', f_X3_claim 1000 i1 i2 i3 (cs I J A M) = some (.inr (nI (eN G i1.toNatClampNeg + 1)), cs I' J A' M) ∧ CR I' J A' (gClm G i1.toNatClampNeg i2.toNatClampNeg i3) := by
  unfold oClaim f_X3_claim f_X3_claim_0
  by_cases y : i1 < 0 ∨ 4 ≤ i1.toNatClampNeg
  · have e : f_X3_requirePlayer i1 (cs I J A M) = some (.inl "java/lang/IndexOutOfBoundsException", nE (cs I J A M)) := by
      unfold f_X3_requirePlayer f_X3_requirePlayer_0
      rcases nI_all i1 with z | ⟨n, z1, rfl⟩
      · rw [if_pos z]; rfl
      · rw [if_neg (nI_nn z1), if_neg (lt_f (y := 4) n 4 (by
          rcases y with y | y
          · exact absurd y (nI_nn z1)
          · rw [nI_cl z1] at y
            exact y) z1)]
        rfl
    rw [if_pos y, e]
    rfl
  · rw [if_neg y]
    obtain ⟨p, hp, rfl⟩ : ∃ p, p < 4 ∧ i1 = nI p := by
      rcases nI_all i1 with z | ⟨n, z1, z2⟩
      · exact absurd (Or.inl z) y
      · refine ⟨n, Nat.lt_of_not_le fun q => y (Or.inr ?_), z2⟩
        rw [z2, nI_cl z1]
        exact q
    have e : f_X3_requirePlayer (nI p) (cs I J A M) = some (.inr (), cs I J A M) := by
      unfold f_X3_requirePlayer f_X3_requirePlayer_0
      rw [if_neg (nI_nn (by omega)), if_pos (lt_t (y := 4) p 4 hp (by decide))]
    rw [e, nI_cl (by omega)]
    by_cases x : i2 < 0 ∨ 3 ≤ i2.toNatClampNeg
    · rw [if_pos x]
      show (if i2 < 0 then _ else _) = _
      rcases nI_all i2 with z | ⟨n, z1, rfl⟩
      · rw [if_pos z]; rfl
      · rw [if_neg (nI_nn z1), if_neg (le_f (y := 2) n 2 (by
          rcases x with x | x
          · exact absurd x (nI_nn z1)
          · rw [nI_cl z1] at x
            omega) z1)]
        rfl
    · rw [if_neg x]
      obtain ⟨w, hw2, rfl⟩ : ∃ w, w ≤ 2 ∧ i2 = nI w := by
        rcases nI_all i2 with z | ⟨n, z1, z2⟩
        · exact absurd (Or.inl z) x
        · refine ⟨n, Nat.le_of_not_lt fun q => x (Or.inr ?_), z2⟩
          rw [z2, nI_cl z1]
          exact q
      rw [nI_cl (by omega)]
      have hs := hc.1
      have ht := hw.2.2.2.2.2.1
      have w10 := hw.2.2.2.2.2.2.2.2.2.2
      obtain ⟨c1, c2, c3, c4, c5, c6, c7⟩ := hc.2 _ ht
      obtain ⟨d1, d2, d3, d4, d5, d6, d7⟩ := hc.2 _ hp
      have hse := h.2.2.2.2.2.2.2.1 _ ht
      have hsp := h.2.2.2.2.2.2.2.1 _ hp
      show match (generalizing := false) (if _ then _ else _ : Option String) with | some x => (if nI w < 0 then _ else if nI w ≤ 2 then _ else _) = _ | none => ∃ I' A', (if nI w < 0 then _ else if nI w ≤ 2 then _ else _) = _ ∧ _
      rw [if_neg (nI_nn (by omega)), if_pos (le_t (y := 2) w 2 hw2 (by decide)), if_pos (show mK (cs I J A M) 1000 = 9 from h.1), q_mayClaim h hw hL hc hp hw2 i3, Option.bind_some]
      show match (generalizing := false) (if _ then _ else _ : Option String) with | some x => (if b32 (oMay G p w i3) = 0 then _ else _) = _ | none => ∃ I' A', (if b32 (oMay G p w i3) = 0 then _ else _) = _ ∧ _
      by_cases hm : oMay G p w i3 = true
      · have hN3 := hN p w hp hw2 hm
        obtain ⟨m1, m2, m3, m4, m5, m6⟩ := oMay_w hm
        have hm0 := hL m1
        have v := w10 _ ht
        have hlt : lst G < 25 := v.2.2.2 _ (by omega)
        have eA : A (1013 + 4 * eS G 5) (eM G (eS G 5) - 1) = nI (lst G) := c5 _ (by omega)
        obtain ⟨l, l1, l2, l3, l4, l5⟩ := may_le hm hw2 hlt
        rw [if_pos hm, hm, if_neg (show ¬ b32 true = 0 by decide), gR_cs 288 h.1 h.2.1, Option.bind_some, h.seat hp, Option.bind_some, if_pos (show mK (cs I J A M) 1000 = 9 from h.1), q_seatInTurn h ht hs.2.2.2.2.2.1, Option.bind_some, if_pos (show mK (cs I J A M) (1010 + 4 * eS G 5) = 7 from hse.1), q_leave hse c4 (by omega), Option.bind_some, if_neg (show ¬ eM G (eS G 5) = 0 by omega), if_neg (show ¬ eM G (eS G 5) = 0 by omega), eA]
        rw [pI_cs 296 h.1, Option.bind_some, pI_cs 295 h.1, Option.bind_some, pZ_cs 303 h.1 (Or.inl rfl), Option.bind_some, if_pos (show mK (cs _ J A M) (1010 + 4 * p) = 7 from hsp.1), q_change hsp hlt 1, Option.bind_some, d1 _ hlt, nI_1]
        obtain ⟨I', A', e1, e2⟩ := q_claim_97 (G := gLv G p) h (hw.lv (hT m1 p hp) hp) (hc.lv hp ht hlt) hp hw2 l1 hN3 l5 (fun q => (m5 q).2)
        refine ⟨I', A', ?_, ?_⟩
        · by_cases z : w = 1
          · rw [if_pos (show nI w = 1 by rw [z]; rfl), l3 z]
            exact e1
          · rw [if_neg (eq_f (x := nI w) (y := 1) w 1 z (by omega) (by decide)), ← l4 z]
            rw [l4 z] at e1 ⊢
            exact e1
        · unfold gClm
          rw [← l2]
          exact e2
      · have hm' : oMay G p w i3 = false := by cases hx : oMay G p w i3; rfl; exact absurd hx hm
        rw [if_neg hm, hm']
        rfl
end CLAIM2
/-! ===== PURE: who may win, by the class; the payment ===== -/
/-- the tile is waited for -/
def gBit (G : zG) (p : Nat) : Bool := decide ((gW G p >>> ((nI (lst G)).toInt64 &&& 63)) &&& 1 = 1 ∧ gW G p &&& eD G p = 0)
def oAlone (G : zG) (p : Nat) : Bool := decide (p = eS G 5 ∧ eS G 9 ≠ 0 ∧ sn (eH G p) 0 25 + 3 * eN G p = 11) && cmp 25 0 (eH G p)
def oByDis (G : zG) (p : Nat) : Bool := decide (eS G 4 = 2 ∧ p ≠ eS G 5) && gBit G p
section WIN
variable {I : Nat → Nat → Int32} {J : Nat → Nat → Int64} {A : Nat → Nat → Int32} {M : zM} {G : zG}
theorem q_winsAlone (h : CSH M) (hw : WF G) (hz : WZ G) (hc : CR I J A G) {p : Nat} (hp : p < 4) : ∃ A', f_X3_winsAlone 1000 (nI p) (cs I J A M) = some (b32 (oAlone G p), cs I J A' M) ∧ CR I J A' G := by
  have hs := hc.1
  obtain ⟨w0, w1, w2, w3, w4, ht, w6, w7, w8, w9, w10⟩ := hw
  obtain ⟨d1, d2, d3, d4, d5, d6, d7⟩ := hc.2 _ hp
  have hsp := h.2.2.2.2.2.2.2.1 _ hp
  have u1' := (w10 _ hp).1
  have hzz := hz p hp
  unfold f_X3_winsAlone f_X3_winsAlone_0 oAlone
  rw [gR_cs 288 h.1 h.2.1, Option.bind_some, h.seat hp, Option.bind_some, gI_cs 296 h.1, Option.bind_some, hs.2.2.2.2.2.1]
  by_cases y : p = eS G 5
  · rw [if_pos (show nI p = nI (eS G 5) by rw [y]), gI_cs 303 h.1, Option.bind_some, hs.2.2.2.2.2.2.2.2.2]
    by_cases z : eS G 9 = 0
    · rw [if_pos (show nI (eS G 9) = 0 by rw [z]; rfl), decide_eq_false (fun q => q.2.1 z)]
      exact ⟨A, rfl, hc⟩
    · rw [if_neg (eq_f (y := 0) (eS G 9) 0 z (by omega) (by decide)), if_pos (show mK (cs I J A M) (1010 + 4 * p) = 7 from hsp.1), q_sizeN hsp d1 d2, Option.bind_some]
      show ∃ A', (if nI (sn (eH G p) 0 25 + 3 * eN G p) = 11 then _ else _) = _ ∧ _
      by_cases x : sn (eH G p) 0 25 + 3 * eN G p = 11
      · obtain ⟨w', e1⟩ := q_complete (I := I) (J := J) (A := A) (M := M) (a := 1002) (q := 1003) (t := 1011 + 4 * p) (g := eH G p) h.2.2.2.2.2.1.pa hsp.2.2.2.2.1 (by omega) d1 (fun k hk => by have := u1' k hk; omega)
        rw [if_pos (show nI (sn (eH G p) 0 25 + 3 * eN G p) = 11 by rw [x]; rfl), decide_eq_true ⟨y, z, x⟩, gR_cs 289 h.1 h.2.2.1, Option.bind_some, gR_cs 224 hsp.1 hsp.2.1, Option.bind_some, if_pos (show mK (cs I J A M) 1002 = 6 from h.2.2.2.2.2.1.1), e1, Option.bind_some, Bool.true_and]
        refine ⟨_, ?_, hc.own (own_ur A w' (q := 1003) (Or.inl ⟨by decide, by decide⟩))⟩
        show (if b32 (cmp 25 0 (eH G p)) = 0 then _ else _) = _
        cases cmp 25 0 (eH G p) with
        | false => rfl
        | true => rfl
      · rw [if_neg (eq_f (y := 11) _ 11 x (by omega) (by decide)), decide_eq_false (fun q => x q.2.2)]
        exact ⟨A, rfl, hc⟩
  · rw [if_neg (eq_f p (eS G 5) y (by omega) (by omega)), decide_eq_false (fun q => y q.1)]
    exact ⟨A, rfl, hc⟩
theorem q_winsByDiscard (h : CSH M) (hw : WF G) (hL : WL G) (hc : CR I J A G) {p : Nat} (hp : p < 4) : ∃ A', f_X3_winsByDiscard 1000 (nI p) (cs I J A M) = some (b32 (oByDis G p), cs I J A' M) ∧ CR I J A' G := by
  have hs := hc.1
  have hw' := hw
  obtain ⟨w0, w1, w2, w3, w4, ht, w6, w7, w8, w9, w10⟩ := hw'
  have hse := h.2.2.2.2.2.2.2.1 _ ht
  have hsp := h.2.2.2.2.2.2.2.1 _ hp
  unfold f_X3_winsByDiscard f_X3_winsByDiscard_0 oByDis
  rw [gI_cs 295 h.1, Option.bind_some, hs.2.2.2.2.1]
  by_cases z : eS G 4 = 2
  · have hm := hL z
    have v := w10 _ ht
    have hlt : lst G < 25 := v.2.2.2 _ (by omega)
    rw [if_pos (show nI (eS G 4) = 2 by rw [z]; rfl), gI_cs 296 h.1, Option.bind_some, hs.2.2.2.2.2.1]
    by_cases y : p = eS G 5
    · rw [if_pos (show nI p = nI (eS G 5) by rw [y]), decide_eq_false (fun q => q.2 y)]
      exact ⟨A, rfl, hc⟩
    · obtain ⟨A1, e1, f1⟩ := q_waitsG h hc hw hp
      have hc1 := hc.own f1
      obtain ⟨c1, c2, c3, c4, c5, c6, c7⟩ := hc1.2 _ ht
      obtain ⟨d1, d2, d3, d4, d5, d6, d7⟩ := hc1.2 _ hp
      have eA : A1 (1013 + 4 * eS G 5) (eM G (eS G 5) - 1) = nI (lst G) := c5 _ (by omega)
      rw [if_neg (eq_f p (eS G 5) y (by omega) (by omega)), gR_cs 288 h.1 h.2.1, Option.bind_some, h.seat hp, Option.bind_some, if_pos (show mK (cs I J A M) 1000 = 9 from h.1), e1, Option.bind_some, if_pos (show mK (cs I J A1 M) 1000 = 9 from h.1), q_seatInTurn h ht hs.2.2.2.2.2.1, Option.bind_some, if_pos (show mK (cs I J A1 M) (1010 + 4 * eS G 5) = 7 from hse.1), q_latest hse c4 (by have := v.2.2.1; omega), Option.bind_some, if_neg (show ¬ eM G (eS G 5) = 0 by omega), eA, decide_eq_true ⟨z, y⟩, Bool.true_and, if_neg (nI_nn (by omega))]
      refine ⟨A1, ?_, hc1⟩
      show (if lg_cmp ((gW G p >>> ((nI (lst G)).toInt64 &&& 63)) &&& 1) 1 = 0 then (gJ 7 3 (cs I J A1 M) (1010 + 4 * p)).bind _ else _) = _
      unfold gBit
      by_cases x : (gW G p >>> ((nI (lst G)).toInt64 &&& 63)) &&& 1 = 1
      · rw [if_pos ((lg_cmp_0 _ _).mpr x), gJ_cs 227 hsp.1, Option.bind_some, d6]
        show (if lg_cmp (gW G p &&& eD G p) 0 = 0 then _ else _) = _
        by_cases u : gW G p &&& eD G p = 0
        · rw [if_pos ((lg_cmp_0 _ _).mpr u), decide_eq_true ⟨x, u⟩]
          rfl
        · rw [if_neg (fun q => u ((lg_cmp_0 _ _).mp q)), decide_eq_false (fun q => u q.2)]
          rfl
      · rw [if_neg (fun q => x ((lg_cmp_0 _ _).mp q)), decide_eq_false (fun q => x q.1)]
        rfl
  · rw [if_neg (eq_f (y := 2) (eS G 4) 2 z (by omega) (by decide)), decide_eq_false (fun q => z q.1)]
    exact ⟨A, rfl, hc⟩
/-- points alone -/
def PF (I I' : Nat → Nat → Int32) : Prop := ∀ k b, (k = 231 ∨ k = 232 ∨ (299 ≤ k ∧ k ≤ 301)) ∨ I' k b = I k b
theorem PF.rfl' (I : Nat → Nat → Int32) : PF I I := fun k b => Or.inr rfl
theorem PF.put {I I' : Nat → Nat → Int32} (h : PF I I') {q : Nat} (hq : q = 231 ∨ q = 232 ∨ (299 ≤ q ∧ q ≤ 301)) (b : Nat) (v : Int32) : PF I (u2 I' q b v) := fun k c => by
  by_cases y : k = q
  · exact Or.inl (y ▸ hq)
  · exact (h k c).imp id (fun e => (if_neg (fun z => y z.1)).trans e)
theorem q_pay92 (h : CSH M) {p : Nat} (hp : p < 4) {I0 : Nat → Nat → Int32} (hf : PF I0 I) : ∃ I', f_X3_payWin_92 1000 (nI p) (cs I J A M) = some ((), cs I' J A M) ∧ PF I0 I' := by
  have hsp := h.2.2.2.2.2.2.2.1 _ hp
  unfold f_X3_payWin_92
  rw [gR_cs 288 h.1 h.2.1, Option.bind_some, h.seat hp, Option.bind_some, gI_cs 231 hsp.1, Option.bind_some, gI_cs 299 h.1, Option.bind_some, pI_cs 231 hsp.1, Option.bind_some, pI_cs 299 h.1, Option.bind_some]
  exact ⟨_, rfl, (hf.put (Or.inl rfl) _ _).put (Or.inr (Or.inr (by omega))) _ _⟩
theorem q_pay7 (h : CSH M) {p : Nat} (hp : p < 4) (x : Int32) {I0 : Nat → Nat → Int32} : ∀ (d n i : Nat) (I : Nat → Nat → Int32), i + d = 4 → d < n → PF I0 I → ∃ I', f_X3_payWin_7 n 1000 (nI p) x (nI i) (cs I J A M) = some ((), cs I' J A M) ∧ PF I0 I' := by
  have hsp := h.2.2.2.2.2.2.2.1 _ hp
  intro d
  induction d with
  | zero =>
    intro n i I hi hn hf
    obtain ⟨n, rfl⟩ : ∃ m, n = m + 1 := ⟨n - 1, by omega⟩
    rw [f_X3_payWin_7, if_pos (le_t (x := 4) 4 i (by omega) (by omega)), gR_cs 288 h.1 h.2.1, Option.bind_some, h.seat hp, Option.bind_some, gI_cs 231 hsp.1, Option.bind_some, pI_cs 231 hsp.1, Option.bind_some]
    exact q_pay92 h hp (hf.put (Or.inl rfl) _ _)
  | succ d ih =>
    intro n i I hi hn hf
    obtain ⟨n, rfl⟩ : ∃ m, n = m + 1 := ⟨n - 1, by omega⟩
    have hi4 : i < 4 := by omega
    have hsi := h.2.2.2.2.2.2.2.1 _ hi4
    rw [f_X3_payWin_7, if_neg (le_f (x := 4) 4 i (by omega) (by decide)), gR_cs 288 h.1 h.2.1, Option.bind_some, h.seat hi4, Option.bind_some, gI_cs 231 hsi.1, Option.bind_some, pI_cs 231 hsi.1, Option.bind_some, nI_1]
    exact ih n (i + 1) _ (by omega) (by omega) (hf.put (Or.inl rfl) _ _)
theorem q_payWin (h : CSH M) (hw : WF G) (hc : CR I J A G) {p : Nat} (hp : p < 4) (a x : Int32) : ∃ I', f_X3_payWin 1000 (nI p) a x (cs I J A M) = some ((), cs I' J A M) ∧ PF I I' := by
  have ht := hw.2.2.2.2.2.1
  have hse := h.2.2.2.2.2.2.2.1 _ ht
  have hsp := h.2.2.2.2.2.2.2.1 _ hp
  unfold f_X3_payWin f_X3_payWin_0
  split
  · rw [if_pos (show mK (cs I J A M) 1000 = 9 from h.1), q_seatInTurn h ht hc.1.2.2.2.2.2.1, Option.bind_some, gI_cs 231 hse.1, Option.bind_some, pI_cs 231 hse.1, Option.bind_some, gR_cs 288 h.1 h.2.1, Option.bind_some, h.seat hp, Option.bind_some, gI_cs 231 hsp.1, Option.bind_some, pI_cs 231 hsp.1, Option.bind_some]
    exact q_pay92 h hp (((PF.rfl' I).put (Or.inl rfl) _ _).put (Or.inl rfl) _ _)
  · exact q_pay7 h hp x 4 zN 0 I rfl (by decide) (PF.rfl' I)
end WIN
/-! ===== PURE: the class's win on the game ===== -/
def oWin (G : zG) (i : Int32) : Option String :=
  if i < 0 ∨ 4 ≤ i.toNatClampNeg then some "java/lang/IndexOutOfBoundsException"
  else if (if eS G 4 = 1 then oAlone G i.toNatClampNeg else oByDis G i.toNatClampNeg) = true then none
  else some "java/lang/IllegalStateException"
/-- the tile that won goes over -/
def gTk (G : zG) (p : Nat) : zG := (eS G, u2 (eH G) p (lst G) (eH G p (lst G) + 1), eN G, eV G, u1 (eM G) (eS G 5) (eM G (eS G 5) - 1), eR G, eD G, eC G)
def gWin (G : zG) (p : Nat) : zG := wS (if eS G 4 = 1 then G else gTk G p) 4 3
section WIN2
variable {I : Nat → Nat → Int32} {J : Nat → Nat → Int64} {A : Nat → Nat → Int32} {M : zM} {G : zG}
theorem CR.tk (h : CR I J A G) {p : Nat} (hp : p < 4) (ht : eS G 5 < 4) : CR (u2 I 229 (1010 + 4 * eS G 5) (nI (eM G (eS G 5) - 1))) J (u2 A (1011 + 4 * p) (lst G) (nI (eH G p (lst G) + 1))) (gTk G p) := by
  refine ⟨?_, fun c hc => ?_⟩
  · obtain ⟨⟨s1, s2, s3, s4, s5, s6, s7, s8, s9, s10⟩, -⟩ := h
    exact ⟨s1, s2, s3, s4, s5, s6, s7, s8, s9, s10⟩
  · obtain ⟨h1, h2, h3, h4, h5, h6, h7⟩ := h.2 c hc
    refine ⟨fun j hj => ?_, h2, fun j hj => ?_, ?_, fun j hj => ?_, h6, h7⟩
    · show u2 A (1011 + 4 * p) (lst G) _ (1011 + 4 * c) j = nI (u2 (eH G) p (lst G) _ c j)
      unfold u2
      by_cases y : c = p ∧ j = lst G
      · rw [if_pos y, if_pos ⟨by omega, y.2⟩]
      · rw [if_neg y, if_neg (by omega)]
        exact h1 j hj
    · exact (if_neg (by omega)).trans (h3 j hj)
    · show u2 I 229 (1010 + 4 * eS G 5) _ 229 (1010 + 4 * c) = nI (u1 (eM G) (eS G 5) _ c)
      unfold u2 u1
      by_cases y : c = eS G 5
      · rw [if_pos y, if_pos ⟨rfl, by omega⟩]
      · rw [if_neg y, if_neg (by omega)]
        exact h4
    · have hj' : j < (if c = eS G 5 then eM G (eS G 5) - 1 else eM G c) := hj
      refine (if_neg (by omega)).trans (h5 j ?_)
      by_cases y : c = eS G 5
      · rw [if_pos y] at hj'
        rw [y]
        omega
      · rw [if_neg y] at hj'
        exact hj'
theorem q_windOf (h : CSH M) (i : Int32) : ∃ z, f_X3_windOf 1000 i (cs I J A M) = some (z, cs I J A M) := by
  unfold f_X3_windOf f_X3_windOf_0
  rw [gI_cs 297 h.1, Option.bind_some]
  split
  · exact ⟨_, rfl⟩
  · exact ⟨_, rfl⟩
theorem q_win_74 (h : CSH M) (ht : eS G 5 < 4) (hc : CR I J A G) {p : Nat} (hp : p < 4) (hN3 : eN G p ≤ 3) (al : Int32) (hpay : ∀ (I : Nat → Nat → Int32) (A : Nat → Nat → Int32) (x : Int32), CR I J A G → ∃ I', f_X3_payWin 1000 (nI p) al x (cs I J A M) = some ((), cs I' J A M) ∧ PF I I') : ∃ I' A' z, f_X3_win_74 1000 (nI p) al (1010 + 4 * p) (cs I J A M) = some (.inr z, cs I' J A' M) ∧ CR I' J A' (wS G 4 3) := by
  have hsp := h.2.2.2.2.2.2.2.1 _ hp
  obtain ⟨d1, d2, d3, d4, d5, d6, d7⟩ := hc.2 _ hp
  have hva : VA M 1008 1009 := h.2.2.2.2.2.2.1
  obtain ⟨wd, e1⟩ := q_windOf (I := I) (J := J) (A := A) h (nI p)
  unfold f_X3_win_74
  obtain ⟨z, w', e2⟩ := q_value (J := J) (A := A) hva hsp ⟨by omega, by omega⟩ d2 hN3 al (I 300 1000) wd
  have hc2 := hc.own (own_ur A w' (q := 1009) (Or.inr rfl))
  obtain ⟨I2, e3, f3⟩ := hpay I (ur A 1009 w') z hc2
  rw [gR_cs 290 h.1 h.2.2.2.1, Option.bind_some, gI_cs 300 h.1, Option.bind_some, if_pos (show mK (cs I J A M) 1000 = 9 from h.1), e1, Option.bind_some, if_pos (show mK (cs I J A M) 1008 = 8 from hva.1), e2, Option.bind_some, if_pos (show mK (cs I J _ M) 1000 = 9 from h.1), e3, Option.bind_some, gI_cs 232 hsp.1, Option.bind_some, pI_cs 232 hsp.1, Option.bind_some, pI_cs 301 h.1, Option.bind_some, pI_cs 295 h.1, Option.bind_some]
  refine ⟨_, _, z, rfl, ?_⟩
  obtain ⟨⟨s1, s2, s3, s4, s5, s6, s7, s8, s9, s10⟩, hpp⟩ := hc2.free ((f3.put (q := 232) (Or.inr (Or.inl rfl)) (1010 + 4 * p) (I2 232 (1010 + 4 * p) + 1)).put (q := 301) (Or.inr (Or.inr (by omega))) 1000 (nI p))
  exact ⟨⟨s1, s2, s3, s4, rfl, s6, s7, s8, s9, s10⟩, fun c h9 => hpp c h9⟩
theorem q_win (h : CSH M) (hw : WF G) (hL : WL G) (hT : WT G) (hz : WZ G) (hc : CR I J A G) (i : Int32) : match (generalizing := false) oWin G i with
    | some x => ∃ A', f_X3_win 1000 i (cs I J A M) = some (.inl x, cs I J A' (nE M)) ∧ CR I J A' G
    | none => ∃ I' A' z, f_X3_win 1000 i (cs I J A M) = some (.inr z, cs I' J A' M) ∧ CR I' J A' (gWin G i.toNatClampNeg) := by
  unfold oWin f_X3_win f_X3_win_0
  by_cases y : i < 0 ∨ 4 ≤ i.toNatClampNeg
  · have e : f_X3_requirePlayer i (cs I J A M) = some (.inl "java/lang/IndexOutOfBoundsException", nE (cs I J A M)) := by
      unfold f_X3_requirePlayer f_X3_requirePlayer_0
      rcases nI_all i with z | ⟨n, z1, rfl⟩
      · rw [if_pos z]; rfl
      · rw [if_neg (nI_nn z1), if_neg (lt_f (y := 4) n 4 (by
          rcases y with y | y
          · exact absurd y (nI_nn z1)
          · rw [nI_cl z1] at y
            exact y) z1)]
        rfl
    rw [if_pos y, e]
    exact ⟨A, rfl, hc⟩
  · rw [if_neg y]
    obtain ⟨p, hp, rfl⟩ : ∃ p, p < 4 ∧ i = nI p := by
      rcases nI_all i with z | ⟨n, z1, z2⟩
      · exact absurd (Or.inl z) y
      · refine ⟨n, Nat.lt_of_not_le fun q => y (Or.inr ?_), z2⟩
        rw [z2, nI_cl z1]
        exact q
    have e : f_X3_requirePlayer (nI p) (cs I J A M) = some (.inr (), cs I J A M) := by
      unfold f_X3_requirePlayer f_X3_requirePlayer_0
      rw [if_neg (nI_nn (by omega)), if_pos (lt_t (y := 4) p 4 hp (by decide))]
    have hs := hc.1
    have ht := hw.2.2.2.2.2.1
    have w10 := hw.2.2.2.2.2.2.2.2.2.2
    have w4 := hw.2.2.2.2.1
    have hsp := h.2.2.2.2.2.2.2.1 _ hp
    have hse := h.2.2.2.2.2.2.2.1 _ ht
    rw [e, nI_cl (by omega)]
    show match (generalizing := false) (if _ then _ else _ : Option String) with | some x => ∃ A', (gI 9 7 (cs I J A M) 1000).bind _ = _ ∧ _ | none => ∃ I' A' z, (gI 9 7 (cs I J A M) 1000).bind _ = _ ∧ _
    rw [gI_cs 295 h.1, Option.bind_some, hs.2.2.2.2.1]
    by_cases x : eS G 4 = 1
    · obtain ⟨A1, e1, f1⟩ := q_winsAlone h hw hz hc hp
      rw [if_pos (show nI (eS G 4) = 1 by rw [x]; rfl), if_pos x]
      unfold f_X3_win_17
      rw [if_neg (show ¬ (1 : Int32) = 0 by decide), if_pos (show mK (cs I J A M) 1000 = 9 from h.1), e1, Option.bind_some]
      cases ho : oAlone G p with
      | false => exact ⟨A1, rfl, f1⟩
      | true =>
        show ∃ I' A' z, f_X3_win_51 1000 (nI p) 1 (cs I J A1 M) = _ ∧ CR I' J A' (wS (if eS G 4 = 1 then G else gTk G p) 4 3)
        unfold f_X3_win_51
        rw [gR_cs 288 h.1 h.2.1, Option.bind_some, h.seat hp, Option.bind_some, if_neg (show ¬ (1 : Int32) = 0 by decide), if_pos x]
        exact q_win_74 h ht f1 hp (w10 p hp).2.1 1 (fun I2 A2 z hc2 => q_payWin h hw hc2 hp 1 z)
    · obtain ⟨A1, e1, f1⟩ := q_winsByDiscard h hw hL hc hp
      rw [if_neg (eq_f (x := nI (eS G 4)) (y := 1) (eS G 4) 1 x (by omega) (by decide)), if_neg x]
      unfold f_X3_win_17
      rw [if_pos rfl, if_pos (show mK (cs I J A M) 1000 = 9 from h.1), e1, Option.bind_some]
      cases ho : oByDis G p with
      | false => exact ⟨A1, rfl, f1⟩
      | true =>
        have ho2 : eS G 4 = 2 := by
          unfold oByDis at ho
          rw [Bool.and_eq_true] at ho
          exact (of_decide_eq_true ho.1).1
        have hm := hL ho2
        have v := w10 _ ht
        have hlt : lst G < 25 := v.2.2.2 _ (by omega)
        obtain ⟨c1, c2, c3, c4, c5, c6, c7⟩ := f1.2 _ ht
        obtain ⟨d1, d2, d3, d4, d5, d6, d7⟩ := f1.2 _ hp
        have eA : A1 (1013 + 4 * eS G 5) (eM G (eS G 5) - 1) = nI (lst G) := c5 _ (by omega)
        have hw2 : ∀ (I2 : Nat → Nat → Int32) (A2 : Nat → Nat → Int32) (z : Int32), CR I2 J A2 (gTk G p) → ∃ I', f_X3_payWin 1000 (nI p) 0 z (cs I2 J A2 M) = some ((), cs I' J A2 M) ∧ PF I2 I' := fun I2 A2 z hc2 => by
          have hse' := h.2.2.2.2.2.2.2.1 _ ht
          unfold f_X3_payWin f_X3_payWin_0
          rw [if_pos rfl, if_pos (show mK (cs I2 J A2 M) 1000 = 9 from h.1), q_seatInTurn h ht hc2.1.2.2.2.2.2.1, Option.bind_some, gI_cs 231 hse.1, Option.bind_some, pI_cs 231 hse.1, Option.bind_some, gR_cs 288 h.1 h.2.1, Option.bind_some, h.seat hp, Option.bind_some, gI_cs 231 hsp.1, Option.bind_some, pI_cs 231 hsp.1, Option.bind_some]
          exact q_pay92 h hp (((PF.rfl' I2).put (Or.inl rfl) _ _).put (Or.inl rfl) _ _)
        show ∃ I' A' z, f_X3_win_51 1000 (nI p) 0 (cs I J A1 M) = _ ∧ CR I' J A' (wS (if eS G 4 = 1 then G else gTk G p) 4 3)
        unfold f_X3_win_51
        rw [gR_cs 288 h.1 h.2.1, Option.bind_some, h.seat hp, Option.bind_some, if_pos rfl, if_pos (show mK (cs I J A1 M) 1000 = 9 from h.1), q_seatInTurn h ht hs.2.2.2.2.2.1, Option.bind_some, if_pos (show mK (cs I J A1 M) (1010 + 4 * eS G 5) = 7 from hse.1), q_leave hse c4 (by have := v.2.2.1; omega), Option.bind_some, if_neg (show ¬ eM G (eS G 5) = 0 by omega), if_neg (show ¬ eM G (eS G 5) = 0 by omega), eA, if_neg x]
        rw [if_pos (show mK (cs _ J A1 M) (1010 + 4 * p) = 7 from hsp.1), q_change hsp hlt 1, Option.bind_some, d1 _ hlt, nI_1]
        exact q_win_74 (G := gTk G p) h ht (f1.tk hp ht) hp (w10 p hp).2.1 0 hw2
end WIN2
/-! ===== PURE: the class's deal on the game ===== -/
/-- a seat is emptied -/
def gClr (G : zG) (p : Nat) : zG := (eS G, fun c k => if c = p ∧ k < 25 then 0 else eH G c k, u1 (eN G) p 0, eV G, u1 (eM G) p 0, eR G, u1 (eD G) p 0, u1 (eC G) p false)
/-- d more tiles from the place i of those of p -/
def gDeal (p : Nat) : Nat → Nat → zG → zG
  | 0, _, G => G
  | d + 1, i, G => gDeal p d (i + 1) (wH G p (gK G (10 * p + i)) (eH G p (gK G (10 * p + i)) + 1))
def gAll : Nat → Nat → zG → zG
  | 0, _, G => G
  | d + 1, p, G => gAll d (p + 1) (gDeal p 10 0 (gClr G p))
theorem gDeal_S (p : Nat) : ∀ (d i : Nat) (G : zG), eS (gDeal p d i G) = eS G := by
  intro d
  induction d with
  | zero => exact fun _ _ => rfl
  | succ d ih => exact fun i G => (ih (i + 1) _).trans rfl
theorem gAll_S : ∀ (d p : Nat) (G : zG), eS (gAll d p G) = eS G := by
  intro d
  induction d with
  | zero => exact fun _ _ => rfl
  | succ d ih => exact fun p G => (ih (p + 1) _).trans ((gDeal_S p 10 0 _).trans rfl)
section DEAL
variable {I : Nat → Nat → Int32} {J : Nat → Nat → Int64} {A : Nat → Nat → Int32} {M : zM} {G : zG}
theorem CR.clr (h : CR I J A G) {p : Nat} (hp : p < 4) : CR (u2 (u2 (u2 I 228 (1010 + 4 * p) 0) 229 (1010 + 4 * p) 0) 230 (1010 + 4 * p) 0) (u2 J 227 (1010 + 4 * p) 0) (z25 A (1011 + 4 * p) 25) (gClr G p) := by
  refine ⟨?_, fun c hc => ?_⟩
  · obtain ⟨⟨s1, s2, s3, s4, s5, s6, s7, s8, s9, s10⟩, -⟩ := h
    exact ⟨s1, s2, s3, s4, s5, s6, s7, s8, s9, s10⟩
  · obtain ⟨h1, h2, h3, h4, h5, h6, h7⟩ := h.2 c hc
    by_cases y : c = p
    · subst y
      refine ⟨fun j hj => ?_, ?_, fun j hj => ?_, ?_, fun j hj => ?_, ?_, ?_⟩
      · show z25 A (1011 + 4 * c) 25 (1011 + 4 * c) j = nI (if c = c ∧ j < 25 then 0 else eH G c j)
        unfold z25
        rw [if_pos ⟨rfl, hj⟩, if_pos ⟨rfl, hj⟩]
        rfl
      · show _ = nI (u1 (eN G) c 0 c)
        rw [u1_at]
        exact (if_neg (by omega)).trans ((if_neg (by omega)).trans (if_pos ⟨rfl, rfl⟩))
      · exact absurd (show j < u1 (eN G) c 0 c from hj) (by rw [u1_at]; omega)
      · show _ = nI (u1 (eM G) c 0 c)
        rw [u1_at]
        exact (if_neg (by omega)).trans (if_pos ⟨rfl, rfl⟩)
      · exact absurd (show j < u1 (eM G) c 0 c from hj) (by rw [u1_at]; omega)
      · show _ = u1 (eD G) c 0 c
        rw [u1_at]
        exact if_pos ⟨rfl, rfl⟩
      · show _ = b32 (u1 (eC G) c false c)
        rw [u1_at]
        exact if_pos ⟨rfl, rfl⟩
    · refine ⟨fun j hj => ?_, ?_, fun j hj => ?_, ?_, fun j hj => ?_, ?_, ?_⟩
      · show z25 A (1011 + 4 * p) 25 (1011 + 4 * c) j = nI (if c = p ∧ j < 25 then 0 else eH G c j)
        unfold z25
        rw [if_neg (by omega), if_neg (fun q => y q.1)]
        exact h1 j hj
      · show _ = nI (u1 (eN G) p 0 c)
        rw [u1_ne _ _ y]
        exact (if_neg (by omega)).trans ((if_neg (by omega)).trans ((if_neg (by omega)).trans h2))
      · exact (if_neg (by omega)).trans (h3 j (by have hj' : j < u1 (eN G) p 0 c := hj; rw [u1_ne _ _ y] at hj'; exact hj'))
      · show _ = nI (u1 (eM G) p 0 c)
        rw [u1_ne _ _ y]
        exact (if_neg (by omega)).trans ((if_neg (by omega)).trans ((if_neg (by omega)).trans h4))
      · exact (if_neg (by omega)).trans (h5 j (by have hj' : j < u1 (eM G) p 0 c := hj; rw [u1_ne _ _ y] at hj'; exact hj'))
      · show _ = u1 (eD G) p 0 c
        rw [u1_ne _ _ y]
        exact (if_neg (by omega)).trans h6
      · show _ = b32 (u1 (eC G) p false c)
        rw [u1_ne _ _ y]
        exact (if_neg (by omega)).trans ((if_neg (by omega)).trans ((if_neg (by omega)).trans h7))
theorem q_dealTo_13 (h : CSH M) {p : Nat} (hp : p < 4) : ∀ (d n i : Nat) (A : Nat → Nat → Int32) (G : zG), eS G 0 < 100 → eS G 1 < 100 → i + d = 10 → d < n → CR I J A G → ∃ A', f_X3_dealTo_13 n 1000 (nI p) (1010 + 4 * p) (nI i) (cs I J A M) = some ((), cs I J A' M) ∧ CR I J A' (gDeal p d i G) := by
  have hsp := h.2.2.2.2.2.2.2.1 _ hp
  intro d
  induction d with
  | zero =>
    intro n i A G w0 w1 hi hn hc
    obtain ⟨n, rfl⟩ : ∃ m, n = m + 1 := ⟨n - 1, by omega⟩
    rw [f_X3_dealTo_13, if_pos (le_t (x := 10) 10 i (by omega) (by omega))]
    exact ⟨A, rfl, hc⟩
  | succ d ih =>
    intro n i A G w0 w1 hi hn hc
    obtain ⟨n, rfl⟩ : ∃ m, n = m + 1 := ⟨n - 1, by omega⟩
    have hs := hc.1
    have e10 : (10 : Int32) * nI p + nI i = nI (10 * p + i) := by rw [show (10 : Int32) = nI 10 from rfl, pk_mul, nI_add]
    have hk := gK_lt G (10 * p + i)
    have e2 : f_X3_kindAt 1000 (nI (10 * p + i)) (cs I J A M) = some (nI (gK G (10 * p + i)), cs I J A M) := q_kindAt h hs.1 hs.2.1 w0 w1 (by omega)
    rw [f_X3_dealTo_13, if_neg (le_f (x := 10) 10 i (by omega) (by decide)), if_pos (show mK (cs I J A M) 1000 = 9 from h.1), e10, e2, Option.bind_some, if_pos (show mK (cs I J A M) (1010 + 4 * p) = 7 from hsp.1), q_change hsp hk 1, Option.bind_some, (hc.2 _ hp).1 _ hk, nI_1, nI_1]
    exact ih n (i + 1) _ _ (by exact w0) (by exact w1) (by omega) (by omega) (hc.hand hp hk)
theorem q_dealTo (h : CSH M) {p : Nat} (hp : p < 4) (w0 : eS G 0 < 100) (w1 : eS G 1 < 100) (hc : CR I J A G) : ∃ I' J' A', f_X3_dealTo 1000 (nI p) (cs I J A M) = some ((), cs I' J' A' M) ∧ CR I' J' A' (gDeal p 10 0 (gClr G p)) := by
  have hsp := h.2.2.2.2.2.2.2.1 _ hp
  unfold f_X3_dealTo f_X3_dealTo_0
  rw [gR_cs 288 h.1 h.2.1, Option.bind_some, h.seat hp, Option.bind_some, if_pos (show mK (cs I J A M) (1010 + 4 * p) = 7 from hsp.1), q_clear hsp, Option.bind_some]
  obtain ⟨A', e1, e2⟩ := q_dealTo_13 h hp 10 zN 0 _ (gClr G p) w0 w1 rfl (by decide) (hc.clr hp)
  exact ⟨_, _, A', e1, e2⟩
end DEAL
/-! ===== PURE: the class's lay on the game ===== -/
def gBeg (G : zG) (st sh : Nat) : zG := (u1 (u1 (u1 (u1 (u1 (u1 (u1 (u1 (u1 (u1 (eS G) 0 st) 1 sh) 6 (eS G 6 % 4 + 1)) 7 (eS G 7 + 1)) 5 (eS G 6 % 4)) 4 0) 2 0) 3 0) 8 0) 9 0, G.2)
def gLay (G : zG) (st sh : Nat) : zG := gAll 4 0 (gBeg G st sh)
def oLay (G : zG) (i1 i2 : Int32) : Option String :=
  if i1 < 0 ∨ i1.toNatClampNeg = 0 ∨ 100 ≤ i1.toNatClampNeg ∨ i1.toNatClampNeg % 2 = 0 ∨ i1.toNatClampNeg % 5 = 0 ∨ i2 < 0 ∨ 100 ≤ i2.toNatClampNeg then some "java/lang/IllegalArgumentException"
  else if eS G 4 = 3 then none
  else some "java/lang/IllegalStateException"
section LAY
variable {I : Nat → Nat → Int32} {J : Nat → Nat → Int64} {A : Nat → Nat → Int32} {M : zM} {G : zG}
theorem q_follower (i : Int32) (M : zM) : ∃ z, f_X3_follower i M = some (z, M) := by
  unfold f_X3_follower f_X3_follower_0
  repeat' split
  all_goals exact ⟨_, rfl⟩
theorem q_lay_64 (h : CSH M) : ∀ (d n p : Nat) (I : Nat → Nat → Int32) (J : Nat → Nat → Int64) (A : Nat → Nat → Int32) (G : zG), eS G 0 < 100 → eS G 1 < 100 → p + d = 4 → d < n → CR I J A G → ∃ I' J' A', f_X3_lay_64 n 1000 (nI p) (cs I J A M) = some (.inr (nI (eS G 6) - 1), cs I' J' A' M) ∧ CR I' J' A' (gAll d p G) := by
  intro d
  induction d with
  | zero =>
    intro n p I J A G w0 w1 hi hn hc
    obtain ⟨n, rfl⟩ : ∃ m, n = m + 1 := ⟨n - 1, by omega⟩
    have hs := hc.1
    have e2 : f_X3_kindAt 1000 95 (cs I J A M) = some (nI (gK G 95), cs I J A M) := q_kindAt h hs.1 hs.2.1 w0 w1 (t := 95) (by omega)
    obtain ⟨z, e3⟩ := q_follower (nI (gK G 95)) (cs I J A M)
    rw [f_X3_lay_64, if_pos (le_t (x := 4) 4 p (by omega) (by omega)), if_pos (show mK (cs I J A M) 1000 = 9 from h.1), e2, Option.bind_some, e3, Option.bind_some, pI_cs 300 h.1, Option.bind_some, gI_cs 297 h.1, Option.bind_some]
    refine ⟨_, _, _, ?_, hc.free (I' := u2 I 300 1000 z) (fun k b => by
      by_cases y : k = 300
      · exact Or.inl (Or.inr (Or.inr (by omega)))
      · exact Or.inr (if_neg (fun q => y q.1)))⟩
    have e4 : I 297 1000 = nI (eS G 6) - 1 := by
      rw [← hs.2.2.2.2.2.2.1]
      grind
    have e5 : u2 I 300 1000 z 297 1000 = I 297 1000 := if_neg (fun q => by have := q.1; omega)
    rw [e5, e4]
  | succ d ih =>
    intro n p I J A G w0 w1 hi hn hc
    obtain ⟨n, rfl⟩ : ∃ m, n = m + 1 := ⟨n - 1, by omega⟩
    obtain ⟨I1, J1, A1, e1, f1⟩ := q_dealTo h (show p < 4 by omega) w0 w1 hc
    have eS1 : eS (gDeal p 10 0 (gClr G p)) = eS G := (gDeal_S p 10 0 _).trans rfl
    rw [f_X3_lay_64, if_neg (le_f (x := 4) 4 p (by omega) (by decide)), if_pos (show mK (cs I J A M) 1000 = 9 from h.1), e1, Option.bind_some, nI_1]
    obtain ⟨I2, J2, A2, e2, f2⟩ := ih n (p + 1) I1 J1 A1 _ (by rw [eS1]; exact w0) (by rw [eS1]; exact w1) (by omega) (by omega) f1
    rw [eS1] at e2
    exact ⟨I2, J2, A2, e2, f2⟩
theorem q_beginRound (h : CSH M) (hw : WF G) (hc : CR I J A G) {st sh : Nat} : ∃ I', f_X3_beginRound 1000 (cs (u2 (u2 I 291 1000 (nI st)) 292 1000 (nI sh)) J A M) = some ((), cs I' J A M) ∧ CR I' J A (gBeg G st sh) := by
  obtain ⟨w0, w1, w2, w3, w4, ht, w6, w7, w8, w9, w10⟩ := hw
  obtain ⟨⟨s1, s2, s3, s4, s5, s6, s7, s8, s9, s10⟩, hpp⟩ := hc
  unfold f_X3_beginRound f_X3_beginRound_0
  have e1 : u2 (u2 I 291 1000 (nI st)) 292 1000 (nI sh) 297 1000 + 1 = nI (eS G 6) := s7
  have em : zmd (nI (eS G 6)) 4 = nI (eS G 6 % 4) := pk_rem (a := eS G 6) (d := 4) (by omega) (by decide) (by decide)
  rw [gI_cs 297 h.1, Option.bind_some, e1, em, pI_cs 297 h.1, Option.bind_some, gI_cs 298 h.1, Option.bind_some]
  have e2 : u2 (u2 (u2 I 291 1000 (nI st)) 292 1000 (nI sh)) 297 1000 (nI (eS G 6 % 4)) 298 1000 = nI (eS G 7) := s8
  rw [e2, nI_1, pI_cs 298 h.1, Option.bind_some, gI_cs 297 h.1, Option.bind_some, pI_cs 296 h.1, Option.bind_some, pI_cs 295 h.1, Option.bind_some, pI_cs 293 h.1, Option.bind_some, pI_cs 294 h.1, Option.bind_some, pI_cs 302 h.1, Option.bind_some, pZ_cs 303 h.1 (Or.inl rfl), Option.bind_some]
  refine ⟨_, rfl, ⟨?_, fun p hp => ?_⟩⟩
  · exact ⟨rfl, rfl, rfl, rfl, rfl, rfl, nI_1 _, rfl, (show (-1 : Int32) + 1 = 0 by decide), rfl⟩
  · obtain ⟨h1, h2, h3, h4, h5, h6, h7⟩ := hpp p hp
    exact ⟨h1, h2, h3, h4, h5, h6, h7⟩
theorem q_lay (h : CSH M) (hw : WF G) (hc : CR I J A G) (i1 i2 : Int32) : match (generalizing := false) oLay G i1 i2 with
    | some x => f_X3_lay 1000 i1 i2 (cs I J A M) = some (.inl x, cs I J A (nE M))
    | none => ∃ I' J' A', f_X3_lay 1000 i1 i2 (cs I J A M) = some (.inr (nI (eS G 6 % 4)), cs I' J' A' M) ∧ CR I' J' A' (gLay G i1.toNatClampNeg i2.toNatClampNeg) := by
  unfold oLay f_X3_lay f_X3_lay_0
  have bad : ∀ i : Int32, i < 0 → i < 1 := fun i hi => by
    have a := Int32.lt_iff_toInt_lt.mp hi
    refine Int32.lt_iff_toInt_lt.mpr (Int.lt_trans a (by decide))
  rcases nI_all i1 with z | ⟨st, z1, rfl⟩
  · rw [if_pos (Or.inl z), if_pos (bad _ z)]
    rfl
  · rw [nI_cl z1]
    have m2 : zmd (nI st) 2 = nI (st % 2) := pk_rem (a := st) (d := 2) z1 (by decide) (by decide)
    have m5 : zmd (nI st) 5 = nI (st % 5) := pk_rem (a := st) (d := 5) z1 (by decide) (by decide)
    rw [m2, m5]
    by_cases y0 : st = 0
    · rw [if_pos (Or.inr (Or.inl y0)), if_pos (lt_t (y := 1) st 1 (by omega) (by decide))]
      rfl
    · by_cases y1 : 100 ≤ st
      · rw [if_pos (by omega), if_neg (lt_f (y := 1) st 1 (by omega) z1), if_pos (le_t (x := 100) 100 st y1 z1)]
        rfl
      · by_cases y2 : st % 2 = 0
        · rw [if_pos (by omega), if_neg (lt_f (y := 1) st 1 (by omega) z1), if_neg (le_f (x := 100) 100 st (by omega) (by decide)), if_pos (show nI (st % 2) = 0 by rw [y2]; rfl)]
          rfl
        · by_cases y3 : st % 5 = 0
          · rw [if_pos (by omega), if_neg (lt_f (y := 1) st 1 (by omega) z1), if_neg (le_f (x := 100) 100 st (by omega) (by decide)), if_neg (eq_f (y := 0) (st % 2) 0 y2 (by omega) (by decide)), if_pos (show nI (st % 5) = 0 by rw [y3]; rfl)]
            rfl
          · rcases nI_all i2 with x | ⟨sh, x1, rfl⟩
            · rw [if_pos (by exact Or.inr (Or.inr (Or.inr (Or.inr (Or.inr (Or.inl x)))))), if_neg (lt_f (y := 1) st 1 (by omega) z1), if_neg (le_f (x := 100) 100 st (by omega) (by decide)), if_neg (eq_f (y := 0) (st % 2) 0 y2 (by omega) (by decide)), if_neg (eq_f (y := 0) (st % 5) 0 y3 (by omega) (by decide)), if_pos x]
              rfl
            · rw [nI_cl x1]
              by_cases y4 : 100 ≤ sh
              · rw [if_pos (by omega), if_neg (lt_f (y := 1) st 1 (by omega) z1), if_neg (le_f (x := 100) 100 st (by omega) (by decide)), if_neg (eq_f (y := 0) (st % 2) 0 y2 (by omega) (by decide)), if_neg (eq_f (y := 0) (st % 5) 0 y3 (by omega) (by decide)), if_neg (nI_nn x1), if_neg (lt_f (y := 100) sh 100 y4 x1)]
                rfl
              · have w4 := hw.2.2.2.2.1
                have e := q_requirePhase (I := I) (J := J) (A := A) h hc.1 w4 3 (by decide)
                have e' : f_X3_requirePhase 1000 3 (cs I J A M) = if eS G 4 = 3 then some (.inr (), cs I J A M) else some (.inl "java/lang/IllegalStateException", cs I J A (nE M)) := e
                rw [if_neg (show ¬ (nI st < 0 ∨ st = 0 ∨ 100 ≤ st ∨ st % 2 = 0 ∨ st % 5 = 0 ∨ nI sh < 0 ∨ 100 ≤ sh) from fun q => by
                  have a1 := nI_nn z1
                  have a2 := nI_nn x1
                  rcases q with q | q | q | q | q | q | q
                  · exact a1 q
                  · exact y0 q
                  · exact y1 q
                  · exact y2 q
                  · exact y3 q
                  · exact a2 q
                  · exact y4 q), if_neg (lt_f (y := 1) st 1 (by omega) z1), if_neg (le_f (x := 100) 100 st (by omega) (by decide)), if_neg (eq_f (y := 0) (st % 2) 0 y2 (by omega) (by decide)), if_neg (eq_f (y := 0) (st % 5) 0 y3 (by omega) (by decide)), if_neg (nI_nn x1), if_pos (lt_t (y := 100) sh 100 (by omega) (by decide)), if_pos (show mK (cs I J A M) 1000 = 9 from h.1), e']
                by_cases y : eS G 4 = 3
                · rw [if_pos y, if_pos y]
                  show ∃ I' J' A', (pI 9 3 (cs I J A M) 1000 (nI st)).bind _ = _ ∧ _
                  rw [pI_cs 291 h.1, Option.bind_some, pI_cs 292 h.1, Option.bind_some, if_pos (show mK (cs _ J A M) 1000 = 9 from h.1)]
                  obtain ⟨I1, e1, f1⟩ := q_beginRound h hw hc (st := st) (sh := sh)
                  obtain ⟨I2, J2, A2, e2, f2⟩ := q_lay_64 h 4 zN 0 I1 J A (gBeg G st sh) (show st < 100 by omega) (show sh < 100 by omega) rfl (by decide) f1
                  rw [e1, Option.bind_some]
                  have e3 : nI (eS (gBeg G st sh) 6) - 1 = nI (eS G 6 % 4) := by
                    show nI (eS G 6 % 4 + 1) - 1 = _
                    rw [← nI_1]
                    grind
                  rw [e3] at e2
                  exact ⟨I2, J2, A2, e2, f2⟩
                · rw [if_neg y, if_neg y]
                  rfl
end LAY
