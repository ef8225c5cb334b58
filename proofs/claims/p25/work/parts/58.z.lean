/-! ===== PURE: how far a hand is, and what it waits for ===== -/
theorem pus_rep (q : Nat × Nat) (k : Nat) : ∀ m, pus (List.replicate m q) k = m * ptn q k := by
  intro m
  induction m with
  | zero => rw [Nat.zero_mul]; rfl
  | succ m ih =>
    rw [List.replicate_succ, pus, ih, Nat.succ_mul]
    omega
/-- the tiles of a part: its worth and one more -/
theorem ptn_v (l f j : Nat) : ptn (l, f) j = if j = l then ptk f 0 else if j = l + 1 then ptk f 1 else if j = l + 2 then ptk f 2 else 0 := by
  by_cases y0 : j = l
  · rw [y0, if_pos rfl, ptn_0]
  · rw [if_neg y0]
    by_cases y1 : j = l + 1
    · rw [y1, if_pos rfl, ptn_1]
    · rw [if_neg y1]
      by_cases y2 : j = l + 2
      · rw [y2, if_pos rfl, ptn_2]
      · rw [if_neg y2, ptn_o l f y0 y1 y2]
theorem ptn_sn {q : Nat × Nat} (h : pok q) : sn (ptn q) 0 25 = pvf q.2 + 1 := by
  have k0 : ∀ l, l < 25 → sn (ptn (l, 0)) 0 25 = 3 ∧ sn (ptn (l, 2)) 0 25 = 2 := by decide +kernel
  have k1 : ∀ l, l < 18 → l % 9 ≤ 6 → sn (ptn (l, 1)) 0 25 = 3 ∧ sn (ptn (l, 4)) 0 25 = 2 := by decide +kernel
  have k3 : ∀ l, l < 18 → l % 9 ≤ 7 → sn (ptn (l, 3)) 0 25 = 2 := by decide +kernel
  obtain ⟨l, f⟩ := q
  obtain ⟨p1, p2, p3, p4⟩ := h
  have p1 : f < 5 := p1
  rcases (show f = 0 ∨ f = 1 ∨ f = 2 ∨ f = 3 ∨ f = 4 by omega) with rfl | rfl | rfl | rfl | rfl
  · exact (k0 l p2).1
  · have r := p3 (Or.inl rfl)
    exact (k1 l (rw_lt r) (rw_9 r)).1
  · exact (k0 l p2).2
  · have r := p4 rfl
    exact k3 l r.1 r.2
  · have r := p3 (Or.inr rfl)
    exact (k1 l (rw_lt r) (rw_9 r)).2
theorem pus_sn : ∀ {L : List (Nat × Nat)}, (∀ q, q ∈ L → pok q) → sn (pus L) 0 25 = pvl L + L.length := by
  intro L
  induction L with
  | nil => exact fun _ => sn_0 _ 25 0 fun _ _ _ => rfl
  | cons q L ih =>
    intro h
    have e : pus (q :: L) = fun k => ptn q k + pus L k := rfl
    rw [e, sn_pl, ptn_sn (h q (List.mem_cons.mpr (Or.inl rfl))), ih (fun r hr => h r (List.mem_cons.mpr (Or.inr hr))), pvl, List.length_cons]
    omega
theorem pu_sn {h : Option Nat} (hl : ∀ l, h = some l → l < 25) : sn (pu h) 0 25 = 2 * pv h := by
  cases h with
  | none => exact sn_0 _ 25 0 fun _ _ _ => rfl
  | some l =>
    have hl := hl l rfl
    have e : pu (some l) = fun k => u1 (fun _ => 0) l 2 k := funext fun k => by
      unfold pu u1
      by_cases y : k = l
      · rw [y, if_pos rfl, if_pos rfl]
      · rw [if_neg y, if_neg (fun z => y (Option.some.inj z).symm)]
    have s := sn_u1 (fun _ => 0) l 2 25 0 (Nat.zero_le _) (by omega)
    have z := sn_0 (fun _ => 0) 25 0 fun _ _ _ => rfl
    rw [e]
    show sn (u1 (fun _ => 0) l 2) 0 25 = 2 * 1
    omega
theorem sn_ex {f g : Nat → Nat} : ∀ (d i : Nat), sn f i d < sn g i d → ∃ k, i ≤ k ∧ k < i + d ∧ f k < g k := by
  intro d
  induction d with
  | zero => exact fun i h => absurd h (Nat.lt_irrefl _)
  | succ d ih =>
    intro i h
    rw [sn, sn] at h
    by_cases y : f i < g i
    · exact ⟨i, Nat.le_refl _, by omega, y⟩
    · obtain ⟨k, k1, k2, k3⟩ := ih (i + 1) (by omega)
      exact ⟨k, by omega, by omega, k3⟩
section FARW
variable {n k v w : Nat} {g g' : Nat → Nat} {L : List (Nat × Nat)} {h : Option Nat}
/-- the tiles that the parts take -/
theorem OB.tiles (x : OB n 1 0 25 g L h) : sn (fun k => pus L k + pu h k) 0 25 = pvl L + L.length + 2 * pv h ∧ pvl L + L.length + 2 * pv h ≤ sn g 0 25 := by
  have e : sn (fun k => pus L k + pu h k) 0 25 = pvl L + L.length + 2 * pv h := by
    rw [sn_pl, pus_sn (fun q hq => (x.2.2.1 q hq).1), pu_sn (fun l hl => (x.2.2.2.1 l hl).2)]
  refine ⟨e, ?_⟩
  rw [← e]
  exact sn_lef 25 0 fun k _ hk => x.2.2.2.2 k (by omega)
theorem MB.mono (x : MB n 1 0 25 g v) (y : MB n 1 0 25 g' w) (z : ∀ k, k < 25 → g k ≤ g' k) : v ≤ w := by
  obtain ⟨⟨L, h, a, rfl⟩, -⟩ := x
  exact y.2 L h (a.gg z)
/-- one tile less -/
theorem OB.drop (x : OB n 1 0 25 g L h) (hk : k < 25) (h1 : 1 ≤ pus L k + pu h k) : ∃ L' h', OB n 1 0 25 (u1 g k (g k - 1)) L' h' ∧ pvl L + pv h ≤ pvl L' + pv h' + 1 := by
  have le : ∀ (L' : List (Nat × Nat)) (h' : Option Nat), (∀ j, j < 25 → pus L' j + pu h' j + (if j = k then 1 else 0) ≤ pus L j + pu h j) → ∀ j, j < 25 → pus L' j + pu h' j ≤ u1 g k (g k - 1) j := fun L' h' H j hj => by
    have a := H j hj
    have b := x.2.2.2.2 j hj
    by_cases y : j = k
    · rw [y, u1_at]
      rw [y, if_pos rfl] at a
      rw [y] at b
      omega
    · rw [u1_ne _ _ y]
      omega
  by_cases y : h = some k
  · subst y
    refine ⟨L, none, ⟨x.1, by decide, x.2.2.1, fun l hl => (by cases hl), le L none fun j _ => ?_⟩, ?_⟩
    · show pus L j + 0 + _ ≤ pus L j + pu (some k) j
      by_cases z : j = k
      · rw [if_pos z, z, pu_s]; omega
      · rw [if_neg z]; omega
    · exact Nat.le_refl _
  · have p0 : pu h k = 0 := if_neg y
    rw [p0, Nat.add_zero] at h1
    have ex : ∃ q, q ∈ L ∧ 1 ≤ ptn q k := by
      clear le x p0 y
      induction L with
      | nil => exact absurd h1 (by show ¬ 1 ≤ 0; decide)
      | cons q L ih =>
        by_cases z : 1 ≤ ptn q k
        · exact ⟨q, List.mem_cons.mpr (Or.inl rfl), z⟩
        · rw [pus] at h1
          obtain ⟨r, r1, r2⟩ := ih (by omega)
          exact ⟨r, List.mem_cons.mpr (Or.inr r1), r2⟩
    obtain ⟨q, q1, q2⟩ := ex
    obtain ⟨L', a, b, c, d⟩ := prm q1
    obtain ⟨po, -, -⟩ := x.2.2.1 q q1
    have hx := x.1
    by_cases f1 : q.2 ≤ 1
    · -- a set: what is left of it is a part
      have key : ∀ k, k < 25 → ∀ l, l < 25 → ∀ f, f < 2 → (f = 1 → rw_ l = true) → 1 ≤ ptn (l, f) k → ∃ l', l' < 25 ∧ ∃ f', f' < 5 ∧ 2 ≤ f' ∧ (f' = 4 → rw_ l' = true) ∧ (f' = 3 → l' < 18 ∧ l' % 9 ≤ 7) ∧ ∀ j, j < 25 → ptn (l', f') j + (if j = k then 1 else 0) ≤ ptn (l, f) j := by
        intro k hk l hl f hf hr h1
        rcases (show f = 0 ∨ f = 1 by omega) with rfl | rfl
        · have e : k = l := by
            refine Classical.byContradiction fun z => ?_
            have : ptn (l, 0) k = 0 := by
              rw [ptn_v, if_neg z]
              show (if k = l + 1 then 0 else if k = l + 2 then 0 else 0) = 0
              repeat' split
              all_goals rfl
            omega
          subst e
          refine ⟨k, hk, 2, by decide, by decide, fun z => absurd z (by decide), fun z => absurd z (by decide), fun j _ => ?_⟩
          rw [ptn_v, ptn_v]
          show (if j = k then 2 else if j = k + 1 then 0 else if j = k + 2 then 0 else 0) + (if j = k then 1 else 0) ≤ (if j = k then 3 else if j = k + 1 then 0 else if j = k + 2 then 0 else 0)
          repeat' split
          all_goals omega
        · have r := hr rfl
          have r1 := rw_lt r
          have r2 := rw_9 r
          have e : k = l ∨ k = l + 1 ∨ k = l + 2 := by
            refine Classical.byContradiction fun z => ?_
            have : ptn (l, 1) k = 0 := ptn_o l 1 (by omega) (by omega) (by omega)
            omega
          rcases e with e | e | e
          · refine ⟨l + 1, by omega, 3, by decide, by decide, fun z => absurd z (by decide), fun _ => ⟨by omega, by omega⟩, fun j _ => ?_⟩
            rw [ptn_v, ptn_v]
            show (if j = (l + 1) then 1 else if j = (l + 1) + 1 then 1 else if j = (l + 1) + 2 then 0 else 0) + (if j = k then 1 else 0) ≤ (if j = l then 1 else if j = l + 1 then 1 else if j = l + 2 then 1 else 0)
            repeat' split
            all_goals omega
          · refine ⟨l, hl, 4, by decide, by decide, fun _ => r, fun z => absurd z (by decide), fun j _ => ?_⟩
            rw [ptn_v, ptn_v]
            show (if j = l then 1 else if j = l + 1 then 0 else if j = l + 2 then 1 else 0) + (if j = k then 1 else 0) ≤ (if j = l then 1 else if j = l + 1 then 1 else if j = l + 2 then 1 else 0)
            repeat' split
            all_goals omega
          · refine ⟨l, hl, 3, by decide, by decide, fun z => absurd z (by decide), fun _ => ⟨by omega, by omega⟩, fun j _ => ?_⟩
            rw [ptn_v, ptn_v]
            show (if j = l then 1 else if j = l + 1 then 1 else if j = l + 2 then 0 else 0) + (if j = k then 1 else 0) ≤ (if j = l then 1 else if j = l + 1 then 1 else if j = l + 2 then 1 else 0)
            repeat' split
            all_goals omega
      obtain ⟨l', l1, f', f1', f2, f3, f4, f5⟩ := key k hk q.1 po.2.1 q.2 (by omega) (fun z => po.2.2.1 (Or.inl z)) q2
      refine ⟨(l', f') :: L', h, ⟨by rw [List.length_cons]; omega, x.2.1, fun r hr => ?_, x.2.2.2.1, le _ h fun j hj => ?_⟩, ?_⟩
      · rcases List.mem_cons.mp hr with rfl | hr
        · exact ⟨⟨f1', l1, fun z => f3 (z.resolve_left (by show ¬ f' = 1; omega)), f4⟩, Nat.zero_le _, l1⟩
        · exact x.2.2.1 r (d r hr)
      · have w1 := f5 j hj
        have w2 : pus L j = ptn (q.1, q.2) j + pus L' j := b j
        rw [pus]
        omega
      · rw [a, pvl]
        have := pvf_le q.2
        have : pvf f' = 1 := if_neg (by omega)
        show _ ≤ pvf f' + pvl L' + pv h + 1
        omega
    · refine ⟨L', h, ⟨by omega, x.2.1, fun r hr => x.2.2.1 r (d r hr), x.2.2.2.1, le _ h fun j _ => ?_⟩, ?_⟩
      · have := b j
        by_cases z : j = k
        · rw [if_pos z]
          rw [z] at this ⊢
          omega
        · rw [if_neg z]
          omega
      · rw [a]
        have : pvf q.2 = 1 := if_neg f1
        omega
theorem MB.one (x : MB n 1 0 25 g v) (hk : k < 25) (y : MB n 1 0 25 (u1 g k (g k + 1)) w) : w ≤ v + 1 := by
  obtain ⟨⟨L, h, a, rfl⟩, -⟩ := y
  by_cases z : 1 ≤ pus L k + pu h k
  · obtain ⟨L', h', b, c⟩ := a.drop hk z
    have e : u1 (u1 g k (g k + 1)) k (u1 g k (g k + 1) k - 1) = g := funext fun j => by
      by_cases y : j = k
      · rw [y, u1_at, u1_at]; omega
      · rw [u1_ne _ _ y, u1_ne _ _ y]
    rw [e] at b
    have := x.2 L' h' b
    omega
  · have b : OB n 1 0 25 g L h := ⟨a.1, a.2.1, a.2.2.1, a.2.2.2.1, fun j hj => by
      have := a.2.2.2.2 j hj
      by_cases y : j = k
      · rw [y]; omega
      · rw [u1_ne _ _ y] at this; exact this⟩
    have := x.2 L h b
    omega
/-- with eleven tiles: one can go, and it is as near -/
theorem MB.keep (x : MB n 1 0 25 g v) (hs : sn g 0 25 = 3 * n + 2) (hv : v ≠ 2 * n + 1) : ∃ k, k < 25 ∧ g k ≠ 0 ∧ MB n 1 0 25 (u1 g k (g k - 1)) v := by
  obtain ⟨⟨L, h, a, rfl⟩, b⟩ := x
  have t := a.tiles
  have p1 := pvl_le L
  have p2 := pv_le h
  have l1 := a.1
  obtain ⟨k, -, k2, k3⟩ := sn_ex (f := fun k => pus L k + pu h k) (g := g) 25 0 (by rw [t.1]; omega)
  have k2 : k < 25 := by omega
  refine ⟨k, k2, by omega, ⟨L, h, ⟨a.1, a.2.1, a.2.2.1, a.2.2.2.1, fun j hj => ?_⟩, rfl⟩, fun L2 h2 y => b L2 h2 (y.gg fun j hj => ?_)⟩
  · by_cases y : j = k
    · rw [y, u1_at]; omega
    · rw [u1_ne _ _ y]; exact a.2.2.2.2 j hj
  · by_cases y : j = k
    · rw [y, u1_at]; omega
    · rw [u1_ne _ _ y]; exact Nat.le_refl _
/-- with ten tiles it isn't complete -/
theorem MB.ten (x : MB n 1 0 25 g v) (hs : sn g 0 25 = 3 * n + 1) : v ≤ 2 * n := by
  obtain ⟨⟨L, h, a, rfl⟩, -⟩ := x
  have t := a.tiles
  have p1 := pvl_le L
  have p2 := pv_le h
  have l1 := a.1
  omega
/-- sets out of what is threes and rows -/
theorem ris_L : ∀ (d i : Nat) (g : Nat → Nat), i + d = 25 → ris d i g = true → ∃ L, (∀ q, q ∈ L → pok q ∧ q.2 ≤ 1 ∧ i ≤ q.1) ∧ ∀ k, i ≤ k → k < 25 → pus L k = g k := by
  intro d
  induction d with
  | zero => exact fun i g hi _ => ⟨[], fun q hq => absurd hq List.not_mem_nil, fun k h1 h2 => by omega⟩
  | succ d ih =>
    intro i g hi hr
    have mk : ∀ (r : Nat) (L' : List (Nat × Nat)), (r ≠ 0 → rw_ i = true) → (∀ q, q ∈ L' → pok q ∧ q.2 ≤ 1 ∧ i + 1 ≤ q.1) → g i = 3 * (g i / 3) + r → (∀ k, i + 1 ≤ k → k < 25 → pus L' k + (if k = i + 1 ∨ k = i + 2 then r else 0) = g k) → ∃ L, (∀ q, q ∈ L → pok q ∧ q.2 ≤ 1 ∧ i ≤ q.1) ∧ ∀ k, i ≤ k → k < 25 → pus L k = g k := fun r L' h1 h2 h3 h4 => by
      refine ⟨List.replicate r (i, 1) ++ (List.replicate (g i / 3) (i, 0) ++ L'), fun q hq => ?_, fun k k1 k2 => ?_⟩
      · rcases List.mem_append.mp hq with hq | hq
        · obtain ⟨m, rfl⟩ := List.mem_replicate.mp hq
          exact ⟨⟨(show (1 : Nat) < 5 by decide), (show i < 25 by omega), fun _ => h1 m, fun z => absurd z (show ¬ (1 : Nat) = 3 by decide)⟩, Nat.le_refl _, Nat.le_refl _⟩
        · rcases List.mem_append.mp hq with hq | hq
          · obtain ⟨m, rfl⟩ := List.mem_replicate.mp hq
            exact ⟨⟨(show (0 : Nat) < 5 by decide), (show i < 25 by omega), fun z => z.elim (fun z => absurd z (show ¬ (0 : Nat) = 1 by decide)) (fun z => absurd z (show ¬ (0 : Nat) = 4 by decide)), fun z => absurd z (show ¬ (0 : Nat) = 3 by decide)⟩, Nat.zero_le _, Nat.le_refl _⟩
          · obtain ⟨a, b, c⟩ := h2 q hq
            exact ⟨a, b, by omega⟩
      · rw [pus_ap, pus_ap, pus_rep, pus_rep]
        by_cases y0 : k = i
        · subst y0
          rw [pus_lo (s := k + 1) (by omega) (fun q hq => (h2 q hq).2.2), ptn_0, ptn_0]
          show r * 1 + (g k / 3 * 3 + 0) = g k
          omega
        · have e4 := h4 k (by omega) k2
          have z0 : ptn (i, 0) k = 0 := by
            rw [ptn_v, if_neg y0]
            show (if k = i + 1 then 0 else if k = i + 2 then 0 else 0) = 0
            repeat' split
            all_goals rfl
          rw [z0, Nat.mul_zero]
          by_cases y : k = i + 1 ∨ k = i + 2
          · rw [if_pos y] at e4
            have z1 : ptn (i, 1) k = 1 := by
              rcases y with rfl | rfl
              · rw [ptn_1]; rfl
              · rw [ptn_2]; rfl
            rw [z1]
            omega
          · rw [if_neg y] at e4
            rw [ptn_o i 1 y0 (fun z => y (Or.inl z)) (fun z => y (Or.inr z)), Nat.mul_zero]
            omega
    rw [ris] at hr
    by_cases z : g i % 3 = 0
    · rw [if_pos z] at hr
      obtain ⟨L', a, b⟩ := ih (i + 1) g (by omega) hr
      refine mk 0 L' (fun z => absurd rfl z) a (by omega) fun k k1 k2 => ?_
      rw [b k k1 k2]
      split <;> omega
    · rw [if_neg z] at hr
      by_cases y : rw_ i = false ∨ g (i + 1) < g i % 3 ∨ g (i + 2) < g i % 3
      · rw [if_pos y] at hr
        cases hr
      · rw [if_neg y] at hr
        have r1 : rw_ i = true := by cases hx : rw_ i; exact absurd (Or.inl hx) y; rfl
        have r2 : ¬ g (i + 1) < g i % 3 := fun q => y (Or.inr (Or.inl q))
        have r3 : ¬ g (i + 2) < g i % 3 := fun q => y (Or.inr (Or.inr q))
        obtain ⟨L', a, b⟩ := ih (i + 1) _ (by omega) hr
        refine mk (g i % 3) L' (fun _ => r1) a (by omega) fun k k1 k2 => ?_
        rw [b k k1 k2]
        by_cases u2 : k = i + 2
        · rw [u2, u1_at, if_pos (Or.inr rfl)]
          omega
        · rw [u1_ne _ _ u2]
          by_cases u1' : k = i + 1
          · rw [u1', u1_at, if_pos (Or.inl rfl)]
            omega
          · rw [u1_ne _ _ u1', if_neg (fun q => q.elim u1' u2)]
            omega
def cnp : List (Nat × Nat) → Nat → Nat → Nat
  | [], _, _ => 0
  | q :: L, f, k => (if q = (k, f) then 1 else 0) + cnp L f k
theorem cnp_0 {f k : Nat} : ∀ {L : List (Nat × Nat)}, cnp L f k ≠ 0 → (k, f) ∈ L := by
  intro L
  induction L with
  | nil => exact fun z => absurd rfl z
  | cons q L ih =>
    intro z
    by_cases y : q = (k, f)
    · rw [y]; exact List.mem_cons.mpr (Or.inl rfl)
    · rw [cnp, if_neg y, Nat.zero_add] at z
      exact List.mem_cons.mpr (Or.inr (ih z))
theorem pr_pl (r : Nat → Nat) (l k : Nat) : pr (fun j => (if l = j then 1 else 0) + r j) k = ptn (l, 1) k + pr r k := by
  have e : ptn (l, 1) k = if k = l then 1 else if k = l + 1 then 1 else if k = l + 2 then 1 else 0 := ptn_v l 1 k
  rw [e]
  show ((if l = k then 1 else 0) + r k) + (if 1 ≤ k then (if l = k - 1 then 1 else 0) + r (k - 1) else 0) + (if 2 ≤ k then (if l = k - 2 then 1 else 0) + r (k - 2) else 0) = (if k = l then 1 else if k = l + 1 then 1 else if k = l + 2 then 1 else 0) + (r k + (if 1 ≤ k then r (k - 1) else 0) + (if 2 ≤ k then r (k - 2) else 0))
  generalize r k = a
  generalize r (k - 1) = b
  generalize r (k - 2) = c
  by_cases h1 : 1 ≤ k
  · rw [if_pos h1, if_pos h1]
    by_cases h2 : 2 ≤ k
    · rw [if_pos h2, if_pos h2]
      repeat' split
      all_goals omega
    · rw [if_neg h2, if_neg h2]
      repeat' split
      all_goals omega
  · rw [if_neg h1, if_neg h1, if_neg (show ¬ 2 ≤ k by omega), if_neg (show ¬ 2 ≤ k by omega)]
    repeat' split
    all_goals omega
theorem pus_cnp (k : Nat) : ∀ {L : List (Nat × Nat)}, (∀ q, q ∈ L → q.2 ≤ 1) → pus L k = 3 * cnp L 0 k + pr (cnp L 1) k := by
  intro L
  induction L with
  | nil =>
    intro _
    have e : cnp [] 1 = fun _ => 0 := rfl
    rw [e]
    unfold pr
    show 0 = 3 * 0 + (0 + (if 1 ≤ k then 0 else 0) + (if 2 ≤ k then 0 else 0))
    repeat' split
    all_goals rfl
  | cons q L ih =>
    intro h
    have i := ih fun r hr => h r (List.mem_cons.mpr (Or.inr hr))
    obtain ⟨l, f⟩ := q
    have hf : f ≤ 1 := h (l, f) (List.mem_cons.mpr (Or.inl rfl))
    have c : ∀ a b, cnp ((l, f) :: L) a b = (if (l, f) = (b, a) then 1 else 0) + cnp L a b := fun _ _ => rfl
    rcases (show f = 0 ∨ f = 1 by omega) with rfl | rfl
    · have e1 : cnp ((l, 0) :: L) 1 = cnp L 1 := funext fun j => by
        rw [c, if_neg (fun z => absurd (congrArg Prod.snd z) (show ¬ (0 : Nat) = 1 by decide)), Nat.zero_add]
      have e0 : ptn (l, 0) k = if k = l then 3 else 0 := by
        rw [ptn_v]
        show (if k = l then 3 else if k = l + 1 then 0 else if k = l + 2 then 0 else 0) = _
        repeat' split
        all_goals rfl
      rw [pus, i, e1, c, e0]
      by_cases y : k = l
      · rw [if_pos y, if_pos (by rw [y])]
        omega
      · rw [if_neg y, if_neg (fun z => y (congrArg Prod.fst z).symm)]
        omega
    · have e1 : cnp ((l, 1) :: L) 1 = fun j => (if l = j then 1 else 0) + cnp L 1 j := funext fun j => by
        rw [c]
        by_cases y : l = j
        · rw [if_pos y, if_pos (by rw [y])]
        · rw [if_neg y, if_neg (fun z => y (congrArg Prod.fst z))]
      rw [pus, i, e1, pr_pl, c, if_neg (fun z => absurd (congrArg Prod.snd z) (show ¬ (1 : Nat) = 0 by decide))]
      omega
/-- complete: the most that there is -/
theorem cmp_MB (hs : sn g 0 25 = 3 * n + 2) : cmp 25 0 g = true ↔ MB n 1 0 25 g (2 * n + 1) := by
  rw [cmp_iff 25 0 g rfl]
  constructor
  · rintro ⟨p, -, p2, p3, p4⟩
    obtain ⟨L, a, b⟩ := ris_L 25 0 _ rfl ((ris_iff 25 0 _ rfl).mpr p4)
    have s1 := sn_u1 g p (g p - 2) 25 0 (Nat.zero_le _) (by omega)
    have s2 := pus_sn (L := L) (fun q hq => (a q hq).1)
    have s3 : sn (pus L) 0 25 = sn (u1 g p (g p - 2)) 0 25 := sn_eq 25 0 fun k h1 h2 => b k h1 (by omega)
    have s4 : pvl L = 2 * L.length := by
      clear s1 s2 s3 b p4
      induction L with
      | nil => rfl
      | cons q L ih =>
        have e : pvf q.2 = 2 := if_pos (a q (List.mem_cons.mpr (Or.inl rfl))).2.1
        rw [pvl, e, ih (fun r hr => a r (List.mem_cons.mpr (Or.inr hr))), List.length_cons]
        omega
    refine ⟨⟨L, some p, ⟨by omega, Nat.le_refl 1, fun q hq => ⟨(a q hq).1, Nat.zero_le _, (a q hq).1.2.1⟩, fun l hl => (by cases hl; exact ⟨Nat.zero_le _, p2⟩), fun k hk => ?_⟩, ?_⟩, fun L2 h2 x => x.le⟩
    · rw [b k (Nat.zero_le _) hk]
      by_cases y : k = p
      · rw [y, u1_at, pu_s]; omega
      · rw [u1_ne _ _ y, pu_o (fun l hl => (by cases hl; exact fun z => y z.symm))]
        exact Nat.le_refl _
    · show pvl L + 1 = 2 * n + 1
      omega
  · rintro ⟨⟨L, h, a, b⟩, -⟩
    have t := a.tiles
    have p1 := pvl_le L
    have p2 := pv_le h
    have l1 := a.1
    cases h with
    | none => exact absurd b (by show ¬ pvl L + 0 = _; omega)
    | some p =>
      have hp := (a.2.2.2.1 p rfl).2
      have pe : pv (some p) = 1 := rfl
      have fu : ∀ q, q ∈ L → q.2 ≤ 1 := fun q hq => Classical.byContradiction fun z => by
        obtain ⟨L', c, -, d, -⟩ := prm hq
        have := pvl_le L'
        have : pvf q.2 = 1 := if_neg z
        omega
      have eq : ∀ k, k < 25 → pus L k + pu (some p) k = g k := fun k hk => Classical.byContradiction fun z => by
        have lt : pus L k + pu (some p) k < g k := Nat.lt_of_le_of_ne (a.2.2.2.2 k hk) z
        have u : sn (u1 (fun k => pus L k + pu (some p) k) k (g k)) 0 25 + (pus L k + pu (some p) k) = sn (fun k => pus L k + pu (some p) k) 0 25 + g k := sn_u1 (fun k => pus L k + pu (some p) k) k (g k) 25 0 (Nat.zero_le _) (by omega)
        have w : sn (u1 (fun k => pus L k + pu (some p) k) k (g k)) 0 25 ≤ sn g 0 25 := sn_lef 25 0 fun j _ hj => by
          by_cases y : j = k
          · rw [y, u1_at]; exact Nat.le_refl _
          · rw [u1_ne _ _ y]; exact a.2.2.2.2 j (by omega)
        have t1 := t.1
        omega
      refine ⟨p, Nat.zero_le _, hp, ?_, cnp L 1, fun j hj => ?_, fun k _ hk => ⟨cnp L 0 k, ?_⟩⟩
      · have := eq p hp
        rw [pu_s] at this
        omega
      · have m := cnp_0 hj
        exact ⟨(a.2.2.1 _ m).1.2.2.1 (Or.inl rfl), Nat.zero_le _⟩
      · have e1 := eq k hk
        have e2 := pus_cnp k fu
        by_cases y : k = p
        · rw [y, u1_at]
          rw [y] at e1 e2
          rw [pu_s] at e1
          omega
        · rw [u1_ne _ _ y]
          rw [pu_o (fun l hl => (by cases hl; exact fun z => y z.symm))] at e1
          omega
/-- ten tiles: it waits for something, or it isn't as near -/
theorem wait_MB (hs : sn g 0 25 = 3 * n + 1) (x : MB n 1 0 25 g v) : v = 2 * n ↔ ∃ k, k < 25 ∧ cmp 25 0 (u1 g k (g k + 1)) = true := by
  have s1 : ∀ k, k < 25 → sn (u1 g k (g k + 1)) 0 25 = 3 * n + 2 := fun k hk => by
    have := sn_u1 g k (g k + 1) 25 0 (Nat.zero_le _) (by omega)
    omega
  constructor
  · intro hv
    obtain ⟨⟨L, h, a, b⟩, -⟩ := x
    have t := a.tiles
    have p1 := pvl_le L
    have p2 := pv_le h
    have l1 := a.1
    have fin : ∀ (k : Nat) (L' : List (Nat × Nat)) (h' : Option Nat), k < 25 → OB n 1 0 25 (u1 g k (g k + 1)) L' h' → pvl L' + pv h' = 2 * n + 1 → ∃ k, k < 25 ∧ cmp 25 0 (u1 g k (g k + 1)) = true := fun k L' h' hk o e => ⟨k, hk, (cmp_MB (s1 k hk)).mpr ⟨⟨L', h', o, e⟩, fun L2 h2 y => y.le⟩⟩
    cases h with
    | none =>
      have pe : pv (none : Option Nat) = 0 := rfl
      obtain ⟨k, -, k2, k3⟩ := sn_ex (f := fun k => pus L k + pu none k) (g := g) 25 0 (by rw [t.1]; omega)
      have k2 : k < 25 := by omega
      have k3 : pus L k + 0 < g k := k3
      refine fin k L (some k) k2 ⟨a.1, Nat.le_refl 1, a.2.2.1, fun l hl => (by cases hl; exact ⟨Nat.zero_le _, k2⟩), fun j hj => ?_⟩ (by show pvl L + 1 = _; omega)
      have aj : pus L j + 0 ≤ g j := a.2.2.2.2 j hj
      by_cases y : j = k
      · rw [y, u1_at, pu_s]; omega
      · rw [u1_ne _ _ y, pu_o (fun l hl => (by cases hl; exact fun z => y z.symm))]
        exact aj
    | some p =>
      have pe : pv (some p) = 1 := rfl
      have ex : ∃ q, q ∈ L ∧ ¬ q.2 ≤ 1 := Classical.byContradiction fun z => by
        have : pvl L = 2 * L.length := by
          have z' : ∀ q, q ∈ L → q.2 ≤ 1 := fun q hq => Classical.byContradiction fun w => z ⟨q, hq, w⟩
          clear z t p1 p2 l1 b a fin
          induction L with
          | nil => rfl
          | cons q L ih =>
            have e : pvf q.2 = 2 := if_pos (z' q (List.mem_cons.mpr (Or.inl rfl)))
            rw [pvl, e, ih (fun r hr => z' r (List.mem_cons.mpr (Or.inr hr))), List.length_cons]
            omega
        omega
      obtain ⟨q, q1, q2⟩ := ex
      obtain ⟨L', c1, c2, c3, c4⟩ := prm q1
      obtain ⟨po, -, -⟩ := a.2.2.1 q q1
      have key : ∀ l, l < 25 → ∀ f, f < 5 → 2 ≤ f → (f = 4 → rw_ l = true) → (f = 3 → l < 18 ∧ l % 9 ≤ 7) → ∃ k, k < 25 ∧ ∃ l', l' < 25 ∧ ∃ f', f' < 2 ∧ (f' = 1 → rw_ l' = true) ∧ ∀ j, j < 25 → ptn (l', f') j ≤ ptn (l, f) j + (if j = k then 1 else 0) := by
        intro l hl f hf hf2 h4 h3
        rcases (show f = 2 ∨ f = 3 ∨ f = 4 by omega) with rfl | rfl | rfl
        · refine ⟨l, hl, l, hl, 0, by decide, fun z => absurd z (by decide), fun j _ => ?_⟩
          rw [ptn_v, ptn_v]
          show (if j = l then 3 else if j = l + 1 then 0 else if j = l + 2 then 0 else 0) ≤ (if j = l then 2 else if j = l + 1 then 0 else if j = l + 2 then 0 else 0) + (if j = l then 1 else 0)
          repeat' split
          all_goals omega
        · obtain ⟨a1, a2⟩ := h3 rfl
          by_cases y : l % 9 ≤ 6
          · refine ⟨l + 2, by omega, l, hl, 1, by decide, fun _ => decide_eq_true ⟨a1, y⟩, fun j _ => ?_⟩
            rw [ptn_v, ptn_v]
            show (if j = l then 1 else if j = l + 1 then 1 else if j = l + 2 then 1 else 0) ≤ (if j = l then 1 else if j = l + 1 then 1 else if j = l + 2 then 0 else 0) + (if j = l + 2 then 1 else 0)
            repeat' split
            all_goals omega
          · refine ⟨l - 1, by omega, l - 1, by omega, 1, by decide, fun _ => decide_eq_true ⟨by omega, by omega⟩, fun j _ => ?_⟩
            rw [ptn_v, ptn_v]
            show (if j = l - 1 then 1 else if j = l - 1 + 1 then 1 else if j = l - 1 + 2 then 1 else 0) ≤ (if j = l then 1 else if j = l + 1 then 1 else if j = l + 2 then 0 else 0) + (if j = l - 1 then 1 else 0)
            repeat' split
            all_goals omega
        · have r := h4 rfl
          have r1 := rw_lt r
          have r2 := rw_9 r
          refine ⟨l + 1, by omega, l, hl, 1, by decide, fun _ => r, fun j _ => ?_⟩
          rw [ptn_v, ptn_v]
          show (if j = l then 1 else if j = l + 1 then 1 else if j = l + 2 then 1 else 0) ≤ (if j = l then 1 else if j = l + 1 then 0 else if j = l + 2 then 1 else 0) + (if j = l + 1 then 1 else 0)
          repeat' split
          all_goals omega
      obtain ⟨k, hk, l', l1', f', f1, f2, f3⟩ := key q.1 po.2.1 q.2 po.1 (by omega) (fun z => po.2.2.1 (Or.inr z)) po.2.2.2
      have v1 : pvf q.2 = 1 := if_neg q2
      have v2 : pvf f' = 2 := if_pos (by omega)
      refine fin k ((l', f') :: L') (some p) hk ⟨by rw [List.length_cons]; omega, a.2.1, fun r hr => ?_, a.2.2.2.1, fun j hj => ?_⟩ ?_
      · rcases List.mem_cons.mp hr with rfl | hr
        · exact ⟨⟨by show f' < 5; omega, l1', fun z => f2 (z.resolve_right (by show ¬ f' = 4; omega)), fun z => absurd z (by show ¬ f' = 3; omega)⟩, Nat.zero_le _, l1'⟩
        · exact a.2.2.1 r (c4 r hr)
      · have e1 := f3 j hj
        have e2 : pus L j = ptn (q.1, q.2) j + pus L' j := c2 j
        have e3 := a.2.2.2.2 j hj
        rw [pus]
        by_cases y : j = k
        · rw [y, u1_at]
          rw [y] at e1 e2 e3
          rw [if_pos rfl] at e1
          omega
        · rw [u1_ne _ _ y]
          rw [if_neg y] at e1
          omega
      · show pvf f' + pvl L' + pv (some p) = 2 * n + 1
        omega
  · rintro ⟨k, hk, c⟩
    have m := (cmp_MB (s1 k hk)).mp c
    have a := x.one hk m
    have b := x.ten hs
    omega
end FARW

