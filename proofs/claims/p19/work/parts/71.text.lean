/-! ===== PURE: the class's lead and hand ===== -/
/-- the class's own places, and those ahead of the law, lie as they lay -/
def LO (M M' : zM) : Prop := mX M ≤ mX M' ∧ ∀ b, b < 1026 → SR M M' b
section LOW
variable {M M' M0 : zM} {G : zG}
theorem LO.km {c s : Nat} (h : KM c s M M') (hX : 1026 ≤ mX M) : LO M M' := ⟨h.1.1, fun b hb => h.2 b (by omega)⟩
theorem TX.lo (h : TX M) (l : LO M M') : TX M' := by
  have kk := fun b hb => l.2 b hb
  refine ⟨⟨(kk 6 (by decide)).1.trans h.1.1, (kk 6 (by decide)).2.1.trans h.1.2⟩, fun x hx => ?_⟩
  obtain ⟨t1, t2, t3, t4, t5⟩ := h.2 x hx
  have y1 := kk x (by omega)
  have y2 := kk (20 + x) (by omega)
  exact ⟨y1.1.trans t1, (y1.2.2.2.2.1 32).trans t2, (y1.2.2.1 33).trans t3, y2.1.trans t4, y2.2.1.trans t5⟩
theorem SE.lo {a t s r : Nat} (h : SE M a t s r) (l : LO M M') (ha : a < 1026) (ht : t < 1026) (hs : s < 1026) (hr : r < 1026) : SE M' a t s r := by
  obtain ⟨h1, h2, h3, h4, ⟨h5, h6⟩, ⟨h7, h8⟩, h9, h10⟩ := h
  have ka := l.2 a ha
  have kt := l.2 t ht
  have ks := l.2 s hs
  have kr := l.2 r hr
  exact ⟨ka.1.trans h1, (ka.2.2.2.2.1 _).trans h2, (ka.2.2.2.2.1 _).trans h3, (ka.2.2.2.2.1 _).trans h4, ⟨kt.1.trans h5, kt.2.1.trans h6⟩, ⟨ks.1.trans h7, ks.2.1.trans h8⟩, kr.1.trans h9, kr.2.1.trans h10⟩
theorem CSH.lo (h : CSH M) (l : LO M M') : CSH M' := by
  obtain ⟨h1, h2, h3, h4, ⟨h5, h6, h7⟩, ⟨p1, p2, p3, p4, p5, p6, ⟨p7, p8⟩, p9, p10⟩, ⟨h8, h9, h10, h11⟩, h12, h13⟩ := h
  have ka := l.2 1000 (by decide)
  have kb := l.2 1001 (by decide)
  have kc := l.2 1002 (by decide)
  have kd := l.2 1003 (by decide)
  have ke := l.2 1008 (by decide)
  have kf := l.2 1009 (by decide)
  refine ⟨ka.1.trans h1, (ka.2.2.2.2.1 _).trans h2, (ka.2.2.2.2.1 _).trans h3, (ka.2.2.2.2.1 _).trans h4, ⟨kb.1.trans h5, kb.2.1.trans h6, fun p hp => ?_⟩, ⟨kc.1.trans p1, (kc.2.2.2.2.1 _).trans p2, (kc.2.2.2.2.1 _).trans p3, (kc.2.2.2.2.1 _).trans p4, (kc.2.2.2.2.1 _).trans p5, (kc.2.2.2.2.1 _).trans p6, ⟨kd.1.trans p7, kd.2.1.trans p8⟩, fun i i1 i2 => ?_, p10⟩, ⟨ke.1.trans h8, (ke.2.2.2.2.1 _).trans h9, kf.1.trans h10, kf.2.1.trans h11⟩, fun p hp => (h12 p hp).lo l (by omega) (by omega) (by omega) (by omega), fun b b1 b2 => ?_⟩
  · rw [kb.2.2.2.2.2.2]
    exact h7 p hp
  · have ki := l.2 (1003 + i) (by omega)
    exact ⟨ki.1.trans (p9 i i1 i2).1, ki.2.1.trans (p9 i i1 i2).2⟩
  · have ki := l.2 b (by omega)
    exact ⟨ki.1.trans (h13 b b1 b2).1, ki.2.1.trans (h13 b b1 b2).2⟩
theorem CR.lo (h : CSH M) (hw : WF G) (hc : CR (mI M) (mJ M) (mA M) G) (l : LO M M') : CR (mI M') (mJ M') (mA M') G := by
  obtain ⟨⟨s1, s2, s3, s4, s5, s6, s7, s8, s9, s10⟩, hp⟩ := hc
  have ka := (l.2 1000 (by decide)).2.2.1
  refine ⟨⟨(ka _).trans s1, (ka _).trans s2, (ka _).trans s3, (ka _).trans s4, (ka _).trans s5, (ka _).trans s6, by rw [ka]; exact s7, (ka _).trans s8, by rw [ka]; exact s9, (ka _).trans s10⟩, fun p hp4 => ?_⟩
  obtain ⟨d1, d2, d3, d4, d5, d6, d7⟩ := hp p hp4
  obtain ⟨v1, v2, v3, v4⟩ := hw.2.2.2.2.2.2.2.2.2.2 p hp4
  have hs := h.2.2.2.2.2.2.2.1 p hp4
  have k0 := l.2 (1010 + 4 * p) (by omega)
  have k1 := (l.2 (1011 + 4 * p) (by omega)).2.2.2.2.2.1
  have k2 := (l.2 (1012 + 4 * p) (by omega)).2.2.2.2.2.1
  have k3 := (l.2 (1013 + 4 * p) (by omega)).2.2.2.2.2.1
  have l1 := hs.2.2.2.2.1.2
  have l2 := hs.2.2.2.2.2.1.2
  have l3 := hs.2.2.2.2.2.2.2
  exact ⟨fun k hk => (k1 k (by omega)).trans (d1 k hk), (k0.2.2.1 _).trans d2, fun j hj => (k2 j (by omega)).trans (d3 j hj), (k0.2.2.1 _).trans d4, fun j hj => (k3 j (by omega)).trans (d5 j hj), (k0.2.2.2.1 _).trans d6, (k0.2.2.1 _).trans d7⟩
end LOW
section CLEAD
variable {I : Nat → Nat → Int32} {J : Nat → Nat → Int64} {A : Nat → Nat → Int32} {M : zM}
theorem q_lead (h : CSH M) (i : Int32) : (∃ v, f_X3_lead 1000 i (cs I J A M) = some (.inr v, cs I J A M)) ∨ ∃ v, f_X3_lead 1000 i (cs I J A M) = some (.inl v, cs I J A (nE M)) := by
  unfold f_X3_lead f_X3_lead_0
  rcases q_pl i (cs I J A M) with ⟨p, hp, rfl, e⟩ | e
  · rw [e]
    obtain ⟨z, e2⟩ := q_fourLeads (I := I) (J := J) (A := A) h hp
    refine Or.inl ⟨FP.ddiv (FP.i2d z) (4616189618054758400 : UInt64), ?_⟩
    show (if mK (cs I J A M) 1000 = 9 then (f_X3_fourLeads 1000 (nI p) (cs I J A M)).bind _ else none) = _
    rw [if_pos (show mK (cs I J A M) 1000 = 9 from h.1), e2, Option.bind_some]
    dsimp only
    rw [if_pos (z_div4 z)]
  · rw [e]
    exact Or.inr ⟨_, rfl⟩
end CLEAD
section CHAND
variable {M0 M : zM} {G : zG} {c : Nat}
theorem nI_sub1 (m : Nat) : nI (m + 1) - (1 : Int32) = nI m := (Int32.sub_eq_add_neg _ _).trans (pk_m1 m)
theorem w_28 (ht : TX M0) (hX : 1026 ≤ mX M0) {d : Nat} (hd : d < 10) {K : Nat → Nat → Int32 → Int32 → Int32 → Int32 → zM → Option (Unit × zM)} {a1 : Nat} {i2 i3 i4 : Int32} : ∀ (j n c : Nat) (M : zM), j < n → c + j < 16 → BS M0 M c → ∃ M', f_X3_writeSuit_28 K n (mX M0) a1 i2 i3 i4 (nI d) (nI j) M = K (mX M0) a1 i2 i3 i4 (nI (d + 1)) M' ∧ BS M0 M' (c + j) := by
  intro j
  induction j with
  | zero =>
    intro n c M hn hc h
    obtain ⟨n, rfl⟩ : ∃ m, n = m + 1 := ⟨n - 1, by omega⟩
    refine ⟨M, ?_, h⟩
    rw [f_X3_writeSuit_28, if_pos (show nI 0 ≤ 0 by decide), nI_1]
  | succ j ih =>
    intro n c M hn hc h
    obtain ⟨n, rfl⟩ : ∃ m, n = m + 1 := ⟨n - 1, by omega⟩
    obtain ⟨M1, e1, b1⟩ := b_int (ht.lo (LO.km h.1 hX)) h (by omega) hd
    obtain ⟨M2, e2, b2⟩ := ih n (c + 1) M1 (by omega) (by omega) b1
    refine ⟨M2, ?_, by rw [show c + (j + 1) = c + 1 + j by omega]; exact b2⟩
    rw [f_X3_writeSuit_28, if_neg (le_f (y := 0) (j + 1) 0 (by omega) (by omega)), if_pos h.2.2.1, e1, Option.bind_some, pk_m1]
    exact e2
theorem w_9 (hs : CSH M0) (hw : WF G) (hc0 : CR (mI M0) (mJ M0) (mA M0) G) (ht : TX M0) (hX : 1026 ≤ mX M0) {p : Nat} (hp : p < 4) {b : Nat} (hb : b ≤ 16) {i3 : Int32} (hi3 : ¬ (255 : Int32) < i3) (i4 : Int32) : ∀ (e n d c : Nat) (M : zM), d + e = 10 → 0 < d → e < n → c + sn (eH G p) (b + d - 1) e + 1 < 16 → BS M0 M c → ∃ M' c', f_X3_writeSuit_9 n (mX M0) (1010 + 4 * p) (nI b) i3 i4 (nI d) M = some ((), M') ∧ BS M0 M' c' ∧ c' ≤ c + sn (eH G p) (b + d - 1) e + 1 := by
  intro e
  induction e with
  | zero =>
    intro n d c M hd hd0 hn hc h
    obtain ⟨n, rfl⟩ : ∃ m, n = m + 1 := ⟨n - 1, by omega⟩
    rw [f_X3_writeSuit_9, if_pos (lt_t (x := 9) 9 d (by omega) (by omega)), if_pos h.2.2.1, b_len h, Option.bind_some]
    split
    · exact ⟨M, c, rfl, h, by omega⟩
    · obtain ⟨M1, e1, b1⟩ := b_char h (by omega) hi3
      rw [if_pos h.2.2.1, e1]
      exact ⟨M1, c + 1, rfl, b1, by omega⟩
  | succ e ih =>
    intro n d c M hd hd0 hn hc h
    obtain ⟨n, rfl⟩ : ∃ m, n = m + 1 := ⟨n - 1, by omega⟩
    obtain ⟨k, hk⟩ : ∃ k, b + d = k + 1 := ⟨b + d - 1, by omega⟩
    have hkd : b + d - 1 = k := by omega
    rw [hkd] at hc ⊢
    rw [sn] at hc
    have lo := LO.km h.1 hX
    have hsM := hs.lo lo
    have hsp := hsM.2.2.2.2.2.2.2.1 p hp
    have hcM := (hc0.lo hs hw lo).2 p hp
    have ec : f_X1_count (1010 + 4 * p) (nI k) M = some (mA M (1011 + 4 * p) k, M) := q_count (I := mI M) (J := mJ M) (A := mA M) hsp (by omega)
    have ik : nI b + nI d - (1 : Int32) = nI k := by rw [nI_add, hk, nI_sub1]
    have hg4 := (hw.2.2.2.2.2.2.2.2.2.2 p hp).1 k (by omega)
    obtain ⟨M1, e1, b1⟩ := w_28 (K := f_X3_writeSuit_9 n) (a1 := 1010 + 4 * p) (i2 := nI b) (i3 := i3) (i4 := i4) ht hX (d := d) (by omega) (eH G p k) zN c M (by show _ < 130; omega) (by omega) h
    obtain ⟨M2, c2, e2, b2, h2⟩ := ih n (d + 1) (c + eH G p k) M1 (by omega) (by omega) (by omega) (by rw [show b + (d + 1) - 1 = k + 1 by omega]; omega) b1
    rw [show b + (d + 1) - 1 = k + 1 by omega] at h2
    refine ⟨M2, c2, ?_, b2, by rw [sn]; omega⟩
    rw [f_X3_writeSuit_9, if_neg (lt_f (x := 9) 9 d (by omega) (by decide)), if_pos hsp.1, ik, ec, Option.bind_some]
    dsimp only
    rw [hcM.1 k (by omega), e1, e2]
theorem w_suit (hs : CSH M0) (hw : WF G) (hc0 : CR (mI M0) (mJ M0) (mA M0) G) (ht : TX M0) (hX : 1026 ≤ mX M0) {p : Nat} (hp : p < 4) {b : Nat} (hb : b ≤ 16) {i3 : Int32} (hi3 : ¬ (255 : Int32) < i3) (h : BS M0 M c) (hc : c + sn (eH G p) b 9 + 1 < 16) : ∃ M' c', f_X3_writeSuit (mX M0) (1010 + 4 * p) (nI b) i3 M = some ((), M') ∧ BS M0 M' c' ∧ c' ≤ c + sn (eH G p) b 9 + 1 := by
  obtain ⟨M', c', e, h1, h2⟩ := w_9 hs hw hc0 ht hX hp hb hi3 (nI c) 9 zN 1 c M rfl (by decide) (by decide) hc h
  refine ⟨M', c', ?_, h1, h2⟩
  unfold f_X3_writeSuit f_X3_writeSuit_0
  rw [if_pos h.2.2.1, b_len h, Option.bind_some]
  exact e
theorem w_24 (ht : TX M0) (hX : 1026 ≤ mX M0) {i : Nat} (hi : i < 7) {K : Nat → Nat → Nat → Int32 → zM → Option (Unit × zM)} {a1 : Nat} : ∀ (j n c : Nat) (M : zM), j < n → c + j < 16 → BS M0 M c → ∃ M', f_X3_writeHonours_24 K n (mX M0) a1 20 (nI i) (nI j) M = K (mX M0) a1 20 (nI (i + 1)) M' ∧ BS M0 M' (c + j) := by
  intro j
  induction j with
  | zero =>
    intro n c M hn hc h
    obtain ⟨n, rfl⟩ : ∃ m, n = m + 1 := ⟨n - 1, by omega⟩
    refine ⟨M, ?_, h⟩
    rw [f_X3_writeHonours_24, if_pos (show nI 0 ≤ 0 by decide), nI_1]
  | succ j ih =>
    intro n c M hn hc h
    obtain ⟨n, rfl⟩ : ∃ m, n = m + 1 := ⟨n - 1, by omega⟩
    have htM := ht.lo (LO.km h.1 hX)
    obtain ⟨q, q1, q2⟩ := t_at htM (Or.inl rfl) hi
    obtain ⟨M1, e1, b1⟩ := b_char h (by omega) (lt_f (x := 255) 255 q q1 (by decide))
    obtain ⟨M2, e2, b2⟩ := ih n (c + 1) M1 (by omega) (by omega) b1
    refine ⟨M2, ?_, by rw [show c + (j + 1) = c + 1 + j by omega]; exact b2⟩
    rw [f_X3_writeHonours_24, if_neg (le_f (y := 0) (j + 1) 0 (by omega) (by omega)), if_pos (Or.inr (htM.2 20 (Or.inl rfl)).1), q2, Option.bind_some]
    dsimp only
    rw [if_pos h.2.2.1, e1, Option.bind_some, pk_m1]
    exact e2
theorem w_6 (hs : CSH M0) (hw : WF G) (hc0 : CR (mI M0) (mJ M0) (mA M0) G) (ht : TX M0) (hX : 1026 ≤ mX M0) {p : Nat} (hp : p < 4) : ∀ (e n i c : Nat) (M : zM), i + e = 7 → e < n → c + sn (eH G p) (18 + i) e < 16 → BS M0 M c → ∃ M' c', f_X3_writeHonours_6 n (mX M0) (1010 + 4 * p) 20 (nI i) M = some ((), M') ∧ BS M0 M' c' ∧ c' ≤ c + sn (eH G p) (18 + i) e := by
  intro e
  induction e with
  | zero =>
    intro n i c M hd hn hc h
    obtain ⟨n, rfl⟩ : ∃ m, n = m + 1 := ⟨n - 1, by omega⟩
    have htM := ht.lo (LO.km h.1 hX)
    rw [f_X3_writeHonours_6, if_pos (Or.inr (htM.2 20 (Or.inl rfl)).1), t_len htM (Or.inl rfl), Option.bind_some]
    dsimp only
    rw [if_pos (le_t (x := 7) 7 i (by omega) (by omega))]
    exact ⟨M, c, rfl, h, by omega⟩
  | succ e ih =>
    intro n i c M hd hn hc h
    obtain ⟨n, rfl⟩ : ∃ m, n = m + 1 := ⟨n - 1, by omega⟩
    have lo := LO.km h.1 hX
    have htM := ht.lo lo
    rw [sn] at hc
    have hsM := hs.lo lo
    have hsp := hsM.2.2.2.2.2.2.2.1 p hp
    have hcM := (hc0.lo hs hw lo).2 p hp
    have ec : f_X1_count (1010 + 4 * p) (nI (18 + i)) M = some (mA M (1011 + 4 * p) (18 + i), M) := q_count (I := mI M) (J := mJ M) (A := mA M) hsp (by omega)
    have ik : (18 : Int32) + nI i = nI (18 + i) := nI_add 18 i
    have hg4 := (hw.2.2.2.2.2.2.2.2.2.2 p hp).1 (18 + i) (by omega)
    obtain ⟨M1, e1, b1⟩ := w_24 (K := f_X3_writeHonours_6 n) (a1 := 1010 + 4 * p) ht hX (i := i) (by omega) (eH G p (18 + i)) zN c M (by show _ < 130; omega) (by omega) h
    obtain ⟨M2, c2, e2, b2, h2⟩ := ih n (i + 1) (c + eH G p (18 + i)) M1 (by omega) (by omega) (by rw [show 18 + (i + 1) = 18 + i + 1 by omega]; omega) b1
    rw [show 18 + (i + 1) = 18 + i + 1 by omega] at h2
    refine ⟨M2, c2, ?_, b2, by rw [sn]; omega⟩
    rw [f_X3_writeHonours_6, if_pos (Or.inr (htM.2 20 (Or.inl rfl)).1), t_len htM (Or.inl rfl), Option.bind_some]
    dsimp only
    rw [if_neg (le_f (x := 7) 7 i (by omega) (by decide)), if_pos hsp.1, ik, ec, Option.bind_some]
    dsimp only
    rw [hcM.1 (18 + i) (by omega), e1, e2]
theorem sn_add (g : Nat → Nat) (b : Nat) : ∀ (a i : Nat), sn g i (a + b) = sn g i a + sn g (i + a) b := by
  intro a
  induction a with
  | zero => intro i; rw [Nat.zero_add, sn, Nat.zero_add, Nat.add_zero]
  | succ a ih =>
    intro i
    rw [show a + 1 + b = (a + b) + 1 by omega, sn, sn, ih, show i + 1 + a = i + (a + 1) by omega, Nat.add_assoc]
theorem sn_979 (g : Nat → Nat) : sn g 0 25 = sn g 0 9 + sn g 9 9 + sn g 18 7 := by
  rw [show 25 = 18 + 7 from rfl, sn_add g 7 18 0, show 18 = 9 + 9 from rfl, sn_add g 9 9 0]
theorem q_hand (h : CSH M) (hw : WF G) (hz : WZ G) (hc : CR (mI M) (mJ M) (mA M) G) (ht : TX M) (hX : 1026 ≤ mX M) (i : Int32) : (∃ v M', f_X3_hand 1000 i M = some (.inr v, M') ∧ KM 4 40 M M') ∨ ∃ v, f_X3_hand 1000 i M = some (.inl v, nE M) := by
  unfold f_X3_hand f_X3_hand_0
  rcases q_pl i M with ⟨p, hp, rfl, e⟩ | e
  · rw [e]
    have hzp := hz p hp
    have h979 := sn_979 (eH G p)
    obtain ⟨M1, e1, b1⟩ := b_init M
    obtain ⟨M2, c2, e2, b2, l2⟩ := w_suit h hw hc ht hX hp (b := 0) (i3 := 100) (by decide) (by decide) b1 (by omega)
    obtain ⟨M3, c3, e3, b3, l3⟩ := w_suit h hw hc ht hX hp (b := 9) (i3 := 98) (by decide) (by decide) b2 (by omega)
    obtain ⟨M4, c4, e4, b4, l4⟩ := w_6 h hw hc ht hX hp 7 zN 0 c3 M3 rfl (by decide) (by show _ + sn _ 18 7 < _; omega) b3
    have l4' : c4 ≤ c3 + sn (eH G p) 18 7 := l4
    obtain ⟨r, M5, e5, k5⟩ := b_str b4 (by omega)
    refine Or.inl ⟨r, M5, ?_, k5⟩
    show (gR 9 0 M 1000).bind _ = _
    have sq : lQ 1 M 1001 (nI p) = some (1010 + 4 * p) := CSH.seat (I := mI M) (J := mJ M) (A := mA M) h hp
    have e4' : f_X3_writeHonours (mX M) (1010 + 4 * p) M3 = some ((), M4) := e4
    rw [e_gR 288 h.1 h.2.1, Option.bind_some, sq, Option.bind_some, e1, Option.bind_some]
    dsimp only
    rw [show f_X3_writeSuit (mX M) (1010 + 4 * p) 0 100 M1 = _ from e2, Option.bind_some]
    dsimp only
    rw [show f_X3_writeSuit (mX M) (1010 + 4 * p) 9 98 M2 = _ from e3, Option.bind_some]
    dsimp only
    rw [e4', Option.bind_some]
    dsimp only
    rw [if_pos b4.2.2.1, e5]
    rfl
  · rw [e]
    exact Or.inr ⟨_, rfl⟩
end CHAND
