/-! ===== ROWS of the judgement: rows of numbers and of references, new cells, statics, casts ===== -/
theorem vH.iar {L : zL} {M M' : zM} {H H1 : Heap} {a t : Nat} (hO : zO L) (h : vH L M H) (ha : mK M a = 100 + t) (ht : t < 3) (eK : mK M' = mK M) (eL : mL M' = mL M) (eX : mX M' = mX M) (eA : ∀ b, b ≠ a → mA M' b = mA M b) (eQ : mQ M' = mQ M) (ef : ∀ b c, zFs L M' c b = zFs L M c b) (hz : H1.size = H.size) (hq : ∀ q, q ≠ zad L a → H1[q]? = H[q]?) (hat : va_at (zD L) vwCl (zad L a, .inl (zc L t, mL M a, .inl (mA M' a))) H1) : vH L M' H1 := by
  obtain ⟨⟨s1, s2⟩, s3, s4, s5, s6, s7, s8⟩ := h
  have ha' : 1000 ≤ a := s4 a (by omega) (by omega)
  refine ⟨⟨by rw [hz, eX]; exact s1, by rw [eX]; exact s2⟩, by rw [eK, eX]; exact s3, by rw [eK]; exact s4, fun b c' hb q0 q1 => ?_, fun b t' ht' hb => ?_, fun b t' ht' hb => ?_, fun b hb => ?_⟩
  · rw [eK] at hb
    have e : b ≠ a := by rintro rfl; omega
    rw [ef]
    exact (s5 b c' hb q0 q1).kept (hq _ (zad_ne hO ha' e (by have := s4 b (by omega) (by omega); omega)))
  · rw [eK] at hb
    rw [eL]
    by_cases e : b = a
    · subst e
      have e2 : t' = t := by omega
      subst e2
      exact hat
    · rw [eA b e]
      exact (s6 b t' ht' hb).kept (hq _ (zad_ne hO ha' e (by have := s4 b (by omega) (by omega); omega)))
  · rw [eK] at hb
    have e : b ≠ a := by rintro rfl; omega
    rw [eL, eQ]
    exact (s7 b t' ht' hb).kept (hq _ (zad_ne hO ha' e (by have := s4 b (by omega) (by omega); omega)))
  · rw [eK] at hb
    have e : b ≠ a := by rintro rfl; omega
    obtain ⟨x1, x2, x3, x4, x5⟩ := s8 b hb
    rw [eK, eL, eA b e, eQ]
    exact ⟨x1, x2, x3, x4, fun c => (ef b c).trans (x5 c)⟩
theorem vH.qar {L : zL} {M M' : zM} {H H1 : Heap} {a t : Nat} (hO : zO L) (h : vH L M H) (ha : mK M a = 110 + t) (ht : t < 3) (eK : mK M' = mK M) (eL : mL M' = mL M) (eX : mX M' = mX M) (eA : mA M' = mA M) (eQ : ∀ b, b ≠ a → mQ M' b = mQ M b) (ef : ∀ b c, zFs L M' c b = zFs L M c b) (hz : H1.size = H.size) (hq : ∀ q, q ≠ zad L a → H1[q]? = H[q]?) (hat : va_at (zD L) vwCl (zad L a, .inl (zc L (10 + t), mL M a, .inr (.inr (.inr (.inr (fun i => (mQ M' a i).map (zad L))))))) H1) : vH L M' H1 := by
  obtain ⟨⟨s1, s2⟩, s3, s4, s5, s6, s7, s8⟩ := h
  have ha' : 1000 ≤ a := s4 a (by omega) (by omega)
  refine ⟨⟨by rw [hz, eX]; exact s1, by rw [eX]; exact s2⟩, by rw [eK, eX]; exact s3, by rw [eK]; exact s4, fun b c' hb q0 q1 => ?_, fun b t' ht' hb => ?_, fun b t' ht' hb => ?_, fun b hb => ?_⟩
  · rw [eK] at hb
    have e : b ≠ a := by rintro rfl; omega
    rw [ef]
    exact (s5 b c' hb q0 q1).kept (hq _ (zad_ne hO ha' e (by have := s4 b (by omega) (by omega); omega)))
  · rw [eK] at hb
    have e : b ≠ a := by rintro rfl; omega
    rw [eL, eA]
    exact (s6 b t' ht' hb).kept (hq _ (zad_ne hO ha' e (by have := s4 b (by omega) (by omega); omega)))
  · rw [eK] at hb
    rw [eL]
    by_cases e : b = a
    · subst e
      have e2 : t' = t := by omega
      subst e2
      exact hat
    · rw [eQ b e]
      exact (s7 b t' ht' hb).kept (hq _ (zad_ne hO ha' e (by have := s4 b (by omega) (by omega); omega)))
  · rw [eK] at hb
    have e : b ≠ a := by rintro rfl; omega
    obtain ⟨x1, x2, x3, x4, x5⟩ := s8 b hb
    rw [eK, eL, eA, eQ b e]
    exact ⟨x1, x2, x3, x4, fun c => (ef b c).trans (x5 c)⟩
theorem zA_ad {L : zL} (hO : zO L) {a : Nat} (ha : 1000 ≤ a) : zA L (zad L a) := by
  have := (hO a).1 ha
  show zB L ≤ zad L a
  omega
theorem zS_put {L : zL} {H0 H H1 : Heap} {locs : List Loc} {a : Nat} {q : Loc} (hA : zA L a) (hS : va_S (zA L) H0 H locs) (hz1 : H1.size = H.size) (hq1 : ∀ q : Nat, q ≠ a → H1[q]? = H[q]?) (hb1 : q.base = a) : va_S (zA L) H0 H1 (locs ++ [q]) := by
  refine ⟨by rw [hz1]; exact hS.1, fun q' g1 g2 => ?_, fun q' hq' => ?_⟩
  · rw [hq1 q' (fun e => g2 (by rw [e]; exact hA))]
    exact hS.2.1 q' g1 g2
  · rcases List.mem_append.mp hq' with e | e
    · exact hS.2.2 q' e
    · rw [List.mem_singleton.mp e, hb1]
      exact hA
theorem zty_i (L : zL) : (zty L)[0]? = some (zc L 0, .int) := rfl
theorem zty_b (L : zL) : (zty L)[1]? = some (zc L 1, .byte) := rfl
theorem zty_z (L : zL) : (zty L)[2]? = some (zc L 2, .boolean) := rfl
theorem zty_q (L : zL) (t : Nat) (h : t < 3) : (zty L)[3 + t]? = some (zc L (10 + t), .object (zet t)) := by
  match t, h with
  | 0, _ => rfl
  | 1, _ => rfl
  | 2, _ => rfl
/-- a row that is read: its cell, whoever made it -/
def zTr (U : State) (ty : FieldType) (t N : Nat) (f : Nat → Value) (H : Heap) : Prop := ∃ cell : Cell, H[t]? = some cell ∧ U.isArrayOf cell ty ∧ cell.vm ≠ .unknown ∧ N ≤ cell.slots.size ∧ cell.slots.size.toInt32 = Int32.ofNat N ∧ ∀ j : Nat, j < N → cell.slots[j]? = some (f j)
theorem zTr.own {U : State} {ty : FieldType} {cA : ClassId} {t n : Nat} {f : Nat → Value} {H : Heap} (h : H[t]? = some (arrV cA n f)) (hA : ArrOfT U cA ty) : zTr U ty t n f H :=
  ⟨_, h, hA n f, (fun q => by cases q), Nat.le_of_eq (arrV_size _ _ _).symm, by first | (rw [arrV_size]; done) | (rw [arrV_size]; rfl), fun j hj => by rw [arrV_read _ _ hj]⟩
theorem zTr.ext {U : State} {A : Nat → Prop} {ty : FieldType} {t N : Nat} {f : Nat → Value} {H H0 : Heap} {locs : List Loc} (h : va_T ty t N f A U H0) (hS : va_S A H0 H locs) : zTr U ty t N f H := by
  obtain ⟨cell, h1, h2, h3, h4, h5, h6, h7⟩ := h.kept hS.2.1
  exact ⟨cell, h1, h2, h3, h4, h5, h6⟩
theorem zrowI {L : zL} {M : zM} {s : State} {H : Heap} {locs : List Loc} {a t : Nat} (hT : vT L s) (hS : va_S (zA L) s.heap H locs) (hH : vH L M H) (ht : t < 3) (hk : mK M a = 100 + t ∨ mK M a = 200 + t) : zTr s (zpt t) (zad L a) (mL M a) (fun j => .int (mA M a j)) H := by
  rcases hk with hk | hk
  · have hty : (zty L)[t]? = some (zc L t, zpt t) := by
      match t, ht with
      | 0, _ => rfl
      | 1, _ => rfl
      | 2, _ => rfl
    have hat := hH.2.2.2.2.1 a t ht hk
    exact zTr.own (cA := zc L t) hat (hT.2.1.2 t _ hty).1
  · obtain ⟨x1, x2, x3, x4, x5⟩ := hH.2.2.2.2.2.2 a (by omega)
    rw [x2, x3]
    exact zTr.ext (hT.2.2.2.2.2.2.2.2.2.2.2.2.2.1 a t ht (by rw [← x1]; exact hk)) hS
theorem zrowQ {L : zL} {M : zM} {s : State} {H : Heap} {locs : List Loc} {a t : Nat} (hT : vT L s) (hS : va_S (zA L) s.heap H locs) (hH : vH L M H) (ht : t < 4) (hk : (mK M a = 110 + t ∧ t < 3) ∨ mK M a = 210 + t) : zTr s (.object (zet t)) (zad L a) (mL M a) (fun j => va_rf ((mQ M a j).map (zad L))) H := by
  rcases hk with ⟨hk, ht3⟩ | hk
  · have hat := hH.2.2.2.2.2.1 a t ht3 hk
    exact zTr.own (cA := zc L (10 + t)) hat (hT.2.1.2 _ _ (zty_q L t ht3)).1
  · obtain ⟨x1, x2, x3, x4, x5⟩ := hH.2.2.2.2.2.2 a (by omega)
    rw [x2, x4]
    exact zTr.ext (hT.2.2.2.2.2.2.2.2.2.2.2.2.2.2.1 a t ht (by rw [← x1]; exact hk)) hS
/-- an object that is named as one of a class: its cell, whoever made it -/
theorem zrecv {L : zL} {M : zM} {H : Heap} {locs : List Loc} {a k : Nat} {C : String} {T : u_T} {NN : Nat} {s : State} (hT : vT L s) (hS : va_S (zA L) s.heap H locs) (hc : vwCl[k - 1]? = some (C, T, NN)) (k0 : 0 < k ∧ k < 100) (hv : mK M a = k ∨ mK M a = 300 + k) (hH : vH L M H) : ∃ cell : Cell, H[zad L a]? = some cell ∧ cell.vm.isStatics = false ∧ s.vm.findClass C = some cell.cls := by
  rcases hv with hv | hv
  · exact va_recv hT.2.1 (zone (hH.2.2.2.1 a k hv k0.1 k0.2)) (ci := k - 1) (q0 := 0) hc rfl
  · obtain ⟨x1, x2, x3, x4, x5⟩ := hH.2.2.2.2.2.2 a (by omega)
    obtain ⟨cell, h1, h2, h3, h4⟩ := ((hT.2.2.2.2.2.2.2.2.2.2.2.2.2.2.2 a k C T NN (by rw [← x1]; exact hv) hc).1).kept hS.2.1
    exact ⟨cell, h1, h2, h3⟩
section ZARR
variable {L : zL} {X : zX} {y : MethodName} {cc : ByteArray} {nL : Nat} {ret : Option FieldType} {dd : Nat} {M0 : zM} {N : Nat × Nat} {Q : State → Prop} {M : zM} {pc : Nat} {ls : List (Nat × Value)} {st : List Value}
theorem lA_spec {t a : Nat} {i v : Int32} (h : lA t M a i = some v) : (mK M a = 100 + t ∨ mK M a = 200 + t) ∧ ¬ oob i (mL M a) ∧ v = mA M a i.toNatClampNeg := by
  unfold lA at h
  by_cases hc : (mK M a = 100 + t ∨ mK M a = 200 + t) ∧ ¬ oob i (mL M a)
  · rw [if_pos hc] at h
    exact ⟨hc.1, hc.2, (Option.some.inj h).symm⟩
  · rw [if_neg hc] at h
    cases h
theorem V_iald {a : Nat} {i v : Int32} (h : lA 0 M a i = some v) (d : decode cc pc = .ok (.iaload, 1)) (kk : V L X y cc nL ret dd M0 N Q M (pc + 1) ls (.int v :: st)) : V L X y cc nL ret dd M0 N Q M pc ls (.int i :: .ref (zad L a) :: st) := by
  refine ⟨kk.1, fun g h1 h2 H locs la hH hS hL => ?_⟩
  obtain ⟨q1, q2, rfl⟩ := lA_spec h
  obtain ⟨cell, e1, e2, e3, e4, e5, e6⟩ := zrowI g.2.2.2.2.2.2.2.2.2.1 hS hH (t := 0) (by decide) q1
  have hlt : i.toNatClampNeg < mL M a := Nat.not_le.mp fun q => q2 (Or.inr q)
  exact W.iald (v := .int (mA M a i.toNatClampNeg)) g.1 g.2.1 e1 e2 e3 (by rintro (q | q); exact q2 (Or.inl q); omega) (e6 _ hlt) rfl rfl d (kk.2 g h1 h2 H locs la hH hS hL)
theorem V_bald {a : Nat} {i v : Int32} (h : lA 1 M a i = some v) (d : decode cc pc = .ok (.baload, 1)) (kk : V L X y cc nL ret dd M0 N Q M (pc + 1) ls (.int v :: st)) : V L X y cc nL ret dd M0 N Q M pc ls (.int i :: .ref (zad L a) :: st) := by
  refine ⟨kk.1, fun g h1 h2 H locs la hH hS hL => ?_⟩
  obtain ⟨q1, q2, rfl⟩ := lA_spec h
  obtain ⟨cell, e1, e2, e3, e4, e5, e6⟩ := zrowI g.2.2.2.2.2.2.2.2.2.1 hS hH (t := 1) (by decide) q1
  have hlt : i.toNatClampNeg < mL M a := Nat.not_le.mp fun q => q2 (Or.inr q)
  exact W.bald (v := .int (mA M a i.toNatClampNeg)) g.1 g.2.1 e1 e2 e3 (by rintro (q | q); exact q2 (Or.inl q); omega) (e6 _ hlt) rfl rfl d (kk.2 g h1 h2 H locs la hH hS hL)
theorem V_zald {a : Nat} {i v : Int32} (h : lA 2 M a i = some v) (d : decode cc pc = .ok (.baload, 1)) (kk : V L X y cc nL ret dd M0 N Q M (pc + 1) ls (.int v :: st)) : V L X y cc nL ret dd M0 N Q M pc ls (.int i :: .ref (zad L a) :: st) := by
  refine ⟨kk.1, fun g h1 h2 H locs la hH hS hL => ?_⟩
  obtain ⟨q1, q2, rfl⟩ := lA_spec h
  obtain ⟨cell, e1, e2, e3, e4, e5, e6⟩ := zrowI g.2.2.2.2.2.2.2.2.2.1 hS hH (t := 2) (by decide) q1
  have hlt : i.toNatClampNeg < mL M a := Nat.not_le.mp fun q => q2 (Or.inr q)
  exact W.zald (v := .int (mA M a i.toNatClampNeg)) g.1 g.2.1 e1 e2 e3 (by rintro (q | q); exact q2 (Or.inl q); omega) (e6 _ hlt) rfl rfl d (kk.2 g h1 h2 H locs la hH hS hL)
theorem V_alen {a : Nat} {v : Int32} (h : gL M a = some v) (d : decode cc pc = .ok (.arraylength, 1)) (kk : V L X y cc nL ret dd M0 N Q M (pc + 1) ls (.int v :: st)) : V L X y cc nL ret dd M0 N Q M pc ls (.ref (zad L a) :: st) := by
  refine ⟨kk.1, fun g h1 h2 H locs la hH hS hL => ?_⟩
  unfold gL at h
  by_cases hm : zrow (mK M a)
  · rw [if_pos hm] at h
    cases h
    by_cases hs : mK M a % 100 < 3
    · obtain ⟨cell, e1, e2, e3, e4, e5, e6⟩ := zrowI g.2.2.2.2.2.2.2.2.2.1 hS hH (a := a) (t := mK M a % 100) hs (by omega)
      exact W.alen (n := Int32.ofNat (mL M a)) g.1 g.2.1 e1 e2 e5 rfl rfl d (kk.2 g h1 h2 H locs la hH hS hL)
    · obtain ⟨cell, e1, e2, e3, e4, e5, e6⟩ := zrowQ g.2.2.2.2.2.2.2.2.2.1 hS hH (a := a) (t := mK M a % 100 - 10) (by omega) (by omega)
      exact W.alen (n := Int32.ofNat (mL M a)) g.1 g.2.1 e1 e2 e5 rfl rfl d (kk.2 g h1 h2 H locs la hH hS hL)
  · rw [if_neg hm] at h
    cases h
theorem lQ_spec {t a v : Nat} {i : Int32} (h : lQ t M a i = some v) : ((mK M a = 110 + t ∧ t < 3) ∨ mK M a = 210 + t) ∧ ¬ oob i (mL M a) ∧ mQ M a i.toNatClampNeg = some v := by
  unfold lQ at h
  by_cases hc : ((mK M a = 110 + t ∧ t < 3) ∨ mK M a = 210 + t) ∧ ¬ oob i (mL M a)
  · rw [if_pos hc] at h
    exact ⟨hc.1, hc.2, h⟩
  · rw [if_neg hc] at h
    cases h
theorem V_aald {t a v : Nat} {i : Int32} (ht : t < 4) (h : lQ t M a i = some v) (d : decode cc pc = .ok (.aaload, 1)) (kk : V L X y cc nL ret dd M0 N Q M (pc + 1) ls (.ref (zad L v) :: st)) : V L X y cc nL ret dd M0 N Q M pc ls (.int i :: .ref (zad L a) :: st) := by
  refine ⟨kk.1, fun g h1 h2 H locs la hH hS hL => ?_⟩
  obtain ⟨q1, q2, q3⟩ := lQ_spec h
  obtain ⟨cell, e1, e2, e3, e4, e5, e6⟩ := zrowQ g.2.2.2.2.2.2.2.2.2.1 hS hH ht q1
  have hlt : i.toNatClampNeg < mL M a := Nat.not_le.mp fun q => q2 (Or.inr q)
  refine W.aald (v := .ref (zad L v)) (ty := .object (zet t)) g.1 g.2.1 e1 e2 rfl e3 (by rintro (q | q); exact q2 (Or.inl q); omega) ?_ rfl rfl d (kk.2 g h1 h2 H locs la hH hS hL)
  rw [e6 _ hlt]
  show some (va_rf (Option.map (zad L) (mQ M a i.toNatClampNeg))) = _
  rw [q3]
  rfl
theorem V_iast {a : Nat} {i v : Int32} {M1 : zM} (h : tA M a i v = some M1) (d : decode cc pc = .ok (.iastore, 1)) (kk : V L X y cc nL ret dd M0 N Q M1 (pc + 1) ls st) : V L X y cc nL ret dd M0 N Q M pc ls (.int v :: .int i :: .ref (zad L a) :: st) := by
  unfold tA at h
  by_cases hc : mK M a = 100 ∧ ¬ oob i (mL M a)
  · rw [if_pos hc] at h
    cases h
    obtain ⟨hm, hin⟩ := hc
    refine ⟨kk.1, fun g h1 h2 H locs la hH hS hL => ?_⟩
    have hO : zO L := g.2.2.2.2.2.2.2.2.2.1.1
    have ha : 1000 ≤ a := hH.2.2.1 a (by omega) (by omega)
    have hat := hH.2.2.2.2.1 a 0 (by decide) hm
    refine W.iast g.1 g.2.1 hat ((g.2.2.2.2.2.2.2.2.2.1.2.1.2 0 _ (zty_i L)).1 (mL M a) (fun j => .int (mA M a j))) (fun q => by cases q) (by show ¬ (i < 0 ∨ (arrV _ _ _).slots.size ≤ _); rw [arrV_size]; exact hin) rfl rfl d fun H1 e z oq => ?_
    refine kk.2 g h1 h2 H1 _ la (hH.iar (t := 0) hO hm (by decide) rfl rfl rfl (fun b hb => ?_) rfl (fun b c => rfl) z oq ?_) (zS_put (zA_ad hO ha) hS z oq rfl) hL
    · funext j
      simp [sA, mA, u2, hb]
    · show H1[zad L a]? = some (vp_cell _ _)
      rw [e]
      rw [vp_cell_i, vp_cell_i, arrV_store]
      congr 2
      funext q
      by_cases hq : q = i.toNatClampNeg
      · subst hq
        simp [updV, sA, mA, u2, vp_nar]
        try rfl
      · simp [updV, sA, mA, u2, hq]
  · rw [if_neg hc] at h
    cases h
theorem V_bast {a : Nat} {i v : Int32} {M1 : zM} (h : tB M a i v = some M1) (d : decode cc pc = .ok (.bastore, 1)) (kk : V L X y cc nL ret dd M0 N Q M1 (pc + 1) ls st) : V L X y cc nL ret dd M0 N Q M pc ls (.int v :: .int i :: .ref (zad L a) :: st) := by
  unfold tB at h
  by_cases hc : mK M a = 101 ∧ ¬ oob i (mL M a)
  · rw [if_pos hc] at h
    cases h
    obtain ⟨hm, hin⟩ := hc
    refine ⟨kk.1, fun g h1 h2 H locs la hH hS hL => ?_⟩
    have hO : zO L := g.2.2.2.2.2.2.2.2.2.1.1
    have ha : 1000 ≤ a := hH.2.2.1 a (by omega) (by omega)
    have hat := hH.2.2.2.2.1 a 1 (by decide) hm
    refine W.bast g.1 g.2.1 hat ((g.2.2.2.2.2.2.2.2.2.1.2.1.2 1 _ (zty_b L)).1 (mL M a) (fun j => .int (mA M a j))) (fun q => by cases q) (by show ¬ (i < 0 ∨ (arrV _ _ _).slots.size ≤ _); rw [arrV_size]; exact hin) rfl rfl d fun H1 e z oq => ?_
    refine kk.2 g h1 h2 H1 _ la (hH.iar (t := 1) hO hm (by decide) rfl rfl rfl (fun b hb => ?_) rfl (fun b c => rfl) z oq ?_) (zS_put (zA_ad hO ha) hS z oq rfl) hL
    · funext j
      simp [sA, mA, u2, hb]
    · show H1[zad L a]? = some (vp_cell _ _)
      rw [e]
      rw [vp_cell_i, vp_cell_i, arrV_store]
      congr 2
      funext q
      by_cases hq : q = i.toNatClampNeg
      · subst hq
        simp [updV, sA, mA, u2, vp_nar]
        try rfl
      · simp [updV, sA, mA, u2, hq]
  · rw [if_neg hc] at h
    cases h
theorem V_zast {a : Nat} {i v : Int32} {M1 : zM} (h : tZ M a i v = some M1) (d : decode cc pc = .ok (.bastore, 1)) (kk : V L X y cc nL ret dd M0 N Q M1 (pc + 1) ls st) : V L X y cc nL ret dd M0 N Q M pc ls (.int v :: .int i :: .ref (zad L a) :: st) := by
  unfold tZ at h
  by_cases hc : mK M a = 102 ∧ ¬ oob i (mL M a)
  · rw [if_pos hc] at h
    cases h
    obtain ⟨hm, hin⟩ := hc
    refine ⟨kk.1, fun g h1 h2 H locs la hH hS hL => ?_⟩
    have hO : zO L := g.2.2.2.2.2.2.2.2.2.1.1
    have ha : 1000 ≤ a := hH.2.2.1 a (by omega) (by omega)
    have hat := hH.2.2.2.2.1 a 2 (by decide) hm
    refine W.zast g.1 g.2.1 hat ((g.2.2.2.2.2.2.2.2.2.1.2.1.2 2 _ (zty_z L)).1 (mL M a) (fun j => .int (mA M a j))) (fun q => by cases q) (by show ¬ (i < 0 ∨ (arrV _ _ _).slots.size ≤ _); rw [arrV_size]; exact hin) rfl rfl d fun H1 e z oq => ?_
    refine kk.2 g h1 h2 H1 _ la (hH.iar (t := 2) hO hm (by decide) rfl rfl rfl (fun b hb => ?_) rfl (fun b c => rfl) z oq ?_) (zS_put (zA_ad hO ha) hS z oq rfl) hL
    · funext j
      simp [sA, mA, u2, hb]
    · show H1[zad L a]? = some (vp_cell _ _)
      rw [e]
      rw [vp_cell_i, vp_cell_i, arrV_store]
      congr 2
      funext q
      by_cases hq : q = i.toNatClampNeg
      · subst hq
        simp [updV, sA, mA, u2, vp_nar]
        try rfl
      · simp [updV, sA, mA, u2, hq]
  · rw [if_neg hc] at h
    cases h
theorem tQ_spec {t a : Nat} {i : Int32} {v : Option Nat} {M1 : zM} (h : tQ t M a i v = some M1) : mK M a = 110 + t ∧ ¬ oob i (mL M a) ∧ M1 = sQ M a i.toNatClampNeg v := by
  unfold tQ at h
  by_cases hc : mK M a = 110 + t ∧ ¬ oob i (mL M a)
  · rw [if_pos hc] at h
    exact ⟨hc.1, hc.2, (Option.some.inj h).symm⟩
  · rw [if_neg hc] at h
    cases h
/-- the class of the value v, of kind k, goes into rows of t -/
def zgo (k t : Nat) : Prop := 0 < k ∧ k < 100 ∧ ∃ C T NN, vwCl[k - 1]? = some (C, T, NN) ∧ (C = zet t ∨ Cond.castable C (zet t) ∈ zsp)
theorem V_aast {t a v : Nat} {k : Nat} {i : Int32} {M1 : zM} (ht : t < 3) (hg : zgo k t) (hv : mK M v = k ∨ mK M v = 300 + k) (h : tQ t M a i (some v) = some M1) (d : decode cc pc = .ok (.aastore, 1)) (kk : V L X y cc nL ret dd M0 N Q M1 (pc + 1) ls st) : V L X y cc nL ret dd M0 N Q M pc ls (.ref (zad L v) :: .int i :: .ref (zad L a) :: st) := by
  obtain ⟨hm, hin, rfl⟩ := tQ_spec h
  refine ⟨kk.1, fun g h1 h2 H locs la hH hS hL => ?_⟩
  have hO : zO L := g.2.2.2.2.2.2.2.2.2.1.1
  have hK := g.2.2.2.2.2.2.2.2.2.1.2.1
  have ha : 1000 ≤ a := hH.2.2.1 a (by omega) (by omega)
  have hat := hH.2.2.2.2.2.1 a t ht hm
  obtain ⟨k0, k1, C, T, NN, hc, hcast⟩ := hg
  have hlt : i.toNatClampNeg < mL M a := Nat.not_le.mp fun q => hin (Or.inr q)
  have hi0 : ¬ i < 0 := fun q => hin (Or.inl q)
  obtain ⟨cellV, g1, g3, g2'⟩ := zrecv g.2.2.2.2.2.2.2.2.2.1 hS hc ⟨k0, k1⟩ hv hH
  have hcls := (hK.1 (k - 1) _ hc).2
  have g2 : cellV.cls = (zD L).1 (k - 1) := Option.some.inj (g2'.symm.trans hcls.1)
  obtain ⟨kA, comp, e1, e2, e3, -⟩ := (hK.2 (3 + t) _ (zty_q L t ht)).2
  obtain ⟨kE, hkE, -⟩ := Vm.findClass_spec e3
  have hf3 : X.2.2.2.2.1.vm.assignable ((zD L).1 (k - 1)) comp = true := by
    rcases hcast with e | e
    · have hcomp : comp = (zD L).1 (k - 1) := by
        have h9 := hcls.1
        rw [e] at h9
        exact Option.some.inj (e3.symm.trans h9)
      rw [hcomp]
      exact va_assign hcls
    · obtain ⟨c0, t1, f1, f2, f3⟩ := Cond.castable_spec (va_Nw.use (A := X.2.2.2.2.2.2.1) rfl (g.2.2.2.2.2.2.2.2.2.1.2.2.1 _ e))
      cases hcls.1.symm.trans f1
      cases e3.symm.trans f2
      exact f3
  obtain ⟨kC, hkC, -⟩ := hcls.2
  refine W.aast g.1 g.2.1 hat (fun q h => by cases h) (fun h => by cases h) e1 e2 rfl hkE ⟨hi0, by show _ < (arrV _ _ _).slots.size; rw [arrV_size]; exact hlt⟩ g1 (fun q h => by rw [h] at g3; cases g3) (by rw [g2]; exact hkC) (by rw [g2]; exact hf3) rfl rfl d fun H1 e z oq => ?_
  refine kk.2 g h1 h2 H1 _ la (hH.qar (t := t) hO hm ht rfl rfl rfl rfl (fun b hb => ?_) (fun b c => rfl) z oq ?_) (zS_put (zA_ad hO ha) hS z oq rfl) hL
  · funext j
    simp [sQ, mQ, u2, hb]
  · show H1[zad L a]? = some (vp_cell _ _)
    rw [e]
    rw [vp_cell_q, vp_cell_q, arrV_store]
    congr 2
    funext q
    by_cases hq : q = i.toNatClampNeg
    · subst hq
      simp [updV, sQ, mQ, u2, va_rf]
    · simp [updV, sQ, mQ, u2, hq]
theorem V_aastN {t a : Nat} {i : Int32} {M1 : zM} (ht : t < 3) (h : tQ t M a i none = some M1) (d : decode cc pc = .ok (.aastore, 1)) (kk : V L X y cc nL ret dd M0 N Q M1 (pc + 1) ls st) : V L X y cc nL ret dd M0 N Q M pc ls (.null :: .int i :: .ref (zad L a) :: st) := by
  obtain ⟨hm, hin, rfl⟩ := tQ_spec h
  refine ⟨kk.1, fun g h1 h2 H locs la hH hS hL => ?_⟩
  have hO : zO L := g.2.2.2.2.2.2.2.2.2.1.1
  have hK := g.2.2.2.2.2.2.2.2.2.1.2.1
  have ha : 1000 ≤ a := hH.2.2.1 a (by omega) (by omega)
  have hat := hH.2.2.2.2.2.1 a t ht hm
  refine va_WaastN (C := zet t) g.1 g.2.1 hat ((hK.2 (3 + t) _ (zty_q L t ht)).1 (mL M a) (fun j => va_rf ((mQ M a j).map (zad L)))) (fun h => by cases h) (by show ¬ (i < 0 ∨ (arrV _ _ _).slots.size ≤ _); rw [arrV_size]; exact hin) rfl rfl d fun H1 e z oq => ?_
  refine kk.2 g h1 h2 H1 _ la (hH.qar (t := t) hO hm ht rfl rfl rfl rfl (fun b hb => ?_) (fun b c => rfl) z oq ?_) (zS_put (zA_ad hO ha) hS z oq rfl) hL
  · funext j
    simp [sQ, mQ, u2, hb]
  · show H1[zad L a]? = some (vp_cell _ _)
    rw [e]
    rw [vp_cell_q, vp_cell_q, arrV_store]
    congr 2
    funext q
    by_cases hq : q = i.toNatClampNeg
    · subst hq
      simp [updV, sQ, mQ, u2, va_rf]
    · simp [updV, sQ, mQ, u2, hq]
theorem V_null (d : decode cc pc = .ok (.aconst_null, 1)) (k : V L X y cc nL ret dd M0 N Q M (pc + 1) ls (.null :: st)) : V L X y cc nL ret dd M0 N Q M pc ls st :=
  ⟨k.1, fun g h1 h2 H locs la hH hS hl => lv_null g.1 g.2.1 d (k.2 g h1 h2 H locs la hH hS hl)⟩
end ZARR
