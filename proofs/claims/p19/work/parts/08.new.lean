/-! ===== ROWS of the judgement: new cells, statics, casts, calls ===== -/
theorem vH.new {L : zL} {M M' : zM} {H H1 : Heap} (κ : Nat) (hO : zO L) (h : vH L M H) (hκ : κ < 200) (eX : mX M' = mX M + 1) (eK : mK M' = u1 (mK M) (mX M) κ) (eL : ∀ a, a ≠ mX M → mL M' a = mL M a) (eA : ∀ a, a ≠ mX M → mA M' a = mA M a) (eQ : ∀ a, a ≠ mX M → mQ M' a = mQ M a) (ef : ∀ a, a ≠ mX M → ∀ c, zFs L M' c a = zFs L M c a) (hz : H1.size = H.size + 1) (hq : ∀ q : Nat, q < H.size → H1[q]? = H[q]?)
    (n1 : ∀ c, κ = c → 0 < c → c < 100 → va_at (zD L) vwCl (zad L (mX M), .inr (c - 1, zFs L M' c (mX M))) H1)
    (n2 : ∀ t, t < 3 → κ = 100 + t → va_at (zD L) vwCl (zad L (mX M), .inl (zc L t, mL M' (mX M), .inl (mA M' (mX M)))) H1)
    (n3 : ∀ t, t < 3 → κ = 110 + t → va_at (zD L) vwCl (zad L (mX M), .inl (zc L (10 + t), mL M' (mX M), .inr (.inr (.inr (.inr (fun i => (mQ M' (mX M) i).map (zad L))))))) H1) : vH L M' H1 := by
  obtain ⟨⟨s1, s2⟩, s3, s4, s5, s6, s7, s8⟩ := h
  have ke : ∀ a, mK M' a = if a = mX M then κ else mK M a := fun a => by rw [eK]; rfl
  refine ⟨⟨by rw [hz, eX]; omega, by rw [eX]; omega⟩, fun a ha => ?_, fun a q1 q2 => ?_, fun b c' hb q0 q1 => ?_, fun b t' ht' hb => ?_, fun b t' ht' hb => ?_, fun b hb => ?_⟩
  · rw [eX] at ha
    rw [ke, if_neg (by omega)]
    exact s3 a (by omega)
  · rw [ke] at q1 q2
    by_cases e : a = mX M
    · rw [e]; exact s2
    · rw [if_neg e] at q1 q2
      exact s4 a q1 q2
  · rw [ke] at hb
    by_cases e : b = mX M
    · subst e
      rw [if_pos rfl] at hb
      exact n1 c' hb q0 q1
    · rw [if_neg e] at hb
      rw [ef b e]
      have h9 := s5 b c' hb q0 q1
      exact h9.kept (hq _ h9.lt)
  · rw [ke] at hb
    by_cases e : b = mX M
    · subst e
      rw [if_pos rfl] at hb
      exact n2 t' ht' (by omega)
    · rw [if_neg e] at hb
      rw [eL b e, eA b e]
      have h9 := s6 b t' ht' hb
      exact h9.kept (hq _ h9.lt)
  · rw [ke] at hb
    by_cases e : b = mX M
    · subst e
      rw [if_pos rfl] at hb
      exact n3 t' ht' (by omega)
    · rw [if_neg e] at hb
      rw [eL b e, eQ b e]
      have h9 := s7 b t' ht' hb
      exact h9.kept (hq _ h9.lt)
  · rw [ke] at hb
    by_cases e : b = mX M
    · subst e
      rw [if_pos rfl] at hb
      omega
    · rw [if_neg e] at hb
      obtain ⟨x1, x2, x3, x4, x5⟩ := s8 b hb
      rw [ke, if_neg e, eL b e, eA b e, eQ b e]
      exact ⟨x1, x2, x3, x4, fun c => (ef b e c).trans (x5 c)⟩
theorem zad_new {L : zL} {M : zM} {H : Heap} (hO : zO L) (h : vH L M H) : zad L (mX M) = H.size := by
  have h1 := (hO (mX M)).1 h.1.2
  have h2 := h.1.1
  omega
theorem zS_grow {L : zL} {H0 H H1 : Heap} {locs : List Loc} (hS : va_S (zA L) H0 H locs) (hz : H1.size = H.size + 1) (hq : ∀ q : Nat, q < H.size → H1[q]? = H[q]?) : va_S (zA L) H0 H1 locs :=
  ⟨Nat.le_trans hS.1 (by omega), fun x h1 h2 => (hq x (Nat.lt_of_lt_of_le h1 hS.1)).trans (hS.2.1 x h1 h2), hS.2.2⟩
/-- what is new is empty -/
def zdf (t : Nat) : Value := match t with
  | 0 => .int 0
  | 1 => .long 0
  | 2 => .null
  | _ => .double 0
theorem zFs_new {L : zL} {M : zM} {c NN : Nat} : zFs L (nO M c NN) c (mX M) = (zlay c).map zdf := by
  refine List.ext_getElem? fun j => ?_
  unfold zFs
  rw [List.getElem?_mapIdx, List.getElem?_map]
  cases (zlay c)[j]? with
  | none => rfl
  | some t =>
    refine congrArg some ?_
    show zV L (nO M c NN) t (32 * c + j) (mX M) = zdf t
    unfold zV zdf
    split <;> simp [nO, mI, mJ, mD, mR, uc, zrf, va_rf]
section ZNEW
variable {L : zL} {X : zX} {y : MethodName} {cc : ByteArray} {nL : Nat} {ret : Option FieldType} {dd : Nat} {M0 : zM} {N : Nat × Nat} {Q : State → Prop} {M : zM} {pc : Nat} {ls : List (Nat × Value)} {st : List Value}
theorem V_new {c NN ix : Nat} {C : String} {T : u_T} {ty : Nat → FieldType} (c0 : 0 < c ∧ c < 100) (hc : vwCl[c - 1]? = some (C, T, NN)) (hin : ∀ w ∈ u_ws C T NN, w ∈ zw) (hpt : ∀ k, k < NN → parseFieldDescriptor (T k).2.2.1 = some (ty k)) (hdf : ∀ j, j < NN → defaultValue (ty j) = vp_V ((zlay c).map zdf) j) (hl : Cond.classLink y.cls ix C ∈ zw ∧ Cond.instantiable C NN ∈ zw ∧ Cond.initialized C ∈ zw) (d : decode cc pc = .ok (.new ix, 3)) (kk : V L X y cc nL ret dd M0 N Q (nO M c NN) (pc + 3) ls (.ref (zad L (mX M)) :: st)) : V L X y cc nL ret dd M0 N Q M pc ls st := by
  obtain ⟨⟨k1, k2⟩, k3⟩ := kk
  have k1' : mX M + 1 ≤ N.1 := k1
  have k2' : mS M + NN ≤ N.2 := k2
  refine ⟨⟨by omega, by omega⟩, fun g h1 h2 H locs la hH hS hL => ?_⟩
  have hO : zO L := g.2.2.2.2.2.2.2.2.2.1.1
  have hK := g.2.2.2.2.2.2.2.2.2.1.2.1
  have hts := g.2.2.2.2.1
  have hR := g.2.2.2.2.2.2.2.2.1
  have hKn := hK.1 (c - 1) _ hc
  refine W.newcK g.1 g.2.1 g.2.2.2.1 (hts _ hl.1) (hts _ hl.2.1) (hts _ hl.2.2) rfl d (by rw [hR]; show _ ≤ N.1 - mX M0; omega) (by rw [hR]; show _ ≤ N.2 - mS M0; omega) hKn.2.1 (zad_new hO hH).symm fun H1 kC hkC e1 z1 o1 => ?_
  rw [show mX M - mX M0 + 1 = mX (nO M c NN) - mX M0 from by show _ = mX M + 1 - mX M0; omega, show mS M - mS M0 + NN = mS (nO M c NN) - mS M0 from by show _ = mS M + NN - mS M0; omega]
  rw [zad_new hO hH] at z1 o1
  refine k3 g (by show mX M0 ≤ mX M + 1; omega) (by show mS M0 ≤ mS M + NN; omega) H1 locs la (vH.new c hO hH (by omega) rfl rfl (fun a ha => rfl) (fun a ha => rfl) (fun a ha => rfl) (fun a ha c' => zFs_ne (fun t k => ?_) c') z1 o1 (fun c' e q0 q1 => ?_) (fun t ht e => by omega) (fun t ht e => by omega)) (zS_grow hS z1 o1) hL
  · unfold zV
    split <;> simp [nO, mI, mJ, mD, mR, uc, ha]
  · subst e
    rw [zFs_new]
    exact ⟨_, hc, (u_born ty hts hin hKn hkC e1 hpt).to hdf⟩
/-- new rows: their length is small -/
def aA (t : Nat) (M : zM) (n : Int32) : Option (Nat × zM) := if ¬ n < 0 ∧ n.toNatClampNeg ≤ 100000 then some (mX M, nA M t n.toNatClampNeg) else none
def aQ (t : Nat) (M : zM) (n : Int32) : Option (Nat × zM) := if ¬ n < 0 ∧ n.toNatClampNeg ≤ 100000 then some (mX M, nQ M t n.toNatClampNeg) else none
theorem zcb (t : ArrayType) : componentBytes (newarray.typeOf t) ≤ 8 := by cases t <;> decide
theorem V_newa {t : Nat} {at' : ArrayType} {n : Int32} {r : Nat × zM} (ht : t < 3) (hat : newarray.typeOf at' = zpt t) (hw : Cond.arrayClass (zpt t) ∈ zw) (h : aA t M n = some r) (d : decode cc pc = .ok (.newarray at', 2)) (kk : V L X y cc nL ret dd M0 N Q r.2 (pc + 2) ls (.ref (zad L r.1) :: st)) : V L X y cc nL ret dd M0 N Q M pc ls (.int n :: st) := by
  unfold aA at h
  by_cases hn : ¬ n < 0 ∧ n.toNatClampNeg ≤ 100000
  · rw [if_pos hn] at h
    cases h
    obtain ⟨hn0, hn1⟩ := hn
    obtain ⟨⟨k1, k2⟩, k3⟩ := kk
    have k1' : mX M + 1 ≤ N.1 := k1
    have k2' : mS M + n.toNatClampNeg ≤ N.2 := k2
    refine ⟨⟨by omega, by omega⟩, fun g h1 h2 H locs la hH hS hL => ?_⟩
    have hO : zO L := g.2.2.2.2.2.2.2.2.2.1.1
    have hK := g.2.2.2.2.2.2.2.2.2.1.2.1
    have hts := g.2.2.2.2.1
    have hR := g.2.2.2.2.2.2.2.2.1
    have hcb := zcb at'
    refine va_newaK g.1 g.2.1 (atype := at') (by rw [hat]; exact hts _ hw) rfl d rfl hn0 rfl (Nat.le_trans (Nat.mul_le_mul hn1 hcb) (Nat.le_of_ble_eq_true rfl)) (by rw [hR]; show _ ≤ N.1 - mX M0; omega) (by rw [hR]; show _ ≤ N.2 - mS M0; omega) (zad_new hO hH).symm fun H1 cA e1 z1 o1 hAr hNm => ?_
    rw [show mX M - mX M0 + 1 = mX (nA M t n.toNatClampNeg) - mX M0 from by show _ = mX M + 1 - mX M0; omega, show mS M - mS M0 + n.toNatClampNeg = mS (nA M t n.toNatClampNeg) - mS M0 from by show _ = mS M + n.toNatClampNeg - mS M0; omega]
    rw [zad_new hO hH] at z1 o1
    have hcA : cA = zc L t := by
      rw [hat] at hNm
      match t, ht with
      | 0, _ => exact Option.some.inj (hNm.symm.trans (hK.2 0 _ (zty_i L)).2)
      | 1, _ => exact Option.some.inj (hNm.symm.trans (hK.2 1 _ (zty_b L)).2)
      | 2, _ => exact Option.some.inj (hNm.symm.trans (hK.2 2 _ (zty_z L)).2)
    have hdv : defaultValue (newarray.typeOf at') = .int 0 := by
      rw [hat]
      match t, ht with
      | 0, _ => rfl
      | 1, _ => rfl
      | 2, _ => rfl
    refine k3 g (by show mX M0 ≤ mX M + 1; omega) (by show mS M0 ≤ mS M + n.toNatClampNeg; omega) H1 locs la (vH.new (100 + t) hO hH (by omega) rfl rfl (fun a ha => ?_) (fun a ha => ?_) (fun a ha => rfl) (fun a ha c' => rfl) z1 o1 (fun c' e q0 q1 => by omega) (fun t' ht' e => ?_) (fun t' ht' e => by omega)) (zS_grow hS z1 o1) hL
    · simp [nA, mL, u1, ha]
    · funext j
      simp [nA, mA, ur, ha]
    · have e2 : t' = t := by omega
      subst e2
      show H1[zad L (mX M)]? = some (vp_cell _ _)
      rw [e1, hcA, hdv, vp_cell_i]
      simp [nA, mL, mA, u1, ur]
  · rw [if_neg hn] at h
    cases h
theorem V_newq {t : Nat} {ix : Nat} {n : Int32} {r : Nat × zM} (ht : t < 3) (hw : Cond.classLink y.cls ix (zet t) ∈ zw) (h : aQ t M n = some r) (d : decode cc pc = .ok (.anewarray ix, 3)) (kk : V L X y cc nL ret dd M0 N Q r.2 (pc + 3) ls (.ref (zad L r.1) :: st)) : V L X y cc nL ret dd M0 N Q M pc ls (.int n :: st) := by
  unfold aQ at h
  by_cases hn : ¬ n < 0 ∧ n.toNatClampNeg ≤ 100000
  · rw [if_pos hn] at h
    cases h
    obtain ⟨hn0, hn1⟩ := hn
    obtain ⟨⟨k1, k2⟩, k3⟩ := kk
    have k1' : mX M + 1 ≤ N.1 := k1
    have k2' : mS M + n.toNatClampNeg ≤ N.2 := k2
    refine ⟨⟨by omega, by omega⟩, fun g h1 h2 H locs la hH hS hL => ?_⟩
    have hO : zO L := g.2.2.2.2.2.2.2.2.2.1.1
    have hT := g.2.2.2.2.2.2.2.2.2.1
    have hK := hT.2.1
    have hts := g.2.2.2.2.1
    have hR := g.2.2.2.2.2.2.2.2.1
    refine W.anew g.1 g.2.1 g.2.2.2.1 (hts _ hw) (va_AO.use (hT.2.2.2.2.2.2.2.1 t ht)) rfl d rfl hn0 (by omega) (by rw [hR]; show _ ≤ N.1 - mX M0; omega) (by rw [hR]; show _ ≤ N.2 - mS M0; omega) fun cA kA comp f1 f2 f3 f4 => ?_
    generalize hH1 : H.push ({ cls := cA, slots := Array.replicate n.toNatClampNeg .null, vm := .none } : Cell) = H1
    have z1 : H1.size = H.size + 1 := by rw [← hH1, Array.size_push]
    have e1 : H1[H.size]? = some (arrV cA n.toNatClampNeg (fun _ => .null)) := by rw [← hH1, Array.getElem?_push_size, ← arrV_new]
    have o1 : ∀ q : Nat, q < H.size → H1[q]? = H[q]? := fun q hq => by rw [← hH1, Array.getElem?_push, if_neg (Nat.ne_of_lt hq)]
    rw [show mX M - mX M0 + 1 = mX (nQ M t n.toNatClampNeg) - mX M0 from by show _ = mX M + 1 - mX M0; omega, show mS M - mS M0 + n.toNatClampNeg = mS (nQ M t n.toNatClampNeg) - mS M0 from by show _ = mS M + n.toNatClampNeg - mS M0; omega]
    rw [← zad_new hO hH] at e1
    have hcA : cA = zc L (10 + t) := by
      obtain ⟨kA', comp', r1, r2, r3, r4⟩ := (hK.2 (3 + t) _ (zty_q L t (by omega))).2
      exact Option.some.inj (f1.symm.trans r4)
    have key := k3 g (by show mX M0 ≤ mX M + 1; omega) (by show mS M0 ≤ mS M + n.toNatClampNeg; omega) H1 locs la (vH.new (110 + t) hO hH (by omega) rfl rfl (fun a ha => ?_) (fun a ha => rfl) (fun a ha => ?_) (fun a ha c' => rfl) z1 o1 (fun c' e q0 q1 => by omega) (fun t' ht' e => by omega) (fun t' ht' e => ?_)) (zS_grow hS z1 o1) hL
    · rw [zad_new hO hH] at key
      exact key
    · simp [nQ, mL, u1, ha]
    · funext j
      simp [nQ, mQ, ur, ha]
    · have e2 : t' = t := by omega
      subst e2
      show H1[zad L (mX M)]? = some (vp_cell _ _)
      rw [e1, hcA, vp_cell_q]
      simp [nQ, mL, mQ, u1, ur, va_rf]
  · rw [if_neg hn] at h
    cases h
theorem V_gets {C n' d' ref : String} {v : Value} {ix : Nat} (hq : ((C, n', d', v) : String × String × String × Value) ∈ zst L) (hl : Cond.fieldLink y.cls ix ref n' d' ∈ zw) (hsame : ref = C) (d : decode cc pc = .ok (.getstatic ix, 3)) (kk : V L X y cc nL ret dd M0 N Q M (pc + 3) ls (v :: st)) : V L X y cc nL ret dd M0 N Q M pc ls st := by
  subst hsame
  refine ⟨kk.1, fun g h1 h2 H locs la hH hS hL => ?_⟩
  exact va_gets g.1 g.2.1 (g.2.2.2.2.2.2.2.2.2.1.2.2.2.1 _ hq) hS g.2.2.2.1 (g.2.2.2.2.1 _ hl) (fun _ q => q) d (kk.2 g h1 h2 H locs la hH hS hL)
theorem V_cast {a k ix NN : Nat} {C : String} {T : u_T} (hc : vwCl[k - 1]? = some (C, T, NN)) (k0 : 0 < k ∧ k < 100) (hv : mK M a = k ∨ mK M a = 300 + k) (hl : Cond.classLink y.cls ix C ∈ zw) (d : decode cc pc = .ok (.checkcast ix, 3)) (kk : V L X y cc nL ret dd M0 N Q M (pc + 3) ls (.ref (zad L a) :: st)) : V L X y cc nL ret dd M0 N Q M pc ls (.ref (zad L a) :: st) := by
  refine ⟨kk.1, fun g h1 h2 H locs la hH hS hL => ?_⟩
  have hK := g.2.2.2.2.2.2.2.2.2.1.2.1
  exact va_castS g.1 g.2.1 g.2.2.2.1 (g.2.2.2.2.1 _ hl) (hK.1 (k - 1) _ hc).2 (zrecv g.2.2.2.2.2.2.2.2.2.1 hS hc k0 hv hH) d (kk.2 g h1 h2 H locs la hH hS hL)
end ZNEW
