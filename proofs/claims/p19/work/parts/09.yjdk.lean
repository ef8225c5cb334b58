/-! ===== ROWS of the judgement that the JDK's own methods want: class objects, comparing references, copying rows, calls by an interface's name ===== -/
theorem ox0 {c : Prop} [Decidable c] {α : Type} {x : Option α} {r : α} (h : (if c then x else none) = some r) : c ∧ x = some r := by
  by_cases q : c
  · rw [if_pos q] at h; exact ⟨q, h⟩
  · rw [if_neg q] at h; cases h
section ZCPY
variable {p : Program} {l : Launch} {e : Env} {R : Room} {s : State} {m : MethodId} {args : Array Value} {below : List Frame} {meth : Method} {c : Code} {H : Heap} {locs : List Loc} {cells slots : Nat} {Q : State → Prop}
variable {cc : ByteArray} {pc : Nat} {ls : Array Slot} {rest : List Value} {D : va_G} {cl : List vw_C} {a : Nat} {tys : List (ClassId × FieldType)}
theorem zclamp (z : Int32) (hz : ¬ z < 0) : z.toInt = (z.toNatClampNeg : Int) := by
  have hz0 : (0 : Int) ≤ z.toInt := by
    have := Int32.not_lt.mp hz
    simpa using Int32.le_iff_toInt_le.mp this
  show z.toInt = ((z.toInt.toNat : Nat) : Int)
  omega
/-- what System.arraycopy asks for, by name -/
def zac (own : String) (ix : Nat) : Prop := Cond.methodLink own ix arraycopyName ∈ zw ∧ Cond.native arraycopyName ∈ zw ∧ Cond.static arraycopyName ∈ zw ∧ Cond.initialized "java/lang/System" ∈ zw
theorem zWcpi (hexec : p.tables.exec = Jvm.exec) (hb : c.code = cc) (hml : c.maxLocals = ls.size) {own : String} {ix : Nat} (hown : s.vm.findClass own = some m.cls) (hw : zac own ix) (hts : ∀ w ∈ zw, w.before args s = true) {a0 t : Nat} {L : zL} (hK : va_K D cl (zty L) s) {n0 n1 : Nat} {f g : Nat → Int32} (ht : t < 3)
    (hc0 : H[a0]? = some (vp_cell (zc L t) (n0, .inl f))) (hc1 : H[a]? = some (vp_cell (zc L t) (n1, .inl g))) {sp dp n : Int32} (h1 : ¬ sp < 0) (h2 : ¬ dp < 0) (h3 : ¬ n < 0) (h4 : sp.toNatClampNeg + n.toNatClampNeg ≤ n0) (h5 : dp.toNatClampNeg + n.toNatClampNeg ≤ n1) (hfit : ∀ i, i < n.toNatClampNeg → fits (zpt t) (.int (f (sp.toNatClampNeg + i))) = true)
    (hframes : 1 ≤ R.frames) (hlocals : (rest.map fun v => v.category).sum + (nativeFrameWords "java/lang/System" "arraycopy" 5 + 11) ≤ R.locals) (hdg : decode cc pc = .ok (.invokestatic ix, 3))
    (kk : ∀ (H1 : Heap) (L1 : List Loc), H1[a]? = some (vp_cell (zc L t) (n1, .inl (va_cpy f g sp.toNatClampNeg dp.toNatClampNeg n.toNatClampNeg))) → H1.size = H.size → (∀ q : Nat, q ≠ a → H1[q]? = H[q]?) → (∀ z ∈ L1, z.base = a) → W p l e R s m args below meth c H1 (locs ++ L1) cells slots Q (F0 m (pc + 3) ls rest)) : W p l e R s m args below meth c H locs cells slots Q (F0 m pc ls (.int n :: .int dp :: .ref a :: .int sp :: .ref a0 :: rest)) := by
  have hty : (zty L)[t]? = some (zc L t, zpt t) := by
    match t, ht with
    | 0, _ => rfl
    | 1, _ => rfl
    | 2, _ => rfl
  have hprim : refKind (zpt t) = false := by
    match t, ht with
    | 0, _ => rfl
    | 1, _ => rfl
    | 2, _ => rfl
  intro T hT X
  obtain ⟨-, k0, hk0, cm0, hkk0⟩ := (hK.2 t _ hty).1 n0 (fun j => .int (f j))
  obtain ⟨-, k1, hk1, cm1, hkk1⟩ := (hK.2 t _ hty).1 n1 (fun j => .int (g j))
  obtain ⟨vm', X', step⟩ := X.arraycopy hexec hown (hts _ hw.1) (hts _ hw.2.1) (hts _ hw.2.2.1) (hts _ hw.2.2.2) (src := a0) (dst := a) (cs := vp_cell (zc L t) (n0, .inl f)) (cd := vp_cell (zc L t) (n1, .inl g)) (srcPos := sp) (destPos := dp) (n := n) (by rw [hT]; exact hc0) (by rw [hT]; exact hc1)
    (fun _ h => by cases h) (fun _ h => by cases h) (fun h => by cases h) (fun h => by cases h) hk0 hk1 hkk0 hkk1 (by simp [hprim]) h1 h2 h3
    (by rw [zclamp sp h1, zclamp n h3]; show ¬ _ > ((arrV (zc L t) n0 (fun j => .int (f j))).slots.size : Int); rw [arrV_size]; omega)
    (by rw [zclamp dp h2, zclamp n h3]; show ¬ _ > ((arrV (zc L t) n1 (fun j => .int (g j))).slots.size : Int); rw [arrV_size]; omega)
    (fun vm₁ _ i hi => by
      have e : (vp_cell (zc L t) (n0, .inl f)).slots.getD (sp.toNatClampNeg + i) .null = .int (f (sp.toNatClampNeg + i)) := by
        show (arrV (zc L t) n0 (fun j => .int (f j))).slots.getD _ _ = _
        rw [Array.getD_eq_getD_getElem?, arrV_read _ _ (by omega)]
        rfl
      refine ⟨?_, ?_⟩
      · rw [e]
        exact hfit i hi
      · rw [e]
        exact trivial)
    (g := F0 m pc ls (.int n :: .int dp :: .ref a :: .int sp :: .ref a0 :: rest)) rfl (by rw [hml]) (rest := rest) rfl (by rw [hb]; exact hdg) hframes (by show 2 * 0 + _ + _ ≤ _; omega)
  have e1 : copied (vp_cell (zc L t) (n0, .inl f)) (vp_cell (zc L t) (n1, .inl g)) sp dp n = vp_cell (zc L t) (n1, .inl (va_cpy f g sp.toNatClampNeg dp.toNatClampNeg n.toNatClampNeg)) := va_copied (fun z => .int z) _ _ f g h4
  rw [e1] at X' step
  have hl : a < H.size := (Array.getElem?_eq_some_iff.mp hc1).1
  generalize hnew : vp_cell (zc L t) (n1, .inl (va_cpy f g sp.toNatClampNeg dp.toNatClampNeg n.toNatClampNeg)) = cn at X' step kk
  have hheap : ((T.setVm vm').setCell a cn).heap = H.setIfInBounds a cn := by rw [← hT]; rfl
  obtain ⟨t', a1, b1⟩ := kk (H.setIfInBounds a cn) _ (by simp [Array.getElem?_setIfInBounds, hl]) (by simp) (fun q hq => by simp [Array.getElem?_setIfInBounds, Ne.symm hq]) (fun z hz => by
    obtain ⟨w, -, hw⟩ := List.mem_map.mp hz
    rw [← hw]) _ hheap X'
  exact ⟨t', step t' a1, b1⟩
theorem zWcpq (hexec : p.tables.exec = Jvm.exec) (hb : c.code = cc) (hml : c.maxLocals = ls.size) {own : String} {ix : Nat} (hown : s.vm.findClass own = some m.cls) (hw : zac own ix) (hts : ∀ w ∈ zw, w.before args s = true) {a0 : Nat} {L : zL} (hK : va_K D cl (zty L) s) {n0 n1 : Nat} {f g : Nat → Option Nat}
    (hc0 : H[a0]? = some (vp_cell (zc L 10) (n0, .inr (.inr (.inr (.inr f)))))) (hc1 : H[a]? = some (vp_cell (zc L 10) (n1, .inr (.inr (.inr (.inr g)))))) {sp dp n : Int32} (h1 : ¬ sp < 0) (h2 : ¬ dp < 0) (h3 : ¬ n < 0) (h4 : sp.toNatClampNeg + n.toNatClampNeg ≤ n0) (h5 : dp.toNatClampNeg + n.toNatClampNeg ≤ n1)
    (hel : ∀ i : Nat, i < n.toNatClampNeg → ∀ y : Nat, f (sp.toNatClampNeg + i) = some y → ∃ (C : String) (cellV : Cell), H[y]? = some cellV ∧ cellV.vm.isStatics = false ∧ s.vm.findClass C = some cellV.cls ∧ ∀ comp c0 : ClassId, s.vm.findClass "java/lang/Object" = some comp → s.vm.findClass C = some c0 → s.vm.assignable c0 comp = true)
    (hframes : 1 ≤ R.frames) (hlocals : (rest.map fun v => v.category).sum + (nativeFrameWords "java/lang/System" "arraycopy" 5 + 11) ≤ R.locals) (hdg : decode cc pc = .ok (.invokestatic ix, 3))
    (kk : ∀ (H1 : Heap) (L1 : List Loc), H1[a]? = some (vp_cell (zc L 10) (n1, .inr (.inr (.inr (.inr (va_cpy f g sp.toNatClampNeg dp.toNatClampNeg n.toNatClampNeg)))))) → H1.size = H.size → (∀ q : Nat, q ≠ a → H1[q]? = H[q]?) → (∀ z ∈ L1, z.base = a) → W p l e R s m args below meth c H1 (locs ++ L1) cells slots Q (F0 m (pc + 3) ls rest)) : W p l e R s m args below meth c H locs cells slots Q (F0 m pc ls (.int n :: .int dp :: .ref a :: .int sp :: .ref a0 :: rest)) := by
  intro T hT X
  obtain ⟨-, k0, hk0, cm0, hkk0⟩ := (hK.2 3 _ (zty_q L 0 (by decide))).1 n0 (fun j => va_rf (f j))
  obtain ⟨-, k1, hk1, cm1, hkk1⟩ := (hK.2 3 _ (zty_q L 0 (by decide))).1 n1 (fun j => va_rf (g j))
  obtain ⟨vm', X', step⟩ := X.arraycopy hexec hown (hts _ hw.1) (hts _ hw.2.1) (hts _ hw.2.2.1) (hts _ hw.2.2.2) (src := a0) (dst := a) (cs := vp_cell (zc L 10) (n0, .inr (.inr (.inr (.inr f))))) (cd := vp_cell (zc L 10) (n1, .inr (.inr (.inr (.inr g))))) (srcPos := sp) (destPos := dp) (n := n) (by rw [hT]; exact hc0) (by rw [hT]; exact hc1)
    (fun _ h => by cases h) (fun _ h => by cases h) (fun h => by cases h) (fun h => by cases h) hk0 hk1 hkk0 hkk1 rfl h1 h2 h3
    (by rw [zclamp sp h1, zclamp n h3]; show ¬ _ > ((arrV (zc L 10) n0 (fun j => va_rf (f j))).slots.size : Int); rw [arrV_size]; omega)
    (by rw [zclamp dp h2, zclamp n h3]; show ¬ _ > ((arrV (zc L 10) n1 (fun j => va_rf (g j))).slots.size : Int); rw [arrV_size]; omega)
    (fun vm₁ hal i hi => by
      have e : (vp_cell (zc L 10) (n0, .inr (.inr (.inr (.inr f))))).slots.getD (sp.toNatClampNeg + i) .null = va_rf (f (sp.toNatClampNeg + i)) := by
        show (arrV (zc L 10) n0 (fun j => va_rf (f j))).slots.getD _ _ = _
        rw [Array.getD_eq_getD_getElem?, arrV_read _ _ (by omega)]
        rfl
      rw [e]
      cases hy : f (sp.toNatClampNeg + i) with
      | none => exact ⟨rfl, trivial⟩
      | some y =>
        obtain ⟨C, cellV, g1, g2, g3, g4⟩ := hel i hi y hy
        obtain ⟨kA, comp, r1, r2, r3, -⟩ := (hK.2 3 _ (zty_q L 0 (by decide))).2
        cases hk1.symm.trans r1
        cases hkk1.symm.trans r2
        obtain ⟨kC, hkC, -⟩ := Vm.findClass_spec g3
        obtain ⟨kE, hkE, -⟩ := Vm.findClass_spec r3
        obtain ⟨kC', hkC', -⟩ := hal.2.2 _ _ hkC
        obtain ⟨kE', hkE', -⟩ := hal.2.2 _ _ hkE
        refine ⟨rfl, cellV, (show T.heap[y]? = some cellV by rw [hT]; exact g1), (fun q h => by rw [h] at g2; cases g2), ⟨kC', hkC'⟩, ?_, ?_⟩
        · exact ⟨kE', hkE'⟩
        · show vm₁.assignable _ _ = true
          rw [hal.assignable]
          exact g4 _ _ r3 g3)
    (g := F0 m pc ls (.int n :: .int dp :: .ref a :: .int sp :: .ref a0 :: rest)) rfl (by rw [hml]) (rest := rest) rfl (by rw [hb]; exact hdg) hframes (by show 2 * 0 + _ + _ ≤ _; omega)
  have e1 : copied (vp_cell (zc L 10) (n0, .inr (.inr (.inr (.inr f))))) (vp_cell (zc L 10) (n1, .inr (.inr (.inr (.inr g))))) sp dp n = vp_cell (zc L 10) (n1, .inr (.inr (.inr (.inr (va_cpy f g sp.toNatClampNeg dp.toNatClampNeg n.toNatClampNeg))))) := va_copied (fun z => va_rf z) _ _ f g h4
  rw [e1] at X' step
  have hl : a < H.size := (Array.getElem?_eq_some_iff.mp hc1).1
  generalize hnew : vp_cell (zc L 10) (n1, .inr (.inr (.inr (.inr (va_cpy f g sp.toNatClampNeg dp.toNatClampNeg n.toNatClampNeg))))) = cn at X' step kk
  have hheap : ((T.setVm vm').setCell a cn).heap = H.setIfInBounds a cn := by rw [← hT]; rfl
  obtain ⟨t', a1, b1⟩ := kk (H.setIfInBounds a cn) _ (by simp [Array.getElem?_setIfInBounds, hl]) (by simp) (fun q hq => by simp [Array.getElem?_setIfInBounds, Ne.symm hq]) (fun z hz => by
    obtain ⟨w, -, hw⟩ := List.mem_map.mp hz
    rw [← hw]) _ hheap X'
  exact ⟨t', step t' a1, b1⟩
end ZCPY
theorem zS_puts {L : zL} {H0 H H1 : Heap} {locs L1 : List Loc} {a : Nat} (hA : zA L a) (hS : va_S (zA L) H0 H locs) (hz1 : H1.size = H.size) (hq1 : ∀ q : Nat, q ≠ a → H1[q]? = H[q]?) (hb1 : ∀ z ∈ L1, z.base = a) : va_S (zA L) H0 H1 (locs ++ L1) := by
  refine ⟨by rw [hz1]; exact hS.1, fun q' g1 g2 => ?_, fun q' hq' => ?_⟩
  · rw [hq1 q' (fun e => g2 (by rw [e]; exact hA))]
    exact hS.2.1 q' g1 g2
  · rcases List.mem_append.mp hq' with e | e
    · exact hS.2.2 q' e
    · rw [hb1 q' e]
      exact hA
/-- copying within rows of numbers; of references (elements: known objects) -/
abbrev zcpok (n0 n1 : Nat) (sp dp n : Int32) : Prop := ¬ sp < 0 ∧ ¬ dp < 0 ∧ ¬ n < 0 ∧ sp.toNatClampNeg + n.toNatClampNeg ≤ n0 ∧ dp.toNatClampNeg + n.toNatClampNeg ≤ n1
def yI (t : Nat) (M : zM) (a : Nat) (sp : Int32) (b : Nat) (dp n : Int32) : Option zM :=
  if mK M a = 100 + t ∧ mK M b = 100 + t ∧ zcpok (mL M a) (mL M b) sp dp n ∧ (∀ i, i < n.toNatClampNeg → fits (zpt t) (.int (mA M a (sp.toNatClampNeg + i))) = true) then some (sAr M b (va_cpy (mA M a) (mA M b) sp.toNatClampNeg dp.toNatClampNeg n.toNatClampNeg)) else none
/-- kinds whose objects lie in rows of Object -/
abbrev zels (k : Nat) : Prop := k = 11 ∨ k = 303
def yQ (M : zM) (a : Nat) (sp : Int32) (b : Nat) (dp n : Int32) : Option zM :=
  if mK M a = 110 ∧ mK M b = 110 ∧ zcpok (mL M a) (mL M b) sp dp n ∧ (∀ i, i < n.toNatClampNeg → ∀ v ∈ mQ M a (sp.toNatClampNeg + i), zels (mK M v)) then some (sQr M b (va_cpy (mQ M a) (mQ M b) sp.toNatClampNeg dp.toNatClampNeg n.toNatClampNeg)) else none
theorem va_cpy_map (f g : Nat → Option Nat) (ad : Nat → Nat) (sp dp n : Nat) : va_cpy (fun i => (f i).map ad) (fun i => (g i).map ad) sp dp n = fun i => (va_cpy f g sp dp n i).map ad := by
  funext i
  unfold va_cpy
  split <;> rfl
section ZJ
variable {L : zL} {X : zX} {y : MethodName} {cc : ByteArray} {nL : Nat} {ret : Option FieldType} {dd : Nat} {M0 : zM} {N : Nat × Nat} {Q : State → Prop} {M : zM} {pc : Nat} {ls : List (Nat × Value)} {st : List Value}
theorem V_copyI {t a b ix : Nat} {sp dp n : Int32} {M1 : zM} (ht : t < 3) (h : yI t M a sp b dp n = some M1) (hw : zac y.cls ix) (hd : 1 ≤ dd) (hcat : (st.map fun v => v.category).sum ≤ 8) (d : decode cc pc = .ok (.invokestatic ix, 3)) (kk : V L X y cc nL ret dd M0 N Q M1 (pc + 3) ls st) : V L X y cc nL ret dd M0 N Q M pc ls (.int n :: .int dp :: .ref (zad L b) :: .int sp :: .ref (zad L a) :: st) := by
  obtain ⟨⟨ka, kb, ⟨h1, h2, h3, h4, h5⟩, hfit⟩, h⟩ := ox0 h
  cases h
  refine ⟨kk.1, fun g g1 g2 H locs la hH hS hL => ?_⟩
  have hT := g.2.2.2.2.2.2.2.2.2.1
  have hK := hT.2.1
  have hO := hT.1
  have hR := g.2.2.2.2.2.2.2.2.1
  have hb : 1000 ≤ b := hH.2.2.1 b (by omega) (by omega)
  have hca := hH.2.2.2.2.1 a t ht ka
  have hcb := hH.2.2.2.2.1 b t ht kb
  refine zWcpi g.1 g.2.1 (g.2.2.1.trans hL.1.symm) g.2.2.2.1 hw g.2.2.2.2.1 hK ht hca hcb h1 h2 h3 h4 h5 hfit (by rw [hR]; exact hd) (by rw [hR]; show _ + (nativeFrameWords "java/lang/System" "arraycopy" 5 + 11) ≤ 64 * dd; have hw30 : nativeFrameWords "java/lang/System" "arraycopy" 5 ≤ 30 := (by decide); omega) d fun H1 L1 hat hz hq hb1 => ?_
  refine kk.2 g g1 g2 H1 _ la (hH.iar (t := t) hO kb ht rfl rfl rfl (fun b' hb' => ?_) rfl (fun _ _ => rfl) hz hq ?_) (zS_puts (zA_ad hO hb) hS hz hq hb1) hL
  · funext j
    simp [sAr, mA, ur, hb']
  · show H1[zad L b]? = some (vp_cell _ _)
    rw [hat]
    congr 4
    funext j
    simp [sAr, mA, ur]
theorem V_copyQ {a b ix : Nat} {sp dp n : Int32} {M1 : zM} (h : yQ M a sp b dp n = some M1) (hg1 : zgo 11 0) (hg2 : zgo 3 0) (hw : zac y.cls ix) (hd : 1 ≤ dd) (hcat : (st.map fun v => v.category).sum ≤ 8) (d : decode cc pc = .ok (.invokestatic ix, 3)) (kk : V L X y cc nL ret dd M0 N Q M1 (pc + 3) ls st) : V L X y cc nL ret dd M0 N Q M pc ls (.int n :: .int dp :: .ref (zad L b) :: .int sp :: .ref (zad L a) :: st) := by
  obtain ⟨⟨ka, kb, ⟨h1, h2, h3, h4, h5⟩, hels⟩, h⟩ := ox0 h
  cases h
  refine ⟨kk.1, fun g g1 g2 H locs la hH hS hL => ?_⟩
  have hT := g.2.2.2.2.2.2.2.2.2.1
  have hK := hT.2.1
  have hO := hT.1
  have hR := g.2.2.2.2.2.2.2.2.1
  have hb : 1000 ≤ b := hH.2.2.1 b (by omega) (by omega)
  have hca := hH.2.2.2.2.2.1 a 0 (by decide) ka
  have hcb := hH.2.2.2.2.2.1 b 0 (by decide) kb
  refine zWcpq g.1 g.2.1 (g.2.2.1.trans hL.1.symm) g.2.2.2.1 hw g.2.2.2.2.1 hK hca hcb h1 h2 h3 h4 h5 (fun i hi z hz => ?_) (by rw [hR]; exact hd) (by rw [hR]; show _ + (nativeFrameWords "java/lang/System" "arraycopy" 5 + 11) ≤ 64 * dd; have hw30 : nativeFrameWords "java/lang/System" "arraycopy" 5 ≤ 30 := (by decide); omega) d fun H1 L1 hat hz hq hb1 => ?_
  · cases hq : mQ M a (sp.toNatClampNeg + i) with
    | none => rw [hq] at hz; cases hz
    | some v =>
      rw [hq] at hz
      cases hz
      have hv := hels i hi v (by rw [hq]; exact rfl)
      have fin : ∀ k, zgo k 0 → (mK M v = k ∨ mK M v = 300 + k) → ∃ (C : String) (cellV : Cell), H[zad L v]? = some cellV ∧ cellV.vm.isStatics = false ∧ X.2.2.2.2.1.vm.findClass C = some cellV.cls ∧ ∀ comp c0 : ClassId, X.2.2.2.2.1.vm.findClass "java/lang/Object" = some comp → X.2.2.2.2.1.vm.findClass C = some c0 → X.2.2.2.2.1.vm.assignable c0 comp = true := by
        intro k hgk hvk
        obtain ⟨k0, k1, C, T, NN, hc, hcast⟩ := hgk
        obtain ⟨cell, r1, r2, r3⟩ := zrecv hT hS hc ⟨k0, k1⟩ hvk hH
        refine ⟨C, cell, r1, r2, r3, fun comp c0 e1 e2 => ?_⟩
        rcases hcast with e | e
        · have e' : C = "java/lang/Object" := e
          rw [e', e1] at e2
          cases e2
          rw [e', e1] at r3
          exact va_asg _ _
        · obtain ⟨c1, t1, f1, f2, f3⟩ := Cond.castable_spec (va_Nw.use (A := X.2.2.2.2.2.2.1) rfl (hT.2.2.1 _ e))
          cases e2.symm.trans f1
          cases e1.symm.trans f2
          exact f3
      rcases hv with hv | hv
      · exact fin 11 hg1 (Or.inl hv)
      · exact fin 3 hg2 (Or.inr hv)
  refine kk.2 g g1 g2 H1 _ la (hH.qar (t := 0) hO kb (by decide) rfl rfl rfl rfl (fun b' hb' => ?_) (fun _ _ => rfl) hz hq ?_) (zS_puts (zA_ad hO hb) hS hz hq hb1) hL
  · funext j
    simp [sQr, mQ, ur, hb']
  · show H1[zad L b]? = some (vp_cell _ _)
    rw [hat, va_cpy_map]
    congr 7
    funext j
    simp [sQr, mQ, ur]
/-- comparing references: of two places that aren't one, one lies behind the law's entry -/
theorem zad_inj {a b : Nat} (hO : zO L) (hn : (1000 ≤ a ∨ 1000 ≤ b) ∧ a ≠ 8 ∧ b ≠ 8) (e : zad L a = zad L b) : a = b := by
  rcases Nat.decEq a b with q | q
  · rcases hn with ⟨h | h, h8, h9⟩
    · exact absurd e.symm (zad_ne hO h (Ne.symm q) h9)
    · exact absurd e (zad_ne hO h q h8)
  · exact q
theorem V_acmp_eq {a b : Nat} {off : Int} {tgt : Nat} (hn : a = b ∨ ((1000 ≤ a ∨ 1000 ≤ b) ∧ a ≠ 8 ∧ b ≠ 8)) (d : decode cc pc = .ok (.if_acmp .eq off, 3)) (ht : (pc : Int) + off = (tgt : Int)) (kt : a = b → V L X y cc nL ret dd M0 N Q M tgt ls st) (kf : ¬ a = b → V L X y cc nL ret dd M0 N Q M (pc + 3) ls st) : V L X y cc nL ret dd M0 N Q M pc ls (.ref (zad L b) :: .ref (zad L a) :: st) := by
  by_cases q : a = b
  · refine ⟨(kt q).1, fun g h1 h2 H locs la hH hS hL => ?_⟩
    exact lv_acmp_eq (rx := some (zad L a)) (ry := some (zad L b)) g.1 g.2.1 d ht (fun _ => (kt q).2 g h1 h2 H locs la hH hS hL) (fun e => absurd (by rw [q]) e)
  · refine ⟨(kf q).1, fun g h1 h2 H locs la hH hS hL => ?_⟩
    have hO := g.2.2.2.2.2.2.2.2.2.1.1
    exact lv_acmp_eq (rx := some (zad L a)) (ry := some (zad L b)) g.1 g.2.1 d ht (fun e => absurd (zad_inj hO (hn.resolve_left q) (Option.some.inj e)) q) (fun _ => (kf q).2 g h1 h2 H locs la hH hS hL)
theorem V_acmp_ne {a b : Nat} {off : Int} {tgt : Nat} (hn : a = b ∨ ((1000 ≤ a ∨ 1000 ≤ b) ∧ a ≠ 8 ∧ b ≠ 8)) (d : decode cc pc = .ok (.if_acmp .ne off, 3)) (ht : (pc : Int) + off = (tgt : Int)) (kt : ¬ a = b → V L X y cc nL ret dd M0 N Q M tgt ls st) (kf : a = b → V L X y cc nL ret dd M0 N Q M (pc + 3) ls st) : V L X y cc nL ret dd M0 N Q M pc ls (.ref (zad L b) :: .ref (zad L a) :: st) := by
  by_cases q : a = b
  · refine ⟨(kf q).1, fun g h1 h2 H locs la hH hS hL => ?_⟩
    exact lv_acmp_ne (rx := some (zad L a)) (ry := some (zad L b)) g.1 g.2.1 d ht (fun e => absurd (by rw [q]) e) (fun _ => (kf q).2 g h1 h2 H locs la hH hS hL)
  · refine ⟨(kt q).1, fun g h1 h2 H locs la hH hS hL => ?_⟩
    have hO := g.2.2.2.2.2.2.2.2.2.1.1
    exact lv_acmp_ne (rx := some (zad L a)) (ry := some (zad L b)) g.1 g.2.1 d ht (fun _ => (kt q).2 g h1 h2 H locs la hH hS hL) (fun e => absurd (zad_inj hO (hn.resolve_left q) (Option.some.inj e)) q)
/-- the class object of Object[] lies at place 8 -/
theorem V_ldcM {ix : Nat} (hl : Cond.classLink y.cls ix "[Ljava/lang/Object;" ∈ zw) (d : decode cc pc = .ok (.ldc ix, 2)) (kk : V L X y cc nL ret dd M0 N Q M (pc + 2) ls (.ref (zad L 8) :: st)) : V L X y cc nL ret dd M0 N Q M pc ls st := by
  refine ⟨kk.1, fun g h1 h2 H locs la hH hS hL => ?_⟩
  have hT := g.2.2.2.2.2.2.2.2.2.1
  exact va_ldcM g.1 g.2.1 g.2.2.2.1 (g.2.2.2.2.1 _ hl) hT.2.2.2.2.2.2.2.2.2.2.2.1 d (kk.2 g h1 h2 H locs la hH hS hL)
abbrev zgcn : MethodName := ⟨"java/lang/Object", "getClass", "()Ljava/lang/Class;"⟩
theorem zaO {H : Heap} {a : Nat} {s : State} (hK : va_K (zD L) vwCl (zty L) s) (ha : mK M a = 110) (hH : vH L M H) : ∃ cell : Cell, H[zad L a]? = some cell ∧ cell.vm.isStatics = false ∧ s.vm.findClass "[Ljava/lang/Object;" = some cell.cls := by
  refine ⟨_, hH.2.2.2.2.2.1 a 0 (by decide) ha, rfl, ?_⟩
  exact va_nmO (hK.2 3 _ (zty_q L 0 (by decide))).2 rfl
theorem V_getC {ix a : Nat} (ha : mK M a = 110) (hl : Cond.methodLink y.cls ix zgcn ∈ zw ∧ Cond.declares zgcn ∈ zsp ∧ Cond.selects "[Ljava/lang/Object;" zgcn zgcn ∈ zw ∧ Cond.instanceMethod zgcn ∈ zw ∧ Cond.native zgcn ∈ zw) (hd : 1 ≤ dd) (hcat : (st.map fun v => v.category).sum ≤ 8) (d : decode cc pc = .ok (.invokevirtual ix, 3)) (kk : V L X y cc nL ret dd M0 N Q M (pc + 3) ls (.ref (zad L 8) :: st)) : V L X y cc nL ret dd M0 N Q M pc ls (.ref (zad L a) :: st) := by
  refine ⟨kk.1, fun g h1 h2 H locs la hH hS hL => ?_⟩
  have hT := g.2.2.2.2.2.2.2.2.2.1
  have hts := g.2.2.2.2.1
  have hR := g.2.2.2.2.2.2.2.2.1
  exact va_getC g.1 g.2.1 (g.2.2.1.trans hL.1.symm) g.2.2.2.1 (hts _ hl.1) (va_Nw.use rfl (hT.2.2.1 _ hl.2.1)) (hts _ hl.2.2.1) (hts _ hl.2.2.2.1) (hts _ hl.2.2.2.2) hT.2.2.2.2.2.2.2.2.2.2.2.1 (zaO hT.2.1 ha hH) (by rw [hR]; exact hd) (by rw [hR]; show _ + 14 ≤ 64 * dd; omega) d (kk.2 g h1 h2 H locs la hH hS hL)
theorem V_castO {ix a : Nat} (ha : mK M a = 110) (hl : Cond.classLink y.cls ix "[Ljava/lang/Object;" ∈ zw) (d : decode cc pc = .ok (.checkcast ix, 3)) (kk : V L X y cc nL ret dd M0 N Q M (pc + 3) ls (.ref (zad L a) :: st)) : V L X y cc nL ret dd M0 N Q M pc ls (.ref (zad L a) :: st) := by
  refine ⟨kk.1, fun g h1 h2 H locs la hH hS hL => ?_⟩
  have hT := g.2.2.2.2.2.2.2.2.2.1
  exact va_castA g.1 g.2.1 g.2.2.2.1 (g.2.2.2.2.1 _ hl) (zone (hH.2.2.2.2.2.1 a 0 (by decide) ha)) 0 rfl (va_nmO (hT.2.1.2 3 _ (zty_q L 0 (by decide))).2 rfl) d (kk.2 g h1 h2 H locs la hH hS hL)
/-- a call by an interface's name -/
theorem V_callF {y' x : MethodName} {cc' : ByteArray} {n' : Nat} {ret' : Option FieldType} {d' : Nat} {v : Option Value} {M1 : zM} {ix k cnt : Nat} {As rest : List Value} {b : Nat} {kb NN : Nat} {C : String} {T : u_T} (hC : CP L X.2.1 y' cc' n' ret' d' M (.ref (zad L b) :: As) v M1) (hf : zcf y' cc' n' ret' k) (hn : As.length = k) (hd : d' + 1 ≤ dd) (hc : vwCl[kb - 1]? = some (C, T, NN)) (k0 : 0 < kb ∧ kb < 100) (hv : mK M b = kb ∨ mK M b = 300 + kb)
    (hl : Cond.methodLink y.cls ix x ∈ zw ∧ Cond.selects C x y' ∈ zw ∧ Cond.instanceMethod y' ∈ zw) (hfw : (C, x, y') ∈ zfw) (hx : (parseMethodDescriptor x.desc).map (fun d => d.parameters.length) = some k) (hcat : (rest.map fun v => v.category).sum ≤ 8) (hst : st = As.reverse ++ .ref (zad L b) :: rest) (d : decode cc pc = .ok (.invokeinterface ix cnt, 5)) (kk : V L X y cc nL ret dd M0 N Q M1 (pc + 5) ls (v.toList ++ rest)) : V L X y cc nL ret dd M0 N Q M pc ls st := by
  subst hst
  have hm := hC.1 X
  obtain ⟨⟨k1, k2⟩, k3⟩ := kk
  refine ⟨⟨by omega, by omega⟩, fun g h1 h2 H locs la hH hS hL => ?_⟩
  have hT := g.2.2.2.2.2.2.2.2.2.1
  have hK := hT.2.1
  have hts := g.2.2.2.2.1
  have hR := g.2.2.2.2.2.2.2.2.1
  have hxm := zfw_mh _ hfw
  have hG : GoodIn zw (va_wsF y.cls ix C x y' (zws y' cc' n' ret')) := by
    intro w hw
    unfold va_wsF at hw
    rcases List.mem_append.mp hw with e | e
    · simp only [List.mem_cons, List.not_mem_nil, or_false] at e
      rcases e with rfl | rfl | rfl | rfl
      · exact zw_good _ hl.1
      · exact zw_good _ hl.2.1
      · exact zw_good _ hl.2.2
      · exact zw_good _ hf.2.1
    · exact zws_good hf.1 w e
  refine zrun5 (va_runF (As := As) (rest := rest) (hK.1 (kb - 1) _ hc).2 ⟨g.1, g.2.1, g.2.2.1, g.2.2.2.1, hts⟩ (hC.2 g.2.2.2.2.2.2.2.2.2.2.1) (va_cwF k hts hG rfl rfl rfl (hT.2.2.2.2.2.2.2.2.2.2.1 _ hfw) ⟨hxm.1, hxm.2, hx⟩ ⟨by rw [hR]; exact hd, by rw [hR]; show 8 + (n' + 11) + 64 * d' ≤ 64 * dd; have := hf.2.2.2.2; omega⟩) ⟨(zpre hT hH hS (.ref (zad L b) :: As)).1, zrecv hT hS hc k0 hv hH, (zpre hT hH hS (.ref (zad L b) :: As)).2⟩ rfl hn hL.1 rfl (by show 2 * 0 + _ ≤ 8; omega) d ⟨by rw [hR]; show _ ≤ N.1 - mX M0; omega, by rw [hR]; show _ ≤ N.2 - mS M0; omega⟩) hS fun H1 locs1 hH1 hS1 => ?_
  rw [show mX M - mX M0 + (mX M1 - mX M) = mX M1 - mX M0 from by omega, show mS M - mS M0 + (mS M1 - mS M) = mS M1 - mS M0 from by omega]
  exact k3 g (by omega) (by omega) H1 locs1 la hH1 hS1 hL
end ZJ
