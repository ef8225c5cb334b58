/-! ===== ROWS of the judgement: a row of bytes, copied whole ===== -/
section ZCLN
variable {p : Program} {l : Launch} {e : Env} {R : Room} {s : State} {m : MethodId} {args : Array Value} {below : List Frame} {meth : Method} {c : Code} {H : Heap} {locs : List Loc} {cells slots : Nat} {Q : State → Prop}
variable {cc : ByteArray} {pc : Nat} {ls : Array Slot} {rest : List Value} {a : Nat}
/-- what a clone asks for, by name -/
def zclw (own : String) (ix : Nat) (ad : String) : Prop := Cond.methodLink own ix ⟨ad, "clone", "()Ljava/lang/Object;"⟩ ∈ zw ∧ Cond.sameMethod ad "java/lang/Object" "clone" "()Ljava/lang/Object;" ∈ zw ∧ Cond.native ⟨"java/lang/Object", "clone", "()Ljava/lang/Object;"⟩ ∈ zw ∧ Cond.instanceMethod ⟨"java/lang/Object", "clone", "()Ljava/lang/Object;"⟩ ∈ zw ∧ Cond.selects ad ⟨ad, "clone", "()Ljava/lang/Object;"⟩ ⟨"java/lang/Object", "clone", "()Ljava/lang/Object;"⟩ ∈ zw ∧ Cond.castable ad "java/lang/Cloneable" ∈ zsp
theorem zWcl (hexec : p.tables.exec = Jvm.exec) (hb : c.code = cc) (hml : c.maxLocals = ls.size) {own ad : String} {ix : Nat} (hown : s.vm.findClass own = some m.cls) (hw : zclw own ix ad) (hts : ∀ w ∈ zw, w.before args s = true) (hsp : ∀ w ∈ zsp, va_Nw w s) {cA : ClassId} {x : vp_A} {ty : FieldType} (hk1 : s.isArrayOf (arrV cA 0 (fun _ => .null)) ty) (hc1 : H[a]? = some (vp_cell cA x))
    (hnm : s.vm.findClass ad = some cA) (hfit : ∀ (i : Nat) (v : Value), (vp_cell cA x).slots[i]? = some v → fits ty v = true)
    (hframes : 1 ≤ R.frames) (hlocals : (rest.map fun v => v.category).sum + 14 ≤ R.locals) (hcells : cells + 1 ≤ R.cells) (hslots : slots + x.1 ≤ R.slots) (hdg : decode cc pc = .ok (.invokevirtual ix, 3))
    (kk : ∀ H1 : Heap, H1[H.size]? = some (vp_cell cA x) → H1.size = H.size + 1 → (∀ q : Nat, q < H.size → H1[q]? = H[q]?) → W p l e R s m args below meth c H1 locs (cells + 1) (slots + x.1) Q (F0 m (pc + 3) ls (.ref H.size :: rest))) : W p l e R s m args below meth c H locs cells slots Q (F0 m pc ls (.ref a :: rest)) := by
  have hsz : (vp_cell cA x).slots.size = x.1 := by
    obtain ⟨n, f | f | f | f | f⟩ := x <;> exact arrV_size _ _ _
  have hvm0 : (vp_cell cA x).vm = .none := by
    obtain ⟨n, f | f | f | f | f⟩ := x <;> rfl
  have hcl0 : (vp_cell cA x).cls = cA := by
    obtain ⟨n, f | f | f | f | f⟩ := x <;> rfl
  have hcellE : ({ cls := (vp_cell cA x).cls, slots := (vp_cell cA x).slots } : Cell) = vp_cell cA x := by
    obtain ⟨n, f | f | f | f | f⟩ := x <;> rfl
  obtain ⟨c0, t0', f1, f2, f3⟩ := Cond.castable_spec (va_Nw.use (A := args) rfl (hsp _ hw.2.2.2.2.2))
  cases hnm.symm.trans f1
  intro T hT X
  have hcellT : T.heap[a]? = some (vp_cell cA x) := by rw [hT]; exact hc1
  obtain ⟨-, kA, hkA, comp, hkind⟩ := State.isArrayOf_alike X.warmed.alike hk1
  obtain ⟨-, kS, hkS, compS, hkindS⟩ := hk1
  obtain ⟨vm', X', st⟩ := X.cloneArray hexec hown (hts _ hw.1) (hts _ hw.2.1) (hts _ hw.2.2.1) (hts _ hw.2.2.2.1) (hts _ hw.2.2.2.2.1) (a := a) (cell := vp_cell cA x) hcellT (fun k h => by rw [hvm0] at h; cases h) (by rw [hvm0]; exact fun h => by cases h) (by rw [hcl0]; exact hnm) f2 (by rw [hcl0]; exact f3)
    (fun i v hv => by
      rw [hcl0]
      have hk' : T.vm.classes[cA]? = some kA := hkA
      simpa [State.fitsSlot, State.slotType?, hk', hkind] using hfit i v hv)
    (g := F0 m pc ls (.ref a :: rest)) rfl (by rw [hml]) rfl (by rw [hb]; exact hdg) hframes (by show 2 * 0 + _ + 14 ≤ _; omega) hcells (by rw [hsz]; exact hslots) (hloader := by rw [hcl0]; exact Vm.clonesLoader_of_array hkS hkindS)
  rw [hcellE, hsz] at X'
  generalize hH1 : H.push (vp_cell cA x) = H1
  obtain ⟨t, b1, b2⟩ := kk H1 (by rw [← hH1, Array.getElem?_push_size]) (by rw [← hH1, Array.size_push]) (fun q hq => by rw [← hH1, Array.getElem?_push, if_neg (Nat.ne_of_lt hq)])
    ((T.setVm vm').pushCell (vp_cell cA x)) (by rw [← hH1, ← hT]; rfl) X'
  refine ⟨t, st t ?_, b2⟩
  rw [hcellE, hT]
  exact b1
end ZCLN
/-- a whole copy of a row of bytes: its place, the memory with it -/
def aC (M : zM) (a : Nat) : Option (Nat × zM) := if mK M a = 101 ∧ (∀ i, i < mL M a → fits .byte (.int (mA M a i)) = true) then some (mX M, sAr (nA M 1 (mL M a)) (mX M) (mA M a)) else none
section ZCLV
variable {L : zL} {X : zX} {y : MethodName} {cc : ByteArray} {nL : Nat} {ret : Option FieldType} {dd : Nat} {M0 : zM} {N : Nat × Nat} {Q : State → Prop} {M : zM} {pc : Nat} {ls : List (Nat × Value)} {st : List Value}
theorem V_cloneB {a ix : Nat} {r : Nat × zM} (h : aC M a = some r) (hw : zclw y.cls ix "[B") (hd : 1 ≤ dd) (hcat : (st.map fun v => v.category).sum ≤ 8) (d : decode cc pc = .ok (.invokevirtual ix, 3)) (kk : V L X y cc nL ret dd M0 N Q r.2 (pc + 3) ls (.ref (zad L r.1) :: st)) : V L X y cc nL ret dd M0 N Q M pc ls (.ref (zad L a) :: st) := by
  unfold aC at h
  by_cases hn : mK M a = 101 ∧ (∀ i, i < mL M a → fits .byte (.int (mA M a i)) = true)
  · rw [if_pos hn] at h
    cases h
    obtain ⟨hka, hfit⟩ := hn
    obtain ⟨⟨k1, k2⟩, k3⟩ := kk
    have k1' : mX M + 1 ≤ N.1 := k1
    have k2' : mS M + mL M a ≤ N.2 := k2
    refine ⟨⟨by omega, by omega⟩, fun g h1 h2 H locs la hH hS hL => ?_⟩
    have hT := g.2.2.2.2.2.2.2.2.2.1
    have hO : zO L := hT.1
    have hK := hT.2.1
    have hts := g.2.2.2.2.1
    have hR := g.2.2.2.2.2.2.2.2.1
    have hat := hH.2.2.2.2.1 a 1 (by decide) hka
    refine zWcl (x := (mL M a, .inl (mA M a))) g.1 g.2.1 (g.2.2.1.trans hL.1.symm) g.2.2.2.1 hw hts hT.2.2.1 ((hK.2 1 _ (zty_b L)).1 0 (fun _ => .null)) hat (va_nm_byte (hK.2 1 _ (zty_b L)).2) (va_fit (n := mL M a) (F := fun j => .int (mA M a j)) (fun i hi => hfit i hi)) (by rw [hR]; exact hd) (by rw [hR]; show _ + 14 ≤ 64 * dd; omega) (by rw [hR]; show _ ≤ N.1 - mX M0; omega) (by rw [hR]; show _ ≤ N.2 - mS M0; show mS M - mS M0 + mL M a ≤ _; omega) d fun H1 e1 z1 o1 => ?_
    show W _ _ _ _ _ _ _ _ _ _ _ _ (mX M - mX M0 + 1) (mS M - mS M0 + mL M a) _ _
    rw [show mX M - mX M0 + 1 = mX (sAr (nA M 1 (mL M a)) (mX M) (mA M a)) - mX M0 from by show _ = mX M + 1 - mX M0; omega, show mS M - mS M0 + mL M a = mS (sAr (nA M 1 (mL M a)) (mX M) (mA M a)) - mS M0 from by show _ = mS M + mL M a - mS M0; omega]
    rw [← zad_new hO hH] at e1 ⊢
    have z1' := z1
    refine k3 g (by show mX M0 ≤ mX M + 1; omega) (by show mS M0 ≤ mS M + mL M a; omega) H1 locs la (vH.new 101 hO hH (by omega) rfl rfl (fun b hb => ?_) (fun b hb => ?_) (fun b hb => rfl) (fun b hb c' => rfl) z1 o1 (fun c' e q0 q1 => by omega) (fun t' ht' e => ?_) (fun t' ht' e => by omega)) (zS_grow hS z1 o1) hL
    · simp [sAr, nA, mL, u1, hb]
    · funext j
      simp [sAr, nA, mA, ur, hb]
    · have e2 : t' = 1 := by omega
      subst e2
      have e3 : ur (ur (mA M) (mX M) fun _ => 0) (mX M) (mA M a) (mX M) = mA M a := by
        funext j
        simp [ur]
      have e4 : u1 (mL M) (mX M) (mL M a) (mX M) = mL M a := by simp [u1]
      show H1[zad L (mX M)]? = some (vp_cell (zc L 1) (u1 (mL M) (mX M) (mL M a) (mX M), .inl (ur (ur (mA M) (mX M) fun _ => 0) (mX M) (mA M a) (mX M))))
      rw [e1, e3, e4]
  · rw [if_neg hn] at h
    cases h
theorem V_castB {ix a : Nat} (ha : mK M a = 101) (hl : Cond.classLink y.cls ix "[B" ∈ zw) (d : decode cc pc = .ok (.checkcast ix, 3)) (kk : V L X y cc nL ret dd M0 N Q M (pc + 3) ls (.ref (zad L a) :: st)) : V L X y cc nL ret dd M0 N Q M pc ls (.ref (zad L a) :: st) := by
  refine ⟨kk.1, fun g h1 h2 H locs la hH hS hL => ?_⟩
  have hT := g.2.2.2.2.2.2.2.2.2.1
  exact va_castA g.1 g.2.1 g.2.2.2.1 (g.2.2.2.2.1 _ hl) (zone (hH.2.2.2.2.1 a 1 (by decide) ha)) 0 rfl (va_nm_byte (hT.2.1.2 1 _ (zty_b L)).2) d (kk.2 g h1 h2 H locs la hH hS hL)
end ZCLV
