/-- the throwing of 'new E(text)', as the kit's vx_throwS, with the size of the heap then -/
theorem zthrow_size {s U : State} {k n a : Nat} {ce : Cell} (h : s.sameButNew ({ U with vm := s.vm } : State) [] k n) (hk : k = 1) (ha : U.heap[a]? = some ce) (hs : a = s.heap.size) : U.heap.size = s.heap.size + 1 := by
  obtain ⟨-, h1, h2, -⟩ := h
  have h3 : a < U.heap.size := (Array.getElem?_eq_some_iff.mp ha).1
  have h1' : s.heap.size ≤ U.heap.size := h1
  have h2' : U.heap.size ≤ s.heap.size + k := h2
  omega
section XTHROW
variable {p : Program} {l : Launch} {e : Env} {R : Room} {s : State} {m : MethodId} {args : Array Value} {below : List Frame} {meth : Method} {c : Code} {H : Heap} {locs : List Loc} {cells slots : Nat} {Q : State → Prop}
variable {mc ms : Nat} {free : Addr → Prop} {A0 A1 : Nat → Prop} {H0 : Heap} {a : Array Value} {ls : Array Slot} {st0 rest : List Value}
variable {Qc : Array Value → State → Outcome → State → Prop} {XC : String → State → State → Prop}
theorem zthrowS {cc : ByteArray} {pc : Nat} (hexec : p.tables.exec = Jvm.exec) (hb : c.code = cc) (hl : l.stackTraces = false) {own cls text : String} {names : List String} {ik is ic mc ms sa : Nat} {A : Nat → Prop}
    (hown : s.vm.findClass own = some m.cls) (hcls : Bundle.fit cls = true) (hnames : ∀ n ∈ names, Bundle.fit n = true)
    (hk : (Cond.classLink own ik cls).before args s = true) (hini : (Cond.initialized cls).before args s = true) (hstr : vk_R own is text sa s) (hat : ∀ w ∈ vx_atS own ic cls names, w.before args s = true)
    (hgood : ∀ w ∈ Cond.classLink own ik cls :: Cond.initialized cls :: vx_atS own ic cls names, vx_ot w = true)
    (hU : vx_Zq Bundle.tN "UNASSIGNED_STACK" Bundle.steD A s s.heap) (hN : vx_Zq Bundle.tN "SUPPRESSED_SENTINEL" Bundle.listD A s s.heap) (hS : va_S A s.heap H locs) (hsize : ls.size = c.maxLocals)
    (d0 : decode cc pc = .ok (.new ik, 3)) (d3 : decode cc (pc + 3) = .ok (.dup, 1)) (d4 : decode cc (pc + 4) = .ok (.ldc is, 2)) (d6 : decode cc (pc + 6) = .ok (.invokespecial ic, 3)) (d9 : decode cc (pc + 9) = .ok (.athrow, 1))
    (hout : ∀ x ∈ c.exceptionTable.toList, covers x (pc + 9) = false)
    (hRframes : names.length + 3 < R.frames) (hRlocals : (rest.map fun v => v.category).sum + (13 * (names.length + 1) + 43) ≤ R.locals) (hRcells : cells + 1 ≤ R.cells) (hRslots : slots + 6 ≤ R.slots) (hlocks : meth.locks = false)
    (hx : ∀ t : State, s.vm.Alike t.vm → t.heap.size = H.size + 1 → (∀ q : Nat, q < H.size → t.heap[q]? = H[q]?) → XC cls s t)
    (hf : ∀ z ∈ locs, free z.base) (hc : cells + 1 ≤ mc) (hs : slots + 6 ≤ ms) :
    W p l e R s m args below meth c H locs cells slots (vx_MQ below Qc XC args s mc ms free) (F0 m pc ls rest) := by
  intro T hT X
  have htr : e.platform.stackTraces = false := (show e.platform.stackTraces = l.stackTraces by rw [X.admits.platform]).trans hl
  have Y := vx_rebase X (R' := { frames := R.frames, locals := R.locals, cells := 1, slots := 6 }) (Nat.le_refl _) (Nat.le_refl _) hRcells hRslots
  obtain ⟨s', hA⟩ : ∃ z, z = (T.setVm s.vm).setFrames (.invoking m args :: below) := ⟨_, rfl⟩
  rw [← hA] at Y
  have hvm : s'.vm = s.vm := by rw [hA]; rfl
  have hhp : s'.heap = H := by rw [hA]; exact hT
  have hW0 : s.WarmedH s'.vm := by rw [hvm]; exact State.WarmedH.refl s
  have hat' : ∀ w ∈ vx_atS own ic cls names, w.before args s' = true := fun w hw => vx_ot_at hW0 hvm.symm (hgood w (List.mem_cons_of_mem _ (List.mem_cons_of_mem _ hw))) (hat w hw)
  have hk' : (Cond.classLink own ik cls).before args s' = true := vx_ot_at hW0 hvm.symm (hgood _ List.mem_cons_self) hk
  have hini' : (Cond.initialized cls).before args s' = true := vx_ot_at hW0 hvm.symm (hgood _ (List.mem_cons_of_mem _ List.mem_cons_self)) hini
  have hU' : vx_Zq Bundle.tN "UNASSIGNED_STACK" Bundle.steD A s' s'.heap := by rw [hhp]; exact vx_Zq.moved hW0.alike (hU.kept hS.2.1)
  have hN' : vx_Zq Bundle.tN "SUPPRESSED_SENTINEL" Bundle.listD A s' s'.heap := by rw [hhp]; exact vx_Zq.moved hW0.alike (hN.kept hS.2.1)
  have h : ∀ w ∈ Bundle.ownAtoms own ic cls names, w.before args s' = true := vx_own hat' (vx_isRefq hU'.1) (vx_isRefq hN'.1) hU'.2.word hN'.2.word
  have hown' : s'.vm.findClass own = some m.cls := by rw [hvm]; exact hown
  have hins : (Cond.instantiable cls 6).before args s' = true := h _ (by simp [Bundle.ownAtoms])
  obtain ⟨vm₁, cX, kX, hfX, hkX, -, -, X₁, st1⟩ := Y.newCold hexec (own := own) (C := cls) (index := ik) (n := 6) hown' hk' hins hini'
    (g := F0 m pc ls rest) rfl (by rw [hb]; exact d0) (Nat.le_refl _) (Nat.le_refl _)
  generalize hT1 : (T.setVm vm₁).pushCell { cls := cX, slots := kX.instanceTypes.map defaultValue, vm := .none } = T1 at X₁ st1
  have hcat : (Value.ref T.heap.size).category = 1 := rfl
  have hcellA : T1.heap[T.heap.size]? = some (freshCell cX kX) := by rw [← hT1]; exact State.heap_pushCell_size _ _
  have d3' : decode c.code (pc + 3) = .ok (.dup, 1) := by rw [hb]; exact d3
  have d4' : decode c.code (pc + 4) = .ok (.ldc is, 2) := by rw [hb]; exact d4
  have hstr' : vk_R own is text sa s' := vk_R.warm hW0 hstr
  obtain ⟨U, hsteps, hrun, hend, hW, hsame, ce, hce, hO⟩ := X₁.ctorThrowS hexec htr (own := own) (cls := cls) (names := names) (ic := ic) hown' hcls hnames h (fun x hx => nomatch hx) hfX hkX hcellA (by rw [hhp, hT]; exact Nat.le_refl _) (msg := .ref sa) rfl
    (g := { method := m, pc := pc + 6, locals := ls, stack := .ref sa :: .ref T.heap.size :: .ref T.heap.size :: rest, locked := none }) rfl hsize rfl rfl (rest := rest) rfl
    (by rw [hb]; exact d6) (by rw [hb]; exact d9) hout hRframes (by simp only [List.map_cons, List.sum_cons, hcat]; omega) hlocks
  have fz : U.heap.size = H.size + 1 := by
    have h9 := zthrow_size hsame rfl hce (by rw [hhp, hT])
    rw [hhp] at h9
    exact h9
  obtain ⟨f1, f2⟩ := vx_frame hsame
  rw [hhp] at f1 f2
  have hWs : s.WarmedH U.vm := State.WarmedH.trans hW0 hW
  have hcl : s.vm.findClass cls = some ce.cls := by
    have h9 := hO.cls
    rw [hvm] at h9
    exact h9
  have hall : s.sameButNew ({ U with vm := s.vm } : State) locs mc ms := by
    subst hA
    obtain ⟨e1, e2⟩ := hsame
    rw [State.setFrames_setFrames] at e1
    have h2 : (T.setVm s.vm).sameButNew ({ U with vm := s.vm } : State) [] (0 + 1) (0 + 6) := ⟨e1, e2⟩
    have h3 := X.same.trans h2
    rw [List.append_nil] at h3
    exact h3.mono hc hs
  refine ⟨U, ?_, .threw T.heap.size, hrun, hend, Or.inr ⟨T.heap.size, rfl, cls, ce, locs, hx U hWs.alike fz (fun q hq => f2 q hq (fun z hz => nomatch hz)), hce, hO.vm, hcl, hWs, hall, hf⟩⟩
  refine st1 _ ?_
  show Steps p.tables e below (T1.setTop { method := m, pc := pc + 3, locals := ls, stack := .ref T.heap.size :: rest, locked := none }) _
  jvm_step X₁.here [X₁.here.top, hexec, d3', Value.category]
  exact X₁.ldcString hexec (own := own) (text := text) (index := is) (a := sa) hown' hstr'.1 hstr'.2
    (g := { method := m, pc := pc + 4, locals := ls, stack := .ref T.heap.size :: .ref T.heap.size :: rest, locked := none }) rfl d4' _ hsteps
theorem zthrowSW {cc : ByteArray} {pc : Nat} (hexec : p.tables.exec = Jvm.exec) (hb : c.code = cc) (hl : l.stackTraces = false) {own cls text : String} {names : List String} {ik is ic mc ms sa : Nat} {A : Nat → Prop}
    (hown : s.vm.findClass own = some m.cls) (hcls : Bundle.fit cls = true) (hnames : ∀ n ∈ names, Bundle.fit n = true)
    (hk : (Cond.classLink own ik cls).before args s = true) (hini : (Cond.initialized cls).before args s = true) (hstr : vk_R own is text sa s) (hat : ∀ w ∈ vx_atS own ic cls names, w.before args s = true)
    (hgood : ∀ w ∈ Cond.classLink own ik cls :: Cond.initialized cls :: vx_atS own ic cls names, vx_ot w = true)
    (hU : vx_Zq Bundle.tN "UNASSIGNED_STACK" Bundle.steD A s s.heap) (hN : vx_Zq Bundle.tN "SUPPRESSED_SENTINEL" Bundle.listD A s s.heap) (hS : va_S A s.heap H locs) (hsize : ls.size = c.maxLocals)
    (d0 : decode cc pc = .ok (.new ik, 3)) (d3 : decode cc (pc + 3) = .ok (.dup, 1)) (d4 : decode cc (pc + 4) = .ok (.ldc_w is, 3)) (d7 : decode cc (pc + 7) = .ok (.invokespecial ic, 3)) (d10 : decode cc (pc + 10) = .ok (.athrow, 1))
    (hout : ∀ x ∈ c.exceptionTable.toList, covers x (pc + 10) = false)
    (hRframes : names.length + 3 < R.frames) (hRlocals : (rest.map fun v => v.category).sum + (13 * (names.length + 1) + 43) ≤ R.locals) (hRcells : cells + 1 ≤ R.cells) (hRslots : slots + 6 ≤ R.slots) (hlocks : meth.locks = false)
    (hx : ∀ t : State, s.vm.Alike t.vm → t.heap.size = H.size + 1 → (∀ q : Nat, q < H.size → t.heap[q]? = H[q]?) → XC cls s t)
    (hf : ∀ z ∈ locs, free z.base) (hc : cells + 1 ≤ mc) (hs : slots + 6 ≤ ms) :
    W p l e R s m args below meth c H locs cells slots (vx_MQ below Qc XC args s mc ms free) (F0 m pc ls rest) := by
  intro T hT X
  have htr : e.platform.stackTraces = false := (show e.platform.stackTraces = l.stackTraces by rw [X.admits.platform]).trans hl
  have Y := vx_rebase X (R' := { frames := R.frames, locals := R.locals, cells := 1, slots := 6 }) (Nat.le_refl _) (Nat.le_refl _) hRcells hRslots
  obtain ⟨s', hA⟩ : ∃ z, z = (T.setVm s.vm).setFrames (.invoking m args :: below) := ⟨_, rfl⟩
  rw [← hA] at Y
  have hvm : s'.vm = s.vm := by rw [hA]; rfl
  have hhp : s'.heap = H := by rw [hA]; exact hT
  have hW0 : s.WarmedH s'.vm := by rw [hvm]; exact State.WarmedH.refl s
  have hat' : ∀ w ∈ vx_atS own ic cls names, w.before args s' = true := fun w hw => vx_ot_at hW0 hvm.symm (hgood w (List.mem_cons_of_mem _ (List.mem_cons_of_mem _ hw))) (hat w hw)
  have hk' : (Cond.classLink own ik cls).before args s' = true := vx_ot_at hW0 hvm.symm (hgood _ List.mem_cons_self) hk
  have hini' : (Cond.initialized cls).before args s' = true := vx_ot_at hW0 hvm.symm (hgood _ (List.mem_cons_of_mem _ List.mem_cons_self)) hini
  have hU' : vx_Zq Bundle.tN "UNASSIGNED_STACK" Bundle.steD A s' s'.heap := by rw [hhp]; exact vx_Zq.moved hW0.alike (hU.kept hS.2.1)
  have hN' : vx_Zq Bundle.tN "SUPPRESSED_SENTINEL" Bundle.listD A s' s'.heap := by rw [hhp]; exact vx_Zq.moved hW0.alike (hN.kept hS.2.1)
  have h : ∀ w ∈ Bundle.ownAtoms own ic cls names, w.before args s' = true := vx_own hat' (vx_isRefq hU'.1) (vx_isRefq hN'.1) hU'.2.word hN'.2.word
  have hown' : s'.vm.findClass own = some m.cls := by rw [hvm]; exact hown
  have hins : (Cond.instantiable cls 6).before args s' = true := h _ (by simp [Bundle.ownAtoms])
  obtain ⟨vm₁, cX, kX, hfX, hkX, -, -, X₁, st1⟩ := Y.newCold hexec (own := own) (C := cls) (index := ik) (n := 6) hown' hk' hins hini'
    (g := F0 m pc ls rest) rfl (by rw [hb]; exact d0) (Nat.le_refl _) (Nat.le_refl _)
  generalize hT1 : (T.setVm vm₁).pushCell { cls := cX, slots := kX.instanceTypes.map defaultValue, vm := .none } = T1 at X₁ st1
  have hcat : (Value.ref T.heap.size).category = 1 := rfl
  have hcellA : T1.heap[T.heap.size]? = some (freshCell cX kX) := by rw [← hT1]; exact State.heap_pushCell_size _ _
  have d3' : decode c.code (pc + 3) = .ok (.dup, 1) := by rw [hb]; exact d3
  have d4' : decode c.code (pc + 4) = .ok (.ldc_w is, 3) := by rw [hb]; exact d4
  have hstr' : vk_R own is text sa s' := vk_R.warm hW0 hstr
  obtain ⟨U, hsteps, hrun, hend, hW, hsame, ce, hce, hO⟩ := X₁.ctorThrowS hexec htr (own := own) (cls := cls) (names := names) (ic := ic) hown' hcls hnames h (fun x hx => nomatch hx) hfX hkX hcellA (by rw [hhp, hT]; exact Nat.le_refl _) (msg := .ref sa) rfl
    (g := { method := m, pc := pc + 7, locals := ls, stack := .ref sa :: .ref T.heap.size :: .ref T.heap.size :: rest, locked := none }) rfl hsize rfl rfl (rest := rest) rfl
    (by rw [hb]; exact d7) (by rw [hb]; exact d10) hout hRframes (by simp only [List.map_cons, List.sum_cons, hcat]; omega) hlocks
  have fz : U.heap.size = H.size + 1 := by
    have h9 := zthrow_size hsame rfl hce (by rw [hhp, hT])
    rw [hhp] at h9
    exact h9
  obtain ⟨f1, f2⟩ := vx_frame hsame
  rw [hhp] at f1 f2
  have hWs : s.WarmedH U.vm := State.WarmedH.trans hW0 hW
  have hcl : s.vm.findClass cls = some ce.cls := by
    have h9 := hO.cls
    rw [hvm] at h9
    exact h9
  have hall : s.sameButNew ({ U with vm := s.vm } : State) locs mc ms := by
    subst hA
    obtain ⟨e1, e2⟩ := hsame
    rw [State.setFrames_setFrames] at e1
    have h2 : (T.setVm s.vm).sameButNew ({ U with vm := s.vm } : State) [] (0 + 1) (0 + 6) := ⟨e1, e2⟩
    have h3 := X.same.trans h2
    rw [List.append_nil] at h3
    exact h3.mono hc hs
  refine ⟨U, ?_, .threw T.heap.size, hrun, hend, Or.inr ⟨T.heap.size, rfl, cls, ce, locs, hx U hWs.alike fz (fun q hq => f2 q hq (fun z hz => nomatch hz)), hce, hO.vm, hcl, hWs, hall, hf⟩⟩
  refine st1 _ ?_
  show Steps p.tables e below (T1.setTop { method := m, pc := pc + 3, locals := ls, stack := .ref T.heap.size :: rest, locked := none }) _
  jvm_step X₁.here [X₁.here.top, hexec, d3', Value.category]
  exact X₁.ldcStringW hexec (own := own) (text := text) (index := is) (a := sa) hown' hstr'.1 hstr'.2
    (g := { method := m, pc := pc + 4, locals := ls, stack := .ref T.heap.size :: .ref T.heap.size :: rest, locked := none }) rfl d4' _ hsteps
end XTHROW
/-! ===== METHODS THAT MAY THROW: what is thrown is known by its class alone ===== -/
/-- an end: thrown (the class), or returned (the answer) -/
abbrev zE : Type := String ⊕ Option Value
def zPX (L : zL) (o : zE) (M' : zM) : Array Value → State → Outcome → State → Prop := fun _ st oc t => ∃ v, o = .inr v ∧ oc = .returned v ∧ vH L M' t.heap ∧ va_F (zA L) st t
def zXX (L : zL) (o : zE) (M' : zM) : String → State → State → Prop := fun E st t => o = .inl E ∧ vH L M' t.heap ∧ va_F (zA L) st t
def vQX (L : zL) (X : zX) (M0 : zM) (N : Nat × Nat) (Q : State → Prop) (o : zE) (M' : zM) : Prop :=
  N = (mX M', mS M') ∧ Q = vx_MQ X.2.2.2.2.2.2.2.1 (zPX L o M') (zXX L o M') X.2.2.2.2.2.2.1 X.2.2.2.2.1 (mX M' - mX M0) (mS M' - mS M0) (zA L)
def CX (L : zL) (l : Launch) (y : MethodName) (cc : ByteArray) (nL : Nat) (ret : Option FieldType) (dd : Nat) (M : zM) (As : List Value) (o : zE) (M' : zM) : Prop :=
  (zX → mX M ≤ mX M' ∧ mS M ≤ mS M') ∧ (l.stackTraces = false → vx_Met l y (zws y cc nL ret) (zrm dd (mX M' - mX M) (mS M' - mS M)) (va_Pc As (fun U => vH L M U.heap ∧ vT L U)) (zPX L o M') (zXX L o M') (mX M' - mX M) (mS M' - mS M) (zA L))
theorem CX.of {L : zL} {l : Launch} {y : MethodName} {cc : ByteArray} {nL : Nat} {ret : Option FieldType} {dd : Nat} {M M' : zM} {As : List Value} {o : zE} (hy : plainName y.cls = true ∧ zht y = []) (hn : (lg_sl As).length ≤ nL)
    (k : ∀ X : zX, ∀ Q, vQX L X M (mX M', mS M') Q o M' → V L X y cc nL ret dd M (mX M', mS M') Q M 0 (lv_args 0 As) []) : CX L l y cc nL ret dd M As o M' := by
  refine ⟨fun X => (k X _ ⟨rfl, rfl⟩).1, fun hl => ?_⟩
  refine vx_ofW (cc := cc) (maxL := nL) (ret := ret) hy.1 rfl ?_
  intro p e s m args below meth c s₁ B hml htab hv
  obtain ⟨rfl, hH, hT⟩ := hv
  have hts := atoms_spec (ws := zws y cc nL ret) B.pre
  have key := (k (p, l, e, zrm dd (mX M' - mX M) (mS M' - mS M), s, m, As.toArray, below, meth, c) _ ⟨rfl, rfl⟩).2 ⟨B.exec, B.bytes, hml, findClass_of_methodNamed B.named, fun w hw => hts w (List.mem_cons_of_mem _ hw), B.notSynchronized, B.returns, (name_of_methodNamed B.named B.method).1, rfl, hT, hl, by
    show c.exceptionTable.toList = tableOf (zht y)
    rw [hy.2]
    cases hq : c.exceptionTable.toList with
    | nil => rfl
    | cons a b => exact (htab a (by rw [hq]; exact List.mem_cons_self)).elim⟩ (Nat.le_refl _) (Nat.le_refl _) s.heap [] _ hH va_S.rf (lv_entry As hn)
  rw [lg_entry_eq]
  simp only [Nat.sub_self] at key
  exact key
/-- a method that returns or throws, but never throws from here -/
theorem CX.met {L : zL} {l : Launch} {y : MethodName} {cc : ByteArray} {nL : Nat} {ret : Option FieldType} {dd : Nat} {M M' : zM} {As : List Value} {v : Option Value} (h : CX L l y cc nL ret dd M As (.inr v) M') : CP L l y cc nL ret dd M As v M' := by
  refine ⟨h.1, fun hl => ?_⟩
  intro p e ha hc hk s m args below hf happ hP hK
  obtain ⟨n, o, h1, h2, h3, h4⟩ := h.2 hl p e ha hc hk s m args below hf happ hP hK
  refine ⟨n, o, h1, h2, h3, ?_⟩
  rcases h4 with ⟨⟨v', e1, e2, e3, e4⟩, hF⟩ | ⟨q, e1, E, ce, Lo, ⟨e2, -⟩, -⟩
  · cases e1
    exact ⟨⟨e2, e3, e4⟩, hF⟩
  · cases e2
section XROWS
variable {p : Program} {l : Launch} {e : Env} {R : Room} {s : State} {m : MethodId} {args : Array Value} {below : List Frame} {meth : Method} {c : Code} {H : Heap} {locs : List Loc} {cells slots : Nat} {Q : State → Prop}
theorem zrunX {L : zL} {o : zE} {M1 : zM} {mc ms pc : Nat} {la : Array Slot} {st0 rest : List Value} {a : Array Value} (hr : vx_Run p l e R s m args below meth c H locs cells slots mc ms (F0 m pc la st0) rest (zPX L o M1 a) (zXX L o M1) (zA L)) (hS : va_S (zA L) s.heap H locs)
    (kx : ∀ (E : String) (H1 : Heap) (locs1 : List Loc) (ce : Cell) (q9 : Addr), o = .inl E → vH L M1 H1 → va_S (zA L) s.heap H1 locs1 → H1[q9]? = some ce → ce.vm = .none → s.vm.findClass E = some ce.cls → vx_W p l e R s m args below meth c H1 locs1 (cells + mc) (slots + ms) Q (F0 m pc la rest) q9)
    (kk : ∀ (v : Option Value) (H1 : Heap) (locs1 : List Loc), o = .inr v → vH L M1 H1 → va_S (zA L) s.heap H1 locs1 → W p l e R s m args below meth c H1 locs1 (cells + mc) (slots + ms) Q (F0 m (pc + 3) la (v.toList ++ rest))) : W p l e R s m args below meth c H locs cells slots Q (F0 m pc la st0) := by
  intro T hT X
  rcases hr T hT X with ⟨v, st₀, t, T', Lo, h0, X', hL, e1, e2, ⟨v', ho, hv, hH1, hF⟩, st⟩ | ⟨q, st₀, t, T', Lo, E, ce, h0, X', hL, e1, e2, ⟨ho, hH1, hF⟩, hce, hcv, hcl, st⟩
  · cases hv
    obtain ⟨k1, k2, k3⟩ := vx_keep h0 e1 hS (fun _ _ h => h) (fun _ h => h) hL hF
    obtain ⟨t2, a1, b1⟩ := kk v T'.heap (locs ++ Lo) ho (by rw [e1]; exact hH1) k3 T' rfl X'
    exact ⟨t2, st t2 a1, b1⟩
  · obtain ⟨k1, k2, k3⟩ := vx_keep h0 e1 hS (fun _ _ h => h) (fun _ h => h) hL hF
    obtain ⟨t2, a1, b1⟩ := kx E T'.heap (locs ++ Lo) ce q ho (by rw [e1]; exact hH1) k3 (by rw [e1]; exact hce) hcv hcl T' rfl X'
    exact ⟨t2, st.trans a1, b1⟩
end XROWS
/-- what the exceptions thrown here are made of, above their own class -/
abbrev zexc : List String := ["java/lang/RuntimeException", "java/lang/Exception"]
/-- the words that the making of an exception asks for -/
def zxw (own : String) (ic : Nat) (E : String) : Prop := Bundle.fit E = true ∧ (∀ w ∈ vx_atS own ic E zexc, w ∈ zw ∨ w ∈ zsp) ∧ (∀ w ∈ vx_atS own ic E zexc, vx_ot w = true) ∧ Cond.initialized E ∈ zw
section ZX
variable {L : zL} {X : zX} {y : MethodName} {cc : ByteArray} {nL : Nat} {ret : Option FieldType} {dd : Nat} {M0 : zM} {N : Nat × Nat} {Q : State → Prop} {M : zM} {pc : Nat} {ls : List (Nat × Value)} {st : List Value}
theorem zvH_nE {H H1 : Heap} (hO : zO L) (hH : vH L M H) (hz : H1.size = H.size + 1) (hq : ∀ q : Nat, q < H.size → H1[q]? = H[q]?) : vH L (nE M) H1 := by
  refine vH.new 0 hO hH (by decide) rfl ?_ (fun a ha => rfl) (fun a ha => rfl) (fun a ha => rfl) (fun a ha c => rfl) hz hq (fun c e q0 q1 => by omega) (fun t ht e => by omega) (fun t ht e => by omega)
  funext a
  show mK M a = u1 (mK M) (mX M) 0 a
  unfold u1
  by_cases e : a = mX M
  · rw [if_pos e, e]
    exact hH.2.1 _ (Nat.le_refl _)
  · rw [if_neg e]
theorem zxw_all {own E : String} {ic ik : Nat} {args : Array Value} {s : State} (h : zxw own ic E) (hts : ∀ w ∈ zw, w.before args s = true) (hsp : ∀ w ∈ zsp, va_Nw w s) : ∀ w ∈ vx_atS own ic E zexc, w.before args s = true := fun w hw => by
  rcases h.2.1 w hw with q | q
  · exact hts w q
  · have h1 := h.2.2.1 w hw
    have h2 : zisp w = true := (List.mem_filter.mp q).2
    refine va_Nw.use ?_ (hsp w q)
    cases w <;> first | rfl | (simp [zisp] at h2)
theorem zxw_good {own E : String} {ic ik : Nat} (h : zxw own ic E) : ∀ w ∈ Cond.classLink own ik E :: Cond.initialized E :: vx_atS own ic E zexc, vx_ot w = true := fun w hw => by
  rcases List.mem_cons.mp hw with e | hw
  · rw [e]; rfl
  · rcases List.mem_cons.mp hw with e | hw
    · rw [e]; rfl
    · exact h.2.2.1 w hw
theorem zfits : ∀ n ∈ zexc, Bundle.fit n = true := by decide +kernel
theorem V_throw {ik is ic : Nat} {E tx : String} (hq : vQX L X M0 N Q (.inl E) (nE M)) (hx : zxw y.cls ic E) (hk : Cond.classLink y.cls ik E ∈ zw) (hs : Cond.stringRef y.cls is tx ∈ lw_tbl) (hz : zht y = []) (hdd : 6 ≤ dd) (hcat : (st.map fun v => v.category).sum ≤ 8)
    (d0 : decode cc pc = .ok (.new ik, 3)) (d3 : decode cc (pc + 3) = .ok (.dup, 1)) (d4 : decode cc (pc + 4) = .ok (.ldc is, 2)) (d6 : decode cc (pc + 6) = .ok (.invokespecial ic, 3)) (d9 : decode cc (pc + 9) = .ok (.athrow, 1)) : V L X y cc nL ret dd M0 N Q M pc ls st := by
  obtain ⟨rfl, rfl⟩ := hq
  refine ⟨⟨Nat.le_succ _, Nat.le_add_right _ _⟩, fun g h1 h2 H locs la hH hS hL => ?_⟩
  have hT := g.2.2.2.2.2.2.2.2.2.1
  have hts := g.2.2.2.2.1
  have hR := g.2.2.2.2.2.2.2.2.1
  have htab := g.2.2.2.2.2.2.2.2.2.2.2
  rw [hz] at htab
  obtain ⟨sa, hstr⟩ := hT.2.2.2.2.2.2.2.2.2.1 _ _ _ hs
  refine zthrowS (names := zexc) (A := zA L) g.1 g.2.1 g.2.2.2.2.2.2.2.2.2.2.1 g.2.2.2.1 hx.1 zfits (hts _ hk) (hts _ hx.2.2.2) hstr (zxw_all (ik := ik) hx hts hT.2.2.1) (zxw_good (ik := ik) hx) hT.2.2.2.2.1 hT.2.2.2.2.2.1 hS (hL.1.trans g.2.2.1.symm) d0 d3 d4 d6 d9 (fun z hz => by rw [htab] at hz; cases hz) ?_ ?_ ?_ ?_ g.2.2.2.2.2.1 (fun t hal hz1 hq1 => ?_) hS.2.2 ?_ ?_
  · rw [hR]
    show 2 + 3 < dd
    omega
  · rw [hR]
    show _ + (13 * (2 + 1) + 43) ≤ 64 * dd
    omega
  · rw [hR]
    show mX M - mX M0 + 1 ≤ mX M + 1 - mX M0
    omega
  · rw [hR]
    show mS M - mS M0 + 6 ≤ mS M + 6 - mS M0
    omega
  · exact ⟨rfl, zvH_nE hT.1 hH hz1 hq1, ⟨by rw [hz1]; exact Nat.le_succ_of_le hS.1, fun q q1 q2 => (hq1 q (Nat.lt_of_lt_of_le q1 hS.1)).trans (hS.2.1 q q1 q2)⟩⟩
  · show mX M - mX M0 + 1 ≤ mX M + 1 - mX M0
    omega
  · show mS M - mS M0 + 6 ≤ mS M + 6 - mS M0
    omega
theorem V_throwW {ik is ic : Nat} {E tx : String} (hq : vQX L X M0 N Q (.inl E) (nE M)) (hx : zxw y.cls ic E) (hk : Cond.classLink y.cls ik E ∈ zw) (hs : Cond.stringRef y.cls is tx ∈ lw_tbl) (hz : zht y = []) (hdd : 6 ≤ dd) (hcat : (st.map fun v => v.category).sum ≤ 8)
    (d0 : decode cc pc = .ok (.new ik, 3)) (d3 : decode cc (pc + 3) = .ok (.dup, 1)) (d4 : decode cc (pc + 4) = .ok (.ldc_w is, 3)) (d6 : decode cc (pc + 7) = .ok (.invokespecial ic, 3)) (d9 : decode cc (pc + 10) = .ok (.athrow, 1)) : V L X y cc nL ret dd M0 N Q M pc ls st := by
  obtain ⟨rfl, rfl⟩ := hq
  refine ⟨⟨Nat.le_succ _, Nat.le_add_right _ _⟩, fun g h1 h2 H locs la hH hS hL => ?_⟩
  have hT := g.2.2.2.2.2.2.2.2.2.1
  have hts := g.2.2.2.2.1
  have hR := g.2.2.2.2.2.2.2.2.1
  have htab := g.2.2.2.2.2.2.2.2.2.2.2
  rw [hz] at htab
  obtain ⟨sa, hstr⟩ := hT.2.2.2.2.2.2.2.2.2.1 _ _ _ hs
  refine zthrowSW (names := zexc) (A := zA L) g.1 g.2.1 g.2.2.2.2.2.2.2.2.2.2.1 g.2.2.2.1 hx.1 zfits (hts _ hk) (hts _ hx.2.2.2) hstr (zxw_all (ik := ik) hx hts hT.2.2.1) (zxw_good (ik := ik) hx) hT.2.2.2.2.1 hT.2.2.2.2.2.1 hS (hL.1.trans g.2.2.1.symm) d0 d3 d4 d6 d9 (fun z hz => by rw [htab] at hz; cases hz) ?_ ?_ ?_ ?_ g.2.2.2.2.2.1 (fun t hal hz1 hq1 => ?_) hS.2.2 ?_ ?_
  · rw [hR]
    show 2 + 3 < dd
    omega
  · rw [hR]
    show _ + (13 * (2 + 1) + 43) ≤ 64 * dd
    omega
  · rw [hR]
    show mX M - mX M0 + 1 ≤ mX M + 1 - mX M0
    omega
  · rw [hR]
    show mS M - mS M0 + 6 ≤ mS M + 6 - mS M0
    omega
  · exact ⟨rfl, zvH_nE hT.1 hH hz1 hq1, ⟨by rw [hz1]; exact Nat.le_succ_of_le hS.1, fun q q1 q2 => (hq1 q (Nat.lt_of_lt_of_le q1 hS.1)).trans (hS.2.1 q q1 q2)⟩⟩
  · show mX M - mX M0 + 1 ≤ mX M + 1 - mX M0
    omega
  · show mS M - mS M0 + 6 ≤ mS M + 6 - mS M0
    omega
theorem V_iretX {a : Int32} (hr : ret = some .int) (hq : vQX L X M0 N Q (.inr (some (.int a))) M) (d : decode cc pc = .ok (.ireturn, 1)) : V L X y cc nL ret dd M0 N Q M pc ls [.int a] := by
  obtain ⟨rfl, rfl⟩ := hq
  exact ⟨⟨Nat.le_refl _, Nat.le_refl _⟩, fun g h1 h2 H locs la hH hS hl => vx_ret (W.iret (v := a) (hlocks := g.2.2.2.2.2.1) g.1 g.2.1 (g.2.2.2.2.2.2.1.trans hr) (fun t ht hW => ⟨_, rfl, rfl, by rw [ht]; exact hH, hS.F ht⟩) hS.2.2 d)⟩
theorem V_lretX {a : Int64} (hr : ret = some .long) (hq : vQX L X M0 N Q (.inr (some (.long a))) M) (d : decode cc pc = .ok (.lreturn, 1)) : V L X y cc nL ret dd M0 N Q M pc ls [.long a] := by
  obtain ⟨rfl, rfl⟩ := hq
  exact ⟨⟨Nat.le_refl _, Nat.le_refl _⟩, fun g h1 h2 H locs la hH hS hl => vx_ret (W.lret (v := a) (hlocks := g.2.2.2.2.2.1) g.1 g.2.1 (g.2.2.2.2.2.2.1.trans hr) (fun t ht hW => ⟨_, rfl, rfl, by rw [ht]; exact hH, hS.F ht⟩) hS.2.2 d)⟩
theorem V_dretX {a : UInt64} (hr : ret = some .double) (hq : vQX L X M0 N Q (.inr (some (.double a))) M) (d : decode cc pc = .ok (.dreturn, 1)) : V L X y cc nL ret dd M0 N Q M pc ls [.double a] := by
  obtain ⟨rfl, rfl⟩ := hq
  exact ⟨⟨Nat.le_refl _, Nat.le_refl _⟩, fun g h1 h2 H locs la hH hS hl => vx_ret (W.dret (v := a) (hlocks := g.2.2.2.2.2.1) g.1 g.2.1 (g.2.2.2.2.2.2.1.trans hr) (fun t ht hW => ⟨_, rfl, rfl, by rw [ht]; exact hH, hS.F ht⟩) hS.2.2 d)⟩
theorem V_zretX {a : Int32} {ty : FieldType} (hr : ret = some ty) (hn : narrow ty (.int a) = .int a) (hq : vQX L X M0 N Q (.inr (some (.int a))) M) (d : decode cc pc = .ok (.ireturn, 1)) : V L X y cc nL ret dd M0 N Q M pc ls [.int a] := by
  obtain ⟨rfl, rfl⟩ := hq
  exact ⟨⟨Nat.le_refl _, Nat.le_refl _⟩, fun g h1 h2 H locs la hH hS hl => vx_ret (W.zret (v := a) (ty := ty) (hlocks := g.2.2.2.2.2.1) g.1 g.2.1 (g.2.2.2.2.2.2.1.trans hr) hn (fun t ht hW => ⟨_, rfl, rfl, by rw [ht]; exact hH, hS.F ht⟩) hS.2.2 d)⟩
theorem V_aretX {a : Nat} {rt : FieldType} (hr : ret = some rt) (hrt : (∃ n, rt = .object n) ∨ ∃ t, rt = .array t) (hq : vQX L X M0 N Q (.inr (some (.ref a))) M) (d : decode cc pc = .ok (.areturn, 1)) : V L X y cc nL ret dd M0 N Q M pc ls [.ref a] := by
  obtain ⟨rfl, rfl⟩ := hq
  exact ⟨⟨Nat.le_refl _, Nat.le_refl _⟩, fun g h1 h2 H locs la hH hS hl => vx_ret (W.aret (v := .ref a) (rt := rt) (hlocks := g.2.2.2.2.2.1) g.1 g.2.1 (g.2.2.2.2.2.2.1.trans hr) hrt (Or.inr ⟨a, rfl⟩) (fun t ht hW => ⟨_, rfl, rfl, by rw [ht]; exact hH, hS.F ht⟩) hS.2.2 d)⟩
theorem V_vretX (hr : ret = none) (hq : vQX L X M0 N Q (.inr none) M) (d : decode cc pc = .ok (.return_, 1)) : V L X y cc nL ret dd M0 N Q M pc ls [] := by
  obtain ⟨rfl, rfl⟩ := hq
  exact ⟨⟨Nat.le_refl _, Nat.le_refl _⟩, fun g h1 h2 H locs la hH hS hl => vx_ret (W.vret (hlocks := g.2.2.2.2.2.1) g.1 g.2.1 (g.2.2.2.2.2.2.1.trans hr) (fun t ht hW => ⟨_, rfl, rfl, by rw [ht]; exact hH, hS.F ht⟩) hS.2.2 d)⟩
variable {y' : MethodName} {cc' : ByteArray} {n' : Nat} {ret' : Option FieldType} {d' : Nat} {As rest : List Value} {M1 : zM} {ix k : Nat}
theorem V_callSx {v : Option Value} (hC : CX L X.2.1 y' cc' n' ret' d' M As (.inr v) M1) (hf : zcf y' cc' n' ret' k) (hn : As.length = k) (hd : d' + 1 ≤ dd) (hl : Cond.methodLink y.cls ix y' ∈ zw ∧ Cond.static y' ∈ zw) (hcat : (rest.map fun v => v.category).sum ≤ 8) (hst : st = As.reverse ++ rest) (d : decode cc pc = .ok (.invokestatic ix, 3)) (kk : V L X y cc nL ret dd M0 N Q M1 (pc + 3) ls (v.toList ++ rest)) : V L X y cc nL ret dd M0 N Q M pc ls st :=
  V_callS hC.met hf hn hd hl hcat hst d kk
theorem V_callSt {E : String} (hC : CX L X.2.1 y' cc' n' ret' d' M As (.inl E) M1) (hq : vQX L X M0 N Q (.inl E) M1) (hz : zht y = []) (hf : zcf y' cc' n' ret' k) (hn : As.length = k) (hd : d' + 1 ≤ dd) (hl : Cond.methodLink y.cls ix y' ∈ zw ∧ Cond.static y' ∈ zw) (hcat : (rest.map fun v => v.category).sum ≤ 8) (hst : st = As.reverse ++ rest) (d : decode cc pc = .ok (.invokestatic ix, 3)) : V L X y cc nL ret dd M0 N Q M pc ls st := by
  subst hst
  obtain ⟨rfl, rfl⟩ := hq
  have hm := hC.1 X
  refine ⟨hm, fun g h1 h2 H locs la hH hS hL => ?_⟩
  have hT := g.2.2.2.2.2.2.2.2.2.1
  have hK := hT.2.1
  have hts := g.2.2.2.2.1
  have hR := g.2.2.2.2.2.2.2.2.1
  have htab := g.2.2.2.2.2.2.2.2.2.2.2
  rw [hz] at htab
  refine zrunX (vx_runS (As := As) (rest := rest) ⟨g.1, g.2.1, g.2.2.1, g.2.2.2.1, hts⟩ (hC.2 g.2.2.2.2.2.2.2.2.2.2.1) ⟨zgc hf hd (Ts := 0) hts hR hl.1, hts _ hl.2⟩ (zpre hT hH hS As) rfl hn hL.1 rfl (by show 2 * 0 + _ ≤ 8; omega) d ⟨by rw [hR]; show _ ≤ mX M1 - mX M0; omega, by rw [hR]; show _ ≤ mS M1 - mS M0; omega⟩) hS (fun E' H1 locs1 ce q9 ho hH1 hS1 hce hcv hcl => ?_) (fun v H1 locs1 ho => by cases ho)
  cases ho
  rw [show mX M - mX M0 + (mX M1 - mX M) = mX M1 - mX M0 from by omega, show mS M - mS M0 + (mS M1 - mS M) = mS M1 - mS M0 from by omega]
  exact vx_out (fun z hz => by rw [htab] at hz; cases hz) g.2.2.2.2.2.1 hce hcv hcl (fun t ht hal => ⟨rfl, by rw [ht]; exact hH1, hS1.F ht⟩) hS1.2.2 (Nat.le_refl _) (Nat.le_refl _)
theorem V_callVx {b : Nat} {v : Option Value} (hC : CX L X.2.1 y' cc' n' ret' d' M (.ref (zad L b) :: As) (.inr v) M1) (hf : zcf y' cc' n' ret' k) (hn : As.length = k) (hd : d' + 1 ≤ dd) {kb NN : Nat} {C : String} {T : u_T} (hc : vwCl[kb - 1]? = some (C, T, NN)) (k0 : 0 < kb ∧ kb < 100) (hv : mK M b = kb ∨ mK M b = 300 + kb) (hl : Cond.methodLink y.cls ix y' ∈ zw ∧ Cond.instanceMethod y' ∈ zw ∧ Cond.selects C y' y' ∈ zw) (hcat : (rest.map fun v => v.category).sum ≤ 8) (hst : st = As.reverse ++ .ref (zad L b) :: rest) (d : decode cc pc = .ok (.invokevirtual ix, 3)) (kk : V L X y cc nL ret dd M0 N Q M1 (pc + 3) ls (v.toList ++ rest)) : V L X y cc nL ret dd M0 N Q M pc ls st :=
  V_callV hC.met hf hn hd hc k0 hv hl hcat hst d kk
theorem V_callVt {b : Nat} {E : String} (hC : CX L X.2.1 y' cc' n' ret' d' M (.ref (zad L b) :: As) (.inl E) M1) (hq : vQX L X M0 N Q (.inl E) M1) (hz : zht y = []) (hf : zcf y' cc' n' ret' k) (hn : As.length = k) (hd : d' + 1 ≤ dd) {kb NN : Nat} {C : String} {T : u_T} (hc : vwCl[kb - 1]? = some (C, T, NN)) (k0 : 0 < kb ∧ kb < 100) (hv : mK M b = kb ∨ mK M b = 300 + kb) (hl : Cond.methodLink y.cls ix y' ∈ zw ∧ Cond.instanceMethod y' ∈ zw ∧ Cond.selects C y' y' ∈ zw) (hcat : (rest.map fun v => v.category).sum ≤ 8) (hst : st = As.reverse ++ .ref (zad L b) :: rest) (d : decode cc pc = .ok (.invokevirtual ix, 3)) : V L X y cc nL ret dd M0 N Q M pc ls st := by
  subst hst
  obtain ⟨rfl, rfl⟩ := hq
  have hm := hC.1 X
  refine ⟨hm, fun g h1 h2 H locs la hH hS hL => ?_⟩
  have hT := g.2.2.2.2.2.2.2.2.2.1
  have hK := hT.2.1
  have hts := g.2.2.2.2.1
  have hR := g.2.2.2.2.2.2.2.2.1
  have htab := g.2.2.2.2.2.2.2.2.2.2.2
  rw [hz] at htab
  refine zrunX (vx_runV (As := As) (rest := rest) ⟨g.1, g.2.1, g.2.2.1, g.2.2.2.1, hts⟩ (hC.2 g.2.2.2.2.2.2.2.2.2.2.1) ⟨zgc hf hd (Ts := 0) hts hR hl.1, hts _ hl.2.1, hts _ hl.2.2⟩ ⟨(zpre hT hH hS (.ref (zad L b) :: As)).1, zrecv hT hS hc k0 hv hH, (zpre hT hH hS (.ref (zad L b) :: As)).2⟩ rfl hn hL.1 rfl (by show 2 * 0 + _ ≤ 8; omega) d ⟨by rw [hR]; show _ ≤ mX M1 - mX M0; omega, by rw [hR]; show _ ≤ mS M1 - mS M0; omega⟩) hS (fun E' H1 locs1 ce q9 ho hH1 hS1 hce hcv hcl => ?_) (fun v H1 locs1 ho => by cases ho)
  cases ho
  rw [show mX M - mX M0 + (mX M1 - mX M) = mX M1 - mX M0 from by omega, show mS M - mS M0 + (mS M1 - mS M) = mS M1 - mS M0 from by omega]
  exact vx_out (fun z hz => by rw [htab] at hz; cases hz) g.2.2.2.2.2.1 hce hcv hcl (fun t ht hal => ⟨rfl, by rw [ht]; exact hH1, hS1.F ht⟩) hS1.2.2 (Nat.le_refl _) (Nat.le_refl _)
end ZX
