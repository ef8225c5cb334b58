/-! ===== METHODS WITH HANDLERS: a call whose exception is caught here; calls to such methods ===== -/
def CH (L : zL) (l : Launch) (y : MethodName) (cc : ByteArray) (nL : Nat) (ret : Option FieldType) (hh : List (Nat × Nat × Nat × Nat)) (dd : Nat) (M : zM) (As : List Value) (v : Option Value) (M' : zM) : Prop :=
  (zX → mX M ≤ mX M' ∧ mS M ≤ mS M') ∧ (l.stackTraces = false → Met l y (Cond.codeWith y cc nL ret hh :: zw) (zrm dd (mX M' - mX M) (mS M' - mS M)) (va_Pc As (fun U => vH L M U.heap ∧ vT L U)) (zPost L v M') (mX M' - mX M) (mS M' - mS M) (zA L))
theorem zofWH {l : Launch} {y : MethodName} {ws ws' : List Cond} {rm : Room} {Pc : Array Value → State → Prop} {Qc : Array Value → State → Outcome → State → Prop} {mc ms : Nat} {free : Addr → Prop} {cc : ByteArray} {maxL : Nat} {ret : Option FieldType} {hh : List (Nat × Nat × Nat × Nat)}
    (hy : plainFor y = true) (hw : ws = Cond.codeWith y cc maxL ret hh :: ws')
    (body : ∀ p e s m args below meth c s₁, BodyLoose p l y (headSpec ws rm) cc maxL ret e s m args below meth c s₁ → c.maxLocals = maxL → c.exceptionTable.toList = tableOf hh → Pc args s →
      W p l e (headSpec ws rm).room s m args below meth c s.heap [] 0 0 (MQ below Qc args s mc ms free) (entryFrame m args maxL)) : Met l y ws rm Pc Qc mc ms free := by
  refine MetFree.of_bodySF (code := cc) (maxLocals := maxL) (ret := ret) hy ?_ ?_
  · intro args s m h hn
    obtain ⟨m9, meth, c, hn9, h1, h2, h3, h4, -, h5, h6, -⟩ := Cond.codeWith_spec (atoms_spec (ws := ws) h _ (by rw [hw]; exact List.mem_cons_self))
    cases hn.symm.trans hn9
    exact ⟨meth, c, h1, h2, h3, h4, h5, h6⟩
  · intro p e s m args below meth c s₁ B hml hP _
    have hh0 : s₁.heap = s.heap := by rw [B.state]; rfl
    have ht : c.exceptionTable.toList = tableOf hh := vx_table (x := y) B (atoms_spec (ws := ws) B.pre _ (by rw [hw]; exact List.mem_cons_self))
    obtain ⟨t, a1, o, b1, b2, b3⟩ := body p e s m args below meth c s₁ B hml ht hP s₁ hh0 (Stand.of_body B)
    exact ⟨t, o, a1, b1, b2, ⟨b3.1, b3.2⟩⟩
theorem CH.of {L : zL} {l : Launch} {y : MethodName} {cc : ByteArray} {nL : Nat} {ret : Option FieldType} {hh : List (Nat × Nat × Nat × Nat)} {dd : Nat} {M M' : zM} {As : List Value} {v : Option Value} (hy : plainFor y = true ∧ zht y = hh) (hn : (lg_sl As).length ≤ nL)
    (k : ∀ X : zX, ∀ Q, vQ L X M (mX M', mS M') Q v M' → V L X y cc nL ret dd M (mX M', mS M') Q M 0 (lv_args 0 As) []) : CH L l y cc nL ret hh dd M As v M' := by
  refine ⟨fun X => (k X _ ⟨rfl, rfl⟩).1, fun hl => ?_⟩
  refine zofWH (cc := cc) (maxL := nL) (ret := ret) (hh := hh) hy.1 rfl ?_
  intro p e s m args below meth c s₁ B hml htab hv
  obtain ⟨rfl, hH, hT⟩ := hv
  have hts := atoms_spec (ws := Cond.codeWith y cc nL ret hh :: zw) B.pre
  have key := (k (p, l, e, zrm dd (mX M' - mX M) (mS M' - mS M), s, m, As.toArray, below, meth, c) _ ⟨rfl, rfl⟩).2 ⟨B.exec, B.bytes, hml, findClass_of_methodNamed B.named, fun w hw => hts w (List.mem_cons_of_mem _ hw), B.notSynchronized, B.returns, (name_of_methodNamed B.named B.method).1, rfl, hT, hl, by
    show c.exceptionTable.toList = tableOf (zht y)
    rw [hy.2]
    exact htab⟩ (Nat.le_refl _) (Nat.le_refl _) s.heap [] _ hH va_S.rf (lv_entry As hn)
  rw [lg_entry_eq]
  simp only [Nat.sub_self] at key
  exact key
/-- what the tables say of a method with handlers that is called -/
def zcfW (y : MethodName) (cc : ByteArray) (n : Nat) (ret : Option FieldType) (hh : List (Nat × Nat × Nat × Nat)) (k : Nat) : Prop := Cond.codeWith y cc n ret hh ∈ zw ∧ Cond.initialized y.cls ∈ zw ∧ (y.cls ≠ "java/lang/invoke/MethodHandle" ∧ y.cls ≠ "java/lang/invoke/VarHandle") ∧ (parseMethodDescriptor y.desc).map (fun d => d.parameters.length) = some k ∧ n ≤ 45
section ZHH
variable {L : zL} {X : zX} {y : MethodName} {cc : ByteArray} {nL : Nat} {ret : Option FieldType} {dd : Nat} {M0 : zM} {N : Nat × Nat} {Q : State → Prop} {M : zM} {pc : Nat} {ls : List (Nat × Value)} {st : List Value}
variable {y' : MethodName} {cc' : ByteArray} {n' : Nat} {ret' : Option FieldType} {d' : Nat} {As rest : List Value} {v : Option Value} {M1 : zM} {ix k : Nat}
theorem V_callSW {hh : List (Nat × Nat × Nat × Nat)} (hC : CH L X.2.1 y' cc' n' ret' hh d' M As v M1) (hf : zcfW y' cc' n' ret' hh k) (hn : As.length = k) (hd : d' + 1 ≤ dd) (hl : Cond.methodLink y.cls ix y' ∈ zw ∧ Cond.static y' ∈ zw) (hcat : (rest.map fun v => v.category).sum ≤ 8) (hst : st = As.reverse ++ rest) (d : decode cc pc = .ok (.invokestatic ix, 3)) (kk : V L X y cc nL ret dd M0 N Q M1 (pc + 3) ls (v.toList ++ rest)) : V L X y cc nL ret dd M0 N Q M pc ls st := by
  subst hst
  have hm := hC.1 X
  obtain ⟨⟨k1, k2⟩, k3⟩ := kk
  refine ⟨⟨by omega, by omega⟩, fun g h1 h2 H locs la hH hS hL => ?_⟩
  have hT := g.2.2.2.2.2.2.2.2.2.1
  have hts := g.2.2.2.2.1
  have hR := g.2.2.2.2.2.2.2.2.1
  have hG : GoodIn zw (va_wsS y.cls ix y' (Cond.codeWith y' cc' n' ret' hh :: zw)) := by
    intro w hw
    unfold va_wsS at hw
    rcases List.mem_append.mp hw with e | e
    · simp only [List.mem_cons, List.not_mem_nil, or_false] at e
      rcases e with rfl | rfl | rfl
      · first | exact zw_good _ hl.1 | exact zw_good _ hl.2 | exact zw_good _ hf.2.1
      · first | exact zw_good _ hl.1 | exact zw_good _ hl.2 | exact zw_good _ hf.2.1
      · first | exact zw_good _ hl.1 | exact zw_good _ hl.2 | exact zw_good _ hf.2.1
    · rcases List.mem_cons.mp e with e | e
      · rw [e]; exact zw_good _ hf.1
      · exact zw_good w e
  refine zrun (vx_runSW (As := As) (rest := rest) ⟨g.1, g.2.1, g.2.2.1, g.2.2.2.1, hts⟩ (hC.2 g.2.2.2.2.2.2.2.2.2.2.1) (vx_cwSW k hts hG rfl rfl rfl ⟨hf.2.2.1.1, hf.2.2.1.2, hf.2.2.2.1⟩ ⟨by rw [hR]; exact hd, by rw [hR]; show 8 + (n' + 11) + 64 * d' ≤ 64 * dd; have := hf.2.2.2.2; omega⟩) (zpre hT hH hS As) rfl hn hL.1 rfl (by show 2 * 0 + _ ≤ 8; omega) d ⟨by rw [hR]; show _ ≤ N.1 - mX M0; omega, by rw [hR]; show _ ≤ N.2 - mS M0; omega⟩) hS fun H1 locs1 hH1 hS1 => ?_
  rw [show mX M - mX M0 + (mX M1 - mX M) = mX M1 - mX M0 from by omega, show mS M - mS M0 + (mS M1 - mS M) = mS M1 - mS M0 from by omega]
  exact k3 g (by omega) (by omega) H1 locs1 la hH1 hS1 hL
theorem V_pop2 {va : Value} (d : decode cc pc = .ok (.pop2, 1)) (hva : va.category = 2) (k : V L X y cc nL ret dd M0 N Q M (pc + 1) ls st) : V L X y cc nL ret dd M0 N Q M pc ls (va :: st) :=
  ⟨k.1, fun g h1 h2 H locs la hH hS hl => lv_pop2_2 g.1 g.2.1 d hva (k.2 g h1 h2 H locs la hH hS hl)⟩
/-- a call that throws, and the row of this method's table that takes it -/
theorem V_callVc {b : Nat} {E : String} {pre suf : List ExceptionTableEntry} {x : ExceptionTableEntry} (hC : CX L X.2.1 y' cc' n' ret' d' M (.ref (zad L b) :: As) (.inl E) M1)
    (hspl : tableOf (zht y) = pre ++ x :: suf) (hpass : ∀ z ∈ pre, z.catchType ≠ 0 ∧ ∃ nm : String, Cond.classLink y.cls z.catchType nm ∈ zw ∧ (E, nm) ∈ znc) (hx : covers x pc = true ∧ x.catchType ≠ 0 ∧ Cond.classLink y.cls x.catchType E ∈ zw ∧ Cond.castable E E ∈ zsp)
    (hf : zcf y' cc' n' ret' k) (hn : As.length = k) (hd : d' + 1 ≤ dd) {kb NN : Nat} {C : String} {T : u_T} (hc : vwCl[kb - 1]? = some (C, T, NN)) (k0 : 0 < kb ∧ kb < 100) (hv : mK M b = kb ∨ mK M b = 300 + kb) (hl : Cond.methodLink y.cls ix y' ∈ zw ∧ Cond.instanceMethod y' ∈ zw ∧ Cond.selects C y' y' ∈ zw) (hcat : (rest.map fun v => v.category).sum ≤ 8) (hst : st = As.reverse ++ .ref (zad L b) :: rest) (d : decode cc pc = .ok (.invokevirtual ix, 3))
    (kk : ∀ q : Nat, V L X y cc nL ret dd M0 N Q M1 x.handlerPc ls [.ref q]) : V L X y cc nL ret dd M0 N Q M pc ls st := by
  subst hst
  have hm := hC.1 X
  have k1 := (kk 0).1.1
  have k2 := (kk 0).1.2
  refine ⟨⟨by omega, by omega⟩, fun g h1 h2 H locs la hH hS hL => ?_⟩
  have hT := g.2.2.2.2.2.2.2.2.2.1
  have hK := hT.2.1
  have hts := g.2.2.2.2.1
  have hR := g.2.2.2.2.2.2.2.2.1
  have htab := g.2.2.2.2.2.2.2.2.2.2.2
  refine zrunX (vx_runV (As := As) (rest := rest) ⟨g.1, g.2.1, g.2.2.1, g.2.2.2.1, hts⟩ (hC.2 g.2.2.2.2.2.2.2.2.2.2.1) ⟨zgc hf hd (Ts := 0) hts hR hl.1, hts _ hl.2.1, hts _ hl.2.2⟩ ⟨(zpre hT hH hS (.ref (zad L b) :: As)).1, zrecv hT hS hc k0 hv hH, (zpre hT hH hS (.ref (zad L b) :: As)).2⟩ rfl hn hL.1 rfl (by show 2 * 0 + _ ≤ 8; omega) d ⟨by rw [hR]; show _ ≤ N.1 - mX M0; omega, by rw [hR]; show _ ≤ N.2 - mS M0; omega⟩) hS (fun E' H1 locs1 ce q9 ho hH1 hS1 hce hcv hcl => ?_) (fun v H1 locs1 ho => by cases ho)
  cases ho
  rw [show mX M - mX M0 + (mX M1 - mX M) = mX M1 - mX M0 from by omega, show mS M - mS M0 + (mS M1 - mS M) = mS M1 - mS M0 from by omega]
  refine vx_catch (name := E) g.2.2.2.1 pre x suf (htab.trans hspl) (fun z hz => Or.inr ?_) hx.1 hx.2.1 (hts _ hx.2.2.1) (va_Nw.use rfl (hT.2.2.1 _ hx.2.2.2)) hce hcv hcl ((kk q9).2 g (by omega) (by omega) H1 locs1 la hH1 hS1 hL)
  obtain ⟨p1, nm, p2, p3⟩ := hpass z hz
  exact ⟨p1, nm, hts _ p2, hT.2.2.2.2.2.2.2.2.2.2.2.2.1 _ p3⟩
end ZHH
/-- on behind a call that may throw: what is thrown is caught -/
def xc {α β : Type} (x : Option ((String ⊕ α) × zM)) (c : String → zM → Option β) (f : α → zM → Option β) : Option β := match x with
  | none => none
  | some (.inl E, M) => c E M
  | some (.inr v, M) => f v M
theorem xcs {α β : Type} {x : Option ((String ⊕ α) × zM)} {c : String → zM → Option β} {f : α → zM → Option β} {r : β} (h : xc x c f = some r) : (∃ E M, x = some (.inl E, M) ∧ c E M = some r) ∨ ∃ v M, x = some (.inr v, M) ∧ f v M = some r := by
  match x, h with
  | some (.inl E, M), h => exact Or.inl ⟨E, M, rfl, h⟩
  | some (.inr v, M), h => exact Or.inr ⟨v, M, rfl, h⟩
