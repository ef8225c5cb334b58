/-! ===== ROWS of the judgement: a text by its wide entry ===== -/
theorem zldcSw {p : Program} {l : Launch} {e : Env} {R : Room} {s : State} {m : MethodId} {args : Array Value} {below : List Frame} {meth : Method} {c : Code} {H : Heap} {locs : List Loc} {cells slots : Nat} {Q : State → Prop} {cc : ByteArray} {pc : Nat} {ls : Array Slot} {rest : List Value} (hexec : p.tables.exec = Jvm.exec) (hb : c.code = cc) {own tx : String} {index q : Nat} (hown : s.vm.findClass own = some m.cls) (hZ : vk_R own index tx q s) (hdg : decode cc pc = .ok (.ldc_w index, 3))
    (k : W p l e R s m args below meth c H locs cells slots Q (F0 m (pc + 3) ls (.ref q :: rest))) : W p l e R s m args below meth c H locs cells slots Q (F0 m pc ls rest) := by
  intro T hT X
  obtain ⟨t, a1, b1⟩ := k T hT X
  exact ⟨t, X.ldcStringW hexec (own := own) (text := tx) (index := index) (a := q) hown hZ.1 hZ.2 (g := F0 m pc ls rest) rfl (by rw [hb]; exact hdg) t a1, b1⟩
theorem V_ldcSw {L : zL} {X : zX} {y : MethodName} {cc : ByteArray} {nL : Nat} {ret : Option FieldType} {dd : Nat} {M0 : zM} {N : Nat × Nat} {Q : State → Prop} {M : zM} {pc : Nat} {ls : List (Nat × Value)} {st : List Value} {ix a : Nat} {tx : String} (hq : (y.cls, ix, tx, a) ∈ zstr L) (d : decode cc pc = .ok (.ldc_w ix, 3)) (k : V L X y cc nL ret dd M0 N Q M (pc + 3) ls (.ref a :: st)) : V L X y cc nL ret dd M0 N Q M pc ls st :=
  ⟨k.1, fun g h1 h2 H locs la hH hS hl => zldcSw g.1 g.2.1 g.2.2.2.1 (g.2.2.2.2.2.2.2.2.2.1.2.2.2.2.2.2.2.2.1 _ hq) d (k.2 g h1 h2 H locs la hH hS hl)⟩
