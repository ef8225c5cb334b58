/-! ===== ROWS of the judgement: calls ===== -/
theorem vU_blind {L : zL} {M : zM} {As : List Value} : FrameBlind (va_Pc As (fun U => vH L M U.heap ∧ vT L U)) := fun a U g mk q => by
  obtain ⟨q0, q1, q2⟩ := q
  exact ⟨q0, q1, q2.moved (State.WarmedH.refl U) (Nat.le_refl _) (fun _ _ _ => rfl)⟩
section ZRUN
variable {p : Program} {l : Launch} {e : Env} {R : Room} {s : State} {m : MethodId} {args : Array Value} {below : List Frame} {meth : Method} {c : Code} {H : Heap} {locs : List Loc} {cells slots : Nat} {Q : State → Prop}
theorem zrun {L : zL} {v : Option Value} {M1 : zM} {mc ms pc : Nat} {la : Array Slot} {st0 rest : List Value} {a : Array Value} (hr : va_Run p l e R s m args below meth c H locs cells slots mc ms (F0 m pc la st0) rest (zPost L v M1 a) (zA L)) (hS : va_S (zA L) s.heap H locs)
    (kk : ∀ (H1 : Heap) (locs1 : List Loc), vH L M1 H1 → va_S (zA L) s.heap H1 locs1 → W p l e R s m args below meth c H1 locs1 (cells + mc) (slots + ms) Q (F0 m (pc + 3) la (v.toList ++ rest))) : W p l e R s m args below meth c H locs cells slots Q (F0 m pc la st0) := by
  intro T hT X
  obtain ⟨v', st₀, t, T', Lo, h0, X', hL, e1, e2, ⟨hv, hH1, hz, hk⟩, st⟩ := hr T hT X
  cases hv
  rw [h0] at hz hk
  obtain ⟨t2, a1, b1⟩ := kk T'.heap (locs ++ Lo) (by rw [e1]; exact hH1)
    ⟨Nat.le_trans hS.1 (by rw [e1]; exact hz), fun q h1 h2 => by rw [e1, hk q (Nat.lt_of_lt_of_le h1 hS.1) h2]; exact hS.2.1 q h1 h2, fun q hq => by
      rcases List.mem_append.mp hq with h | h
      · exact hS.2.2 q h
      · exact hL q h⟩ T' rfl X'
  exact ⟨t2, st t2 a1, b1⟩
theorem zrun5 {L : zL} {v : Option Value} {M1 : zM} {mc ms pc : Nat} {la : Array Slot} {st0 rest : List Value} {a : Array Value} (hr : va_Run5 p l e R s m args below meth c H locs cells slots mc ms (F0 m pc la st0) rest (zPost L v M1 a) (zA L)) (hS : va_S (zA L) s.heap H locs)
    (kk : ∀ (H1 : Heap) (locs1 : List Loc), vH L M1 H1 → va_S (zA L) s.heap H1 locs1 → W p l e R s m args below meth c H1 locs1 (cells + mc) (slots + ms) Q (F0 m (pc + 5) la (v.toList ++ rest))) : W p l e R s m args below meth c H locs cells slots Q (F0 m pc la st0) := by
  intro T hT X
  obtain ⟨v', st₀, t, T', Lo, h0, X', hL, e1, e2, ⟨hv, hH1, hz, hk⟩, st⟩ := hr T hT X
  cases hv
  rw [h0] at hz hk
  obtain ⟨t2, a1, b1⟩ := kk T'.heap (locs ++ Lo) (by rw [e1]; exact hH1)
    ⟨Nat.le_trans hS.1 (by rw [e1]; exact hz), fun q h1 h2 => by rw [e1, hk q (Nat.lt_of_lt_of_le h1 hS.1) h2]; exact hS.2.1 q h1 h2, fun q hq => by
      rcases List.mem_append.mp hq with h | h
      · exact hS.2.2 q h
      · exact hL q h⟩ T' rfl X'
  exact ⟨t2, st t2 a1, b1⟩
end ZRUN
/-- what the tables say of a method that is called: its code, its class, how many arguments -/
def zcf (y : MethodName) (cc : ByteArray) (n : Nat) (ret : Option FieldType) (k : Nat) : Prop := Cond.code y cc n ret ∈ zw ∧ Cond.initialized y.cls ∈ zw ∧ (y.cls ≠ "java/lang/invoke/MethodHandle" ∧ y.cls ≠ "java/lang/invoke/VarHandle") ∧ (parseMethodDescriptor y.desc).map (fun d => d.parameters.length) = some k ∧ n ≤ 45
section ZCALL
variable {L : zL} {X : zX} {y : MethodName} {cc : ByteArray} {nL : Nat} {ret : Option FieldType} {dd : Nat} {M0 : zM} {N : Nat × Nat} {Q : State → Prop} {M : zM} {pc : Nat} {ls : List (Nat × Value)} {st : List Value}
variable {y' : MethodName} {cc' : ByteArray} {n' : Nat} {ret' : Option FieldType} {d' : Nat} {As rest : List Value} {v : Option Value} {M1 : zM} {ix k : Nat}
theorem zgc {Y : zX} (hf : zcf y' cc' n' ret' k) (hd : d' + 1 ≤ dd) {mc ms : Nat} {Ts : Nat} (hts : ∀ w ∈ zw, w.before Y.2.2.2.2.2.2.1 Y.2.2.2.2.1 = true) {a b : Nat} (hR : Y.2.2.2.1 = zrm dd a b) (hl : Cond.methodLink y.cls ix y' ∈ zw) :
    CallB Y.2.2.2.1 Y.2.2.2.2.1 Y.2.2.2.2.2.2.1 y.cls ix y' cc' n' ret' (zws y' cc' n' ret') (zrm d' mc ms) mc ms k :=
  callB_of k hts (zws_good hf.1) rfl rfl rfl (hts _ hf.2.1) (hts _ hl) ⟨hf.2.2.1.1, hf.2.2.1.2, hf.2.2.2.1⟩ ⟨by rw [hR]; exact hd, by rw [hR]; show 8 + (n' + 11) + 64 * d' ≤ 64 * dd; have := hf.2.2.2.2; omega⟩
theorem zgn {Y : zX} {host : String} (hf : zcf y' cc' n' ret' k) (hd : d' + 1 ≤ dd) {mc ms : Nat} {Ts : Nat} (hts : ∀ w ∈ zw, w.before Y.2.2.2.2.2.2.1 Y.2.2.2.2.1 = true) {a b : Nat} (hR : Y.2.2.2.1 = zrm dd a b) (hsp : ∀ w ∈ zsp, va_Nw w Y.2.2.2.2.1) (hl : Cond.methodLinkNest y.cls ix y' host ∈ zsp) :
    va_CN Y.2.2.2.1 Y.2.2.2.2.1 Y.2.2.2.2.2.2.1 y.cls ix y' host cc' n' ret' (zws y' cc' n' ret') (zrm d' mc ms) mc ms k :=
  va_cnB k hts (zws_good hf.1) rfl rfl rfl (hsp _ hl) (hts _ hf.2.1) ⟨hf.2.2.1.1, hf.2.2.1.2, hf.2.2.2.1⟩ ⟨by rw [hR]; exact hd, by rw [hR]; show 8 + (n' + 11) + 64 * d' ≤ 64 * dd; have := hf.2.2.2.2; omega⟩
theorem zpre {Y : zX} {H : Heap} {locs : List Loc} (hT : vT L Y.2.2.2.2.1) (hH : vH L M H) (hS : va_S (zA L) Y.2.2.2.2.1.heap H locs) (Bs : List Value) : PreS Y.2.2.2.2.1 H (va_Pc Bs (fun U => vH L M U.heap ∧ vT L U)) Bs :=
  ⟨vU_blind, fun U hU hW => ⟨rfl, by rw [hU]; exact hH, hT.moved hW (by rw [hU]; exact hS.1) (fun q q1 q2 => by rw [hU]; exact hS.2.1 q q1 q2)⟩⟩
theorem V_callS (hC : CP L X.2.1 y' cc' n' ret' d' M As v M1) (hf : zcf y' cc' n' ret' k) (hn : As.length = k) (hd : d' + 1 ≤ dd) (hl : Cond.methodLink y.cls ix y' ∈ zw ∧ Cond.static y' ∈ zw) (hcat : (rest.map fun v => v.category).sum ≤ 8) (hst : st = As.reverse ++ rest) (d : decode cc pc = .ok (.invokestatic ix, 3)) (kk : V L X y cc nL ret dd M0 N Q M1 (pc + 3) ls (v.toList ++ rest)) : V L X y cc nL ret dd M0 N Q M pc ls st := by
  subst hst
  have hm := hC.1 X
  obtain ⟨⟨k1, k2⟩, k3⟩ := kk
  refine ⟨⟨by omega, by omega⟩, fun g h1 h2 H locs la hH hS hL => ?_⟩
  have hT := g.2.2.2.2.2.2.2.2.2.1
  have hK := hT.2.1
  have hts := g.2.2.2.2.1
  have hR := g.2.2.2.2.2.2.2.2.1
  refine zrun (va_runS (As := As) (rest := rest) ⟨g.1, g.2.1, g.2.2.1, g.2.2.2.1, hts⟩ (hC.2 g.2.2.2.2.2.2.2.2.2.2.1) ⟨zgc hf hd (Ts := 0) hts hR hl.1, hts _ hl.2⟩ (zpre hT hH hS As) rfl hn hL.1 rfl (by show 2 * 0 + _ ≤ 8; omega) d ⟨by rw [hR]; show _ ≤ N.1 - mX M0; omega, by rw [hR]; show _ ≤ N.2 - mS M0; omega⟩) hS fun H1 locs1 hH1 hS1 => ?_
  rw [show mX M - mX M0 + (mX M1 - mX M) = mX M1 - mX M0 from by omega, show mS M - mS M0 + (mS M1 - mS M) = mS M1 - mS M0 from by omega]
  exact k3 g (by omega) (by omega) H1 locs1 la hH1 hS1 hL
theorem V_callV {b : Nat} (hC : CP L X.2.1 y' cc' n' ret' d' M (.ref (zad L b) :: As) v M1) (hf : zcf y' cc' n' ret' k) (hn : As.length = k) (hd : d' + 1 ≤ dd) {kb NN : Nat} {C : String} {T : u_T} (hc : vwCl[kb - 1]? = some (C, T, NN)) (k0 : 0 < kb ∧ kb < 100) (hv : mK M b = kb ∨ mK M b = 300 + kb) (hl : Cond.methodLink y.cls ix y' ∈ zw ∧ Cond.instanceMethod y' ∈ zw ∧ Cond.selects C y' y' ∈ zw) (hcat : (rest.map fun v => v.category).sum ≤ 8) (hst : st = As.reverse ++ .ref (zad L b) :: rest) (d : decode cc pc = .ok (.invokevirtual ix, 3)) (kk : V L X y cc nL ret dd M0 N Q M1 (pc + 3) ls (v.toList ++ rest)) : V L X y cc nL ret dd M0 N Q M pc ls st := by
  subst hst
  have hm := hC.1 X
  obtain ⟨⟨k1, k2⟩, k3⟩ := kk
  refine ⟨⟨by omega, by omega⟩, fun g h1 h2 H locs la hH hS hL => ?_⟩
  have hT := g.2.2.2.2.2.2.2.2.2.1
  have hK := hT.2.1
  have hts := g.2.2.2.2.1
  have hR := g.2.2.2.2.2.2.2.2.1
  refine zrun (va_runV (As := As) (rest := rest) ⟨g.1, g.2.1, g.2.2.1, g.2.2.2.1, hts⟩ (hC.2 g.2.2.2.2.2.2.2.2.2.2.1) ⟨zgc hf hd (Ts := 0) hts hR hl.1, hts _ hl.2.1, hts _ hl.2.2⟩ ⟨(zpre hT hH hS (.ref (zad L b) :: As)).1, zrecv hT hS hc k0 hv hH, (zpre hT hH hS (.ref (zad L b) :: As)).2⟩ rfl hn hL.1 rfl (by show 2 * 0 + _ ≤ 8; omega) d ⟨by rw [hR]; show _ ≤ N.1 - mX M0; omega, by rw [hR]; show _ ≤ N.2 - mS M0; omega⟩) hS fun H1 locs1 hH1 hS1 => ?_
  rw [show mX M - mX M0 + (mX M1 - mX M) = mX M1 - mX M0 from by omega, show mS M - mS M0 + (mS M1 - mS M) = mS M1 - mS M0 from by omega]
  exact k3 g (by omega) (by omega) H1 locs1 la hH1 hS1 hL
theorem V_callI {b : Nat} (hC : CP L X.2.1 y' cc' n' ret' d' M (.ref (zad L b) :: As) v M1) (hf : zcf y' cc' n' ret' k) (hn : As.length = k) (hd : d' + 1 ≤ dd) (hl : Cond.methodLink y.cls ix y' ∈ zw ∧ Cond.instanceMethod y' ∈ zw ∧ y'.name = "<init>") (hret : ret' = none) (hcat : (rest.map fun v => v.category).sum ≤ 8) (hst : st = As.reverse ++ .ref (zad L b) :: rest) (d : decode cc pc = .ok (.invokespecial ix, 3)) (kk : V L X y cc nL ret dd M0 N Q M1 (pc + 3) ls (v.toList ++ rest)) : V L X y cc nL ret dd M0 N Q M pc ls st := by
  subst hst
  subst hret
  have hm := hC.1 X
  obtain ⟨⟨k1, k2⟩, k3⟩ := kk
  refine ⟨⟨by omega, by omega⟩, fun g h1 h2 H locs la hH hS hL => ?_⟩
  have hT := g.2.2.2.2.2.2.2.2.2.1
  have hK := hT.2.1
  have hts := g.2.2.2.2.1
  have hR := g.2.2.2.2.2.2.2.2.1
  refine zrun (va_runI (As := As) (rest := rest) ⟨g.1, g.2.1, g.2.2.1, g.2.2.2.1, hts⟩ (hC.2 g.2.2.2.2.2.2.2.2.2.2.1) ⟨zgc hf hd (Ts := 0) hts hR hl.1, hl.2.2, hts _ hl.2.1⟩ (zpre hT hH hS (.ref (zad L b) :: As)) rfl hn hL.1 rfl (by show 2 * 0 + _ ≤ 8; omega) d ⟨by rw [hR]; show _ ≤ N.1 - mX M0; omega, by rw [hR]; show _ ≤ N.2 - mS M0; omega⟩) hS fun H1 locs1 hH1 hS1 => ?_
  rw [show mX M - mX M0 + (mX M1 - mX M) = mX M1 - mX M0 from by omega, show mS M - mS M0 + (mS M1 - mS M) = mS M1 - mS M0 from by omega]
  exact k3 g (by omega) (by omega) H1 locs1 la hH1 hS1 hL
theorem V_callSN (hC : CP L X.2.1 y' cc' n' ret' d' M As v M1) (hf : zcf y' cc' n' ret' k) (hn : As.length = k) (hd : d' + 1 ≤ dd) {host : String} (hl : Cond.methodLinkNest y.cls ix y' host ∈ zsp ∧ Cond.static y' ∈ zw) (hcat : (rest.map fun v => v.category).sum ≤ 8) (hst : st = As.reverse ++ rest) (d : decode cc pc = .ok (.invokestatic ix, 3)) (kk : V L X y cc nL ret dd M0 N Q M1 (pc + 3) ls (v.toList ++ rest)) : V L X y cc nL ret dd M0 N Q M pc ls st := by
  subst hst
  have hm := hC.1 X
  obtain ⟨⟨k1, k2⟩, k3⟩ := kk
  refine ⟨⟨by omega, by omega⟩, fun g h1 h2 H locs la hH hS hL => ?_⟩
  have hT := g.2.2.2.2.2.2.2.2.2.1
  have hK := hT.2.1
  have hts := g.2.2.2.2.1
  have hR := g.2.2.2.2.2.2.2.2.1
  refine zrun (va_runSN (As := As) (rest := rest) ⟨g.1, g.2.1, g.2.2.1, g.2.2.2.1, hts⟩ (hC.2 g.2.2.2.2.2.2.2.2.2.2.1) ⟨zgn hf hd (Ts := 0) hts hR hT.2.2.1 hl.1, hts _ hl.2, trivial⟩ (zpre hT hH hS As) rfl hn hL.1 rfl (by show 2 * 0 + _ ≤ 8; omega) d ⟨by rw [hR]; show _ ≤ N.1 - mX M0; omega, by rw [hR]; show _ ≤ N.2 - mS M0; omega⟩) hS fun H1 locs1 hH1 hS1 => ?_
  rw [show mX M - mX M0 + (mX M1 - mX M) = mX M1 - mX M0 from by omega, show mS M - mS M0 + (mS M1 - mS M) = mS M1 - mS M0 from by omega]
  exact k3 g (by omega) (by omega) H1 locs1 la hH1 hS1 hL
theorem V_callVN {b : Nat} (hC : CP L X.2.1 y' cc' n' ret' d' M (.ref (zad L b) :: As) v M1) (hf : zcf y' cc' n' ret' k) (hn : As.length = k) (hd : d' + 1 ≤ dd) {kb NN : Nat} {C : String} {T : u_T} (hc : vwCl[kb - 1]? = some (C, T, NN)) (k0 : 0 < kb ∧ kb < 100) (hv : mK M b = kb ∨ mK M b = 300 + kb) {host : String} (hl : Cond.methodLinkNest y.cls ix y' host ∈ zsp ∧ Cond.instanceMethod y' ∈ zw ∧ Cond.selects C y' y' ∈ zw) (hcat : (rest.map fun v => v.category).sum ≤ 8) (hst : st = As.reverse ++ .ref (zad L b) :: rest) (d : decode cc pc = .ok (.invokevirtual ix, 3)) (kk : V L X y cc nL ret dd M0 N Q M1 (pc + 3) ls (v.toList ++ rest)) : V L X y cc nL ret dd M0 N Q M pc ls st := by
  subst hst
  have hm := hC.1 X
  obtain ⟨⟨k1, k2⟩, k3⟩ := kk
  refine ⟨⟨by omega, by omega⟩, fun g h1 h2 H locs la hH hS hL => ?_⟩
  have hT := g.2.2.2.2.2.2.2.2.2.1
  have hK := hT.2.1
  have hts := g.2.2.2.2.1
  have hR := g.2.2.2.2.2.2.2.2.1
  refine zrun (va_runVN (As := As) (rest := rest) ⟨g.1, g.2.1, g.2.2.1, g.2.2.2.1, hts⟩ (hC.2 g.2.2.2.2.2.2.2.2.2.2.1) ⟨zgn hf hd (Ts := 0) hts hR hT.2.2.1 hl.1, hts _ hl.2.1, hts _ hl.2.2⟩ ⟨(zpre hT hH hS (.ref (zad L b) :: As)).1, zrecv hT hS hc k0 hv hH, (zpre hT hH hS (.ref (zad L b) :: As)).2⟩ rfl hn hL.1 rfl (by show 2 * 0 + _ ≤ 8; omega) d ⟨by rw [hR]; show _ ≤ N.1 - mX M0; omega, by rw [hR]; show _ ≤ N.2 - mS M0; omega⟩) hS fun H1 locs1 hH1 hS1 => ?_
  rw [show mX M - mX M0 + (mX M1 - mX M) = mX M1 - mX M0 from by omega, show mS M - mS M0 + (mS M1 - mS M) = mS M1 - mS M0 from by omega]
  exact k3 g (by omega) (by omega) H1 locs1 la hH1 hS1 hL
theorem V_callIN {b : Nat} (hC : CP L X.2.1 y' cc' n' ret' d' M (.ref (zad L b) :: As) v M1) (hf : zcf y' cc' n' ret' k) (hn : As.length = k) (hd : d' + 1 ≤ dd) {host : String} (hl : Cond.methodLinkNest y.cls ix y' host ∈ zsp ∧ Cond.instanceMethod y' ∈ zw ∧ y'.name = "<init>") (hret : ret' = none) (hcat : (rest.map fun v => v.category).sum ≤ 8) (hst : st = As.reverse ++ .ref (zad L b) :: rest) (d : decode cc pc = .ok (.invokespecial ix, 3)) (kk : V L X y cc nL ret dd M0 N Q M1 (pc + 3) ls (v.toList ++ rest)) : V L X y cc nL ret dd M0 N Q M pc ls st := by
  subst hst
  subst hret
  have hm := hC.1 X
  obtain ⟨⟨k1, k2⟩, k3⟩ := kk
  refine ⟨⟨by omega, by omega⟩, fun g h1 h2 H locs la hH hS hL => ?_⟩
  have hT := g.2.2.2.2.2.2.2.2.2.1
  have hK := hT.2.1
  have hts := g.2.2.2.2.1
  have hR := g.2.2.2.2.2.2.2.2.1
  refine zrun (va_runIN (As := As) (rest := rest) ⟨g.1, g.2.1, g.2.2.1, g.2.2.2.1, hts⟩ (hC.2 g.2.2.2.2.2.2.2.2.2.2.1) ⟨zgn hf hd (Ts := 0) hts hR hT.2.2.1 hl.1, hl.2.2, hts _ hl.2.1⟩ (zpre hT hH hS (.ref (zad L b) :: As)) rfl hn hL.1 rfl (by show 2 * 0 + _ ≤ 8; omega) d ⟨by rw [hR]; show _ ≤ N.1 - mX M0; omega, by rw [hR]; show _ ≤ N.2 - mS M0; omega⟩) hS fun H1 locs1 hH1 hS1 => ?_
  rw [show mX M - mX M0 + (mX M1 - mX M) = mX M1 - mX M0 from by omega, show mS M - mS M0 + (mS M1 - mS M) = mS M1 - mS M0 from by omega]
  exact k3 g (by omega) (by omega) H1 locs1 la hH1 hS1 hL
theorem V_objInit {b : Nat} (hw : Cond.methodLink y.cls ix objectInit ∈ zw ∧ Cond.instanceMethod objectInit ∈ zw ∧ Cond.code objectInit ⟨#[0xb1]⟩ 1 none ∈ zw) (hd : 1 ≤ dd) (hcat : (rest.map fun v => v.category).sum ≤ 8) (d : decode cc pc = .ok (.invokespecial ix, 3)) (kk : V L X y cc nL ret dd M0 N Q M (pc + 3) ls rest) : V L X y cc nL ret dd M0 N Q M pc ls (.ref (zad L b) :: rest) := by
  refine ⟨kk.1, fun g h1 h2 H locs la hH hS hL => ?_⟩
  have hts := g.2.2.2.2.1
  have hR := g.2.2.2.2.2.2.2.2.1
  refine W.objInit g.1 g.2.1 g.2.2.2.1 (hts _ hw.1) (hts _ hw.2.1) (hts _ hw.2.2) rfl (by rw [g.2.2.1]; exact hL.1) rfl d (by rw [hR]; exact hd) (by rw [hR]; show 2 * 0 + _ + 12 ≤ 64 * dd; omega) ?_
  exact kk.2 g h1 h2 H locs la hH hS hL
end ZCALL
