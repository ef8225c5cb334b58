/-! ===== ROWS of the judgement that the methods of texts want: methods of the class above, bytes, texts ===== -/
theorem zna_char {x : Int32} (h : vp_nar .char x = x) : narrow .char (.int x) = .int x := by
  have e : ∃ z, narrow .char (.int x) = .int z := ⟨_, rfl⟩
  obtain ⟨z, hz⟩ := e
  unfold vp_nar at h
  rw [hz] at h ⊢
  exact congrArg Value.int h
theorem zna_byte {x : Int32} (h : vp_nar .byte x = x) : narrow .byte (.int x) = .int x := by
  have e : ∃ z, narrow .byte (.int x) = .int z := ⟨_, rfl⟩
  obtain ⟨z, hz⟩ := e
  unfold vp_nar at h
  rw [hz] at h ⊢
  exact congrArg Value.int h
theorem V_putB {L : zL} {X : zX} {y : MethodName} {cc : ByteArray} {nL : Nat} {ret : Option FieldType} {dd : Nat} {M0 : zM} {N : Nat × Nat} {Q : State → Prop} {M : zM} {pc : Nat} {ls : List (Nat × Value)} {st : List Value} {c k : Nat} {C ref : String} {T : u_T} {NN ix a : Nat} {ty : Nat → FieldType} {v : Int32} {M1 : zM} (hf : zfd c k 0 C T NN ty) (hl : zlk y.cls ix ref T k) (hfin : (T k).2.2.2 = false ∨ ((T k).2.2.2 = true ∧ y.name = "<init>" ∧ (T k).1 = y.cls)) (hty : ty k = .byte) (h : pZ c k M a v = some M1) (d : decode cc pc = .ok (.putfield ix, 3)) (kk : V L X y cc nL ret dd M0 N Q M1 (pc + 3) ls st) : V L X y cc nL ret dd M0 N Q M pc ls (.int v :: .ref (zad L a) :: st) := by
  unfold pZ at h
  have hx : (if mK M a = c ∧ (v = 0 ∨ v = 1) then some (sI M (32 * c + k) a v) else none) = some M1 := h
  have hm : mK M a = c := by
    by_cases hm : mK M a = c
    · exact hm
    · simp [hm] at hx
  have hz : v = 0 ∨ v = 1 := by
    by_cases hz : v = 0 ∨ v = 1
    · exact hz
    · simp [hz] at hx
  have e1 : M1 = sI M (32 * c + k) a v := by
    rw [if_pos ⟨hm, hz⟩] at hx
    exact (Option.some.inj hx).symm
  subst e1
  refine ⟨kk.1, fun g h1 h2 H locs la hH hS hL => ?_⟩
  obtain ⟨c0, c1, hc, hin, hpt, hnm, hk, hlay⟩ := hf
  have hO : zO L := g.2.2.2.2.2.2.2.2.2.1.1
  have ha : 1000 ≤ a := hH.2.2.1 a (by omega) (by omega)
  refine zWput g.1 g.2.1 g.2.2.2.2.1 hin ty hpt hnm g.2.2.2.1 g.2.2.2.2.2.2.2.2.2.1.2.1 (hH.2.2.2.1 a c hm c0 c1) hc k hk (g.2.2.2.2.1 _ hl.1) (zlk_same hl g.2.2.2.2.1) (hfin.imp id fun q => ⟨q.1, g.2.2.2.2.2.2.2.1.trans q.2.1, q.2.2⟩) (hpt k hk) (by rw [hty]; rcases hz with rfl | rfl <;> rfl) (by rw [hty]; rcases hz with rfl | rfl <;> rfl) (by rw [zFs_len]; exact (List.getElem?_eq_some_iff.mp hlay).1) d (fun H1 q hat hz1 hq1 hb1 => ?_)
  refine kk.2 g h1 h2 H1 _ la (hH.obj hO hm c0 c1 rfl rfl rfl rfl rfl (fun b hb => zFs_ne (zV_sI_ne hb)) hz1 hq1 ?_) ?_ hL
  · rw [zFs_set hlay (v := .int v) ?_ (fun t j hj => zV_sI_nk t j hj)]
    · exact hat
    · simp [zV, sI, mI, mJ, mD, mR, u2]
  · have hA : zA L (zad L a) := by
      have := (hO a).1 ha
      show zB L ≤ zad L a
      omega
    refine ⟨by rw [hz1]; exact hS.1, fun q' g1 g2 => ?_, fun q' hq' => ?_⟩
    · rw [hq1 q' (fun e => g2 (by rw [e]; exact hA))]
      exact hS.2.1 q' g1 g2
    · rcases List.mem_append.mp hq' with e | e
      · exact hS.2.2 q' e
      · rw [List.mem_singleton.mp e, hb1]
        exact hA
section ZSB
variable {L : zL} {X : zX} {y : MethodName} {cc : ByteArray} {nL : Nat} {ret : Option FieldType} {dd : Nat} {M0 : zM} {N : Nat × Nat} {Q : State → Prop} {M : zM} {pc : Nat} {ls : List (Nat × Value)} {st : List Value}
variable {y' : MethodName} {cc' : ByteArray} {n' : Nat} {ret' : Option FieldType} {d' : Nat} {As rest : List Value} {v : Option Value} {M1 : zM} {ix k : Nat}
theorem V_ifnn {a : Nat} {off : Int} {tgt : Nat} (d : decode cc pc = .ok (.ifnonnull off, 3)) (ht : (pc : Int) + off = (tgt : Int)) (k : V L X y cc nL ret dd M0 N Q M tgt ls st) : V L X y cc nL ret dd M0 N Q M pc ls (.ref a :: st) :=
  ⟨k.1, fun g h1 h2 H locs la hH hS hl => lv_ifnonnull g.1 g.2.1 d ht (k.2 g h1 h2 H locs la hH hS hl)⟩
theorem V_ifn {a : Nat} {off : Int} (d : decode cc pc = .ok (.ifnull off, 3)) (k : V L X y cc nL ret dd M0 N Q M (pc + 3) ls st) : V L X y cc nL ret dd M0 N Q M pc ls (.ref a :: st) :=
  ⟨k.1, fun g h1 h2 H locs la hH hS hl => lv_ifnull g.1 g.2.1 d (k.2 g h1 h2 H locs la hH hS hl)⟩
theorem V_ldcS {ix a : Nat} {tx : String} (hq : (y.cls, ix, tx, a) ∈ zstr L) (d : decode cc pc = .ok (.ldc ix, 2)) (k : V L X y cc nL ret dd M0 N Q M (pc + 2) ls (.ref a :: st)) : V L X y cc nL ret dd M0 N Q M pc ls st :=
  ⟨k.1, fun g h1 h2 H locs la hH hS hl => va_ldcS g.1 g.2.1 g.2.2.2.1 (g.2.2.2.2.2.2.2.2.2.1.2.2.2.2.2.2.2.2.1 _ hq) d (k.2 g h1 h2 H locs la hH hS hl)⟩
theorem V_callU {b : Nat} (hC : CP L X.2.1 y' cc' n' ret' d' M (.ref (zad L b) :: As) v M1) (hf : zcf y' cc' n' ret' k) (hn : As.length = k) (hd : d' + 1 ≤ dd) {kb NN : Nat} {C : String} {T : u_T} (hc : vwCl[kb - 1]? = some (C, T, NN)) (k0 : 0 < kb ∧ kb < 100) (hv : mK M b = kb ∨ mK M b = 300 + kb) (hl : Cond.methodLink y.cls ix y' ∈ zw ∧ Cond.sameMethod y'.cls y'.cls y'.name y'.desc ∈ zw ∧ Cond.superclass y.cls y'.cls ∈ zw ∧ Cond.instanceMethod y' ∈ zw ∧ y'.name ≠ "<init>" ∧ y.cls = C) (hcat : (rest.map fun v => v.category).sum ≤ 8) (hst : st = As.reverse ++ .ref (zad L b) :: rest) (d : decode cc pc = .ok (.invokespecial ix, 3)) (kk : V L X y cc nL ret dd M0 N Q M1 (pc + 3) ls (v.toList ++ rest)) : V L X y cc nL ret dd M0 N Q M pc ls st := by
  subst hst
  have hm := hC.1 X
  obtain ⟨⟨k1, k2⟩, k3⟩ := kk
  refine ⟨⟨by omega, by omega⟩, fun g h1 h2 H locs la hH hS hL => ?_⟩
  have hT := g.2.2.2.2.2.2.2.2.2.1
  have hK := hT.2.1
  have hts := g.2.2.2.2.1
  have hR := g.2.2.2.2.2.2.2.2.1
  have hG : GoodIn zw (va_wsSU y.cls ix y' (zws y' cc' n' ret')) := by
    intro w hw
    unfold va_wsSU at hw
    rcases List.mem_append.mp hw with e | e
    · simp only [List.mem_cons, List.not_mem_nil, or_false] at e
      rcases e with rfl | rfl | rfl | rfl | rfl
      · exact zw_good _ hl.1
      · exact zw_good _ hl.2.1
      · exact zw_good _ hl.2.2.1
      · exact zw_good _ hl.2.2.2.1
      · exact zw_good _ hf.2.1
    · exact zws_good hf.1 w e
  refine zrun (va_runSU (As := As) (rest := rest) (hK.1 (kb - 1) _ hc).2 ⟨g.1, g.2.1, g.2.2.1, g.2.2.2.1, hts⟩ (hC.2 g.2.2.2.2.2.2.2.2.2.2.1) (va_cwSU k hts hG rfl rfl rfl ⟨hl.2.2.2.2.1, hf.2.2.2.1⟩ ⟨by rw [hR]; exact hd, by rw [hR]; show 8 + (n' + 11) + 64 * d' ≤ 64 * dd; have := hf.2.2.2.2; omega⟩) ⟨(zpre hT hH hS (.ref (zad L b) :: As)).1, zrecv hT hS hc k0 hv hH, (zpre hT hH hS (.ref (zad L b) :: As)).2⟩ rfl hn hL.1 rfl (by show 2 * 0 + _ ≤ 8; omega) d ⟨by rw [hR]; show _ ≤ N.1 - mX M0; omega, by rw [hR]; show _ ≤ N.2 - mS M0; omega⟩) hS fun H1 locs1 hH1 hS1 => ?_
  rw [show mX M - mX M0 + (mX M1 - mX M) = mX M1 - mX M0 from by omega, show mS M - mS M0 + (mS M1 - mS M) = mS M1 - mS M0 from by omega]
  exact k3 g (by omega) (by omega) H1 locs1 la hH1 hS1 hL
theorem V_callO {b : Nat} {x : MethodName} {b0 : ByteArray} {m0 : Nat} {r0 : Option FieldType} (hC : CP L X.2.1 y' cc' n' ret' d' M (.ref (zad L b) :: As) v M1) (hf : zcf y' cc' n' ret' k) (hn : As.length = k) (hd : d' + 1 ≤ dd) {kb NN : Nat} {C : String} {T : u_T} (hc : vwCl[kb - 1]? = some (C, T, NN)) (k0 : 0 < kb ∧ kb < 100) (hv : mK M b = kb ∨ mK M b = 300 + kb) (hl : Cond.methodLink y.cls ix x ∈ zw ∧ Cond.sameMethod x.cls x.cls x.name x.desc ∈ zw ∧ Cond.instanceMethod x ∈ zw ∧ Cond.selects C x y' ∈ zw ∧ Cond.instanceMethod y' ∈ zw) (h0 : Cond.code x b0 m0 r0 ∈ zw) (hx : (x.cls ≠ "java/lang/invoke/MethodHandle" ∧ x.cls ≠ "java/lang/invoke/VarHandle" ∧ (parseMethodDescriptor x.desc).map (fun d => d.parameters.length) = some k)) (hcat : (rest.map fun v => v.category).sum ≤ 8) (hst : st = As.reverse ++ .ref (zad L b) :: rest) (d : decode cc pc = .ok (.invokevirtual ix, 3)) (kk : V L X y cc nL ret dd M0 N Q M1 (pc + 3) ls (v.toList ++ rest)) : V L X y cc nL ret dd M0 N Q M pc ls st := by
  subst hst
  have hm := hC.1 X
  obtain ⟨⟨k1, k2⟩, k3⟩ := kk
  refine ⟨⟨by omega, by omega⟩, fun g h1 h2 H locs la hH hS hL => ?_⟩
  have hT := g.2.2.2.2.2.2.2.2.2.1
  have hK := hT.2.1
  have hts := g.2.2.2.2.1
  have hR := g.2.2.2.2.2.2.2.2.1
  have hG : GoodIn zw (va_wsO y.cls ix C x.cls x y' (zws y' cc' n' ret')) := by
    intro w hw
    unfold va_wsO at hw
    rcases List.mem_append.mp hw with e | e
    · simp only [List.mem_cons, List.not_mem_nil, or_false] at e
      rcases e with rfl | rfl | rfl | rfl | rfl | rfl
      · exact zw_good _ hl.1
      · exact zw_good _ hl.2.1
      · exact zw_good _ hl.2.2.1
      · exact zw_good _ hl.2.2.2.1
      · exact zw_good _ hl.2.2.2.2
      · exact zw_good _ hf.2.1
    · exact zws_good hf.1 w e
  refine zrun (va_runU (As := As) (rest := rest) ⟨g.1, g.2.1, g.2.2.1, g.2.2.2.1, hts⟩ (hC.2 g.2.2.2.2.2.2.2.2.2.2.1) (va_cwO k hts hG rfl rfl rfl h0 hx ⟨by rw [hR]; exact hd, by rw [hR]; show 8 + (n' + 11) + 64 * d' ≤ 64 * dd; have := hf.2.2.2.2; omega⟩) ⟨(zpre hT hH hS (.ref (zad L b) :: As)).1, zrecv hT hS hc k0 hv hH, (zpre hT hH hS (.ref (zad L b) :: As)).2⟩ rfl hn hL.1 rfl (by show 2 * 0 + _ ≤ 8; omega) d ⟨by rw [hR]; show _ ≤ N.1 - mX M0; omega, by rw [hR]; show _ ≤ N.2 - mS M0; omega⟩) hS fun H1 locs1 hH1 hS1 => ?_
  rw [show mX M - mX M0 + (mX M1 - mX M) = mX M1 - mX M0 from by omega, show mS M - mS M0 + (mS M1 - mS M) = mS M1 - mS M0 from by omega]
  exact k3 g (by omega) (by omega) H1 locs1 la hH1 hS1 hL
end ZSB
