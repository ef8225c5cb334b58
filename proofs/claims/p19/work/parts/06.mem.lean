/-! ===== ROWS of the judgement: fields ===== -/
theorem zad_ne {L : zL} (hO : zO L) {a b : Nat} (h : 1000 ≤ a) (hb : b ≠ a) (h8 : b ≠ 8) : zad L b ≠ zad L a := by
  have h1 := (hO a).1 h
  rcases Nat.lt_or_ge b 1000 with q | q
  · have h2 := (hO b).2 q h8
    intro e
    omega
  · have h2 := (hO b).1 q
    intro e
    omega
theorem zone {D : va_G} {cl : List vw_C} {q : Nat × va_E} {H : Heap} (h : va_at D cl q H) : va_P D cl [q] H := fun k x hx => by
  cases k with
  | zero => cases hx; exact h
  | succ k => simp at hx
theorem zFs_at {L : zL} {M : zM} {c k t a : Nat} (h : (zlay c)[k]? = some t) : (zFs L M c a)[k]? = some (zV L M t (32 * c + k) a) := by
  unfold zFs
  rw [List.getElem?_mapIdx, h]
  rfl
theorem zFs_len {L : zL} {M : zM} {c a : Nat} : (zFs L M c a).length = (zlay c).length := by simp [zFs]
theorem zFs_ne {L : zL} {M M' : zM} {b : Nat} (h : ∀ t k, zV L M' t k b = zV L M t k b) (c : Nat) : zFs L M' c b = zFs L M c b := by
  unfold zFs
  congr 1
  funext k t
  exact h t _
theorem zFs_set {L : zL} {M M' : zM} {c k t a : Nat} {v : Value} (hl : (zlay c)[k]? = some t) (h1 : zV L M' t (32 * c + k) a = v) (h2 : ∀ t j, j ≠ k → zV L M' t (32 * c + j) a = zV L M t (32 * c + j) a) : zFs L M' c a = (zFs L M c a).set k v := by
  have hk : k < (zlay c).length := (List.getElem?_eq_some_iff.mp hl).1
  refine List.ext_getElem? fun j => ?_
  rw [List.getElem?_set]
  by_cases e : k = j
  · subst e
    rw [if_pos rfl, zFs_len, if_pos hk, zFs_at hl, h1]
  · rw [if_neg e]
    unfold zFs
    rw [List.getElem?_mapIdx, List.getElem?_mapIdx]
    cases (zlay c)[j]? with
    | none => rfl
    | some t' => exact congrArg some (h2 t' j (Ne.symm e))
theorem vH.obj {L : zL} {M M' : zM} {H H1 : Heap} {a c : Nat} (hO : zO L) (h : vH L M H) (ha : mK M a = c) (h0 : 0 < c) (h1 : c < 100) (eK : mK M' = mK M) (eL : mL M' = mL M) (eX : mX M' = mX M) (eA : mA M' = mA M) (eQ : mQ M' = mQ M) (ef : ∀ b, b ≠ a → ∀ c, zFs L M' c b = zFs L M c b) (hz : H1.size = H.size) (hq : ∀ q, q ≠ zad L a → H1[q]? = H[q]?) (hat : va_at (zD L) vwCl (zad L a, .inr (c - 1, zFs L M' c a)) H1) : vH L M' H1 := by
  obtain ⟨⟨s1, s2⟩, s3, s4, s5, s6, s7, s8⟩ := h
  have ha' : 1000 ≤ a := s4 a (by omega) (by omega)
  refine ⟨⟨by rw [hz, eX]; exact s1, by rw [eX]; exact s2⟩, by rw [eK, eX]; exact s3, by rw [eK]; exact s4, fun b c' hb q0 q1 => ?_, fun b t ht hb => ?_, fun b t ht hb => ?_, fun b hb => ?_⟩
  · rw [eK] at hb
    by_cases e : b = a
    · subst e
      have e2 : c' = c := hb.symm.trans ha
      subst e2
      exact hat
    · rw [ef b e]
      exact (s5 b c' hb q0 q1).kept (hq _ (zad_ne hO ha' e (by have := s4 b (by omega) (by omega); omega)))
  · rw [eK] at hb
    have e : b ≠ a := by rintro rfl; omega
    rw [eL, eA]
    exact (s6 b t ht hb).kept (hq _ (zad_ne hO ha' e (by have := s4 b (by omega) (by omega); omega)))
  · rw [eK] at hb
    have e : b ≠ a := by rintro rfl; omega
    rw [eL, eQ]
    exact (s7 b t ht hb).kept (hq _ (zad_ne hO ha' e (by have := s4 b (by omega) (by omega); omega)))
  · rw [eK] at hb
    have e : b ≠ a := by rintro rfl; omega
    obtain ⟨x1, x2, x3, x4, x5⟩ := s8 b hb
    rw [eK, eL, eA, eQ]
    exact ⟨x1, x2, x3, x4, fun c => (ef b e c).trans (x5 c)⟩
section ZPUT
variable {p : Program} {l : Launch} {e : Env} {R : Room} {s : State} {m : MethodId} {args : Array Value} {below : List Frame} {meth : Method} {c : Code} {H : Heap} {locs : List Loc} {cells slots : Nat} {Q : State → Prop}
variable {cc : ByteArray} {pc : Nat} {ls : Array Slot} {rest : List Value} {D : va_G} {cl : List vw_C} {a : Nat} {tys : List (ClassId × FieldType)}
/-- as the kit's va_put, over one cell: what else is there stays -/
theorem zWput (hexec : p.tables.exec = Jvm.exec) (hb : c.code = cc) {own ref C : String} {T : u_T} {NN ci index : Nat} {Ts : List Cond} (hts : ∀ w ∈ Ts, w.before args s = true) (hin : ∀ w ∈ u_ws C T NN, w ∈ Ts) (ty0 : Nat → FieldType) (hty : ∀ k, k < NN → parseFieldDescriptor (T k).2.2.1 = some (ty0 k)) (hnm : ∀ a, a < NN → ∀ b, b < NN → a ≠ b → (T a).2.1 ≠ (T b).2.1) (hown : s.vm.findClass own = some m.cls) (hK : va_K D cl tys s) {fs : List Value} (hat : va_at D cl (a, .inr (ci, fs)) H) (hc : cl[ci]? = some (C, T, NN)) (k : Nat) (hk : k < NN) (hlink : (Cond.fieldLink own index ref (T k).2.1 (T k).2.2.1).before args s = true) (hsame : ∀ x, s.fieldFound? (T k).1 (T k).2.1 (T k).2.2.1 = some x → s.fieldFound? ref (T k).2.1 (T k).2.2.1 = some x) (hfin : (T k).2.2.2 = false ∨ ((T k).2.2.2 = true ∧ meth.name = "<init>" ∧ (T k).1 = own)) {ty : FieldType} {v : Value} (hd : parseFieldDescriptor (T k).2.2.1 = some ty) (hn : narrow ty v = v) (hfit : fits ty v = true) (hl : k < fs.length)
    (hdg : decode cc pc = .ok (.putfield index, 3)) (kk : ∀ (H1 : Heap) (q : Loc), va_at D cl (a, .inr (ci, fs.set k v)) H1 → H1.size = H.size → (∀ q : Nat, q ≠ a → H1[q]? = H[q]?) → q.base = a → W p l e R s m args below meth c H1 (locs ++ [q]) cells slots Q (F0 m (pc + 3) ls rest)) : W p l e R s m args below meth c H locs cells slots Q (F0 m pc ls (v :: .ref a :: rest)) := by
  have hap := va_apart (own := own) hts hin ty0 hty hnm hK hc
  obtain ⟨r, h1, cell, q1, q2, q3, q4⟩ := hat
  have hr : r = (C, T, NN) := Option.some.inj (h1.symm.trans hc)
  subst hr
  obtain ⟨hS, hfc, kC, hkC, hkind⟩ := hK.1 ci _ hc
  obtain ⟨cf, kf, fi, f, hi, hsl⟩ := hS k hk
  have hlay := hts _ (hin _ (u_in_lay hk))
  have hst := (u_facts hfc hkC (u_lays hts hin hk) hi).1
  rcases hfin with hfin | ⟨hfin, hin2, hdecl⟩
  · unfold u_lay at hlay
    rw [if_neg (by rw [hfin]; decide)] at hlay
    have h6 := u_store hfc hkC hkind hlay hi hd hn hfit
    refine W.putK hexec hb (f := f) ⟨hown, hlink, ⟨_, _, _, hsame _ hi⟩, hst⟩ (by rw [q2]; exact h6) q1 q3 (by rw [hsl]; exact k2_hasslot (q4 k hk)) rfl rfl hdg fun H' e1 e2 e3 => ?_
    rw [hsl] at e1 ⊢
    exact kk H' _ ⟨_, hc, t_OB.to (V := updV (vp_V fs) k v) ⟨_, e1, q2, q3, t_set q4 hap hk v⟩ (fun j _ => vp_updV_set hl v j)⟩ e2 e3 rfl
  · unfold u_lay at hlay
    rw [if_pos hfin] at hlay
    have hcf : m.cls = cf := by
      obtain ⟨_, _, c', _, _, _, -, -, hf', -, -, -, hown2, -⟩ := Cond.laysFinal_spec hlay
      have e1 : c' = cf := by have := hi.symm.trans hf'; simp at this; exact this.1.symm
      rw [hdecl] at hown2
      rw [← e1]; exact Option.some.inj (hown.symm.trans hown2)
    have h6 := u_fits hfc hkC hkind (Or.inr hlay) hi hd hn hfit
    refine W.putFinK hexec hb hown hlink (hsame _ hi) hst hcf hin2 (by rw [q2]; exact h6) q1 q3 (by rw [hsl]; exact k2_hasslot (q4 k hk)) rfl rfl hdg fun H' e1 e2 e3 => ?_
    rw [hsl] at e1 ⊢
    exact kk H' _ ⟨_, hc, t_OB.to (V := updV (vp_V fs) k v) ⟨_, e1, q2, q3, t_set q4 hap hk v⟩ (fun j _ => vp_updV_set hl v j)⟩ e2 e3 rfl
theorem zWputN (hexec : p.tables.exec = Jvm.exec) (hb : c.code = cc) {own ref C host : String} {T : u_T} {NN ci index : Nat} {Ts : List Cond} (hts : ∀ w ∈ Ts, w.before args s = true) (hin : ∀ w ∈ u_ws C T NN, w ∈ Ts) (ty0 : Nat → FieldType) (hty : ∀ k, k < NN → parseFieldDescriptor (T k).2.2.1 = some (ty0 k)) (hnm : ∀ a, a < NN → ∀ b, b < NN → a ≠ b → (T a).2.1 ≠ (T b).2.1) (hown : s.vm.findClass own = some m.cls) (hK : va_K D cl tys s) {fs : List Value} (hat : va_at D cl (a, .inr (ci, fs)) H) (hc : cl[ci]? = some (C, T, NN)) (k : Nat) (hk : k < NN) (hlink : (Cond.fieldLinkNest own index ref (T k).2.1 (T k).2.2.1 host).before args s = true) (hsame : ∀ x, s.fieldFound? (T k).1 (T k).2.1 (T k).2.2.1 = some x → s.fieldFound? ref (T k).2.1 (T k).2.2.1 = some x) (hfin : (T k).2.2.2 = false) {ty : FieldType} {v : Value} (hd : parseFieldDescriptor (T k).2.2.1 = some ty) (hn : narrow ty v = v) (hfit : fits ty v = true) (hl : k < fs.length)
    (hdg : decode cc pc = .ok (.putfield index, 3)) (kk : ∀ (H1 : Heap) (q : Loc), va_at D cl (a, .inr (ci, fs.set k v)) H1 → H1.size = H.size → (∀ q : Nat, q ≠ a → H1[q]? = H[q]?) → q.base = a → W p l e R s m args below meth c H1 (locs ++ [q]) cells slots Q (F0 m (pc + 3) ls rest)) : W p l e R s m args below meth c H locs cells slots Q (F0 m pc ls (v :: .ref a :: rest)) := by
  have hap := va_apart (own := own) hts hin ty0 hty hnm hK hc
  obtain ⟨r, h1, cell, q1, q2, q3, q4⟩ := hat
  have hr : r = (C, T, NN) := Option.some.inj (h1.symm.trans hc)
  subst hr
  obtain ⟨hS, hfc, kC, hkC, hkind⟩ := hK.1 ci _ hc
  obtain ⟨cf, kf, fi, f, hi, hsl⟩ := hS k hk
  have hlay := hts _ (hin _ (u_in_lay hk))
  unfold u_lay at hlay
  rw [if_neg (by rw [hfin]; decide)] at hlay
  have hst := (u_facts hfc hkC (u_lays hts hin hk) hi).1
  have h6 := u_store hfc hkC hkind hlay hi hd hn hfit
  refine va_WputK hexec hb (f := f) hown hlink (hsame _ hi) hst (by rw [q2]; exact h6) q1 q3 (by rw [hsl]; exact k2_hasslot (q4 k hk)) rfl rfl hdg fun H' e1 e2 e3 => ?_
  rw [hsl] at e1 ⊢
  exact kk H' _ ⟨_, hc, t_OB.to (V := updV (vp_V fs) k v) ⟨_, e1, q2, q3, t_set q4 hap hk v⟩ (fun j _ => vp_updV_set hl v j)⟩ e2 e3 rfl
end ZPUT
/-- a field of a class as the tables have it: the class's place, the field's slot, what kind of thing it holds -/
def zfd (c k t : Nat) (C : String) (T : u_T) (NN : Nat) (ty : Nat → FieldType) : Prop :=
  0 < c ∧ c < 100 ∧ vwCl[c - 1]? = some (C, T, NN) ∧ (∀ w ∈ u_ws C T NN, w ∈ zw) ∧ (∀ k, k < NN → parseFieldDescriptor (T k).2.2.1 = some (ty k)) ∧ (∀ a, a < NN → ∀ b, b < NN → a ≠ b → (T a).2.1 ≠ (T b).2.1) ∧ k < NN ∧ (zlay c)[k]? = some t
/-- how a constant pool entry names it -/
def zlk (own : String) (ix : Nat) (ref : String) (T : u_T) (k : Nat) : Prop := Cond.fieldLink own ix ref (T k).2.1 (T k).2.2.1 ∈ zw ∧ (ref = (T k).1 ∨ Cond.sameField ref (T k).1 (T k).2.1 (T k).2.2.1 ∈ zw)
def zlkN (own : String) (ix : Nat) (T : u_T) (k : Nat) (host : String) : Prop := Cond.fieldLinkNest own ix (T k).1 (T k).2.1 (T k).2.2.1 host ∈ zsp
theorem zlk_same {own ref : String} {ix k : Nat} {T : u_T} {s : State} {args : Array Value} (h : zlk own ix ref T k) (hts : ∀ w ∈ zw, w.before args s = true) : ∀ x, s.fieldFound? (T k).1 (T k).2.1 (T k).2.2.1 = some x → s.fieldFound? ref (T k).2.1 (T k).2.2.1 = some x := by
  rcases h.2 with e | e
  · rw [e]; exact fun _ q => q
  · exact fun x q => u_same (hts _ e) x q
theorem V_getI {L : zL} {X : zX} {y : MethodName} {cc : ByteArray} {nL : Nat} {ret : Option FieldType} {dd : Nat} {M0 : zM} {N : Nat × Nat} {Q : State → Prop} {M : zM} {pc : Nat} {ls : List (Nat × Value)} {st : List Value} {c k : Nat} {C ref : String} {T : u_T} {NN ix a : Nat} {ty : Nat → FieldType} {v : Int32} (hf : zfd c k 0 C T NN ty) (hl : zlk y.cls ix ref T k) (h : gI c k M a = some v) (d : decode cc pc = .ok (.getfield ix, 3)) (kk : V L X y cc nL ret dd M0 N Q M (pc + 3) ls (.int v :: st)) : V L X y cc nL ret dd M0 N Q M pc ls (.ref (zad L a) :: st) := by
  refine ⟨kk.1, fun g h1 h2 H locs la hH hS hL => ?_⟩
  obtain ⟨c0, c1, hc, hin, -, -, hk, hlay⟩ := hf
  unfold gI at h
  by_cases hm : mK M a = c
  · rw [if_pos hm] at h
    cases h
    have hv := zFs_at (L := L) (M := M) (a := a) hlay
    exact va_get g.1 g.2.1 g.2.2.2.2.1 hin g.2.2.2.1 g.2.2.2.2.2.2.2.2.2.1.2.1 (zone (hH.2.2.2.1 a c hm c0 c1)) 0 rfl hc k hk (g.2.2.2.2.1 _ hl.1) (zlk_same hl g.2.2.2.2.1) hv d (kk.2 g h1 h2 H locs la hH hS hL)
  · rw [if_neg hm] at h
    cases h
theorem V_getIN {L : zL} {X : zX} {y : MethodName} {cc : ByteArray} {nL : Nat} {ret : Option FieldType} {dd : Nat} {M0 : zM} {N : Nat × Nat} {Q : State → Prop} {M : zM} {pc : Nat} {ls : List (Nat × Value)} {st : List Value} {c k : Nat} {C ref : String} {T : u_T} {NN ix a : Nat} {ty : Nat → FieldType} {v : Int32} (hf : zfd c k 0 C T NN ty) {host : String} (hl : zlkN y.cls ix T k host) (h : gI c k M a = some v) (d : decode cc pc = .ok (.getfield ix, 3)) (kk : V L X y cc nL ret dd M0 N Q M (pc + 3) ls (.int v :: st)) : V L X y cc nL ret dd M0 N Q M pc ls (.ref (zad L a) :: st) := by
  refine ⟨kk.1, fun g h1 h2 H locs la hH hS hL => ?_⟩
  obtain ⟨c0, c1, hc, hin, -, -, hk, hlay⟩ := hf
  unfold gI at h
  by_cases hm : mK M a = c
  · rw [if_pos hm] at h
    cases h
    have hv := zFs_at (L := L) (M := M) (a := a) hlay
    exact va_getN (host := host) g.1 g.2.1 g.2.2.2.2.1 hin g.2.2.2.1 g.2.2.2.2.2.2.2.2.2.1.2.1 (zone (hH.2.2.2.1 a c hm c0 c1)) 0 rfl hc k hk (va_Nw.use rfl (g.2.2.2.2.2.2.2.2.2.1.2.2.1 _ hl)) (fun _ q => q) hv d (kk.2 g h1 h2 H locs la hH hS hL)
  · rw [if_neg hm] at h
    cases h
theorem V_getJ {L : zL} {X : zX} {y : MethodName} {cc : ByteArray} {nL : Nat} {ret : Option FieldType} {dd : Nat} {M0 : zM} {N : Nat × Nat} {Q : State → Prop} {M : zM} {pc : Nat} {ls : List (Nat × Value)} {st : List Value} {c k : Nat} {C ref : String} {T : u_T} {NN ix a : Nat} {ty : Nat → FieldType} {v : Int64} (hf : zfd c k 1 C T NN ty) (hl : zlk y.cls ix ref T k) (h : gJ c k M a = some v) (d : decode cc pc = .ok (.getfield ix, 3)) (kk : V L X y cc nL ret dd M0 N Q M (pc + 3) ls (.long v :: st)) : V L X y cc nL ret dd M0 N Q M pc ls (.ref (zad L a) :: st) := by
  refine ⟨kk.1, fun g h1 h2 H locs la hH hS hL => ?_⟩
  obtain ⟨c0, c1, hc, hin, -, -, hk, hlay⟩ := hf
  unfold gJ at h
  by_cases hm : mK M a = c
  · rw [if_pos hm] at h
    cases h
    have hv := zFs_at (L := L) (M := M) (a := a) hlay
    exact va_get g.1 g.2.1 g.2.2.2.2.1 hin g.2.2.2.1 g.2.2.2.2.2.2.2.2.2.1.2.1 (zone (hH.2.2.2.1 a c hm c0 c1)) 0 rfl hc k hk (g.2.2.2.2.1 _ hl.1) (zlk_same hl g.2.2.2.2.1) hv d (kk.2 g h1 h2 H locs la hH hS hL)
  · rw [if_neg hm] at h
    cases h
theorem V_getJN {L : zL} {X : zX} {y : MethodName} {cc : ByteArray} {nL : Nat} {ret : Option FieldType} {dd : Nat} {M0 : zM} {N : Nat × Nat} {Q : State → Prop} {M : zM} {pc : Nat} {ls : List (Nat × Value)} {st : List Value} {c k : Nat} {C ref : String} {T : u_T} {NN ix a : Nat} {ty : Nat → FieldType} {v : Int64} (hf : zfd c k 1 C T NN ty) {host : String} (hl : zlkN y.cls ix T k host) (h : gJ c k M a = some v) (d : decode cc pc = .ok (.getfield ix, 3)) (kk : V L X y cc nL ret dd M0 N Q M (pc + 3) ls (.long v :: st)) : V L X y cc nL ret dd M0 N Q M pc ls (.ref (zad L a) :: st) := by
  refine ⟨kk.1, fun g h1 h2 H locs la hH hS hL => ?_⟩
  obtain ⟨c0, c1, hc, hin, -, -, hk, hlay⟩ := hf
  unfold gJ at h
  by_cases hm : mK M a = c
  · rw [if_pos hm] at h
    cases h
    have hv := zFs_at (L := L) (M := M) (a := a) hlay
    exact va_getN (host := host) g.1 g.2.1 g.2.2.2.2.1 hin g.2.2.2.1 g.2.2.2.2.2.2.2.2.2.1.2.1 (zone (hH.2.2.2.1 a c hm c0 c1)) 0 rfl hc k hk (va_Nw.use rfl (g.2.2.2.2.2.2.2.2.2.1.2.2.1 _ hl)) (fun _ q => q) hv d (kk.2 g h1 h2 H locs la hH hS hL)
  · rw [if_neg hm] at h
    cases h
theorem V_getD {L : zL} {X : zX} {y : MethodName} {cc : ByteArray} {nL : Nat} {ret : Option FieldType} {dd : Nat} {M0 : zM} {N : Nat × Nat} {Q : State → Prop} {M : zM} {pc : Nat} {ls : List (Nat × Value)} {st : List Value} {c k : Nat} {C ref : String} {T : u_T} {NN ix a : Nat} {ty : Nat → FieldType} {v : UInt64} (hf : zfd c k 3 C T NN ty) (hl : zlk y.cls ix ref T k) (h : gD c k M a = some v) (d : decode cc pc = .ok (.getfield ix, 3)) (kk : V L X y cc nL ret dd M0 N Q M (pc + 3) ls (.double v :: st)) : V L X y cc nL ret dd M0 N Q M pc ls (.ref (zad L a) :: st) := by
  refine ⟨kk.1, fun g h1 h2 H locs la hH hS hL => ?_⟩
  obtain ⟨c0, c1, hc, hin, -, -, hk, hlay⟩ := hf
  unfold gD at h
  by_cases hm : mK M a = c
  · rw [if_pos hm] at h
    cases h
    have hv := zFs_at (L := L) (M := M) (a := a) hlay
    exact va_get g.1 g.2.1 g.2.2.2.2.1 hin g.2.2.2.1 g.2.2.2.2.2.2.2.2.2.1.2.1 (zone (hH.2.2.2.1 a c hm c0 c1)) 0 rfl hc k hk (g.2.2.2.2.1 _ hl.1) (zlk_same hl g.2.2.2.2.1) hv d (kk.2 g h1 h2 H locs la hH hS hL)
  · rw [if_neg hm] at h
    cases h
theorem V_getDN {L : zL} {X : zX} {y : MethodName} {cc : ByteArray} {nL : Nat} {ret : Option FieldType} {dd : Nat} {M0 : zM} {N : Nat × Nat} {Q : State → Prop} {M : zM} {pc : Nat} {ls : List (Nat × Value)} {st : List Value} {c k : Nat} {C ref : String} {T : u_T} {NN ix a : Nat} {ty : Nat → FieldType} {v : UInt64} (hf : zfd c k 3 C T NN ty) {host : String} (hl : zlkN y.cls ix T k host) (h : gD c k M a = some v) (d : decode cc pc = .ok (.getfield ix, 3)) (kk : V L X y cc nL ret dd M0 N Q M (pc + 3) ls (.double v :: st)) : V L X y cc nL ret dd M0 N Q M pc ls (.ref (zad L a) :: st) := by
  refine ⟨kk.1, fun g h1 h2 H locs la hH hS hL => ?_⟩
  obtain ⟨c0, c1, hc, hin, -, -, hk, hlay⟩ := hf
  unfold gD at h
  by_cases hm : mK M a = c
  · rw [if_pos hm] at h
    cases h
    have hv := zFs_at (L := L) (M := M) (a := a) hlay
    exact va_getN (host := host) g.1 g.2.1 g.2.2.2.2.1 hin g.2.2.2.1 g.2.2.2.2.2.2.2.2.2.1.2.1 (zone (hH.2.2.2.1 a c hm c0 c1)) 0 rfl hc k hk (va_Nw.use rfl (g.2.2.2.2.2.2.2.2.2.1.2.2.1 _ hl)) (fun _ q => q) hv d (kk.2 g h1 h2 H locs la hH hS hL)
  · rw [if_neg hm] at h
    cases h
theorem V_getR {L : zL} {X : zX} {y : MethodName} {cc : ByteArray} {nL : Nat} {ret : Option FieldType} {dd : Nat} {M0 : zM} {N : Nat × Nat} {Q : State → Prop} {M : zM} {pc : Nat} {ls : List (Nat × Value)} {st : List Value} {c k : Nat} {C ref : String} {T : u_T} {NN ix a : Nat} {ty : Nat → FieldType} {v : Nat} (hf : zfd c k 2 C T NN ty) (hl : zlk y.cls ix ref T k) (h : gR c k M a = some v) (d : decode cc pc = .ok (.getfield ix, 3)) (kk : V L X y cc nL ret dd M0 N Q M (pc + 3) ls (.ref (zad L v) :: st)) : V L X y cc nL ret dd M0 N Q M pc ls (.ref (zad L a) :: st) := by
  refine ⟨kk.1, fun g h1 h2 H locs la hH hS hL => ?_⟩
  obtain ⟨c0, c1, hc, hin, -, -, hk, hlay⟩ := hf
  unfold gR at h
  by_cases hm : mK M a = c
  · rw [if_pos hm] at h
    have hv := zFs_at (L := L) (M := M) (a := a) hlay
    rw [show zV L M 2 (32 * c + k) a = .ref (zad L v) from by show zrf L (mR M (32 * c + k) a) = _; rw [h]; rfl] at hv
    exact va_get g.1 g.2.1 g.2.2.2.2.1 hin g.2.2.2.1 g.2.2.2.2.2.2.2.2.2.1.2.1 (zone (hH.2.2.2.1 a c hm c0 c1)) 0 rfl hc k hk (g.2.2.2.2.1 _ hl.1) (zlk_same hl g.2.2.2.2.1) hv d (kk.2 g h1 h2 H locs la hH hS hL)
  · rw [if_neg hm] at h
    cases h
theorem V_getRN {L : zL} {X : zX} {y : MethodName} {cc : ByteArray} {nL : Nat} {ret : Option FieldType} {dd : Nat} {M0 : zM} {N : Nat × Nat} {Q : State → Prop} {M : zM} {pc : Nat} {ls : List (Nat × Value)} {st : List Value} {c k : Nat} {C ref : String} {T : u_T} {NN ix a : Nat} {ty : Nat → FieldType} {v : Nat} (hf : zfd c k 2 C T NN ty) {host : String} (hl : zlkN y.cls ix T k host) (h : gR c k M a = some v) (d : decode cc pc = .ok (.getfield ix, 3)) (kk : V L X y cc nL ret dd M0 N Q M (pc + 3) ls (.ref (zad L v) :: st)) : V L X y cc nL ret dd M0 N Q M pc ls (.ref (zad L a) :: st) := by
  refine ⟨kk.1, fun g h1 h2 H locs la hH hS hL => ?_⟩
  obtain ⟨c0, c1, hc, hin, -, -, hk, hlay⟩ := hf
  unfold gR at h
  by_cases hm : mK M a = c
  · rw [if_pos hm] at h
    have hv := zFs_at (L := L) (M := M) (a := a) hlay
    rw [show zV L M 2 (32 * c + k) a = .ref (zad L v) from by show zrf L (mR M (32 * c + k) a) = _; rw [h]; rfl] at hv
    exact va_getN (host := host) g.1 g.2.1 g.2.2.2.2.1 hin g.2.2.2.1 g.2.2.2.2.2.2.2.2.2.1.2.1 (zone (hH.2.2.2.1 a c hm c0 c1)) 0 rfl hc k hk (va_Nw.use rfl (g.2.2.2.2.2.2.2.2.2.1.2.2.1 _ hl)) (fun _ q => q) hv d (kk.2 g h1 h2 H locs la hH hS hL)
  · rw [if_neg hm] at h
    cases h
theorem V_getIx {L : zL} {X : zX} {y : MethodName} {cc : ByteArray} {nL : Nat} {ret : Option FieldType} {dd : Nat} {M0 : zM} {N : Nat × Nat} {Q : State → Prop} {M : zM} {pc : Nat} {ls : List (Nat × Value)} {st : List Value} {c k : Nat} {C ref : String} {T : u_T} {NN ix a : Nat} {ty : Nat → FieldType} {v : Int32} (hf : zfd c k 0 C T NN ty) (hl : zlk y.cls ix ref T k) (hxk : k ∈ zxk c) (h : hI c k M a = some v) (d : decode cc pc = .ok (.getfield ix, 3)) (kk : V L X y cc nL ret dd M0 N Q M (pc + 3) ls (.int v :: st)) : V L X y cc nL ret dd M0 N Q M pc ls (.ref (zad L a) :: st) := by
  refine ⟨kk.1, fun g h1 h2 H locs la hH hS hL => ?_⟩
  obtain ⟨c0, c1, hc, hin, -, -, hk, hlay⟩ := hf
  unfold hI at h
  by_cases hm : mK M a = c ∨ mK M a = 300 + c
  · rw [if_pos hm] at h
    have hv := zFs_at (L := L) (M := M) (a := a) hlay
    cases h
    rcases hm with hm | hm
    · exact va_get g.1 g.2.1 g.2.2.2.2.1 hin g.2.2.2.1 g.2.2.2.2.2.2.2.2.2.1.2.1 (zone (hH.2.2.2.1 a c hm c0 c1)) 0 rfl hc k hk (g.2.2.2.2.1 _ hl.1) (zlk_same hl g.2.2.2.2.1) hv d (kk.2 g h1 h2 H locs la hH hS hL)
    · obtain ⟨x1, x2, x3, x4, x5⟩ := hH.2.2.2.2.2.2 a (by omega)
      rw [x5] at hv
      exact vk_getf g.1 g.2.1 ((g.2.2.2.2.2.2.2.2.2.1.2.2.2.2.2.2.2.2.2.2.2.2.2.2.2 a c C T NN (by rw [← x1]; exact hm) hc).2 k _ hxk hv) hS g.2.2.2.1 (g.2.2.2.2.1 _ hl.1) (zlk_same hl g.2.2.2.2.1) d (kk.2 g h1 h2 H locs la hH hS hL)
  · rw [if_neg hm] at h
    cases h
theorem V_getRx {L : zL} {X : zX} {y : MethodName} {cc : ByteArray} {nL : Nat} {ret : Option FieldType} {dd : Nat} {M0 : zM} {N : Nat × Nat} {Q : State → Prop} {M : zM} {pc : Nat} {ls : List (Nat × Value)} {st : List Value} {c k : Nat} {C ref : String} {T : u_T} {NN ix a : Nat} {ty : Nat → FieldType} {v : Nat} (hf : zfd c k 2 C T NN ty) (hl : zlk y.cls ix ref T k) (hxk : k ∈ zxk c) (h : hR c k M a = some v) (d : decode cc pc = .ok (.getfield ix, 3)) (kk : V L X y cc nL ret dd M0 N Q M (pc + 3) ls (.ref (zad L v) :: st)) : V L X y cc nL ret dd M0 N Q M pc ls (.ref (zad L a) :: st) := by
  refine ⟨kk.1, fun g h1 h2 H locs la hH hS hL => ?_⟩
  obtain ⟨c0, c1, hc, hin, -, -, hk, hlay⟩ := hf
  unfold hR at h
  by_cases hm : mK M a = c ∨ mK M a = 300 + c
  · rw [if_pos hm] at h
    have hv := zFs_at (L := L) (M := M) (a := a) hlay
    rw [show zV L M 2 (32 * c + k) a = .ref (zad L v) from by show zrf L (mR M (32 * c + k) a) = _; rw [h]; rfl] at hv
    rcases hm with hm | hm
    · exact va_get g.1 g.2.1 g.2.2.2.2.1 hin g.2.2.2.1 g.2.2.2.2.2.2.2.2.2.1.2.1 (zone (hH.2.2.2.1 a c hm c0 c1)) 0 rfl hc k hk (g.2.2.2.2.1 _ hl.1) (zlk_same hl g.2.2.2.2.1) hv d (kk.2 g h1 h2 H locs la hH hS hL)
    · obtain ⟨x1, x2, x3, x4, x5⟩ := hH.2.2.2.2.2.2 a (by omega)
      rw [x5] at hv
      exact vk_getf g.1 g.2.1 ((g.2.2.2.2.2.2.2.2.2.1.2.2.2.2.2.2.2.2.2.2.2.2.2.2.2 a c C T NN (by rw [← x1]; exact hm) hc).2 k _ hxk hv) hS g.2.2.2.1 (g.2.2.2.2.1 _ hl.1) (zlk_same hl g.2.2.2.2.1) d (kk.2 g h1 h2 H locs la hH hS hL)
  · rw [if_neg hm] at h
    cases h
theorem zV_sI_ne {L : zL} {M : zM} {k a b : Nat} {v : Int32} (h : b ≠ a) (t j : Nat) : zV L (sI M k a v) t j b = zV L M t j b := by
  unfold zV
  split <;> simp [sI, mI, mJ, mD, mR, u2, h]
theorem zV_sI_nk {L : zL} {M : zM} {c k a : Nat} {v : Int32} (t j : Nat) (h : j ≠ k) : zV L (sI M (32 * c + k) a v) t (32 * c + j) a = zV L M t (32 * c + j) a := by
  have h' : ¬ 32 * c + j = 32 * c + k := by omega
  unfold zV
  split <;> simp [sI, mI, mJ, mD, mR, u2, h', h]
theorem zV_sJ_ne {L : zL} {M : zM} {k a b : Nat} {v : Int64} (h : b ≠ a) (t j : Nat) : zV L (sJ M k a v) t j b = zV L M t j b := by
  unfold zV
  split <;> simp [sJ, mI, mJ, mD, mR, u2, h]
theorem zV_sJ_nk {L : zL} {M : zM} {c k a : Nat} {v : Int64} (t j : Nat) (h : j ≠ k) : zV L (sJ M (32 * c + k) a v) t (32 * c + j) a = zV L M t (32 * c + j) a := by
  have h' : ¬ 32 * c + j = 32 * c + k := by omega
  unfold zV
  split <;> simp [sJ, mI, mJ, mD, mR, u2, h', h]
theorem zV_sD_ne {L : zL} {M : zM} {k a b : Nat} {v : UInt64} (h : b ≠ a) (t j : Nat) : zV L (sD M k a v) t j b = zV L M t j b := by
  unfold zV
  split <;> simp [sD, mI, mJ, mD, mR, u2, h]
theorem zV_sD_nk {L : zL} {M : zM} {c k a : Nat} {v : UInt64} (t j : Nat) (h : j ≠ k) : zV L (sD M (32 * c + k) a v) t (32 * c + j) a = zV L M t (32 * c + j) a := by
  have h' : ¬ 32 * c + j = 32 * c + k := by omega
  unfold zV
  split <;> simp [sD, mI, mJ, mD, mR, u2, h', h]
theorem zV_sR_ne {L : zL} {M : zM} {k a b : Nat} {v : Nat} (h : b ≠ a) (t j : Nat) : zV L (sR M k a (some v)) t j b = zV L M t j b := by
  unfold zV
  split <;> simp [sR, mI, mJ, mD, mR, u2, h]
theorem zV_sR_nk {L : zL} {M : zM} {c k a : Nat} {v : Nat} (t j : Nat) (h : j ≠ k) : zV L (sR M (32 * c + k) a (some v)) t (32 * c + j) a = zV L M t (32 * c + j) a := by
  have h' : ¬ 32 * c + j = 32 * c + k := by omega
  unfold zV
  split <;> simp [sR, mI, mJ, mD, mR, u2, h', h]
theorem V_putI {L : zL} {X : zX} {y : MethodName} {cc : ByteArray} {nL : Nat} {ret : Option FieldType} {dd : Nat} {M0 : zM} {N : Nat × Nat} {Q : State → Prop} {M : zM} {pc : Nat} {ls : List (Nat × Value)} {st : List Value} {c k : Nat} {C ref : String} {T : u_T} {NN ix a : Nat} {ty : Nat → FieldType} {v : Int32} {M1 : zM} (hf : zfd c k 0 C T NN ty) (hl : zlk y.cls ix ref T k) (hfin : (T k).2.2.2 = false ∨ ((T k).2.2.2 = true ∧ y.name = "<init>" ∧ (T k).1 = y.cls)) (hty : ty k = .int) (h : pI c k M a v = some M1) (d : decode cc pc = .ok (.putfield ix, 3)) (kk : V L X y cc nL ret dd M0 N Q M1 (pc + 3) ls st) : V L X y cc nL ret dd M0 N Q M pc ls (.int v :: .ref (zad L a) :: st) := by
  unfold pI at h
  have hx : (if mK M a = c then some (sI M (32 * c + k) a v) else none) = some M1 := h
  have hm : mK M a = c := by
    by_cases hm : mK M a = c
    · exact hm
    · simp [hm] at hx
  have e1 : M1 = sI M (32 * c + k) a v := by
    rw [if_pos hm] at hx
    exact (Option.some.inj hx).symm
  subst e1
  refine ⟨kk.1, fun g h1 h2 H locs la hH hS hL => ?_⟩
  obtain ⟨c0, c1, hc, hin, hpt, hnm, hk, hlay⟩ := hf
  have hO : zO L := g.2.2.2.2.2.2.2.2.2.1.1
  have ha : 1000 ≤ a := hH.2.2.1 a (by omega) (by omega)
  refine zWput g.1 g.2.1 g.2.2.2.2.1 hin ty hpt hnm g.2.2.2.1 g.2.2.2.2.2.2.2.2.2.1.2.1 (hH.2.2.2.1 a c hm c0 c1) hc k hk (g.2.2.2.2.1 _ hl.1) (zlk_same hl g.2.2.2.2.1) (hfin.imp id fun q => ⟨q.1, g.2.2.2.2.2.2.2.1.trans q.2.1, q.2.2⟩) (hpt k hk) (by rw [hty]; rfl) (by rw [hty]; rfl) (by rw [zFs_len]; exact (List.getElem?_eq_some_iff.mp hlay).1) d (fun H1 q hat hz1 hq1 hb1 => ?_)
  refine kk.2 g h1 h2 H1 _ la (hH.obj hO hm c0 c1 rfl rfl rfl rfl rfl (fun b hb => zFs_ne (zV_sI_ne hb)) hz1 hq1 ?_) ?_ hL
  · rw [zFs_set hlay (v := .int v) ?_ (fun t j hj => zV_sI_nk t j hj)]
    · exact hat
    · simp [zV, sI, mI, mJ, mD, mR, u2]
  · have hA : zA L (zad L a) := by
      have := (hO a).1 ha
      show zB L ≤ zad L a
      omega
    refine ⟨by rw [hz1]; exact hS.1, fun q' g1 g2 => ?_, fun q' hq' => ?_⟩
    · rw [hq1 q' (fun e => g2 (by rw [e]; exact hA))]
      exact hS.2.1 q' g1 g2
    · rcases List.mem_append.mp hq' with e | e
      · exact hS.2.2 q' e
      · rw [List.mem_singleton.mp e, hb1]
        exact hA
theorem V_putIN {L : zL} {X : zX} {y : MethodName} {cc : ByteArray} {nL : Nat} {ret : Option FieldType} {dd : Nat} {M0 : zM} {N : Nat × Nat} {Q : State → Prop} {M : zM} {pc : Nat} {ls : List (Nat × Value)} {st : List Value} {c k : Nat} {C ref : String} {T : u_T} {NN ix a : Nat} {ty : Nat → FieldType} {v : Int32} {M1 : zM} (hf : zfd c k 0 C T NN ty) {host : String} (hl : zlkN y.cls ix T k host) (hfin : (T k).2.2.2 = false) (hty : ty k = .int) (h : pI c k M a v = some M1) (d : decode cc pc = .ok (.putfield ix, 3)) (kk : V L X y cc nL ret dd M0 N Q M1 (pc + 3) ls st) : V L X y cc nL ret dd M0 N Q M pc ls (.int v :: .ref (zad L a) :: st) := by
  unfold pI at h
  have hx : (if mK M a = c then some (sI M (32 * c + k) a v) else none) = some M1 := h
  have hm : mK M a = c := by
    by_cases hm : mK M a = c
    · exact hm
    · simp [hm] at hx
  have e1 : M1 = sI M (32 * c + k) a v := by
    rw [if_pos hm] at hx
    exact (Option.some.inj hx).symm
  subst e1
  refine ⟨kk.1, fun g h1 h2 H locs la hH hS hL => ?_⟩
  obtain ⟨c0, c1, hc, hin, hpt, hnm, hk, hlay⟩ := hf
  have hO : zO L := g.2.2.2.2.2.2.2.2.2.1.1
  have ha : 1000 ≤ a := hH.2.2.1 a (by omega) (by omega)
  refine zWputN (host := host) g.1 g.2.1 g.2.2.2.2.1 hin ty hpt hnm g.2.2.2.1 g.2.2.2.2.2.2.2.2.2.1.2.1 (hH.2.2.2.1 a c hm c0 c1) hc k hk (va_Nw.use rfl (g.2.2.2.2.2.2.2.2.2.1.2.2.1 _ hl)) (fun _ q => q) hfin (hpt k hk) (by rw [hty]; rfl) (by rw [hty]; rfl) (by rw [zFs_len]; exact (List.getElem?_eq_some_iff.mp hlay).1) d (fun H1 q hat hz1 hq1 hb1 => ?_)
  refine kk.2 g h1 h2 H1 _ la (hH.obj hO hm c0 c1 rfl rfl rfl rfl rfl (fun b hb => zFs_ne (zV_sI_ne hb)) hz1 hq1 ?_) ?_ hL
  · rw [zFs_set hlay (v := .int v) ?_ (fun t j hj => zV_sI_nk t j hj)]
    · exact hat
    · simp [zV, sI, mI, mJ, mD, mR, u2]
  · have hA : zA L (zad L a) := by
      have := (hO a).1 ha
      show zB L ≤ zad L a
      omega
    refine ⟨by rw [hz1]; exact hS.1, fun q' g1 g2 => ?_, fun q' hq' => ?_⟩
    · rw [hq1 q' (fun e => g2 (by rw [e]; exact hA))]
      exact hS.2.1 q' g1 g2
    · rcases List.mem_append.mp hq' with e | e
      · exact hS.2.2 q' e
      · rw [List.mem_singleton.mp e, hb1]
        exact hA
theorem V_putZ {L : zL} {X : zX} {y : MethodName} {cc : ByteArray} {nL : Nat} {ret : Option FieldType} {dd : Nat} {M0 : zM} {N : Nat × Nat} {Q : State → Prop} {M : zM} {pc : Nat} {ls : List (Nat × Value)} {st : List Value} {c k : Nat} {C ref : String} {T : u_T} {NN ix a : Nat} {ty : Nat → FieldType} {v : Int32} {M1 : zM} (hf : zfd c k 0 C T NN ty) (hl : zlk y.cls ix ref T k) (hfin : (T k).2.2.2 = false ∨ ((T k).2.2.2 = true ∧ y.name = "<init>" ∧ (T k).1 = y.cls)) (hty : ty k = .boolean) (h : pZ c k M a v = some M1) (d : decode cc pc = .ok (.putfield ix, 3)) (kk : V L X y cc nL ret dd M0 N Q M1 (pc + 3) ls st) : V L X y cc nL ret dd M0 N Q M pc ls (.int v :: .ref (zad L a) :: st) := by
  unfold pZ at h
  have hx : (if mK M a = c ∧ (v = 0 ∨ v = 1) then some (sI M (32 * c + k) a v) else none) = some M1 := h
  have hm : mK M a = c := by
    by_cases hm : mK M a = c
    · exact hm
    · simp [hm] at hx
  have hz : v = 0 ∨ v = 1 := by
    by_cases hz : v = 0 ∨ v = 1
    · exact hz
    · simp [hz] at hx
  have e1 : M1 = sI M (32 * c + k) a v := by
    rw [if_pos ⟨hm, hz⟩] at hx
    exact (Option.some.inj hx).symm
  subst e1
  refine ⟨kk.1, fun g h1 h2 H locs la hH hS hL => ?_⟩
  obtain ⟨c0, c1, hc, hin, hpt, hnm, hk, hlay⟩ := hf
  have hO : zO L := g.2.2.2.2.2.2.2.2.2.1.1
  have ha : 1000 ≤ a := hH.2.2.1 a (by omega) (by omega)
  refine zWput g.1 g.2.1 g.2.2.2.2.1 hin ty hpt hnm g.2.2.2.1 g.2.2.2.2.2.2.2.2.2.1.2.1 (hH.2.2.2.1 a c hm c0 c1) hc k hk (g.2.2.2.2.1 _ hl.1) (zlk_same hl g.2.2.2.2.1) (hfin.imp id fun q => ⟨q.1, g.2.2.2.2.2.2.2.1.trans q.2.1, q.2.2⟩) (hpt k hk) (by rw [hty]; rcases hz with rfl | rfl <;> rfl) (by rw [hty]; rcases hz with rfl | rfl <;> rfl) (by rw [zFs_len]; exact (List.getElem?_eq_some_iff.mp hlay).1) d (fun H1 q hat hz1 hq1 hb1 => ?_)
  refine kk.2 g h1 h2 H1 _ la (hH.obj hO hm c0 c1 rfl rfl rfl rfl rfl (fun b hb => zFs_ne (zV_sI_ne hb)) hz1 hq1 ?_) ?_ hL
  · rw [zFs_set hlay (v := .int v) ?_ (fun t j hj => zV_sI_nk t j hj)]
    · exact hat
    · simp [zV, sI, mI, mJ, mD, mR, u2]
  · have hA : zA L (zad L a) := by
      have := (hO a).1 ha
      show zB L ≤ zad L a
      omega
    refine ⟨by rw [hz1]; exact hS.1, fun q' g1 g2 => ?_, fun q' hq' => ?_⟩
    · rw [hq1 q' (fun e => g2 (by rw [e]; exact hA))]
      exact hS.2.1 q' g1 g2
    · rcases List.mem_append.mp hq' with e | e
      · exact hS.2.2 q' e
      · rw [List.mem_singleton.mp e, hb1]
        exact hA
theorem V_putZN {L : zL} {X : zX} {y : MethodName} {cc : ByteArray} {nL : Nat} {ret : Option FieldType} {dd : Nat} {M0 : zM} {N : Nat × Nat} {Q : State → Prop} {M : zM} {pc : Nat} {ls : List (Nat × Value)} {st : List Value} {c k : Nat} {C ref : String} {T : u_T} {NN ix a : Nat} {ty : Nat → FieldType} {v : Int32} {M1 : zM} (hf : zfd c k 0 C T NN ty) {host : String} (hl : zlkN y.cls ix T k host) (hfin : (T k).2.2.2 = false) (hty : ty k = .boolean) (h : pZ c k M a v = some M1) (d : decode cc pc = .ok (.putfield ix, 3)) (kk : V L X y cc nL ret dd M0 N Q M1 (pc + 3) ls st) : V L X y cc nL ret dd M0 N Q M pc ls (.int v :: .ref (zad L a) :: st) := by
  unfold pZ at h
  have hx : (if mK M a = c ∧ (v = 0 ∨ v = 1) then some (sI M (32 * c + k) a v) else none) = some M1 := h
  have hm : mK M a = c := by
    by_cases hm : mK M a = c
    · exact hm
    · simp [hm] at hx
  have hz : v = 0 ∨ v = 1 := by
    by_cases hz : v = 0 ∨ v = 1
    · exact hz
    · simp [hz] at hx
  have e1 : M1 = sI M (32 * c + k) a v := by
    rw [if_pos ⟨hm, hz⟩] at hx
    exact (Option.some.inj hx).symm
  subst e1
  refine ⟨kk.1, fun g h1 h2 H locs la hH hS hL => ?_⟩
  obtain ⟨c0, c1, hc, hin, hpt, hnm, hk, hlay⟩ := hf
  have hO : zO L := g.2.2.2.2.2.2.2.2.2.1.1
  have ha : 1000 ≤ a := hH.2.2.1 a (by omega) (by omega)
  refine zWputN (host := host) g.1 g.2.1 g.2.2.2.2.1 hin ty hpt hnm g.2.2.2.1 g.2.2.2.2.2.2.2.2.2.1.2.1 (hH.2.2.2.1 a c hm c0 c1) hc k hk (va_Nw.use rfl (g.2.2.2.2.2.2.2.2.2.1.2.2.1 _ hl)) (fun _ q => q) hfin (hpt k hk) (by rw [hty]; rcases hz with rfl | rfl <;> rfl) (by rw [hty]; rcases hz with rfl | rfl <;> rfl) (by rw [zFs_len]; exact (List.getElem?_eq_some_iff.mp hlay).1) d (fun H1 q hat hz1 hq1 hb1 => ?_)
  refine kk.2 g h1 h2 H1 _ la (hH.obj hO hm c0 c1 rfl rfl rfl rfl rfl (fun b hb => zFs_ne (zV_sI_ne hb)) hz1 hq1 ?_) ?_ hL
  · rw [zFs_set hlay (v := .int v) ?_ (fun t j hj => zV_sI_nk t j hj)]
    · exact hat
    · simp [zV, sI, mI, mJ, mD, mR, u2]
  · have hA : zA L (zad L a) := by
      have := (hO a).1 ha
      show zB L ≤ zad L a
      omega
    refine ⟨by rw [hz1]; exact hS.1, fun q' g1 g2 => ?_, fun q' hq' => ?_⟩
    · rw [hq1 q' (fun e => g2 (by rw [e]; exact hA))]
      exact hS.2.1 q' g1 g2
    · rcases List.mem_append.mp hq' with e | e
      · exact hS.2.2 q' e
      · rw [List.mem_singleton.mp e, hb1]
        exact hA
theorem V_putJ {L : zL} {X : zX} {y : MethodName} {cc : ByteArray} {nL : Nat} {ret : Option FieldType} {dd : Nat} {M0 : zM} {N : Nat × Nat} {Q : State → Prop} {M : zM} {pc : Nat} {ls : List (Nat × Value)} {st : List Value} {c k : Nat} {C ref : String} {T : u_T} {NN ix a : Nat} {ty : Nat → FieldType} {v : Int64} {M1 : zM} (hf : zfd c k 1 C T NN ty) (hl : zlk y.cls ix ref T k) (hfin : (T k).2.2.2 = false ∨ ((T k).2.2.2 = true ∧ y.name = "<init>" ∧ (T k).1 = y.cls)) (hty : ty k = .long) (h : pJ c k M a v = some M1) (d : decode cc pc = .ok (.putfield ix, 3)) (kk : V L X y cc nL ret dd M0 N Q M1 (pc + 3) ls st) : V L X y cc nL ret dd M0 N Q M pc ls (.long v :: .ref (zad L a) :: st) := by
  unfold pJ at h
  have hx : (if mK M a = c then some (sJ M (32 * c + k) a v) else none) = some M1 := h
  have hm : mK M a = c := by
    by_cases hm : mK M a = c
    · exact hm
    · simp [hm] at hx
  have e1 : M1 = sJ M (32 * c + k) a v := by
    rw [if_pos hm] at hx
    exact (Option.some.inj hx).symm
  subst e1
  refine ⟨kk.1, fun g h1 h2 H locs la hH hS hL => ?_⟩
  obtain ⟨c0, c1, hc, hin, hpt, hnm, hk, hlay⟩ := hf
  have hO : zO L := g.2.2.2.2.2.2.2.2.2.1.1
  have ha : 1000 ≤ a := hH.2.2.1 a (by omega) (by omega)
  refine zWput g.1 g.2.1 g.2.2.2.2.1 hin ty hpt hnm g.2.2.2.1 g.2.2.2.2.2.2.2.2.2.1.2.1 (hH.2.2.2.1 a c hm c0 c1) hc k hk (g.2.2.2.2.1 _ hl.1) (zlk_same hl g.2.2.2.2.1) (hfin.imp id fun q => ⟨q.1, g.2.2.2.2.2.2.2.1.trans q.2.1, q.2.2⟩) (hpt k hk) (by rw [hty]; rfl) (by rw [hty]; rfl) (by rw [zFs_len]; exact (List.getElem?_eq_some_iff.mp hlay).1) d (fun H1 q hat hz1 hq1 hb1 => ?_)
  refine kk.2 g h1 h2 H1 _ la (hH.obj hO hm c0 c1 rfl rfl rfl rfl rfl (fun b hb => zFs_ne (zV_sJ_ne hb)) hz1 hq1 ?_) ?_ hL
  · rw [zFs_set hlay (v := .long v) ?_ (fun t j hj => zV_sJ_nk t j hj)]
    · exact hat
    · simp [zV, sJ, mI, mJ, mD, mR, u2]
  · have hA : zA L (zad L a) := by
      have := (hO a).1 ha
      show zB L ≤ zad L a
      omega
    refine ⟨by rw [hz1]; exact hS.1, fun q' g1 g2 => ?_, fun q' hq' => ?_⟩
    · rw [hq1 q' (fun e => g2 (by rw [e]; exact hA))]
      exact hS.2.1 q' g1 g2
    · rcases List.mem_append.mp hq' with e | e
      · exact hS.2.2 q' e
      · rw [List.mem_singleton.mp e, hb1]
        exact hA
theorem V_putJN {L : zL} {X : zX} {y : MethodName} {cc : ByteArray} {nL : Nat} {ret : Option FieldType} {dd : Nat} {M0 : zM} {N : Nat × Nat} {Q : State → Prop} {M : zM} {pc : Nat} {ls : List (Nat × Value)} {st : List Value} {c k : Nat} {C ref : String} {T : u_T} {NN ix a : Nat} {ty : Nat → FieldType} {v : Int64} {M1 : zM} (hf : zfd c k 1 C T NN ty) {host : String} (hl : zlkN y.cls ix T k host) (hfin : (T k).2.2.2 = false) (hty : ty k = .long) (h : pJ c k M a v = some M1) (d : decode cc pc = .ok (.putfield ix, 3)) (kk : V L X y cc nL ret dd M0 N Q M1 (pc + 3) ls st) : V L X y cc nL ret dd M0 N Q M pc ls (.long v :: .ref (zad L a) :: st) := by
  unfold pJ at h
  have hx : (if mK M a = c then some (sJ M (32 * c + k) a v) else none) = some M1 := h
  have hm : mK M a = c := by
    by_cases hm : mK M a = c
    · exact hm
    · simp [hm] at hx
  have e1 : M1 = sJ M (32 * c + k) a v := by
    rw [if_pos hm] at hx
    exact (Option.some.inj hx).symm
  subst e1
  refine ⟨kk.1, fun g h1 h2 H locs la hH hS hL => ?_⟩
  obtain ⟨c0, c1, hc, hin, hpt, hnm, hk, hlay⟩ := hf
  have hO : zO L := g.2.2.2.2.2.2.2.2.2.1.1
  have ha : 1000 ≤ a := hH.2.2.1 a (by omega) (by omega)
  refine zWputN (host := host) g.1 g.2.1 g.2.2.2.2.1 hin ty hpt hnm g.2.2.2.1 g.2.2.2.2.2.2.2.2.2.1.2.1 (hH.2.2.2.1 a c hm c0 c1) hc k hk (va_Nw.use rfl (g.2.2.2.2.2.2.2.2.2.1.2.2.1 _ hl)) (fun _ q => q) hfin (hpt k hk) (by rw [hty]; rfl) (by rw [hty]; rfl) (by rw [zFs_len]; exact (List.getElem?_eq_some_iff.mp hlay).1) d (fun H1 q hat hz1 hq1 hb1 => ?_)
  refine kk.2 g h1 h2 H1 _ la (hH.obj hO hm c0 c1 rfl rfl rfl rfl rfl (fun b hb => zFs_ne (zV_sJ_ne hb)) hz1 hq1 ?_) ?_ hL
  · rw [zFs_set hlay (v := .long v) ?_ (fun t j hj => zV_sJ_nk t j hj)]
    · exact hat
    · simp [zV, sJ, mI, mJ, mD, mR, u2]
  · have hA : zA L (zad L a) := by
      have := (hO a).1 ha
      show zB L ≤ zad L a
      omega
    refine ⟨by rw [hz1]; exact hS.1, fun q' g1 g2 => ?_, fun q' hq' => ?_⟩
    · rw [hq1 q' (fun e => g2 (by rw [e]; exact hA))]
      exact hS.2.1 q' g1 g2
    · rcases List.mem_append.mp hq' with e | e
      · exact hS.2.2 q' e
      · rw [List.mem_singleton.mp e, hb1]
        exact hA
theorem V_putD {L : zL} {X : zX} {y : MethodName} {cc : ByteArray} {nL : Nat} {ret : Option FieldType} {dd : Nat} {M0 : zM} {N : Nat × Nat} {Q : State → Prop} {M : zM} {pc : Nat} {ls : List (Nat × Value)} {st : List Value} {c k : Nat} {C ref : String} {T : u_T} {NN ix a : Nat} {ty : Nat → FieldType} {v : UInt64} {M1 : zM} (hf : zfd c k 3 C T NN ty) (hl : zlk y.cls ix ref T k) (hfin : (T k).2.2.2 = false ∨ ((T k).2.2.2 = true ∧ y.name = "<init>" ∧ (T k).1 = y.cls)) (hty : ty k = .double) (h : pD c k M a v = some M1) (d : decode cc pc = .ok (.putfield ix, 3)) (kk : V L X y cc nL ret dd M0 N Q M1 (pc + 3) ls st) : V L X y cc nL ret dd M0 N Q M pc ls (.double v :: .ref (zad L a) :: st) := by
  unfold pD at h
  have hx : (if mK M a = c then some (sD M (32 * c + k) a v) else none) = some M1 := h
  have hm : mK M a = c := by
    by_cases hm : mK M a = c
    · exact hm
    · simp [hm] at hx
  have e1 : M1 = sD M (32 * c + k) a v := by
    rw [if_pos hm] at hx
    exact (Option.some.inj hx).symm
  subst e1
  refine ⟨kk.1, fun g h1 h2 H locs la hH hS hL => ?_⟩
  obtain ⟨c0, c1, hc, hin, hpt, hnm, hk, hlay⟩ := hf
  have hO : zO L := g.2.2.2.2.2.2.2.2.2.1.1
  have ha : 1000 ≤ a := hH.2.2.1 a (by omega) (by omega)
  refine zWput g.1 g.2.1 g.2.2.2.2.1 hin ty hpt hnm g.2.2.2.1 g.2.2.2.2.2.2.2.2.2.1.2.1 (hH.2.2.2.1 a c hm c0 c1) hc k hk (g.2.2.2.2.1 _ hl.1) (zlk_same hl g.2.2.2.2.1) (hfin.imp id fun q => ⟨q.1, g.2.2.2.2.2.2.2.1.trans q.2.1, q.2.2⟩) (hpt k hk) (by rw [hty]; rfl) (by rw [hty]; rfl) (by rw [zFs_len]; exact (List.getElem?_eq_some_iff.mp hlay).1) d (fun H1 q hat hz1 hq1 hb1 => ?_)
  refine kk.2 g h1 h2 H1 _ la (hH.obj hO hm c0 c1 rfl rfl rfl rfl rfl (fun b hb => zFs_ne (zV_sD_ne hb)) hz1 hq1 ?_) ?_ hL
  · rw [zFs_set hlay (v := .double v) ?_ (fun t j hj => zV_sD_nk t j hj)]
    · exact hat
    · simp [zV, sD, mI, mJ, mD, mR, u2]
  · have hA : zA L (zad L a) := by
      have := (hO a).1 ha
      show zB L ≤ zad L a
      omega
    refine ⟨by rw [hz1]; exact hS.1, fun q' g1 g2 => ?_, fun q' hq' => ?_⟩
    · rw [hq1 q' (fun e => g2 (by rw [e]; exact hA))]
      exact hS.2.1 q' g1 g2
    · rcases List.mem_append.mp hq' with e | e
      · exact hS.2.2 q' e
      · rw [List.mem_singleton.mp e, hb1]
        exact hA
theorem V_putDN {L : zL} {X : zX} {y : MethodName} {cc : ByteArray} {nL : Nat} {ret : Option FieldType} {dd : Nat} {M0 : zM} {N : Nat × Nat} {Q : State → Prop} {M : zM} {pc : Nat} {ls : List (Nat × Value)} {st : List Value} {c k : Nat} {C ref : String} {T : u_T} {NN ix a : Nat} {ty : Nat → FieldType} {v : UInt64} {M1 : zM} (hf : zfd c k 3 C T NN ty) {host : String} (hl : zlkN y.cls ix T k host) (hfin : (T k).2.2.2 = false) (hty : ty k = .double) (h : pD c k M a v = some M1) (d : decode cc pc = .ok (.putfield ix, 3)) (kk : V L X y cc nL ret dd M0 N Q M1 (pc + 3) ls st) : V L X y cc nL ret dd M0 N Q M pc ls (.double v :: .ref (zad L a) :: st) := by
  unfold pD at h
  have hx : (if mK M a = c then some (sD M (32 * c + k) a v) else none) = some M1 := h
  have hm : mK M a = c := by
    by_cases hm : mK M a = c
    · exact hm
    · simp [hm] at hx
  have e1 : M1 = sD M (32 * c + k) a v := by
    rw [if_pos hm] at hx
    exact (Option.some.inj hx).symm
  subst e1
  refine ⟨kk.1, fun g h1 h2 H locs la hH hS hL => ?_⟩
  obtain ⟨c0, c1, hc, hin, hpt, hnm, hk, hlay⟩ := hf
  have hO : zO L := g.2.2.2.2.2.2.2.2.2.1.1
  have ha : 1000 ≤ a := hH.2.2.1 a (by omega) (by omega)
  refine zWputN (host := host) g.1 g.2.1 g.2.2.2.2.1 hin ty hpt hnm g.2.2.2.1 g.2.2.2.2.2.2.2.2.2.1.2.1 (hH.2.2.2.1 a c hm c0 c1) hc k hk (va_Nw.use rfl (g.2.2.2.2.2.2.2.2.2.1.2.2.1 _ hl)) (fun _ q => q) hfin (hpt k hk) (by rw [hty]; rfl) (by rw [hty]; rfl) (by rw [zFs_len]; exact (List.getElem?_eq_some_iff.mp hlay).1) d (fun H1 q hat hz1 hq1 hb1 => ?_)
  refine kk.2 g h1 h2 H1 _ la (hH.obj hO hm c0 c1 rfl rfl rfl rfl rfl (fun b hb => zFs_ne (zV_sD_ne hb)) hz1 hq1 ?_) ?_ hL
  · rw [zFs_set hlay (v := .double v) ?_ (fun t j hj => zV_sD_nk t j hj)]
    · exact hat
    · simp [zV, sD, mI, mJ, mD, mR, u2]
  · have hA : zA L (zad L a) := by
      have := (hO a).1 ha
      show zB L ≤ zad L a
      omega
    refine ⟨by rw [hz1]; exact hS.1, fun q' g1 g2 => ?_, fun q' hq' => ?_⟩
    · rw [hq1 q' (fun e => g2 (by rw [e]; exact hA))]
      exact hS.2.1 q' g1 g2
    · rcases List.mem_append.mp hq' with e | e
      · exact hS.2.2 q' e
      · rw [List.mem_singleton.mp e, hb1]
        exact hA
theorem V_putR {L : zL} {X : zX} {y : MethodName} {cc : ByteArray} {nL : Nat} {ret : Option FieldType} {dd : Nat} {M0 : zM} {N : Nat × Nat} {Q : State → Prop} {M : zM} {pc : Nat} {ls : List (Nat × Value)} {st : List Value} {c k : Nat} {C ref : String} {T : u_T} {NN ix a : Nat} {ty : Nat → FieldType} {v : Nat} {M1 : zM} (hf : zfd c k 2 C T NN ty) (hl : zlk y.cls ix ref T k) (hfin : (T k).2.2.2 = false ∨ ((T k).2.2.2 = true ∧ y.name = "<init>" ∧ (T k).1 = y.cls)) (hty : (ty k).isReference = true) (h : pR c k M a v = some M1) (d : decode cc pc = .ok (.putfield ix, 3)) (kk : V L X y cc nL ret dd M0 N Q M1 (pc + 3) ls st) : V L X y cc nL ret dd M0 N Q M pc ls (.ref (zad L v) :: .ref (zad L a) :: st) := by
  unfold pR at h
  have hx : (if mK M a = c then some (sR M (32 * c + k) a (some v)) else none) = some M1 := h
  have hm : mK M a = c := by
    by_cases hm : mK M a = c
    · exact hm
    · simp [hm] at hx
  have e1 : M1 = sR M (32 * c + k) a (some v) := by
    rw [if_pos hm] at hx
    exact (Option.some.inj hx).symm
  subst e1
  refine ⟨kk.1, fun g h1 h2 H locs la hH hS hL => ?_⟩
  obtain ⟨c0, c1, hc, hin, hpt, hnm, hk, hlay⟩ := hf
  have hO : zO L := g.2.2.2.2.2.2.2.2.2.1.1
  have ha : 1000 ≤ a := hH.2.2.1 a (by omega) (by omega)
  refine zWput g.1 g.2.1 g.2.2.2.2.1 hin ty hpt hnm g.2.2.2.1 g.2.2.2.2.2.2.2.2.2.1.2.1 (hH.2.2.2.1 a c hm c0 c1) hc k hk (g.2.2.2.2.1 _ hl.1) (zlk_same hl g.2.2.2.2.1) (hfin.imp id fun q => ⟨q.1, g.2.2.2.2.2.2.2.1.trans q.2.1, q.2.2⟩) (hpt k hk) (by cases hq : ty k <;> rw [hq] at hty <;> first | rfl | cases hty) (by cases hq : ty k <;> rw [hq] at hty <;> first | rfl | cases hty) (by rw [zFs_len]; exact (List.getElem?_eq_some_iff.mp hlay).1) d (fun H1 q hat hz1 hq1 hb1 => ?_)
  refine kk.2 g h1 h2 H1 _ la (hH.obj hO hm c0 c1 rfl rfl rfl rfl rfl (fun b hb => zFs_ne (zV_sR_ne hb)) hz1 hq1 ?_) ?_ hL
  · rw [zFs_set hlay (v := .ref (zad L v)) ?_ (fun t j hj => zV_sR_nk t j hj)]
    · exact hat
    · simp [zV, sR, mI, mJ, mD, mR, u2, zrf, va_rf]
  · have hA : zA L (zad L a) := by
      have := (hO a).1 ha
      show zB L ≤ zad L a
      omega
    refine ⟨by rw [hz1]; exact hS.1, fun q' g1 g2 => ?_, fun q' hq' => ?_⟩
    · rw [hq1 q' (fun e => g2 (by rw [e]; exact hA))]
      exact hS.2.1 q' g1 g2
    · rcases List.mem_append.mp hq' with e | e
      · exact hS.2.2 q' e
      · rw [List.mem_singleton.mp e, hb1]
        exact hA
theorem V_putRN {L : zL} {X : zX} {y : MethodName} {cc : ByteArray} {nL : Nat} {ret : Option FieldType} {dd : Nat} {M0 : zM} {N : Nat × Nat} {Q : State → Prop} {M : zM} {pc : Nat} {ls : List (Nat × Value)} {st : List Value} {c k : Nat} {C ref : String} {T : u_T} {NN ix a : Nat} {ty : Nat → FieldType} {v : Nat} {M1 : zM} (hf : zfd c k 2 C T NN ty) {host : String} (hl : zlkN y.cls ix T k host) (hfin : (T k).2.2.2 = false) (hty : (ty k).isReference = true) (h : pR c k M a v = some M1) (d : decode cc pc = .ok (.putfield ix, 3)) (kk : V L X y cc nL ret dd M0 N Q M1 (pc + 3) ls st) : V L X y cc nL ret dd M0 N Q M pc ls (.ref (zad L v) :: .ref (zad L a) :: st) := by
  unfold pR at h
  have hx : (if mK M a = c then some (sR M (32 * c + k) a (some v)) else none) = some M1 := h
  have hm : mK M a = c := by
    by_cases hm : mK M a = c
    · exact hm
    · simp [hm] at hx
  have e1 : M1 = sR M (32 * c + k) a (some v) := by
    rw [if_pos hm] at hx
    exact (Option.some.inj hx).symm
  subst e1
  refine ⟨kk.1, fun g h1 h2 H locs la hH hS hL => ?_⟩
  obtain ⟨c0, c1, hc, hin, hpt, hnm, hk, hlay⟩ := hf
  have hO : zO L := g.2.2.2.2.2.2.2.2.2.1.1
  have ha : 1000 ≤ a := hH.2.2.1 a (by omega) (by omega)
  refine zWputN (host := host) g.1 g.2.1 g.2.2.2.2.1 hin ty hpt hnm g.2.2.2.1 g.2.2.2.2.2.2.2.2.2.1.2.1 (hH.2.2.2.1 a c hm c0 c1) hc k hk (va_Nw.use rfl (g.2.2.2.2.2.2.2.2.2.1.2.2.1 _ hl)) (fun _ q => q) hfin (hpt k hk) (by cases hq : ty k <;> rw [hq] at hty <;> first | rfl | cases hty) (by cases hq : ty k <;> rw [hq] at hty <;> first | rfl | cases hty) (by rw [zFs_len]; exact (List.getElem?_eq_some_iff.mp hlay).1) d (fun H1 q hat hz1 hq1 hb1 => ?_)
  refine kk.2 g h1 h2 H1 _ la (hH.obj hO hm c0 c1 rfl rfl rfl rfl rfl (fun b hb => zFs_ne (zV_sR_ne hb)) hz1 hq1 ?_) ?_ hL
  · rw [zFs_set hlay (v := .ref (zad L v)) ?_ (fun t j hj => zV_sR_nk t j hj)]
    · exact hat
    · simp [zV, sR, mI, mJ, mD, mR, u2, zrf, va_rf]
  · have hA : zA L (zad L a) := by
      have := (hO a).1 ha
      show zB L ≤ zad L a
      omega
    refine ⟨by rw [hz1]; exact hS.1, fun q' g1 g2 => ?_, fun q' hq' => ?_⟩
    · rw [hq1 q' (fun e => g2 (by rw [e]; exact hA))]
      exact hS.2.1 q' g1 g2
    · rcases List.mem_append.mp hq' with e | e
      · exact hS.2.2 q' e
      · rw [List.mem_singleton.mp e, hb1]
        exact hA
