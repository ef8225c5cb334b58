/-! ===== THE START: what lies ahead of the law, as a memory; the words of the tables and of the premise at work ===== -/
def zr_low : List Int32 := [3, 1, 2, 1, 1]
def zr_nxt : List Int32 := [0, 1, 0, 1, 0]
def zr_thd : List Int32 := [0, 1, 0, 0, 1]
def zr_one : List Int32 := [48, 49, 50, 51, 52, 53, 54, 55, 56, 57, 48, 49, 50, 51, 52, 53, 54, 55, 56, 57, 48, 49, 50, 51, 52, 53, 54, 55, 56, 57, 48, 49, 50, 51, 52, 53, 54, 55, 56, 57, 48, 49, 50, 51, 52, 53, 54, 55, 56, 57, 48, 49, 50, 51, 52, 53, 54, 55, 56, 57, 48, 49, 50, 51, 52, 53, 54, 55, 56, 57, 48, 49, 50, 51, 52, 53, 54, 55, 56, 57, 48, 49, 50, 51, 52, 53, 54, 55, 56, 57, 48, 49, 50, 51, 52, 53, 54, 55, 56, 57]
def zr_ten : List Int32 := [48, 48, 48, 48, 48, 48, 48, 48, 48, 48, 49, 49, 49, 49, 49, 49, 49, 49, 49, 49, 50, 50, 50, 50, 50, 50, 50, 50, 50, 50, 51, 51, 51, 51, 51, 51, 51, 51, 51, 51, 52, 52, 52, 52, 52, 52, 52, 52, 52, 52, 53, 53, 53, 53, 53, 53, 53, 53, 53, 53, 54, 54, 54, 54, 54, 54, 54, 54, 54, 54, 55, 55, 55, 55, 55, 55, 55, 55, 55, 55, 56, 56, 56, 56, 56, 56, 56, 56, 56, 56, 57, 57, 57, 57, 57, 57, 57, 57, 57, 57]
def zr_320 : List Int32 := [69, 83, 87, 78, 82, 71, 72]
def zr_295 : List Int32 := [69, 83, 87, 78, 82, 71, 72]
def zr_290 : List Int32 := []
def zK0 (a : Nat) : Nat := if a < 4 then 200 else if a = 4 then 210 else if a = 5 then 213 else if a < 8 then 201 else if 20 ≤ a ∧ a < 23 then 301 else if 40 ≤ a ∧ a < 43 then 201 else if 100 ≤ a ∧ a < 356 then 303 else 0
def zL0 (n a : Nat) : Nat := if a = 0 then n else if a < 4 then 5 else if a = 5 then 256 else if a = 6 ∨ a = 7 then 100 else if a = 40 then 7 else if a = 41 then 7 else if a = 42 then 0 else 0
def zI0 (k a : Nat) : Int32 := if k = 96 ∧ 100 ≤ a ∧ a < 356 then vb_c (a - 100) else 0
def zR0 (k a : Nat) : Option Nat := if k = 32 ∧ 20 ≤ a ∧ a < 23 then some (a + 20) else none
def zA0 (xs : Nat → Int32) (a i : Nat) : Int32 := if a = 0 then xs i else if a = 1 then zr_low.getD i 0 else if a = 2 then zr_nxt.getD i 0 else if a = 3 then zr_thd.getD i 0 else if a = 6 then zr_one.getD i 0 else if a = 7 then zr_ten.getD i 0 else if a = 40 then zr_320.getD i 0 else if a = 41 then zr_295.getD i 0 else if a = 42 then zr_290.getD i 0 else 0
def zQ0 (o : Option Nat) (a i : Nat) : Option Nat := if a = 5 ∧ i < 256 then some (100 + i) else if a = 999 then o else none
/-- the memory at the law's entry -/
def zM0 (n : Nat) (xs : Nat → Int32) (o : Option Nat) : zM := (zK0, zL0 n, zI0, fun _ _ => 0, fun _ _ => 0, zR0, zA0 xs, zQ0 o, 1000, 0)
/-- the addresses of the places ahead of the law -/
def zplc (l9 l3 v3 : List Nat) (ad : Nat → Nat) (b k : Nat) : Nat := if k < 9 then l9.getD k b else if 20 ≤ k ∧ k < 23 then l3.getD (k - 20) b else if 40 ≤ k ∧ k < 43 then v3.getD (k - 40) b else if 100 ≤ k ∧ k < 356 then ad (k - 100) else b
theorem zstrOf {s : State} {args : Array Value} {tm : Term} {n : Nat} {byt : List Int32} {A : Nat → Prop} (hN : n < 2 ^ 31) (hex : (Cond.exactly tm "java/lang/String").before args s = true) (hco : (Cond.eq (.field tm "java/lang/String" "coder" "B") (.int 0)).before args s = true) (har : (Cond.arrayOf (.field tm "java/lang/String" "value" "[B") .byte).before args s = true)
    (hle : (Cond.eq (.length (.field tm "java/lang/String" "value" "[B")) (.int (Int32.ofNat n))).before args s = true) (hel : ∀ j : Nat, j < n → (Cond.eq (.elem (.field tm "java/lang/String" "value" "[B") (.int (Int32.ofNat j))) (.int (byt.getD j 0))).before args s = true) (hA : ∀ a : Nat, a < s.heap.size → ¬ A a) :
    ∃ a t : Nat, tm.eval args s none [] s = some (.ref a) ∧ va_O "java/lang/String" a A s s.heap ∧ va_OF "java/lang/String" "coder" "B" (.int 0) a A s s.heap ∧ va_OF "java/lang/String" "value" "[B" (.ref t) a A s s.heap ∧ va_T .byte t n (fun j => .int (byt.getD j 0)) A s s.heap := by
  obtain ⟨a, c, cA, kA, q1, q2, q3, q4, q5, q6, -⟩ := Cond.exactly_spec (args := args) (first := s) (o := none) (s := s) (idx := []) (t := tm) (cls := "java/lang/String") hex
  obtain ⟨t, ht, hT⟩ := va_Tof (f := fun j => .int (byt.getD j 0)) (A := A) hN har (va_eqt hle) (fun j hj => va_eqt (hel j hj)) hA
  exact ⟨a, t, q1, ⟨cA, q3, q5, by rw [q6]; exact q2, hA a (Array.getElem?_eq_some_iff.mp q3).1⟩, vk_OFof q1 (va_eqt hco) hA, vk_OFof q1 ht hA, hT⟩
theorem va_T.size {ty : FieldType} {t N : Nat} {f : Nat → Value} {A : Nat → Prop} {U : State} {H : Heap} (h : va_T ty t N f A U H) : t < H.size := by
  obtain ⟨cell, h1, -⟩ := h
  exact (Array.getElem?_eq_some_iff.mp h1).1
theorem va_O.size {E : String} {t : Nat} {A : Nat → Prop} {U : State} {H : Heap} (h : va_O E t A U H) : t < H.size := by
  obtain ⟨cell, h1, -⟩ := h
  exact (Array.getElem?_eq_some_iff.mp h1).1
theorem zkn0 {s : State} {args : Array Value} (hts : ∀ w ∈ lw_tbl, w.before args s = true) : ∃ D : va_G, ∀ (c : Nat) (q : vw_C), vwCl[c]? = some q → u_Kn s q.1 q.2.1 q.2.2 (D.1 c) (D.2 c) := by
  have htz : ∀ w ∈ zw, w.before args s = true := fun w h => hts w (zw_tbl h)
  have h0 : ∀ c : Nat, ∃ z : ClassId × (Nat → Nat), ∀ q : vw_C, vwCl[c]? = some q → u_Kn s q.1 q.2.1 q.2.2 z.1 z.2 := by
    intro c
    match c with
    | 0 => obtain ⟨a, i, h⟩ := u_known (C := RJ0) (T := TJ0) (N := 4) (n := 4) htz zin1 (hts _ (List.mem_of_getElem? (i := 921) (by decide +kernel))); exact ⟨(a, i), fun q hq => by cases hq; exact h⟩
    | 1 => obtain ⟨a, i, h⟩ := u_known (C := RJ4) (T := TJ4) (N := 4) (n := 4) htz zin2 (hts _ (List.mem_of_getElem? (i := 720) (by decide +kernel))); exact ⟨(a, i), fun q hq => by cases hq; exact h⟩
    | 2 => obtain ⟨a, i, h⟩ := u_known (C := RJ6) (T := TJ6) (N := 1) (n := 1) htz zin3 (hts _ (List.mem_of_getElem? (i := 1252) (by decide +kernel))); exact ⟨(a, i), fun q hq => by cases hq; exact h⟩
    | 3 => obtain ⟨a, i, h⟩ := u_known (C := RJx35411) (T := TJx35411) (N := 4) (n := 4) htz zin4 (hts _ (List.mem_of_getElem? (i := 1330) (by decide +kernel))); exact ⟨(a, i), fun q hq => by cases hq; exact h⟩
    | 4 => obtain ⟨a, i, h⟩ := u_known (C := RJx4a65c) (T := TJx4a65c) (N := 3) (n := 3) htz zin5 (hts _ (List.mem_of_getElem? (i := 1051) (by decide +kernel))); exact ⟨(a, i), fun q hq => by cases hq; exact h⟩
    | 5 => obtain ⟨a, i, h⟩ := u_known (C := RX0) (T := TX0) (N := 5) (n := 5) htz zin6 (hts _ (List.mem_of_getElem? (i := 106) (by decide +kernel))); exact ⟨(a, i), fun q hq => by cases hq; exact h⟩
    | 6 => obtain ⟨a, i, h⟩ := u_known (C := RX1) (T := TX1) (N := 9) (n := 9) htz zin7 (hts _ (List.mem_of_getElem? (i := 138) (by decide +kernel))); exact ⟨(a, i), fun q hq => by cases hq; exact h⟩
    | 7 => obtain ⟨a, i, h⟩ := u_known (C := RX2) (T := TX2) (N := 1) (n := 1) htz zin8 (hts _ (List.mem_of_getElem? (i := 129) (by decide +kernel))); exact ⟨(a, i), fun q hq => by cases hq; exact h⟩
    | 8 => obtain ⟨a, i, h⟩ := u_known (C := RX3) (T := TX3) (N := 16) (n := 16) htz zin9 (hts _ (List.mem_of_getElem? (i := 96) (by decide +kernel))); exact ⟨(a, i), fun q hq => by cases hq; exact h⟩
    | 9 => obtain ⟨a, i, h⟩ := u_known (C := RX4) (T := TX4) (N := 3) (n := 3) htz zin10 (hts _ (List.mem_of_getElem? (i := 439) (by decide +kernel))); exact ⟨(a, i), fun q hq => by cases hq; exact h⟩
    | 10 => obtain ⟨a, i, h⟩ := u_known (C := RX5) (T := TX5) (N := 2) (n := 2) htz zin11 (hts _ (List.mem_of_getElem? (i := 1409) (by decide +kernel))); exact ⟨(a, i), fun q hq => by cases hq; exact h⟩
    | 11 => obtain ⟨a, i, h⟩ := u_known (C := RX6) (T := TX6) (N := 7) (n := 7) htz zin12 (hts _ (List.mem_of_getElem? (i := 1045) (by decide +kernel))); exact ⟨(a, i), fun q hq => by cases hq; exact h⟩
    | 12 => obtain ⟨a, i, h⟩ := u_known (C := RX7) (T := TX7) (N := 15) (n := 15) htz zin13 (hts _ (List.mem_of_getElem? (i := 1038) (by decide +kernel))); exact ⟨(a, i), fun q hq => by cases hq; exact h⟩
    | c + 13 => exact ⟨(0, fun _ => 0), fun q hq => by simp [vwCl] at hq⟩
  obtain ⟨z, hz⟩ := Classical.axiomOfChoice h0
  exact ⟨(fun c => (z c).1, fun c => (z c).2), fun c q hq => hz c q hq⟩
theorem zar0 {s : State} {args : Array Value} (hts : ∀ w ∈ lw_tbl, w.before args s = true) : ∃ zcs : Nat → ClassId, ∀ (k : Nat) (q : ClassId × FieldType), ([(zcs 0, .int), (zcs 1, .byte), (zcs 2, .boolean), (zcs 10, .object "java/lang/Object"), (zcs 11, .object "Windsparlour$Seat"), (zcs 12, .object "WindsparlourModel$Player")] : List (ClassId × FieldType))[k]? = some q → ArrOfT s q.1 q.2 ∧ va_RA s q.1 q.2 := by
  obtain ⟨c0, k0, p0, a0, b0, d0⟩ := Cond.arrayClass_spec (type := .int) (hts _ (List.mem_of_getElem? (i := 127) (by decide +kernel)))
  obtain ⟨c1, k1, p1, a1, b1, d1⟩ := Cond.arrayClass_spec (type := .byte) (hts _ (List.mem_of_getElem? (i := 372) (by decide +kernel)))
  obtain ⟨c2, k2, p2, a2, b2, d2⟩ := Cond.arrayClass_spec (type := .boolean) (hts _ (List.mem_of_getElem? (i := 1232) (by decide +kernel)))
  obtain ⟨p10, c10, k10, a10, -, b10, d10, f10⟩ := Cond.arrayOver_spec (n := "java/lang/Object") (hts _ (List.mem_of_getElem? (i := 1308) (by decide +kernel)))
  obtain ⟨p11, c11, k11, a11, -, b11, d11, f11⟩ := Cond.arrayOver_spec (n := "Windsparlour$Seat") (hts _ (List.mem_of_getElem? (i := 104) (by decide +kernel)))
  obtain ⟨p12, c12, k12, a12, -, b12, d12, f12⟩ := Cond.arrayOver_spec (n := "WindsparlourModel$Player") (hts _ (List.mem_of_getElem? (i := 1044) (by decide +kernel)))
  refine ⟨fun t => if t = 0 then c0 else if t = 1 then c1 else if t = 2 then c2 else if t = 10 then c10 else if t = 11 then c11 else c12, fun k q hq => ?_⟩
  match k, hq with
  | 0, hq => cases hq; exact ⟨fun n z => ⟨(fun k h => by cases h), k0, b0, p0, d0⟩, a0⟩
  | 1, hq => cases hq; exact ⟨fun n z => ⟨(fun k h => by cases h), k1, b1, p1, d1⟩, a1⟩
  | 2, hq => cases hq; exact ⟨fun n z => ⟨(fun k h => by cases h), k2, b2, p2, d2⟩, a2⟩
  | 3, hq => cases hq; exact ⟨fun n z => ⟨(fun k h => by cases h), k10, b10, p10, d10⟩, k10, p10, b10, d10, a10, f10⟩
  | 4, hq => cases hq; exact ⟨fun n z => ⟨(fun k h => by cases h), k11, b11, p11, d11⟩, k11, p11, b11, d11, a11, f11⟩
  | 5, hq => cases hq; exact ⟨fun n z => ⟨(fun k h => by cases h), k12, b12, p12, d12⟩, k12, p12, b12, d12, a12, f12⟩
  | k + 6, hq => simp at hq
/-! THE CLAIM OUT OF ONE WALK OF THE LAW'S BODY. Your part is whole_start (and what it stands on); all else here is the same for every law, but numbers. -/
def R_law : String := "WindsparlourLaw"
def lw_P (b : Addr) (xs : List Int32) (args : Array Value) (s : State) : Prop := args = #[.ref b] ∧ s.IntsAt b xs ∧ xs.length ≤ 2048 ∧ (Jvm.Cond.and given_1 narrow_1).before args s = true
/-- what a walk over the start with the record d0 says of its end, said of the start itself -/
theorem lw_closed {s t : State} {o : Outcome} {d0 : Drawn} {L : List Loc} {k n : Nat} (hd0 : s.drawn.sameBut d0 lw_cs) (hv : ∃ v, o = .returned v) (hW : (s.setDrawn d0).WarmedH t.vm) (hs : (s.setDrawn d0).sameButNew ({ t with vm := s.vm } : State) L k n) : State.butDraws s t lw_cs (fun t1 => Framed s o t1 L k n) := by
  have h2 : t.drawn = d0 := congrArg State.drawn hs.1
  refine ⟨⟨hv, hW, State.sameButNew.setDrawn hs s.drawn⟩, ?_, by decide⟩
  rw [h2]
  exact hd0
def lw_Q (_ : Array Value) (s : State) (o : Outcome) (t : State) : Prop := o = .returned (some (.int 1)) ∧ State.butDraws s t lw_cs (fun t1 => Framed s o t1 [] 601024 7293034)
def lw_Z (below : List Frame) (a : Array Value) (s : State) : State → Prop := fun t => ∃ o, t.status = .running ∧ Ended t below o ∧ lw_Q a s o t
/-- the law's own end, with 1 on the stack, nothing written that was there before, its room as the claim has it; d0: the record of draws at this point (at the entry s.drawn: begin with 'refine W.base ?_' and 'have hd0 := Drawn.sameBut.refl s.drawn lw_cs') -/
theorem lw_ret {p : Program} {l : Launch} {e : Env} {s : State} {m : MethodId} {below : List Frame} {meth : Method} {c : Code} {b : Nat} {d0 : Drawn} (hd0 : s.drawn.sameBut d0 lw_cs) (hx : p.tables.exec = Jvm.exec) (hb : c.code = code) (hr : meth.sig.returnType = ret) (hlocks : meth.locks = false) {pc : Nat} {H : Heap} {ls : Array Slot} (hdg : decode code pc = .ok (.ireturn, 1)) : W p l e room_1 (s.setDrawn d0) m #[Value.ref b] below meth c H [] 601024 7293034 (lw_Z below #[Value.ref b] s) (F0 m pc ls [.int 1]) := by
  intro T hT X
  obtain ⟨fs, hret, hrun, hended, hW, hframe⟩ := X.leave (v := some (.int 1)) (hlocks := hlocks) (fun h => by rw [hr] at h; cases h)
  have hmeth' : T.vm.method? m = some meth := X.method'
  refine ⟨T.setFrames fs, ?_, .returned (some (.int 1)), hrun, hended, rfl, lw_closed hd0 ⟨_, rfl⟩ hW hframe⟩
  jvm_step X.here [X.here.top, hx, hb, hdg, hmeth', hr, ret, narrow_b1]
  (try refine ⟨rfl, ?_⟩); (try refine ⟨rfl, ?_⟩)
  first | (intro acts; rw [hret _ acts rfl rfl rfl]) | rw [hret _ _ rfl rfl rfl]
  exact Steps.refl _
/-- what holds at the law's entry: the machine, the code, the tables' words (any of lw_tbl by 'hts w (by decide +kernel)'), the script of L ints xs at the cell b, what the Statement gives of the start (any of its parts by flat_of_before) -/
def lw_At (p : Program) (s : State) (m : MethodId) (meth : Method) (c : Code) (b L : Nat) (xs : Nat → Int32) : Prop :=
  p.tables.exec = Jvm.exec ∧ c.code = code ∧ meth.sig.returnType = ret ∧ c.maxLocals = 8 ∧ s.vm.findClass R_law = some m.cls ∧ (∀ w ∈ lw_tbl, w.before #[Value.ref b] s = true) ∧ va_X b L xs s s.heap ∧ b < s.heap.size ∧ meth.locks = false ∧ (Jvm.Cond.and given_1 narrow_1).before #[Value.ref b] s = true ∧ meth.name = "law" ∧ c.exceptionTable.toList = []
set_option maxHeartbeats 4000000 in
set_option maxRecDepth 100000 in
theorem zstart {p : Program} {s : State} {m : MethodId} {meth : Method} {c : Code} {b n : Nat} {xs : Nat → Int32} (C0 : lw_At p s m meth c b n xs) : ∃ (L : zL) (o : Option Nat), zB L = s.heap.size ∧ zad L 0 = b ∧ zEx L = zM0 n xs o ∧ vT L s := by
  obtain ⟨-, -, -, -, -, hts, hX, hbl, -, hgv, -, -⟩ := C0
  have hs := flat_of_before _ hgv
  have hA : ∀ a : Nat, a < s.heap.size → ¬ (fun q => s.heap.size ≤ q) a := fun a h q => Nat.not_le.mpr h q
  obtain ⟨D, hD⟩ := zkn0 hts
  obtain ⟨zcs, hz⟩ := zar0 hts
  obtain ⟨t_low, e_low, h_low⟩ := va_Tof (s := s) (args := #[Value.ref b]) (tm := (.static "Windsparlour$Parting" "AT_LOW" "[I")) (ty := .int) (N := 5) (f := fun j => .int (zr_low.getD j 0)) (A := fun q => s.heap.size ≤ q) (by decide) (hs _ (by decide +kernel)) (va_eqt (hs _ (by decide +kernel))) (fun j hj => va_eqt (hs _ (va_run (N := 5) (p := 7) (f := fun j => Cond.eq (.elem (.static "Windsparlour$Parting" "AT_LOW" "[I") (.int (Int32.ofNat j))) (.int (zr_low.getD j 0))) (by decide +kernel) j hj))) hA
  obtain ⟨t_nxt, e_nxt, h_nxt⟩ := va_Tof (s := s) (args := #[Value.ref b]) (tm := (.static "Windsparlour$Parting" "AT_NEXT" "[I")) (ty := .int) (N := 5) (f := fun j => .int (zr_nxt.getD j 0)) (A := fun q => s.heap.size ≤ q) (by decide) (hs _ (by decide +kernel)) (va_eqt (hs _ (by decide +kernel))) (fun j hj => va_eqt (hs _ (va_run (N := 5) (p := 15) (f := fun j => Cond.eq (.elem (.static "Windsparlour$Parting" "AT_NEXT" "[I") (.int (Int32.ofNat j))) (.int (zr_nxt.getD j 0))) (by decide +kernel) j hj))) hA
  obtain ⟨t_thd, e_thd, h_thd⟩ := va_Tof (s := s) (args := #[Value.ref b]) (tm := (.static "Windsparlour$Parting" "AT_THIRD" "[I")) (ty := .int) (N := 5) (f := fun j => .int (zr_thd.getD j 0)) (A := fun q => s.heap.size ≤ q) (by decide) (hs _ (by decide +kernel)) (va_eqt (hs _ (by decide +kernel))) (fun j hj => va_eqt (hs _ (va_run (N := 5) (p := 23) (f := fun j => Cond.eq (.elem (.static "Windsparlour$Parting" "AT_THIRD" "[I") (.int (Int32.ofNat j))) (.int (zr_thd.getD j 0))) (by decide +kernel) j hj))) hA
  obtain ⟨t_one, e_one, h_one⟩ := va_Tof (s := s) (args := #[Value.ref b]) (tm := (.static "java/lang/Integer" "DigitOnes" "[B")) (ty := .byte) (N := 100) (f := fun j => .int (zr_one.getD j 0)) (A := fun q => s.heap.size ≤ q) (by decide) (hs _ (by decide +kernel)) (va_eqt (hs _ (by decide +kernel))) (fun j hj => va_eqt (hs _ (va_run (N := 100) (p := 34) (f := fun j => Cond.eq (.elem (.static "java/lang/Integer" "DigitOnes" "[B") (.int (Int32.ofNat j))) (.int (zr_one.getD j 0))) (by decide +kernel) j hj))) hA
  obtain ⟨t_ten, e_ten, h_ten⟩ := va_Tof (s := s) (args := #[Value.ref b]) (tm := (.static "java/lang/Integer" "DigitTens" "[B")) (ty := .byte) (N := 100) (f := fun j => .int (zr_ten.getD j 0)) (A := fun q => s.heap.size ≤ q) (by decide) (hs _ (by decide +kernel)) (va_eqt (hs _ (by decide +kernel))) (fun j hj => va_eqt (hs _ (va_run (N := 100) (p := 137) (f := fun j => Cond.eq (.elem (.static "java/lang/Integer" "DigitTens" "[B") (.int (Int32.ofNat j))) (.int (zr_ten.getD j 0))) (by decide +kernel) j hj))) hA
  have hcl : (Term.length (.static "java/lang/Integer$IntegerCache" "cache" "[Ljava/lang/Integer;")).eval #[Value.ref b] s none [] s = some (.int (Int32.ofNat 256)) := va_eqt (hs _ (by decide +kernel))
  obtain ⟨ad, h_ad, e_ad⟩ := vb_Cof (s := s) (args := #[Value.ref b]) (st := (.static "java/lang/Integer$IntegerCache" "cache" "[Ljava/lang/Integer;")) (A := fun q => s.heap.size ≤ q) rfl hcl (hs _ (by decide +kernel)) hA
  obtain ⟨t_cac, e_cac, h_cac⟩ := va_Tof (s := s) (args := #[Value.ref b]) (tm := (.static "java/lang/Integer$IntegerCache" "cache" "[Ljava/lang/Integer;")) (ty := .object "java/lang/Integer") (N := 256) (f := fun j => .ref (ad j)) (A := fun q => s.heap.size ≤ q) (by decide) (hs _ (by decide +kernel)) hcl e_ad hA
  obtain ⟨t_emp, e_emp, h_emp⟩ := va_Tof (s := s) (args := #[Value.ref b]) (tm := (.static "java/util/ArrayList" "DEFAULTCAPACITY_EMPTY_ELEMENTDATA" "[Ljava/lang/Object;")) (ty := .object "java/lang/Object") (N := 0) (f := fun _ => .null) (A := fun q => s.heap.size ≤ q) (by decide) (hs _ (by decide +kernel)) (va_eqt (hs _ (by decide +kernel))) (fun j hj => absurd hj (Nat.not_lt_zero _)) hA
  obtain ⟨s_320, v_320, e_320, o_320, f_320, g_320, h_320⟩ := zstrOf (s := s) (args := #[Value.ref b]) (tm := .string "Windsparlour" 320) (n := 7) (byt := zr_320) (A := fun q => s.heap.size ≤ q) (by decide) (hs _ (by decide +kernel)) (hs _ (by decide +kernel)) (hs _ (by decide +kernel)) (hs _ (by decide +kernel)) (fun j hj => hs _ (va_run (N := 7) (p := 738) (f := fun j => Cond.eq (.elem (.field (.string "Windsparlour" 320) "java/lang/String" "value" "[B") (.int (Int32.ofNat j))) (.int (zr_320.getD j 0))) (by decide +kernel) j hj)) hA
  obtain ⟨s_295, v_295, e_295, o_295, f_295, g_295, h_295⟩ := zstrOf (s := s) (args := #[Value.ref b]) (tm := .string "WindsparlourModel" 295) (n := 7) (byt := zr_295) (A := fun q => s.heap.size ≤ q) (by decide) (hs _ (by decide +kernel)) (hs _ (by decide +kernel)) (hs _ (by decide +kernel)) (hs _ (by decide +kernel)) (fun j hj => hs _ (va_run (N := 7) (p := 805) (f := fun j => Cond.eq (.elem (.field (.string "WindsparlourModel" 295) "java/lang/String" "value" "[B") (.int (Int32.ofNat j))) (.int (zr_295.getD j 0))) (by decide +kernel) j hj)) hA
  obtain ⟨s_290, v_290, e_290, o_290, f_290, g_290, h_290⟩ := zstrOf (s := s) (args := #[Value.ref b]) (tm := .string "WindsparlourModel" 290) (n := 0) (byt := zr_290) (A := fun q => s.heap.size ≤ q) (by decide) (hs _ (by decide +kernel)) (hs _ (by decide +kernel)) (hs _ (by decide +kernel)) (hs _ (by decide +kernel)) (fun j hj => absurd hj (Nat.not_lt_zero _)) hA
  obtain ⟨mi, h_mi⟩ := va_Mi.of (s := s) (args := #[Value.ref b]) (C := "[Ljava/lang/Object;") (hs _ (by decide +kernel))
  have hsio : ∃ o : Option Nat, (Term.static "jdk/internal/util/Preconditions" "SIOOBE_FORMATTER" "Ljava/util/function/BiFunction;").eval #[Value.ref b] s none [] s = some (va_rf o) := by
    have h := hs (Cond.isRef (.static "jdk/internal/util/Preconditions" "SIOOBE_FORMATTER" "Ljava/util/function/BiFunction;")) (by decide +kernel)
    cases hv : (Term.static "jdk/internal/util/Preconditions" "SIOOBE_FORMATTER" "Ljava/util/function/BiFunction;").eval #[Value.ref b] s none [] s with
    | none => simp [Cond.before, Cond.holds, Cond.value, hv] at h
    | some w =>
      simp only [Cond.before, Cond.holds, Cond.value, hv] at h
      cases w with
      | null => exact ⟨none, rfl⟩
      | ref t => exact ⟨some t, rfl⟩
      | _ => simp at h
  obtain ⟨o, e_sio⟩ := hsio
  generalize hLd : ((s.heap.size, fun k => if 1000 ≤ k then s.heap.size + (k - 1000) else zplc [b, t_low, t_nxt, t_thd, t_emp, t_cac, t_one, t_ten, mi] [s_320, s_295, s_290] [v_320, v_295, v_290] ad b k, D, zcs, zM0 n xs o) : zL) = L
  have z1 : zB L = s.heap.size := by rw [← hLd]; rfl
  have zE : zEx L = zM0 n xs o := by rw [← hLd]; rfl
  have zDD : zD L = D := by rw [← hLd]; rfl
  have zCC : zc L = zcs := by rw [← hLd]; rfl
  have zhi : ∀ a, 1000 ≤ a → zad L a = s.heap.size + (a - 1000) := fun a h => by rw [← hLd]; exact if_pos h
  have zlo : ∀ a, a < 1000 → zad L a = zplc [b, t_low, t_nxt, t_thd, t_emp, t_cac, t_one, t_ten, mi] [s_320, s_295, s_290] [v_320, v_295, v_290] ad b a := fun a h => by rw [← hLd]; exact if_neg (by omega)
  have zAA : zA L = fun q => s.heap.size ≤ q := by unfold zA; rw [z1]
  have a0 : zad L 0 = b := zlo 0 (by decide)
  have a1 : zad L 1 = t_low := zlo 1 (by decide)
  have a2 : zad L 2 = t_nxt := zlo 2 (by decide)
  have a3 : zad L 3 = t_thd := zlo 3 (by decide)
  have a4 : zad L 4 = t_emp := zlo 4 (by decide)
  have a5 : zad L 5 = t_cac := zlo 5 (by decide)
  have a6 : zad L 6 = t_one := zlo 6 (by decide)
  have a7 : zad L 7 = t_ten := zlo 7 (by decide)
  have a8 : zad L 8 = mi := zlo 8 (by decide)
  have a20 : zad L 20 = s_320 := zlo 20 (by decide)
  have a21 : zad L 21 = s_295 := zlo 21 (by decide)
  have a22 : zad L 22 = s_290 := zlo 22 (by decide)
  have a40 : zad L 40 = v_320 := zlo 40 (by decide)
  have a41 : zad L 41 = v_295 := zlo 41 (by decide)
  have a42 : zad L 42 = v_290 := zlo 42 (by decide)
  have aad : ∀ i, i < 256 → zad L (100 + i) = ad i := fun i hi => by
    rw [zlo _ (by omega)]
    unfold zplc
    rw [if_neg (by omega), if_neg (by omega), if_neg (by omega), if_pos (by omega)]
    exact congrArg ad (by omega)
  clear hLd
  refine ⟨L, o, z1, a0, zE, ?_⟩
  have hA' : ∀ a : Nat, a < s.heap.size → ¬ zA L a := by rw [zAA]; exact hA
  rw [← zAA] at h_low h_nxt h_thd h_one h_ten h_cac h_emp h_ad o_320 o_295 o_290 f_320 f_295 f_290 g_320 g_295 g_290 h_320 h_295 h_290
  refine ⟨fun a => ⟨fun h => by rw [zhi a h, z1]; omega, fun h h8 => ?_⟩, ⟨fun c q hq => by rw [zDD]; exact hD c q hq, fun k q hq => hz k q (by rw [← zCC]; exact hq)⟩, fun w hw => ?_, ?_, ?_, ?_, by rw [z1]; exact Nat.le_refl _, ?_, ?_, ?_, ?_, by rw [a8]; exact h_mi, ?_, ?_⟩
  · rw [zlo a h, z1]
    unfold zplc
    by_cases q1 : a < 9
    · rw [if_pos q1]
      have q2 : a = 0 ∨ a = 1 ∨ a = 2 ∨ a = 3 ∨ a = 4 ∨ a = 5 ∨ a = 6 ∨ a = 7 := by omega
      rcases q2 with rfl | rfl | rfl | rfl | rfl | rfl | rfl | rfl
      · exact hbl
      · exact h_low.size
      · exact h_nxt.size
      · exact h_thd.size
      · exact h_emp.size
      · exact h_cac.size
      · exact h_one.size
      · exact h_ten.size
    · rw [if_neg q1]
      by_cases q2 : 20 ≤ a ∧ a < 23
      · rw [if_pos q2]
        have q3 : a = 20 ∨ a = 21 ∨ a = 22 := by omega
        rcases q3 with rfl | rfl | rfl
        · exact o_320.size
        · exact o_295.size
        · exact o_290.size
      · rw [if_neg q2]
        by_cases q3 : 40 ≤ a ∧ a < 43
        · rw [if_pos q3]
          have q4 : a = 40 ∨ a = 41 ∨ a = 42 := by omega
          rcases q4 with rfl | rfl | rfl
          · exact h_320.size
          · exact h_295.size
          · exact h_290.size
        · rw [if_neg q3]
          by_cases q4 : 100 ≤ a ∧ a < 356
          · rw [if_pos q4]
            exact (h_ad.1 (a - 100) (by omega)).size
          · rw [if_neg q4]
            exact hbl
  · have h2 := (List.mem_filter.mp hw).2
    refine va_Nw.of ?_ (hts w (List.mem_filter.mp hw).1)
    cases w <;> first | rfl | (simp [zisp] at h2)
  · intro q hq
    simp only [zst, List.mem_cons, List.not_mem_nil, or_false] at hq
    rcases hq with rfl | rfl | rfl | rfl | rfl | rfl | rfl | rfl | rfl | rfl
    · exact va_Zof (C := "Windsparlour$Parting") (n := "AT_LOW") (d := "[I") (hts _ (List.mem_of_getElem? (i := 269) (by decide +kernel))) (hts _ (List.mem_of_getElem? (i := 64) (by decide +kernel))) (by rw [a1]; exact e_low) hA'
    · exact va_Zof (C := "Windsparlour$Parting") (n := "AT_NEXT") (d := "[I") (hts _ (List.mem_of_getElem? (i := 271) (by decide +kernel))) (hts _ (List.mem_of_getElem? (i := 64) (by decide +kernel))) (by rw [a2]; exact e_nxt) hA'
    · exact va_Zof (C := "Windsparlour$Parting") (n := "AT_THIRD") (d := "[I") (hts _ (List.mem_of_getElem? (i := 273) (by decide +kernel))) (hts _ (List.mem_of_getElem? (i := 64) (by decide +kernel))) (by rw [a3]; exact e_thd) hA'
    · exact va_Zof (C := "java/util/ArrayList") (n := "DEFAULTCAPACITY_EMPTY_ELEMENTDATA") (d := "[Ljava/lang/Object;") (hts _ (List.mem_of_getElem? (i := 1063) (by decide +kernel))) (hts _ (List.mem_of_getElem? (i := 71) (by decide +kernel))) (by rw [a4]; exact e_emp) hA'
    · exact va_Zof (C := "java/lang/Integer$IntegerCache") (n := "cache") (d := "[Ljava/lang/Integer;") (hts _ (List.mem_of_getElem? (i := 1250) (by decide +kernel))) (hts _ (List.mem_of_getElem? (i := 80) (by decide +kernel))) (by rw [a5]; exact e_cac) hA'
    · exact va_Zof (C := "java/lang/Integer$IntegerCache") (n := "high") (d := "I") (hts _ (List.mem_of_getElem? (i := 1248) (by decide +kernel))) (hts _ (List.mem_of_getElem? (i := 80) (by decide +kernel))) (va_eqi (hs _ (by decide +kernel))) hA'
    · exact va_Zof (C := "java/lang/String") (n := "COMPACT_STRINGS") (d := "Z") (hts _ (List.mem_of_getElem? (i := 729) (by decide +kernel))) (hts _ (List.mem_of_getElem? (i := 92) (by decide +kernel))) (va_eqi (hs _ (by decide +kernel))) hA'
    · exact va_Zof (C := "java/lang/Integer") (n := "DigitOnes") (d := "[B") (hts _ (List.mem_of_getElem? (i := 810) (by decide +kernel))) (hts _ (List.mem_of_getElem? (i := 79) (by decide +kernel))) (by rw [a6]; exact e_one) hA'
    · exact va_Zof (C := "java/lang/Integer") (n := "DigitTens") (d := "[B") (hts _ (List.mem_of_getElem? (i := 812) (by decide +kernel))) (hts _ (List.mem_of_getElem? (i := 79) (by decide +kernel))) (by rw [a7]; exact e_ten) hA'
    · exact va_Zof (C := "jdk/internal/util/Preconditions") (n := "SIOOBE_FORMATTER") (d := "Ljava/util/function/BiFunction;") (hts _ (List.mem_of_getElem? (i := 826) (by decide +kernel))) (hts _ (List.mem_of_getElem? (i := 88) (by decide +kernel))) (by unfold zfv; rw [zE]; exact e_sio) hA'
  · exact vx_Zqof (hts _ (List.mem_of_getElem? (i := 332) (by decide +kernel))) (hts _ (List.mem_of_getElem? (i := 73) (by decide +kernel))) (hs _ (by decide +kernel)) hA'
  · exact vx_Zqof (hts _ (List.mem_of_getElem? (i := 334) (by decide +kernel))) (hts _ (List.mem_of_getElem? (i := 73) (by decide +kernel))) (hs _ (by decide +kernel)) hA'
  · intro t ht
    match t, ht with
    | 0, _ => exact va_AO.of (hts _ (List.mem_of_getElem? (i := 1308) (by decide +kernel)))
    | 1, _ => exact va_AO.of (hts _ (List.mem_of_getElem? (i := 104) (by decide +kernel)))
    | 2, _ => exact va_AO.of (hts _ (List.mem_of_getElem? (i := 1044) (by decide +kernel)))
  · intro q hq
    simp only [zstr, List.mem_cons, List.not_mem_nil, or_false] at hq
    rcases hq with rfl | rfl | rfl
    · rw [a20]; exact vk_R.of (own := "Windsparlour") (k := 320) (tx := "ESWNRGH") (hts _ (List.mem_of_getElem? (i := 888) (by decide +kernel))) e_320
    · rw [a21]; exact vk_R.of (own := "WindsparlourModel") (k := 295) (tx := "ESWNRGH") (hts _ (List.mem_of_getElem? (i := 1558) (by decide +kernel))) e_295
    · rw [a22]; exact vk_R.of (own := "WindsparlourModel") (k := 290) (tx := "") (hts _ (List.mem_of_getElem? (i := 1555) (by decide +kernel))) e_290
  · intro own k tx hm
    have h1 := hts _ hm
    have hcur : ∃ cur, s.vm.findClass own = some cur := by
      have h2 := h1
      simp only [Cond.before, Cond.holds, Cond.value] at h2
      cases hc : s.vm.findClass own with
      | none => simp [hc] at h2
      | some cur => exact ⟨cur, rfl⟩
    obtain ⟨cur, hcur⟩ := hcur
    obtain ⟨-, -, -, a, -, -, -, -, -, e⟩ := Cond.stringRef_spec hcur h1
    exact ⟨a, vk_R.of h1 e⟩
  · intro q hq
    simp only [zfw, List.mem_cons, List.not_mem_nil, or_false] at hq
    rcases hq with rfl | rfl
    · exact va_Fw.of (hts _ (List.mem_of_getElem? (i := 1351) (by decide +kernel))) (hts _ (List.mem_of_getElem? (i := 1350) (by decide +kernel))) (hts _ (List.mem_of_getElem? (i := 1356) (by decide +kernel))) (hts _ (List.mem_of_getElem? (i := 1354) (by decide +kernel))) (hts _ (List.mem_of_getElem? (i := 1352) (by decide +kernel)))
    · exact va_Fw.of (hts _ (List.mem_of_getElem? (i := 1361) (by decide +kernel))) (hts _ (List.mem_of_getElem? (i := 1360) (by decide +kernel))) (hts _ (List.mem_of_getElem? (i := 1365) (by decide +kernel))) (hts _ (List.mem_of_getElem? (i := 1363) (by decide +kernel))) (hts _ (List.mem_of_getElem? (i := 1352) (by decide +kernel)))
  · intro q hq
    simp only [znc, List.mem_cons, List.not_mem_nil, or_false] at hq
    rcases hq with rfl | rfl | rfl
    · exact va_Nc.of (hs _ (by decide +kernel))
    · exact va_Nc.of (hs _ (by decide +kernel))
    · exact va_Nc.of (hs _ (by decide +kernel))
  · refine ⟨fun a t ht hk => ?_, fun a t ht hk => ?_, fun a c C T NN hk hc => ?_⟩
    · rw [zE] at hk ⊢
      have hk' : zK0 a = 200 + t := hk
      have ha : a = 0 ∨ a = 1 ∨ a = 2 ∨ a = 3 ∨ a = 6 ∨ a = 7 ∨ a = 40 ∨ a = 41 ∨ a = 42 := by
        unfold zK0 at hk'
        repeat' split at hk'
        all_goals omega
      rcases ha with rfl | rfl | rfl | rfl | rfl | rfl | rfl | rfl | rfl
      · have e : t = 0 := by have : (200 : Nat) = 200 + t := hk'; omega
        subst e
        rw [a0]
        obtain ⟨scr, h1, h2, h3, h4, h5⟩ := hX
        exact ⟨scr, h1, h2, h3, Nat.le_of_eq h4.symm, by first | (rw [h4]; done) | (rw [h4]; rfl), h5, hA' b hbl⟩
      · have e : t = 0 := by have : (200 : Nat) = 200 + t := hk'; omega
        subst e
        rw [a1]; exact h_low
      · have e : t = 0 := by have : (200 : Nat) = 200 + t := hk'; omega
        subst e
        rw [a2]; exact h_nxt
      · have e : t = 0 := by have : (200 : Nat) = 200 + t := hk'; omega
        subst e
        rw [a3]; exact h_thd
      · have e : t = 1 := by have : (201 : Nat) = 200 + t := hk'; omega
        subst e
        rw [a6]; exact h_one
      · have e : t = 1 := by have : (201 : Nat) = 200 + t := hk'; omega
        subst e
        rw [a7]; exact h_ten
      · have e : t = 1 := by have : (201 : Nat) = 200 + t := hk'; omega
        subst e
        rw [a40]; exact h_320
      · have e : t = 1 := by have : (201 : Nat) = 200 + t := hk'; omega
        subst e
        rw [a41]; exact h_295
      · have e : t = 1 := by have : (201 : Nat) = 200 + t := hk'; omega
        subst e
        rw [a42]; exact h_290
    · rw [zE] at hk ⊢
      have hk' : zK0 a = 210 + t := hk
      have ha : a = 4 ∨ a = 5 := by
        unfold zK0 at hk'
        repeat' split at hk'
        all_goals omega
      rcases ha with rfl | rfl
      · have e : t = 0 := by have : (210 : Nat) = 210 + t := hk'; omega
        subst e
        rw [a4]
        obtain ⟨cell, h1, h2, h3, h4, h5, h6, h7⟩ := h_emp
        exact ⟨cell, h1, h2, h3, h4, h5, fun j hj => absurd hj (Nat.not_lt_zero _), h7⟩
      · have e : t = 3 := by have : (213 : Nat) = 210 + t := hk'; omega
        subst e
        rw [a5]
        obtain ⟨cell, h1, h2, h3, h4, h5, h6, h7⟩ := h_cac
        refine ⟨cell, h1, h2, h3, h4, h5, fun j hj => ?_, h7⟩
        have hj' : j < 256 := hj
        have e9 : mQ (zM0 n xs o) 5 j = some (100 + j) := by show zQ0 o 5 j = _; unfold zQ0; rw [if_pos ⟨rfl, hj'⟩]
        show cell.slots[j]? = some (va_rf ((mQ (zM0 n xs o) 5 j).map (zad L)))
        rw [h6 j hj', e9]
        show _ = some (Value.ref (zad L (100 + j)))
        rw [aad j hj']
    · rw [zE] at hk ⊢
      have hk' : zK0 a = 300 + c := hk
      have ha : (a = 20 ∨ a = 21 ∨ a = 22) ∧ c = 1 ∨ (100 ≤ a ∧ a < 356) ∧ c = 3 := by
        unfold zK0 at hk'
        repeat' split at hk'
        all_goals omega
      rcases ha with ⟨ha, rfl⟩ | ⟨ha, rfl⟩
      · cases hc
        rcases ha with rfl | rfl | rfl
        · refine ⟨by rw [a20]; exact o_320, fun k v hm hv => ?_⟩
          have hm' : k = 0 ∨ k = 1 := by simpa [zxk] using hm
          rcases hm' with rfl | rfl
          · cases hv
            show va_OF "java/lang/String" "value" "[B" (.ref (zad L 40)) (zad L 20) _ _ _
            rw [a20, a40]; exact g_320
          · cases hv
            show va_OF "java/lang/String" "coder" "B" (.int 0) (zad L 20) _ _ _
            rw [a20]; exact f_320
        · refine ⟨by rw [a21]; exact o_295, fun k v hm hv => ?_⟩
          have hm' : k = 0 ∨ k = 1 := by simpa [zxk] using hm
          rcases hm' with rfl | rfl
          · cases hv
            show va_OF "java/lang/String" "value" "[B" (.ref (zad L 41)) (zad L 21) _ _ _
            rw [a21, a41]; exact g_295
          · cases hv
            show va_OF "java/lang/String" "coder" "B" (.int 0) (zad L 21) _ _ _
            rw [a21]; exact f_295
        · refine ⟨by rw [a22]; exact o_290, fun k v hm hv => ?_⟩
          have hm' : k = 0 ∨ k = 1 := by simpa [zxk] using hm
          rcases hm' with rfl | rfl
          · cases hv
            show va_OF "java/lang/String" "value" "[B" (.ref (zad L 42)) (zad L 22) _ _ _
            rw [a22, a42]; exact g_290
          · cases hv
            show va_OF "java/lang/String" "coder" "B" (.int 0) (zad L 22) _ _ _
            rw [a22]; exact f_290
      · cases hc
        obtain ⟨i, rfl⟩ : ∃ i, a = 100 + i := ⟨a - 100, by omega⟩
        have hi : i < 256 := by omega
        rw [aad i hi]
        refine ⟨h_ad.1 i hi, fun k v hm hv => ?_⟩
        have hm' : k = 0 := by simpa [zxk] using hm
        subst hm'
        cases hv
        have e9 : mI (zM0 n xs o) (32 * 3 + 0) (100 + i) = vb_c i := by
          show zI0 96 (100 + i) = _
          unfold zI0
          rw [if_pos ⟨rfl, by omega, by omega⟩]
          exact congrArg vb_c (by omega)
        show va_OF "java/lang/Integer" "value" "I" (.int (mI (zM0 n xs o) (32 * 3 + 0) (100 + i))) (ad i) _ _ _
        rw [e9]
        exact h_ad.2 i hi
theorem zvH0 {L : zL} {s : State} {n : Nat} {xs : Nat → Int32} {o : Option Nat} (z1 : zB L = s.heap.size) (zE : zEx L = zM0 n xs o) : vH L (zM0 n xs o) s.heap := by
  have hk : ∀ a, mK (zM0 n xs o) a = zK0 a := fun a => rfl
  refine ⟨⟨by show s.heap.size + 1000 = zB L + 1000; rw [z1], Nat.le_refl _⟩, fun a ha => ?_, fun a h1 h2 => ?_, fun a c h1 h2 h3 => ?_, fun a t h1 h2 => ?_, fun a t h1 h2 => ?_, fun a h => by rw [zE]; exact ⟨rfl, rfl, rfl, rfl, fun c => rfl⟩⟩
  · have h9 : 1000 ≤ a := ha
    rw [hk]
    unfold zK0
    repeat' split
    all_goals omega
  all_goals
    rw [hk] at *
    unfold zK0 at *
    exfalso
    revert h1 h2
    repeat' split
    all_goals omega
theorem State.hasRoom_less {s : State} {pl : Platform} {r r' : Room} (h : s.hasRoom pl r = true) (h1 : r'.frames ≤ r.frames) (h2 : r'.locals ≤ r.locals) (h3 : r'.cells ≤ r.cells) (h4 : r'.slots ≤ r.slots) : s.hasRoom pl r' = true := by
  simp only [State.hasRoom, Bool.and_eq_true, decide_eq_true_eq] at h ⊢
  obtain ⟨⟨⟨⟨q1, q2, q3, q4, q5, q6⟩, q7⟩, q8⟩, q9⟩ := h
  exact ⟨⟨⟨⟨by omega, by omega, by omega, by omega, by omega, q6⟩, by omega⟩, by omega⟩, q9⟩
theorem zWroom {p : Program} {l : Launch} {e : Env} {R R' : Room} {s : State} {m : MethodId} {args : Array Value} {below : List Frame} {meth : Method} {c : Code} {H : Heap} {locs : List Loc} {cells slots : Nat} {Q : State → Prop} {g : JFrame} (h1 : R'.frames ≤ R.frames) (h2 : R'.locals ≤ R.locals) (h3 : R'.cells ≤ R.cells) (h4 : R'.slots ≤ R.slots) (k : W p l e R' s m args below meth c H locs cells slots Q g) : W p l e R s m args below meth c H locs cells slots Q g := fun T hT X =>
  k T hT { X with room := State.hasRoom_less X.room h1 h2 h3 h4 }
theorem lw_retR {p : Program} {l : Launch} {e : Env} {R : Room} {s : State} {m : MethodId} {below : List Frame} {meth : Method} {c : Code} {b : Nat} {d0 : Drawn} (hd0 : s.drawn.sameBut d0 lw_cs) (hx : p.tables.exec = Jvm.exec) (hb : c.code = code) (hr : meth.sig.returnType = ret) (hlocks : meth.locks = false) {pc : Nat} {H : Heap} {ls : Array Slot} (hdg : decode code pc = .ok (.ireturn, 1)) : W p l e R (s.setDrawn d0) m #[Value.ref b] below meth c H [] 601024 7293034 (lw_Z below #[Value.ref b] s) (F0 m pc ls [.int 1]) := by
  intro T hT X
  obtain ⟨fs, hret, hrun, hended, hW, hframe⟩ := X.leave (v := some (.int 1)) (hlocks := hlocks) (fun h => by rw [hr] at h; cases h)
  have hmeth' : T.vm.method? m = some meth := X.method'
  refine ⟨T.setFrames fs, ?_, .returned (some (.int 1)), hrun, hended, rfl, lw_closed hd0 ⟨_, rfl⟩ hW hframe⟩
  jvm_step X.here [X.here.top, hx, hb, hdg, hmeth', hr, ret, narrow_b1]
  (try refine ⟨rfl, ?_⟩); (try refine ⟨rfl, ?_⟩)
  first | (intro acts; rw [hret _ acts rfl rfl rfl]) | rw [hret _ _ rfl rfl rfl]
  exact Steps.refl _
/-- the whole run out of the pure function of the law -/
theorem zwhole {p : Program} {e : Env} {s : State} {m : MethodId} {below : List Frame} {meth : Method} {c : Code} (l : Launch) (hflags : l.flags = flags0) {b n : Nat} {xs : Nat → Int32} (hp : ∀ o, ∃ M' : zM, f_L_law 0 (zM0 n xs o) = some ((), M') ∧ mX M' ≤ 1000 + 601024 ∧ mS M' ≤ 7293034) (C0 : lw_At p s m meth c b n xs) : W p l e room_1 s m #[Value.ref b] below meth c s.heap [] 0 0 (lw_Z below #[Value.ref b] s) (entryFrame m ([Value.ref b] : List Value).toArray 8) := by
  obtain ⟨L, o, z1, a0, zE, hT⟩ := zstart C0
  obtain ⟨M', hf, hx, hs⟩ := hp o
  have hH := zvH0 z1 zE
  obtain ⟨c1, c2, c3, c4, c5, c6, c7, c8, c9, c10, c11, c12⟩ := C0
  have hll : l.stackTraces = false := by
    unfold Launch.stackTraces
    rw [hflags]
    decide
  subst a0
  have key := s_L_law_0 (L := L) (X := (p, l, e, zrm 135 (mX M' - 1000) (mS M'), s, m, #[Value.ref (zad L 0)], below, meth, c)) (M0 := zM0 n xs o) (N := (mX M', mS M')) (Q := lw_Z below #[Value.ref (zad L 0)] s) (r := ((), M')) (fun {M pc ls} hM hd => by
    rw [show M = M' from hM]
    refine ⟨⟨Nat.le_refl _, Nat.le_refl _⟩, fun g h1 h2 H locs la hH1 hS hL => ?_⟩
    refine va_forget (fun q hq => by have := hS.2.2 q hq; rw [← z1]; exact this) ?_
    refine W.widen (k := 601024) (n := 7293034) (by show mX M' - 1000 ≤ 601024; omega) (by show mS M' - 0 ≤ 7293034; omega) ?_
    exact lw_retR (d0 := s.drawn) (Drawn.sameBut.refl s.drawn lw_cs) c1 c2 c3 c9 hd) (a0 := 0) hf
  have key2 := key.2 ⟨c1, c2, c4, c5, fun w hw => c6 w (zw_tbl hw), c9, c3, c11, by show zrm 135 (mX M' - 1000) (mS M') = zrm 135 (mX M' - 1000) (mS M' - 0); rw [Nat.sub_zero], hT, hll, c12⟩ (Nat.le_refl _) (Nat.le_refl _) s.heap [] _ hH va_S.rf (lv_entry [Value.ref (zad L 0)] (n := 8) (Nat.le_of_ble_eq_true rfl))
  refine zWroom (R' := zrm 135 (mX M' - 1000) (mS M')) (Nat.le_of_ble_eq_true rfl) (Nat.le_of_ble_eq_true rfl) (by show mX M' - 1000 ≤ 601024; omega) hs ?_
  rw [lg_entry_eq]
  simp only [Nat.sub_self] at key2
  exact key2
