/-! ===== THE MEMORY of the whole run: fields by key (32 * kind + slot) and place, rows by place; places below 1000 lie ahead of the law ===== -/
abbrev zM : Type := (Nat → Nat) × (Nat → Nat) × (Nat → Nat → Int32) × (Nat → Nat → Int64) × (Nat → Nat → UInt64) × (Nat → Nat → Option Nat) × (Nat → Nat → Int32) × (Nat → Nat → Option Nat) × Nat × Nat
def mK (M : zM) : Nat → Nat := M.1
def mL (M : zM) : Nat → Nat := M.2.1
def mI (M : zM) : Nat → Nat → Int32 := M.2.2.1
def mJ (M : zM) : Nat → Nat → Int64 := M.2.2.2.1
def mD (M : zM) : Nat → Nat → UInt64 := M.2.2.2.2.1
def mR (M : zM) : Nat → Nat → Option Nat := M.2.2.2.2.2.1
def mA (M : zM) : Nat → Nat → Int32 := M.2.2.2.2.2.2.1
def mQ (M : zM) : Nat → Nat → Option Nat := M.2.2.2.2.2.2.2.1
def mX (M : zM) : Nat := M.2.2.2.2.2.2.2.2.1
def mS (M : zM) : Nat := M.2.2.2.2.2.2.2.2.2
def u1 {α : Type} (f : Nat → α) (a : Nat) (v : α) : Nat → α := fun j => if j = a then v else f j
def u2 {α : Type} (f : Nat → Nat → α) (k a : Nat) (v : α) : Nat → Nat → α := fun i j => if i = k ∧ j = a then v else f i j
/-- a column of all keys -/
def uc {α : Type} (f : Nat → Nat → α) (a : Nat) (v : α) : Nat → Nat → α := fun i j => if j = a then v else f i j
/-- a row of a place -/
def ur {α : Type} (f : Nat → Nat → α) (a : Nat) (g : Nat → α) : Nat → Nat → α := fun i j => if i = a then g j else f i j
def sI (M : zM) (k a : Nat) (v : Int32) : zM := (mK M, mL M, u2 (mI M) k a v, mJ M, mD M, mR M, mA M, mQ M, mX M, mS M)
def sJ (M : zM) (k a : Nat) (v : Int64) : zM := (mK M, mL M, mI M, u2 (mJ M) k a v, mD M, mR M, mA M, mQ M, mX M, mS M)
def sD (M : zM) (k a : Nat) (v : UInt64) : zM := (mK M, mL M, mI M, mJ M, u2 (mD M) k a v, mR M, mA M, mQ M, mX M, mS M)
def sR (M : zM) (k a : Nat) (v : Option Nat) : zM := (mK M, mL M, mI M, mJ M, mD M, u2 (mR M) k a v, mA M, mQ M, mX M, mS M)
def sA (M : zM) (a i : Nat) (v : Int32) : zM := (mK M, mL M, mI M, mJ M, mD M, mR M, u2 (mA M) a i v, mQ M, mX M, mS M)
def sAr (M : zM) (a : Nat) (g : Nat → Int32) : zM := (mK M, mL M, mI M, mJ M, mD M, mR M, ur (mA M) a g, mQ M, mX M, mS M)
def sQ (M : zM) (a i : Nat) (v : Option Nat) : zM := (mK M, mL M, mI M, mJ M, mD M, mR M, mA M, u2 (mQ M) a i v, mX M, mS M)
def sQr (M : zM) (a : Nat) (g : Nat → Option Nat) : zM := (mK M, mL M, mI M, mJ M, mD M, mR M, mA M, ur (mQ M) a g, mX M, mS M)
/-- a new object of kind c, of N slots -/
def nO (M : zM) (c N : Nat) : zM := (u1 (mK M) (mX M) c, mL M, uc (mI M) (mX M) 0, uc (mJ M) (mX M) 0, uc (mD M) (mX M) 0, uc (mR M) (mX M) none, mA M, mQ M, mX M + 1, mS M + N)
/-- a new row of numbers (kind 100 + t), of references (kind 110 + t) -/
def nA (M : zM) (t n : Nat) : zM := (u1 (mK M) (mX M) (100 + t), u1 (mL M) (mX M) n, mI M, mJ M, mD M, mR M, ur (mA M) (mX M) (fun _ => 0), mQ M, mX M + 1, mS M + n)
def nQ (M : zM) (t n : Nat) : zM := (u1 (mK M) (mX M) (110 + t), u1 (mL M) (mX M) n, mI M, mJ M, mD M, mR M, mA M, ur (mQ M) (mX M) (fun _ => none), mX M + 1, mS M + n)
/-- a cell that nobody will look at (an exception) -/
def nE (M : zM) : zM := (mK M, mL M, mI M, mJ M, mD M, mR M, mA M, mQ M, mX M + 1, mS M + 6)
/-! what instructions read and write -/
def gI (c k : Nat) (M : zM) (a : Nat) : Option Int32 := if mK M a = c then some (mI M (32 * c + k) a) else none
def gJ (c k : Nat) (M : zM) (a : Nat) : Option Int64 := if mK M a = c then some (mJ M (32 * c + k) a) else none
def gD (c k : Nat) (M : zM) (a : Nat) : Option UInt64 := if mK M a = c then some (mD M (32 * c + k) a) else none
def gR (c k : Nat) (M : zM) (a : Nat) : Option Nat := if mK M a = c then mR M (32 * c + k) a else none
/-- of a class some of whose objects lie ahead of the law -/
def hI (c k : Nat) (M : zM) (a : Nat) : Option Int32 := if mK M a = c ∨ mK M a = 300 + c then some (mI M (32 * c + k) a) else none
def hR (c k : Nat) (M : zM) (a : Nat) : Option Nat := if mK M a = c ∨ mK M a = 300 + c then mR M (32 * c + k) a else none
def pI (c k : Nat) (M : zM) (a : Nat) (v : Int32) : Option zM := if mK M a = c then some (sI M (32 * c + k) a v) else none
def pZ (c k : Nat) (M : zM) (a : Nat) (v : Int32) : Option zM := if mK M a = c ∧ (v = 0 ∨ v = 1) then some (sI M (32 * c + k) a v) else none
def pJ (c k : Nat) (M : zM) (a : Nat) (v : Int64) : Option zM := if mK M a = c then some (sJ M (32 * c + k) a v) else none
def pD (c k : Nat) (M : zM) (a : Nat) (v : UInt64) : Option zM := if mK M a = c then some (sD M (32 * c + k) a v) else none
def pR (c k : Nat) (M : zM) (a v : Nat) : Option zM := if mK M a = c then some (sR M (32 * c + k) a (some v)) else none
/-- an index that isn't within n -/
abbrev oob (i : Int32) (n : Nat) : Prop := i < 0 ∨ n ≤ i.toNatClampNeg
def lA (t : Nat) (M : zM) (a : Nat) (i : Int32) : Option Int32 := if (mK M a = 100 + t ∨ mK M a = 200 + t) ∧ ¬ oob i (mL M a) then some (mA M a i.toNatClampNeg) else none
def tA (M : zM) (a : Nat) (i v : Int32) : Option zM := if mK M a = 100 ∧ ¬ oob i (mL M a) then some (sA M a i.toNatClampNeg v) else none
def tB (M : zM) (a : Nat) (i v : Int32) : Option zM := if mK M a = 101 ∧ ¬ oob i (mL M a) then some (sA M a i.toNatClampNeg (vp_nar .byte v)) else none
def tZ (M : zM) (a : Nat) (i v : Int32) : Option zM := if mK M a = 102 ∧ ¬ oob i (mL M a) then some (sA M a i.toNatClampNeg (vp_nar .boolean v)) else none
def lQ (t : Nat) (M : zM) (a : Nat) (i : Int32) : Option Nat := if ((mK M a = 110 + t ∧ t < 3) ∨ mK M a = 210 + t) ∧ ¬ oob i (mL M a) then mQ M a i.toNatClampNeg else none
def tQ (t : Nat) (M : zM) (a : Nat) (i : Int32) (v : Option Nat) : Option zM := if mK M a = 110 + t ∧ ¬ oob i (mL M a) then some (sQ M a i.toNatClampNeg v) else none
/-- the kinds of rows -/
abbrev zrow (k : Nat) : Prop := (100 ≤ k ∧ k < 103) ∨ (200 ≤ k ∧ k < 203) ∨ (110 ≤ k ∧ k < 113) ∨ (210 ≤ k ∧ k < 214)
def gL (M : zM) (a : Nat) : Option Int32 := if zrow (mK M a) then some (nI (mL M a)) else none
theorem ob {α β : Type} {x : Option α} {f : α → Option β} {r : β} (h : x.bind f = some r) : ∃ a, x = some a ∧ f a = some r := by
  cases x with
  | none => cases h
  | some a => exact ⟨a, rfl, h⟩
theorem oi {c : Prop} [Decidable c] {α : Type} {x y : Option α} {r : α} (h : (if c then x else y) = some r) : (c → x = some r) ∧ (¬ c → y = some r) :=
  ⟨fun q => by rw [if_pos q] at h; exact h, fun q => by rw [if_neg q] at h; exact h⟩
/-! ===== what a heap is to the memory ===== -/
/-- the run's constants: the size of the heap ahead of the law, the address of each place, the classes' numbers, the rows' classes -/
abbrev zL : Type := Nat × (Nat → Nat) × va_G × (Nat → ClassId) × zM
def zB (L : zL) : Nat := L.1
def zad (L : zL) : Nat → Nat := L.2.1
def zD (L : zL) : va_G := L.2.2.1
def zc (L : zL) : Nat → ClassId := L.2.2.2.1
/-- what lies ahead of the law and is read by the code, as a memory -/
def zEx (L : zL) : zM := L.2.2.2.2
/-- what a row of references is a row of -/
def zet (t : Nat) : String := match t with
  | 0 => "java/lang/Object"
  | 1 => "Windsparlour$Seat"
  | 2 => "WindsparlourModel$Player"
  | _ => "java/lang/Integer"
def zpt (t : Nat) : FieldType := match t with
  | 0 => .int
  | 1 => .byte
  | _ => .boolean
def zty (L : zL) : List (ClassId × FieldType) := [(zc L 0, .int), (zc L 1, .byte), (zc L 2, .boolean), (zc L 10, .object "java/lang/Object"), (zc L 11, .object "Windsparlour$Seat"), (zc L 12, .object "WindsparlourModel$Player")]
def zrf (L : zL) (r : Option Nat) : Value := va_rf (r.map (zad L))
def zV (L : zL) (M : zM) (t k a : Nat) : Value := match t with
  | 0 => .int (mI M k a)
  | 1 => .long (mJ M k a)
  | 2 => zrf L (mR M k a)
  | _ => .double (mD M k a)
def zFs (L : zL) (M : zM) (c a : Nat) : List Value := (zlay c).mapIdx (fun k t => zV L M t (32 * c + k) a)
def zA (L : zL) : Nat → Prop := fun q => zB L ≤ q
def zO (L : zL) : Prop := ∀ a, (1000 ≤ a → zad L a + 1000 = zB L + a) ∧ (a < 1000 → a ≠ 8 → zad L a < zB L)
def vH (L : zL) (M : zM) (H : Heap) : Prop :=
  (H.size + 1000 = zB L + mX M ∧ 1000 ≤ mX M) ∧ (∀ a, mX M ≤ a → mK M a = 0) ∧ (∀ a, 0 < mK M a → mK M a < 200 → 1000 ≤ a) ∧
  (∀ a c, mK M a = c → 0 < c → c < 100 → va_at (zD L) vwCl (zad L a, .inr (c - 1, zFs L M c a)) H) ∧
  (∀ a t, t < 3 → mK M a = 100 + t → va_at (zD L) vwCl (zad L a, .inl (zc L t, mL M a, .inl (mA M a))) H) ∧
  (∀ a t, t < 3 → mK M a = 110 + t → va_at (zD L) vwCl (zad L a, .inl (zc L (10 + t), mL M a, .inr (.inr (.inr (.inr (fun i => (mQ M a i).map (zad L))))))) H) ∧
  (∀ a, 200 ≤ mK M a → mK M a = mK (zEx L) a ∧ mL M a = mL (zEx L) a ∧ mA M a = mA (zEx L) a ∧ mQ M a = mQ (zEx L) a ∧ ∀ c, zFs L M c a = zFs L (zEx L) c a)
/-! ===== what stays of the machine: classes, links, statics, texts ===== -/
def zisp : Cond → Bool
  | .fieldLinkNest .. | .methodLinkNest .. | .castable .. | .declares .. => true
  | _ => false
def zsp : List Cond := lw_tbl.filter zisp
/-- a static of which only 'a reference or null' is said -/
def zfv (L : zL) : Option Nat := mQ (zEx L) 999 0
def zst (L : zL) : List (String × String × String × Value) := [("Windsparlour$Parting", "AT_LOW", "[I", .ref (zad L 1)), ("Windsparlour$Parting", "AT_NEXT", "[I", .ref (zad L 2)), ("Windsparlour$Parting", "AT_THIRD", "[I", .ref (zad L 3)), ("java/util/ArrayList", "DEFAULTCAPACITY_EMPTY_ELEMENTDATA", "[Ljava/lang/Object;", .ref (zad L 4)), ("java/lang/Integer$IntegerCache", "cache", "[Ljava/lang/Integer;", .ref (zad L 5)), ("java/lang/Integer$IntegerCache", "high", "I", .int 127), ("java/lang/String", "COMPACT_STRINGS", "Z", .int 1), ("java/lang/Integer", "DigitOnes", "[B", .ref (zad L 6)), ("java/lang/Integer", "DigitTens", "[B", .ref (zad L 7)), ("jdk/internal/util/Preconditions", "SIOOBE_FORMATTER", "Ljava/util/function/BiFunction;", va_rf (zfv L))]
/-- texts that the code looks into: by class, entry, text, address -/
def zstr (L : zL) : List (String × Nat × String × Nat) := [("Windsparlour", 320, "ESWNRGH", zad L 20), ("WindsparlourModel", 295, "ESWNRGH", zad L 21), ("WindsparlourModel", 290, "", zad L 22)]
/-- methods that are called by an interface's name -/
def zfw : List (String × MethodName × MethodName) := [(RJx35411, ⟨"java/util/Iterator", "hasNext", "()Z"⟩, ⟨RJx35411, "hasNext", "()Z"⟩), (RJx35411, ⟨"java/util/Iterator", "next", "()Ljava/lang/Object;"⟩, ⟨RJx35411, "next", "()Ljava/lang/Object;"⟩)]
/-- exceptions that a handler for another lets by -/
def znc : List (String × String) := [("java/lang/IllegalStateException", "java/lang/IllegalArgumentException"), ("java/lang/IllegalStateException", "java/lang/IndexOutOfBoundsException"), ("java/lang/IllegalArgumentException", "java/lang/IndexOutOfBoundsException")]
/-- the fields that are read of objects ahead of the law -/
def zxk (c : Nat) : List Nat := match c with
  | 1 => [0, 1]
  | 3 => [0]
  | _ => []
/-- what lies ahead of the law: rows and objects that nobody writes -/
def zXT (L : zL) (U : State) : Prop :=
  (∀ a t, t < 3 → mK (zEx L) a = 200 + t → va_T (zpt t) (zad L a) (mL (zEx L) a) (fun j => .int (mA (zEx L) a j)) (zA L) U U.heap) ∧
  (∀ a t, t < 4 → mK (zEx L) a = 210 + t → va_T (.object (zet t)) (zad L a) (mL (zEx L) a) (fun j => va_rf ((mQ (zEx L) a j).map (zad L))) (zA L) U U.heap) ∧
  (∀ a c C T NN, mK (zEx L) a = 300 + c → vwCl[c - 1]? = some (C, T, NN) → va_O C (zad L a) (zA L) U U.heap ∧ ∀ k v, k ∈ zxk c → (zFs L (zEx L) c a)[k]? = some v → va_OF (T k).1 (T k).2.1 (T k).2.2.1 v (zad L a) (zA L) U U.heap)
theorem zXT.moved {L : zL} {s U : State} (h : zXT L s) (hW : s.WarmedH U.vm) (hq : ∀ q : Nat, q < s.heap.size → ¬ zA L q → U.heap[q]? = s.heap[q]?) : zXT L U :=
  ⟨fun a t q1 q2 => va_T.moved hW.alike ((h.1 a t q1 q2).kept hq), fun a t q1 q2 => va_T.moved hW.alike ((h.2.1 a t q1 q2).kept hq), fun a c C T NN q1 q2 => ⟨va_O.moved hW.alike (((h.2.2 a c C T NN q1 q2).1).kept hq), fun k v q3 q4 => va_OF.moved hW.alike (((h.2.2 a c C T NN q1 q2).2 k v q3 q4).kept hq)⟩⟩
def vT (L : zL) (U : State) : Prop :=
  zO L ∧ va_K (zD L) vwCl (zty L) U ∧ (∀ w ∈ zsp, va_Nw w U) ∧ (∀ q ∈ zst L, va_Z q.1 q.2.1 q.2.2.1 q.2.2.2 (zA L) U U.heap) ∧
  vx_Zq Bundle.tN "UNASSIGNED_STACK" Bundle.steD (zA L) U U.heap ∧ vx_Zq Bundle.tN "SUPPRESSED_SENTINEL" Bundle.listD (zA L) U U.heap ∧ zB L ≤ U.heap.size ∧ (∀ t, t < 3 → va_AO (zet t) U) ∧ (∀ q ∈ zstr L, vk_R q.1 q.2.1 q.2.2.1 q.2.2.2 U) ∧ (∀ own k tx, Cond.stringRef own k tx ∈ lw_tbl → ∃ sa, vk_R own k tx sa U) ∧ (∀ q ∈ zfw, va_Fw q.1 q.2.1 q.2.2 U) ∧ va_Mi "[Ljava/lang/Object;" (zad L 8) U ∧ (∀ q ∈ znc, va_Nc q.1 q.2 U) ∧ zXT L U
theorem zfw_mh : ∀ q ∈ zfw, q.2.1.cls ≠ "java/lang/invoke/MethodHandle" ∧ q.2.1.cls ≠ "java/lang/invoke/VarHandle" := by decide +kernel
theorem zsp_moved {w : Cond} {s U : State} (hw : zisp w = true) (hW : s.WarmedH U.vm) (h : va_Nw w s) : va_Nw w U := by
  cases w <;> first | exact absurd hw (by decide) | exact va_Nw.warmF hW h | exact va_Nw.warmM hW h | exact va_Nw.warmC hW h | exact va_Nw.warmD hW h | (simp [zisp] at hw)
theorem vT.moved {L : zL} {s U : State} (h : vT L s) (hW : s.WarmedH U.vm) (hz : s.heap.size ≤ U.heap.size) (hq : ∀ q : Nat, q < s.heap.size → ¬ zA L q → U.heap[q]? = s.heap[q]?) : vT L U := by
  obtain ⟨h1, h2, h3, h4, h5, h6, h7, h8, h9, h10, h11, h12, h13, h14⟩ := h
  exact ⟨h1, h2.moved hW.alike, fun w hw => zsp_moved (List.mem_filter.mp hw).2 hW (h3 w hw), fun q hm => va_Z.moved hW.alike ((h4 q hm).kept hq), vx_Zq.moved hW.alike (h5.kept hq), vx_Zq.moved hW.alike (h6.kept hq), Nat.le_trans h7 hz, fun t ht => va_AO.moved hW.alike (h8 t ht), fun q hm => vk_R.warm hW (h9 q hm), fun own k tx hm => by
    obtain ⟨sa, h⟩ := h10 own k tx hm
    exact ⟨sa, vk_R.warm hW h⟩, fun q hm => va_Fw.moved (zfw_mh q hm) hW.alike (h11 q hm), va_Mi.moved hW.alike h12, fun q hm => va_Nc.moved hW.alike (h13 q hm), h14.moved hW hq⟩
/-! ===== THE JUDGEMENT: from this frame over this memory the method goes on to its end ===== -/
abbrev zX : Type := Program × Launch × Env × Room × State × MethodId × Array Value × List Frame × Method × Code
def zrm (d k n : Nat) : Room := { frames := d, cells := k, slots := n, locals := 64 * d }
def vG (L : zL) (X : zX) (y : MethodName) (cc : ByteArray) (nL : Nat) (ret : Option FieldType) (dd : Nat) (M0 : zM) (N : Nat × Nat) : Prop :=
  X.1.tables.exec = Jvm.exec ∧ X.2.2.2.2.2.2.2.2.2.code = cc ∧ X.2.2.2.2.2.2.2.2.2.maxLocals = nL ∧ X.2.2.2.2.1.vm.findClass y.cls = some X.2.2.2.2.2.1.cls ∧ (∀ w ∈ zw, w.before X.2.2.2.2.2.2.1 X.2.2.2.2.1 = true) ∧ X.2.2.2.2.2.2.2.2.1.locks = false ∧ X.2.2.2.2.2.2.2.2.1.sig.returnType = ret ∧ X.2.2.2.2.2.2.2.2.1.name = y.name ∧
  X.2.2.2.1 = zrm dd (N.1 - mX M0) (N.2 - mS M0) ∧ vT L X.2.2.2.2.1 ∧ X.2.1.stackTraces = false ∧ X.2.2.2.2.2.2.2.2.2.exceptionTable.toList = tableOf (zht y)
def V (L : zL) (X : zX) (y : MethodName) (cc : ByteArray) (nL : Nat) (ret : Option FieldType) (dd : Nat) (M0 : zM) (N : Nat × Nat) (Q : State → Prop) (M : zM) (pc : Nat) (ls : List (Nat × Value)) (st : List Value) : Prop :=
  (mX M ≤ N.1 ∧ mS M ≤ N.2) ∧ (vG L X y cc nL ret dd M0 N → mX M0 ≤ mX M → mS M0 ≤ mS M → ∀ (H : Heap) (locs : List Loc) (la : Array Slot), vH L M H → va_S (zA L) X.2.2.2.2.1.heap H locs → lv_has la nL ls →
    W X.1 X.2.1 X.2.2.1 X.2.2.2.1 X.2.2.2.2.1 X.2.2.2.2.2.1 X.2.2.2.2.2.2.1 X.2.2.2.2.2.2.2.1 X.2.2.2.2.2.2.2.2.1 X.2.2.2.2.2.2.2.2.2 H locs (mX M - mX M0) (mS M - mS M0) Q (F0 X.2.2.2.2.2.1 pc la st))
/-- a return: what is answered, and the memory then -/
def zPost (L : zL) (v : Option Value) (M' : zM) : Array Value → State → Outcome → State → Prop := fun _ st oc t => oc = .returned v ∧ vH L M' t.heap ∧ va_F (zA L) st t
def vQ (L : zL) (X : zX) (M0 : zM) (N : Nat × Nat) (Q : State → Prop) (v : Option Value) (M' : zM) : Prop :=
  N = (mX M', mS M') ∧ Q = MQ X.2.2.2.2.2.2.2.1 (zPost L v M') X.2.2.2.2.2.2.1 X.2.2.2.2.1 (mX M' - mX M0) (mS M' - mS M0) (zA L)
/-- A CONTRACT of a method that returns: from the memory M with these arguments it answers v and leaves M' -/
def CP (L : zL) (l : Launch) (y : MethodName) (cc : ByteArray) (nL : Nat) (ret : Option FieldType) (dd : Nat) (M : zM) (As : List Value) (v : Option Value) (M' : zM) : Prop :=
  (zX → mX M ≤ mX M' ∧ mS M ≤ mS M') ∧ (l.stackTraces = false → Met l y (zws y cc nL ret) (zrm dd (mX M' - mX M) (mS M' - mS M)) (va_Pc As (fun U => vH L M U.heap ∧ vT L U)) (zPost L v M') (mX M' - mX M) (mS M' - mS M) (zA L))
theorem zofW {l : Launch} {y : MethodName} {ws ws' : List Cond} {rm : Room} {Pc : Array Value → State → Prop} {Qc : Array Value → State → Outcome → State → Prop} {mc ms : Nat} {free : Addr → Prop} {cc : ByteArray} {maxL : Nat} {ret : Option FieldType}
    (hy : plainFor y = true) (hw : ws = Cond.code y cc maxL ret :: ws')
    (body : ∀ p e s m args below meth c s₁, BodyLoose p l y (headSpec ws rm) cc maxL ret e s m args below meth c s₁ → c.maxLocals = maxL → c.exceptionTable.toList = [] → Pc args s →
      W p l e (headSpec ws rm).room s m args below meth c s.heap [] 0 0 (MQ below Qc args s mc ms free) (entryFrame m args maxL)) : Met l y ws rm Pc Qc mc ms free := by
  refine MetFree.of_bodySF (code := cc) (maxLocals := maxL) (ret := ret) hy ?_ ?_
  · intro args s m h hn
    obtain ⟨meth, c, h1, h2, h3, h4, h5, h6, -, -⟩ := Cond.code_spec hn (atoms_spec (ws := ws) h _ (by rw [hw]; exact List.mem_cons_self))
    exact ⟨meth, c, h1, h2, h3, h4, h5, h6⟩
  · intro p e s m args below meth c s₁ B hml hP _
    have hh0 : s₁.heap = s.heap := by rw [B.state]; rfl
    have ht : c.exceptionTable.toList = [] := by
      obtain ⟨meth9, c9, h1, h2, -, -, -, -, h7, -⟩ := Cond.code_spec B.named (atoms_spec (ws := ws) B.pre _ (by rw [hw]; exact List.mem_cons_self))
      cases Option.some.inj (h1.symm.trans B.method)
      cases Option.some.inj (h2.symm.trans (Stand.of_body B).code)
      rw [Array.isEmpty_iff.mp h7]
    obtain ⟨t, a1, o, b1, b2, b3⟩ := body p e s m args below meth c s₁ B hml ht hP s₁ hh0 (Stand.of_body B)
    exact ⟨t, o, a1, b1, b2, ⟨b3.1, b3.2⟩⟩
theorem CP.of {L : zL} {l : Launch} {y : MethodName} {cc : ByteArray} {nL : Nat} {ret : Option FieldType} {dd : Nat} {M M' : zM} {As : List Value} {v : Option Value} (hy : plainFor y = true ∧ zht y = []) (hn : (lg_sl As).length ≤ nL)
    (k : ∀ X : zX, ∀ Q, vQ L X M (mX M', mS M') Q v M' → V L X y cc nL ret dd M (mX M', mS M') Q M 0 (lv_args 0 As) []) : CP L l y cc nL ret dd M As v M' := by
  refine ⟨fun X => (k X _ ⟨rfl, rfl⟩).1, fun hl => ?_⟩
  refine zofW (cc := cc) (maxL := nL) (ret := ret) hy.1 rfl ?_
  intro p e s m args below meth c s₁ B hml htab hv
  obtain ⟨rfl, hH, hT⟩ := hv
  have hts := atoms_spec (ws := zws y cc nL ret) B.pre
  have key := (k (p, l, e, zrm dd (mX M' - mX M) (mS M' - mS M), s, m, As.toArray, below, meth, c) _ ⟨rfl, rfl⟩).2 ⟨B.exec, B.bytes, hml, findClass_of_methodNamed B.named, fun w hw => hts w (List.mem_cons_of_mem _ hw), B.notSynchronized, B.returns, (name_of_methodNamed B.named B.method).1, rfl, hT, hl, by
    show c.exceptionTable.toList = tableOf (zht y)
    rw [hy.2]
    exact htab⟩ (Nat.le_refl _) (Nat.le_refl _) s.heap [] _ hH va_S.rf (lv_entry As hn)
  rw [lg_entry_eq]
  simp only [Nat.sub_self] at key
  exact key
