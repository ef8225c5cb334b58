/-! ===== THE START: what is made before the first call ===== -/
def PI (M : zM) : Prop := (∀ k a v, mR M k a = some v → (own a → own v) ∧ ((k = 386 ∨ k = 418) → hi v)) ∧ ∀ a i v, mQ M a i = some v → own a → own v
def P0 (M : zM) : Prop := 1000 ≤ mX M ∧ ∀ b, b < 1000 → mK M b = zK0 b ∧ ∀ k, mI M k b = zI0 k b
section PIS
variable {M : zM}
theorem PI.nO (h : PI M) (c N : Nat) : PI (nO M c N) := ⟨fun k a v e => by
  have e' : (if a = mX M then none else mR M k a) = some v := e
  by_cases y : a = mX M
  · rw [if_pos y] at e'
    cases e'
  · rw [if_neg y] at e'
    exact h.1 k a v e', h.2⟩
theorem PI.sI (h : PI M) (k a : Nat) (v : Int32) : PI (sI M k a v) := h
theorem PI.sJ (h : PI M) (k a : Nat) (v : Int64) : PI (sJ M k a v) := h
theorem PI.nA (h : PI M) (t N : Nat) : PI (nA M t N) := h
theorem PI.nQ (h : PI M) (t N : Nat) : PI (nQ M t N) := ⟨h.1, fun a i v e => by
  have e' : (if a = mX M then none else mQ M a i) = some v := e
  by_cases y : a = mX M
  · rw [if_pos y] at e'
    cases e'
  · rw [if_neg y] at e'
    exact h.2 a i v e'⟩
theorem PI.sR (h : PI M) (k a v : Nat) (h1 : decide (1000 ≤ a ∧ a < 1026) = true → decide (1000 ≤ v ∧ v < 1026) = true) (h2 : decide (k = 386 ∨ k = 418) = true → decide (1026 ≤ v) = true) : PI (sR M k a (some v)) := ⟨fun q b w e => by
  have e' : (if q = k ∧ b = a then some v else mR M q b) = some w := e
  by_cases y : q = k ∧ b = a
  · rw [if_pos y] at e'
    cases e'
    rw [y.1, y.2]
    exact ⟨fun z => (of_decide_eq_true (h1 (decide_eq_true (show 1000 ≤ a ∧ a < 1026 from z))) : 1000 ≤ v ∧ v < 1026), fun z => (of_decide_eq_true (h2 (decide_eq_true z)) : 1026 ≤ v)⟩
  · rw [if_neg y] at e'
    exact h.1 q b w e', h.2⟩
theorem PI.sQ (h : PI M) (a i v : Nat) (h1 : decide (1000 ≤ a ∧ a < 1026) = true → decide (1000 ≤ v ∧ v < 1026) = true) : PI (sQ M a i (some v)) := ⟨h.1, fun b j w e => by
  have e' : (if b = a ∧ j = i then some v else mQ M b j) = some w := e
  by_cases y : b = a ∧ j = i
  · rw [if_pos y] at e'
    cases e'
    rw [y.1]
    exact fun z => (of_decide_eq_true (h1 (decide_eq_true (show 1000 ≤ a ∧ a < 1026 from z))) : 1000 ≤ v ∧ v < 1026)
  · rw [if_neg y] at e'
    exact h.2 b j w e'⟩
theorem pi_start {n : Nat} {xs : Nat → Int32} {o : Option Nat} : PI (zM0 n xs o) := by
  refine ⟨fun k a v e => ?_, fun a i v e z => ?_⟩
  · have e' : zR0 k a = some v := e
    unfold zR0 at e'
    by_cases y : k = 32 ∧ 20 ≤ a ∧ a < 23
    · refine ⟨fun z => ?_, fun z => ?_⟩
      · unfold own at z
        omega
      · omega
    · rw [if_neg y] at e'
      cases e'
  · have e' : zQ0 o a i = some v := e
    unfold zQ0 at e'
    unfold own at z
    rw [if_neg (by omega), if_neg (by omega)] at e'
    cases e'
theorem P0_start {n : Nat} {xs : Nat → Int32} {o : Option Nat} : P0 (zM0 n xs o) := ⟨Nat.le_refl _, fun b _ => ⟨rfl, fun _ => rfl⟩⟩
theorem P0.nO (h : P0 M) (c N : Nat) : P0 (nO M c N) := ⟨Nat.le_succ_of_le h.1, fun b hb => by
  have q := h.1
  have y : ¬ b = mX M := by omega
  exact ⟨(if_neg y).trans (h.2 b hb).1, fun k => (if_neg y).trans ((h.2 b hb).2 k)⟩⟩
theorem P0.nA (h : P0 M) (t N : Nat) : P0 (nA M t N) := ⟨Nat.le_succ_of_le h.1, fun b hb => by
  have q := h.1
  have y : ¬ b = mX M := by omega
  exact ⟨(if_neg y).trans (h.2 b hb).1, (h.2 b hb).2⟩⟩
theorem P0.nQ (h : P0 M) (t N : Nat) : P0 (nQ M t N) := ⟨Nat.le_succ_of_le h.1, fun b hb => by
  have q := h.1
  have y : ¬ b = mX M := by omega
  exact ⟨(if_neg y).trans (h.2 b hb).1, (h.2 b hb).2⟩⟩
theorem P0.sI (h : P0 M) (k a : Nat) (v : Int32) (ha : 1000 ≤ a) : P0 (sI M k a v) := ⟨h.1, fun b hb => ⟨(h.2 b hb).1, fun q => (if_neg (fun z => by have := z.2; omega)).trans ((h.2 b hb).2 q)⟩⟩
theorem P0.sJ (h : P0 M) (k a : Nat) (v : Int64) (ha : 1000 ≤ a) : P0 (sJ M k a v) := h
theorem P0.sR (h : P0 M) (k a : Nat) (v : Option Nat) (ha : 1000 ≤ a) : P0 (sR M k a v) := h
theorem P0.sQ (h : P0 M) (a i : Nat) (v : Option Nat) (ha : 1000 ≤ a) : P0 (sQ M a i v) := h
theorem e_aQ1 : aQ 1 M (4 : Int32) = some (mX M, nQ M 1 4) := by
  have e : aQ 1 M (nI 4) = some (mX M, nQ M 1 (nI 4).toNatClampNeg) := if_pos ⟨nI_nn (by decide), by rw [nI_cl (by decide)]; decide⟩
  rw [nI_cl (by decide)] at e
  exact e
theorem e_aQ2 : aQ 2 M (4 : Int32) = some (mX M, nQ M 2 4) := by
  have e : aQ 2 M (nI 4) = some (mX M, nQ M 2 (nI 4).toNatClampNeg) := if_pos ⟨nI_nn (by decide), by rw [nI_cl (by decide)]; decide⟩
  rw [nI_cl (by decide)] at e
  exact e
end PIS
def zi_0 (n : Nat) (xs : Nat → Int32) (o : Option Nat) : zM := zM0 n xs o
def zi_1 (n : Nat) (xs : Nat → Int32) (o : Option Nat) : zM := nO (zi_0 n xs o) 9 16
def zi_2 (n : Nat) (xs : Nat → Int32) (o : Option Nat) : zM := nQ (zi_1 n xs o) 1 4
def zi_3 (n : Nat) (xs : Nat → Int32) (o : Option Nat) : zM := sR (zi_2 n xs o) 288 1000 (some 1001)
def zi_4 (n : Nat) (xs : Nat → Int32) (o : Option Nat) : zM := nO (zi_3 n xs o) 6 5
def zi_5 (n : Nat) (xs : Nat → Int32) (o : Option Nat) : zM := nA (zi_4 n xs o) 0 25
def zi_6 (n : Nat) (xs : Nat → Int32) (o : Option Nat) : zM := sR (zi_5 n xs o) 192 1002 (some 1003)
def zi_7 (n : Nat) (xs : Nat → Int32) (o : Option Nat) : zM := nA (zi_6 n xs o) 0 4
def zi_8 (n : Nat) (xs : Nat → Int32) (o : Option Nat) : zM := sR (zi_7 n xs o) 193 1002 (some 1004)
def zi_9 (n : Nat) (xs : Nat → Int32) (o : Option Nat) : zM := nA (zi_8 n xs o) 0 4
def zi_10 (n : Nat) (xs : Nat → Int32) (o : Option Nat) : zM := sR (zi_9 n xs o) 194 1002 (some 1005)
def zi_11 (n : Nat) (xs : Nat → Int32) (o : Option Nat) : zM := nA (zi_10 n xs o) 0 4
def zi_12 (n : Nat) (xs : Nat → Int32) (o : Option Nat) : zM := sR (zi_11 n xs o) 195 1002 (some 1006)
def zi_13 (n : Nat) (xs : Nat → Int32) (o : Option Nat) : zM := nA (zi_12 n xs o) 0 4
def zi_14 (n : Nat) (xs : Nat → Int32) (o : Option Nat) : zM := sR (zi_13 n xs o) 196 1002 (some 1007)
def zi_15 (n : Nat) (xs : Nat → Int32) (o : Option Nat) : zM := sR (zi_14 n xs o) 289 1000 (some 1002)
def zi_16 (n : Nat) (xs : Nat → Int32) (o : Option Nat) : zM := nO (zi_15 n xs o) 8 1
def zi_17 (n : Nat) (xs : Nat → Int32) (o : Option Nat) : zM := nA (zi_16 n xs o) 0 25
def zi_18 (n : Nat) (xs : Nat → Int32) (o : Option Nat) : zM := sR (zi_17 n xs o) 256 1008 (some 1009)
def zi_19 (n : Nat) (xs : Nat → Int32) (o : Option Nat) : zM := sR (zi_18 n xs o) 290 1000 (some 1008)
def zi_20 (n : Nat) (xs : Nat → Int32) (o : Option Nat) : zM := sI (zi_19 n xs o) 291 1000 (1)
def zi_21 (n : Nat) (xs : Nat → Int32) (o : Option Nat) : zM := sI (zi_20 n xs o) 292 1000 (0)
def zi_22 (n : Nat) (xs : Nat → Int32) (o : Option Nat) : zM := sI (zi_21 n xs o) 293 1000 (0)
def zi_23 (n : Nat) (xs : Nat → Int32) (o : Option Nat) : zM := sI (zi_22 n xs o) 294 1000 (0)
def zi_24 (n : Nat) (xs : Nat → Int32) (o : Option Nat) : zM := sI (zi_23 n xs o) 295 1000 (3)
def zi_25 (n : Nat) (xs : Nat → Int32) (o : Option Nat) : zM := sI (zi_24 n xs o) 296 1000 (0)
def zi_26 (n : Nat) (xs : Nat → Int32) (o : Option Nat) : zM := sI (zi_25 n xs o) 297 1000 (-1)
def zi_27 (n : Nat) (xs : Nat → Int32) (o : Option Nat) : zM := sI (zi_26 n xs o) 298 1000 (0)
def zi_28 (n : Nat) (xs : Nat → Int32) (o : Option Nat) : zM := sI (zi_27 n xs o) 299 1000 (0)
def zi_29 (n : Nat) (xs : Nat → Int32) (o : Option Nat) : zM := sI (zi_28 n xs o) 300 1000 (-1)
def zi_30 (n : Nat) (xs : Nat → Int32) (o : Option Nat) : zM := sI (zi_29 n xs o) 301 1000 (-1)
def zi_31 (n : Nat) (xs : Nat → Int32) (o : Option Nat) : zM := sI (zi_30 n xs o) 302 1000 (-1)
def zi_32 (n : Nat) (xs : Nat → Int32) (o : Option Nat) : zM := sI (zi_31 n xs o) 303 1000 (0)
def zi_33 (n : Nat) (xs : Nat → Int32) (o : Option Nat) : zM := nO (zi_32 n xs o) 7 9
def zi_34 (n : Nat) (xs : Nat → Int32) (o : Option Nat) : zM := nA (zi_33 n xs o) 0 25
def zi_35 (n : Nat) (xs : Nat → Int32) (o : Option Nat) : zM := sR (zi_34 n xs o) 224 1010 (some 1011)
def zi_36 (n : Nat) (xs : Nat → Int32) (o : Option Nat) : zM := nA (zi_35 n xs o) 0 3
def zi_37 (n : Nat) (xs : Nat → Int32) (o : Option Nat) : zM := sR (zi_36 n xs o) 225 1010 (some 1012)
def zi_38 (n : Nat) (xs : Nat → Int32) (o : Option Nat) : zM := nA (zi_37 n xs o) 0 64
def zi_39 (n : Nat) (xs : Nat → Int32) (o : Option Nat) : zM := sR (zi_38 n xs o) 226 1010 (some 1013)
def zi_40 (n : Nat) (xs : Nat → Int32) (o : Option Nat) : zM := sJ (zi_39 n xs o) 227 1010 (0)
def zi_41 (n : Nat) (xs : Nat → Int32) (o : Option Nat) : zM := sI (zi_40 n xs o) 228 1010 (0)
def zi_42 (n : Nat) (xs : Nat → Int32) (o : Option Nat) : zM := sI (zi_41 n xs o) 229 1010 (0)
def zi_43 (n : Nat) (xs : Nat → Int32) (o : Option Nat) : zM := sI (zi_42 n xs o) 230 1010 (0)
def zi_44 (n : Nat) (xs : Nat → Int32) (o : Option Nat) : zM := sI (zi_43 n xs o) 231 1010 (250)
def zi_45 (n : Nat) (xs : Nat → Int32) (o : Option Nat) : zM := sI (zi_44 n xs o) 232 1010 (0)
def zi_46 (n : Nat) (xs : Nat → Int32) (o : Option Nat) : zM := sQ (zi_45 n xs o) 1001 0 (some 1010)
def zi_47 (n : Nat) (xs : Nat → Int32) (o : Option Nat) : zM := nO (zi_46 n xs o) 7 9
def zi_48 (n : Nat) (xs : Nat → Int32) (o : Option Nat) : zM := nA (zi_47 n xs o) 0 25
def zi_49 (n : Nat) (xs : Nat → Int32) (o : Option Nat) : zM := sR (zi_48 n xs o) 224 1014 (some 1015)
def zi_50 (n : Nat) (xs : Nat → Int32) (o : Option Nat) : zM := nA (zi_49 n xs o) 0 3
def zi_51 (n : Nat) (xs : Nat → Int32) (o : Option Nat) : zM := sR (zi_50 n xs o) 225 1014 (some 1016)
def zi_52 (n : Nat) (xs : Nat → Int32) (o : Option Nat) : zM := nA (zi_51 n xs o) 0 64
def zi_53 (n : Nat) (xs : Nat → Int32) (o : Option Nat) : zM := sR (zi_52 n xs o) 226 1014 (some 1017)
def zi_54 (n : Nat) (xs : Nat → Int32) (o : Option Nat) : zM := sJ (zi_53 n xs o) 227 1014 (0)
def zi_55 (n : Nat) (xs : Nat → Int32) (o : Option Nat) : zM := sI (zi_54 n xs o) 228 1014 (0)
def zi_56 (n : Nat) (xs : Nat → Int32) (o : Option Nat) : zM := sI (zi_55 n xs o) 229 1014 (0)
def zi_57 (n : Nat) (xs : Nat → Int32) (o : Option Nat) : zM := sI (zi_56 n xs o) 230 1014 (0)
def zi_58 (n : Nat) (xs : Nat → Int32) (o : Option Nat) : zM := sI (zi_57 n xs o) 231 1014 (250)
def zi_59 (n : Nat) (xs : Nat → Int32) (o : Option Nat) : zM := sI (zi_58 n xs o) 232 1014 (0)
def zi_60 (n : Nat) (xs : Nat → Int32) (o : Option Nat) : zM := sQ (zi_59 n xs o) 1001 1 (some 1014)
def zi_61 (n : Nat) (xs : Nat → Int32) (o : Option Nat) : zM := nO (zi_60 n xs o) 7 9
def zi_62 (n : Nat) (xs : Nat → Int32) (o : Option Nat) : zM := nA (zi_61 n xs o) 0 25
def zi_63 (n : Nat) (xs : Nat → Int32) (o : Option Nat) : zM := sR (zi_62 n xs o) 224 1018 (some 1019)
def zi_64 (n : Nat) (xs : Nat → Int32) (o : Option Nat) : zM := nA (zi_63 n xs o) 0 3
def zi_65 (n : Nat) (xs : Nat → Int32) (o : Option Nat) : zM := sR (zi_64 n xs o) 225 1018 (some 1020)
def zi_66 (n : Nat) (xs : Nat → Int32) (o : Option Nat) : zM := nA (zi_65 n xs o) 0 64
def zi_67 (n : Nat) (xs : Nat → Int32) (o : Option Nat) : zM := sR (zi_66 n xs o) 226 1018 (some 1021)
def zi_68 (n : Nat) (xs : Nat → Int32) (o : Option Nat) : zM := sJ (zi_67 n xs o) 227 1018 (0)
def zi_69 (n : Nat) (xs : Nat → Int32) (o : Option Nat) : zM := sI (zi_68 n xs o) 228 1018 (0)
def zi_70 (n : Nat) (xs : Nat → Int32) (o : Option Nat) : zM := sI (zi_69 n xs o) 229 1018 (0)
def zi_71 (n : Nat) (xs : Nat → Int32) (o : Option Nat) : zM := sI (zi_70 n xs o) 230 1018 (0)
def zi_72 (n : Nat) (xs : Nat → Int32) (o : Option Nat) : zM := sI (zi_71 n xs o) 231 1018 (250)
def zi_73 (n : Nat) (xs : Nat → Int32) (o : Option Nat) : zM := sI (zi_72 n xs o) 232 1018 (0)
def zi_74 (n : Nat) (xs : Nat → Int32) (o : Option Nat) : zM := sQ (zi_73 n xs o) 1001 2 (some 1018)
def zi_75 (n : Nat) (xs : Nat → Int32) (o : Option Nat) : zM := nO (zi_74 n xs o) 7 9
def zi_76 (n : Nat) (xs : Nat → Int32) (o : Option Nat) : zM := nA (zi_75 n xs o) 0 25
def zi_77 (n : Nat) (xs : Nat → Int32) (o : Option Nat) : zM := sR (zi_76 n xs o) 224 1022 (some 1023)
def zi_78 (n : Nat) (xs : Nat → Int32) (o : Option Nat) : zM := nA (zi_77 n xs o) 0 3
def zi_79 (n : Nat) (xs : Nat → Int32) (o : Option Nat) : zM := sR (zi_78 n xs o) 225 1022 (some 1024)
def zi_80 (n : Nat) (xs : Nat → Int32) (o : Option Nat) : zM := nA (zi_79 n xs o) 0 64
def zi_81 (n : Nat) (xs : Nat → Int32) (o : Option Nat) : zM := sR (zi_80 n xs o) 226 1022 (some 1025)
def zi_82 (n : Nat) (xs : Nat → Int32) (o : Option Nat) : zM := sJ (zi_81 n xs o) 227 1022 (0)
def zi_83 (n : Nat) (xs : Nat → Int32) (o : Option Nat) : zM := sI (zi_82 n xs o) 228 1022 (0)
def zi_84 (n : Nat) (xs : Nat → Int32) (o : Option Nat) : zM := sI (zi_83 n xs o) 229 1022 (0)
def zi_85 (n : Nat) (xs : Nat → Int32) (o : Option Nat) : zM := sI (zi_84 n xs o) 230 1022 (0)
def zi_86 (n : Nat) (xs : Nat → Int32) (o : Option Nat) : zM := sI (zi_85 n xs o) 231 1022 (250)
def zi_87 (n : Nat) (xs : Nat → Int32) (o : Option Nat) : zM := sI (zi_86 n xs o) 232 1022 (0)
def zi_88 (n : Nat) (xs : Nat → Int32) (o : Option Nat) : zM := sQ (zi_87 n xs o) 1001 3 (some 1022)
def zi_89 (n : Nat) (xs : Nat → Int32) (o : Option Nat) : zM := nO (zi_88 n xs o) 13 15
def zi_90 (n : Nat) (xs : Nat → Int32) (o : Option Nat) : zM := nQ (zi_89 n xs o) 2 4
def zi_91 (n : Nat) (xs : Nat → Int32) (o : Option Nat) : zM := nO (zi_90 n xs o) 12 7
def zi_92 (n : Nat) (xs : Nat → Int32) (o : Option Nat) : zM := sI (zi_91 n xs o) 384 1028 (250)
def zi_93 (n : Nat) (xs : Nat → Int32) (o : Option Nat) : zM := nA (zi_92 n xs o) 0 25
def zi_94 (n : Nat) (xs : Nat → Int32) (o : Option Nat) : zM := sR (zi_93 n xs o) 386 1028 (some 1029)
def zi_95 (n : Nat) (xs : Nat → Int32) (o : Option Nat) : zM := nO (zi_94 n xs o) 5 3
def zi_96 (n : Nat) (xs : Nat → Int32) (o : Option Nat) : zM := sI (zi_95 n xs o) 160 1030 (0)
def zi_97 (n : Nat) (xs : Nat → Int32) (o : Option Nat) : zM := sR (zi_96 n xs o) 161 1030 (some 4)
def zi_98 (n : Nat) (xs : Nat → Int32) (o : Option Nat) : zM := sR (zi_97 n xs o) 387 1028 (some 1030)
def zi_99 (n : Nat) (xs : Nat → Int32) (o : Option Nat) : zM := nO (zi_98 n xs o) 5 3
def zi_100 (n : Nat) (xs : Nat → Int32) (o : Option Nat) : zM := sI (zi_99 n xs o) 160 1031 (0)
def zi_101 (n : Nat) (xs : Nat → Int32) (o : Option Nat) : zM := sR (zi_100 n xs o) 161 1031 (some 4)
def zi_102 (n : Nat) (xs : Nat → Int32) (o : Option Nat) : zM := sR (zi_101 n xs o) 388 1028 (some 1031)
def zi_103 (n : Nat) (xs : Nat → Int32) (o : Option Nat) : zM := sQ (zi_102 n xs o) 1027 0 (some 1028)
def zi_104 (n : Nat) (xs : Nat → Int32) (o : Option Nat) : zM := nO (zi_103 n xs o) 12 7
def zi_105 (n : Nat) (xs : Nat → Int32) (o : Option Nat) : zM := sI (zi_104 n xs o) 384 1032 (250)
def zi_106 (n : Nat) (xs : Nat → Int32) (o : Option Nat) : zM := nA (zi_105 n xs o) 0 25
def zi_107 (n : Nat) (xs : Nat → Int32) (o : Option Nat) : zM := sR (zi_106 n xs o) 386 1032 (some 1033)
def zi_108 (n : Nat) (xs : Nat → Int32) (o : Option Nat) : zM := nO (zi_107 n xs o) 5 3
def zi_109 (n : Nat) (xs : Nat → Int32) (o : Option Nat) : zM := sI (zi_108 n xs o) 160 1034 (0)
def zi_110 (n : Nat) (xs : Nat → Int32) (o : Option Nat) : zM := sR (zi_109 n xs o) 161 1034 (some 4)
def zi_111 (n : Nat) (xs : Nat → Int32) (o : Option Nat) : zM := sR (zi_110 n xs o) 387 1032 (some 1034)
def zi_112 (n : Nat) (xs : Nat → Int32) (o : Option Nat) : zM := nO (zi_111 n xs o) 5 3
def zi_113 (n : Nat) (xs : Nat → Int32) (o : Option Nat) : zM := sI (zi_112 n xs o) 160 1035 (0)
def zi_114 (n : Nat) (xs : Nat → Int32) (o : Option Nat) : zM := sR (zi_113 n xs o) 161 1035 (some 4)
def zi_115 (n : Nat) (xs : Nat → Int32) (o : Option Nat) : zM := sR (zi_114 n xs o) 388 1032 (some 1035)
def zi_116 (n : Nat) (xs : Nat → Int32) (o : Option Nat) : zM := sQ (zi_115 n xs o) 1027 1 (some 1032)
def zi_117 (n : Nat) (xs : Nat → Int32) (o : Option Nat) : zM := nO (zi_116 n xs o) 12 7
def zi_118 (n : Nat) (xs : Nat → Int32) (o : Option Nat) : zM := sI (zi_117 n xs o) 384 1036 (250)
def zi_119 (n : Nat) (xs : Nat → Int32) (o : Option Nat) : zM := nA (zi_118 n xs o) 0 25
def zi_120 (n : Nat) (xs : Nat → Int32) (o : Option Nat) : zM := sR (zi_119 n xs o) 386 1036 (some 1037)
def zi_121 (n : Nat) (xs : Nat → Int32) (o : Option Nat) : zM := nO (zi_120 n xs o) 5 3
def zi_122 (n : Nat) (xs : Nat → Int32) (o : Option Nat) : zM := sI (zi_121 n xs o) 160 1038 (0)
def zi_123 (n : Nat) (xs : Nat → Int32) (o : Option Nat) : zM := sR (zi_122 n xs o) 161 1038 (some 4)
def zi_124 (n : Nat) (xs : Nat → Int32) (o : Option Nat) : zM := sR (zi_123 n xs o) 387 1036 (some 1038)
def zi_125 (n : Nat) (xs : Nat → Int32) (o : Option Nat) : zM := nO (zi_124 n xs o) 5 3
def zi_126 (n : Nat) (xs : Nat → Int32) (o : Option Nat) : zM := sI (zi_125 n xs o) 160 1039 (0)
def zi_127 (n : Nat) (xs : Nat → Int32) (o : Option Nat) : zM := sR (zi_126 n xs o) 161 1039 (some 4)
def zi_128 (n : Nat) (xs : Nat → Int32) (o : Option Nat) : zM := sR (zi_127 n xs o) 388 1036 (some 1039)
def zi_129 (n : Nat) (xs : Nat → Int32) (o : Option Nat) : zM := sQ (zi_128 n xs o) 1027 2 (some 1036)
def zi_130 (n : Nat) (xs : Nat → Int32) (o : Option Nat) : zM := nO (zi_129 n xs o) 12 7
def zi_131 (n : Nat) (xs : Nat → Int32) (o : Option Nat) : zM := sI (zi_130 n xs o) 384 1040 (250)
def zi_132 (n : Nat) (xs : Nat → Int32) (o : Option Nat) : zM := nA (zi_131 n xs o) 0 25
def zi_133 (n : Nat) (xs : Nat → Int32) (o : Option Nat) : zM := sR (zi_132 n xs o) 386 1040 (some 1041)
def zi_134 (n : Nat) (xs : Nat → Int32) (o : Option Nat) : zM := nO (zi_133 n xs o) 5 3
def zi_135 (n : Nat) (xs : Nat → Int32) (o : Option Nat) : zM := sI (zi_134 n xs o) 160 1042 (0)
def zi_136 (n : Nat) (xs : Nat → Int32) (o : Option Nat) : zM := sR (zi_135 n xs o) 161 1042 (some 4)
def zi_137 (n : Nat) (xs : Nat → Int32) (o : Option Nat) : zM := sR (zi_136 n xs o) 387 1040 (some 1042)
def zi_138 (n : Nat) (xs : Nat → Int32) (o : Option Nat) : zM := nO (zi_137 n xs o) 5 3
def zi_139 (n : Nat) (xs : Nat → Int32) (o : Option Nat) : zM := sI (zi_138 n xs o) 160 1043 (0)
def zi_140 (n : Nat) (xs : Nat → Int32) (o : Option Nat) : zM := sR (zi_139 n xs o) 161 1043 (some 4)
def zi_141 (n : Nat) (xs : Nat → Int32) (o : Option Nat) : zM := sR (zi_140 n xs o) 388 1040 (some 1043)
def zi_142 (n : Nat) (xs : Nat → Int32) (o : Option Nat) : zM := sQ (zi_141 n xs o) 1027 3 (some 1040)
def zi_143 (n : Nat) (xs : Nat → Int32) (o : Option Nat) : zM := sR (zi_142 n xs o) 417 1026 (some 1027)
def zi_144 (n : Nat) (xs : Nat → Int32) (o : Option Nat) : zM := nA (zi_143 n xs o) 0 100
def zi_145 (n : Nat) (xs : Nat → Int32) (o : Option Nat) : zM := sR (zi_144 n xs o) 418 1026 (some 1044)
def zi_146 (n : Nat) (xs : Nat → Int32) (o : Option Nat) : zM := sI (zi_145 n xs o) 421 1026 (-1)
def zi_147 (n : Nat) (xs : Nat → Int32) (o : Option Nat) : zM := sI (zi_146 n xs o) 422 1026 (3)
def zi_148 (n : Nat) (xs : Nat → Int32) (o : Option Nat) : zM := sI (zi_147 n xs o) 424 1026 (-1)
def zi_149 (n : Nat) (xs : Nat → Int32) (o : Option Nat) : zM := sI (zi_148 n xs o) 428 1026 (-1)
def zi_150 (n : Nat) (xs : Nat → Int32) (o : Option Nat) : zM := sI (zi_149 n xs o) 429 1026 (-1)
def zi_151 (n : Nat) (xs : Nat → Int32) (o : Option Nat) : zM := sI (zi_150 n xs o) 430 1026 (-1)
def zi_152 (n : Nat) (xs : Nat → Int32) (o : Option Nat) : zM := nO (zi_151 n xs o) 10 3
section INIT
variable {n : Nat} {xs : Nat → Int32} {o : Option Nat}
theorem pi_0 : PI (zi_0 n xs o) := pi_start
theorem pi_1 : PI (zi_1 n xs o) := PI.nO pi_0 9 16
theorem pi_2 : PI (zi_2 n xs o) := PI.nQ pi_1 1 4
theorem pi_3 : PI (zi_3 n xs o) := PI.sR pi_2 288 1000 1001 (by decide) (by decide)
theorem pi_4 : PI (zi_4 n xs o) := PI.nO pi_3 6 5
theorem pi_5 : PI (zi_5 n xs o) := PI.nA pi_4 0 25
theorem pi_6 : PI (zi_6 n xs o) := PI.sR pi_5 192 1002 1003 (by decide) (by decide)
theorem pi_7 : PI (zi_7 n xs o) := PI.nA pi_6 0 4
theorem pi_8 : PI (zi_8 n xs o) := PI.sR pi_7 193 1002 1004 (by decide) (by decide)
theorem pi_9 : PI (zi_9 n xs o) := PI.nA pi_8 0 4
theorem pi_10 : PI (zi_10 n xs o) := PI.sR pi_9 194 1002 1005 (by decide) (by decide)
theorem pi_11 : PI (zi_11 n xs o) := PI.nA pi_10 0 4
theorem pi_12 : PI (zi_12 n xs o) := PI.sR pi_11 195 1002 1006 (by decide) (by decide)
theorem pi_13 : PI (zi_13 n xs o) := PI.nA pi_12 0 4
theorem pi_14 : PI (zi_14 n xs o) := PI.sR pi_13 196 1002 1007 (by decide) (by decide)
theorem pi_15 : PI (zi_15 n xs o) := PI.sR pi_14 289 1000 1002 (by decide) (by decide)
theorem pi_16 : PI (zi_16 n xs o) := PI.nO pi_15 8 1
theorem pi_17 : PI (zi_17 n xs o) := PI.nA pi_16 0 25
theorem pi_18 : PI (zi_18 n xs o) := PI.sR pi_17 256 1008 1009 (by decide) (by decide)
theorem pi_19 : PI (zi_19 n xs o) := PI.sR pi_18 290 1000 1008 (by decide) (by decide)
theorem pi_20 : PI (zi_20 n xs o) := PI.sI pi_19 291 1000 (1)
theorem pi_21 : PI (zi_21 n xs o) := PI.sI pi_20 292 1000 (0)
theorem pi_22 : PI (zi_22 n xs o) := PI.sI pi_21 293 1000 (0)
theorem pi_23 : PI (zi_23 n xs o) := PI.sI pi_22 294 1000 (0)
theorem pi_24 : PI (zi_24 n xs o) := PI.sI pi_23 295 1000 (3)
theorem pi_25 : PI (zi_25 n xs o) := PI.sI pi_24 296 1000 (0)
theorem pi_26 : PI (zi_26 n xs o) := PI.sI pi_25 297 1000 (-1)
theorem pi_27 : PI (zi_27 n xs o) := PI.sI pi_26 298 1000 (0)
theorem pi_28 : PI (zi_28 n xs o) := PI.sI pi_27 299 1000 (0)
theorem pi_29 : PI (zi_29 n xs o) := PI.sI pi_28 300 1000 (-1)
theorem pi_30 : PI (zi_30 n xs o) := PI.sI pi_29 301 1000 (-1)
theorem pi_31 : PI (zi_31 n xs o) := PI.sI pi_30 302 1000 (-1)
theorem pi_32 : PI (zi_32 n xs o) := PI.sI pi_31 303 1000 (0)
theorem pi_33 : PI (zi_33 n xs o) := PI.nO pi_32 7 9
theorem pi_34 : PI (zi_34 n xs o) := PI.nA pi_33 0 25
theorem pi_35 : PI (zi_35 n xs o) := PI.sR pi_34 224 1010 1011 (by decide) (by decide)
theorem pi_36 : PI (zi_36 n xs o) := PI.nA pi_35 0 3
theorem pi_37 : PI (zi_37 n xs o) := PI.sR pi_36 225 1010 1012 (by decide) (by decide)
theorem pi_38 : PI (zi_38 n xs o) := PI.nA pi_37 0 64
theorem pi_39 : PI (zi_39 n xs o) := PI.sR pi_38 226 1010 1013 (by decide) (by decide)
theorem pi_40 : PI (zi_40 n xs o) := PI.sJ pi_39 227 1010 (0)
theorem pi_41 : PI (zi_41 n xs o) := PI.sI pi_40 228 1010 (0)
theorem pi_42 : PI (zi_42 n xs o) := PI.sI pi_41 229 1010 (0)
theorem pi_43 : PI (zi_43 n xs o) := PI.sI pi_42 230 1010 (0)
theorem pi_44 : PI (zi_44 n xs o) := PI.sI pi_43 231 1010 (250)
theorem pi_45 : PI (zi_45 n xs o) := PI.sI pi_44 232 1010 (0)
theorem pi_46 : PI (zi_46 n xs o) := PI.sQ pi_45 1001 0 1010 (by decide)
theorem pi_47 : PI (zi_47 n xs o) := PI.nO pi_46 7 9
theorem pi_48 : PI (zi_48 n xs o) := PI.nA pi_47 0 25
theorem pi_49 : PI (zi_49 n xs o) := PI.sR pi_48 224 1014 1015 (by decide) (by decide)
theorem pi_50 : PI (zi_50 n xs o) := PI.nA pi_49 0 3
theorem pi_51 : PI (zi_51 n xs o) := PI.sR pi_50 225 1014 1016 (by decide) (by decide)
theorem pi_52 : PI (zi_52 n xs o) := PI.nA pi_51 0 64
theorem pi_53 : PI (zi_53 n xs o) := PI.sR pi_52 226 1014 1017 (by decide) (by decide)
theorem pi_54 : PI (zi_54 n xs o) := PI.sJ pi_53 227 1014 (0)
theorem pi_55 : PI (zi_55 n xs o) := PI.sI pi_54 228 1014 (0)
theorem pi_56 : PI (zi_56 n xs o) := PI.sI pi_55 229 1014 (0)
theorem pi_57 : PI (zi_57 n xs o) := PI.sI pi_56 230 1014 (0)
theorem pi_58 : PI (zi_58 n xs o) := PI.sI pi_57 231 1014 (250)
theorem pi_59 : PI (zi_59 n xs o) := PI.sI pi_58 232 1014 (0)
theorem pi_60 : PI (zi_60 n xs o) := PI.sQ pi_59 1001 1 1014 (by decide)
theorem pi_61 : PI (zi_61 n xs o) := PI.nO pi_60 7 9
theorem pi_62 : PI (zi_62 n xs o) := PI.nA pi_61 0 25
theorem pi_63 : PI (zi_63 n xs o) := PI.sR pi_62 224 1018 1019 (by decide) (by decide)
theorem pi_64 : PI (zi_64 n xs o) := PI.nA pi_63 0 3
theorem pi_65 : PI (zi_65 n xs o) := PI.sR pi_64 225 1018 1020 (by decide) (by decide)
theorem pi_66 : PI (zi_66 n xs o) := PI.nA pi_65 0 64
theorem pi_67 : PI (zi_67 n xs o) := PI.sR pi_66 226 1018 1021 (by decide) (by decide)
theorem pi_68 : PI (zi_68 n xs o) := PI.sJ pi_67 227 1018 (0)
theorem pi_69 : PI (zi_69 n xs o) := PI.sI pi_68 228 1018 (0)
theorem pi_70 : PI (zi_70 n xs o) := PI.sI pi_69 229 1018 (0)
theorem pi_71 : PI (zi_71 n xs o) := PI.sI pi_70 230 1018 (0)
theorem pi_72 : PI (zi_72 n xs o) := PI.sI pi_71 231 1018 (250)
theorem pi_73 : PI (zi_73 n xs o) := PI.sI pi_72 232 1018 (0)
theorem pi_74 : PI (zi_74 n xs o) := PI.sQ pi_73 1001 2 1018 (by decide)
theorem pi_75 : PI (zi_75 n xs o) := PI.nO pi_74 7 9
theorem pi_76 : PI (zi_76 n xs o) := PI.nA pi_75 0 25
theorem pi_77 : PI (zi_77 n xs o) := PI.sR pi_76 224 1022 1023 (by decide) (by decide)
theorem pi_78 : PI (zi_78 n xs o) := PI.nA pi_77 0 3
theorem pi_79 : PI (zi_79 n xs o) := PI.sR pi_78 225 1022 1024 (by decide) (by decide)
theorem pi_80 : PI (zi_80 n xs o) := PI.nA pi_79 0 64
theorem pi_81 : PI (zi_81 n xs o) := PI.sR pi_80 226 1022 1025 (by decide) (by decide)
theorem pi_82 : PI (zi_82 n xs o) := PI.sJ pi_81 227 1022 (0)
theorem pi_83 : PI (zi_83 n xs o) := PI.sI pi_82 228 1022 (0)
theorem pi_84 : PI (zi_84 n xs o) := PI.sI pi_83 229 1022 (0)
theorem pi_85 : PI (zi_85 n xs o) := PI.sI pi_84 230 1022 (0)
theorem pi_86 : PI (zi_86 n xs o) := PI.sI pi_85 231 1022 (250)
theorem pi_87 : PI (zi_87 n xs o) := PI.sI pi_86 232 1022 (0)
theorem pi_88 : PI (zi_88 n xs o) := PI.sQ pi_87 1001 3 1022 (by decide)
theorem pi_89 : PI (zi_89 n xs o) := PI.nO pi_88 13 15
theorem pi_90 : PI (zi_90 n xs o) := PI.nQ pi_89 2 4
theorem pi_91 : PI (zi_91 n xs o) := PI.nO pi_90 12 7
theorem pi_92 : PI (zi_92 n xs o) := PI.sI pi_91 384 1028 (250)
theorem pi_93 : PI (zi_93 n xs o) := PI.nA pi_92 0 25
theorem pi_94 : PI (zi_94 n xs o) := PI.sR pi_93 386 1028 1029 (by decide) (by decide)
theorem pi_95 : PI (zi_95 n xs o) := PI.nO pi_94 5 3
theorem pi_96 : PI (zi_96 n xs o) := PI.sI pi_95 160 1030 (0)
theorem pi_97 : PI (zi_97 n xs o) := PI.sR pi_96 161 1030 4 (by decide) (by decide)
theorem pi_98 : PI (zi_98 n xs o) := PI.sR pi_97 387 1028 1030 (by decide) (by decide)
theorem pi_99 : PI (zi_99 n xs o) := PI.nO pi_98 5 3
theorem pi_100 : PI (zi_100 n xs o) := PI.sI pi_99 160 1031 (0)
theorem pi_101 : PI (zi_101 n xs o) := PI.sR pi_100 161 1031 4 (by decide) (by decide)
theorem pi_102 : PI (zi_102 n xs o) := PI.sR pi_101 388 1028 1031 (by decide) (by decide)
theorem pi_103 : PI (zi_103 n xs o) := PI.sQ pi_102 1027 0 1028 (by decide)
theorem pi_104 : PI (zi_104 n xs o) := PI.nO pi_103 12 7
theorem pi_105 : PI (zi_105 n xs o) := PI.sI pi_104 384 1032 (250)
theorem pi_106 : PI (zi_106 n xs o) := PI.nA pi_105 0 25
theorem pi_107 : PI (zi_107 n xs o) := PI.sR pi_106 386 1032 1033 (by decide) (by decide)
theorem pi_108 : PI (zi_108 n xs o) := PI.nO pi_107 5 3
theorem pi_109 : PI (zi_109 n xs o) := PI.sI pi_108 160 1034 (0)
theorem pi_110 : PI (zi_110 n xs o) := PI.sR pi_109 161 1034 4 (by decide) (by decide)
theorem pi_111 : PI (zi_111 n xs o) := PI.sR pi_110 387 1032 1034 (by decide) (by decide)
theorem pi_112 : PI (zi_112 n xs o) := PI.nO pi_111 5 3
theorem pi_113 : PI (zi_113 n xs o) := PI.sI pi_112 160 1035 (0)
theorem pi_114 : PI (zi_114 n xs o) := PI.sR pi_113 161 1035 4 (by decide) (by decide)
theorem pi_115 : PI (zi_115 n xs o) := PI.sR pi_114 388 1032 1035 (by decide) (by decide)
theorem pi_116 : PI (zi_116 n xs o) := PI.sQ pi_115 1027 1 1032 (by decide)
theorem pi_117 : PI (zi_117 n xs o) := PI.nO pi_116 12 7
theorem pi_118 : PI (zi_118 n xs o) := PI.sI pi_117 384 1036 (250)
theorem pi_119 : PI (zi_119 n xs o) := PI.nA pi_118 0 25
theorem pi_120 : PI (zi_120 n xs o) := PI.sR pi_119 386 1036 1037 (by decide) (by decide)
theorem pi_121 : PI (zi_121 n xs o) := PI.nO pi_120 5 3
theorem pi_122 : PI (zi_122 n xs o) := PI.sI pi_121 160 1038 (0)
theorem pi_123 : PI (zi_123 n xs o) := PI.sR pi_122 161 1038 4 (by decide) (by decide)
theorem pi_124 : PI (zi_124 n xs o) := PI.sR pi_123 387 1036 1038 (by decide) (by decide)
theorem pi_125 : PI (zi_125 n xs o) := PI.nO pi_124 5 3
theorem pi_126 : PI (zi_126 n xs o) := PI.sI pi_125 160 1039 (0)
theorem pi_127 : PI (zi_127 n xs o) := PI.sR pi_126 161 1039 4 (by decide) (by decide)
theorem pi_128 : PI (zi_128 n xs o) := PI.sR pi_127 388 1036 1039 (by decide) (by decide)
theorem pi_129 : PI (zi_129 n xs o) := PI.sQ pi_128 1027 2 1036 (by decide)
theorem pi_130 : PI (zi_130 n xs o) := PI.nO pi_129 12 7
theorem pi_131 : PI (zi_131 n xs o) := PI.sI pi_130 384 1040 (250)
theorem pi_132 : PI (zi_132 n xs o) := PI.nA pi_131 0 25
theorem pi_133 : PI (zi_133 n xs o) := PI.sR pi_132 386 1040 1041 (by decide) (by decide)
theorem pi_134 : PI (zi_134 n xs o) := PI.nO pi_133 5 3
theorem pi_135 : PI (zi_135 n xs o) := PI.sI pi_134 160 1042 (0)
theorem pi_136 : PI (zi_136 n xs o) := PI.sR pi_135 161 1042 4 (by decide) (by decide)
theorem pi_137 : PI (zi_137 n xs o) := PI.sR pi_136 387 1040 1042 (by decide) (by decide)
theorem pi_138 : PI (zi_138 n xs o) := PI.nO pi_137 5 3
theorem pi_139 : PI (zi_139 n xs o) := PI.sI pi_138 160 1043 (0)
theorem pi_140 : PI (zi_140 n xs o) := PI.sR pi_139 161 1043 4 (by decide) (by decide)
theorem pi_141 : PI (zi_141 n xs o) := PI.sR pi_140 388 1040 1043 (by decide) (by decide)
theorem pi_142 : PI (zi_142 n xs o) := PI.sQ pi_141 1027 3 1040 (by decide)
theorem pi_143 : PI (zi_143 n xs o) := PI.sR pi_142 417 1026 1027 (by decide) (by decide)
theorem pi_144 : PI (zi_144 n xs o) := PI.nA pi_143 0 100
theorem pi_145 : PI (zi_145 n xs o) := PI.sR pi_144 418 1026 1044 (by decide) (by decide)
theorem pi_146 : PI (zi_146 n xs o) := PI.sI pi_145 421 1026 (-1)
theorem pi_147 : PI (zi_147 n xs o) := PI.sI pi_146 422 1026 (3)
theorem pi_148 : PI (zi_148 n xs o) := PI.sI pi_147 424 1026 (-1)
theorem pi_149 : PI (zi_149 n xs o) := PI.sI pi_148 428 1026 (-1)
theorem pi_150 : PI (zi_150 n xs o) := PI.sI pi_149 429 1026 (-1)
theorem pi_151 : PI (zi_151 n xs o) := PI.sI pi_150 430 1026 (-1)
theorem pi_152 : PI (zi_152 n xs o) := PI.nO pi_151 10 3
theorem pb_0 : P0 (zi_0 n xs o) := P0_start
theorem pb_1 : P0 (zi_1 n xs o) := P0.nO pb_0 9 16
theorem pb_2 : P0 (zi_2 n xs o) := P0.nQ pb_1 1 4
theorem pb_3 : P0 (zi_3 n xs o) := P0.sR pb_2 288 1000 (some 1001) (by decide)
theorem pb_4 : P0 (zi_4 n xs o) := P0.nO pb_3 6 5
theorem pb_5 : P0 (zi_5 n xs o) := P0.nA pb_4 0 25
theorem pb_6 : P0 (zi_6 n xs o) := P0.sR pb_5 192 1002 (some 1003) (by decide)
theorem pb_7 : P0 (zi_7 n xs o) := P0.nA pb_6 0 4
theorem pb_8 : P0 (zi_8 n xs o) := P0.sR pb_7 193 1002 (some 1004) (by decide)
theorem pb_9 : P0 (zi_9 n xs o) := P0.nA pb_8 0 4
theorem pb_10 : P0 (zi_10 n xs o) := P0.sR pb_9 194 1002 (some 1005) (by decide)
theorem pb_11 : P0 (zi_11 n xs o) := P0.nA pb_10 0 4
theorem pb_12 : P0 (zi_12 n xs o) := P0.sR pb_11 195 1002 (some 1006) (by decide)
theorem pb_13 : P0 (zi_13 n xs o) := P0.nA pb_12 0 4
theorem pb_14 : P0 (zi_14 n xs o) := P0.sR pb_13 196 1002 (some 1007) (by decide)
theorem pb_15 : P0 (zi_15 n xs o) := P0.sR pb_14 289 1000 (some 1002) (by decide)
theorem pb_16 : P0 (zi_16 n xs o) := P0.nO pb_15 8 1
theorem pb_17 : P0 (zi_17 n xs o) := P0.nA pb_16 0 25
theorem pb_18 : P0 (zi_18 n xs o) := P0.sR pb_17 256 1008 (some 1009) (by decide)
theorem pb_19 : P0 (zi_19 n xs o) := P0.sR pb_18 290 1000 (some 1008) (by decide)
theorem pb_20 : P0 (zi_20 n xs o) := P0.sI pb_19 291 1000 (1) (by decide)
theorem pb_21 : P0 (zi_21 n xs o) := P0.sI pb_20 292 1000 (0) (by decide)
theorem pb_22 : P0 (zi_22 n xs o) := P0.sI pb_21 293 1000 (0) (by decide)
theorem pb_23 : P0 (zi_23 n xs o) := P0.sI pb_22 294 1000 (0) (by decide)
theorem pb_24 : P0 (zi_24 n xs o) := P0.sI pb_23 295 1000 (3) (by decide)
theorem pb_25 : P0 (zi_25 n xs o) := P0.sI pb_24 296 1000 (0) (by decide)
theorem pb_26 : P0 (zi_26 n xs o) := P0.sI pb_25 297 1000 (-1) (by decide)
theorem pb_27 : P0 (zi_27 n xs o) := P0.sI pb_26 298 1000 (0) (by decide)
theorem pb_28 : P0 (zi_28 n xs o) := P0.sI pb_27 299 1000 (0) (by decide)
theorem pb_29 : P0 (zi_29 n xs o) := P0.sI pb_28 300 1000 (-1) (by decide)
theorem pb_30 : P0 (zi_30 n xs o) := P0.sI pb_29 301 1000 (-1) (by decide)
theorem pb_31 : P0 (zi_31 n xs o) := P0.sI pb_30 302 1000 (-1) (by decide)
theorem pb_32 : P0 (zi_32 n xs o) := P0.sI pb_31 303 1000 (0) (by decide)
theorem pb_33 : P0 (zi_33 n xs o) := P0.nO pb_32 7 9
theorem pb_34 : P0 (zi_34 n xs o) := P0.nA pb_33 0 25
theorem pb_35 : P0 (zi_35 n xs o) := P0.sR pb_34 224 1010 (some 1011) (by decide)
theorem pb_36 : P0 (zi_36 n xs o) := P0.nA pb_35 0 3
theorem pb_37 : P0 (zi_37 n xs o) := P0.sR pb_36 225 1010 (some 1012) (by decide)
theorem pb_38 : P0 (zi_38 n xs o) := P0.nA pb_37 0 64
theorem pb_39 : P0 (zi_39 n xs o) := P0.sR pb_38 226 1010 (some 1013) (by decide)
theorem pb_40 : P0 (zi_40 n xs o) := P0.sJ pb_39 227 1010 (0) (by decide)
theorem pb_41 : P0 (zi_41 n xs o) := P0.sI pb_40 228 1010 (0) (by decide)
theorem pb_42 : P0 (zi_42 n xs o) := P0.sI pb_41 229 1010 (0) (by decide)
theorem pb_43 : P0 (zi_43 n xs o) := P0.sI pb_42 230 1010 (0) (by decide)
theorem pb_44 : P0 (zi_44 n xs o) := P0.sI pb_43 231 1010 (250) (by decide)
theorem pb_45 : P0 (zi_45 n xs o) := P0.sI pb_44 232 1010 (0) (by decide)
theorem pb_46 : P0 (zi_46 n xs o) := P0.sQ pb_45 1001 0 (some 1010) (by decide)
theorem pb_47 : P0 (zi_47 n xs o) := P0.nO pb_46 7 9
theorem pb_48 : P0 (zi_48 n xs o) := P0.nA pb_47 0 25
theorem pb_49 : P0 (zi_49 n xs o) := P0.sR pb_48 224 1014 (some 1015) (by decide)
theorem pb_50 : P0 (zi_50 n xs o) := P0.nA pb_49 0 3
theorem pb_51 : P0 (zi_51 n xs o) := P0.sR pb_50 225 1014 (some 1016) (by decide)
theorem pb_52 : P0 (zi_52 n xs o) := P0.nA pb_51 0 64
theorem pb_53 : P0 (zi_53 n xs o) := P0.sR pb_52 226 1014 (some 1017) (by decide)
theorem pb_54 : P0 (zi_54 n xs o) := P0.sJ pb_53 227 1014 (0) (by decide)
theorem pb_55 : P0 (zi_55 n xs o) := P0.sI pb_54 228 1014 (0) (by decide)
theorem pb_56 : P0 (zi_56 n xs o) := P0.sI pb_55 229 1014 (0) (by decide)
theorem pb_57 : P0 (zi_57 n xs o) := P0.sI pb_56 230 1014 (0) (by decide)
theorem pb_58 : P0 (zi_58 n xs o) := P0.sI pb_57 231 1014 (250) (by decide)
theorem pb_59 : P0 (zi_59 n xs o) := P0.sI pb_58 232 1014 (0) (by decide)
theorem pb_60 : P0 (zi_60 n xs o) := P0.sQ pb_59 1001 1 (some 1014) (by decide)
theorem pb_61 : P0 (zi_61 n xs o) := P0.nO pb_60 7 9
theorem pb_62 : P0 (zi_62 n xs o) := P0.nA pb_61 0 25
theorem pb_63 : P0 (zi_63 n xs o) := P0.sR pb_62 224 1018 (some 1019) (by decide)
theorem pb_64 : P0 (zi_64 n xs o) := P0.nA pb_63 0 3
theorem pb_65 : P0 (zi_65 n xs o) := P0.sR pb_64 225 1018 (some 1020) (by decide)
theorem pb_66 : P0 (zi_66 n xs o) := P0.nA pb_65 0 64
theorem pb_67 : P0 (zi_67 n xs o) := P0.sR pb_66 226 1018 (some 1021) (by decide)
theorem pb_68 : P0 (zi_68 n xs o) := P0.sJ pb_67 227 1018 (0) (by decide)
theorem pb_69 : P0 (zi_69 n xs o) := P0.sI pb_68 228 1018 (0) (by decide)
theorem pb_70 : P0 (zi_70 n xs o) := P0.sI pb_69 229 1018 (0) (by decide)
theorem pb_71 : P0 (zi_71 n xs o) := P0.sI pb_70 230 1018 (0) (by decide)
theorem pb_72 : P0 (zi_72 n xs o) := P0.sI pb_71 231 1018 (250) (by decide)
theorem pb_73 : P0 (zi_73 n xs o) := P0.sI pb_72 232 1018 (0) (by decide)
theorem pb_74 : P0 (zi_74 n xs o) := P0.sQ pb_73 1001 2 (some 1018) (by decide)
theorem pb_75 : P0 (zi_75 n xs o) := P0.nO pb_74 7 9
theorem pb_76 : P0 (zi_76 n xs o) := P0.nA pb_75 0 25
theorem pb_77 : P0 (zi_77 n xs o) := P0.sR pb_76 224 1022 (some 1023) (by decide)
theorem pb_78 : P0 (zi_78 n xs o) := P0.nA pb_77 0 3
theorem pb_79 : P0 (zi_79 n xs o) := P0.sR pb_78 225 1022 (some 1024) (by decide)
theorem pb_80 : P0 (zi_80 n xs o) := P0.nA pb_79 0 64
theorem pb_81 : P0 (zi_81 n xs o) := P0.sR pb_80 226 1022 (some 1025) (by decide)
theorem pb_82 : P0 (zi_82 n xs o) := P0.sJ pb_81 227 1022 (0) (by decide)
theorem pb_83 : P0 (zi_83 n xs o) := P0.sI pb_82 228 1022 (0) (by decide)
theorem pb_84 : P0 (zi_84 n xs o) := P0.sI pb_83 229 1022 (0) (by decide)
theorem pb_85 : P0 (zi_85 n xs o) := P0.sI pb_84 230 1022 (0) (by decide)
theorem pb_86 : P0 (zi_86 n xs o) := P0.sI pb_85 231 1022 (250) (by decide)
theorem pb_87 : P0 (zi_87 n xs o) := P0.sI pb_86 232 1022 (0) (by decide)
theorem pb_88 : P0 (zi_88 n xs o) := P0.sQ pb_87 1001 3 (some 1022) (by decide)
theorem pb_89 : P0 (zi_89 n xs o) := P0.nO pb_88 13 15
theorem pb_90 : P0 (zi_90 n xs o) := P0.nQ pb_89 2 4
theorem pb_91 : P0 (zi_91 n xs o) := P0.nO pb_90 12 7
theorem pb_92 : P0 (zi_92 n xs o) := P0.sI pb_91 384 1028 (250) (by decide)
theorem pb_93 : P0 (zi_93 n xs o) := P0.nA pb_92 0 25
theorem pb_94 : P0 (zi_94 n xs o) := P0.sR pb_93 386 1028 (some 1029) (by decide)
theorem pb_95 : P0 (zi_95 n xs o) := P0.nO pb_94 5 3
theorem pb_96 : P0 (zi_96 n xs o) := P0.sI pb_95 160 1030 (0) (by decide)
theorem pb_97 : P0 (zi_97 n xs o) := P0.sR pb_96 161 1030 (some 4) (by decide)
theorem pb_98 : P0 (zi_98 n xs o) := P0.sR pb_97 387 1028 (some 1030) (by decide)
theorem pb_99 : P0 (zi_99 n xs o) := P0.nO pb_98 5 3
theorem pb_100 : P0 (zi_100 n xs o) := P0.sI pb_99 160 1031 (0) (by decide)
theorem pb_101 : P0 (zi_101 n xs o) := P0.sR pb_100 161 1031 (some 4) (by decide)
theorem pb_102 : P0 (zi_102 n xs o) := P0.sR pb_101 388 1028 (some 1031) (by decide)
theorem pb_103 : P0 (zi_103 n xs o) := P0.sQ pb_102 1027 0 (some 1028) (by decide)
theorem pb_104 : P0 (zi_104 n xs o) := P0.nO pb_103 12 7
theorem pb_105 : P0 (zi_105 n xs o) := P0.sI pb_104 384 1032 (250) (by decide)
theorem pb_106 : P0 (zi_106 n xs o) := P0.nA pb_105 0 25
theorem pb_107 : P0 (zi_107 n xs o) := P0.sR pb_106 386 1032 (some 1033) (by decide)
theorem pb_108 : P0 (zi_108 n xs o) := P0.nO pb_107 5 3
theorem pb_109 : P0 (zi_109 n xs o) := P0.sI pb_108 160 1034 (0) (by decide)
theorem pb_110 : P0 (zi_110 n xs o) := P0.sR pb_109 161 1034 (some 4) (by decide)
theorem pb_111 : P0 (zi_111 n xs o) := P0.sR pb_110 387 1032 (some 1034) (by decide)
theorem pb_112 : P0 (zi_112 n xs o) := P0.nO pb_111 5 3
theorem pb_113 : P0 (zi_113 n xs o) := P0.sI pb_112 160 1035 (0) (by decide)
theorem pb_114 : P0 (zi_114 n xs o) := P0.sR pb_113 161 1035 (some 4) (by decide)
theorem pb_115 : P0 (zi_115 n xs o) := P0.sR pb_114 388 1032 (some 1035) (by decide)
theorem pb_116 : P0 (zi_116 n xs o) := P0.sQ pb_115 1027 1 (some 1032) (by decide)
theorem pb_117 : P0 (zi_117 n xs o) := P0.nO pb_116 12 7
theorem pb_118 : P0 (zi_118 n xs o) := P0.sI pb_117 384 1036 (250) (by decide)
theorem pb_119 : P0 (zi_119 n xs o) := P0.nA pb_118 0 25
theorem pb_120 : P0 (zi_120 n xs o) := P0.sR pb_119 386 1036 (some 1037) (by decide)
theorem pb_121 : P0 (zi_121 n xs o) := P0.nO pb_120 5 3
theorem pb_122 : P0 (zi_122 n xs o) := P0.sI pb_121 160 1038 (0) (by decide)
theorem pb_123 : P0 (zi_123 n xs o) := P0.sR pb_122 161 1038 (some 4) (by decide)
theorem pb_124 : P0 (zi_124 n xs o) := P0.sR pb_123 387 1036 (some 1038) (by decide)
theorem pb_125 : P0 (zi_125 n xs o) := P0.nO pb_124 5 3
theorem pb_126 : P0 (zi_126 n xs o) := P0.sI pb_125 160 1039 (0) (by decide)
theorem pb_127 : P0 (zi_127 n xs o) := P0.sR pb_126 161 1039 (some 4) (by decide)
theorem pb_128 : P0 (zi_128 n xs o) := P0.sR pb_127 388 1036 (some 1039) (by decide)
theorem pb_129 : P0 (zi_129 n xs o) := P0.sQ pb_128 1027 2 (some 1036) (by decide)
theorem pb_130 : P0 (zi_130 n xs o) := P0.nO pb_129 12 7
theorem pb_131 : P0 (zi_131 n xs o) := P0.sI pb_130 384 1040 (250) (by decide)
theorem pb_132 : P0 (zi_132 n xs o) := P0.nA pb_131 0 25
theorem pb_133 : P0 (zi_133 n xs o) := P0.sR pb_132 386 1040 (some 1041) (by decide)
theorem pb_134 : P0 (zi_134 n xs o) := P0.nO pb_133 5 3
theorem pb_135 : P0 (zi_135 n xs o) := P0.sI pb_134 160 1042 (0) (by decide)
theorem pb_136 : P0 (zi_136 n xs o) := P0.sR pb_135 161 1042 (some 4) (by decide)
theorem pb_137 : P0 (zi_137 n xs o) := P0.sR pb_136 387 1040 (some 1042) (by decide)
theorem pb_138 : P0 (zi_138 n xs o) := P0.nO pb_137 5 3
theorem pb_139 : P0 (zi_139 n xs o) := P0.sI pb_138 160 1043 (0) (by decide)
theorem pb_140 : P0 (zi_140 n xs o) := P0.sR pb_139 161 1043 (some 4) (by decide)
theorem pb_141 : P0 (zi_141 n xs o) := P0.sR pb_140 388 1040 (some 1043) (by decide)
theorem pb_142 : P0 (zi_142 n xs o) := P0.sQ pb_141 1027 3 (some 1040) (by decide)
theorem pb_143 : P0 (zi_143 n xs o) := P0.sR pb_142 417 1026 (some 1027) (by decide)
theorem pb_144 : P0 (zi_144 n xs o) := P0.nA pb_143 0 100
theorem pb_145 : P0 (zi_145 n xs o) := P0.sR pb_144 418 1026 (some 1044) (by decide)
theorem pb_146 : P0 (zi_146 n xs o) := P0.sI pb_145 421 1026 (-1) (by decide)
theorem pb_147 : P0 (zi_147 n xs o) := P0.sI pb_146 422 1026 (3) (by decide)
theorem pb_148 : P0 (zi_148 n xs o) := P0.sI pb_147 424 1026 (-1) (by decide)
theorem pb_149 : P0 (zi_149 n xs o) := P0.sI pb_148 428 1026 (-1) (by decide)
theorem pb_150 : P0 (zi_150 n xs o) := P0.sI pb_149 429 1026 (-1) (by decide)
theorem pb_151 : P0 (zi_151 n xs o) := P0.sI pb_150 430 1026 (-1) (by decide)
theorem pb_152 : P0 (zi_152 n xs o) := P0.nO pb_151 10 3
end INIT
