/-! ===== PURE: the value by the reference, exactly, 2: over all partings ===== -/
theorem vwd_key : ∀ p, p < 4 → ∀ D, D < 4 → (if 0 ≤ ((nI p - nI D) ^^^ 4) then zmd (nI p - nI D) 4 else if zmd (nI p - nI D) 4 = 0 then zmd (nI p - nI D) 4 else zmd (nI p - nI D) 4 + 4) = nI ((p + 4 - D) % 4) := by decide
section XVR
variable {I : Nat → Nat → Int32} {J : Nat → Nat → Int64} {A : Nat → Nat → Int32} {M : zM} {h : Nat}
theorem x_wind (k : mK M 1026 = 13) {D p : Nat} (hD : mI M 424 1026 = nI D) (hD4 : D < 4) (hp4 : p < 4) : f_X7_wind 1026 (nI p) M = some (nI ((p + 4 - D) % 4), M) := by
  have key := vwd_key p hp4 D hD4
  unfold f_X7_wind f_X7_wind_0 f_J9_floorMod_7cf53 f_J9_floorMod_7cf53_0
  rw [e_gI 424 k, Option.bind_some, hD, if_neg (show ¬ (4 : Int32) = 0 by decide)]
  by_cases y : 0 ≤ ((nI p - nI D) ^^^ 4)
  · rw [if_pos y] at key
    rw [if_pos y, Option.bind_some, key]
  · rw [if_neg y] at key
    rw [if_neg y]
    by_cases z : zmd (nI p - nI D) 4 = 0
    · rw [if_pos z] at key
      rw [if_pos z, Option.bind_some, key]
    · rw [if_neg z] at key
      rw [if_neg z, Option.bind_some, key]
theorem x_valueOfThree (k : mK M 1026 = 13) {D p a : Nat} (hD : mI M 424 1026 = nI D) (hD4 : D < 4) (hp4 : p < 4) (ha : a < 100) : f_X7_valueOfThree 1026 (nI a) (nI p) M = some (nI (hv ((p + 4 - D) % 4) a), M) := by
  unfold f_X7_valueOfThree f_X7_valueOfThree_0 hv
  by_cases y : 22 ≤ a
  · rw [if_pos (le_t (x := 22) 22 a y (by omega)), if_pos y]
    rfl
  · have e18 : (18 : Int32) + nI ((p + 4 - D) % 4) = nI (18 + (p + 4 - D) % 4) := nI_add 18 _
    rw [if_neg (le_f (x := 22) 22 a (by omega) (by decide)), if_neg y, if_pos k, x_wind k hD hD4 hp4, Option.bind_some]
    dsimp only
    rw [e18]
    by_cases z : a = 18 + (p + 4 - D) % 4
    · rw [if_pos (congrArg nI z), if_pos z]
      rfl
    · rw [if_neg (eq_f a _ z (by omega) (by omega)), if_neg z]
      rfl
/-- a recursive call on fewer tiles: its answer -/
def VSPX (I : Nat → Nat → Int32) (J : Nat → Nat → Int64) (A : Nat → Nat → Int32) (M : zM) (h T p wd : Nat) (RC : Nat → Nat → Int32 → Int32 → Int32 → Int32 → zM → Option (Int32 × zM)) : Prop :=
  ∀ (g : Nat → Nat) (w : Nat → Int32), (∀ k, k < 25 → w k = nI (g k)) → (∀ k, k < 25 → g k < 1000) → sn g 0 25 < T → ∀ S t u : Nat, sn g 0 25 + 3 * S = 9 → t ≤ S → u + 3 * sn g 0 25 < 900 → ∃ w', RC 1026 h (nI p) (nI S) (nI t) (nI u) (cs I J (ur A h w) M) = some (enc (VR wd S t u g), cs I J (ur A h w') M) ∧ ∀ k, k < 25 → w' k = w k
theorem x_vs_106 (k : mK M 1026 = 13) (hk : mK M h = 100) (hl : mL M h = 25) {T p wd : Nat} (hwd : wd < 4) {RC : Nat → Nat → Int32 → Int32 → Int32 → Int32 → zM → Option (Int32 × zM)} (IH : VSPX I J A M h T p wd RC) {a : Nat} (ha : a < 25) {S t u : Nat} {o : Option Nat} (ho : osm o) {g : Nat → Nat} {w : Nat → Int32} (hw : ∀ k, k < 25 → w k = nI (g k)) (hg : ∀ k, k < 25 → g k < 1000) (hp : g a ≠ 0) (hs : sn g 0 25 < T + 1) (hS : sn g 0 25 + 3 * S = 9) (ht : t ≤ S) (hu : u + 3 * sn g 0 25 < 900) : ∃ w', f_X7_valueOfSets_106 RC 1026 h (nI p) (nI S) (nI t) (nI u) (nI a) (enc o) (cs I J (ur A h w) M) = some (enc (omx o (if rw_ a = true ∧ g (a + 1) ≠ 0 ∧ g (a + 2) ≠ 0 then VR wd (S + 1) t u (lr g a) else none)), cs I J (ur A h w') M) ∧ ∀ k, k < 25 → w' k = w k := by
  have on : omx o none = o := by cases o <;> rfl
  unfold f_X7_valueOfSets_106
  rw [q_isRun3 a (by omega), Option.bind_some]
  dsimp only
  by_cases r : rw_ a = true
  · have ha18 := rw_lt r
    have ha9 := rw_9 r
    have e1 : nI a + 1 = nI (a + 1) := nI_add a 1
    have e2 : nI a + 2 = nI (a + 2) := nI_add a 2
    rw [if_neg (show ¬ b32 (rw_ a) = 0 by rw [r]; decide), e1, lA_cs hk (by omega) (by omega), Option.bind_some, ur_at, hw (a + 1) (by omega)]
    have g1 := hg (a + 1) (by omega)
    have g2 := hg (a + 2) (by omega)
    by_cases z1 : g (a + 1) = 0
    · rw [if_neg (show ¬ (rw_ a = true ∧ g (a + 1) ≠ 0 ∧ g (a + 2) ≠ 0) from fun z => z.2.1 z1), on]
      exact ⟨w, by rw [z1, if_pos (show nI 0 = 0 from rfl)], fun _ _ => rfl⟩
    · rw [if_neg (eq_f (y := 0) (g (a + 1)) 0 z1 (by omega) (by decide)), e2, lA_cs hk (by omega) (by omega), Option.bind_some, ur_at, hw (a + 2) (by omega)]
      by_cases z2 : g (a + 2) = 0
      · rw [if_neg (show ¬ (rw_ a = true ∧ g (a + 1) ≠ 0 ∧ g (a + 2) ≠ 0) from fun z => z.2.2 z2), on]
        exact ⟨w, by rw [z2, if_pos (show nI 0 = 0 from rfl)], fun _ _ => rfl⟩
      · have hb : ∀ k, k < 25 → b3 w a (-1) k = nI (lr g a k) := fun k hk9 => by
          rw [b3_at]
          by_cases q : a ≤ k ∧ k ≤ a + 2
          · rw [if_pos q, hw k hk9]
            have hgk : g k ≠ 0 ∧ lr g a k = g k - 1 := by
              rcases (show k = a ∨ k = a + 1 ∨ k = a + 2 by omega) with q | q | q
              · subst q; exact ⟨hp, lr_0 g k⟩
              · subst q; exact ⟨z1, lr_1 g a⟩
              · subst q; exact ⟨z2, lr_2 g a⟩
            obtain ⟨j, hj⟩ : ∃ j, g k = j + 1 := ⟨g k - 1, by omega⟩
            rw [hgk.2, hj, pk_m1]
            rfl
          · rw [if_neg q, lr_n g (by omega)]
            exact hw k hk9
        have hsn := sn_lr g (by omega) hp z1 z2
        have hlg : ∀ k, k < 25 → lr g a k < 1000 := fun k hk9 => by
          have := hg k hk9
          by_cases q : a ≤ k ∧ k ≤ a + 2
          · have : lr g a k = g k - 1 := by
              rcases (show k = a ∨ k = a + 1 ∨ k = a + 2 by omega) with q | q | q
              · subst q; exact lr_0 g k
              · subst q; exact lr_1 g a
              · subst q; exact lr_2 g a
            omega
          · rw [lr_n g (by omega)]; exact this
        have es : nI S + 1 = nI (S + 1) := nI_1 S
        obtain ⟨w1, q1, q2⟩ := IH (lr g a) (b3 w a (-1)) hb hlg (by omega) (S + 1) t u (by omega) (by omega) (by omega)
        have m := x_maxo ho (VR_sm (S := S + 1) (t := t) hwd (show u < 1000 by omega) hlg) (cs I J (ur A h w1) M)
        rw [if_neg (eq_f (y := 0) (g (a + 2)) 0 z2 (by omega) (by decide)), if_pos (show rw_ a = true ∧ g (a + 1) ≠ 0 ∧ g (a + 2) ≠ 0 from ⟨r, z1, z2⟩), r_vs_139 hk hl RC (by omega), if_pos (show mK (cs I J _ M) 1026 = 13 from k), es, q1, Option.bind_some]
        dsimp only
        rw [m, Option.bind_some]
        dsimp only
        rw [r_vs_185 hk hl RC (by omega)]
        refine ⟨_, rfl, fun k hk9 => ?_⟩
        rw [b3_at]
        by_cases q : a ≤ k ∧ k ≤ a + 2
        · rw [if_pos q, q2 k hk9, b3_at, if_pos q, Int32.add_assoc]
          exact Int32.add_zero _
        · rw [if_neg q, q2 k hk9, b3_at, if_neg q]
  · have r' : rw_ a = false := by cases hx : rw_ a; rfl; exact absurd hx r
    rw [if_neg (show ¬ (rw_ a = true ∧ g (a + 1) ≠ 0 ∧ g (a + 2) ≠ 0) from fun z => r z.1), on]
    exact ⟨w, by rw [r', if_pos (show b32 false = 0 from rfl)], fun _ _ => rfl⟩
theorem x_vs_3 (hk : mK M h = 100) (hl : mL M h = 25) (RC : Nat → Nat → Int32 → Int32 → Int32 → Int32 → zM → Option (Int32 × zM)) (x y z u : Int32) {g : Nat → Nat} {w : Nat → Int32} (hw : ∀ k, k < 25 → w k = nI (g k)) (hg : ∀ k, k < 25 → g k < 1000) : ∀ (d n i : Nat), i + d = 25 → d < n → (∀ j, j < i → g j = 0) → ∃ a, a ≤ 25 ∧ (∀ j, j < a → g j = 0) ∧ (a < 25 → g a ≠ 0) ∧ f_X7_valueOfSets_3 RC n 1026 h x y z u (nI i) (cs I J (ur A h w) M) = f_X7_valueOfSets_23 RC 1026 h x y z u (nI a) (cs I J (ur A h w) M) := by
  intro d
  induction d with
  | zero =>
    intro n i hi hn hz
    obtain ⟨n, rfl⟩ : ∃ m, n = m + 1 := ⟨n - 1, by omega⟩
    refine ⟨i, by omega, hz, fun q => by omega, ?_⟩
    rw [f_X7_valueOfSets_3, if_pos (le_t (x := 25) 25 i (by omega) (by omega))]
  | succ d ih =>
    intro n i hi hn hz
    obtain ⟨n, rfl⟩ : ∃ m, n = m + 1 := ⟨n - 1, by omega⟩
    have hgi := hg i (by omega)
    rw [f_X7_valueOfSets_3, if_neg (le_f (x := 25) 25 i (by omega) (by decide)), lA_cs hk (by omega) (by omega), Option.bind_some, ur_at, hw i (by omega)]
    by_cases z : g i = 0
    · rw [z, if_pos (show nI 0 = 0 from rfl), nI_1]
      exact ih n (i + 1) (by omega) (by omega) (fun j hj => by
        by_cases y : j = i
        · rw [y]; exact z
        · exact hz j (by omega))
    · exact ⟨i, by omega, hz, fun _ => z, by rw [if_neg (eq_f (y := 0) (g i) 0 z (by omega) (by decide))]⟩
theorem hv_le (wd k : Nat) : hv wd k ≤ 1 := by
  unfold hv
  repeat' split
  all_goals omega
theorem x_valueOfSets (k : mK M 1026 = 13) (hk : mK M h = 100) (hl : mL M h = 25) {D p : Nat} (hD : I 424 1026 = nI D) (hD4 : D < 4) (hp4 : p < 4) : ∀ (T n : Nat), T ≤ n → VSPX I J A M h T p ((p + 4 - D) % 4) (f_X7_valueOfSets n) := by
  have hwd : (p + 4 - D) % 4 < 4 := Nat.mod_lt _ (by decide)
  intro T
  induction T with
  | zero => exact fun n hn g w hw hg hs => absurd hs (Nat.not_lt_zero _)
  | succ T ih =>
    intro n hn g w hw hg hs S t u hS ht hu
    obtain ⟨n, rfl⟩ : ∃ m, n = m + 1 := ⟨n - 1, by omega⟩
    have IH := ih n (by omega)
    rw [f_X7_valueOfSets]
    unfold f_X7_valueOfSets_0
    obtain ⟨a, a1, az, a2, a3⟩ := x_vs_3 (I := I) (J := J) (A := A) (M := M) hk hl (f_X7_valueOfSets n) (nI p) (nI S) (nI t) (nI u) hw hg 25 zN 0 rfl (by decide) (fun j hj => absurd hj (Nat.not_lt_zero _))
    have a3' : f_X7_valueOfSets_3 (f_X7_valueOfSets n) zN 1026 h (nI p) (nI S) (nI t) (nI u) 0 (cs I J (ur A h w) M) = f_X7_valueOfSets_23 (f_X7_valueOfSets n) 1026 h (nI p) (nI S) (nI t) (nI u) (nI a) (cs I J (ur A h w) M) := a3
    rw [a3']
    unfold f_X7_valueOfSets_23
    by_cases a25 : a = 25
    · subst a25
      refine ⟨w, ?_, fun _ _ => rfl⟩
      rw [if_pos (show nI 25 = 25 from rfl), ← VR_end hwd g az hS]
      by_cases c : S = 3
      · rw [if_pos (show nI S = 3 by rw [c]; rfl), if_pos c]
        by_cases c2 : t = 3
        · rw [if_pos (show nI t = 3 by rw [c2]; rfl), if_pos c2]
          exact congrArg (fun z => some (z, cs I J (ur A h w) M)) (nI_add u 2)
        · rw [if_neg (eq_f (y := 3) t 3 c2 (by omega) (by decide)), if_neg c2]
          exact congrArg (fun z => some (z, cs I J (ur A h w) M)) (nI_add u 0)
      · rw [if_neg (eq_f (y := 3) S 3 c (by omega) (by decide)), if_neg c]
        rfl
    · have ha : a < 25 := by omega
      have hp := a2 ha
      have hga := hg a ha
      rw [if_neg (eq_f (y := 25) a 25 a25 (by omega) (by decide)), lA_cs hk (by omega) (by omega), Option.bind_some, ur_at, hw a ha, ← VR_step hwd ha g az hp ht]
      by_cases g3 : g a < 3
      · rw [if_pos (lt_t (y := 3) (g a) 3 g3 (by decide)), if_neg (show ¬ 3 ≤ g a by omega)]
        exact x_vs_106 k hk hl hwd IH ha (o := none) (fun b hb => by cases hb) hw hg hp hs hS ht hu
      · have em : nI (g a) - 3 = nI (g a - 3) := pk_sub (a := g a) (b := 3) (by omega)
        have eb : nI (g a - 3) + 3 = nI (g a) := (nI_add (g a - 3) 3).trans (congrArg nI (by omega))
        have hsn := sn_u1 g a (g a - 3) 25 0 (Nat.zero_le _) (by omega)
        have lv := hv_le ((p + 4 - D) % 4) a
        have g3g : ∀ k, k < 25 → u1 g a (g a - 3) k < 1000 := fun k hk9 => by
          have := hg k hk9
          by_cases q : k = a
          · rw [q, u1_at]; omega
          · rw [u1_ne _ _ q]; exact this
        have q1 := x_valueOfThree (M := cs I J (ur A h (u1 w a (nI (g a - 3)))) M) (a := a) k hD hD4 hp4 (by omega)
        obtain ⟨w2, q2, q3⟩ := IH (u1 g a (g a - 3)) (u1 w a (nI (g a - 3))) (fun k hk9 => by
          by_cases q : k = a
          · rw [q, u1_at, u1_at]
          · rw [u1_ne _ _ q, u1_ne _ _ q, hw k hk9]) g3g (by omega) (S + 1) (t + 1) (u + hv ((p + 4 - D) % 4) a) (by omega) (by omega) (by omega)
        rw [if_neg (lt_f (y := 3) (g a) 3 (by omega) (by omega)), if_pos (show 3 ≤ g a by omega), Option.bind_some, em, tA_cs hk (by omega) (by omega), Option.bind_some, u2_ur, if_pos (show mK (cs I J _ M) 1026 = 13 from k), q1, Option.bind_some]
        dsimp only
        rw [if_pos (show mK (cs I J _ M) 1026 = 13 from k), nI_1, nI_1, nI_add, q2, Option.bind_some]
        dsimp only
        have hw3 : ∀ k, k < 25 → u1 w2 a (nI (g a)) k = w k := fun k hk9 => by
          by_cases q : k = a
          · rw [q, u1_at, hw a ha]
          · rw [u1_ne _ _ q, q3 k hk9, u1_ne _ _ q]
        rw [lA_cs hk (by omega) (by omega), Option.bind_some, ur_at, q3 a ha, u1_at, eb, tA_cs hk (by omega) (by omega), Option.bind_some, u2_ur]
        obtain ⟨w4, q4, q5⟩ := x_vs_106 k hk hl hwd IH ha (VR_sm (S := S + 1) (t := t + 1) hwd (show u + hv ((p + 4 - D) % 4) a < 1000 by omega) g3g) (g := g) (w := u1 w2 a (nI (g a))) (fun k hk9 => (hw3 k hk9).trans (hw k hk9)) hg hp hs hS ht hu
        exact ⟨w4, q4, fun k hk9 => (q5 k hk9).trans (hw3 k hk9)⟩
end XVR
section XVALU
variable {M M0 : zM} {P h l d N : Nat} {v : Nat → Nat}
theorem x_value_80 {I : Nat → Nat → Int32} {J : Nat → Nat → Int64} {A : Nat → Nat → Int32} {lk D p : Nat} (hb : VB (cs I J A M) P h l d N v lk) (hD : I 424 1026 = nI D) (hD4 : D < 4) (hp4 : p < 4) {cl : Bool} (hcl : I 390 P = b32 cl) (al : Bool) {g : Nat → Nat} (hg : ∀ k, k < 25 → g k ≤ 5) (hs : sn g 0 25 + 3 * N = 11) {t u Y : Nat} (ht : t ≤ N) (hu : u ≤ 10) (hY9 : Y < 1000) : ∀ (e n i : Nat) (o : Option Nat) (w : Nat → Int32), i + e = 25 → e < n → osm o → (∀ k, k < 25 → w k = nI (g k)) → vpl ((p + 4 - D) % 4) N t u g e i o = some Y → ∃ w' M', f_X7_value_80 n 1026 (nI p) (b32 al) P (nI t) (nI u) (enc o) (nI i) (cs I J (ur A h w) M) = some (nI (min 12 (Y + vtl al cl (sn (fun j => if v j / 100 = 3 then 0 else 1) 0 N) lk (alk g v N))), M') ∧ (∀ k, k < 25 → w' k = w k) ∧ KM 28 154 (cs I J (ur A h w') M) M' := by
  have hwd : (p + 4 - D) % 4 < 4 := Nat.mod_lt _ (by decide)
  have hh := hb.2.1
  have hh1 : mK M h = 100 := hh.1
  have hh2 : mL M h = 25 := hh.2.1
  have hP : mK M P = 12 := hb.1.1
  have hP2 : mR M 386 P = some h := hb.1.2.1
  have hP3 : mR M 387 P = some l := hb.1.2.2.1
  have k : mK M 1026 = 13 := hb.2.2.2.2.1
  have hl1 : mK M l = 5 := hb.2.2.1.1.1
  have hl3 : I 162 l = nI N := hb.2.2.1.1.2.2.1
  have hN64 : N ≤ 64 := hb.2.2.1.1.2.2.2.2
  intro e
  induction e with
  | zero =>
    intro n i o w hi hn ho hw hY
    obtain ⟨n, rfl⟩ : ∃ m, n = m + 1 := ⟨n - 1, by omega⟩
    obtain ⟨M', q1, q2⟩ := x_valueOfTiles (M := cs I J (ur A h w) M) (g := g) hb.row (fun k hk9 => by have := hg k hk9; omega) (fun k hk9 => (ur_at A h k w).trans (hw k hk9)) (cl := cl) hcl al
    have eo : o = some Y := hY
    subst eo
    have l9 : vtl al cl (sn (fun j => if v j / 100 = 3 then 0 else 1) 0 N) lk (alk g v N) < 100000 := by
      have a0 := hb.2.2.2.2.2.2.1
      have a1 := hg lk a0
      have a2 := sn_le (fun j => tlN (v j / 100) (v j % 100) lk) 4 N 0 (fun j _ _ => by
        show tlN (v j / 100) (v j % 100) lk ≤ 4
        unfold tlN
        repeat' split
        all_goals omega)
      have a3 : vos (alk g v N) ≤ 4 := by
        unfold vos
        repeat' split
        all_goals omega
      unfold vtl
      have a4 : alk g v N lk ≤ 5 + 64 * 4 := by
        unfold alk lys
        omega
      repeat' split
      all_goals omega
    have e12 : f_J9_min_7cf53 12 (nI (Y + vtl al cl (sn (fun j => if v j / 100 = 3 then 0 else 1) 0 N) lk (alk g v N))) M' = some (nI (min 12 (Y + vtl al cl (sn (fun j => if v j / 100 = 3 then 0 else 1) 0 N) lk (alk g v N))), M') := x_minN (a := 12) (by decide) (by omega) _
    refine ⟨w, M', ?_, fun _ _ => rfl, q2⟩
    rw [f_X7_value_80, if_pos (le_t (x := 25) 25 i (by omega) (by omega)), if_pos (show mK (cs I J (ur A h w) M) 1026 = 13 from k), q1, Option.bind_some]
    show (f_J9_min_7cf53 12 (nI Y + nI (vtl al cl (sn (fun j => if v j / 100 = 3 then 0 else 1) 0 N) lk (alk g v N))) M').bind _ = _
    rw [nI_add, e12, Option.bind_some]
  | succ e ih =>
    intro n i o w hi hn ho hw hY
    obtain ⟨n, rfl⟩ : ∃ m, n = m + 1 := ⟨n - 1, by omega⟩
    have hgi := hg i (by omega)
    rw [vpl] at hY
    rw [f_X7_value_80, if_neg (le_f (x := 25) 25 i (by omega) (by decide)), gR_cs 386 hP hP2, Option.bind_some, lA_cs hh1 (by omega) (by omega), Option.bind_some, ur_at, hw i (by omega)]
    by_cases z2 : g i < 2
    · rw [if_neg (by omega)] at hY
      rw [if_pos (lt_t (y := 2) (g i) 2 z2 (by decide)), nI_1]
      exact ih n (i + 1) o w (by omega) (by omega) ho hw hY
    · rw [if_pos (by omega)] at hY
      have em : nI (g i) - 2 = nI (g i - 2) := pk_sub (a := g i) (b := 2) (by omega)
      have eb : nI (g i - 2) + 2 = nI (g i) := (nI_add (g i - 2) 2).trans (congrArg nI (by omega))
      have hsn := sn_u1 g i (g i - 2) 25 0 (Nat.zero_le _) (by omega)
      have gg : ∀ k, k < 25 → u1 g i (g i - 2) k < 1000 := fun k hk9 => by
        have := hg k hk9
        by_cases q : k = i
        · rw [q, u1_at]; omega
        · rw [u1_ne _ _ q]; omega
      obtain ⟨w1, q1, q2⟩ := x_valueOfSets (I := I) (J := J) (A := A) (M := M) k hh1 hh2 hD hD4 hp4 64 zR (Nat.le_refl _) (u1 g i (g i - 2)) (u1 w i (nI (g i - 2))) (fun k hk9 => by
        by_cases q : k = i
        · rw [q, u1_at, u1_at]
        · rw [u1_ne _ _ q, u1_ne _ _ q, hw k hk9]) gg (by omega) N t u (by omega) ht (by omega)
      have osv := VR_sm (S := N) (t := t) hwd (show u < 1000 by omega) gg
      have q3 := x_maxo ho osv (cs I J (ur A h w1) M)
      have hw3 : ∀ k, k < 25 → u1 w1 i (nI (g i)) k = w k := fun k hk9 => by
        by_cases q : k = i
        · rw [q, u1_at, hw i (by omega)]
        · rw [u1_ne _ _ q, q2 k hk9, u1_ne _ _ q]
      obtain ⟨w', M', t1, t2, t3⟩ := ih n (i + 1) _ (u1 w1 i (nI (g i))) (by omega) (by omega) (omx_sm ho osv) (fun k hk9 => (hw3 k hk9).trans (hw k hk9)) hY
      refine ⟨w', M', ?_, fun k hk9 => (t2 k hk9).trans (hw3 k hk9), t3⟩
      rw [if_neg (lt_f (y := 2) (g i) 2 (by omega) (by omega)), Option.bind_some, lA_cs hh1 (by omega) (by omega), Option.bind_some, ur_at, hw i (by omega), em, tA_cs hh1 (by omega) (by omega), Option.bind_some, u2_ur, gR_cs 386 hP hP2, Option.bind_some, gR_cs 387 hP hP3, Option.bind_some, if_pos (show mK (cs I J _ M) l = 5 from hl1), r_size hl1 hl3, Option.bind_some]
      dsimp only
      rw [if_pos (show mK (cs I J _ M) 1026 = 13 from k), q1, Option.bind_some]
      dsimp only
      rw [q3, Option.bind_some]
      dsimp only
      rw [gR_cs 386 hP hP2, Option.bind_some, lA_cs hh1 (by omega) (by omega), Option.bind_some, ur_at, q2 i (by omega), u1_at, eb, tA_cs hh1 (by omega) (by omega), Option.bind_some, u2_ur, nI_1, t1]
/-- what the sets that lie give -/
def vty (v : Nat → Nat) (N : Nat) : Nat := sn (fun j => if v j / 100 = 1 then 0 else 1) 0 N
def vuy (wd : Nat) (v : Nat → Nat) (N : Nat) : Nat := sn (fun j => if v j / 100 = 1 then 0 else hv wd (v j % 100)) 0 N
theorem x_value_22 {lk D p : Nat} (hb0 : VB M0 P h l d N v lk) (hD : mI M0 424 1026 = nI D) (hD4 : D < 4) (hp4 : p < 4) (hN3 : N ≤ 3) {cl : Bool} (hcl : mI M0 390 P = b32 cl) (al : Bool) {g : Nat → Nat} (hg : ∀ k, k < 25 → g k ≤ 5) (hs : sn g 0 25 + 3 * N = 11) (hw0 : ∀ k, k < 25 → mA M0 h k = nI (g k)) {Y : Nat} (hY9 : Y < 1000) (hY : vpl ((p + 4 - D) % 4) N (vty v N) (vuy ((p + 4 - D) % 4) v N) g 25 0 none = some Y) : ∀ (e n cc : Nat) (M : zM), cc + e = N → e < n → KM 1 4 M0 M → IT M (mX M0) l cc → ∃ M', f_X7_value_22 n 1026 (nI p) (b32 al) P (nI (vty v cc)) (nI (vuy ((p + 4 - D) % 4) v cc)) (mX M0) M = some (nI (min 12 (Y + vtl al cl (sn (fun j => if v j / 100 = 3 then 0 else 1) 0 N) lk (alk g v N))), M') ∧ KM 29 158 M0 M' := by
  intro e
  induction e with
  | zero =>
    intro n cc M hc hn hk hi
    obtain ⟨n, rfl⟩ : ∃ m, n = m + 1 := ⟨n - 1, by omega⟩
    obtain rfl : cc = N := by omega
    have hb := hb0.km hk
    obtain ⟨⟨l1, l2, l3, l4, l5⟩, -⟩ := hb.2.2.1
    have hh := hb.2.1
    have hw : ∀ k, k < 25 → mA M h k = nI (g k) := fun k hk9 => ((hk.2 h hb0.2.1.2.2).2.2.2.2.2.1 k (by rw [hb0.2.1.2.1]; exact hk9)).trans (hw0 k hk9)
    have hD' : mI M 424 1026 = nI D := ((hk.2 1026 hb0.2.2.2.2.2.2.2).2.2.1 424).trans hD
    have hcl' : mI M 390 P = b32 cl := ((hk.2 P hb0.1.2.2.2).2.2.1 390).trans hcl
    have lt : vty v cc ≤ cc := sn_le1 (fun j => if v j / 100 = 1 then 0 else 1) (fun j => by split <;> omega) cc 0
    have lu : vuy ((p + 4 - D) % 4) v cc ≤ cc := sn_le1 (fun j => if v j / 100 = 1 then 0 else hv ((p + 4 - D) % 4) (v j % 100)) (fun j => by
      have := hv_le ((p + 4 - D) % 4) (v j % 100)
      split <;> omega) cc 0
    obtain ⟨w', M', t1, t2, t3⟩ := x_value_80 (I := mI M) (J := mJ M) (A := mA M) (M := M) hb hD' hD4 hp4 hcl' al hg hs lt (show vuy ((p + 4 - D) % 4) v cc ≤ 10 by omega) hY9 25 zN 0 none (mA M h) rfl (by decide) (fun b hb => by cases hb) hw hY
    rw [ur_self] at t1
    have kk : KM 0 0 (cs (mI M) (mJ M) (ur (mA M) h (mA M h)) M) (cs (mI M) (mJ M) (ur (mA M) h w') M) := KM_ur (fun k hk9 => t2 k (by rw [hh.2.1] at hk9; exact hk9))
    rw [ur_self] at kk
    refine ⟨M', ?_, (hk.tr (kk.tr t3)).w (by decide) (by decide)⟩
    rw [f_X7_value_22, if_pos hi.1, r_hasNext hi l1 l3 (by omega) (by omega), Option.bind_some, if_pos rfl]
    dsimp only
    rw [if_pos rfl]
    exact t1
  | succ e ih =>
    intro n cc M hc hn hk hi
    obtain ⟨n, rfl⟩ : ∃ m, n = m + 1 := ⟨n - 1, by omega⟩
    have hb := hb0.km hk
    obtain ⟨⟨l1, l2, l3, l4, l5⟩, l6, l7⟩ := hb.2.2.1
    obtain ⟨d1, d2, d3, d4⟩ := l6 (by omega)
    obtain ⟨o, o1, o2, o3, o4, o5⟩ := l7 cc (by omega)
    -- the set was there ahead of the iterator
    obtain ⟨b1, b6, b7⟩ := hb0.2.2.1
    obtain ⟨o', p1, p2, p3, -, -⟩ := b7 cc (by omega)
    have ed := (hk.2 d (b6 (by omega)).2.2.2).2.2.2.2.2.2
    have eo : o = o' := by
      rw [ed, p1] at o1
      exact (Option.some.inj o1).symm
    have oX : o < mX M0 := by rw [eo]; exact p3
    obtain ⟨e1, e2⟩ := r_next hi l1 l3 (by omega) l2 d1 d2 d3 (by omega) o1
    have o22 : mK (sI (sI M 128 (mX M0) (nI (cc + 1))) 129 (mX M0) (nI cc)) o = 11 := o2
    have k13 : mK (sI (sI M 128 (mX M0) (nI (cc + 1))) 129 (mX M0) (nI cc)) 1026 = 13 := hb.2.2.2.2.1
    have ne : ∀ {q b : Nat}, b < mX M0 → mI (sI (sI M 128 (mX M0) (nI (cc + 1))) 129 (mX M0) (nI cc)) q b = mI M q b := fun hb9 => (if_neg (fun z => by have := z.2; omega)).trans (if_neg (fun z => by have := z.2; omega))
    have o44 := (ne oX).trans o4
    have o55 := (ne oX).trans o5
    have hD' : mI (sI (sI M 128 (mX M0) (nI (cc + 1))) 129 (mX M0) (nI cc)) 424 1026 = nI D := (ne hb0.2.2.2.2.2.2.2).trans (((hk.2 1026 hb0.2.2.2.2.2.2.2).2.2.1 424).trans hD)
    have hk2 : KM 1 4 M0 (sI (sI M 128 (mX M0) (nI (cc + 1))) 129 (mX M0) (nI cc)) := (hk.sI (Nat.le_refl _) _ _).sI (Nat.le_refl _) _ _
    have v400 := hb.2.2.2.1 cc (by omega)
    have et : vty v (cc + 1) = vty v cc + (if v cc / 100 = 1 then 0 else 1) := by
      unfold vty
      rw [sn_last, Nat.zero_add]
    have eu : vuy ((p + 4 - D) % 4) v (cc + 1) = vuy ((p + 4 - D) % 4) v cc + (if v cc / 100 = 1 then 0 else hv ((p + 4 - D) % 4) (v cc % 100)) := by
      unfold vuy
      rw [sn_last, Nat.zero_add]
    generalize sI (sI M 128 (mX M0) (nI (cc + 1))) 129 (mX M0) (nI cc) = M2 at *
    obtain ⟨M', r1, r2⟩ := ih n (cc + 1) M2 (by omega) (by omega) hk2 e2
    refine ⟨M', ?_, r2⟩
    rw [f_X7_value_22, if_pos hi.1, r_hasNext hi l1 l3 (by omega) (by omega), Option.bind_some, if_neg (show ¬ cc = N by omega)]
    dsimp only
    rw [if_neg (show ¬ (1 : Int32) = 0 by decide), if_pos hi.1, e1, Option.bind_some]
    dsimp only
    rw [if_pos (Or.inl o22), e_gI 353 o22, Option.bind_some, o55]
    rw [et, eu] at r1
    by_cases y : v cc / 100 = 1
    · rw [if_pos y, if_pos y, Nat.add_zero, Nat.add_zero] at r1
      rw [if_pos (show nI (v cc / 100) = 1 by rw [y]; rfl)]
      exact r1
    · rw [if_neg y, if_neg y] at r1
      rw [if_neg (eq_f (y := 1) (v cc / 100) 1 y (by omega) (by decide)), e_gI 352 o22, Option.bind_some, o44, if_pos k13, x_valueOfThree k13 hD' hD4 hp4 (by omega), Option.bind_some]
      dsimp only
      rw [nI_1, nI_add]
      exact r1
/-- the value by the reference -/
theorem x_valueR {p lk D : Nat} (hb : VB M P h l d N v lk) (h417 : mR M 417 1026 = some 1027) (hq : lQ 2 M 1027 (nI p) = some P) (hD : mI M 424 1026 = nI D) (hD4 : D < 4) (hp4 : p < 4) (hN3 : N ≤ 3) {cl : Bool} (hcl : mI M 390 P = b32 cl) (al : Bool) {g : Nat → Nat} (hg : ∀ k, k < 25 → g k ≤ 5) (hs : sn g 0 25 + 3 * N = 11) (hw : ∀ k, k < 25 → mA M h k = nI (g k)) {Y : Nat} (hY9 : Y < 1000) (hY : vpl ((p + 4 - D) % 4) N (vty v N) (vuy ((p + 4 - D) % 4) v N) g 25 0 none = some Y) : ∃ M', f_X7_value 1026 (nI p) (b32 al) M = some (nI (min 12 (Y + vtl al cl (sn (fun j => if v j / 100 = 3 then 0 else 1) 0 N) lk (alk g v N))), M') ∧ KM 29 158 M M' := by
  obtain ⟨⟨l1, l2, l3, l4, l5⟩, -⟩ := hb.2.2.1
  obtain ⟨M1, e1, i1, k1⟩ := r_iter l1 l4
  obtain ⟨M', t1, t2⟩ := x_value_22 hb hD hD4 hp4 hN3 hcl al hg hs hw hY9 hY N zN 0 M1 (by omega) (by show N < 130; omega) k1 i1
  refine ⟨M', ?_, t2⟩
  unfold f_X7_value f_X7_value_0
  rw [e_gR 417 hb.2.2.2.2.1 h417, Option.bind_some, hq, Option.bind_some, e_gR 387 hb.1.1 hb.1.2.2.1, Option.bind_some, if_pos l1, e1, Option.bind_some]
  exact t1
/-- sets as they can lie: rows of a suit, kinds -/
def VOK (v : Nat → Nat) (N : Nat) : Prop := ∀ j, j < N → v j % 100 < 25 ∧ (v j / 100 = 1 → v j % 100 + 2 < 18)
/-- an honour: a three lies, or is in hand -/
theorem ge3_hon (hv0 : VOK v N) {g : Nat → Nat} {k : Nat} (hk : 18 ≤ k) (h5 : alk g v N k ≤ 5) : ge3 (alk g v N k) = sn (fun j => if v j / 100 = 1 then 0 else if v j % 100 = k then 1 else 0) 0 N + ge3 (g k) := by
  have key : ∀ d i, i + d = N → 3 * sn (fun j => if v j / 100 = 1 then 0 else if v j % 100 = k then 1 else 0) i d ≤ sn (fun j => tlN (v j / 100) (v j % 100) k) i d ∧ sn (fun j => tlN (v j / 100) (v j % 100) k) i d ≤ 4 * sn (fun j => if v j / 100 = 1 then 0 else if v j % 100 = k then 1 else 0) i d := by
    intro d
    induction d with
    | zero => exact fun i _ => ⟨Nat.le_refl _, Nat.le_refl _⟩
    | succ d ih =>
      intro i hi
      obtain ⟨a, b⟩ := ih (i + 1) (by omega)
      have h0 := hv0 i (by omega)
      have one : 3 * (if v i / 100 = 1 then 0 else if v i % 100 = k then 1 else 0) ≤ tlN (v i / 100) (v i % 100) k ∧ tlN (v i / 100) (v i % 100) k ≤ 4 * (if v i / 100 = 1 then 0 else if v i % 100 = k then 1 else 0) := by
        unfold tlN
        by_cases y : v i / 100 = 1
        · have := h0.2 y
          rw [if_pos y, if_pos y, if_neg (show ¬ k < v i % 100 by omega), if_pos (show v i % 100 + 2 < k by omega)]
          exact ⟨Nat.le_refl _, Nat.le_refl _⟩
        · rw [if_neg y, if_neg y]
          by_cases z : v i % 100 = k
          · rw [if_pos z, if_pos z.symm]
            split <;> omega
          · rw [if_neg z, if_neg (fun q => z q.symm)]
            exact ⟨Nat.le_refl _, Nat.le_refl _⟩
      rw [sn, sn]
      omega
  obtain ⟨a, b⟩ := key N 0 (by omega)
  unfold alk lys at h5
  unfold ge3 alk lys
  repeat' split
  all_goals omega
theorem vuy_eq {wd : Nat} (hwd : wd < 4) (hv0 : VOK v N) : vuy wd v N = sn (fun j => if v j / 100 = 1 then 0 else if v j % 100 = 22 then 1 else 0) 0 N + sn (fun j => if v j / 100 = 1 then 0 else if v j % 100 = 23 then 1 else 0) 0 N + sn (fun j => if v j / 100 = 1 then 0 else if v j % 100 = 24 then 1 else 0) 0 N + sn (fun j => if v j / 100 = 1 then 0 else if v j % 100 = 18 + wd then 1 else 0) 0 N := by
  unfold vuy
  rw [← sn_pl, ← sn_pl, ← sn_pl]
  refine sn_eq N 0 fun j _ hj => ?_
  have := (hv0 j (by omega)).1
  unfold hv
  repeat' split
  all_goals omega
theorem vty_N : vty v N = N ↔ nrow v N = true := by
  have key : ∀ N, (vty v N = N ↔ ∀ j, j < N → v j / 100 ≠ 1) ∧ vty v N ≤ N := by
    intro N
    induction N with
    | zero => exact ⟨⟨fun _ j hj => absurd hj (Nat.not_lt_zero _), fun _ => rfl⟩, Nat.le_refl _⟩
    | succ N ih =>
      have e : vty v (N + 1) = vty v N + (if v N / 100 = 1 then 0 else 1) := by
        unfold vty
        rw [sn_last, Nat.zero_add]
      rw [e]
      by_cases y : v N / 100 = 1
      · rw [if_pos y]
        refine ⟨⟨fun z => by have := ih.2; omega, fun z => absurd y (z N (Nat.lt_succ_self _))⟩, by have := ih.2; omega⟩
      · rw [if_neg y]
        refine ⟨⟨fun z j hj => ?_, fun z => ?_⟩, by have := ih.2; omega⟩
        · by_cases w : j = N
          · rw [w]; exact y
          · exact ih.1.mp (by omega) j (by omega)
        · have := ih.1.mpr (fun j hj => z j (by omega))
          omega
  exact (key N).1.trans ⟨fun z => decide_eq_true z, fun z => of_decide_eq_true z⟩
/-- both give the same -/
theorem val_eq {wd : Nat} (hwd : wd < 4) (hv0 : VOK v N) {g : Nat → Nat} (hc : cmp 25 0 g = true) (h5 : ∀ k, k < 25 → alk g v N k ≤ 5) (al cl : Bool) (op lk : Nat) : ∃ Y, Y < 1000 ∧ vpl wd N (vty v N) (vuy wd v N) g 25 0 none = some Y ∧ min 12 (Y + vtl al cl op lk (alk g v N)) = min (vsum al cl op lk wd (alk g v N) (wrc g v N 0 0 25)) 12 := by
  have h5g : ∀ k, 18 ≤ k → k < 25 → g k ≤ 5 := fun k _ hk => by
    have := h5 k hk
    unfold alk at this
    omega
  have eY := vpl_val (S := N) (t := vty v N) (u := vuy wd v N) hwd hc h5g
  have s1 := ge3_hon hv0 (g := g) (k := 22) (by decide) (h5 22 (by decide))
  have s2 := ge3_hon hv0 (g := g) (k := 23) (by decide) (h5 23 (by decide))
  have s3 := ge3_hon hv0 (g := g) (k := 24) (by decide) (h5 24 (by decide))
  have s4 := ge3_hon hv0 (g := g) (k := 18 + wd) (by omega) (h5 _ (by omega))
  have su := vuy_eq hwd hv0
  have ew : (if wr3 g = true ∧ vty v N = N then 2 else 0) = (if wrc g v N 0 0 25 = true then 2 else 0) := by
    have iff : (wr3 g = true ∧ vty v N = N) ↔ wrc g v N 0 0 25 = true := by
      unfold wrc
      rw [Bool.and_eq_true, dcl_iff, wr3_iff, vty_N, Nat.zero_add]
      exact ⟨fun z => ⟨⟨fun k _ hk => z.1.1 k hk, z.1.2⟩, z.2⟩, fun z => ⟨⟨fun k hk => z.1.1 k (Nat.zero_le _) hk, z.1.2⟩, z.2⟩⟩
    by_cases y : wr3 g = true ∧ vty v N = N
    · rw [if_pos y, if_pos (iff.mp y)]
    · rw [if_neg y, if_neg (fun z => y (iff.mpr z))]
  rw [ew] at eY
  have g1 := ge3_le (g 22)
  have g2 := ge3_le (g 23)
  have g3 := ge3_le (g 24)
  have g4 := ge3_le (g (18 + wd))
  have k1 := ge3_le (alk g v N 22)
  have k2 := ge3_le (alk g v N 23)
  have k3 := ge3_le (alk g v N 24)
  have k4 := ge3_le (alk g v N (18 + wd))
  refine ⟨_, ?_, eY, ?_⟩
  · split <;> omega
  · rw [Nat.min_comm]
    refine congrArg (fun z => min z 12) ?_
    unfold vtl vsum
    omega
end XVALU
