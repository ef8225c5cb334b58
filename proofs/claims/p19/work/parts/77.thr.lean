/-! ===== THROWN: what a method of the class may throw ===== -/
def KX {α : Type} (L : List String) (x : Option ((String ⊕ α) × zM)) : Prop := ∀ r, x = some r → ∀ E, r.1 = .inl E → E ∈ L
section KXS
variable {α β : Type} {L : List String}
theorem KX.n : KX L (none : Option ((String ⊕ α) × zM)) := fun r h => nomatch h
theorem KX.r {v : α} {M : zM} : KX L (some (Sum.inr v, M)) := fun r h E e => by
  cases h
  cases e
theorem KX.l {E : String} {M : zM} (hE : E ∈ L) : KX L (some ((Sum.inl E : String ⊕ α), M)) := fun r h E e => by
  cases h
  cases e
  exact hE
theorem KX.i {c : Prop} [Decidable c] {x y : Option ((String ⊕ α) × zM)} (h1 : KX L x) (h2 : KX L y) : KX L (if c then x else y) := by
  by_cases h : c
  · rw [if_pos h]; exact h1
  · rw [if_neg h]; exact h2
theorem KX.b {x : Option β} {f : β → Option ((String ⊕ α) × zM)} (h : ∀ v, KX L (f v)) : KX L (x.bind f) := by
  cases x with
  | none => exact KX.n
  | some v => exact h v
theorem KX.xb {x : Option ((String ⊕ β) × zM)} {f : β → zM → Option ((String ⊕ α) × zM)} (hx : KX L x) (h : ∀ v M, KX L (f v M)) : KX L (xb x f) := fun r e => by
  rcases xbs e with ⟨E, M, e1, e2⟩ | ⟨v, M, e1, e2⟩
  · subst e2
    exact fun E' e3 => hx _ e1 E' (congrArg Sum.inl (Sum.inl.inj e3))
  · exact h v M r e2
end KXS
theorem ke_X3_requirePhase_0 {L : List String} (hL : ∀ E, E ∈ (["java/lang/IllegalStateException"] : List String) → E ∈ L) {a0 : Nat} {i1 : Int32} {M : zM} : KX L (f_X3_requirePhase_0 a0 i1 M) := by
  unfold f_X3_requirePhase_0
  refine KX.b fun _ => ?_
  refine KX.i ?_ ?_
  · exact KX.r
  · exact KX.l (hL _ (by decide))
theorem ke_X3_requirePhase {L : List String} (hL : ∀ E, E ∈ (["java/lang/IllegalStateException"] : List String) → E ∈ L) {a0 : Nat} {i1 : Int32} {M : zM} : KX L (f_X3_requirePhase a0 i1 M) := by
  unfold f_X3_requirePhase
  exact (ke_X3_requirePhase_0 hL)
theorem ke_X3_lay_33 {L : List String} (hL : ∀ E, E ∈ (["java/lang/IllegalArgumentException"] : List String) → E ∈ L) {M : zM} : KX L (f_X3_lay_33 M) := by
  unfold f_X3_lay_33
  exact KX.l (hL _ (by decide))
theorem ke_X3_lay_64 {L : List String} (hL : ∀ E, E ∈ ([] : List String) → E ∈ L) : ∀ (n : Nat) {a0 : Nat} {i3 : Int32} {M : zM}, KX L (f_X3_lay_64 n a0 i3 M) := by
  intro n
  induction n with
  | zero => exact KX.n
  | succ n ih =>
    intro a0 i3 M
    rw [f_X3_lay_64]
    refine KX.i ?_ ?_
    · refine KX.i ?_ KX.n
      refine KX.b fun _ => ?_
      refine KX.b fun _ => ?_
      refine KX.b fun _ => ?_
      refine KX.b fun _ => ?_
      exact KX.r
    · refine KX.i ?_ KX.n
      refine KX.b fun _ => ?_
      exact ih
theorem ke_X3_lay_0 {L : List String} (hL : ∀ E, E ∈ (["java/lang/IllegalArgumentException", "java/lang/IllegalStateException"] : List String) → E ∈ L) {a0 : Nat} {i1 : Int32} {i2 : Int32} {M : zM} : KX L (f_X3_lay_0 a0 i1 i2 M) := by
  unfold f_X3_lay_0
  refine KX.i ?_ ?_
  · exact (ke_X3_lay_33 (fun E h => hL E (List.Subset.trans (List.Subset.refl _) (by decide : (["java/lang/IllegalArgumentException"] : List String) ⊆ ["java/lang/IllegalArgumentException", "java/lang/IllegalStateException"]) h)))
  · refine KX.i ?_ ?_
    · exact (ke_X3_lay_33 (fun E h => hL E (List.Subset.trans (List.Subset.refl _) (by decide : (["java/lang/IllegalArgumentException"] : List String) ⊆ ["java/lang/IllegalArgumentException", "java/lang/IllegalStateException"]) h)))
    · refine KX.i ?_ ?_
      · exact (ke_X3_lay_33 (fun E h => hL E (List.Subset.trans (List.Subset.refl _) (by decide : (["java/lang/IllegalArgumentException"] : List String) ⊆ ["java/lang/IllegalArgumentException", "java/lang/IllegalStateException"]) h)))
      · refine KX.i ?_ ?_
        · exact (ke_X3_lay_33 (fun E h => hL E (List.Subset.trans (List.Subset.refl _) (by decide : (["java/lang/IllegalArgumentException"] : List String) ⊆ ["java/lang/IllegalArgumentException", "java/lang/IllegalStateException"]) h)))
        · refine KX.i ?_ ?_
          · exact (ke_X3_lay_33 (fun E h => hL E (List.Subset.trans (List.Subset.refl _) (by decide : (["java/lang/IllegalArgumentException"] : List String) ⊆ ["java/lang/IllegalArgumentException", "java/lang/IllegalStateException"]) h)))
          · refine KX.i ?_ ?_
            · refine KX.i ?_ KX.n
              refine KX.xb (ke_X3_requirePhase (fun E h => hL E (List.Subset.trans (List.Subset.refl _) (by decide : (["java/lang/IllegalStateException"] : List String) ⊆ ["java/lang/IllegalArgumentException", "java/lang/IllegalStateException"]) h))) fun _ _ => ?_
              refine KX.b fun _ => ?_
              refine KX.b fun _ => ?_
              refine KX.i ?_ KX.n
              refine KX.b fun _ => ?_
              exact (ke_X3_lay_64 (fun E h => hL E (List.Subset.trans (List.Subset.refl _) (by decide : ([] : List String) ⊆ ["java/lang/IllegalArgumentException", "java/lang/IllegalStateException"]) h)) _)
            · exact (ke_X3_lay_33 (fun E h => hL E (List.Subset.trans (List.Subset.refl _) (by decide : (["java/lang/IllegalArgumentException"] : List String) ⊆ ["java/lang/IllegalArgumentException", "java/lang/IllegalStateException"]) h)))
theorem ke_X3_lay {L : List String} (hL : ∀ E, E ∈ (["java/lang/IllegalArgumentException", "java/lang/IllegalStateException"] : List String) → E ∈ L) {a0 : Nat} {i1 : Int32} {i2 : Int32} {M : zM} : KX L (f_X3_lay a0 i1 i2 M) := by
  unfold f_X3_lay
  exact (ke_X3_lay_0 hL)
theorem ke_X3_draw_0 {L : List String} (hL : ∀ E, E ∈ (["java/lang/IllegalStateException"] : List String) → E ∈ L) {a0 : Nat} {M : zM} : KX L (f_X3_draw_0 a0 M) := by
  unfold f_X3_draw_0
  refine KX.i ?_ KX.n
  refine KX.xb (ke_X3_requirePhase hL) fun _ _ => ?_
  refine KX.i ?_ KX.n
  refine KX.b fun _ => ?_
  refine KX.i ?_ ?_
  · refine KX.i ?_ KX.n
    refine KX.b fun _ => ?_
    exact KX.r
  · refine KX.b fun _ => ?_
    refine KX.i ?_ KX.n
    refine KX.b fun _ => ?_
    refine KX.b fun _ => ?_
    refine KX.b fun _ => ?_
    refine KX.b fun _ => ?_
    refine KX.i ?_ KX.n
    refine KX.b fun _ => ?_
    exact KX.r
theorem ke_X3_draw {L : List String} (hL : ∀ E, E ∈ (["java/lang/IllegalStateException"] : List String) → E ∈ L) {a0 : Nat} {M : zM} : KX L (f_X3_draw a0 M) := by
  unfold f_X3_draw
  exact (ke_X3_draw_0 hL)
theorem ke_X3_requireKind_10 {L : List String} (hL : ∀ E, E ∈ (["java/lang/IllegalArgumentException"] : List String) → E ∈ L) {M : zM} : KX L (f_X3_requireKind_10 M) := by
  unfold f_X3_requireKind_10
  exact KX.l (hL _ (by decide))
theorem ke_X3_requireKind_0 {L : List String} (hL : ∀ E, E ∈ (["java/lang/IllegalArgumentException"] : List String) → E ∈ L) {i0 : Int32} {M : zM} : KX L (f_X3_requireKind_0 i0 M) := by
  unfold f_X3_requireKind_0
  refine KX.i ?_ ?_
  · exact (ke_X3_requireKind_10 hL)
  · refine KX.i ?_ ?_
    · exact KX.r
    · exact (ke_X3_requireKind_10 hL)
theorem ke_X3_requireKind {L : List String} (hL : ∀ E, E ∈ (["java/lang/IllegalArgumentException"] : List String) → E ∈ L) {i0 : Int32} {M : zM} : KX L (f_X3_requireKind i0 M) := by
  unfold f_X3_requireKind
  exact (ke_X3_requireKind_0 hL)
theorem ke_X3_discard_37 {L : List String} (hL : ∀ E, E ∈ (["java/lang/IllegalStateException"] : List String) → E ∈ L) {M : zM} : KX L (f_X3_discard_37 M) := by
  unfold f_X3_discard_37
  exact KX.l (hL _ (by decide))
theorem ke_X3_discard_47 {L : List String} (hL : ∀ E, E ∈ ([] : List String) → E ∈ L) {a0 : Nat} {i1 : Int32} {a2 : Nat} {M : zM} : KX L (f_X3_discard_47 a0 i1 a2 M) := by
  unfold f_X3_discard_47
  refine KX.i ?_ KX.n
  refine KX.b fun _ => ?_
  refine KX.b fun _ => ?_
  exact KX.r
theorem ke_X3_discard_0 {L : List String} (hL : ∀ E, E ∈ (["java/lang/IllegalArgumentException", "java/lang/IllegalStateException"] : List String) → E ∈ L) {a0 : Nat} {i1 : Int32} {M : zM} : KX L (f_X3_discard_0 a0 i1 M) := by
  unfold f_X3_discard_0
  refine KX.xb (ke_X3_requireKind (fun E h => hL E (List.Subset.trans (List.Subset.refl _) (by decide : (["java/lang/IllegalArgumentException"] : List String) ⊆ ["java/lang/IllegalArgumentException", "java/lang/IllegalStateException"]) h))) fun _ _ => ?_
  refine KX.i ?_ KX.n
  refine KX.xb (ke_X3_requirePhase (fun E h => hL E (List.Subset.trans (List.Subset.refl _) (by decide : (["java/lang/IllegalStateException"] : List String) ⊆ ["java/lang/IllegalArgumentException", "java/lang/IllegalStateException"]) h))) fun _ _ => ?_
  refine KX.i ?_ KX.n
  refine KX.b fun _ => ?_
  refine KX.i ?_ KX.n
  refine KX.b fun _ => ?_
  refine KX.i ?_ ?_
  · exact (ke_X3_discard_37 (fun E h => hL E (List.Subset.trans (List.Subset.refl _) (by decide : (["java/lang/IllegalStateException"] : List String) ⊆ ["java/lang/IllegalArgumentException", "java/lang/IllegalStateException"]) h)))
  · refine KX.b fun _ => ?_
    refine KX.i ?_ ?_
    · exact (ke_X3_discard_47 (fun E h => hL E (List.Subset.trans (List.Subset.refl _) (by decide : ([] : List String) ⊆ ["java/lang/IllegalArgumentException", "java/lang/IllegalStateException"]) h)))
    · refine KX.b fun _ => ?_
      refine KX.i ?_ ?_
      · exact (ke_X3_discard_47 (fun E h => hL E (List.Subset.trans (List.Subset.refl _) (by decide : ([] : List String) ⊆ ["java/lang/IllegalArgumentException", "java/lang/IllegalStateException"]) h)))
      · exact (ke_X3_discard_37 (fun E h => hL E (List.Subset.trans (List.Subset.refl _) (by decide : (["java/lang/IllegalStateException"] : List String) ⊆ ["java/lang/IllegalArgumentException", "java/lang/IllegalStateException"]) h)))
theorem ke_X3_discard {L : List String} (hL : ∀ E, E ∈ (["java/lang/IllegalArgumentException", "java/lang/IllegalStateException"] : List String) → E ∈ L) {a0 : Nat} {i1 : Int32} {M : zM} : KX L (f_X3_discard a0 i1 M) := by
  unfold f_X3_discard
  exact (ke_X3_discard_0 hL)
theorem ke_X3_call_45 {L : List String} (hL : ∀ E, E ∈ (["java/lang/IllegalStateException"] : List String) → E ∈ L) {M : zM} : KX L (f_X3_call_45 M) := by
  unfold f_X3_call_45
  exact KX.l (hL _ (by decide))
theorem ke_X3_call_0 {L : List String} (hL : ∀ E, E ∈ (["java/lang/IllegalArgumentException", "java/lang/IllegalStateException"] : List String) → E ∈ L) {a0 : Nat} {i1 : Int32} {M : zM} : KX L (f_X3_call_0 a0 i1 M) := by
  unfold f_X3_call_0
  refine KX.xb (ke_X3_requireKind (fun E h => hL E (List.Subset.trans (List.Subset.refl _) (by decide : (["java/lang/IllegalArgumentException"] : List String) ⊆ ["java/lang/IllegalArgumentException", "java/lang/IllegalStateException"]) h))) fun _ _ => ?_
  refine KX.i ?_ KX.n
  refine KX.xb (ke_X3_requirePhase (fun E h => hL E (List.Subset.trans (List.Subset.refl _) (by decide : (["java/lang/IllegalStateException"] : List String) ⊆ ["java/lang/IllegalArgumentException", "java/lang/IllegalStateException"]) h))) fun _ _ => ?_
  refine KX.i ?_ KX.n
  refine KX.b fun _ => ?_
  refine KX.b fun _ => ?_
  refine KX.i ?_ ?_
  · refine KX.i ?_ KX.n
    refine KX.b fun _ => ?_
    refine KX.i ?_ ?_
    · exact (ke_X3_call_45 (fun E h => hL E (List.Subset.trans (List.Subset.refl _) (by decide : (["java/lang/IllegalStateException"] : List String) ⊆ ["java/lang/IllegalArgumentException", "java/lang/IllegalStateException"]) h)))
    · refine KX.i ?_ KX.n
      refine KX.b fun _ => ?_
      refine KX.i ?_ ?_
      · exact (ke_X3_call_45 (fun E h => hL E (List.Subset.trans (List.Subset.refl _) (by decide : (["java/lang/IllegalStateException"] : List String) ⊆ ["java/lang/IllegalArgumentException", "java/lang/IllegalStateException"]) h)))
      · refine KX.i ?_ KX.n
        refine KX.b fun _ => ?_
        refine KX.i ?_ ?_
        · exact (ke_X3_call_45 (fun E h => hL E (List.Subset.trans (List.Subset.refl _) (by decide : (["java/lang/IllegalStateException"] : List String) ⊆ ["java/lang/IllegalArgumentException", "java/lang/IllegalStateException"]) h)))
        · refine KX.b fun _ => ?_
          refine KX.b fun _ => ?_
          refine KX.b fun _ => ?_
          refine KX.b fun _ => ?_
          refine KX.b fun _ => ?_
          refine KX.i ?_ KX.n
          refine KX.b fun _ => ?_
          refine KX.b fun _ => ?_
          exact KX.r
  · exact (ke_X3_call_45 (fun E h => hL E (List.Subset.trans (List.Subset.refl _) (by decide : (["java/lang/IllegalStateException"] : List String) ⊆ ["java/lang/IllegalArgumentException", "java/lang/IllegalStateException"]) h)))
theorem ke_X3_call {L : List String} (hL : ∀ E, E ∈ (["java/lang/IllegalArgumentException", "java/lang/IllegalStateException"] : List String) → E ∈ L) {a0 : Nat} {i1 : Int32} {M : zM} : KX L (f_X3_call a0 i1 M) := by
  unfold f_X3_call
  exact (ke_X3_call_0 hL)
theorem ke_X3_requirePlayer_9 {L : List String} (hL : ∀ E, E ∈ (["java/lang/IndexOutOfBoundsException"] : List String) → E ∈ L) {M : zM} : KX L (f_X3_requirePlayer_9 M) := by
  unfold f_X3_requirePlayer_9
  exact KX.l (hL _ (by decide))
theorem ke_X3_requirePlayer_0 {L : List String} (hL : ∀ E, E ∈ (["java/lang/IndexOutOfBoundsException"] : List String) → E ∈ L) {i0 : Int32} {M : zM} : KX L (f_X3_requirePlayer_0 i0 M) := by
  unfold f_X3_requirePlayer_0
  refine KX.i ?_ ?_
  · exact (ke_X3_requirePlayer_9 hL)
  · refine KX.i ?_ ?_
    · exact KX.r
    · exact (ke_X3_requirePlayer_9 hL)
theorem ke_X3_requirePlayer {L : List String} (hL : ∀ E, E ∈ (["java/lang/IndexOutOfBoundsException"] : List String) → E ∈ L) {i0 : Int32} {M : zM} : KX L (f_X3_requirePlayer i0 M) := by
  unfold f_X3_requirePlayer
  exact (ke_X3_requirePlayer_0 hL)
theorem ke_X3_claim_13 {L : List String} (hL : ∀ E, E ∈ (["java/lang/IllegalArgumentException"] : List String) → E ∈ L) {M : zM} : KX L (f_X3_claim_13 M) := by
  unfold f_X3_claim_13
  exact KX.l (hL _ (by decide))
theorem ke_X3_claim_110 {L : List String} (hL : ∀ E, E ∈ ([] : List String) → E ∈ L) {a4 : Nat} {M : zM} : KX L (f_X3_claim_110 a4 M) := by
  unfold f_X3_claim_110
  refine KX.b fun _ => ?_
  exact KX.r
theorem ke_X3_claim_97 {L : List String} (hL : ∀ E, E ∈ ([] : List String) → E ∈ L) {a0 : Nat} {i2 : Int32} {a4 : Nat} {i_0 : Int32} {i_1 : Int32} {a_2 : Nat} {M : zM} : KX L (f_X3_claim_97 a0 i2 a4 i_0 i_1 a_2 M) := by
  unfold f_X3_claim_97
  refine KX.i ?_ KX.n
  refine KX.b fun _ => ?_
  refine KX.i ?_ ?_
  · refine KX.i ?_ KX.n
    refine KX.b fun _ => ?_
    exact (ke_X3_claim_110 hL)
  · exact (ke_X3_claim_110 hL)
theorem ke_X3_claim_0 {L : List String} (hL : ∀ E, E ∈ (["java/lang/IllegalArgumentException", "java/lang/IllegalStateException", "java/lang/IndexOutOfBoundsException"] : List String) → E ∈ L) {a0 : Nat} {i1 : Int32} {i2 : Int32} {i3 : Int32} {M : zM} : KX L (f_X3_claim_0 a0 i1 i2 i3 M) := by
  unfold f_X3_claim_0
  refine KX.xb (ke_X3_requirePlayer (fun E h => hL E (List.Subset.trans (List.Subset.refl _) (by decide : (["java/lang/IndexOutOfBoundsException"] : List String) ⊆ ["java/lang/IllegalArgumentException", "java/lang/IllegalStateException", "java/lang/IndexOutOfBoundsException"]) h))) fun _ _ => ?_
  refine KX.i ?_ ?_
  · exact (ke_X3_claim_13 (fun E h => hL E (List.Subset.trans (List.Subset.refl _) (by decide : (["java/lang/IllegalArgumentException"] : List String) ⊆ ["java/lang/IllegalArgumentException", "java/lang/IllegalStateException", "java/lang/IndexOutOfBoundsException"]) h)))
  · refine KX.i ?_ ?_
    · refine KX.i ?_ KX.n
      refine KX.b fun _ => ?_
      refine KX.i ?_ ?_
      · exact KX.l (hL _ (by decide))
      · refine KX.b fun _ => ?_
        refine KX.b fun _ => ?_
        refine KX.i ?_ KX.n
        refine KX.b fun _ => ?_
        refine KX.i ?_ KX.n
        refine KX.b fun _ => ?_
        refine KX.b fun _ => ?_
        refine KX.b fun _ => ?_
        refine KX.b fun _ => ?_
        refine KX.i ?_ KX.n
        refine KX.b fun _ => ?_
        refine KX.i ?_ ?_
        · exact (ke_X3_claim_97 (fun E h => hL E (List.Subset.trans (List.Subset.refl _) (by decide : ([] : List String) ⊆ ["java/lang/IllegalArgumentException", "java/lang/IllegalStateException", "java/lang/IndexOutOfBoundsException"]) h)))
        · exact (ke_X3_claim_97 (fun E h => hL E (List.Subset.trans (List.Subset.refl _) (by decide : ([] : List String) ⊆ ["java/lang/IllegalArgumentException", "java/lang/IllegalStateException", "java/lang/IndexOutOfBoundsException"]) h)))
    · exact (ke_X3_claim_13 (fun E h => hL E (List.Subset.trans (List.Subset.refl _) (by decide : (["java/lang/IllegalArgumentException"] : List String) ⊆ ["java/lang/IllegalArgumentException", "java/lang/IllegalStateException", "java/lang/IndexOutOfBoundsException"]) h)))
theorem ke_X3_claim {L : List String} (hL : ∀ E, E ∈ (["java/lang/IllegalArgumentException", "java/lang/IllegalStateException", "java/lang/IndexOutOfBoundsException"] : List String) → E ∈ L) {a0 : Nat} {i1 : Int32} {i2 : Int32} {i3 : Int32} {M : zM} : KX L (f_X3_claim a0 i1 i2 i3 M) := by
  unfold f_X3_claim
  exact (ke_X3_claim_0 hL)
theorem ke_X3_four_37 {L : List String} (hL : ∀ E, E ∈ (["java/lang/IllegalStateException"] : List String) → E ∈ L) {M : zM} : KX L (f_X3_four_37 M) := by
  unfold f_X3_four_37
  exact KX.l (hL _ (by decide))
theorem ke_X3_four_0 {L : List String} (hL : ∀ E, E ∈ (["java/lang/IllegalArgumentException", "java/lang/IllegalStateException"] : List String) → E ∈ L) {a0 : Nat} {i1 : Int32} {M : zM} : KX L (f_X3_four_0 a0 i1 M) := by
  unfold f_X3_four_0
  refine KX.xb (ke_X3_requireKind (fun E h => hL E (List.Subset.trans (List.Subset.refl _) (by decide : (["java/lang/IllegalArgumentException"] : List String) ⊆ ["java/lang/IllegalArgumentException", "java/lang/IllegalStateException"]) h))) fun _ _ => ?_
  refine KX.i ?_ KX.n
  refine KX.xb (ke_X3_requirePhase (fun E h => hL E (List.Subset.trans (List.Subset.refl _) (by decide : (["java/lang/IllegalStateException"] : List String) ⊆ ["java/lang/IllegalArgumentException", "java/lang/IllegalStateException"]) h))) fun _ _ => ?_
  refine KX.i ?_ KX.n
  refine KX.b fun _ => ?_
  refine KX.b fun _ => ?_
  refine KX.i ?_ ?_
  · refine KX.i ?_ KX.n
    refine KX.b fun _ => ?_
    refine KX.i ?_ ?_
    · exact (ke_X3_four_37 (fun E h => hL E (List.Subset.trans (List.Subset.refl _) (by decide : (["java/lang/IllegalStateException"] : List String) ⊆ ["java/lang/IllegalArgumentException", "java/lang/IllegalStateException"]) h)))
    · refine KX.i ?_ KX.n
      refine KX.b fun _ => ?_
      refine KX.i ?_ ?_
      · exact (ke_X3_four_37 (fun E h => hL E (List.Subset.trans (List.Subset.refl _) (by decide : (["java/lang/IllegalStateException"] : List String) ⊆ ["java/lang/IllegalArgumentException", "java/lang/IllegalStateException"]) h)))
      · refine KX.i ?_ KX.n
        refine KX.b fun _ => ?_
        refine KX.i ?_ KX.n
        refine KX.b fun _ => ?_
        exact KX.r
  · exact (ke_X3_four_37 (fun E h => hL E (List.Subset.trans (List.Subset.refl _) (by decide : (["java/lang/IllegalStateException"] : List String) ⊆ ["java/lang/IllegalArgumentException", "java/lang/IllegalStateException"]) h)))
theorem ke_X3_four {L : List String} (hL : ∀ E, E ∈ (["java/lang/IllegalArgumentException", "java/lang/IllegalStateException"] : List String) → E ∈ L) {a0 : Nat} {i1 : Int32} {M : zM} : KX L (f_X3_four a0 i1 M) := by
  unfold f_X3_four
  exact (ke_X3_four_0 hL)
theorem ke_X3_pass_0 {L : List String} (hL : ∀ E, E ∈ (["java/lang/IllegalStateException"] : List String) → E ∈ L) {a0 : Nat} {M : zM} : KX L (f_X3_pass_0 a0 M) := by
  unfold f_X3_pass_0
  refine KX.i ?_ KX.n
  refine KX.xb (ke_X3_requirePhase hL) fun _ _ => ?_
  refine KX.b fun _ => ?_
  refine KX.b fun _ => ?_
  refine KX.b fun _ => ?_
  refine KX.b fun _ => ?_
  exact KX.r
theorem ke_X3_pass {L : List String} (hL : ∀ E, E ∈ (["java/lang/IllegalStateException"] : List String) → E ∈ L) {a0 : Nat} {M : zM} : KX L (f_X3_pass a0 M) := by
  unfold f_X3_pass
  exact (ke_X3_pass_0 hL)
theorem ke_X3_win_74 {L : List String} (hL : ∀ E, E ∈ ([] : List String) → E ∈ L) {a0 : Nat} {i1 : Int32} {i2 : Int32} {a3 : Nat} {M : zM} : KX L (f_X3_win_74 a0 i1 i2 a3 M) := by
  unfold f_X3_win_74
  refine KX.b fun _ => ?_
  refine KX.b fun _ => ?_
  refine KX.i ?_ KX.n
  refine KX.b fun _ => ?_
  refine KX.i ?_ KX.n
  refine KX.b fun _ => ?_
  refine KX.i ?_ KX.n
  refine KX.b fun _ => ?_
  refine KX.b fun _ => ?_
  refine KX.b fun _ => ?_
  refine KX.b fun _ => ?_
  refine KX.b fun _ => ?_
  exact KX.r
theorem ke_X3_win_51 {L : List String} (hL : ∀ E, E ∈ ([] : List String) → E ∈ L) {a0 : Nat} {i1 : Int32} {i2 : Int32} {M : zM} : KX L (f_X3_win_51 a0 i1 i2 M) := by
  unfold f_X3_win_51
  refine KX.b fun _ => ?_
  refine KX.b fun _ => ?_
  refine KX.i ?_ ?_
  · refine KX.i ?_ KX.n
    refine KX.b fun _ => ?_
    refine KX.i ?_ KX.n
    refine KX.b fun _ => ?_
    refine KX.i ?_ KX.n
    refine KX.b fun _ => ?_
    exact (ke_X3_win_74 hL)
  · exact (ke_X3_win_74 hL)
theorem ke_X3_win_41 {L : List String} (hL : ∀ E, E ∈ (["java/lang/IllegalStateException"] : List String) → E ∈ L) {M : zM} : KX L (f_X3_win_41 M) := by
  unfold f_X3_win_41
  exact KX.l (hL _ (by decide))
theorem ke_X3_win_17 {L : List String} (hL : ∀ E, E ∈ (["java/lang/IllegalStateException"] : List String) → E ∈ L) {a0 : Nat} {i1 : Int32} {i_0 : Int32} {M : zM} : KX L (f_X3_win_17 a0 i1 i_0 M) := by
  unfold f_X3_win_17
  refine KX.i ?_ ?_
  · refine KX.i ?_ KX.n
    refine KX.b fun _ => ?_
    refine KX.i ?_ ?_
    · exact (ke_X3_win_41 hL)
    · exact (ke_X3_win_51 (fun E h => hL E (List.Subset.trans (List.Subset.refl _) (by decide : ([] : List String) ⊆ ["java/lang/IllegalStateException"]) h)))
  · refine KX.i ?_ KX.n
    refine KX.b fun _ => ?_
    refine KX.i ?_ ?_
    · exact (ke_X3_win_41 hL)
    · exact (ke_X3_win_51 (fun E h => hL E (List.Subset.trans (List.Subset.refl _) (by decide : ([] : List String) ⊆ ["java/lang/IllegalStateException"]) h)))
theorem ke_X3_win_0 {L : List String} (hL : ∀ E, E ∈ (["java/lang/IllegalStateException", "java/lang/IndexOutOfBoundsException"] : List String) → E ∈ L) {a0 : Nat} {i1 : Int32} {M : zM} : KX L (f_X3_win_0 a0 i1 M) := by
  unfold f_X3_win_0
  refine KX.xb (ke_X3_requirePlayer (fun E h => hL E (List.Subset.trans (List.Subset.refl _) (by decide : (["java/lang/IndexOutOfBoundsException"] : List String) ⊆ ["java/lang/IllegalStateException", "java/lang/IndexOutOfBoundsException"]) h))) fun _ _ => ?_
  refine KX.b fun _ => ?_
  refine KX.i ?_ ?_
  · exact (ke_X3_win_17 (fun E h => hL E (List.Subset.trans (List.Subset.refl _) (by decide : (["java/lang/IllegalStateException"] : List String) ⊆ ["java/lang/IllegalStateException", "java/lang/IndexOutOfBoundsException"]) h)))
  · exact (ke_X3_win_17 (fun E h => hL E (List.Subset.trans (List.Subset.refl _) (by decide : (["java/lang/IllegalStateException"] : List String) ⊆ ["java/lang/IllegalStateException", "java/lang/IndexOutOfBoundsException"]) h)))
theorem ke_X3_win {L : List String} (hL : ∀ E, E ∈ (["java/lang/IllegalStateException", "java/lang/IndexOutOfBoundsException"] : List String) → E ∈ L) {a0 : Nat} {i1 : Int32} {M : zM} : KX L (f_X3_win a0 i1 M) := by
  unfold f_X3_win
  exact (ke_X3_win_0 hL)
theorem ke_X3_has_0 {L : List String} (hL : ∀ E, E ∈ (["java/lang/IllegalArgumentException", "java/lang/IndexOutOfBoundsException"] : List String) → E ∈ L) {a0 : Nat} {i1 : Int32} {i2 : Int32} {M : zM} : KX L (f_X3_has_0 a0 i1 i2 M) := by
  unfold f_X3_has_0
  refine KX.xb (ke_X3_requirePlayer (fun E h => hL E (List.Subset.trans (List.Subset.refl _) (by decide : (["java/lang/IndexOutOfBoundsException"] : List String) ⊆ ["java/lang/IllegalArgumentException", "java/lang/IndexOutOfBoundsException"]) h))) fun _ _ => ?_
  refine KX.xb (ke_X3_requireKind (fun E h => hL E (List.Subset.trans (List.Subset.refl _) (by decide : (["java/lang/IllegalArgumentException"] : List String) ⊆ ["java/lang/IllegalArgumentException", "java/lang/IndexOutOfBoundsException"]) h))) fun _ _ => ?_
  refine KX.b fun _ => ?_
  refine KX.b fun _ => ?_
  refine KX.i ?_ KX.n
  refine KX.b fun _ => ?_
  exact KX.r
theorem ke_X3_has {L : List String} (hL : ∀ E, E ∈ (["java/lang/IllegalArgumentException", "java/lang/IndexOutOfBoundsException"] : List String) → E ∈ L) {a0 : Nat} {i1 : Int32} {i2 : Int32} {M : zM} : KX L (f_X3_has a0 i1 i2 M) := by
  unfold f_X3_has
  exact (ke_X3_has_0 hL)
theorem ke_X3_ofPlayer_0 {L : List String} (hL : ∀ E, E ∈ (["java/lang/IllegalArgumentException", "java/lang/IndexOutOfBoundsException"] : List String) → E ∈ L) {a0 : Nat} {i1 : Int32} {i2 : Int32} {M : zM} : KX L (f_X3_ofPlayer_0 a0 i1 i2 M) := by
  unfold f_X3_ofPlayer_0
  refine KX.xb (ke_X3_requirePlayer (fun E h => hL E (List.Subset.trans (List.Subset.refl _) (by decide : (["java/lang/IndexOutOfBoundsException"] : List String) ⊆ ["java/lang/IllegalArgumentException", "java/lang/IndexOutOfBoundsException"]) h))) fun _ _ => ?_
  refine KX.b fun _ => ?_
  refine KX.b fun _ => ?_
  refine KX.i ?_ ?_
  · refine KX.b fun _ => ?_
    exact KX.r
  · refine KX.i ?_ ?_
    · refine KX.b fun _ => ?_
      exact KX.r
    · refine KX.i ?_ ?_
      · refine KX.i ?_ KX.n
        refine KX.b fun _ => ?_
        exact KX.r
      · refine KX.i ?_ ?_
        · refine KX.i ?_ KX.n
          refine KX.b fun _ => ?_
          exact KX.r
        · refine KX.i ?_ ?_
          · refine KX.b fun _ => ?_
            exact KX.r
          · refine KX.i ?_ ?_
            · refine KX.b fun _ => ?_
              refine KX.i ?_ ?_
              · exact KX.r
              · exact KX.r
            · refine KX.i ?_ ?_
              · refine KX.b fun _ => ?_
                refine KX.b fun _ => ?_
                refine KX.b fun _ => ?_
                refine KX.i ?_ KX.n
                refine KX.b fun _ => ?_
                exact KX.r
              · refine KX.i ?_ ?_
                · refine KX.i ?_ KX.n
                  refine KX.b fun _ => ?_
                  exact KX.r
                · refine KX.i ?_ ?_
                  · refine KX.b fun _ => ?_
                    exact KX.r
                  · refine KX.i ?_ ?_
                    · refine KX.i ?_ KX.n
                      refine KX.b fun _ => ?_
                      refine KX.b fun _ => ?_
                      refine KX.i ?_ ?_
                      · exact KX.r
                      · exact KX.r
                    · exact KX.l (hL _ (by decide))
theorem ke_X3_ofPlayer {L : List String} (hL : ∀ E, E ∈ (["java/lang/IllegalArgumentException", "java/lang/IndexOutOfBoundsException"] : List String) → E ∈ L) {a0 : Nat} {i1 : Int32} {i2 : Int32} {M : zM} : KX L (f_X3_ofPlayer a0 i1 i2 M) := by
  unfold f_X3_ofPlayer
  exact (ke_X3_ofPlayer_0 hL)
theorem ke_X3_ofSet_28 {L : List String} (hL : ∀ E, E ∈ (["java/lang/IndexOutOfBoundsException"] : List String) → E ∈ L) {M : zM} : KX L (f_X3_ofSet_28 M) := by
  unfold f_X3_ofSet_28
  exact KX.l (hL _ (by decide))
theorem ke_X3_ofSet_0 {L : List String} (hL : ∀ E, E ∈ (["java/lang/IndexOutOfBoundsException"] : List String) → E ∈ L) {a0 : Nat} {i1 : Int32} {i2 : Int32} {M : zM} : KX L (f_X3_ofSet_0 a0 i1 i2 M) := by
  unfold f_X3_ofSet_0
  refine KX.xb (ke_X3_requirePlayer hL) fun _ _ => ?_
  refine KX.b fun _ => ?_
  refine KX.b fun _ => ?_
  refine KX.i ?_ ?_
  · exact (ke_X3_ofSet_28 hL)
  · refine KX.b fun _ => ?_
    refine KX.i ?_ ?_
    · exact (ke_X3_ofSet_28 hL)
    · refine KX.i ?_ ?_
      · refine KX.b fun _ => ?_
        refine KX.b fun _ => ?_
        exact KX.r
      · exact (ke_X3_ofSet_28 hL)
theorem ke_X3_ofSet {L : List String} (hL : ∀ E, E ∈ (["java/lang/IndexOutOfBoundsException"] : List String) → E ∈ L) {a0 : Nat} {i1 : Int32} {i2 : Int32} {M : zM} : KX L (f_X3_ofSet a0 i1 i2 M) := by
  unfold f_X3_ofSet
  exact (ke_X3_ofSet_0 hL)
theorem ke_X3_river_29 {L : List String} (hL : ∀ E, E ∈ (["java/lang/IndexOutOfBoundsException"] : List String) → E ∈ L) {M : zM} : KX L (f_X3_river_29 M) := by
  unfold f_X3_river_29
  exact KX.l (hL _ (by decide))
theorem ke_X3_river_0 {L : List String} (hL : ∀ E, E ∈ (["java/lang/IndexOutOfBoundsException"] : List String) → E ∈ L) {a0 : Nat} {i1 : Int32} {i2 : Int32} {M : zM} : KX L (f_X3_river_0 a0 i1 i2 M) := by
  unfold f_X3_river_0
  refine KX.xb (ke_X3_requirePlayer hL) fun _ _ => ?_
  refine KX.b fun _ => ?_
  refine KX.b fun _ => ?_
  refine KX.i ?_ ?_
  · exact (ke_X3_river_29 hL)
  · refine KX.b fun _ => ?_
    refine KX.i ?_ ?_
    · exact (ke_X3_river_29 hL)
    · refine KX.i ?_ ?_
      · refine KX.b fun _ => ?_
        refine KX.b fun _ => ?_
        exact KX.r
      · exact (ke_X3_river_29 hL)
theorem ke_X3_river {L : List String} (hL : ∀ E, E ∈ (["java/lang/IndexOutOfBoundsException"] : List String) → E ∈ L) {a0 : Nat} {i1 : Int32} {i2 : Int32} {M : zM} : KX L (f_X3_river a0 i1 i2 M) := by
  unfold f_X3_river
  exact (ke_X3_river_0 hL)
theorem ke_X3_waits_0 {L : List String} (hL : ∀ E, E ∈ (["java/lang/IndexOutOfBoundsException"] : List String) → E ∈ L) {a0 : Nat} {i1 : Int32} {M : zM} : KX L (f_X3_waits_0 a0 i1 M) := by
  unfold f_X3_waits_0
  refine KX.xb (ke_X3_requirePlayer hL) fun _ _ => ?_
  refine KX.b fun _ => ?_
  refine KX.b fun _ => ?_
  refine KX.i ?_ KX.n
  refine KX.b fun _ => ?_
  exact KX.r
theorem ke_X3_waits {L : List String} (hL : ∀ E, E ∈ (["java/lang/IndexOutOfBoundsException"] : List String) → E ∈ L) {a0 : Nat} {i1 : Int32} {M : zM} : KX L (f_X3_waits a0 i1 M) := by
  unfold f_X3_waits
  exact (ke_X3_waits_0 hL)
theorem ke_X3_seen_8 {L : List String} (hL : ∀ E, E ∈ ([] : List String) → E ∈ L) : ∀ (n : Nat) {a0 : Nat} {i1 : Int32} {i2 : Int32} {i3 : Int32} {M : zM}, KX L (f_X3_seen_8 n a0 i1 i2 i3 M) := by
  intro n
  induction n with
  | zero => exact KX.n
  | succ n ih =>
    intro a0 i1 i2 i3 M
    rw [f_X3_seen_8]
    refine KX.i ?_ ?_
    · exact KX.r
    · refine KX.b fun _ => ?_
      refine KX.b fun _ => ?_
      refine KX.i ?_ KX.n
      refine KX.b fun _ => ?_
      exact ih
theorem ke_X3_seen_0 {L : List String} (hL : ∀ E, E ∈ (["java/lang/IllegalArgumentException"] : List String) → E ∈ L) {a0 : Nat} {i1 : Int32} {M : zM} : KX L (f_X3_seen_0 a0 i1 M) := by
  unfold f_X3_seen_0
  refine KX.xb (ke_X3_requireKind hL) fun _ _ => ?_
  exact (ke_X3_seen_8 (fun E h => hL E (List.Subset.trans (List.Subset.refl _) (by decide : ([] : List String) ⊆ ["java/lang/IllegalArgumentException"]) h)) _)
theorem ke_X3_seen {L : List String} (hL : ∀ E, E ∈ (["java/lang/IllegalArgumentException"] : List String) → E ∈ L) {a0 : Nat} {i1 : Int32} {M : zM} : KX L (f_X3_seen a0 i1 M) := by
  unfold f_X3_seen
  exact (ke_X3_seen_0 hL)
theorem ke_X3_hand_0 {L : List String} (hL : ∀ E, E ∈ (["java/lang/IndexOutOfBoundsException"] : List String) → E ∈ L) {a0 : Nat} {i1 : Int32} {M : zM} : KX L (f_X3_hand_0 a0 i1 M) := by
  unfold f_X3_hand_0
  refine KX.xb (ke_X3_requirePlayer hL) fun _ _ => ?_
  refine KX.b fun _ => ?_
  refine KX.b fun _ => ?_
  refine KX.b fun _ => ?_
  refine KX.b fun _ => ?_
  refine KX.b fun _ => ?_
  refine KX.b fun _ => ?_
  refine KX.i ?_ KX.n
  refine KX.b fun _ => ?_
  exact KX.r
theorem ke_X3_hand {L : List String} (hL : ∀ E, E ∈ (["java/lang/IndexOutOfBoundsException"] : List String) → E ∈ L) {a0 : Nat} {i1 : Int32} {M : zM} : KX L (f_X3_hand a0 i1 M) := by
  unfold f_X3_hand
  exact (ke_X3_hand_0 hL)
theorem ke_X3_many_0 {L : List String} (hL : ∀ E, E ∈ (["java/lang/IllegalArgumentException"] : List String) → E ∈ L) {a0 : Nat} {i1 : Int32} {M : zM} : KX L (f_X3_many_0 a0 i1 M) := by
  unfold f_X3_many_0
  refine KX.i ?_ ?_
  · refine KX.b fun _ => ?_
    exact KX.r
  · refine KX.i ?_ ?_
    · refine KX.b fun _ => ?_
      refine KX.i ?_ ?_
      · exact KX.r
      · refine KX.b fun _ => ?_
        exact KX.r
    · refine KX.i ?_ ?_
      · refine KX.i ?_ KX.n
        refine KX.b fun _ => ?_
        exact KX.r
      · refine KX.i ?_ ?_
        · refine KX.b fun _ => ?_
          exact KX.r
        · refine KX.i ?_ ?_
          · refine KX.b fun _ => ?_
            refine KX.i ?_ ?_
            · refine KX.i ?_ KX.n
              refine KX.b fun _ => ?_
              refine KX.i ?_ KX.n
              refine KX.b fun _ => ?_
              exact KX.r
            · exact KX.r
          · refine KX.i ?_ ?_
            · refine KX.b fun _ => ?_
              exact KX.r
            · refine KX.i ?_ ?_
              · refine KX.b fun _ => ?_
                exact KX.r
              · refine KX.i ?_ ?_
                · refine KX.b fun _ => ?_
                  exact KX.r
                · refine KX.i ?_ ?_
                  · refine KX.b fun _ => ?_
                    exact KX.r
                  · refine KX.i ?_ ?_
                    · refine KX.b fun _ => ?_
                      exact KX.r
                    · exact KX.l (hL _ (by decide))
theorem ke_X3_many {L : List String} (hL : ∀ E, E ∈ (["java/lang/IllegalArgumentException"] : List String) → E ∈ L) {a0 : Nat} {i1 : Int32} {M : zM} : KX L (f_X3_many a0 i1 M) := by
  unfold f_X3_many
  exact (ke_X3_many_0 hL)
theorem ke_X3_lead_0 {L : List String} (hL : ∀ E, E ∈ (["java/lang/IndexOutOfBoundsException"] : List String) → E ∈ L) {a0 : Nat} {i1 : Int32} {M : zM} : KX L (f_X3_lead_0 a0 i1 M) := by
  unfold f_X3_lead_0
  refine KX.xb (ke_X3_requirePlayer hL) fun _ _ => ?_
  refine KX.i ?_ KX.n
  refine KX.b fun _ => ?_
  refine KX.i ?_ KX.n
  exact KX.r
theorem ke_X3_lead {L : List String} (hL : ∀ E, E ∈ (["java/lang/IndexOutOfBoundsException"] : List String) → E ∈ L) {a0 : Nat} {i1 : Int32} {M : zM} : KX L (f_X3_lead a0 i1 M) := by
  unfold f_X3_lead
  exact (ke_X3_lead_0 hL)
theorem ke_X3_worth_0 {L : List String} (hL : ∀ E, E ∈ (["java/lang/IllegalArgumentException", "java/lang/IndexOutOfBoundsException"] : List String) → E ∈ L) {a0 : Nat} {i1 : Int32} {i2 : Int32} {M : zM} : KX L (f_X3_worth_0 a0 i1 i2 M) := by
  unfold f_X3_worth_0
  refine KX.xb (ke_X3_requirePlayer (fun E h => hL E (List.Subset.trans (List.Subset.refl _) (by decide : (["java/lang/IndexOutOfBoundsException"] : List String) ⊆ ["java/lang/IllegalArgumentException", "java/lang/IndexOutOfBoundsException"]) h))) fun _ _ => ?_
  refine KX.xb (ke_X3_requireKind (fun E h => hL E (List.Subset.trans (List.Subset.refl _) (by decide : (["java/lang/IllegalArgumentException"] : List String) ⊆ ["java/lang/IllegalArgumentException", "java/lang/IndexOutOfBoundsException"]) h))) fun _ _ => ?_
  refine KX.b fun _ => ?_
  refine KX.b fun _ => ?_
  refine KX.i ?_ KX.n
  refine KX.b fun _ => ?_
  refine KX.i ?_ ?_
  · exact KX.r
  · refine KX.i ?_ KX.n
    refine KX.b fun _ => ?_
    refine KX.b fun _ => ?_
    refine KX.b fun _ => ?_
    refine KX.i ?_ KX.n
    refine KX.b fun _ => ?_
    refine KX.i ?_ KX.n
    refine KX.b fun _ => ?_
    refine KX.i ?_ KX.n
    refine KX.b fun _ => ?_
    exact KX.r
theorem ke_X3_worth {L : List String} (hL : ∀ E, E ∈ (["java/lang/IllegalArgumentException", "java/lang/IndexOutOfBoundsException"] : List String) → E ∈ L) {a0 : Nat} {i1 : Int32} {i2 : Int32} {M : zM} : KX L (f_X3_worth a0 i1 i2 M) := by
  unfold f_X3_worth
  exact (ke_X3_worth_0 hL)
theorem ke_X3_isSafe_10 {L : List String} (hL : ∀ E, E ∈ ([] : List String) → E ∈ L) : ∀ (n : Nat) {a0 : Nat} {i1 : Int32} {i2 : Int32} {i3 : Int32} {M : zM}, KX L (f_X3_isSafe_10 n a0 i1 i2 i3 M) := by
  intro n
  induction n with
  | zero => exact KX.n
  | succ n ih =>
    intro a0 i1 i2 i3 M
    rw [f_X3_isSafe_10]
    refine KX.i ?_ ?_
    · exact KX.r
    · refine KX.i ?_ ?_
      · exact ih
      · refine KX.b fun _ => ?_
        refine KX.b fun _ => ?_
        refine KX.b fun _ => ?_
        refine KX.i ?_ ?_
        · exact ih
        · refine KX.b fun _ => ?_
          refine KX.b fun _ => ?_
          refine KX.b fun _ => ?_
          refine KX.i ?_ ?_
          · exact KX.r
          · exact ih
theorem ke_X3_isSafe_0 {L : List String} (hL : ∀ E, E ∈ (["java/lang/IllegalArgumentException", "java/lang/IndexOutOfBoundsException"] : List String) → E ∈ L) {a0 : Nat} {i1 : Int32} {i2 : Int32} {M : zM} : KX L (f_X3_isSafe_0 a0 i1 i2 M) := by
  unfold f_X3_isSafe_0
  refine KX.xb (ke_X3_requirePlayer (fun E h => hL E (List.Subset.trans (List.Subset.refl _) (by decide : (["java/lang/IndexOutOfBoundsException"] : List String) ⊆ ["java/lang/IllegalArgumentException", "java/lang/IndexOutOfBoundsException"]) h))) fun _ _ => ?_
  refine KX.xb (ke_X3_requireKind (fun E h => hL E (List.Subset.trans (List.Subset.refl _) (by decide : (["java/lang/IllegalArgumentException"] : List String) ⊆ ["java/lang/IllegalArgumentException", "java/lang/IndexOutOfBoundsException"]) h))) fun _ _ => ?_
  exact (ke_X3_isSafe_10 (fun E h => hL E (List.Subset.trans (List.Subset.refl _) (by decide : ([] : List String) ⊆ ["java/lang/IllegalArgumentException", "java/lang/IndexOutOfBoundsException"]) h)) _)
theorem ke_X3_isSafe {L : List String} (hL : ∀ E, E ∈ (["java/lang/IllegalArgumentException", "java/lang/IndexOutOfBoundsException"] : List String) → E ∈ L) {a0 : Nat} {i1 : Int32} {i2 : Int32} {M : zM} : KX L (f_X3_isSafe a0 i1 i2 M) := by
  unfold f_X3_isSafe
  exact (ke_X3_isSafe_0 hL)
theorem ke_X3_outs_44 {L : List String} (hL : ∀ E, E ∈ (["java/lang/IllegalArgumentException"] : List String) → E ∈ L) : ∀ (n : Nat) {a0 : Nat} {a2 : Nat} {i3 : Int32} {i4 : Int32} {i5 : Int32} {M : zM}, KX L (f_X3_outs_44 n a0 a2 i3 i4 i5 M) := by
  intro n
  induction n with
  | zero => exact KX.n
  | succ n ih =>
    intro a0 a2 i3 i4 i5 M
    rw [f_X3_outs_44]
    refine KX.i ?_ ?_
    · exact KX.r
    · refine KX.i ?_ KX.n
      refine KX.b fun _ => ?_
      refine KX.i ?_ KX.n
      refine KX.xb (ke_X3_seen hL) fun _ _ => ?_
      refine KX.i ?_ ?_
      · exact ih
      · refine KX.i ?_ KX.n
        refine KX.b fun _ => ?_
        refine KX.i ?_ ?_
        · exact ih
        · exact ih
theorem ke_X3_outs_0 {L : List String} (hL : ∀ E, E ∈ (["java/lang/IllegalArgumentException", "java/lang/IndexOutOfBoundsException"] : List String) → E ∈ L) {a0 : Nat} {i1 : Int32} {M : zM} : KX L (f_X3_outs_0 a0 i1 M) := by
  unfold f_X3_outs_0
  refine KX.xb (ke_X3_requirePlayer (fun E h => hL E (List.Subset.trans (List.Subset.refl _) (by decide : (["java/lang/IndexOutOfBoundsException"] : List String) ⊆ ["java/lang/IllegalArgumentException", "java/lang/IndexOutOfBoundsException"]) h))) fun _ _ => ?_
  refine KX.b fun _ => ?_
  refine KX.b fun _ => ?_
  refine KX.i ?_ KX.n
  refine KX.b fun _ => ?_
  refine KX.i ?_ ?_
  · refine KX.b fun _ => ?_
    refine KX.b fun _ => ?_
    refine KX.b fun _ => ?_
    refine KX.i ?_ KX.n
    refine KX.b fun _ => ?_
    exact (ke_X3_outs_44 (fun E h => hL E (List.Subset.trans (List.Subset.refl _) (by decide : (["java/lang/IllegalArgumentException"] : List String) ⊆ ["java/lang/IllegalArgumentException", "java/lang/IndexOutOfBoundsException"]) h)) _)
  · exact KX.r
theorem ke_X3_outs {L : List String} (hL : ∀ E, E ∈ (["java/lang/IllegalArgumentException", "java/lang/IndexOutOfBoundsException"] : List String) → E ∈ L) {a0 : Nat} {i1 : Int32} {M : zM} : KX L (f_X3_outs a0 i1 M) := by
  unfold f_X3_outs
  exact (ke_X3_outs_0 hL)
theorem ke_X3_digestPlayer_164 {L : List String} (hL : ∀ E, E ∈ ([] : List String) → E ∈ L) {a0 : Nat} {i3 : Int32} {a4 : Nat} {j5 : Int64} {M : zM} : KX L (f_X3_digestPlayer_164 a0 i3 a4 j5 M) := by
  unfold f_X3_digestPlayer_164
  refine KX.i ?_ KX.n
  refine KX.b fun _ => ?_
  refine KX.i ?_ KX.n
  refine KX.b fun _ => ?_
  exact KX.r
theorem ke_X3_digestPlayer_123 {L : List String} (hL : ∀ E, E ∈ ([] : List String) → E ∈ L) : ∀ (n : Nat) {a0 : Nat} {i3 : Int32} {a4 : Nat} {j5 : Int64} {i7 : Int32} {M : zM}, KX L (f_X3_digestPlayer_123 n a0 i3 a4 j5 i7 M) := by
  intro n
  induction n with
  | zero => exact KX.n
  | succ n ih =>
    intro a0 i3 a4 j5 i7 M
    rw [f_X3_digestPlayer_123]
    refine KX.b fun _ => ?_
    refine KX.i ?_ ?_
    · exact (ke_X3_digestPlayer_164 hL)
    · refine KX.i ?_ ?_
      · exact (ke_X3_digestPlayer_164 hL)
      · refine KX.b fun _ => ?_
        refine KX.b fun _ => ?_
        exact ih
theorem ke_X3_digestPlayer_80 {L : List String} (hL : ∀ E, E ∈ ([] : List String) → E ∈ L) : ∀ (n : Nat) {a0 : Nat} {i3 : Int32} {a4 : Nat} {j5 : Int64} {i7 : Int32} {M : zM}, KX L (f_X3_digestPlayer_80 n a0 i3 a4 j5 i7 M) := by
  intro n
  induction n with
  | zero => exact KX.n
  | succ n ih =>
    intro a0 i3 a4 j5 i7 M
    rw [f_X3_digestPlayer_80]
    refine KX.b fun _ => ?_
    refine KX.i ?_ ?_
    · exact (ke_X3_digestPlayer_123 hL _)
    · refine KX.i ?_ ?_
      · exact (ke_X3_digestPlayer_123 hL _)
      · refine KX.b fun _ => ?_
        refine KX.b fun _ => ?_
        exact ih
theorem ke_X3_digestPlayer_47 {L : List String} (hL : ∀ E, E ∈ ([] : List String) → E ∈ L) : ∀ (n : Nat) {a0 : Nat} {i3 : Int32} {a4 : Nat} {j5 : Int64} {i7 : Int32} {M : zM}, KX L (f_X3_digestPlayer_47 n a0 i3 a4 j5 i7 M) := by
  intro n
  induction n with
  | zero => exact KX.n
  | succ n ih =>
    intro a0 i3 a4 j5 i7 M
    rw [f_X3_digestPlayer_47]
    refine KX.i ?_ ?_
    · exact (ke_X3_digestPlayer_80 hL _)
    · refine KX.i ?_ KX.n
      refine KX.b fun _ => ?_
      exact ih
theorem ke_X3_digestPlayer_14 {L : List String} (hL : ∀ E, E ∈ (["java/lang/IllegalArgumentException", "java/lang/IndexOutOfBoundsException"] : List String) → E ∈ L) : ∀ (n : Nat) {a0 : Nat} {i3 : Int32} {a4 : Nat} {j5 : Int64} {i7 : Int32} {M : zM}, KX L (f_X3_digestPlayer_14 n a0 i3 a4 j5 i7 M) := by
  intro n
  induction n with
  | zero => exact KX.n
  | succ n ih =>
    intro a0 i3 a4 j5 i7 M
    rw [f_X3_digestPlayer_14]
    refine KX.i ?_ ?_
    · exact (ke_X3_digestPlayer_47 (fun E h => hL E (List.Subset.trans (List.Subset.refl _) (by decide : ([] : List String) ⊆ ["java/lang/IllegalArgumentException", "java/lang/IndexOutOfBoundsException"]) h)) _)
    · refine KX.i ?_ KX.n
      refine KX.xb (ke_X3_ofPlayer hL) fun _ _ => ?_
      exact ih
theorem ke_X3_digestPlayer_0 {L : List String} (hL : ∀ E, E ∈ (["java/lang/IllegalArgumentException", "java/lang/IndexOutOfBoundsException"] : List String) → E ∈ L) {a0 : Nat} {j1 : Int64} {i3 : Int32} {M : zM} : KX L (f_X3_digestPlayer_0 a0 j1 i3 M) := by
  unfold f_X3_digestPlayer_0
  refine KX.b fun _ => ?_
  refine KX.b fun _ => ?_
  exact (ke_X3_digestPlayer_14 hL _)
theorem ke_X3_digestPlayer {L : List String} (hL : ∀ E, E ∈ (["java/lang/IllegalArgumentException", "java/lang/IndexOutOfBoundsException"] : List String) → E ∈ L) {a0 : Nat} {j1 : Int64} {i3 : Int32} {M : zM} : KX L (f_X3_digestPlayer a0 j1 i3 M) := by
  unfold f_X3_digestPlayer
  exact (ke_X3_digestPlayer_0 hL)
theorem ke_X3_digest_33 {L : List String} (hL : ∀ E, E ∈ (["java/lang/IllegalArgumentException", "java/lang/IndexOutOfBoundsException"] : List String) → E ∈ L) : ∀ (n : Nat) {a0 : Nat} {j1 : Int64} {i3 : Int32} {M : zM}, KX L (f_X3_digest_33 n a0 j1 i3 M) := by
  intro n
  induction n with
  | zero => exact KX.n
  | succ n ih =>
    intro a0 j1 i3 M
    rw [f_X3_digest_33]
    refine KX.i ?_ ?_
    · refine KX.i ?_ KX.n
      refine KX.b fun _ => ?_
      exact KX.r
    · refine KX.i ?_ KX.n
      refine KX.xb (ke_X3_digestPlayer hL) fun _ _ => ?_
      exact ih
theorem ke_X3_digest_6 {L : List String} (hL : ∀ E, E ∈ (["java/lang/IllegalArgumentException", "java/lang/IndexOutOfBoundsException"] : List String) → E ∈ L) : ∀ (n : Nat) {a0 : Nat} {j1 : Int64} {i3 : Int32} {M : zM}, KX L (f_X3_digest_6 n a0 j1 i3 M) := by
  intro n
  induction n with
  | zero => exact KX.n
  | succ n ih =>
    intro a0 j1 i3 M
    rw [f_X3_digest_6]
    refine KX.i ?_ ?_
    · exact (ke_X3_digest_33 hL _)
    · refine KX.i ?_ KX.n
      refine KX.xb (ke_X3_many (fun E h => hL E (List.Subset.trans (List.Subset.refl _) (by decide : (["java/lang/IllegalArgumentException"] : List String) ⊆ ["java/lang/IllegalArgumentException", "java/lang/IndexOutOfBoundsException"]) h))) fun _ _ => ?_
      exact ih
theorem ke_X3_digest_0 {L : List String} (hL : ∀ E, E ∈ (["java/lang/IllegalArgumentException", "java/lang/IndexOutOfBoundsException"] : List String) → E ∈ L) {a0 : Nat} {M : zM} : KX L (f_X3_digest_0 a0 M) := by
  unfold f_X3_digest_0
  exact (ke_X3_digest_6 hL _)
theorem ke_X3_digest {L : List String} (hL : ∀ E, E ∈ (["java/lang/IllegalArgumentException", "java/lang/IndexOutOfBoundsException"] : List String) → E ∈ L) {a0 : Nat} {M : zM} : KX L (f_X3_digest a0 M) := by
  unfold f_X3_digest
  exact (ke_X3_digest_0 hL)
