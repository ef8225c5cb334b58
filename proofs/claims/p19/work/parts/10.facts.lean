/-! ===== FACTS of the tables that the methods use ===== -/
theorem zwk_1 (i : Nat) {w : Cond} (h0 : tables_1_1[i]? = some w) (g : goodWord w = true) : w ∈ zw :=
  have h : w ∈ tables_1_1 := List.mem_of_getElem? h0
  have h1 : w ∈ tables_1 := List.mem_append_left _ h
  zw_mem (List.mem_append_left _ (List.mem_append_right _ h1)) g
theorem zsk_1 (i : Nat) {w : Cond} (h0 : tables_1_1[i]? = some w) (g : zisp w = true) : w ∈ zsp :=
  have h : w ∈ tables_1_1 := List.mem_of_getElem? h0
  have h1 : w ∈ tables_1 := List.mem_append_left _ h
  List.mem_filter.mpr ⟨List.mem_append_left _ (List.mem_append_right _ h1), g⟩
theorem zwk_2 (i : Nat) {w : Cond} (h0 : tables_1_2[i]? = some w) (g : goodWord w = true) : w ∈ zw :=
  have h : w ∈ tables_1_2 := List.mem_of_getElem? h0
  have h1 : w ∈ tables_1 := List.mem_append_right _ (List.mem_append_left _ h)
  zw_mem (List.mem_append_left _ (List.mem_append_right _ h1)) g
theorem zsk_2 (i : Nat) {w : Cond} (h0 : tables_1_2[i]? = some w) (g : zisp w = true) : w ∈ zsp :=
  have h : w ∈ tables_1_2 := List.mem_of_getElem? h0
  have h1 : w ∈ tables_1 := List.mem_append_right _ (List.mem_append_left _ h)
  List.mem_filter.mpr ⟨List.mem_append_left _ (List.mem_append_right _ h1), g⟩
theorem zwk_3 (i : Nat) {w : Cond} (h0 : tables_1_3[i]? = some w) (g : goodWord w = true) : w ∈ zw :=
  have h : w ∈ tables_1_3 := List.mem_of_getElem? h0
  have h1 : w ∈ tables_1 := List.mem_append_right _ (List.mem_append_right _ (List.mem_append_left _ h))
  zw_mem (List.mem_append_left _ (List.mem_append_right _ h1)) g
theorem zsk_3 (i : Nat) {w : Cond} (h0 : tables_1_3[i]? = some w) (g : zisp w = true) : w ∈ zsp :=
  have h : w ∈ tables_1_3 := List.mem_of_getElem? h0
  have h1 : w ∈ tables_1 := List.mem_append_right _ (List.mem_append_right _ (List.mem_append_left _ h))
  List.mem_filter.mpr ⟨List.mem_append_left _ (List.mem_append_right _ h1), g⟩
theorem zwk_4 (i : Nat) {w : Cond} (h0 : tables_1_4[i]? = some w) (g : goodWord w = true) : w ∈ zw :=
  have h : w ∈ tables_1_4 := List.mem_of_getElem? h0
  have h1 : w ∈ tables_1 := List.mem_append_right _ (List.mem_append_right _ (List.mem_append_right _ (List.mem_append_left _ h)))
  zw_mem (List.mem_append_left _ (List.mem_append_right _ h1)) g
theorem zsk_4 (i : Nat) {w : Cond} (h0 : tables_1_4[i]? = some w) (g : zisp w = true) : w ∈ zsp :=
  have h : w ∈ tables_1_4 := List.mem_of_getElem? h0
  have h1 : w ∈ tables_1 := List.mem_append_right _ (List.mem_append_right _ (List.mem_append_right _ (List.mem_append_left _ h)))
  List.mem_filter.mpr ⟨List.mem_append_left _ (List.mem_append_right _ h1), g⟩
theorem zwk_5 (i : Nat) {w : Cond} (h0 : tables_1_5[i]? = some w) (g : goodWord w = true) : w ∈ zw :=
  have h : w ∈ tables_1_5 := List.mem_of_getElem? h0
  have h1 : w ∈ tables_1 := List.mem_append_right _ (List.mem_append_right _ (List.mem_append_right _ (List.mem_append_right _ (List.mem_append_left _ h))))
  zw_mem (List.mem_append_left _ (List.mem_append_right _ h1)) g
theorem zsk_5 (i : Nat) {w : Cond} (h0 : tables_1_5[i]? = some w) (g : zisp w = true) : w ∈ zsp :=
  have h : w ∈ tables_1_5 := List.mem_of_getElem? h0
  have h1 : w ∈ tables_1 := List.mem_append_right _ (List.mem_append_right _ (List.mem_append_right _ (List.mem_append_right _ (List.mem_append_left _ h))))
  List.mem_filter.mpr ⟨List.mem_append_left _ (List.mem_append_right _ h1), g⟩
theorem zwk_6 (i : Nat) {w : Cond} (h0 : tables_1_6[i]? = some w) (g : goodWord w = true) : w ∈ zw :=
  have h : w ∈ tables_1_6 := List.mem_of_getElem? h0
  have h1 : w ∈ tables_1 := List.mem_append_right _ (List.mem_append_right _ (List.mem_append_right _ (List.mem_append_right _ (List.mem_append_right _ (List.mem_append_left _ h)))))
  zw_mem (List.mem_append_left _ (List.mem_append_right _ h1)) g
theorem zsk_6 (i : Nat) {w : Cond} (h0 : tables_1_6[i]? = some w) (g : zisp w = true) : w ∈ zsp :=
  have h : w ∈ tables_1_6 := List.mem_of_getElem? h0
  have h1 : w ∈ tables_1 := List.mem_append_right _ (List.mem_append_right _ (List.mem_append_right _ (List.mem_append_right _ (List.mem_append_right _ (List.mem_append_left _ h)))))
  List.mem_filter.mpr ⟨List.mem_append_left _ (List.mem_append_right _ h1), g⟩
theorem zwk_7 (i : Nat) {w : Cond} (h0 : tables_1_7[i]? = some w) (g : goodWord w = true) : w ∈ zw :=
  have h : w ∈ tables_1_7 := List.mem_of_getElem? h0
  have h1 : w ∈ tables_1 := List.mem_append_right _ (List.mem_append_right _ (List.mem_append_right _ (List.mem_append_right _ (List.mem_append_right _ (List.mem_append_right _ (h))))))
  zw_mem (List.mem_append_left _ (List.mem_append_right _ h1)) g
theorem zsk_7 (i : Nat) {w : Cond} (h0 : tables_1_7[i]? = some w) (g : zisp w = true) : w ∈ zsp :=
  have h : w ∈ tables_1_7 := List.mem_of_getElem? h0
  have h1 : w ∈ tables_1 := List.mem_append_right _ (List.mem_append_right _ (List.mem_append_right _ (List.mem_append_right _ (List.mem_append_right _ (List.mem_append_right _ (h))))))
  List.mem_filter.mpr ⟨List.mem_append_left _ (List.mem_append_right _ h1), g⟩
def zN : Nat := 130
def zR : Nat := 64
def zNL : Nat := 520
abbrev zmd (a b : Int32) : Int32 := a - a / b * b
theorem ox {c : Prop} [Decidable c] {α : Type} {x : Option α} {r : α} (h : (if c then x else none) = some r) : c ∧ x = some r := by
  by_cases q : c
  · rw [if_pos q] at h; exact ⟨q, h⟩
  · rw [if_neg q] at h; cases h
theorem on {c : Prop} [Decidable c] {α : Type} {x : Option α} {r : α} (h : (if c then none else x) = some r) : ¬ c ∧ x = some r := by
  by_cases q : c
  · rw [if_pos q] at h; cases h
  · rw [if_neg q] at h; exact ⟨q, h⟩
theorem zf_1_0 : zfd 1 0 2 RJ0 TJ0 4 tyJ0 := ⟨by decide, by decide, rfl, zin1, tyJ0_ok, nmJ0, by decide, rfl⟩
theorem zf_1_1 : zfd 1 1 0 RJ0 TJ0 4 tyJ0 := ⟨by decide, by decide, rfl, zin1, tyJ0_ok, nmJ0, by decide, rfl⟩
theorem zf_2_0 : zfd 2 0 2 RJ4 TJ4 4 tyJ4 := ⟨by decide, by decide, rfl, zin2, tyJ4_ok, nmJ4, by decide, rfl⟩
theorem zf_2_1 : zfd 2 1 0 RJ4 TJ4 4 tyJ4 := ⟨by decide, by decide, rfl, zin2, tyJ4_ok, nmJ4, by decide, rfl⟩
theorem zf_2_2 : zfd 2 2 0 RJ4 TJ4 4 tyJ4 := ⟨by decide, by decide, rfl, zin2, tyJ4_ok, nmJ4, by decide, rfl⟩
theorem zf_2_3 : zfd 2 3 0 RJ4 TJ4 4 tyJ4 := ⟨by decide, by decide, rfl, zin2, tyJ4_ok, nmJ4, by decide, rfl⟩
theorem zf_3_0 : zfd 3 0 0 RJ6 TJ6 1 tyJ6 := ⟨by decide, by decide, rfl, zin3, tyJ6_ok, nmJ6, by decide, rfl⟩
theorem zf_4_0 : zfd 4 0 0 RJx35411 TJx35411 4 tyJx35411 := ⟨by decide, by decide, rfl, zin4, tyJx35411_ok, nmJx35411, by decide, rfl⟩
theorem zf_4_1 : zfd 4 1 0 RJx35411 TJx35411 4 tyJx35411 := ⟨by decide, by decide, rfl, zin4, tyJx35411_ok, nmJx35411, by decide, rfl⟩
theorem zf_4_2 : zfd 4 2 0 RJx35411 TJx35411 4 tyJx35411 := ⟨by decide, by decide, rfl, zin4, tyJx35411_ok, nmJx35411, by decide, rfl⟩
theorem zf_4_3 : zfd 4 3 2 RJx35411 TJx35411 4 tyJx35411 := ⟨by decide, by decide, rfl, zin4, tyJx35411_ok, nmJx35411, by decide, rfl⟩
theorem zf_5_0 : zfd 5 0 0 RJx4a65c TJx4a65c 3 tyJx4a65c := ⟨by decide, by decide, rfl, zin5, tyJx4a65c_ok, nmJx4a65c, by decide, rfl⟩
theorem zf_5_1 : zfd 5 1 2 RJx4a65c TJx4a65c 3 tyJx4a65c := ⟨by decide, by decide, rfl, zin5, tyJx4a65c_ok, nmJx4a65c, by decide, rfl⟩
theorem zf_5_2 : zfd 5 2 0 RJx4a65c TJx4a65c 3 tyJx4a65c := ⟨by decide, by decide, rfl, zin5, tyJx4a65c_ok, nmJx4a65c, by decide, rfl⟩
theorem zf_6_0 : zfd 6 0 2 RX0 TX0 5 tyX0 := ⟨by decide, by decide, rfl, zin6, tyX0_ok, nmX0, by decide, rfl⟩
theorem zf_6_1 : zfd 6 1 2 RX0 TX0 5 tyX0 := ⟨by decide, by decide, rfl, zin6, tyX0_ok, nmX0, by decide, rfl⟩
theorem zf_6_2 : zfd 6 2 2 RX0 TX0 5 tyX0 := ⟨by decide, by decide, rfl, zin6, tyX0_ok, nmX0, by decide, rfl⟩
theorem zf_6_3 : zfd 6 3 2 RX0 TX0 5 tyX0 := ⟨by decide, by decide, rfl, zin6, tyX0_ok, nmX0, by decide, rfl⟩
theorem zf_6_4 : zfd 6 4 2 RX0 TX0 5 tyX0 := ⟨by decide, by decide, rfl, zin6, tyX0_ok, nmX0, by decide, rfl⟩
theorem zf_7_0 : zfd 7 0 2 RX1 TX1 9 tyX1 := ⟨by decide, by decide, rfl, zin7, tyX1_ok, nmX1, by decide, rfl⟩
theorem zf_7_1 : zfd 7 1 2 RX1 TX1 9 tyX1 := ⟨by decide, by decide, rfl, zin7, tyX1_ok, nmX1, by decide, rfl⟩
theorem zf_7_2 : zfd 7 2 2 RX1 TX1 9 tyX1 := ⟨by decide, by decide, rfl, zin7, tyX1_ok, nmX1, by decide, rfl⟩
theorem zf_7_3 : zfd 7 3 1 RX1 TX1 9 tyX1 := ⟨by decide, by decide, rfl, zin7, tyX1_ok, nmX1, by decide, rfl⟩
theorem zf_7_4 : zfd 7 4 0 RX1 TX1 9 tyX1 := ⟨by decide, by decide, rfl, zin7, tyX1_ok, nmX1, by decide, rfl⟩
theorem zf_7_5 : zfd 7 5 0 RX1 TX1 9 tyX1 := ⟨by decide, by decide, rfl, zin7, tyX1_ok, nmX1, by decide, rfl⟩
theorem zf_7_6 : zfd 7 6 0 RX1 TX1 9 tyX1 := ⟨by decide, by decide, rfl, zin7, tyX1_ok, nmX1, by decide, rfl⟩
theorem zf_7_7 : zfd 7 7 0 RX1 TX1 9 tyX1 := ⟨by decide, by decide, rfl, zin7, tyX1_ok, nmX1, by decide, rfl⟩
theorem zf_7_8 : zfd 7 8 0 RX1 TX1 9 tyX1 := ⟨by decide, by decide, rfl, zin7, tyX1_ok, nmX1, by decide, rfl⟩
theorem zf_8_0 : zfd 8 0 2 RX2 TX2 1 tyX2 := ⟨by decide, by decide, rfl, zin8, tyX2_ok, nmX2, by decide, rfl⟩
theorem zf_9_0 : zfd 9 0 2 RX3 TX3 16 tyX3 := ⟨by decide, by decide, rfl, zin9, tyX3_ok, nmX3, by decide, rfl⟩
theorem zf_9_1 : zfd 9 1 2 RX3 TX3 16 tyX3 := ⟨by decide, by decide, rfl, zin9, tyX3_ok, nmX3, by decide, rfl⟩
theorem zf_9_2 : zfd 9 2 2 RX3 TX3 16 tyX3 := ⟨by decide, by decide, rfl, zin9, tyX3_ok, nmX3, by decide, rfl⟩
theorem zf_9_3 : zfd 9 3 0 RX3 TX3 16 tyX3 := ⟨by decide, by decide, rfl, zin9, tyX3_ok, nmX3, by decide, rfl⟩
theorem zf_9_4 : zfd 9 4 0 RX3 TX3 16 tyX3 := ⟨by decide, by decide, rfl, zin9, tyX3_ok, nmX3, by decide, rfl⟩
theorem zf_9_5 : zfd 9 5 0 RX3 TX3 16 tyX3 := ⟨by decide, by decide, rfl, zin9, tyX3_ok, nmX3, by decide, rfl⟩
theorem zf_9_6 : zfd 9 6 0 RX3 TX3 16 tyX3 := ⟨by decide, by decide, rfl, zin9, tyX3_ok, nmX3, by decide, rfl⟩
theorem zf_9_7 : zfd 9 7 0 RX3 TX3 16 tyX3 := ⟨by decide, by decide, rfl, zin9, tyX3_ok, nmX3, by decide, rfl⟩
theorem zf_9_8 : zfd 9 8 0 RX3 TX3 16 tyX3 := ⟨by decide, by decide, rfl, zin9, tyX3_ok, nmX3, by decide, rfl⟩
theorem zf_9_9 : zfd 9 9 0 RX3 TX3 16 tyX3 := ⟨by decide, by decide, rfl, zin9, tyX3_ok, nmX3, by decide, rfl⟩
theorem zf_9_10 : zfd 9 10 0 RX3 TX3 16 tyX3 := ⟨by decide, by decide, rfl, zin9, tyX3_ok, nmX3, by decide, rfl⟩
theorem zf_9_11 : zfd 9 11 0 RX3 TX3 16 tyX3 := ⟨by decide, by decide, rfl, zin9, tyX3_ok, nmX3, by decide, rfl⟩
theorem zf_9_12 : zfd 9 12 0 RX3 TX3 16 tyX3 := ⟨by decide, by decide, rfl, zin9, tyX3_ok, nmX3, by decide, rfl⟩
theorem zf_9_13 : zfd 9 13 0 RX3 TX3 16 tyX3 := ⟨by decide, by decide, rfl, zin9, tyX3_ok, nmX3, by decide, rfl⟩
theorem zf_9_14 : zfd 9 14 0 RX3 TX3 16 tyX3 := ⟨by decide, by decide, rfl, zin9, tyX3_ok, nmX3, by decide, rfl⟩
theorem zf_9_15 : zfd 9 15 0 RX3 TX3 16 tyX3 := ⟨by decide, by decide, rfl, zin9, tyX3_ok, nmX3, by decide, rfl⟩
theorem zf_10_0 : zfd 10 0 1 RX4 TX4 3 tyX4 := ⟨by decide, by decide, rfl, zin10, tyX4_ok, nmX4, by decide, rfl⟩
theorem zf_10_1 : zfd 10 1 3 RX4 TX4 3 tyX4 := ⟨by decide, by decide, rfl, zin10, tyX4_ok, nmX4, by decide, rfl⟩
theorem zf_10_2 : zfd 10 2 2 RX4 TX4 3 tyX4 := ⟨by decide, by decide, rfl, zin10, tyX4_ok, nmX4, by decide, rfl⟩
theorem zf_11_0 : zfd 11 0 0 RX5 TX5 2 tyX5 := ⟨by decide, by decide, rfl, zin11, tyX5_ok, nmX5, by decide, rfl⟩
theorem zf_11_1 : zfd 11 1 0 RX5 TX5 2 tyX5 := ⟨by decide, by decide, rfl, zin11, tyX5_ok, nmX5, by decide, rfl⟩
theorem zf_12_0 : zfd 12 0 0 RX6 TX6 7 tyX6 := ⟨by decide, by decide, rfl, zin12, tyX6_ok, nmX6, by decide, rfl⟩
theorem zf_12_1 : zfd 12 1 0 RX6 TX6 7 tyX6 := ⟨by decide, by decide, rfl, zin12, tyX6_ok, nmX6, by decide, rfl⟩
theorem zf_12_2 : zfd 12 2 2 RX6 TX6 7 tyX6 := ⟨by decide, by decide, rfl, zin12, tyX6_ok, nmX6, by decide, rfl⟩
theorem zf_12_3 : zfd 12 3 2 RX6 TX6 7 tyX6 := ⟨by decide, by decide, rfl, zin12, tyX6_ok, nmX6, by decide, rfl⟩
theorem zf_12_4 : zfd 12 4 2 RX6 TX6 7 tyX6 := ⟨by decide, by decide, rfl, zin12, tyX6_ok, nmX6, by decide, rfl⟩
theorem zf_12_5 : zfd 12 5 1 RX6 TX6 7 tyX6 := ⟨by decide, by decide, rfl, zin12, tyX6_ok, nmX6, by decide, rfl⟩
theorem zf_12_6 : zfd 12 6 0 RX6 TX6 7 tyX6 := ⟨by decide, by decide, rfl, zin12, tyX6_ok, nmX6, by decide, rfl⟩
theorem zf_13_0 : zfd 13 0 0 RX7 TX7 15 tyX7 := ⟨by decide, by decide, rfl, zin13, tyX7_ok, nmX7, by decide, rfl⟩
theorem zf_13_1 : zfd 13 1 2 RX7 TX7 15 tyX7 := ⟨by decide, by decide, rfl, zin13, tyX7_ok, nmX7, by decide, rfl⟩
theorem zf_13_2 : zfd 13 2 2 RX7 TX7 15 tyX7 := ⟨by decide, by decide, rfl, zin13, tyX7_ok, nmX7, by decide, rfl⟩
theorem zf_13_3 : zfd 13 3 0 RX7 TX7 15 tyX7 := ⟨by decide, by decide, rfl, zin13, tyX7_ok, nmX7, by decide, rfl⟩
theorem zf_13_4 : zfd 13 4 0 RX7 TX7 15 tyX7 := ⟨by decide, by decide, rfl, zin13, tyX7_ok, nmX7, by decide, rfl⟩
theorem zf_13_5 : zfd 13 5 0 RX7 TX7 15 tyX7 := ⟨by decide, by decide, rfl, zin13, tyX7_ok, nmX7, by decide, rfl⟩
theorem zf_13_6 : zfd 13 6 0 RX7 TX7 15 tyX7 := ⟨by decide, by decide, rfl, zin13, tyX7_ok, nmX7, by decide, rfl⟩
theorem zf_13_7 : zfd 13 7 0 RX7 TX7 15 tyX7 := ⟨by decide, by decide, rfl, zin13, tyX7_ok, nmX7, by decide, rfl⟩
theorem zf_13_8 : zfd 13 8 0 RX7 TX7 15 tyX7 := ⟨by decide, by decide, rfl, zin13, tyX7_ok, nmX7, by decide, rfl⟩
theorem zf_13_9 : zfd 13 9 0 RX7 TX7 15 tyX7 := ⟨by decide, by decide, rfl, zin13, tyX7_ok, nmX7, by decide, rfl⟩
theorem zf_13_10 : zfd 13 10 0 RX7 TX7 15 tyX7 := ⟨by decide, by decide, rfl, zin13, tyX7_ok, nmX7, by decide, rfl⟩
theorem zf_13_11 : zfd 13 11 0 RX7 TX7 15 tyX7 := ⟨by decide, by decide, rfl, zin13, tyX7_ok, nmX7, by decide, rfl⟩
theorem zf_13_12 : zfd 13 12 0 RX7 TX7 15 tyX7 := ⟨by decide, by decide, rfl, zin13, tyX7_ok, nmX7, by decide, rfl⟩
theorem zf_13_13 : zfd 13 13 0 RX7 TX7 15 tyX7 := ⟨by decide, by decide, rfl, zin13, tyX7_ok, nmX7, by decide, rfl⟩
theorem zf_13_14 : zfd 13 14 0 RX7 TX7 15 tyX7 := ⟨by decide, by decide, rfl, zin13, tyX7_ok, nmX7, by decide, rfl⟩
theorem zl_X3_11 : zlk RX3 11 "Windsparlour" TX3 0 := ⟨zwk_1 119 rfl rfl, Or.inl rfl⟩
theorem zl_X3_18 : zlk RX3 18 "Windsparlour" TX3 1 := ⟨zwk_1 120 rfl rfl, Or.inl rfl⟩
theorem zl_X3_25 : zlk RX3 25 "Windsparlour" TX3 2 := ⟨zwk_1 121 rfl rfl, Or.inl rfl⟩
theorem zl_X3_29 : zlk RX3 29 "Windsparlour" TX3 3 := ⟨zwk_1 122 rfl rfl, Or.inl rfl⟩
theorem zl_X3_33 : zlk RX3 33 "Windsparlour" TX3 4 := ⟨zwk_1 123 rfl rfl, Or.inl rfl⟩
theorem zl_X3_36 : zlk RX3 36 "Windsparlour" TX3 5 := ⟨zwk_1 124 rfl rfl, Or.inl rfl⟩
theorem zl_X3_39 : zlk RX3 39 "Windsparlour" TX3 6 := ⟨zwk_1 125 rfl rfl, Or.inl rfl⟩
theorem zl_X3_42 : zlk RX3 42 "Windsparlour" TX3 7 := ⟨zwk_1 126 rfl rfl, Or.inl rfl⟩
theorem zl_X3_45 : zlk RX3 45 "Windsparlour" TX3 8 := ⟨zwk_1 127 rfl rfl, Or.inl rfl⟩
theorem zl_X3_48 : zlk RX3 48 "Windsparlour" TX3 9 := ⟨zwk_1 128 rfl rfl, Or.inl rfl⟩
theorem zl_X3_51 : zlk RX3 51 "Windsparlour" TX3 10 := ⟨zwk_1 129 rfl rfl, Or.inl rfl⟩
theorem zl_X3_54 : zlk RX3 54 "Windsparlour" TX3 11 := ⟨zwk_1 130 rfl rfl, Or.inl rfl⟩
theorem zl_X3_57 : zlk RX3 57 "Windsparlour" TX3 12 := ⟨zwk_1 131 rfl rfl, Or.inl rfl⟩
theorem zl_X3_60 : zlk RX3 60 "Windsparlour" TX3 13 := ⟨zwk_1 132 rfl rfl, Or.inl rfl⟩
theorem zl_X3_63 : zlk RX3 63 "Windsparlour" TX3 14 := ⟨zwk_1 133 rfl rfl, Or.inl rfl⟩
theorem zl_X3_66 : zlk RX3 66 "Windsparlour" TX3 15 := ⟨zwk_1 134 rfl rfl, Or.inl rfl⟩
theorem zl_X3_115 : zlk RX3 115 "Windsparlour$Seat" TX1 6 := ⟨zwk_1 95 rfl rfl, Or.inl rfl⟩
theorem zl_X3_127 : zlk RX3 127 "Windsparlour$Seat" TX1 5 := ⟨zwk_1 92 rfl rfl, Or.inl rfl⟩
theorem zl_X3_140 : zlk RX3 140 "Windsparlour$Seat" TX1 7 := ⟨zwk_1 97 rfl rfl, Or.inl rfl⟩
theorem zl_X3_167 : zlk RX3 167 "Windsparlour$Seat" TX1 4 := ⟨zwk_1 90 rfl rfl, Or.inl rfl⟩
theorem zl_X3_195 : zlk RX3 195 "Windsparlour$Seat" TX1 8 := ⟨zwk_1 99 rfl rfl, Or.inl rfl⟩
theorem zl_X3_201 : zlk RX3 201 "Windsparlour$Seat" TX1 0 := ⟨zwk_1 82 rfl rfl, Or.inl rfl⟩
theorem zl_X3_213 : zlk RX3 213 "Windsparlour$Seat" TX1 3 := ⟨zwk_1 88 rfl rfl, Or.inl rfl⟩
theorem zl_X3_224 : zlk RX3 224 "Windsparlour$Seat" TX1 1 := ⟨zwk_1 84 rfl rfl, Or.inl rfl⟩
theorem zl_X3_229 : zlk RX3 229 "Windsparlour$Seat" TX1 2 := ⟨zwk_1 86 rfl rfl, Or.inl rfl⟩
theorem zl_X0_9 : zlk RX0 9 "Windsparlour$Parting" TX0 0 := ⟨zwk_1 49 rfl rfl, Or.inl rfl⟩
theorem zl_X0_15 : zlk RX0 15 "Windsparlour$Parting" TX0 1 := ⟨zwk_1 50 rfl rfl, Or.inl rfl⟩
theorem zl_X0_18 : zlk RX0 18 "Windsparlour$Parting" TX0 2 := ⟨zwk_1 51 rfl rfl, Or.inl rfl⟩
theorem zl_X0_21 : zlk RX0 21 "Windsparlour$Parting" TX0 3 := ⟨zwk_1 52 rfl rfl, Or.inl rfl⟩
theorem zl_X0_24 : zlk RX0 24 "Windsparlour$Parting" TX0 4 := ⟨zwk_1 53 rfl rfl, Or.inl rfl⟩
theorem zl_X1_9 : zlk RX1 9 "Windsparlour$Seat" TX1 0 := ⟨zwk_1 81 rfl rfl, Or.inl rfl⟩
theorem zl_X1_15 : zlk RX1 15 "Windsparlour$Seat" TX1 1 := ⟨zwk_1 83 rfl rfl, Or.inl rfl⟩
theorem zl_X1_18 : zlk RX1 18 "Windsparlour$Seat" TX1 2 := ⟨zwk_1 85 rfl rfl, Or.inl rfl⟩
theorem zl_X1_21 : zlk RX1 21 "Windsparlour$Seat" TX1 3 := ⟨zwk_1 87 rfl rfl, Or.inl rfl⟩
theorem zl_X1_25 : zlk RX1 25 "Windsparlour$Seat" TX1 4 := ⟨zwk_1 89 rfl rfl, Or.inl rfl⟩
theorem zl_X1_29 : zlk RX1 29 "Windsparlour$Seat" TX1 5 := ⟨zwk_1 91 rfl rfl, Or.inl rfl⟩
theorem zl_X1_32 : zlk RX1 32 "Windsparlour$Seat" TX1 6 := ⟨zwk_1 93 rfl rfl, Or.inl rfl⟩
theorem zl_X1_36 : zlk RX1 36 "Windsparlour$Seat" TX1 7 := ⟨zwk_1 96 rfl rfl, Or.inl rfl⟩
theorem zl_X1_39 : zlk RX1 39 "Windsparlour$Seat" TX1 8 := ⟨zwk_1 98 rfl rfl, Or.inl rfl⟩
theorem zl_X2_9 : zlk RX2 9 "Windsparlour$Valuing" TX2 0 := ⟨zwk_1 72 rfl rfl, Or.inl rfl⟩
theorem zl_X2_19 : zlk RX2 19 "Windsparlour$Seat" TX1 6 := ⟨zwk_1 94 rfl rfl, Or.inl rfl⟩
theorem zlN_L_13 : zlkN RL 13 TX4 0 "WindsparlourLaw" := zsk_2 142 rfl rfl
theorem zlN_L_72 : zlkN RL 72 TX4 2 "WindsparlourLaw" := zsk_2 144 rfl rfl
theorem zlN_L_83 : zlkN RL 83 TX4 1 "WindsparlourLaw" := zsk_2 143 rfl rfl
theorem zl_X7_38 : zlk RX7 38 "WindsparlourModel" TX7 1 := ⟨zwk_5 86 rfl rfl, Or.inl rfl⟩
theorem zl_X7_42 : zlk RX7 42 "WindsparlourModel" TX7 2 := ⟨zwk_5 87 rfl rfl, Or.inl rfl⟩
theorem zl_X7_46 : zlk RX7 46 "WindsparlourModel" TX7 5 := ⟨zwk_5 90 rfl rfl, Or.inl rfl⟩
theorem zl_X7_50 : zlk RX7 50 "WindsparlourModel" TX7 6 := ⟨zwk_5 91 rfl rfl, Or.inl rfl⟩
theorem zl_X7_53 : zlk RX7 53 "WindsparlourModel" TX7 8 := ⟨zwk_5 93 rfl rfl, Or.inl rfl⟩
theorem zl_X7_56 : zlk RX7 56 "WindsparlourModel" TX7 12 := ⟨zwk_5 97 rfl rfl, Or.inl rfl⟩
theorem zl_X7_59 : zlk RX7 59 "WindsparlourModel" TX7 13 := ⟨zwk_5 98 rfl rfl, Or.inl rfl⟩
theorem zl_X7_62 : zlk RX7 62 "WindsparlourModel" TX7 14 := ⟨zwk_5 99 rfl rfl, Or.inl rfl⟩
theorem zl_X7_65 : zlk RX7 65 "WindsparlourModel" TX7 0 := ⟨zwk_5 85 rfl rfl, Or.inl rfl⟩
theorem zl_X7_72 : zlk RX7 72 "WindsparlourModel" TX7 4 := ⟨zwk_5 89 rfl rfl, Or.inl rfl⟩
theorem zl_X7_75 : zlk RX7 75 "WindsparlourModel" TX7 3 := ⟨zwk_5 88 rfl rfl, Or.inl rfl⟩
theorem zl_X7_82 : zlk RX7 82 "WindsparlourModel" TX7 7 := ⟨zwk_5 92 rfl rfl, Or.inl rfl⟩
theorem zl_X7_88 : zlk RX7 88 "WindsparlourModel" TX7 9 := ⟨zwk_5 94 rfl rfl, Or.inl rfl⟩
theorem zl_X7_94 : zlk RX7 94 "WindsparlourModel$Player" TX6 2 := ⟨zwk_5 61 rfl rfl, Or.inl rfl⟩
theorem zl_X7_101 : zlk RX7 101 "WindsparlourModel" TX7 10 := ⟨zwk_5 95 rfl rfl, Or.inl rfl⟩
theorem zl_X7_112 : zlk RX7 112 "WindsparlourModel$Player" TX6 0 := ⟨zwk_5 58 rfl rfl, Or.inl rfl⟩
theorem zl_X7_124 : zlk RX7 124 "WindsparlourModel$Player" TX6 4 := ⟨zwk_5 65 rfl rfl, Or.inl rfl⟩
theorem zl_X7_140 : zlk RX7 140 "WindsparlourModel$Player" TX6 5 := ⟨zwk_5 67 rfl rfl, Or.inl rfl⟩
theorem zl_X7_151 : zlk RX7 151 "WindsparlourModel$Player" TX6 6 := ⟨zwk_5 69 rfl rfl, Or.inl rfl⟩
theorem zl_X7_164 : zlk RX7 164 "WindsparlourModel" TX7 11 := ⟨zwk_5 96 rfl rfl, Or.inl rfl⟩
theorem zl_X7_183 : zlk RX7 183 "WindsparlourModel$Player" TX6 3 := ⟨zwk_5 63 rfl rfl, Or.inl rfl⟩
theorem zl_X7_238 : zlk RX7 238 "WindsparlourModel$Lying" TX5 1 := ⟨zwk_6 155 rfl rfl, Or.inl rfl⟩
theorem zl_X7_241 : zlk RX7 241 "WindsparlourModel$Lying" TX5 0 := ⟨zwk_6 153 rfl rfl, Or.inl rfl⟩
theorem zl_X7_266 : zlk RX7 266 "WindsparlourModel$Player" TX6 1 := ⟨zwk_5 59 rfl rfl, Or.inl rfl⟩
theorem zl_X5_9 : zlk RX5 9 "WindsparlourModel$Lying" TX5 0 := ⟨zwk_6 152 rfl rfl, Or.inl rfl⟩
theorem zl_X5_15 : zlk RX5 15 "WindsparlourModel$Lying" TX5 1 := ⟨zwk_6 154 rfl rfl, Or.inl rfl⟩
theorem zl_X6_9 : zlk RX6 9 "WindsparlourModel$Player" TX6 0 := ⟨zwk_5 57 rfl rfl, Or.inl rfl⟩
theorem zl_X6_15 : zlk RX6 15 "WindsparlourModel$Player" TX6 2 := ⟨zwk_5 60 rfl rfl, Or.inl rfl⟩
theorem zl_X6_22 : zlk RX6 22 "WindsparlourModel$Player" TX6 3 := ⟨zwk_5 62 rfl rfl, Or.inl rfl⟩
theorem zl_X6_26 : zlk RX6 26 "WindsparlourModel$Player" TX6 4 := ⟨zwk_5 64 rfl rfl, Or.inl rfl⟩
theorem zl_X6_32 : zlk RX6 32 "WindsparlourModel$Player" TX6 5 := ⟨zwk_5 66 rfl rfl, Or.inl rfl⟩
theorem zl_X6_36 : zlk RX6 36 "WindsparlourModel$Player" TX6 6 := ⟨zwk_5 68 rfl rfl, Or.inl rfl⟩
theorem zl_J5_15 : zlk RJ5 15 "java/lang/AbstractStringBuilder" TJ4 0 := ⟨zwk_3 195 rfl rfl, Or.inl rfl⟩
theorem zl_J5_22 : zlk RJ5 22 "java/lang/AbstractStringBuilder" TJ4 1 := ⟨zwk_3 196 rfl rfl, Or.inl rfl⟩
theorem zl_J5_79 : zlk RJ5 79 "java/lang/AbstractStringBuilder" TJ4 3 := ⟨zwk_3 198 rfl rfl, Or.inl rfl⟩
theorem zl_J6_205 : zlk RJ6 205 "java/lang/Integer" TJ6 0 := ⟨zwk_5 238 rfl rfl, Or.inl rfl⟩
theorem zl_J0_9 : zlk RJ0 9 "java/lang/String" TJ0 0 := ⟨zwk_4 210 rfl rfl, Or.inl rfl⟩
theorem zl_J0_15 : zlk RJ0 15 "java/lang/String" TJ0 1 := ⟨zwk_4 211 rfl rfl, Or.inl rfl⟩
theorem zl_J0_1048 : zlk RJ0 1048 "java/lang/AbstractStringBuilder" TJ4 2 := ⟨zwk_3 197 rfl rfl, Or.inl rfl⟩
theorem zl_Jxc12de_7 : zlk RJxc12de 7 "java/util/AbstractList" TJx4a65c 0 := ⟨zwk_5 46 rfl rfl, Or.inl rfl⟩
theorem zl_Jx4a65c_9 : zlk RJx4a65c 9 "java/util/ArrayList" TJx4a65c 1 := ⟨zwk_5 42 rfl rfl, Or.inl rfl⟩
theorem zl_Jx4a65c_48 : zlk RJx4a65c 48 "java/util/ArrayList" TJx4a65c 2 := ⟨zwk_5 45 rfl rfl, Or.inl rfl⟩
theorem zl_Jx4a65c_63 : zlk RJx4a65c 63 "java/util/ArrayList" TJx4a65c 0 := ⟨zwk_5 49 rfl rfl, Or.inr (zwk_5 48 rfl rfl)⟩
theorem zl_Jx35411_1 : zlk RJx35411 1 "java/util/ArrayList$Itr" TJx35411 3 := ⟨zwk_6 76 rfl rfl, Or.inl rfl⟩
theorem zl_Jx35411_13 : zlk RJx35411 13 "java/util/ArrayList$Itr" TJx35411 1 := ⟨zwk_6 74 rfl rfl, Or.inl rfl⟩
theorem zl_Jx35411_17 : zlk RJx35411 17 "java/util/ArrayList" TJx4a65c 0 := ⟨zwk_5 47 rfl rfl, Or.inr (zwk_5 48 rfl rfl)⟩
theorem zl_Jx35411_22 : zlk RJx35411 22 "java/util/ArrayList$Itr" TJx35411 2 := ⟨zwk_6 75 rfl rfl, Or.inl rfl⟩
theorem zl_Jx35411_25 : zlk RJx35411 25 "java/util/ArrayList$Itr" TJx35411 0 := ⟨zwk_6 73 rfl rfl, Or.inl rfl⟩
theorem zlN_Jx35411_28 : zlkN RJx35411 28 TJx4a65c 2 "java/util/ArrayList" := zsk_5 44 rfl rfl
theorem zl_Jx35411_37 : zlk RJx35411 37 "java/util/ArrayList" TJx4a65c 1 := ⟨zwk_5 43 rfl rfl, Or.inl rfl⟩
theorem zg_X0_68 : Cond.fieldLink RX0 68 "Windsparlour$Parting" "AT_LOW" "[I" ∈ zw := zwk_1 206 rfl rfl
theorem zg_X0_71 : Cond.fieldLink RX0 71 "Windsparlour$Parting" "AT_NEXT" "[I" ∈ zw := zwk_1 208 rfl rfl
theorem zg_X0_74 : Cond.fieldLink RX0 74 "Windsparlour$Parting" "AT_THIRD" "[I" ∈ zw := zwk_1 210 rfl rfl
theorem zg_J5_18 : Cond.fieldLink RJ5 18 "java/lang/String" "COMPACT_STRINGS" "Z" ∈ zw := zwk_3 186 rfl rfl
theorem zg_J6_83 : Cond.fieldLink RJ6 83 "java/lang/Integer" "DigitOnes" "[B" ∈ zw := zwk_4 27 rfl rfl
theorem zg_J6_87 : Cond.fieldLink RJ6 87 "java/lang/Integer" "DigitTens" "[B" ∈ zw := zwk_4 29 rfl rfl
theorem zg_J6_191 : Cond.fieldLink RJ6 191 "java/lang/Integer$IntegerCache" "high" "I" ∈ zw := zwk_5 225 rfl rfl
theorem zg_J6_195 : Cond.fieldLink RJ6 195 "java/lang/Integer$IntegerCache" "cache" "[Ljava/lang/Integer;" ∈ zw := zwk_5 227 rfl rfl
theorem zg_J0_38 : Cond.fieldLink RJ0 38 "java/lang/String" "COMPACT_STRINGS" "Z" ∈ zw := zwk_4 115 rfl rfl
theorem zg_J0_1053 : Cond.fieldLink RJ0 1053 "jdk/internal/util/Preconditions" "SIOOBE_FORMATTER" "Ljava/util/function/BiFunction;" ∈ zw := zwk_4 43 rfl rfl
theorem zg_Jx4a65c_39 : Cond.fieldLink RJx4a65c 39 "java/util/ArrayList" "DEFAULTCAPACITY_EMPTY_ELEMENTDATA" "[Ljava/lang/Object;" ∈ zw := zwk_5 40 rfl rfl
theorem zst_0 (L : zL) : (("Windsparlour$Parting", "AT_LOW", "[I", .ref (zad L 1)) : String × String × String × Value) ∈ zst L := List.mem_of_getElem? (i := 0) rfl
theorem zst_1 (L : zL) : (("Windsparlour$Parting", "AT_NEXT", "[I", .ref (zad L 2)) : String × String × String × Value) ∈ zst L := List.mem_of_getElem? (i := 1) rfl
theorem zst_2 (L : zL) : (("Windsparlour$Parting", "AT_THIRD", "[I", .ref (zad L 3)) : String × String × String × Value) ∈ zst L := List.mem_of_getElem? (i := 2) rfl
theorem zst_3 (L : zL) : (("java/util/ArrayList", "DEFAULTCAPACITY_EMPTY_ELEMENTDATA", "[Ljava/lang/Object;", .ref (zad L 4)) : String × String × String × Value) ∈ zst L := List.mem_of_getElem? (i := 3) rfl
theorem zst_4 (L : zL) : (("java/lang/Integer$IntegerCache", "cache", "[Ljava/lang/Integer;", .ref (zad L 5)) : String × String × String × Value) ∈ zst L := List.mem_of_getElem? (i := 4) rfl
theorem zst_5 (L : zL) : (("java/lang/Integer$IntegerCache", "high", "I", .int 127) : String × String × String × Value) ∈ zst L := List.mem_of_getElem? (i := 5) rfl
theorem zst_6 (L : zL) : (("java/lang/String", "COMPACT_STRINGS", "Z", .int 1) : String × String × String × Value) ∈ zst L := List.mem_of_getElem? (i := 6) rfl
theorem zst_7 (L : zL) : (("java/lang/Integer", "DigitOnes", "[B", .ref (zad L 6)) : String × String × String × Value) ∈ zst L := List.mem_of_getElem? (i := 7) rfl
theorem zst_8 (L : zL) : (("java/lang/Integer", "DigitTens", "[B", .ref (zad L 7)) : String × String × String × Value) ∈ zst L := List.mem_of_getElem? (i := 8) rfl
theorem zst_9 (L : zL) : (("jdk/internal/util/Preconditions", "SIOOBE_FORMATTER", "Ljava/util/function/BiFunction;", va_rf (zfv L)) : String × String × String × Value) ∈ zst L := List.mem_of_getElem? (i := 9) rfl
theorem zgo_3_0 : zgo 3 0 := ⟨by decide, by decide, _, _, _, rfl, Or.inr (zsk_7 145 rfl rfl)⟩
theorem zgo_7_1 : zgo 7 1 := ⟨by decide, by decide, _, _, _, rfl, Or.inl rfl⟩
theorem zgo_11_0 : zgo 11 0 := ⟨by decide, by decide, _, _, _, rfl, Or.inr (zsk_7 156 rfl rfl)⟩
theorem zgo_12_2 : zgo 12 2 := ⟨by decide, by decide, _, _, _, rfl, Or.inl rfl⟩
theorem zna_0 : Cond.arrayClass (zpt 0) ∈ zw := zwk_1 65 rfl rfl
theorem zna_1 : Cond.arrayClass (zpt 1) ∈ zw := zwk_2 70 rfl rfl
theorem zna_2 : Cond.arrayClass (zpt 2) ∈ zw := zwk_5 210 rfl rfl
theorem zk_X3_9 : Cond.classLink RX3 9 "Windsparlour$Seat" ∈ zw := zwk_1 41 rfl rfl
theorem zk_X3_71 : Cond.classLink RX3 71 "java/lang/IllegalArgumentException" ∈ zw := zwk_2 3 rfl rfl
theorem zk_X3_118 : Cond.classLink RX3 118 "java/lang/IllegalStateException" ∈ zw := zwk_2 166 rfl rfl
theorem zk_X3_219 : Cond.classLink RX3 219 "java/lang/IndexOutOfBoundsException" ∈ zw := zwk_2 82 rfl rfl
theorem zk_L_19 : Cond.classLink RL 19 "java/lang/IllegalArgumentException" ∈ zw := zwk_2 155 rfl rfl
theorem zk_L_21 : Cond.classLink RL 21 "java/lang/IllegalStateException" ∈ zw := zwk_2 156 rfl rfl
theorem zk_L_38 : Cond.classLink RL 38 "java/lang/IndexOutOfBoundsException" ∈ zw := zwk_3 16 rfl rfl
theorem zk_X7_35 : Cond.classLink RX7 35 "WindsparlourModel$Player" ∈ zw := zwk_5 21 rfl rfl
theorem zk_X7_129 : Cond.classLink RX7 129 "java/lang/Integer" ∈ zw := zwk_7 32 rfl rfl
theorem zk_X7_186 : Cond.classLink RX7 186 "WindsparlourModel$Lying" ∈ zw := zwk_6 146 rfl rfl
theorem zk_X6_61 : Cond.classLink RX6 61 "WindsparlourModel$Lying" ∈ zw := zwk_6 109 rfl rfl
theorem zk_Jx4a65c_7 : Cond.classLink RJx4a65c 7 "java/lang/Object" ∈ zw := zwk_6 49 rfl rfl
theorem zk_J7_2 : Cond.classLink RJ7 2 "java/lang/Object" ∈ zw := zwk_6 47 rfl rfl
theorem zk_J7_110 : Cond.classLink RJ7 110 "[Ljava/lang/Object;" ∈ zw := zwk_6 45 rfl rfl
theorem zk_J7_311 : Cond.classLink RJ7 311 "[B" ∈ zw := zwk_4 14 rfl rfl
theorem zty7 : ∀ k, k < 9 → parseFieldDescriptor (TX1 k).2.2.1 = some (tyX1 k) := tyX1_ok
theorem zdf7 : ∀ j, j < 9 → defaultValue (tyX1 j) = vp_V ((zlay 7).map zdf) j := by decide +kernel
theorem zn_X3_9 : Cond.classLink RX3 9 RX1 ∈ zw ∧ Cond.instantiable RX1 9 ∈ zw ∧ Cond.initialized RX1 ∈ zw := ⟨zwk_1 41 rfl rfl, zwk_1 76 rfl rfl, zwk_1 4 rfl rfl⟩
theorem zty6 : ∀ k, k < 5 → parseFieldDescriptor (TX0 k).2.2.1 = some (tyX0 k) := tyX0_ok
theorem zdf6 : ∀ j, j < 5 → defaultValue (tyX0 j) = vp_V ((zlay 6).map zdf) j := by decide +kernel
theorem zn_X3_15 : Cond.classLink RX3 15 RX0 ∈ zw ∧ Cond.instantiable RX0 5 ∈ zw ∧ Cond.initialized RX0 ∈ zw := ⟨zwk_1 43 rfl rfl, zwk_1 44 rfl rfl, zwk_1 2 rfl rfl⟩
theorem zty8 : ∀ k, k < 1 → parseFieldDescriptor (TX2 k).2.2.1 = some (tyX2 k) := tyX2_ok
theorem zdf8 : ∀ j, j < 1 → defaultValue (tyX2 j) = vp_V ((zlay 8).map zdf) j := by decide +kernel
theorem zn_X3_22 : Cond.classLink RX3 22 RX2 ∈ zw ∧ Cond.instantiable RX2 1 ∈ zw ∧ Cond.initialized RX2 ∈ zw := ⟨zwk_1 66 rfl rfl, zwk_1 67 rfl rfl, zwk_1 3 rfl rfl⟩
theorem zty2 : ∀ k, k < 4 → parseFieldDescriptor (TJ4 k).2.2.1 = some (tyJ4 k) := tyJ4_ok
theorem zdf2 : ∀ j, j < 4 → defaultValue (tyJ4 j) = vp_V ((zlay 2).map zdf) j := by decide +kernel
theorem zn_X3_235 : Cond.classLink RX3 235 RJ4 ∈ zw ∧ Cond.instantiable RJ4 4 ∈ zw ∧ Cond.initialized RJ4 ∈ zw := ⟨zwk_3 177 rfl rfl, zwk_3 178 rfl rfl, zwk_1 29 rfl rfl⟩
theorem zty9 : ∀ k, k < 16 → parseFieldDescriptor (TX3 k).2.2.1 = some (tyX3 k) := tyX3_ok
theorem zdf9 : ∀ j, j < 16 → defaultValue (tyX3 j) = vp_V ((zlay 9).map zdf) j := by decide +kernel
theorem zn_L_8 : Cond.classLink RL 8 RX3 ∈ zw ∧ Cond.instantiable RX3 16 ∈ zw ∧ Cond.initialized RX3 ∈ zw := ⟨zwk_1 33 rfl rfl, zwk_1 34 rfl rfl, zwk_1 1 rfl rfl⟩
theorem zty10 : ∀ k, k < 3 → parseFieldDescriptor (TX4 k).2.2.1 = some (tyX4 k) := tyX4_ok
theorem zdf10 : ∀ j, j < 3 → defaultValue (tyX4 j) = vp_V ((zlay 10).map zdf) j := by decide +kernel
theorem zn_L_14 : Cond.classLink RL 14 RX4 ∈ zw ∧ Cond.instantiable RX4 3 ∈ zw ∧ Cond.initialized RX4 ∈ zw := ⟨zwk_2 136 rfl rfl, zwk_2 137 rfl rfl, zwk_1 10 rfl rfl⟩
theorem zty13 : ∀ k, k < 15 → parseFieldDescriptor (TX7 k).2.2.1 = some (tyX7 k) := tyX7_ok
theorem zdf13 : ∀ j, j < 15 → defaultValue (tyX7 j) = vp_V ((zlay 13).map zdf) j := by decide +kernel
theorem zn_L_98 : Cond.classLink RL 98 RX7 ∈ zw ∧ Cond.instantiable RX7 15 ∈ zw ∧ Cond.initialized RX7 ∈ zw := ⟨zwk_5 15 rfl rfl, zwk_5 16 rfl rfl, zwk_1 5 rfl rfl⟩
theorem zty12 : ∀ k, k < 7 → parseFieldDescriptor (TX6 k).2.2.1 = some (tyX6 k) := tyX6_ok
theorem zdf12 : ∀ j, j < 7 → defaultValue (tyX6 j) = vp_V ((zlay 12).map zdf) j := by decide +kernel
theorem zn_X7_35 : Cond.classLink RX7 35 RX6 ∈ zw ∧ Cond.instantiable RX6 7 ∈ zw ∧ Cond.initialized RX6 ∈ zw := ⟨zwk_5 21 rfl rfl, zwk_5 23 rfl rfl, zwk_1 6 rfl rfl⟩
theorem zty11 : ∀ k, k < 2 → parseFieldDescriptor (TX5 k).2.2.1 = some (tyX5 k) := tyX5_ok
theorem zdf11 : ∀ j, j < 2 → defaultValue (tyX5 j) = vp_V ((zlay 11).map zdf) j := by decide +kernel
theorem zn_X7_186 : Cond.classLink RX7 186 RX5 ∈ zw ∧ Cond.instantiable RX5 2 ∈ zw ∧ Cond.initialized RX5 ∈ zw := ⟨zwk_6 146 rfl rfl, zwk_6 147 rfl rfl, zwk_1 27 rfl rfl⟩
theorem zn_X7_292 : Cond.classLink RX7 292 RJ4 ∈ zw ∧ Cond.instantiable RJ4 4 ∈ zw ∧ Cond.initialized RJ4 ∈ zw := ⟨zwk_7 54 rfl rfl, zwk_3 178 rfl rfl, zwk_1 29 rfl rfl⟩
theorem zty5 : ∀ k, k < 3 → parseFieldDescriptor (TJx4a65c k).2.2.1 = some (tyJx4a65c k) := tyJx4a65c_ok
theorem zdf5 : ∀ j, j < 3 → defaultValue (tyJx4a65c j) = vp_V ((zlay 5).map zdf) j := by decide +kernel
theorem zn_X6_19 : Cond.classLink RX6 19 RJx4a65c ∈ zw ∧ Cond.instantiable RJx4a65c 3 ∈ zw ∧ Cond.initialized RJx4a65c ∈ zw := ⟨zwk_5 28 rfl rfl, zwk_5 29 rfl rfl, zwk_1 9 rfl rfl⟩
theorem zty3 : ∀ k, k < 1 → parseFieldDescriptor (TJ6 k).2.2.1 = some (tyJ6 k) := tyJ6_ok
theorem zdf3 : ∀ j, j < 1 → defaultValue (tyJ6 j) = vp_V ((zlay 3).map zdf) j := by decide +kernel
theorem zn_J6_1 : Cond.classLink RJ6 1 RJ6 ∈ zw ∧ Cond.instantiable RJ6 1 ∈ zw ∧ Cond.initialized RJ6 ∈ zw := ⟨zwk_5 229 rfl rfl, zwk_5 230 rfl rfl, zwk_1 17 rfl rfl⟩
theorem zty1 : ∀ k, k < 4 → parseFieldDescriptor (TJ0 k).2.2.1 = some (tyJ0 k) := tyJ0_ok
theorem zdf1 : ∀ j, j < 4 → defaultValue (tyJ0 j) = vp_V ((zlay 1).map zdf) j := by decide +kernel
theorem zn_J4_18 : Cond.classLink RJ4 18 RJ0 ∈ zw ∧ Cond.instantiable RJ0 4 ∈ zw ∧ Cond.initialized RJ0 ∈ zw := ⟨zwk_4 138 rfl rfl, zwk_4 139 rfl rfl, zwk_1 30 rfl rfl⟩
theorem zty4 : ∀ k, k < 4 → parseFieldDescriptor (TJx35411 k).2.2.1 = some (tyJx35411 k) := tyJx35411_ok
theorem zdf4 : ∀ j, j < 4 → defaultValue (tyJx35411 j) = vp_V ((zlay 4).map zdf) j := by decide +kernel
theorem zn_Jx4a65c_267 : Cond.classLink RJx4a65c 267 RJx35411 ∈ zw ∧ Cond.instantiable RJx35411 4 ∈ zw ∧ Cond.initialized RJx35411 ∈ zw := ⟨zwk_6 67 rfl rfl, zwk_6 68 rfl rfl, zwk_1 23 rfl rfl⟩
theorem zcn_X3_261 : Jvm.Cond.constantDouble RX3 261 (4616189618054758400 : UInt64) ∈ zw := zwk_4 232 rfl rfl
theorem zcn_X3_273 : Jvm.Cond.constantLong RX3 273 (58317 : Int64) ∈ zw := zwk_1 229 rfl rfl
theorem zcn_X3_275 : Jvm.Cond.constantLong RX3 275 (31 : Int64) ∈ zw := zwk_1 230 rfl rfl
theorem zcn_X7_318 : Jvm.Cond.constantDouble RX7 318 (4616189618054758400 : UInt64) ∈ zw := zwk_7 87 rfl rfl
theorem zcn_X7_336 : Jvm.Cond.constantLong RX7 336 (31 : Int64) ∈ zw := zwk_7 129 rfl rfl
theorem zcn_X7_338 : Jvm.Cond.constantLong RX7 338 (58317 : Int64) ∈ zw := zwk_7 125 rfl rfl
theorem zcn_J5_39 : Jvm.Cond.constant RJ5 39 (2147483647 : Int32) ∈ zw := zwk_4 4 rfl rfl
theorem zcn_J8_200 : Jvm.Cond.constant RJ8 200 (2147483639 : Int32) ∈ zw := zwk_4 0 rfl rfl
theorem zo_X3_1 : Cond.methodLink RX3 1 objectInit ∈ zw ∧ Cond.instanceMethod objectInit ∈ zw ∧ Cond.code objectInit ⟨#[0xb1]⟩ 1 none ∈ zw := ⟨zwk_1 38 rfl rfl, zwk_1 39 rfl rfl, zwk_1 40 rfl rfl⟩
theorem zo_X0_3 : Cond.methodLink RX0 3 objectInit ∈ zw ∧ Cond.instanceMethod objectInit ∈ zw ∧ Cond.code objectInit ⟨#[0xb1]⟩ 1 none ∈ zw := ⟨zwk_1 48 rfl rfl, zwk_1 39 rfl rfl, zwk_1 40 rfl rfl⟩
theorem zo_X1_3 : Cond.methodLink RX1 3 objectInit ∈ zw ∧ Cond.instanceMethod objectInit ∈ zw ∧ Cond.code objectInit ⟨#[0xb1]⟩ 1 none ∈ zw := ⟨zwk_1 80 rfl rfl, zwk_1 39 rfl rfl, zwk_1 40 rfl rfl⟩
theorem zo_X2_3 : Cond.methodLink RX2 3 objectInit ∈ zw ∧ Cond.instanceMethod objectInit ∈ zw ∧ Cond.code objectInit ⟨#[0xb1]⟩ 1 none ∈ zw := ⟨zwk_1 71 rfl rfl, zwk_1 39 rfl rfl, zwk_1 40 rfl rfl⟩
theorem zo_X4_1 : Cond.methodLink RX4 1 objectInit ∈ zw ∧ Cond.instanceMethod objectInit ∈ zw ∧ Cond.code objectInit ⟨#[0xb1]⟩ 1 none ∈ zw := ⟨zwk_2 141 rfl rfl, zwk_1 39 rfl rfl, zwk_1 40 rfl rfl⟩
theorem zo_X7_29 : Cond.methodLink RX7 29 objectInit ∈ zw ∧ Cond.instanceMethod objectInit ∈ zw ∧ Cond.code objectInit ⟨#[0xb1]⟩ 1 none ∈ zw := ⟨zwk_5 20 rfl rfl, zwk_1 39 rfl rfl, zwk_1 40 rfl rfl⟩
theorem zo_X5_3 : Cond.methodLink RX5 3 objectInit ∈ zw ∧ Cond.instanceMethod objectInit ∈ zw ∧ Cond.code objectInit ⟨#[0xb1]⟩ 1 none ∈ zw := ⟨zwk_6 151 rfl rfl, zwk_1 39 rfl rfl, zwk_1 40 rfl rfl⟩
theorem zo_X6_3 : Cond.methodLink RX6 3 objectInit ∈ zw ∧ Cond.instanceMethod objectInit ∈ zw ∧ Cond.code objectInit ⟨#[0xb1]⟩ 1 none ∈ zw := ⟨zwk_5 27 rfl rfl, zwk_1 39 rfl rfl, zwk_1 40 rfl rfl⟩
theorem zo_J5_3 : Cond.methodLink RJ5 3 objectInit ∈ zw ∧ Cond.instanceMethod objectInit ∈ zw ∧ Cond.code objectInit ⟨#[0xb1]⟩ 1 none ∈ zw := ⟨zwk_3 185 rfl rfl, zwk_1 39 rfl rfl, zwk_1 40 rfl rfl⟩
theorem zo_Jxd2413_1 : Cond.methodLink RJxd2413 1 objectInit ∈ zw ∧ Cond.instanceMethod objectInit ∈ zw ∧ Cond.code objectInit ⟨#[0xb1]⟩ 1 none ∈ zw := ⟨zwk_5 237 rfl rfl, zwk_1 39 rfl rfl, zwk_1 40 rfl rfl⟩
theorem zo_J0_1 : Cond.methodLink RJ0 1 objectInit ∈ zw ∧ Cond.instanceMethod objectInit ∈ zw ∧ Cond.code objectInit ⟨#[0xb1]⟩ 1 none ∈ zw := ⟨zwk_4 146 rfl rfl, zwk_1 39 rfl rfl, zwk_1 40 rfl rfl⟩
theorem zo_Jxa1e45_1 : Cond.methodLink RJxa1e45 1 objectInit ∈ zw ∧ Cond.instanceMethod objectInit ∈ zw ∧ Cond.code objectInit ⟨#[0xb1]⟩ 1 none ∈ zw := ⟨zwk_5 39 rfl rfl, zwk_1 39 rfl rfl, zwk_1 40 rfl rfl⟩
theorem zo_Jx35411_7 : Cond.methodLink RJx35411 7 objectInit ∈ zw ∧ Cond.instanceMethod objectInit ∈ zw ∧ Cond.code objectInit ⟨#[0xb1]⟩ 1 none ∈ zw := ⟨zwk_6 72 rfl rfl, zwk_1 39 rfl rfl, zwk_1 40 rfl rfl⟩
theorem zc_J0_charAt_5068e : zcf yJ0_charAt_5068e cJ0_charAt_5068e 2 (some FieldType.char) 1 := ⟨zwk_4 119 rfl rfl, zwk_1 30 rfl rfl, ⟨by decide +kernel, by decide +kernel⟩, by decide +kernel, by decide⟩
theorem zc_J0_checkIndex_df160 : zcf yJ0_checkIndex_df160 cJ0_checkIndex_df160 2 (none : Option FieldType) 2 := ⟨zwk_4 99 rfl rfl, zwk_1 30 rfl rfl, ⟨by decide +kernel, by decide +kernel⟩, by decide +kernel, by decide⟩
theorem zc_J0_coder_7d493 : zcf yJ0_coder_7d493 cJ0_coder_7d493 1 (some FieldType.byte) 0 := ⟨zwk_4 114 rfl rfl, zwk_1 30 rfl rfl, ⟨by decide +kernel, by decide +kernel⟩, by decide +kernel, by decide⟩
theorem zc_J0_getBytes_840e7 : zcf yJ0_getBytes_840e7 cJ0_getBytes_840e7 4 (none : Option FieldType) 3 := ⟨zwk_4 195 rfl rfl, zwk_1 30 rfl rfl, ⟨by decide +kernel, by decide +kernel⟩, by decide +kernel, by decide⟩
theorem zc_J0_init_81219 : zcf yJ0_init_81219 cJ0_init_81219 2 (none : Option FieldType) 1 := ⟨zwk_4 142 rfl rfl, zwk_1 30 rfl rfl, ⟨by decide +kernel, by decide +kernel⟩, by decide +kernel, by decide⟩
theorem zc_J0_init_db425 : zcf yJ0_init_db425 cJ0_init_db425 5 (none : Option FieldType) 2 := ⟨zwk_4 145 rfl rfl, zwk_1 30 rfl rfl, ⟨by decide +kernel, by decide +kernel⟩, by decide +kernel, by decide⟩
theorem zc_J0_isLatin1_aae02 : zcf yJ0_isLatin1_aae02 cJ0_isLatin1_aae02 1 (some FieldType.boolean) 0 := ⟨zwk_4 123 rfl rfl, zwk_1 30 rfl rfl, ⟨by decide +kernel, by decide +kernel⟩, by decide +kernel, by decide⟩
theorem zc_J0_length_8abf5 : zcf yJ0_length_8abf5 cJ0_length_8abf5 1 (some FieldType.int) 0 := ⟨zwk_4 110 rfl rfl, zwk_1 30 rfl rfl, ⟨by decide +kernel, by decide +kernel⟩, by decide +kernel, by decide⟩
theorem zc_J15_checkIndex_7cf53 : zcf yJ15_checkIndex_7cf53 cJ15_checkIndex_7cf53 2 (some FieldType.int) 2 := ⟨zwk_6 139 rfl rfl, zwk_1 25 rfl rfl, ⟨by decide +kernel, by decide +kernel⟩, by decide +kernel, by decide⟩
theorem zc_J1_canEncode_fc78d : zcf yJ1_canEncode_fc78d cJ1_canEncode_fc78d 1 (some FieldType.boolean) 1 := ⟨zwk_4 71 rfl rfl, zwk_1 32 rfl rfl, ⟨by decide +kernel, by decide +kernel⟩, by decide +kernel, by decide⟩
theorem zc_J1_charAt_3b067 : zcf yJ1_charAt_3b067 cJ1_charAt_3b067 2 (some FieldType.char) 2 := ⟨zwk_4 126 rfl rfl, zwk_1 32 rfl rfl, ⟨by decide +kernel, by decide +kernel⟩, by decide +kernel, by decide⟩
theorem zc_J3_checkFromIndexSize_8c36e : zcf yJ3_checkFromIndexSize_8c36e cJ3_checkFromIndexSize_8c36e 4 (some FieldType.int) 4 := ⟨zwk_4 90 rfl rfl, zwk_1 26 rfl rfl, ⟨by decide +kernel, by decide +kernel⟩, by decide +kernel, by decide⟩
theorem zc_J3_checkFromToIndex_8c36e : zcf yJ3_checkFromToIndex_8c36e cJ3_checkFromToIndex_8c36e 4 (some FieldType.int) 4 := ⟨zwk_4 47 rfl rfl, zwk_1 26 rfl rfl, ⟨by decide +kernel, by decide +kernel⟩, by decide +kernel, by decide⟩
theorem zc_J3_checkIndex_8e157 : zcf yJ3_checkIndex_8e157 cJ3_checkIndex_8e157 3 (some FieldType.int) 3 := ⟨zwk_4 102 rfl rfl, zwk_1 26 rfl rfl, ⟨by decide +kernel, by decide +kernel⟩, by decide +kernel, by decide⟩
theorem zc_J4_append_bf812 : zcf yJ4_append_bf812 cJ4_append_bf812 2 (Option.some (FieldType.object "java/lang/StringBuilder")) 1 := ⟨zwk_3 221 rfl rfl, zwk_1 29 rfl rfl, ⟨by decide +kernel, by decide +kernel⟩, by decide +kernel, by decide⟩
theorem zc_J4_append_cf468 : zcf yJ4_append_cf468 cJ4_append_cf468 2 (Option.some (FieldType.object "java/lang/StringBuilder")) 1 := ⟨zwk_4 65 rfl rfl, zwk_1 29 rfl rfl, ⟨by decide +kernel, by decide +kernel⟩, by decide +kernel, by decide⟩
theorem zc_J4_charAt_5068e : zcf yJ4_charAt_5068e cJ4_charAt_5068e 2 (some FieldType.char) 1 := ⟨zwk_7 63 rfl rfl, zwk_1 29 rfl rfl, ⟨by decide +kernel, by decide +kernel⟩, by decide +kernel, by decide⟩
theorem zc_J4_init_da8c8 : zcf yJ4_init_da8c8 cJ4_init_da8c8 1 (none : Option FieldType) 0 := ⟨zwk_3 181 rfl rfl, zwk_1 29 rfl rfl, ⟨by decide +kernel, by decide +kernel⟩, by decide +kernel, by decide⟩
theorem zc_J4_length_8abf5 : zcf yJ4_length_8abf5 cJ4_length_8abf5 1 (some FieldType.int) 0 := ⟨zwk_3 214 rfl rfl, zwk_1 29 rfl rfl, ⟨by decide +kernel, by decide +kernel⟩, by decide +kernel, by decide⟩
theorem zc_J4_toString_0e30d : zcf yJ4_toString_0e30d cJ4_toString_0e30d 1 (Option.some (FieldType.object "java/lang/String")) 0 := ⟨zwk_4 137 rfl rfl, zwk_1 29 rfl rfl, ⟨by decide +kernel, by decide +kernel⟩, by decide +kernel, by decide⟩
theorem zc_J5_append_3fe6f : zcf yJ5_append_3fe6f cJ5_append_3fe6f 2 (Option.some (FieldType.object "java/lang/AbstractStringBuilder")) 1 := ⟨zwk_4 68 rfl rfl, zwk_1 28 rfl rfl, ⟨by decide +kernel, by decide +kernel⟩, by decide +kernel, by decide⟩
theorem zc_J5_append_c97b9 : zcf yJ5_append_c97b9 cJ5_append_c97b9 4 (Option.some (FieldType.object "java/lang/AbstractStringBuilder")) 1 := ⟨zwk_3 224 rfl rfl, zwk_1 28 rfl rfl, ⟨by decide +kernel, by decide +kernel⟩, by decide +kernel, by decide⟩
theorem zc_J5_append_cf1ce : zcf yJ5_append_cf1ce cJ5_append_cf1ce 3 (Option.some (FieldType.object "java/lang/AbstractStringBuilder")) 1 := ⟨zwk_4 174 rfl rfl, zwk_1 28 rfl rfl, ⟨by decide +kernel, by decide +kernel⟩, by decide +kernel, by decide⟩
theorem zc_J5_charAt_5068e : zcf yJ5_charAt_5068e cJ5_charAt_5068e 5 (some FieldType.char) 1 := ⟨zwk_7 66 rfl rfl, zwk_1 28 rfl rfl, ⟨by decide +kernel, by decide +kernel⟩, by decide +kernel, by decide⟩
theorem zc_J5_ensureCapacityInternal_d00df : zcf yJ5_ensureCapacityInternal_d00df cJ5_ensureCapacityInternal_d00df 3 (none : Option FieldType) 1 := ⟨zwk_3 231 rfl rfl, zwk_1 28 rfl rfl, ⟨by decide +kernel, by decide +kernel⟩, by decide +kernel, by decide⟩
theorem zc_J5_getValue_6d5f1 : zcf yJ5_getValue_6d5f1 cJ5_getValue_6d5f1 1 (Option.some (FieldType.array FieldType.byte)) 0 := ⟨zwk_4 151 rfl rfl, zwk_1 28 rfl rfl, ⟨by decide +kernel, by decide +kernel⟩, by decide +kernel, by decide⟩
theorem zc_J5_inflateIfNeededFor_a7421 : zcf yJ5_inflateIfNeededFor_a7421 cJ5_inflateIfNeededFor_a7421 2 (none : Option FieldType) 1 := ⟨zwk_4 190 rfl rfl, zwk_1 28 rfl rfl, ⟨by decide +kernel, by decide +kernel⟩, by decide +kernel, by decide⟩
theorem zc_J5_init_d00df : zcf yJ5_init_d00df cJ5_init_d00df 2 (none : Option FieldType) 1 := ⟨zwk_3 184 rfl rfl, zwk_1 28 rfl rfl, ⟨by decide +kernel, by decide +kernel⟩, by decide +kernel, by decide⟩
theorem zc_J5_isLatin1_aae02 : zcf yJ5_isLatin1_aae02 cJ5_isLatin1_aae02 1 (some FieldType.boolean) 0 := ⟨zwk_4 23 rfl rfl, zwk_1 28 rfl rfl, ⟨by decide +kernel, by decide +kernel⟩, by decide +kernel, by decide⟩
theorem zc_J5_length_8abf5 : zcf yJ5_length_8abf5 cJ5_length_8abf5 1 (some FieldType.int) 0 := ⟨zwk_3 217 rfl rfl, zwk_1 28 rfl rfl, ⟨by decide +kernel, by decide +kernel⟩, by decide +kernel, by decide⟩
theorem zc_J5_newCapacity_0f7a4 : zcf yJ5_newCapacity_0f7a4 cJ5_newCapacity_0f7a4 6 (some FieldType.int) 1 := ⟨zwk_3 235 rfl rfl, zwk_1 28 rfl rfl, ⟨by decide +kernel, by decide +kernel⟩, by decide +kernel, by decide⟩
theorem zc_J5_putStringAt_47b60 : zcf yJ5_putStringAt_47b60 cJ5_putStringAt_47b60 3 (none : Option FieldType) 2 := ⟨zwk_4 186 rfl rfl, zwk_1 28 rfl rfl, ⟨by decide +kernel, by decide +kernel⟩, by decide +kernel, by decide⟩
theorem zc_J6_getChars_ba4f3 : zcf yJ6_getChars_ba4f3 cJ6_getChars_ba4f3 7 (some FieldType.int) 3 := ⟨zwk_4 26 rfl rfl, zwk_1 17 rfl rfl, ⟨by decide +kernel, by decide +kernel⟩, by decide +kernel, by decide⟩
theorem zc_J6_init_d00df : zcf yJ6_init_d00df cJ6_init_d00df 2 (none : Option FieldType) 1 := ⟨zwk_5 233 rfl rfl, zwk_1 17 rfl rfl, ⟨by decide +kernel, by decide +kernel⟩, by decide +kernel, by decide⟩
theorem zc_J6_intValue_8abf5 : zcf yJ6_intValue_8abf5 cJ6_intValue_8abf5 1 (some FieldType.int) 0 := ⟨zwk_7 36 rfl rfl, zwk_1 17 rfl rfl, ⟨by decide +kernel, by decide +kernel⟩, by decide +kernel, by decide⟩
theorem zc_J6_stringSize_0f7a4 : zcf yJ6_stringSize_0f7a4 cJ6_stringSize_0f7a4 4 (some FieldType.int) 1 := ⟨zwk_3 227 rfl rfl, zwk_1 17 rfl rfl, ⟨by decide +kernel, by decide +kernel⟩, by decide +kernel, by decide⟩
theorem zc_J6_valueOf_2dffe : zcf yJ6_valueOf_2dffe cJ6_valueOf_2dffe 1 (Option.some (FieldType.object "java/lang/Integer")) 1 := ⟨zwk_5 224 rfl rfl, zwk_1 17 rfl rfl, ⟨by decide +kernel, by decide +kernel⟩, by decide +kernel, by decide⟩
theorem zc_J7_checkLength_df160 : zcf yJ7_checkLength_df160 cJ7_checkLength_df160 2 (none : Option FieldType) 2 := ⟨zwk_4 162 rfl rfl, zwk_1 21 rfl rfl, ⟨by decide +kernel, by decide +kernel⟩, by decide +kernel, by decide⟩
theorem zc_J7_copyOfRangeByte_39247 : zcf yJ7_copyOfRangeByte_39247 cJ7_copyOfRangeByte_39247 5 (Option.some (FieldType.array FieldType.byte)) 3 := ⟨zwk_4 159 rfl rfl, zwk_1 21 rfl rfl, ⟨by decide +kernel, by decide +kernel⟩, by decide +kernel, by decide⟩
theorem zc_J7_copyOfRange_39247 : zcf yJ7_copyOfRange_39247 cJ7_copyOfRange_39247 3 (Option.some (FieldType.array FieldType.byte)) 3 := ⟨zwk_4 156 rfl rfl, zwk_1 21 rfl rfl, ⟨by decide +kernel, by decide +kernel⟩, by decide +kernel, by decide⟩
theorem zc_J7_copyOf_1904c : zcf yJ7_copyOf_1904c cJ7_copyOf_1904c 2 (Option.some (FieldType.array (FieldType.object "java/lang/Object"))) 2 := ⟨zwk_6 21 rfl rfl, zwk_1 21 rfl rfl, ⟨by decide +kernel, by decide +kernel⟩, by decide +kernel, by decide⟩
theorem zc_J7_copyOf_6403c : zcf yJ7_copyOf_6403c cJ7_copyOf_6403c 4 (Option.some (FieldType.array (FieldType.object "java/lang/Object"))) 3 := ⟨zwk_6 44 rfl rfl, zwk_1 21 rfl rfl, ⟨by decide +kernel, by decide +kernel⟩, by decide +kernel, by decide⟩
theorem zc_J7_copyOf_9075b : zcf yJ7_copyOf_9075b cJ7_copyOf_9075b 3 (Option.some (FieldType.array FieldType.byte)) 2 := ⟨zwk_4 7 rfl rfl, zwk_1 21 rfl rfl, ⟨by decide +kernel, by decide +kernel⟩, by decide +kernel, by decide⟩
theorem zc_J8_newLength_cabcc : zcf yJ8_newLength_cabcc cJ8_newLength_cabcc 4 (some FieldType.int) 3 := ⟨zwk_3 238 rfl rfl, zwk_1 19 rfl rfl, ⟨by decide +kernel, by decide +kernel⟩, by decide +kernel, by decide⟩
theorem zc_J9_floorMod_7cf53 : zcf yJ9_floorMod_7cf53 cJ9_floorMod_7cf53 3 (some FieldType.int) 2 := ⟨zwk_6 206 rfl rfl, zwk_1 20 rfl rfl, ⟨by decide +kernel, by decide +kernel⟩, by decide +kernel, by decide⟩
theorem zc_J9_max_7cf53 : zcf yJ9_max_7cf53 cJ9_max_7cf53 2 (some FieldType.int) 2 := ⟨zwk_1 217 rfl rfl, zwk_1 20 rfl rfl, ⟨by decide +kernel, by decide +kernel⟩, by decide +kernel, by decide⟩
theorem zc_J9_min_7cf53 : zcf yJ9_min_7cf53 cJ9_min_7cf53 2 (some FieldType.int) 2 := ⟨zwk_1 220 rfl rfl, zwk_1 20 rfl rfl, ⟨by decide +kernel, by decide +kernel⟩, by decide +kernel, by decide⟩
theorem zc_Jx35411_checkForComodification_da8c8 : zcf yJx35411_checkForComodification_da8c8 cJx35411_checkForComodification_da8c8 1 (none : Option FieldType) 0 := ⟨zwk_6 108 rfl rfl, zwk_1 23 rfl rfl, ⟨by decide +kernel, by decide +kernel⟩, by decide +kernel, by decide⟩
theorem zc_Jx35411_hasNext_aae02 : zcf yJx35411_hasNext_aae02 cJx35411_hasNext_aae02 1 (some FieldType.boolean) 0 := ⟨zwk_6 95 rfl rfl, zwk_1 23 rfl rfl, ⟨by decide +kernel, by decide +kernel⟩, by decide +kernel, by decide⟩
theorem zc_Jx35411_init_45d68 : zcf yJx35411_init_45d68 cJx35411_init_45d68 2 (none : Option FieldType) 1 := ⟨zwk_6 71 rfl rfl, zwk_1 23 rfl rfl, ⟨by decide +kernel, by decide +kernel⟩, by decide +kernel, by decide⟩
theorem zc_Jx35411_next_0502b : zcf yJx35411_next_0502b cJx35411_next_0502b 3 (Option.some (FieldType.object "java/lang/Object")) 0 := ⟨zwk_6 104 rfl rfl, zwk_1 23 rfl rfl, ⟨by decide +kernel, by decide +kernel⟩, by decide +kernel, by decide⟩
theorem zc_Jx4a65c_add_72be8 : zcf yJx4a65c_add_72be8 cJx4a65c_add_72be8 4 (none : Option FieldType) 3 := ⟨zwk_6 9 rfl rfl, zwk_1 9 rfl rfl, ⟨by decide +kernel, by decide +kernel⟩, by decide +kernel, by decide⟩
theorem zc_Jx4a65c_add_9ea2d : zcf yJx4a65c_add_9ea2d cJx4a65c_add_9ea2d 2 (some FieldType.boolean) 1 := ⟨zwk_6 5 rfl rfl, zwk_1 9 rfl rfl, ⟨by decide +kernel, by decide +kernel⟩, by decide +kernel, by decide⟩
theorem zc_Jx4a65c_clear_da8c8 : zcf yJx4a65c_clear_da8c8 cJx4a65c_clear_da8c8 4 (none : Option FieldType) 0 := ⟨zwk_5 157 rfl rfl, zwk_1 9 rfl rfl, ⟨by decide +kernel, by decide +kernel⟩, by decide +kernel, by decide⟩
theorem zc_Jx4a65c_elementData_915e3 : zcf yJx4a65c_elementData_915e3 cJx4a65c_elementData_915e3 2 (Option.some (FieldType.object "java/lang/Object")) 1 := ⟨zwk_7 24 rfl rfl, zwk_1 9 rfl rfl, ⟨by decide +kernel, by decide +kernel⟩, by decide +kernel, by decide⟩
theorem zc_Jx4a65c_fastRemove_b59b0 : zcf yJx4a65c_fastRemove_b59b0 cJx4a65c_fastRemove_b59b0 4 (none : Option FieldType) 2 := ⟨zwk_6 144 rfl rfl, zwk_1 9 rfl rfl, ⟨by decide +kernel, by decide +kernel⟩, by decide +kernel, by decide⟩
theorem zc_Jx4a65c_get_915e3 : zcf yJx4a65c_get_915e3 cJx4a65c_get_915e3 2 (Option.some (FieldType.object "java/lang/Object")) 1 := ⟨zwk_7 20 rfl rfl, zwk_1 9 rfl rfl, ⟨by decide +kernel, by decide +kernel⟩, by decide +kernel, by decide⟩
theorem zc_Jx4a65c_grow_92f84 : zcf yJx4a65c_grow_92f84 cJx4a65c_grow_92f84 4 (Option.some (FieldType.array (FieldType.object "java/lang/Object"))) 1 := ⟨zwk_6 17 rfl rfl, zwk_1 9 rfl rfl, ⟨by decide +kernel, by decide +kernel⟩, by decide +kernel, by decide⟩
theorem zc_Jx4a65c_grow_d5877 : zcf yJx4a65c_grow_d5877 cJx4a65c_grow_d5877 1 (Option.some (FieldType.array (FieldType.object "java/lang/Object"))) 0 := ⟨zwk_6 13 rfl rfl, zwk_1 9 rfl rfl, ⟨by decide +kernel, by decide +kernel⟩, by decide +kernel, by decide⟩
theorem zc_Jx4a65c_init_da8c8 : zcf yJx4a65c_init_da8c8 cJx4a65c_init_da8c8 1 (none : Option FieldType) 0 := ⟨zwk_5 32 rfl rfl, zwk_1 9 rfl rfl, ⟨by decide +kernel, by decide +kernel⟩, by decide +kernel, by decide⟩
theorem zc_Jx4a65c_iterator_32c93 : zcf yJx4a65c_iterator_32c93 cJx4a65c_iterator_32c93 1 (Option.some (FieldType.object "java/util/Iterator")) 0 := ⟨zwk_6 66 rfl rfl, zwk_1 9 rfl rfl, ⟨by decide +kernel, by decide +kernel⟩, by decide +kernel, by decide⟩
theorem zc_Jx4a65c_remove_915e3 : zcf yJx4a65c_remove_915e3 cJx4a65c_remove_915e3 4 (Option.some (FieldType.object "java/lang/Object")) 1 := ⟨zwk_6 136 rfl rfl, zwk_1 9 rfl rfl, ⟨by decide +kernel, by decide +kernel⟩, by decide +kernel, by decide⟩
theorem zc_Jx4a65c_size_8abf5 : zcf yJx4a65c_size_8abf5 cJx4a65c_size_8abf5 1 (some FieldType.int) 0 := ⟨zwk_5 200 rfl rfl, zwk_1 9 rfl rfl, ⟨by decide +kernel, by decide +kernel⟩, by decide +kernel, by decide⟩
theorem zc_Jxa1e45_init_da8c8 : zcf yJxa1e45_init_da8c8 cJxa1e45_init_da8c8 1 (none : Option FieldType) 0 := ⟨zwk_5 38 rfl rfl, zwk_1 7 rfl rfl, ⟨by decide +kernel, by decide +kernel⟩, by decide +kernel, by decide⟩
theorem zc_Jxc12de_init_da8c8 : zcf yJxc12de_init_da8c8 cJxc12de_init_da8c8 1 (none : Option FieldType) 0 := ⟨zwk_5 35 rfl rfl, zwk_1 8 rfl rfl, ⟨by decide +kernel, by decide +kernel⟩, by decide +kernel, by decide⟩
theorem zc_Jxd2413_init_da8c8 : zcf yJxd2413_init_da8c8 cJxd2413_init_da8c8 1 (none : Option FieldType) 0 := ⟨zwk_5 236 rfl rfl, zwk_1 16 rfl rfl, ⟨by decide +kernel, by decide +kernel⟩, by decide +kernel, by decide⟩
theorem zc_L_call : zcfW yL_call cL_call 4 (some FieldType.int) [(0, 10, 13, 19), (0, 10, 16, 21)] 3 := ⟨zwk_3 3 rfl rfl, zwk_1 0 rfl rfl, ⟨by decide +kernel, by decide +kernel⟩, by decide +kernel, by decide⟩
theorem zc_L_claim : zcfW yL_claim cL_claim 6 (some FieldType.int) [(0, 13, 16, 38), (0, 13, 20, 19), (0, 13, 24, 21)] 5 := ⟨zwk_3 15 rfl rfl, zwk_1 0 rfl rfl, ⟨by decide +kernel, by decide +kernel⟩, by decide +kernel, by decide⟩
theorem zc_L_discard : zcfW yL_discard cL_discard 4 (some FieldType.int) [(0, 10, 13, 19), (0, 10, 16, 21)] 3 := ⟨zwk_2 222 rfl rfl, zwk_1 0 rfl rfl, ⟨by decide +kernel, by decide +kernel⟩, by decide +kernel, by decide⟩
theorem zc_L_draw : zcfW yL_draw cL_draw 3 (some FieldType.int) [(0, 9, 12, 21)] 2 := ⟨zwk_2 203 rfl rfl, zwk_1 0 rfl rfl, ⟨by decide +kernel, by decide +kernel⟩, by decide +kernel, by decide⟩
theorem zc_L_four : zcfW yL_four cL_four 4 (some FieldType.int) [(0, 10, 13, 19), (0, 10, 16, 21)] 3 := ⟨zwk_3 53 rfl rfl, zwk_1 0 rfl rfl, ⟨by decide +kernel, by decide +kernel⟩, by decide +kernel, by decide⟩
theorem zc_L_hand : zcfW yL_hand cL_hand 4 (some FieldType.int) [(0, 9, 12, 38)] 3 := ⟨zwk_3 172 rfl rfl, zwk_1 0 rfl rfl, ⟨by decide +kernel, by decide +kernel⟩, by decide +kernel, by decide⟩
theorem zc_L_has : zcfW yL_has cL_has 5 (some FieldType.int) [(0, 11, 14, 38), (0, 11, 18, 19)] 4 := ⟨zwk_3 126 rfl rfl, zwk_1 0 rfl rfl, ⟨by decide +kernel, by decide +kernel⟩, by decide +kernel, by decide⟩
theorem zc_L_isSafe : zcfW yL_isSafe cL_isSafe 5 (some FieldType.int) [(0, 18, 21, 38), (0, 18, 25, 19)] 4 := ⟨zwk_5 2 rfl rfl, zwk_1 0 rfl rfl, ⟨by decide +kernel, by decide +kernel⟩, by decide +kernel, by decide⟩
theorem zc_L_lay : zcfW yL_lay cL_lay 5 (some FieldType.int) [(0, 11, 14, 19), (0, 11, 18, 21)] 4 := ⟨zwk_2 154 rfl rfl, zwk_1 0 rfl rfl, ⟨by decide +kernel, by decide +kernel⟩, by decide +kernel, by decide⟩
theorem zc_L_lead : zcfW yL_lead cL_lead 4 (some FieldType.int) [(0, 9, 12, 38)] 3 := ⟨zwk_4 227 rfl rfl, zwk_1 0 rfl rfl, ⟨by decide +kernel, by decide +kernel⟩, by decide +kernel, by decide⟩
theorem zc_L_many : zcfW yL_many cL_many 4 (some FieldType.int) [(0, 10, 13, 19)] 3 := ⟨zwk_4 223 rfl rfl, zwk_1 0 rfl rfl, ⟨by decide +kernel, by decide +kernel⟩, by decide +kernel, by decide⟩
theorem zc_L_ofPlayer : zcfW yL_ofPlayer cL_ofPlayer 5 (some FieldType.int) [(0, 11, 14, 38), (0, 11, 18, 19)] 4 := ⟨zwk_3 133 rfl rfl, zwk_1 0 rfl rfl, ⟨by decide +kernel, by decide +kernel⟩, by decide +kernel, by decide⟩
theorem zc_L_ofSet : zcfW yL_ofSet cL_ofSet 5 (some FieldType.int) [(0, 11, 14, 38)] 4 := ⟨zwk_3 137 rfl rfl, zwk_1 0 rfl rfl, ⟨by decide +kernel, by decide +kernel⟩, by decide +kernel, by decide⟩
theorem zc_L_outs : zcfW yL_outs cL_outs 4 (some FieldType.int) [(0, 10, 13, 38)] 3 := ⟨zwk_5 9 rfl rfl, zwk_1 0 rfl rfl, ⟨by decide +kernel, by decide +kernel⟩, by decide +kernel, by decide⟩
theorem zc_L_pass : zcfW yL_pass cL_pass 3 (some FieldType.int) [(0, 9, 12, 21)] 2 := ⟨zwk_3 61 rfl rfl, zwk_1 0 rfl rfl, ⟨by decide +kernel, by decide +kernel⟩, by decide +kernel, by decide⟩
theorem zc_L_river : zcfW yL_river cL_river 5 (some FieldType.int) [(0, 11, 14, 38)] 4 := ⟨zwk_3 145 rfl rfl, zwk_1 0 rfl rfl, ⟨by decide +kernel, by decide +kernel⟩, by decide +kernel, by decide⟩
theorem zc_L_seen : zcfW yL_seen cL_seen 4 (some FieldType.int) [(0, 10, 13, 19)] 3 := ⟨zwk_3 160 rfl rfl, zwk_1 0 rfl rfl, ⟨by decide +kernel, by decide +kernel⟩, by decide +kernel, by decide⟩
theorem zc_L_waits : zcfW yL_waits cL_waits 4 (some FieldType.int) [(0, 9, 12, 38)] 3 := ⟨zwk_3 153 rfl rfl, zwk_1 0 rfl rfl, ⟨by decide +kernel, by decide +kernel⟩, by decide +kernel, by decide⟩
theorem zc_L_win : zcfW yL_win cL_win 4 (some FieldType.int) [(0, 10, 13, 38), (0, 10, 16, 21)] 3 := ⟨zwk_3 68 rfl rfl, zwk_1 0 rfl rfl, ⟨by decide +kernel, by decide +kernel⟩, by decide +kernel, by decide⟩
theorem zc_L_worth : zcfW yL_worth cL_worth 5 (some FieldType.int) [(0, 11, 14, 38), (0, 11, 18, 19)] 4 := ⟨zwk_4 235 rfl rfl, zwk_1 0 rfl rfl, ⟨by decide +kernel, by decide +kernel⟩, by decide +kernel, by decide⟩
theorem zc_X0_changePart : zcf yX0_changePart cX0_changePart 4 (none : Option FieldType) 4 := ⟨zwk_1 214 rfl rfl, zwk_1 2 rfl rfl, ⟨by decide +kernel, by decide +kernel⟩, by decide +kernel, by decide⟩
theorem zc_X0_complete : zcf yX0_complete cX0_complete 3 (some FieldType.boolean) 1 := ⟨zwk_2 122 rfl rfl, zwk_1 2 rfl rfl, ⟨by decide +kernel, by decide +kernel⟩, by decide +kernel, by decide⟩
theorem zc_X0_copy : zcf yX0_copy cX0_copy 3 (none : Option FieldType) 1 := ⟨zwk_1 195 rfl rfl, zwk_1 2 rfl rfl, ⟨by decide +kernel, by decide +kernel⟩, by decide +kernel, by decide⟩
theorem zc_X0_far : zcf yX0_far cX0_far 5 (some FieldType.int) 2 := ⟨zwk_1 191 rfl rfl, zwk_1 2 rfl rfl, ⟨by decide +kernel, by decide +kernel⟩, by decide +kernel, by decide⟩
theorem zc_X0_fits : zcf yX0_fits cX0_fits 6 (some FieldType.boolean) 4 := ⟨zwk_1 205 rfl rfl, zwk_1 2 rfl rfl, ⟨by decide +kernel, by decide +kernel⟩, by decide +kernel, by decide⟩
theorem zc_X0_init : zcf yX0_init cX0_init 1 (none : Option FieldType) 0 := ⟨zwk_1 47 rfl rfl, zwk_1 2 rfl rfl, ⟨by decide +kernel, by decide +kernel⟩, by decide +kernel, by decide⟩
theorem zc_X0_join : zcf yX0_join cX0_join 6 (none : Option FieldType) 3 := ⟨zwk_1 199 rfl rfl, zwk_1 2 rfl rfl, ⟨by decide +kernel, by decide +kernel⟩, by decide +kernel, by decide⟩
theorem zc_X0_joinParts : zcf yX0_joinParts cX0_joinParts 5 (none : Option FieldType) 1 := ⟨zwk_1 224 rfl rfl, zwk_1 2 rfl rfl, ⟨by decide +kernel, by decide +kernel⟩, by decide +kernel, by decide⟩
theorem zc_X0_most : zcf yX0_most cX0_most 8 (some FieldType.int) 4 := ⟨zwk_1 202 rfl rfl, zwk_1 2 rfl rfl, ⟨by decide +kernel, by decide +kernel⟩, by decide +kernel, by decide⟩
theorem zc_X0_restIsSets : zcf yX0_restIsSets cX0_restIsSets 3 (some FieldType.boolean) 0 := ⟨zwk_2 126 rfl rfl, zwk_1 2 rfl rfl, ⟨by decide +kernel, by decide +kernel⟩, by decide +kernel, by decide⟩
theorem zc_X1_change : zcf yX1_change cX1_change 3 (none : Option FieldType) 2 := ⟨zwk_1 187 rfl rfl, zwk_1 4 rfl rfl, ⟨by decide +kernel, by decide +kernel⟩, by decide +kernel, by decide⟩
theorem zc_X1_clear : zcf yX1_clear cX1_clear 2 (none : Option FieldType) 0 := ⟨zwk_2 193 rfl rfl, zwk_1 4 rfl rfl, ⟨by decide +kernel, by decide +kernel⟩, by decide +kernel, by decide⟩
theorem zc_X1_count : zcf yX1_count cX1_count 2 (some FieldType.int) 1 := ⟨zwk_1 179 rfl rfl, zwk_1 4 rfl rfl, ⟨by decide +kernel, by decide +kernel⟩, by decide +kernel, by decide⟩
theorem zc_X1_inHand : zcf yX1_inHand cX1_inHand 3 (some FieldType.int) 0 := ⟨zwk_2 105 rfl rfl, zwk_1 4 rfl rfl, ⟨by decide +kernel, by decide +kernel⟩, by decide +kernel, by decide⟩
theorem zc_X1_inSets : zcf yX1_inSets cX1_inSets 4 (some FieldType.int) 1 := ⟨zwk_3 94 rfl rfl, zwk_1 4 rfl rfl, ⟨by decide +kernel, by decide +kernel⟩, by decide +kernel, by decide⟩
theorem zc_X1_init : zcf yX1_init cX1_init 1 (none : Option FieldType) 0 := ⟨zwk_1 79 rfl rfl, zwk_1 4 rfl rfl, ⟨by decide +kernel, by decide +kernel⟩, by decide +kernel, by decide⟩
theorem zc_X1_latestInRiver : zcf yX1_latestInRiver cX1_latestInRiver 1 (some FieldType.int) 0 := ⟨zwk_2 2 rfl rfl, zwk_1 4 rfl rfl, ⟨by decide +kernel, by decide +kernel⟩, by decide +kernel, by decide⟩
theorem zc_X1_laySet : zcf yX1_laySet cX1_laySet 4 (none : Option FieldType) 2 := ⟨zwk_3 43 rfl rfl, zwk_1 4 rfl rfl, ⟨by decide +kernel, by decide +kernel⟩, by decide +kernel, by decide⟩
theorem zc_X1_leaveRiver : zcf yX1_leaveRiver cX1_leaveRiver 2 (some FieldType.int) 0 := ⟨zwk_3 38 rfl rfl, zwk_1 4 rfl rfl, ⟨by decide +kernel, by decide +kernel⟩, by decide +kernel, by decide⟩
theorem zc_X1_lying : zcf yX1_lying cX1_lying 4 (some FieldType.int) 1 := ⟨zwk_3 168 rfl rfl, zwk_1 4 rfl rfl, ⟨by decide +kernel, by decide +kernel⟩, by decide +kernel, by decide⟩
theorem zc_X1_openSets : zcf yX1_openSets cX1_openSets 3 (some FieldType.int) 0 := ⟨zwk_2 101 rfl rfl, zwk_1 4 rfl rfl, ⟨by decide +kernel, by decide +kernel⟩, by decide +kernel, by decide⟩
theorem zc_X1_rowLies : zcf yX1_rowLies cX1_rowLies 2 (some FieldType.boolean) 0 := ⟨zwk_3 110 rfl rfl, zwk_1 4 rfl rfl, ⟨by decide +kernel, by decide +kernel⟩, by decide +kernel, by decide⟩
theorem zc_X1_size : zcf yX1_size cX1_size 1 (some FieldType.int) 0 := ⟨zwk_2 117 rfl rfl, zwk_1 4 rfl rfl, ⟨by decide +kernel, by decide +kernel⟩, by decide +kernel, by decide⟩
theorem zc_X1_tilesOf : zcf yX1_tilesOf cX1_tilesOf 3 (some FieldType.int) 3 := ⟨zwk_3 46 rfl rfl, zwk_1 4 rfl rfl, ⟨by decide +kernel, by decide +kernel⟩, by decide +kernel, by decide⟩
theorem zc_X1_toRiver : zcf yX1_toRiver cX1_toRiver 2 (none : Option FieldType) 1 := ⟨zwk_2 239 rfl rfl, zwk_1 4 rfl rfl, ⟨by decide +kernel, by decide +kernel⟩, by decide +kernel, by decide⟩
theorem zc_X2_anyOf : zcf yX2_anyOf cX2_anyOf 4 (some FieldType.boolean) 2 := ⟨zwk_3 118 rfl rfl, zwk_1 3 rfl rfl, ⟨by decide +kernel, by decide +kernel⟩, by decide +kernel, by decide⟩
theorem zc_X2_gather : zcf yX2_gather cX2_gather 3 (none : Option FieldType) 1 := ⟨zwk_3 89 rfl rfl, zwk_1 3 rfl rfl, ⟨by decide +kernel, by decide +kernel⟩, by decide +kernel, by decide⟩
theorem zc_X2_init : zcf yX2_init cX2_init 1 (none : Option FieldType) 0 := ⟨zwk_1 70 rfl rfl, zwk_1 3 rfl rfl, ⟨by decide +kernel, by decide +kernel⟩, by decide +kernel, by decide⟩
theorem zc_X2_ofOneSuit : zcf yX2_ofOneSuit cX2_ofOneSuit 3 (some FieldType.int) 0 := ⟨zwk_3 114 rfl rfl, zwk_1 3 rfl rfl, ⟨by decide +kernel, by decide +kernel⟩, by decide +kernel, by decide⟩
theorem zc_X2_setOf : zcf yX2_setOf cX2_setOf 2 (some FieldType.int) 1 := ⟨zwk_3 99 rfl rfl, zwk_1 3 rfl rfl, ⟨by decide +kernel, by decide +kernel⟩, by decide +kernel, by decide⟩
theorem zc_X2_value : zcf yX2_value cX2_value 7 (some FieldType.int) 4 := ⟨zwk_3 85 rfl rfl, zwk_1 3 rfl rfl, ⟨by decide +kernel, by decide +kernel⟩, by decide +kernel, by decide⟩
theorem zc_X2_withoutEndsAndHonours : zcf yX2_withoutEndsAndHonours cX2_withoutEndsAndHonours 3 (some FieldType.boolean) 0 := ⟨zwk_3 103 rfl rfl, zwk_1 3 rfl rfl, ⟨by decide +kernel, by decide +kernel⟩, by decide +kernel, by decide⟩
theorem zc_X2_withoutRows : zcf yX2_withoutRows cX2_withoutRows 4 (some FieldType.boolean) 1 := ⟨zwk_3 106 rfl rfl, zwk_1 3 rfl rfl, ⟨by decide +kernel, by decide +kernel⟩, by decide +kernel, by decide⟩
theorem zc_X3_beginRound : zcf yX3_beginRound cX3_beginRound 1 (none : Option FieldType) 0 := ⟨zwk_2 185 rfl rfl, zwk_1 1 rfl rfl, ⟨by decide +kernel, by decide +kernel⟩, by decide +kernel, by decide⟩
theorem zc_X3_best : zcf yX3_best cX3_best 7 (some FieldType.int) 0 := ⟨zwk_1 171 rfl rfl, zwk_1 1 rfl rfl, ⟨by decide +kernel, by decide +kernel⟩, by decide +kernel, by decide⟩
theorem zc_X3_call : zcf yX3_call cX3_call 3 (some FieldType.int) 1 := ⟨zwk_3 7 rfl rfl, zwk_1 1 rfl rfl, ⟨by decide +kernel, by decide +kernel⟩, by decide +kernel, by decide⟩
theorem zc_X3_canDraw : zcf yX3_canDraw cX3_canDraw 1 (some FieldType.boolean) 0 := ⟨zwk_2 211 rfl rfl, zwk_1 1 rfl rfl, ⟨by decide +kernel, by decide +kernel⟩, by decide +kernel, by decide⟩
theorem zc_X3_claim : zcf yX3_claim cX3_claim 6 (some FieldType.int) 3 := ⟨zwk_3 20 rfl rfl, zwk_1 1 rfl rfl, ⟨by decide +kernel, by decide +kernel⟩, by decide +kernel, by decide⟩
theorem zc_X3_completesRow : zcf yX3_completesRow cX3_completesRow 4 (some FieldType.boolean) 3 := ⟨zwk_3 28 rfl rfl, zwk_1 1 rfl rfl, ⟨by decide +kernel, by decide +kernel⟩, by decide +kernel, by decide⟩
theorem zc_X3_dealTo : zcf yX3_dealTo cX3_dealTo 4 (none : Option FieldType) 1 := ⟨zwk_2 189 rfl rfl, zwk_1 1 rfl rfl, ⟨by decide +kernel, by decide +kernel⟩, by decide +kernel, by decide⟩
theorem zc_X3_digest : zcf yX3_digest cX3_digest 4 (some FieldType.long) 0 := ⟨zwk_1 228 rfl rfl, zwk_1 1 rfl rfl, ⟨by decide +kernel, by decide +kernel⟩, by decide +kernel, by decide⟩
theorem zc_X3_digestPlayer : zcf yX3_digestPlayer cX3_digestPlayer 8 (some FieldType.long) 2 := ⟨zwk_2 74 rfl rfl, zwk_1 1 rfl rfl, ⟨by decide +kernel, by decide +kernel⟩, by decide +kernel, by decide⟩
theorem zc_X3_discard : zcf yX3_discard cX3_discard 3 (some FieldType.int) 1 := ⟨zwk_2 226 rfl rfl, zwk_1 1 rfl rfl, ⟨by decide +kernel, by decide +kernel⟩, by decide +kernel, by decide⟩
theorem zc_X3_draw : zcf yX3_draw cX3_draw 2 (some FieldType.int) 0 := ⟨zwk_2 207 rfl rfl, zwk_1 1 rfl rfl, ⟨by decide +kernel, by decide +kernel⟩, by decide +kernel, by decide⟩
theorem zc_X3_drawForFour : zcf yX3_drawForFour cX3_drawForFour 2 (some FieldType.int) 0 := ⟨zwk_3 50 rfl rfl, zwk_1 1 rfl rfl, ⟨by decide +kernel, by decide +kernel⟩, by decide +kernel, by decide⟩
theorem zc_X3_endWithoutWinner : zcf yX3_endWithoutWinner cX3_endWithoutWinner 4 (none : Option FieldType) 0 := ⟨zwk_2 215 rfl rfl, zwk_1 1 rfl rfl, ⟨by decide +kernel, by decide +kernel⟩, by decide +kernel, by decide⟩
theorem zc_X3_farWith : zcf yX3_farWith cX3_farWith 5 (some FieldType.int) 3 := ⟨zwk_1 183 rfl rfl, zwk_1 1 rfl rfl, ⟨by decide +kernel, by decide +kernel⟩, by decide +kernel, by decide⟩
theorem zc_X3_follower : zcf yX3_follower cX3_follower 1 (some FieldType.int) 1 := ⟨zwk_2 200 rfl rfl, zwk_1 1 rfl rfl, ⟨by decide +kernel, by decide +kernel⟩, by decide +kernel, by decide⟩
theorem zc_X3_four : zcf yX3_four cX3_four 3 (some FieldType.int) 1 := ⟨zwk_3 57 rfl rfl, zwk_1 1 rfl rfl, ⟨by decide +kernel, by decide +kernel⟩, by decide +kernel, by decide⟩
theorem zc_X3_fourAllowed : zcf yX3_fourAllowed cX3_fourAllowed 1 (some FieldType.boolean) 0 := ⟨zwk_3 33 rfl rfl, zwk_1 1 rfl rfl, ⟨by decide +kernel, by decide +kernel⟩, by decide +kernel, by decide⟩
theorem zc_X3_fourLeads : zcf yX3_fourLeads cX3_fourLeads 4 (some FieldType.int) 1 := ⟨zwk_2 134 rfl rfl, zwk_1 1 rfl rfl, ⟨by decide +kernel, by decide +kernel⟩, by decide +kernel, by decide⟩
theorem zc_X3_hand : zcf yX3_hand cX3_hand 4 (Option.some (FieldType.object "java/lang/String")) 1 := ⟨zwk_3 176 rfl rfl, zwk_1 1 rfl rfl, ⟨by decide +kernel, by decide +kernel⟩, by decide +kernel, by decide⟩
theorem zc_X3_has : zcf yX3_has cX3_has 3 (some FieldType.int) 2 := ⟨zwk_3 130 rfl rfl, zwk_1 1 rfl rfl, ⟨by decide +kernel, by decide +kernel⟩, by decide +kernel, by decide⟩
theorem zc_X3_init : zcf yX3_init cX3_init 2 (none : Option FieldType) 0 := ⟨zwk_1 37 rfl rfl, zwk_1 1 rfl rfl, ⟨by decide +kernel, by decide +kernel⟩, by decide +kernel, by decide⟩
theorem zc_X3_isSafe : zcf yX3_isSafe cX3_isSafe 4 (some FieldType.boolean) 2 := ⟨zwk_5 6 rfl rfl, zwk_1 1 rfl rfl, ⟨by decide +kernel, by decide +kernel⟩, by decide +kernel, by decide⟩
theorem zc_X3_kindAt : zcf yX3_kindAt cX3_kindAt 2 (some FieldType.int) 1 := ⟨zwk_2 197 rfl rfl, zwk_1 1 rfl rfl, ⟨by decide +kernel, by decide +kernel⟩, by decide +kernel, by decide⟩
theorem zc_X3_lay : zcf yX3_lay cX3_lay 4 (some FieldType.int) 2 := ⟨zwk_2 160 rfl rfl, zwk_1 1 rfl rfl, ⟨by decide +kernel, by decide +kernel⟩, by decide +kernel, by decide⟩
theorem zc_X3_layIntoRiver : zcf yX3_layIntoRiver cX3_layIntoRiver 3 (none : Option FieldType) 2 := ⟨zwk_2 235 rfl rfl, zwk_1 1 rfl rfl, ⟨by decide +kernel, by decide +kernel⟩, by decide +kernel, by decide⟩
theorem zc_X3_lead : zcf yX3_lead cX3_lead 2 (some FieldType.double) 1 := ⟨zwk_4 231 rfl rfl, zwk_1 1 rfl rfl, ⟨by decide +kernel, by decide +kernel⟩, by decide +kernel, by decide⟩
theorem zc_X3_many : zcf yX3_many cX3_many 2 (some FieldType.int) 1 := ⟨zwk_1 234 rfl rfl, zwk_1 1 rfl rfl, ⟨by decide +kernel, by decide +kernel⟩, by decide +kernel, by decide⟩
theorem zc_X3_mayClaim : zcf yX3_mayClaim cX3_mayClaim 6 (some FieldType.boolean) 3 := ⟨zwk_3 25 rfl rfl, zwk_1 1 rfl rfl, ⟨by decide +kernel, by decide +kernel⟩, by decide +kernel, by decide⟩
theorem zc_X3_ofPlayer : zcf yX3_ofPlayer cX3_ofPlayer 4 (some FieldType.int) 2 := ⟨zwk_2 78 rfl rfl, zwk_1 1 rfl rfl, ⟨by decide +kernel, by decide +kernel⟩, by decide +kernel, by decide⟩
theorem zc_X3_ofSet : zcf yX3_ofSet cX3_ofSet 4 (some FieldType.int) 2 := ⟨zwk_3 141 rfl rfl, zwk_1 1 rfl rfl, ⟨by decide +kernel, by decide +kernel⟩, by decide +kernel, by decide⟩
theorem zc_X3_outs : zcf yX3_outs cX3_outs 7 (some FieldType.int) 1 := ⟨zwk_5 13 rfl rfl, zwk_1 1 rfl rfl, ⟨by decide +kernel, by decide +kernel⟩, by decide +kernel, by decide⟩
theorem zc_X3_pass : zcf yX3_pass cX3_pass 1 (some FieldType.int) 0 := ⟨zwk_3 65 rfl rfl, zwk_1 1 rfl rfl, ⟨by decide +kernel, by decide +kernel⟩, by decide +kernel, by decide⟩
theorem zc_X3_payWin : zcf yX3_payWin cX3_payWin 5 (none : Option FieldType) 3 := ⟨zwk_3 123 rfl rfl, zwk_1 1 rfl rfl, ⟨by decide +kernel, by decide +kernel⟩, by decide +kernel, by decide⟩
theorem zc_X3_readyWithout : zcf yX3_readyWithout cX3_readyWithout 4 (some FieldType.boolean) 2 := ⟨zwk_3 11 rfl rfl, zwk_1 1 rfl rfl, ⟨by decide +kernel, by decide +kernel⟩, by decide +kernel, by decide⟩
theorem zc_X3_receive : zcf yX3_receive cX3_receive 2 (none : Option FieldType) 1 := ⟨zwk_2 219 rfl rfl, zwk_1 1 rfl rfl, ⟨by decide +kernel, by decide +kernel⟩, by decide +kernel, by decide⟩
theorem zc_X3_requireKind : zcf yX3_requireKind cX3_requireKind 1 (none : Option FieldType) 1 := ⟨zwk_2 229 rfl rfl, zwk_1 1 rfl rfl, ⟨by decide +kernel, by decide +kernel⟩, by decide +kernel, by decide⟩
theorem zc_X3_requirePhase : zcf yX3_requirePhase cX3_requirePhase 2 (none : Option FieldType) 1 := ⟨zwk_2 165 rfl rfl, zwk_1 1 rfl rfl, ⟨by decide +kernel, by decide +kernel⟩, by decide +kernel, by decide⟩
theorem zc_X3_requirePlayer : zcf yX3_requirePlayer cX3_requirePlayer 1 (none : Option FieldType) 1 := ⟨zwk_2 81 rfl rfl, zwk_1 1 rfl rfl, ⟨by decide +kernel, by decide +kernel⟩, by decide +kernel, by decide⟩
theorem zc_X3_river : zcf yX3_river cX3_river 4 (some FieldType.int) 2 := ⟨zwk_3 149 rfl rfl, zwk_1 1 rfl rfl, ⟨by decide +kernel, by decide +kernel⟩, by decide +kernel, by decide⟩
theorem zc_X3_seatInTurn : zcf yX3_seatInTurn cX3_seatInTurn 1 (Option.some (FieldType.object "Windsparlour$Seat")) 0 := ⟨zwk_1 175 rfl rfl, zwk_1 1 rfl rfl, ⟨by decide +kernel, by decide +kernel⟩, by decide +kernel, by decide⟩
theorem zc_X3_seen : zcf yX3_seen cX3_seen 4 (some FieldType.int) 1 := ⟨zwk_3 164 rfl rfl, zwk_1 1 rfl rfl, ⟨by decide +kernel, by decide +kernel⟩, by decide +kernel, by decide⟩
theorem zc_X3_startsRow : zcf yX3_startsRow cX3_startsRow 1 (some FieldType.boolean) 1 := ⟨zwk_2 129 rfl rfl, zwk_1 1 rfl rfl, ⟨by decide +kernel, by decide +kernel⟩, by decide +kernel, by decide⟩
theorem zc_X3_tilesLeft : zcf yX3_tilesLeft cX3_tilesLeft 1 (some FieldType.int) 0 := ⟨zwk_1 238 rfl rfl, zwk_1 1 rfl rfl, ⟨by decide +kernel, by decide +kernel⟩, by decide +kernel, by decide⟩
theorem zc_X3_waits : zcf yX3_waits cX3_waits 2 (some FieldType.long) 1 := ⟨zwk_3 157 rfl rfl, zwk_1 1 rfl rfl, ⟨by decide +kernel, by decide +kernel⟩, by decide +kernel, by decide⟩
theorem zc_X3_waitsOf : zcf yX3_waitsOf cX3_waitsOf 5 (some FieldType.long) 1 := ⟨zwk_2 113 rfl rfl, zwk_1 1 rfl rfl, ⟨by decide +kernel, by decide +kernel⟩, by decide +kernel, by decide⟩
theorem zc_X3_win : zcf yX3_win cX3_win 5 (some FieldType.int) 1 := ⟨zwk_3 72 rfl rfl, zwk_1 1 rfl rfl, ⟨by decide +kernel, by decide +kernel⟩, by decide +kernel, by decide⟩
theorem zc_X3_windOf : zcf yX3_windOf cX3_windOf 2 (some FieldType.int) 1 := ⟨zwk_2 109 rfl rfl, zwk_1 1 rfl rfl, ⟨by decide +kernel, by decide +kernel⟩, by decide +kernel, by decide⟩
theorem zc_X3_winsAlone : zcf yX3_winsAlone cX3_winsAlone 3 (some FieldType.boolean) 1 := ⟨zwk_3 76 rfl rfl, zwk_1 1 rfl rfl, ⟨by decide +kernel, by decide +kernel⟩, by decide +kernel, by decide⟩
theorem zc_X3_winsByDiscard : zcf yX3_winsByDiscard cX3_winsByDiscard 6 (some FieldType.boolean) 1 := ⟨zwk_3 80 rfl rfl, zwk_1 1 rfl rfl, ⟨by decide +kernel, by decide +kernel⟩, by decide +kernel, by decide⟩
theorem zc_X3_worth : zcf yX3_worth cX3_worth 5 (some FieldType.int) 2 := ⟨zwk_4 239 rfl rfl, zwk_1 1 rfl rfl, ⟨by decide +kernel, by decide +kernel⟩, by decide +kernel, by decide⟩
theorem zc_X3_writeHonours : zcf yX3_writeHonours cX3_writeHonours 5 (none : Option FieldType) 2 := ⟨zwk_4 105 rfl rfl, zwk_1 1 rfl rfl, ⟨by decide +kernel, by decide +kernel⟩, by decide +kernel, by decide⟩
theorem zc_X3_writeSuit : zcf yX3_writeSuit cX3_writeSuit 7 (none : Option FieldType) 4 := ⟨zwk_3 210 rfl rfl, zwk_1 1 rfl rfl, ⟨by decide +kernel, by decide +kernel⟩, by decide +kernel, by decide⟩
theorem zc_X4_init : zcf yX4_init cX4_init 1 (none : Option FieldType) 0 := ⟨zwk_2 140 rfl rfl, zwk_1 10 rfl rfl, ⟨by decide +kernel, by decide +kernel⟩, by decide +kernel, by decide⟩
theorem zc_X5_init : zcf yX5_init cX5_init 3 (none : Option FieldType) 2 := ⟨zwk_6 150 rfl rfl, zwk_1 27 rfl rfl, ⟨by decide +kernel, by decide +kernel⟩, by decide +kernel, by decide⟩
theorem zc_X5_isOpen : zcf yX5_isOpen cX5_isOpen 1 (some FieldType.boolean) 0 := ⟨zwk_6 113 rfl rfl, zwk_1 27 rfl rfl, ⟨by decide +kernel, by decide +kernel⟩, by decide +kernel, by decide⟩
theorem zc_X5_of : zcf yX5_of cX5_of 2 (some FieldType.int) 1 := ⟨zwk_6 219 rfl rfl, zwk_1 27 rfl rfl, ⟨by decide +kernel, by decide +kernel⟩, by decide +kernel, by decide⟩
theorem zc_X6_begin : zcf yX6_begin cX6_begin 1 (none : Option FieldType) 0 := ⟨zwk_5 153 rfl rfl, zwk_1 6 rfl rfl, ⟨by decide +kernel, by decide +kernel⟩, by decide +kernel, by decide⟩
theorem zc_X6_far : zcf yX6_far cX6_far 1 (some FieldType.int) 0 := ⟨zwk_7 5 rfl rfl, zwk_1 6 rfl rfl, ⟨by decide +kernel, by decide +kernel⟩, by decide +kernel, by decide⟩
theorem zc_X6_farWith : zcf yX6_farWith cX6_farWith 4 (some FieldType.int) 2 := ⟨zwk_7 103 rfl rfl, zwk_1 6 rfl rfl, ⟨by decide +kernel, by decide +kernel⟩, by decide +kernel, by decide⟩
theorem zc_X6_hasTooMany : zcf yX6_hasTooMany cX6_hasTooMany 1 (some FieldType.boolean) 0 := ⟨zwk_7 116 rfl rfl, zwk_1 6 rfl rfl, ⟨by decide +kernel, by decide +kernel⟩, by decide +kernel, by decide⟩
theorem zc_X6_init : zcf yX6_init cX6_init 1 (none : Option FieldType) 0 := ⟨zwk_5 26 rfl rfl, zwk_1 6 rfl rfl, ⟨by decide +kernel, by decide +kernel⟩, by decide +kernel, by decide⟩
theorem zc_X6_isReady : zcf yX6_isReady cX6_isReady 1 (some FieldType.boolean) 0 := ⟨zwk_5 188 rfl rfl, zwk_1 6 rfl rfl, ⟨by decide +kernel, by decide +kernel⟩, by decide +kernel, by decide⟩
theorem zc_X6_open : zcf yX6_open cX6_open 4 (some FieldType.int) 0 := ⟨zwk_6 62 rfl rfl, zwk_1 6 rfl rfl, ⟨by decide +kernel, by decide +kernel⟩, by decide +kernel, by decide⟩
theorem zc_X6_tiles : zcf yX6_tiles cX6_tiles 6 (some FieldType.int) 0 := ⟨zwk_5 196 rfl rfl, zwk_1 6 rfl rfl, ⟨by decide +kernel, by decide +kernel⟩, by decide +kernel, by decide⟩
theorem zc_X6_waits : zcf yX6_waits cX6_waits 4 (some FieldType.long) 0 := ⟨zwk_5 192 rfl rfl, zwk_1 6 rfl rfl, ⟨by decide +kernel, by decide +kernel⟩, by decide +kernel, by decide⟩
theorem zc_X7_add : zcf yX7_add cX7_add 4 (some FieldType.long) 2 := ⟨zwk_7 128 rfl rfl, zwk_1 5 rfl rfl, ⟨by decide +kernel, by decide +kernel⟩, by decide +kernel, by decide⟩
theorem zc_X7_areAll : zcf yX7_areAll cX7_areAll 4 (some FieldType.boolean) 3 := ⟨zwk_6 227 rfl rfl, zwk_1 5 rfl rfl, ⟨by decide +kernel, by decide +kernel⟩, by decide +kernel, by decide⟩
theorem zc_X7_areSets : zcf yX7_areSets cX7_areSets 5 (some FieldType.boolean) 2 := ⟨zwk_5 206 rfl rfl, zwk_1 5 rfl rfl, ⟨by decide +kernel, by decide +kernel⟩, by decide +kernel, by decide⟩
theorem zc_X7_away : zcf yX7_away cX7_away 3 (some FieldType.int) 1 := ⟨zwk_5 221 rfl rfl, zwk_1 5 rfl rfl, ⟨by decide +kernel, by decide +kernel⟩, by decide +kernel, by decide⟩
theorem zc_X7_best : zcf yX7_best cX7_best 1 (some FieldType.int) 0 := ⟨zwk_7 95 rfl rfl, zwk_1 5 rfl rfl, ⟨by decide +kernel, by decide +kernel⟩, by decide +kernel, by decide⟩
theorem zc_X7_bestNow : zcf yX7_bestNow cX7_bestNow 6 (some FieldType.int) 0 := ⟨zwk_7 99 rfl rfl, zwk_1 5 rfl rfl, ⟨by decide +kernel, by decide +kernel⟩, by decide +kernel, by decide⟩
theorem zc_X7_call : zcf yX7_call cX7_call 3 (some FieldType.int) 1 := ⟨zwk_6 54 rfl rfl, zwk_1 5 rfl rfl, ⟨by decide +kernel, by decide +kernel⟩, by decide +kernel, by decide⟩
theorem zc_X7_canDraw : zcf yX7_canDraw cX7_canDraw 1 (some FieldType.boolean) 0 := ⟨zwk_5 168 rfl rfl, zwk_1 5 rfl rfl, ⟨by decide +kernel, by decide +kernel⟩, by decide +kernel, by decide⟩
theorem zc_X7_claim : zcf yX7_claim cX7_claim 7 (some FieldType.int) 3 := ⟨zwk_6 117 rfl rfl, zwk_1 5 rfl rfl, ⟨by decide +kernel, by decide +kernel⟩, by decide +kernel, by decide⟩
theorem zc_X7_digest : zcf yX7_digest cX7_digest 6 (some FieldType.long) 0 := ⟨zwk_7 124 rfl rfl, zwk_1 5 rfl rfl, ⟨by decide +kernel, by decide +kernel⟩, by decide +kernel, by decide⟩
theorem zc_X7_discard : zcf yX7_discard cX7_discard 3 (some FieldType.int) 1 := ⟨zwk_5 214 rfl rfl, zwk_1 5 rfl rfl, ⟨by decide +kernel, by decide +kernel⟩, by decide +kernel, by decide⟩
theorem zc_X7_draw : zcf yX7_draw cX7_draw 1 (some FieldType.int) 0 := ⟨zwk_5 164 rfl rfl, zwk_1 5 rfl rfl, ⟨by decide +kernel, by decide +kernel⟩, by decide +kernel, by decide⟩
theorem zc_X7_drawLast : zcf yX7_drawLast cX7_drawLast 1 (some FieldType.int) 0 := ⟨zwk_6 164 rfl rfl, zwk_1 5 rfl rfl, ⟨by decide +kernel, by decide +kernel⟩, by decide +kernel, by decide⟩
theorem zc_X7_far : zcf yX7_far cX7_far 7 (some FieldType.int) 5 := ⟨zwk_7 8 rfl rfl, zwk_1 5 rfl rfl, ⟨by decide +kernel, by decide +kernel⟩, by decide +kernel, by decide⟩
theorem zc_X7_four : zcf yX7_four cX7_four 3 (some FieldType.int) 1 := ⟨zwk_6 168 rfl rfl, zwk_1 5 rfl rfl, ⟨by decide +kernel, by decide +kernel⟩, by decide +kernel, by decide⟩
theorem zc_X7_hand : zcf yX7_hand cX7_hand 6 (Option.some (FieldType.object "java/lang/String")) 1 := ⟨zwk_7 52 rfl rfl, zwk_1 5 rfl rfl, ⟨by decide +kernel, by decide +kernel⟩, by decide +kernel, by decide⟩
theorem zc_X7_has : zcf yX7_has cX7_has 3 (some FieldType.int) 2 := ⟨zwk_6 232 rfl rfl, zwk_1 5 rfl rfl, ⟨by decide +kernel, by decide +kernel⟩, by decide +kernel, by decide⟩
theorem zc_X7_init : zcf yX7_init cX7_init 1 (none : Option FieldType) 0 := ⟨zwk_5 19 rfl rfl, zwk_1 5 rfl rfl, ⟨by decide +kernel, by decide +kernel⟩, by decide +kernel, by decide⟩
theorem zc_X7_isBarred : zcf yX7_isBarred cX7_isBarred 2 (some FieldType.boolean) 1 := ⟨zwk_6 186 rfl rfl, zwk_1 5 rfl rfl, ⟨by decide +kernel, by decide +kernel⟩, by decide +kernel, by decide⟩
theorem zc_X7_isComplete : zcf yX7_isComplete cX7_isComplete 4 (some FieldType.boolean) 2 := ⟨zwk_5 203 rfl rfl, zwk_1 5 rfl rfl, ⟨by decide +kernel, by decide +kernel⟩, by decide +kernel, by decide⟩
theorem zc_X7_isEnd : zcf yX7_isEnd cX7_isEnd 1 (some FieldType.boolean) 1 := ⟨zwk_6 223 rfl rfl, zwk_1 5 rfl rfl, ⟨by decide +kernel, by decide +kernel⟩, by decide +kernel, by decide⟩
theorem zc_X7_isIn : zcf yX7_isIn cX7_isIn 3 (some FieldType.boolean) 3 := ⟨zwk_5 141 rfl rfl, zwk_1 5 rfl rfl, ⟨by decide +kernel, by decide +kernel⟩, by decide +kernel, by decide⟩
theorem zc_X7_isKind : zcf yX7_isKind cX7_isKind 1 (some FieldType.boolean) 1 := ⟨zwk_5 217 rfl rfl, zwk_1 5 rfl rfl, ⟨by decide +kernel, by decide +kernel⟩, by decide +kernel, by decide⟩
theorem zc_X7_isNoPlayer : zcf yX7_isNoPlayer cX7_isNoPlayer 1 (some FieldType.boolean) 1 := ⟨zwk_6 120 rfl rfl, zwk_1 5 rfl rfl, ⟨by decide +kernel, by decide +kernel⟩, by decide +kernel, by decide⟩
theorem zc_X7_isRun : zcf yX7_isRun cX7_isRun 2 (some FieldType.boolean) 2 := ⟨zwk_5 209 rfl rfl, zwk_1 5 rfl rfl, ⟨by decide +kernel, by decide +kernel⟩, by decide +kernel, by decide⟩
theorem zc_X7_isSafe : zcf yX7_isSafe cX7_isSafe 4 (some FieldType.boolean) 2 := ⟨zwk_7 108 rfl rfl, zwk_1 5 rfl rfl, ⟨by decide +kernel, by decide +kernel⟩, by decide +kernel, by decide⟩
theorem zc_X7_its : zcf yX7_its cX7_its 1 (Option.some (FieldType.object "WindsparlourModel$Player")) 0 := ⟨zwk_5 180 rfl rfl, zwk_1 5 rfl rfl, ⟨by decide +kernel, by decide +kernel⟩, by decide +kernel, by decide⟩
theorem zc_X7_lay : zcf yX7_lay cX7_lay 5 (some FieldType.int) 2 := ⟨zwk_5 138 rfl rfl, zwk_1 5 rfl rfl, ⟨by decide +kernel, by decide +kernel⟩, by decide +kernel, by decide⟩
theorem zc_X7_lead : zcf yX7_lead cX7_lead 2 (some FieldType.double) 1 := ⟨zwk_7 82 rfl rfl, zwk_1 5 rfl rfl, ⟨by decide +kernel, by decide +kernel⟩, by decide +kernel, by decide⟩
theorem zc_X7_leadNow : zcf yX7_leadNow cX7_leadNow 7 (some FieldType.double) 1 := ⟨zwk_7 86 rfl rfl, zwk_1 5 rfl rfl, ⟨by decide +kernel, by decide +kernel⟩, by decide +kernel, by decide⟩
theorem zc_X7_leave : zcf yX7_leave cX7_leave 1 (none : Option FieldType) 0 := ⟨zwk_6 132 rfl rfl, zwk_1 5 rfl rfl, ⟨by decide +kernel, by decide +kernel⟩, by decide +kernel, by decide⟩
theorem zc_X7_left : zcf yX7_left cX7_left 1 (some FieldType.int) 0 := ⟨zwk_5 172 rfl rfl, zwk_1 5 rfl rfl, ⟨by decide +kernel, by decide +kernel⟩, by decide +kernel, by decide⟩
theorem zc_X7_lucky : zcf yX7_lucky cX7_lucky 1 (some FieldType.int) 1 := ⟨zwk_5 160 rfl rfl, zwk_1 5 rfl rfl, ⟨by decide +kernel, by decide +kernel⟩, by decide +kernel, by decide⟩
theorem zc_X7_many : zcf yX7_many cX7_many 2 (some FieldType.int) 1 := ⟨zwk_7 74 rfl rfl, zwk_1 5 rfl rfl, ⟨by decide +kernel, by decide +kernel⟩, by decide +kernel, by decide⟩
theorem zc_X7_manyNow : zcf yX7_manyNow cX7_manyNow 3 (some FieldType.int) 1 := ⟨zwk_7 78 rfl rfl, zwk_1 5 rfl rfl, ⟨by decide +kernel, by decide +kernel⟩, by decide +kernel, by decide⟩
theorem zc_X7_mayCall : zcf yX7_mayCall cX7_mayCall 3 (some FieldType.boolean) 1 := ⟨zwk_6 58 rfl rfl, zwk_1 5 rfl rfl, ⟨by decide +kernel, by decide +kernel⟩, by decide +kernel, by decide⟩
theorem zc_X7_mayClaim : zcf yX7_mayClaim cX7_mayClaim 6 (some FieldType.boolean) 3 := ⟨zwk_6 124 rfl rfl, zwk_1 5 rfl rfl, ⟨by decide +kernel, by decide +kernel⟩, by decide +kernel, by decide⟩
theorem zc_X7_mayFour : zcf yX7_mayFour cX7_mayFour 1 (some FieldType.boolean) 0 := ⟨zwk_6 128 rfl rfl, zwk_1 5 rfl rfl, ⟨by decide +kernel, by decide +kernel⟩, by decide +kernel, by decide⟩
theorem zc_X7_mayWin : zcf yX7_mayWin cX7_mayWin 3 (some FieldType.boolean) 1 := ⟨zwk_6 180 rfl rfl, zwk_1 5 rfl rfl, ⟨by decide +kernel, by decide +kernel⟩, by decide +kernel, by decide⟩
theorem zc_X7_ofPlayer : zcf yX7_ofPlayer cX7_ofPlayer 3 (some FieldType.int) 2 := ⟨zwk_6 236 rfl rfl, zwk_1 5 rfl rfl, ⟨by decide +kernel, by decide +kernel⟩, by decide +kernel, by decide⟩
theorem zc_X7_ofPlayerNow : zcf yX7_ofPlayerNow cX7_ofPlayerNow 4 (some FieldType.int) 2 := ⟨zwk_7 0 rfl rfl, zwk_1 5 rfl rfl, ⟨by decide +kernel, by decide +kernel⟩, by decide +kernel, by decide⟩
theorem zc_X7_ofSet : zcf yX7_ofSet cX7_ofSet 3 (some FieldType.int) 2 := ⟨zwk_7 16 rfl rfl, zwk_1 5 rfl rfl, ⟨by decide +kernel, by decide +kernel⟩, by decide +kernel, by decide⟩
theorem zc_X7_ofSetNow : zcf yX7_ofSetNow cX7_ofSetNow 1 (some FieldType.int) 1 := ⟨zwk_7 27 rfl rfl, zwk_1 5 rfl rfl, ⟨by decide +kernel, by decide +kernel⟩, by decide +kernel, by decide⟩
theorem zc_X7_outs : zcf yX7_outs cX7_outs 5 (some FieldType.int) 1 := ⟨zwk_7 112 rfl rfl, zwk_1 5 rfl rfl, ⟨by decide +kernel, by decide +kernel⟩, by decide +kernel, by decide⟩
theorem zc_X7_pass : zcf yX7_pass cX7_pass 1 (some FieldType.int) 0 := ⟨zwk_6 172 rfl rfl, zwk_1 5 rfl rfl, ⟨by decide +kernel, by decide +kernel⟩, by decide +kernel, by decide⟩
theorem zc_X7_refuse : zcf yX7_refuse cX7_refuse 3 (some FieldType.boolean) 2 := ⟨zwk_5 149 rfl rfl, zwk_1 5 rfl rfl, ⟨by decide +kernel, by decide +kernel⟩, by decide +kernel, by decide⟩
theorem zc_X7_river : zcf yX7_river cX7_river 3 (some FieldType.int) 2 := ⟨zwk_7 31 rfl rfl, zwk_1 5 rfl rfl, ⟨by decide +kernel, by decide +kernel⟩, by decide +kernel, by decide⟩
theorem zc_X7_seen : zcf yX7_seen cX7_seen 2 (some FieldType.int) 1 := ⟨zwk_7 40 rfl rfl, zwk_1 5 rfl rfl, ⟨by decide +kernel, by decide +kernel⟩, by decide +kernel, by decide⟩
theorem zc_X7_seenNow : zcf yX7_seenNow cX7_seenNow 9 (some FieldType.int) 1 := ⟨zwk_7 44 rfl rfl, zwk_1 5 rfl rfl, ⟨by decide +kernel, by decide +kernel⟩, by decide +kernel, by decide⟩
theorem zc_X7_settle : zcf yX7_settle cX7_settle 4 (none : Option FieldType) 0 := ⟨zwk_5 184 rfl rfl, zwk_1 5 rfl rfl, ⟨by decide +kernel, by decide +kernel⟩, by decide +kernel, by decide⟩
theorem zc_X7_start : zcf yX7_start cX7_start 3 (some FieldType.boolean) 2 := ⟨zwk_5 145 rfl rfl, zwk_1 5 rfl rfl, ⟨by decide +kernel, by decide +kernel⟩, by decide +kernel, by decide⟩
theorem zc_X7_take : zcf yX7_take cX7_take 2 (some FieldType.int) 1 := ⟨zwk_5 176 rfl rfl, zwk_1 5 rfl rfl, ⟨by decide +kernel, by decide +kernel⟩, by decide +kernel, by decide⟩
theorem zc_X7_thrown : zcf yX7_thrown cX7_thrown 1 (some FieldType.int) 0 := ⟨zwk_5 134 rfl rfl, zwk_1 5 rfl rfl, ⟨by decide +kernel, by decide +kernel⟩, by decide +kernel, by decide⟩
theorem zc_X7_unseen : zcf yX7_unseen cX7_unseen 3 (some FieldType.int) 2 := ⟨zwk_7 120 rfl rfl, zwk_1 5 rfl rfl, ⟨by decide +kernel, by decide +kernel⟩, by decide +kernel, by decide⟩
theorem zc_X7_value : zcf yX7_value cX7_value 8 (some FieldType.int) 2 := ⟨zwk_6 190 rfl rfl, zwk_1 5 rfl rfl, ⟨by decide +kernel, by decide +kernel⟩, by decide +kernel, by decide⟩
theorem zc_X7_valueOfSets : zcf yX7_valueOfSets cX7_valueOfSets 9 (some FieldType.int) 5 := ⟨zwk_6 210 rfl rfl, zwk_1 5 rfl rfl, ⟨by decide +kernel, by decide +kernel⟩, by decide +kernel, by decide⟩
theorem zc_X7_valueOfThree : zcf yX7_valueOfThree cX7_valueOfThree 3 (some FieldType.int) 2 := ⟨zwk_6 199 rfl rfl, zwk_1 5 rfl rfl, ⟨by decide +kernel, by decide +kernel⟩, by decide +kernel, by decide⟩
theorem zc_X7_valueOfTiles : zcf yX7_valueOfTiles cX7_valueOfTiles 10 (some FieldType.int) 2 := ⟨zwk_6 215 rfl rfl, zwk_1 5 rfl rfl, ⟨by decide +kernel, by decide +kernel⟩, by decide +kernel, by decide⟩
theorem zc_X7_waits : zcf yX7_waits cX7_waits 2 (some FieldType.long) 1 := ⟨zwk_7 48 rfl rfl, zwk_1 5 rfl rfl, ⟨by decide +kernel, by decide +kernel⟩, by decide +kernel, by decide⟩
theorem zc_X7_win : zcf yX7_win cX7_win 7 (some FieldType.int) 1 := ⟨zwk_6 176 rfl rfl, zwk_1 5 rfl rfl, ⟨by decide +kernel, by decide +kernel⟩, by decide +kernel, by decide⟩
theorem zc_X7_wind : zcf yX7_wind cX7_wind 2 (some FieldType.int) 1 := ⟨zwk_6 203 rfl rfl, zwk_1 5 rfl rfl, ⟨by decide +kernel, by decide +kernel⟩, by decide +kernel, by decide⟩
theorem zc_X7_with : zcf yX7_with cX7_with 9 (some FieldType.int) 7 := ⟨zwk_7 11 rfl rfl, zwk_1 5 rfl rfl, ⟨by decide +kernel, by decide +kernel⟩, by decide +kernel, by decide⟩
theorem zc_X7_worth : zcf yX7_worth cX7_worth 5 (some FieldType.int) 2 := ⟨zwk_7 91 rfl rfl, zwk_1 5 rfl rfl, ⟨by decide +kernel, by decide +kernel⟩, by decide +kernel, by decide⟩
theorem zm_X3_17 : Cond.methodLinkNest RX3 17 yX0_init "Windsparlour" ∈ zsp ∧ Cond.instanceMethod yX0_init ∈ zw ∧ yX0_init.name = "<init>" := ⟨zsk_1 45 rfl rfl, zwk_1 46 rfl rfl, rfl⟩
theorem zm_X3_24 : Cond.methodLinkNest RX3 24 yX2_init "Windsparlour" ∈ zsp ∧ Cond.instanceMethod yX2_init ∈ zw ∧ yX2_init.name = "<init>" := ⟨zsk_1 68 rfl rfl, zwk_1 69 rfl rfl, rfl⟩
theorem zm_X3_70 : Cond.methodLinkNest RX3 70 yX1_init "Windsparlour" ∈ zsp ∧ Cond.instanceMethod yX1_init ∈ zw ∧ yX1_init.name = "<init>" := ⟨zsk_1 77 rfl rfl, zwk_1 78 rfl rfl, rfl⟩
theorem zm_X3_78 : Cond.methodLink RX3 78 yX3_requirePhase ∈ zw ∧ Cond.instanceMethod yX3_requirePhase ∈ zw ∧ Cond.selects RX3 yX3_requirePhase yX3_requirePhase ∈ zw := ⟨zwk_2 162 rfl rfl, zwk_2 164 rfl rfl, zw_at 12 (by decide +kernel) rfl⟩
theorem zm_X3_82 : Cond.methodLink RX3 82 yX3_beginRound ∈ zw ∧ Cond.instanceMethod yX3_beginRound ∈ zw ∧ Cond.selects RX3 yX3_beginRound yX3_beginRound ∈ zw := ⟨zwk_2 182 rfl rfl, zwk_2 184 rfl rfl, zw_at 13 (by decide +kernel) rfl⟩
theorem zm_X3_85 : Cond.methodLink RX3 85 yX3_dealTo ∈ zw ∧ Cond.instanceMethod yX3_dealTo ∈ zw ∧ Cond.selects RX3 yX3_dealTo yX3_dealTo ∈ zw := ⟨zwk_2 186 rfl rfl, zwk_2 188 rfl rfl, zw_at 14 (by decide +kernel) rfl⟩
theorem zm_X3_88 : Cond.methodLink RX3 88 yX3_kindAt ∈ zw ∧ Cond.instanceMethod yX3_kindAt ∈ zw ∧ Cond.selects RX3 yX3_kindAt yX3_kindAt ∈ zw := ⟨zwk_2 194 rfl rfl, zwk_2 196 rfl rfl, zw_at 15 (by decide +kernel) rfl⟩
theorem zm_X3_92 : Cond.methodLink RX3 92 yX3_follower ∈ zw ∧ Cond.static yX3_follower ∈ zw := ⟨zwk_2 198 rfl rfl, zwk_2 199 rfl rfl⟩
theorem zm_X3_95 : Cond.methodLink RX3 95 yX3_canDraw ∈ zw ∧ Cond.instanceMethod yX3_canDraw ∈ zw ∧ Cond.selects RX3 yX3_canDraw yX3_canDraw ∈ zw := ⟨zwk_2 208 rfl rfl, zwk_2 210 rfl rfl, zw_at 16 (by decide +kernel) rfl⟩
theorem zm_X3_99 : Cond.methodLink RX3 99 yX3_endWithoutWinner ∈ zw ∧ Cond.instanceMethod yX3_endWithoutWinner ∈ zw ∧ Cond.selects RX3 yX3_endWithoutWinner yX3_endWithoutWinner ∈ zw := ⟨zwk_2 212 rfl rfl, zwk_2 214 rfl rfl, zw_at 17 (by decide +kernel) rfl⟩
theorem zm_X3_102 : Cond.methodLink RX3 102 yX3_receive ∈ zw ∧ Cond.instanceMethod yX3_receive ∈ zw ∧ Cond.selects RX3 yX3_receive yX3_receive ∈ zw := ⟨zwk_2 216 rfl rfl, zwk_2 218 rfl rfl, zw_at 18 (by decide +kernel) rfl⟩
theorem zm_X3_105 : Cond.methodLink RX3 105 yX3_requireKind ∈ zw ∧ Cond.static yX3_requireKind ∈ zw := ⟨zwk_2 227 rfl rfl, zwk_2 228 rfl rfl⟩
theorem zm_X3_108 : Cond.methodLink RX3 108 yX3_seatInTurn ∈ zw ∧ Cond.instanceMethod yX3_seatInTurn ∈ zw ∧ Cond.selects RX3 yX3_seatInTurn yX3_seatInTurn ∈ zw := ⟨zwk_1 172 rfl rfl, zwk_1 174 rfl rfl, zw_at 0 (by decide +kernel) rfl⟩
theorem zm_X3_112 : Cond.methodLink RX3 112 yX1_count ∈ zw ∧ Cond.instanceMethod yX1_count ∈ zw ∧ Cond.selects RX1 yX1_count yX1_count ∈ zw := ⟨zwk_1 176 rfl rfl, zwk_1 177 rfl rfl, zwk_1 178 rfl rfl⟩
theorem zm_X3_123 : Cond.methodLink RX3 123 yX3_layIntoRiver ∈ zw ∧ Cond.instanceMethod yX3_layIntoRiver ∈ zw ∧ Cond.selects RX3 yX3_layIntoRiver yX3_layIntoRiver ∈ zw := ⟨zwk_2 232 rfl rfl, zwk_2 234 rfl rfl, zw_at 19 (by decide +kernel) rfl⟩
theorem zm_X3_130 : Cond.methodLink RX3 130 yX1_openSets ∈ zw ∧ Cond.instanceMethod yX1_openSets ∈ zw ∧ Cond.selects RX1 yX1_openSets yX1_openSets ∈ zw := ⟨zwk_2 98 rfl rfl, zwk_2 99 rfl rfl, zwk_2 100 rfl rfl⟩
theorem zm_X3_134 : Cond.methodLink RX3 134 yX3_readyWithout ∈ zw ∧ Cond.instanceMethod yX3_readyWithout ∈ zw ∧ Cond.selects RX3 yX3_readyWithout yX3_readyWithout ∈ zw := ⟨zwk_3 8 rfl rfl, zwk_3 10 rfl rfl, zw_at 20 (by decide +kernel) rfl⟩
theorem zm_X3_143 : Cond.methodLink RX3 143 yX3_requirePlayer ∈ zw ∧ Cond.static yX3_requirePlayer ∈ zw := ⟨zwk_2 79 rfl rfl, zwk_2 80 rfl rfl⟩
theorem zm_X3_148 : Cond.methodLink RX3 148 yX3_mayClaim ∈ zw ∧ Cond.instanceMethod yX3_mayClaim ∈ zw ∧ Cond.selects RX3 yX3_mayClaim yX3_mayClaim ∈ zw := ⟨zwk_3 22 rfl rfl, zwk_3 24 rfl rfl, zw_at 21 (by decide +kernel) rfl⟩
theorem zm_X3_154 : Cond.methodLink RX3 154 yX1_leaveRiver ∈ zw ∧ Cond.instanceMethod yX1_leaveRiver ∈ zw ∧ Cond.selects RX1 yX1_leaveRiver yX1_leaveRiver ∈ zw := ⟨zwk_3 35 rfl rfl, zwk_3 36 rfl rfl, zwk_3 37 rfl rfl⟩
theorem zm_X3_157 : Cond.methodLink RX3 157 yX1_change ∈ zw ∧ Cond.instanceMethod yX1_change ∈ zw ∧ Cond.selects RX1 yX1_change yX1_change ∈ zw := ⟨zwk_1 184 rfl rfl, zwk_1 185 rfl rfl, zwk_1 186 rfl rfl⟩
theorem zm_X3_161 : Cond.methodLink RX3 161 yX1_laySet ∈ zw ∧ Cond.instanceMethod yX1_laySet ∈ zw ∧ Cond.selects RX1 yX1_laySet yX1_laySet ∈ zw := ⟨zwk_3 40 rfl rfl, zwk_3 41 rfl rfl, zwk_3 42 rfl rfl⟩
theorem zm_X3_164 : Cond.methodLink RX3 164 yX3_drawForFour ∈ zw ∧ Cond.instanceMethod yX3_drawForFour ∈ zw ∧ Cond.selects RX3 yX3_drawForFour yX3_drawForFour ∈ zw := ⟨zwk_3 47 rfl rfl, zwk_3 49 rfl rfl, zw_at 23 (by decide +kernel) rfl⟩
theorem zm_X3_170 : Cond.methodLink RX3 170 yX3_fourAllowed ∈ zw ∧ Cond.instanceMethod yX3_fourAllowed ∈ zw ∧ Cond.selects RX3 yX3_fourAllowed yX3_fourAllowed ∈ zw := ⟨zwk_3 30 rfl rfl, zwk_3 32 rfl rfl, zw_at 22 (by decide +kernel) rfl⟩
theorem zm_X3_175 : Cond.methodLink RX3 175 yX3_winsAlone ∈ zw ∧ Cond.instanceMethod yX3_winsAlone ∈ zw ∧ Cond.selects RX3 yX3_winsAlone yX3_winsAlone ∈ zw := ⟨zwk_3 73 rfl rfl, zwk_3 75 rfl rfl, zw_at 24 (by decide +kernel) rfl⟩
theorem zm_X3_179 : Cond.methodLink RX3 179 yX3_winsByDiscard ∈ zw ∧ Cond.instanceMethod yX3_winsByDiscard ∈ zw ∧ Cond.selects RX3 yX3_winsByDiscard yX3_winsByDiscard ∈ zw := ⟨zwk_3 77 rfl rfl, zwk_3 79 rfl rfl, zw_at 25 (by decide +kernel) rfl⟩
theorem zm_X3_184 : Cond.methodLink RX3 184 yX3_windOf ∈ zw ∧ Cond.instanceMethod yX3_windOf ∈ zw ∧ Cond.selects RX3 yX3_windOf yX3_windOf ∈ zw := ⟨zwk_2 106 rfl rfl, zwk_2 108 rfl rfl, zw_at 8 (by decide +kernel) rfl⟩
theorem zm_X3_187 : Cond.methodLink RX3 187 yX2_value ∈ zw ∧ Cond.instanceMethod yX2_value ∈ zw ∧ Cond.selects RX2 yX2_value yX2_value ∈ zw := ⟨zwk_3 82 rfl rfl, zwk_3 83 rfl rfl, zwk_3 84 rfl rfl⟩
theorem zm_X3_191 : Cond.methodLink RX3 191 yX3_payWin ∈ zw ∧ Cond.instanceMethod yX3_payWin ∈ zw ∧ Cond.selects RX3 yX3_payWin yX3_payWin ∈ zw := ⟨zwk_3 120 rfl rfl, zwk_3 122 rfl rfl, zw_at 31 (by decide +kernel) rfl⟩
theorem zm_X3_198 : Cond.methodLink RX3 198 yX1_inHand ∈ zw ∧ Cond.instanceMethod yX1_inHand ∈ zw ∧ Cond.selects RX1 yX1_inHand yX1_inHand ∈ zw := ⟨zwk_2 102 rfl rfl, zwk_2 103 rfl rfl, zwk_2 104 rfl rfl⟩
theorem zm_X3_205 : Cond.methodLink RX3 205 yX0_far ∈ zw ∧ Cond.instanceMethod yX0_far ∈ zw ∧ Cond.selects RX0 yX0_far yX0_far ∈ zw := ⟨zwk_1 188 rfl rfl, zwk_1 189 rfl rfl, zwk_1 190 rfl rfl⟩
theorem zm_X3_209 : Cond.methodLink RX3 209 yX3_waitsOf ∈ zw ∧ Cond.instanceMethod yX3_waitsOf ∈ zw ∧ Cond.selects RX3 yX3_waitsOf yX3_waitsOf ∈ zw := ⟨zwk_2 110 rfl rfl, zwk_2 112 rfl rfl, zw_at 9 (by decide +kernel) rfl⟩
theorem zm_X3_232 : Cond.methodLink RX3 232 yX1_lying ∈ zw ∧ Cond.instanceMethod yX1_lying ∈ zw ∧ Cond.selects RX1 yX1_lying yX1_lying ∈ zw := ⟨zwk_3 165 rfl rfl, zwk_3 166 rfl rfl, zwk_3 167 rfl rfl⟩
theorem zm_X3_237 : Cond.methodLink RX3 237 yJ4_init_da8c8 ∈ zw ∧ Cond.instanceMethod yJ4_init_da8c8 ∈ zw ∧ yJ4_init_da8c8.name = "<init>" := ⟨zwk_3 179 rfl rfl, zwk_3 180 rfl rfl, rfl⟩
theorem zm_X3_238 : Cond.methodLink RX3 238 yX3_writeSuit ∈ zw ∧ Cond.static yX3_writeSuit ∈ zw := ⟨zwk_3 208 rfl rfl, zwk_3 209 rfl rfl⟩
theorem zm_X3_242 : Cond.methodLink RX3 242 yX3_writeHonours ∈ zw ∧ Cond.static yX3_writeHonours ∈ zw := ⟨zwk_4 103 rfl rfl, zwk_4 104 rfl rfl⟩
theorem zm_X3_246 : Cond.methodLink RX3 246 yJ4_toString_0e30d ∈ zw ∧ Cond.instanceMethod yJ4_toString_0e30d ∈ zw ∧ Cond.selects RJ4 yJ4_toString_0e30d yJ4_toString_0e30d ∈ zw := ⟨zwk_4 134 rfl rfl, zwk_4 135 rfl rfl, zwk_4 136 rfl rfl⟩
theorem zm_X3_250 : Cond.methodLink RX3 250 yX3_tilesLeft ∈ zw ∧ Cond.instanceMethod yX3_tilesLeft ∈ zw ∧ Cond.selects RX3 yX3_tilesLeft yX3_tilesLeft ∈ zw := ⟨zwk_1 235 rfl rfl, zwk_1 237 rfl rfl, zw_at 5 (by decide +kernel) rfl⟩
theorem zm_X3_253 : Cond.methodLink RX3 253 yX1_latestInRiver ∈ zw ∧ Cond.instanceMethod yX1_latestInRiver ∈ zw ∧ Cond.selects RX1 yX1_latestInRiver yX1_latestInRiver ∈ zw := ⟨zwk_1 239 rfl rfl, zwk_2 0 rfl rfl, zwk_2 1 rfl rfl⟩
theorem zm_X3_258 : Cond.methodLink RX3 258 yX3_fourLeads ∈ zw ∧ Cond.instanceMethod yX3_fourLeads ∈ zw ∧ Cond.selects RX3 yX3_fourLeads yX3_fourLeads ∈ zw := ⟨zwk_2 131 rfl rfl, zwk_2 133 rfl rfl, zw_at 11 (by decide +kernel) rfl⟩
theorem zm_X3_263 : Cond.methodLink RX3 263 yX3_farWith ∈ zw ∧ Cond.instanceMethod yX3_farWith ∈ zw ∧ Cond.selects RX3 yX3_farWith yX3_farWith ∈ zw := ⟨zwk_1 180 rfl rfl, zwk_1 182 rfl rfl, zw_at 1 (by decide +kernel) rfl⟩
theorem zm_X3_267 : Cond.methodLink RX3 267 yX1_size ∈ zw ∧ Cond.instanceMethod yX1_size ∈ zw ∧ Cond.selects RX1 yX1_size yX1_size ∈ zw := ⟨zwk_2 114 rfl rfl, zwk_2 115 rfl rfl, zwk_2 116 rfl rfl⟩
theorem zm_X3_270 : Cond.methodLink RX3 270 yX3_seen ∈ zw ∧ Cond.instanceMethod yX3_seen ∈ zw ∧ Cond.selects RX3 yX3_seen yX3_seen ∈ zw := ⟨zwk_5 14 rfl rfl, zwk_3 162 rfl rfl, zwk_3 163 rfl rfl⟩
theorem zm_X3_277 : Cond.methodLink RX3 277 yX3_many ∈ zw ∧ Cond.instanceMethod yX3_many ∈ zw ∧ Cond.selects RX3 yX3_many yX3_many ∈ zw := ⟨zwk_1 231 rfl rfl, zwk_1 232 rfl rfl, zwk_1 233 rfl rfl⟩
theorem zm_X3_280 : Cond.methodLink RX3 280 yX3_digestPlayer ∈ zw ∧ Cond.instanceMethod yX3_digestPlayer ∈ zw ∧ Cond.selects RX3 yX3_digestPlayer yX3_digestPlayer ∈ zw := ⟨zwk_2 71 rfl rfl, zwk_2 73 rfl rfl, zw_at 7 (by decide +kernel) rfl⟩
theorem zm_X3_284 : Cond.methodLink RX3 284 yX3_best ∈ zw ∧ Cond.instanceMethod yX3_best ∈ zw ∧ Cond.selects RX3 yX3_best yX3_best ∈ zw := ⟨zwk_2 135 rfl rfl, zwk_1 169 rfl rfl, zwk_1 170 rfl rfl⟩
theorem zm_X3_293 : Cond.methodLink RX3 293 yX1_clear ∈ zw ∧ Cond.instanceMethod yX1_clear ∈ zw ∧ Cond.selects RX1 yX1_clear yX1_clear ∈ zw := ⟨zwk_2 190 rfl rfl, zwk_2 191 rfl rfl, zwk_2 192 rfl rfl⟩
theorem zm_X3_296 : Cond.methodLink RX3 296 yX1_toRiver ∈ zw ∧ Cond.instanceMethod yX1_toRiver ∈ zw ∧ Cond.selects RX1 yX1_toRiver yX1_toRiver ∈ zw := ⟨zwk_2 236 rfl rfl, zwk_2 237 rfl rfl, zwk_2 238 rfl rfl⟩
theorem zm_X3_299 : Cond.methodLink RX3 299 yX3_completesRow ∈ zw ∧ Cond.static yX3_completesRow ∈ zw := ⟨zwk_3 26 rfl rfl, zwk_3 27 rfl rfl⟩
theorem zm_X3_303 : Cond.methodLink RX3 303 yX3_startsRow ∈ zw ∧ Cond.static yX3_startsRow ∈ zw := ⟨zwk_3 29 rfl rfl, zwk_2 128 rfl rfl⟩
theorem zm_X3_306 : Cond.methodLink RX3 306 yX0_complete ∈ zw ∧ Cond.instanceMethod yX0_complete ∈ zw ∧ Cond.selects RX0 yX0_complete yX0_complete ∈ zw := ⟨zwk_2 119 rfl rfl, zwk_2 120 rfl rfl, zwk_2 121 rfl rfl⟩
theorem zm_X3_310 : Cond.methodLink RX3 310 yJ4_length_8abf5 ∈ zw ∧ Cond.instanceMethod yJ4_length_8abf5 ∈ zw ∧ Cond.selects RJ4 yJ4_length_8abf5 yJ4_length_8abf5 ∈ zw := ⟨zwk_3 211 rfl rfl, zwk_3 212 rfl rfl, zwk_3 213 rfl rfl⟩
theorem zm_X3_313 : Cond.methodLink RX3 313 yJ4_append_bf812 ∈ zw ∧ Cond.instanceMethod yJ4_append_bf812 ∈ zw ∧ Cond.selects RJ4 yJ4_append_bf812 yJ4_append_bf812 ∈ zw := ⟨zwk_3 218 rfl rfl, zwk_3 219 rfl rfl, zwk_3 220 rfl rfl⟩
theorem zm_X3_317 : Cond.methodLink RX3 317 yJ4_append_cf468 ∈ zw ∧ Cond.instanceMethod yJ4_append_cf468 ∈ zw ∧ Cond.selects RJ4 yJ4_append_cf468 yJ4_append_cf468 ∈ zw := ⟨zwk_4 62 rfl rfl, zwk_4 63 rfl rfl, zwk_4 64 rfl rfl⟩
theorem zm_X3_322 : Cond.methodLink RX3 322 yJ0_length_8abf5 ∈ zw ∧ Cond.instanceMethod yJ0_length_8abf5 ∈ zw ∧ Cond.selects RJ0 yJ0_length_8abf5 yJ0_length_8abf5 ∈ zw := ⟨zwk_4 107 rfl rfl, zwk_4 108 rfl rfl, zwk_4 109 rfl rfl⟩
theorem zm_X3_325 : Cond.methodLink RX3 325 yJ0_charAt_5068e ∈ zw ∧ Cond.instanceMethod yJ0_charAt_5068e ∈ zw ∧ Cond.selects RJ0 yJ0_charAt_5068e yJ0_charAt_5068e ∈ zw := ⟨zwk_4 116 rfl rfl, zwk_4 117 rfl rfl, zwk_4 118 rfl rfl⟩
theorem zm_X3_329 : Cond.methodLink RX3 329 yX3_ofPlayer ∈ zw ∧ Cond.instanceMethod yX3_ofPlayer ∈ zw ∧ Cond.selects RX3 yX3_ofPlayer yX3_ofPlayer ∈ zw := ⟨zwk_2 75 rfl rfl, zwk_2 76 rfl rfl, zwk_2 77 rfl rfl⟩
theorem zm_X0_27 : Cond.methodLink RX0 27 yX0_copy ∈ zw ∧ Cond.instanceMethod yX0_copy ∈ zw ∧ Cond.selects RX0 yX0_copy yX0_copy ∈ zw := ⟨zwk_1 192 rfl rfl, zwk_1 194 rfl rfl, zw_at 2 (by decide +kernel) rfl⟩
theorem zm_X0_31 : Cond.methodLink RX0 31 yX0_restIsSets ∈ zw ∧ Cond.instanceMethod yX0_restIsSets ∈ zw ∧ Cond.selects RX0 yX0_restIsSets yX0_restIsSets ∈ zw := ⟨zwk_2 123 rfl rfl, zwk_2 125 rfl rfl, zw_at 10 (by decide +kernel) rfl⟩
theorem zm_X0_35 : Cond.methodLinkNest RX0 35 yX3_startsRow "Windsparlour" ∈ zsp ∧ Cond.static yX3_startsRow ∈ zw := ⟨zsk_2 127 rfl rfl, zwk_2 128 rfl rfl⟩
theorem zm_X0_39 : Cond.methodLink RX0 39 yX0_join ∈ zw ∧ Cond.instanceMethod yX0_join ∈ zw ∧ Cond.selects RX0 yX0_join yX0_join ∈ zw := ⟨zwk_1 196 rfl rfl, zwk_1 198 rfl rfl, zw_at 3 (by decide +kernel) rfl⟩
theorem zm_X0_43 : Cond.methodLink RX0 43 yX0_most ∈ zw ∧ Cond.static yX0_most ∈ zw := ⟨zwk_1 200 rfl rfl, zwk_1 201 rfl rfl⟩
theorem zm_X0_47 : Cond.methodLink RX0 47 yJ9_max_7cf53 ∈ zw ∧ Cond.static yJ9_max_7cf53 ∈ zw := ⟨zwk_1 215 rfl rfl, zwk_1 216 rfl rfl⟩
theorem zm_X0_53 : Cond.methodLink RX0 53 yJ9_min_7cf53 ∈ zw ∧ Cond.static yJ9_min_7cf53 ∈ zw := ⟨zwk_1 218 rfl rfl, zwk_1 219 rfl rfl⟩
theorem zm_X0_56 : Cond.methodLink RX0 56 yX0_joinParts ∈ zw ∧ Cond.instanceMethod yX0_joinParts ∈ zw ∧ Cond.selects RX0 yX0_joinParts yX0_joinParts ∈ zw := ⟨zwk_1 221 rfl rfl, zwk_1 223 rfl rfl, zw_at 4 (by decide +kernel) rfl⟩
theorem zm_X0_60 : Cond.methodLink RX0 60 yX0_fits ∈ zw ∧ Cond.static yX0_fits ∈ zw := ⟨zwk_1 203 rfl rfl, zwk_1 204 rfl rfl⟩
theorem zm_X0_64 : Cond.methodLink RX0 64 yX0_changePart ∈ zw ∧ Cond.static yX0_changePart ∈ zw := ⟨zwk_1 212 rfl rfl, zwk_1 213 rfl rfl⟩
theorem zm_X1_42 : Cond.methodLink RX1 42 yX1_inHand ∈ zw ∧ Cond.instanceMethod yX1_inHand ∈ zw ∧ Cond.selects RX1 yX1_inHand yX1_inHand ∈ zw := ⟨zwk_2 118 rfl rfl, zwk_2 103 rfl rfl, zwk_2 104 rfl rfl⟩
theorem zm_X1_46 : Cond.methodLink RX1 46 yX1_tilesOf ∈ zw ∧ Cond.static yX1_tilesOf ∈ zw := ⟨zwk_3 44 rfl rfl, zwk_3 45 rfl rfl⟩
theorem zm_X1_50 : Cond.methodLink RX1 50 yX1_inSets ∈ zw ∧ Cond.instanceMethod yX1_inSets ∈ zw ∧ Cond.selects RX1 yX1_inSets yX1_inSets ∈ zw := ⟨zwk_3 169 rfl rfl, zwk_3 92 rfl rfl, zwk_3 93 rfl rfl⟩
theorem zm_X1_54 : Cond.methodLink RX1 54 yX1_change ∈ zw ∧ Cond.instanceMethod yX1_change ∈ zw ∧ Cond.selects RX1 yX1_change yX1_change ∈ zw := ⟨zwk_3 0 rfl rfl, zwk_1 185 rfl rfl, zwk_1 186 rfl rfl⟩
theorem zm_X1_58 : Cond.methodLink RX1 58 yX1_latestInRiver ∈ zw ∧ Cond.instanceMethod yX1_latestInRiver ∈ zw ∧ Cond.selects RX1 yX1_latestInRiver yX1_latestInRiver ∈ zw := ⟨zwk_3 39 rfl rfl, zwk_2 0 rfl rfl, zwk_2 1 rfl rfl⟩
theorem zm_X2_15 : Cond.methodLink RX2 15 yX2_gather ∈ zw ∧ Cond.instanceMethod yX2_gather ∈ zw ∧ Cond.selects RX2 yX2_gather yX2_gather ∈ zw := ⟨zwk_3 86 rfl rfl, zwk_3 88 rfl rfl, zw_at 26 (by decide +kernel) rfl⟩
theorem zm_X2_25 : Cond.methodLink RX2 25 yX1_openSets ∈ zw ∧ Cond.instanceMethod yX1_openSets ∈ zw ∧ Cond.selects RX1 yX1_openSets yX1_openSets ∈ zw := ⟨zwk_3 95 rfl rfl, zwk_2 99 rfl rfl, zwk_2 100 rfl rfl⟩
theorem zm_X2_29 : Cond.methodLink RX2 29 yX2_setOf ∈ zw ∧ Cond.instanceMethod yX2_setOf ∈ zw ∧ Cond.selects RX2 yX2_setOf yX2_setOf ∈ zw := ⟨zwk_3 96 rfl rfl, zwk_3 98 rfl rfl, zw_at 27 (by decide +kernel) rfl⟩
theorem zm_X2_33 : Cond.methodLink RX2 33 yX2_withoutEndsAndHonours ∈ zw ∧ Cond.instanceMethod yX2_withoutEndsAndHonours ∈ zw ∧ Cond.selects RX2 yX2_withoutEndsAndHonours yX2_withoutEndsAndHonours ∈ zw := ⟨zwk_3 100 rfl rfl, zwk_3 102 rfl rfl, zw_at 28 (by decide +kernel) rfl⟩
theorem zm_X2_37 : Cond.methodLink RX2 37 yX2_withoutRows ∈ zw ∧ Cond.static yX2_withoutRows ∈ zw := ⟨zwk_3 104 rfl rfl, zwk_3 105 rfl rfl⟩
theorem zm_X2_41 : Cond.methodLink RX2 41 yX2_ofOneSuit ∈ zw ∧ Cond.instanceMethod yX2_ofOneSuit ∈ zw ∧ Cond.selects RX2 yX2_ofOneSuit yX2_ofOneSuit ∈ zw := ⟨zwk_3 111 rfl rfl, zwk_3 113 rfl rfl, zw_at 29 (by decide +kernel) rfl⟩
theorem zm_X2_44 : Cond.methodLink RX2 44 yJ9_min_7cf53 ∈ zw ∧ Cond.static yJ9_min_7cf53 ∈ zw := ⟨zwk_3 119 rfl rfl, zwk_1 219 rfl rfl⟩
theorem zm_X2_50 : Cond.methodLink RX2 50 yX1_count ∈ zw ∧ Cond.instanceMethod yX1_count ∈ zw ∧ Cond.selects RX1 yX1_count yX1_count ∈ zw := ⟨zwk_3 90 rfl rfl, zwk_1 177 rfl rfl, zwk_1 178 rfl rfl⟩
theorem zm_X2_53 : Cond.methodLink RX2 53 yX1_inSets ∈ zw ∧ Cond.instanceMethod yX1_inSets ∈ zw ∧ Cond.selects RX1 yX1_inSets yX1_inSets ∈ zw := ⟨zwk_3 91 rfl rfl, zwk_3 92 rfl rfl, zwk_3 93 rfl rfl⟩
theorem zm_X2_56 : Cond.methodLink RX2 56 yX1_rowLies ∈ zw ∧ Cond.instanceMethod yX1_rowLies ∈ zw ∧ Cond.selects RX1 yX1_rowLies yX1_rowLies ∈ zw := ⟨zwk_3 107 rfl rfl, zwk_3 108 rfl rfl, zwk_3 109 rfl rfl⟩
theorem zm_X2_59 : Cond.methodLink RX2 59 yX2_anyOf ∈ zw ∧ Cond.instanceMethod yX2_anyOf ∈ zw ∧ Cond.selects RX2 yX2_anyOf yX2_anyOf ∈ zw := ⟨zwk_3 115 rfl rfl, zwk_3 117 rfl rfl, zw_at 30 (by decide +kernel) rfl⟩
theorem zm_L_7 : Cond.methodLink RL 7 yX3_lay ∈ zw ∧ Cond.instanceMethod yX3_lay ∈ zw ∧ Cond.selects RX3 yX3_lay yX3_lay ∈ zw := ⟨zwk_2 157 rfl rfl, zwk_2 158 rfl rfl, zwk_2 159 rfl rfl⟩
theorem zm_L_23 : Cond.methodLink RL 23 yX3_draw ∈ zw ∧ Cond.instanceMethod yX3_draw ∈ zw ∧ Cond.selects RX3 yX3_draw yX3_draw ∈ zw := ⟨zwk_2 204 rfl rfl, zwk_2 205 rfl rfl, zwk_2 206 rfl rfl⟩
theorem zm_L_27 : Cond.methodLink RL 27 yX3_discard ∈ zw ∧ Cond.instanceMethod yX3_discard ∈ zw ∧ Cond.selects RX3 yX3_discard yX3_discard ∈ zw := ⟨zwk_2 223 rfl rfl, zwk_2 224 rfl rfl, zwk_2 225 rfl rfl⟩
theorem zm_L_31 : Cond.methodLink RL 31 yX3_call ∈ zw ∧ Cond.instanceMethod yX3_call ∈ zw ∧ Cond.selects RX3 yX3_call yX3_call ∈ zw := ⟨zwk_3 4 rfl rfl, zwk_3 5 rfl rfl, zwk_3 6 rfl rfl⟩
theorem zm_L_34 : Cond.methodLink RL 34 yX3_claim ∈ zw ∧ Cond.instanceMethod yX3_claim ∈ zw ∧ Cond.selects RX3 yX3_claim yX3_claim ∈ zw := ⟨zwk_3 17 rfl rfl, zwk_3 18 rfl rfl, zwk_3 19 rfl rfl⟩
theorem zm_L_40 : Cond.methodLink RL 40 yX3_four ∈ zw ∧ Cond.instanceMethod yX3_four ∈ zw ∧ Cond.selects RX3 yX3_four yX3_four ∈ zw := ⟨zwk_3 54 rfl rfl, zwk_3 55 rfl rfl, zwk_3 56 rfl rfl⟩
theorem zm_L_43 : Cond.methodLink RL 43 yX3_pass ∈ zw ∧ Cond.instanceMethod yX3_pass ∈ zw ∧ Cond.selects RX3 yX3_pass yX3_pass ∈ zw := ⟨zwk_3 62 rfl rfl, zwk_3 63 rfl rfl, zwk_3 64 rfl rfl⟩
theorem zm_L_46 : Cond.methodLink RL 46 yX3_win ∈ zw ∧ Cond.instanceMethod yX3_win ∈ zw ∧ Cond.selects RX3 yX3_win yX3_win ∈ zw := ⟨zwk_3 69 rfl rfl, zwk_3 70 rfl rfl, zwk_3 71 rfl rfl⟩
theorem zm_L_49 : Cond.methodLink RL 49 yX3_has ∈ zw ∧ Cond.instanceMethod yX3_has ∈ zw ∧ Cond.selects RX3 yX3_has yX3_has ∈ zw := ⟨zwk_3 127 rfl rfl, zwk_3 128 rfl rfl, zwk_3 129 rfl rfl⟩
theorem zm_L_52 : Cond.methodLink RL 52 yX3_ofPlayer ∈ zw ∧ Cond.instanceMethod yX3_ofPlayer ∈ zw ∧ Cond.selects RX3 yX3_ofPlayer yX3_ofPlayer ∈ zw := ⟨zwk_3 134 rfl rfl, zwk_2 76 rfl rfl, zwk_2 77 rfl rfl⟩
theorem zm_L_55 : Cond.methodLink RL 55 yX3_ofSet ∈ zw ∧ Cond.instanceMethod yX3_ofSet ∈ zw ∧ Cond.selects RX3 yX3_ofSet yX3_ofSet ∈ zw := ⟨zwk_3 138 rfl rfl, zwk_3 139 rfl rfl, zwk_3 140 rfl rfl⟩
theorem zm_L_58 : Cond.methodLink RL 58 yX3_river ∈ zw ∧ Cond.instanceMethod yX3_river ∈ zw ∧ Cond.selects RX3 yX3_river yX3_river ∈ zw := ⟨zwk_3 146 rfl rfl, zwk_3 147 rfl rfl, zwk_3 148 rfl rfl⟩
theorem zm_L_61 : Cond.methodLink RL 61 yX3_waits ∈ zw ∧ Cond.instanceMethod yX3_waits ∈ zw ∧ Cond.selects RX3 yX3_waits yX3_waits ∈ zw := ⟨zwk_3 154 rfl rfl, zwk_3 155 rfl rfl, zwk_3 156 rfl rfl⟩
theorem zm_L_65 : Cond.methodLink RL 65 yX3_seen ∈ zw ∧ Cond.instanceMethod yX3_seen ∈ zw ∧ Cond.selects RX3 yX3_seen yX3_seen ∈ zw := ⟨zwk_3 161 rfl rfl, zwk_3 162 rfl rfl, zwk_3 163 rfl rfl⟩
theorem zm_L_68 : Cond.methodLink RL 68 yX3_hand ∈ zw ∧ Cond.instanceMethod yX3_hand ∈ zw ∧ Cond.selects RX3 yX3_hand yX3_hand ∈ zw := ⟨zwk_3 173 rfl rfl, zwk_3 174 rfl rfl, zwk_3 175 rfl rfl⟩
theorem zm_L_76 : Cond.methodLink RL 76 yX3_many ∈ zw ∧ Cond.instanceMethod yX3_many ∈ zw ∧ Cond.selects RX3 yX3_many yX3_many ∈ zw := ⟨zwk_4 224 rfl rfl, zwk_1 232 rfl rfl, zwk_1 233 rfl rfl⟩
theorem zm_L_79 : Cond.methodLink RL 79 yX3_lead ∈ zw ∧ Cond.instanceMethod yX3_lead ∈ zw ∧ Cond.selects RX3 yX3_lead yX3_lead ∈ zw := ⟨zwk_4 228 rfl rfl, zwk_4 229 rfl rfl, zwk_4 230 rfl rfl⟩
theorem zm_L_87 : Cond.methodLink RL 87 yX3_worth ∈ zw ∧ Cond.instanceMethod yX3_worth ∈ zw ∧ Cond.selects RX3 yX3_worth yX3_worth ∈ zw := ⟨zwk_4 236 rfl rfl, zwk_4 237 rfl rfl, zwk_4 238 rfl rfl⟩
theorem zm_L_90 : Cond.methodLink RL 90 yX3_isSafe ∈ zw ∧ Cond.instanceMethod yX3_isSafe ∈ zw ∧ Cond.selects RX3 yX3_isSafe yX3_isSafe ∈ zw := ⟨zwk_5 3 rfl rfl, zwk_5 4 rfl rfl, zwk_5 5 rfl rfl⟩
theorem zm_L_94 : Cond.methodLink RL 94 yX3_outs ∈ zw ∧ Cond.instanceMethod yX3_outs ∈ zw ∧ Cond.selects RX3 yX3_outs yX3_outs ∈ zw := ⟨zwk_5 10 rfl rfl, zwk_5 11 rfl rfl, zwk_5 12 rfl rfl⟩
theorem zm_L_97 : Cond.methodLink RL 97 yX3_init ∈ zw ∧ Cond.instanceMethod yX3_init ∈ zw ∧ yX3_init.name = "<init>" := ⟨zwk_1 35 rfl rfl, zwk_1 36 rfl rfl, rfl⟩
theorem zm_L_100 : Cond.methodLink RL 100 yX7_init ∈ zw ∧ Cond.instanceMethod yX7_init ∈ zw ∧ yX7_init.name = "<init>" := ⟨zwk_5 17 rfl rfl, zwk_5 18 rfl rfl, rfl⟩
theorem zm_L_101 : Cond.methodLinkNest RL 101 yX4_init "WindsparlourLaw" ∈ zsp ∧ Cond.instanceMethod yX4_init ∈ zw ∧ yX4_init.name = "<init>" := ⟨zsk_2 138 rfl rfl, zwk_2 139 rfl rfl, rfl⟩
theorem zm_L_102 : Cond.methodLink RL 102 yL_lay ∈ zw ∧ Cond.static yL_lay ∈ zw := ⟨zwk_2 152 rfl rfl, zwk_2 153 rfl rfl⟩
theorem zm_L_107 : Cond.methodLink RL 107 yX7_lay ∈ zw ∧ Cond.instanceMethod yX7_lay ∈ zw ∧ Cond.selects RX7 yX7_lay yX7_lay ∈ zw := ⟨zwk_5 135 rfl rfl, zwk_5 136 rfl rfl, zwk_5 137 rfl rfl⟩
theorem zm_L_108 : Cond.methodLink RL 108 yL_draw ∈ zw ∧ Cond.static yL_draw ∈ zw := ⟨zwk_2 201 rfl rfl, zwk_2 202 rfl rfl⟩
theorem zm_L_111 : Cond.methodLink RL 111 yX7_draw ∈ zw ∧ Cond.instanceMethod yX7_draw ∈ zw ∧ Cond.selects RX7 yX7_draw yX7_draw ∈ zw := ⟨zwk_5 161 rfl rfl, zwk_5 162 rfl rfl, zwk_5 163 rfl rfl⟩
theorem zm_L_112 : Cond.methodLink RL 112 yL_discard ∈ zw ∧ Cond.static yL_discard ∈ zw := ⟨zwk_2 220 rfl rfl, zwk_2 221 rfl rfl⟩
theorem zm_L_115 : Cond.methodLink RL 115 yX7_discard ∈ zw ∧ Cond.instanceMethod yX7_discard ∈ zw ∧ Cond.selects RX7 yX7_discard yX7_discard ∈ zw := ⟨zwk_5 211 rfl rfl, zwk_5 212 rfl rfl, zwk_5 213 rfl rfl⟩
theorem zm_L_116 : Cond.methodLink RL 116 yL_call ∈ zw ∧ Cond.static yL_call ∈ zw := ⟨zwk_3 1 rfl rfl, zwk_3 2 rfl rfl⟩
theorem zm_L_118 : Cond.methodLink RL 118 yX7_call ∈ zw ∧ Cond.instanceMethod yX7_call ∈ zw ∧ Cond.selects RX7 yX7_call yX7_call ∈ zw := ⟨zwk_6 51 rfl rfl, zwk_6 52 rfl rfl, zwk_6 53 rfl rfl⟩
theorem zm_L_119 : Cond.methodLink RL 119 yL_claim ∈ zw ∧ Cond.static yL_claim ∈ zw := ⟨zwk_3 13 rfl rfl, zwk_3 14 rfl rfl⟩
theorem zm_L_122 : Cond.methodLink RL 122 yX7_claim ∈ zw ∧ Cond.instanceMethod yX7_claim ∈ zw ∧ Cond.selects RX7 yX7_claim yX7_claim ∈ zw := ⟨zwk_6 114 rfl rfl, zwk_6 115 rfl rfl, zwk_6 116 rfl rfl⟩
theorem zm_L_123 : Cond.methodLink RL 123 yL_four ∈ zw ∧ Cond.static yL_four ∈ zw := ⟨zwk_3 51 rfl rfl, zwk_3 52 rfl rfl⟩
theorem zm_L_125 : Cond.methodLink RL 125 yX7_four ∈ zw ∧ Cond.instanceMethod yX7_four ∈ zw ∧ Cond.selects RX7 yX7_four yX7_four ∈ zw := ⟨zwk_6 165 rfl rfl, zwk_6 166 rfl rfl, zwk_6 167 rfl rfl⟩
theorem zm_L_126 : Cond.methodLink RL 126 yL_pass ∈ zw ∧ Cond.static yL_pass ∈ zw := ⟨zwk_3 59 rfl rfl, zwk_3 60 rfl rfl⟩
theorem zm_L_128 : Cond.methodLink RL 128 yX7_pass ∈ zw ∧ Cond.instanceMethod yX7_pass ∈ zw ∧ Cond.selects RX7 yX7_pass yX7_pass ∈ zw := ⟨zwk_6 169 rfl rfl, zwk_6 170 rfl rfl, zwk_6 171 rfl rfl⟩
theorem zm_L_129 : Cond.methodLink RL 129 yL_win ∈ zw ∧ Cond.static yL_win ∈ zw := ⟨zwk_3 66 rfl rfl, zwk_3 67 rfl rfl⟩
theorem zm_L_131 : Cond.methodLink RL 131 yX7_win ∈ zw ∧ Cond.instanceMethod yX7_win ∈ zw ∧ Cond.selects RX7 yX7_win yX7_win ∈ zw := ⟨zwk_6 173 rfl rfl, zwk_6 174 rfl rfl, zwk_6 175 rfl rfl⟩
theorem zm_L_132 : Cond.methodLink RL 132 yL_has ∈ zw ∧ Cond.static yL_has ∈ zw := ⟨zwk_3 124 rfl rfl, zwk_3 125 rfl rfl⟩
theorem zm_L_134 : Cond.methodLink RL 134 yX7_has ∈ zw ∧ Cond.instanceMethod yX7_has ∈ zw ∧ Cond.selects RX7 yX7_has yX7_has ∈ zw := ⟨zwk_6 229 rfl rfl, zwk_6 230 rfl rfl, zwk_6 231 rfl rfl⟩
theorem zm_L_135 : Cond.methodLink RL 135 yL_ofPlayer ∈ zw ∧ Cond.static yL_ofPlayer ∈ zw := ⟨zwk_3 131 rfl rfl, zwk_3 132 rfl rfl⟩
theorem zm_L_137 : Cond.methodLink RL 137 yX7_ofPlayer ∈ zw ∧ Cond.instanceMethod yX7_ofPlayer ∈ zw ∧ Cond.selects RX7 yX7_ofPlayer yX7_ofPlayer ∈ zw := ⟨zwk_6 233 rfl rfl, zwk_6 234 rfl rfl, zwk_6 235 rfl rfl⟩
theorem zm_L_138 : Cond.methodLink RL 138 yL_ofSet ∈ zw ∧ Cond.static yL_ofSet ∈ zw := ⟨zwk_3 135 rfl rfl, zwk_3 136 rfl rfl⟩
theorem zm_L_140 : Cond.methodLink RL 140 yX7_ofSet ∈ zw ∧ Cond.instanceMethod yX7_ofSet ∈ zw ∧ Cond.selects RX7 yX7_ofSet yX7_ofSet ∈ zw := ⟨zwk_7 13 rfl rfl, zwk_7 14 rfl rfl, zwk_7 15 rfl rfl⟩
theorem zm_L_141 : Cond.methodLink RL 141 yL_river ∈ zw ∧ Cond.static yL_river ∈ zw := ⟨zwk_3 143 rfl rfl, zwk_3 144 rfl rfl⟩
theorem zm_L_143 : Cond.methodLink RL 143 yX7_river ∈ zw ∧ Cond.instanceMethod yX7_river ∈ zw ∧ Cond.selects RX7 yX7_river yX7_river ∈ zw := ⟨zwk_7 28 rfl rfl, zwk_7 29 rfl rfl, zwk_7 30 rfl rfl⟩
theorem zm_L_144 : Cond.methodLink RL 144 yL_waits ∈ zw ∧ Cond.static yL_waits ∈ zw := ⟨zwk_3 151 rfl rfl, zwk_3 152 rfl rfl⟩
theorem zm_L_146 : Cond.methodLink RL 146 yX7_waits ∈ zw ∧ Cond.instanceMethod yX7_waits ∈ zw ∧ Cond.selects RX7 yX7_waits yX7_waits ∈ zw := ⟨zwk_7 45 rfl rfl, zwk_7 46 rfl rfl, zwk_7 47 rfl rfl⟩
theorem zm_L_147 : Cond.methodLink RL 147 yL_seen ∈ zw ∧ Cond.static yL_seen ∈ zw := ⟨zwk_3 158 rfl rfl, zwk_3 159 rfl rfl⟩
theorem zm_L_149 : Cond.methodLink RL 149 yX7_seen ∈ zw ∧ Cond.instanceMethod yX7_seen ∈ zw ∧ Cond.selects RX7 yX7_seen yX7_seen ∈ zw := ⟨zwk_7 37 rfl rfl, zwk_7 38 rfl rfl, zwk_7 39 rfl rfl⟩
theorem zm_L_150 : Cond.methodLink RL 150 yL_hand ∈ zw ∧ Cond.static yL_hand ∈ zw := ⟨zwk_3 170 rfl rfl, zwk_3 171 rfl rfl⟩
theorem zm_L_152 : Cond.methodLink RL 152 yX7_hand ∈ zw ∧ Cond.instanceMethod yX7_hand ∈ zw ∧ Cond.selects RX7 yX7_hand yX7_hand ∈ zw := ⟨zwk_7 49 rfl rfl, zwk_7 50 rfl rfl, zwk_7 51 rfl rfl⟩
theorem zm_L_153 : Cond.methodLink RL 153 yL_many ∈ zw ∧ Cond.static yL_many ∈ zw := ⟨zwk_4 221 rfl rfl, zwk_4 222 rfl rfl⟩
theorem zm_L_155 : Cond.methodLink RL 155 yX7_many ∈ zw ∧ Cond.instanceMethod yX7_many ∈ zw ∧ Cond.selects RX7 yX7_many yX7_many ∈ zw := ⟨zwk_7 71 rfl rfl, zwk_7 72 rfl rfl, zwk_7 73 rfl rfl⟩
theorem zm_L_156 : Cond.methodLink RL 156 yL_lead ∈ zw ∧ Cond.static yL_lead ∈ zw := ⟨zwk_4 225 rfl rfl, zwk_4 226 rfl rfl⟩
theorem zm_L_158 : Cond.methodLink RL 158 yX7_lead ∈ zw ∧ Cond.instanceMethod yX7_lead ∈ zw ∧ Cond.selects RX7 yX7_lead yX7_lead ∈ zw := ⟨zwk_7 79 rfl rfl, zwk_7 80 rfl rfl, zwk_7 81 rfl rfl⟩
theorem zm_L_159 : Cond.methodLink RL 159 yL_worth ∈ zw ∧ Cond.static yL_worth ∈ zw := ⟨zwk_4 233 rfl rfl, zwk_4 234 rfl rfl⟩
theorem zm_L_161 : Cond.methodLink RL 161 yX7_worth ∈ zw ∧ Cond.instanceMethod yX7_worth ∈ zw ∧ Cond.selects RX7 yX7_worth yX7_worth ∈ zw := ⟨zwk_7 88 rfl rfl, zwk_7 89 rfl rfl, zwk_7 90 rfl rfl⟩
theorem zm_L_162 : Cond.methodLink RL 162 yX7_thrown ∈ zw ∧ Cond.instanceMethod yX7_thrown ∈ zw ∧ Cond.selects RX7 yX7_thrown yX7_thrown ∈ zw := ⟨zwk_5 131 rfl rfl, zwk_5 132 rfl rfl, zwk_5 133 rfl rfl⟩
theorem zm_L_165 : Cond.methodLink RL 165 yX3_best ∈ zw ∧ Cond.instanceMethod yX3_best ∈ zw ∧ Cond.selects RX3 yX3_best yX3_best ∈ zw := ⟨zwk_1 168 rfl rfl, zwk_1 169 rfl rfl, zwk_1 170 rfl rfl⟩
theorem zm_L_168 : Cond.methodLink RL 168 yX7_best ∈ zw ∧ Cond.instanceMethod yX7_best ∈ zw ∧ Cond.selects RX7 yX7_best yX7_best ∈ zw := ⟨zwk_7 92 rfl rfl, zwk_7 93 rfl rfl, zwk_7 94 rfl rfl⟩
theorem zm_L_169 : Cond.methodLink RL 169 yL_isSafe ∈ zw ∧ Cond.static yL_isSafe ∈ zw := ⟨zwk_5 0 rfl rfl, zwk_5 1 rfl rfl⟩
theorem zm_L_171 : Cond.methodLink RL 171 yX7_isSafe ∈ zw ∧ Cond.instanceMethod yX7_isSafe ∈ zw ∧ Cond.selects RX7 yX7_isSafe yX7_isSafe ∈ zw := ⟨zwk_7 105 rfl rfl, zwk_7 106 rfl rfl, zwk_7 107 rfl rfl⟩
theorem zm_L_172 : Cond.methodLink RL 172 yL_outs ∈ zw ∧ Cond.static yL_outs ∈ zw := ⟨zwk_5 7 rfl rfl, zwk_5 8 rfl rfl⟩
theorem zm_L_174 : Cond.methodLink RL 174 yX7_outs ∈ zw ∧ Cond.instanceMethod yX7_outs ∈ zw ∧ Cond.selects RX7 yX7_outs yX7_outs ∈ zw := ⟨zwk_7 109 rfl rfl, zwk_7 110 rfl rfl, zwk_7 111 rfl rfl⟩
theorem zm_L_175 : Cond.methodLink RL 175 yX3_digest ∈ zw ∧ Cond.instanceMethod yX3_digest ∈ zw ∧ Cond.selects RX3 yX3_digest yX3_digest ∈ zw := ⟨zwk_1 225 rfl rfl, zwk_1 226 rfl rfl, zwk_1 227 rfl rfl⟩
theorem zm_L_179 : Cond.methodLink RL 179 yX7_digest ∈ zw ∧ Cond.instanceMethod yX7_digest ∈ zw ∧ Cond.selects RX7 yX7_digest yX7_digest ∈ zw := ⟨zwk_7 121 rfl rfl, zwk_7 122 rfl rfl, zwk_7 123 rfl rfl⟩
theorem zm_X7_3 : Cond.methodLink RX7 3 yX7_isIn ∈ zw ∧ Cond.static yX7_isIn ∈ zw := ⟨zwk_5 139 rfl rfl, zwk_5 140 rfl rfl⟩
theorem zm_X7_7 : Cond.methodLink RX7 7 yX7_with ∈ zw ∧ Cond.static yX7_with ∈ zw := ⟨zwk_7 9 rfl rfl, zwk_7 10 rfl rfl⟩
theorem zm_X7_11 : Cond.methodLink RX7 11 yJ9_min_7cf53 ∈ zw ∧ Cond.static yJ9_min_7cf53 ∈ zw := ⟨zwk_6 228 rfl rfl, zwk_1 219 rfl rfl⟩
theorem zm_X7_17 : Cond.methodLink RX7 17 yX7_isRun ∈ zw ∧ Cond.static yX7_isRun ∈ zw := ⟨zwk_5 207 rfl rfl, zwk_5 208 rfl rfl⟩
theorem zm_X7_21 : Cond.methodLink RX7 21 yX7_far ∈ zw ∧ Cond.static yX7_far ∈ zw := ⟨zwk_7 12 rfl rfl, zwk_7 7 rfl rfl⟩
theorem zm_X7_25 : Cond.methodLink RX7 25 yX7_areSets ∈ zw ∧ Cond.static yX7_areSets ∈ zw := ⟨zwk_5 204 rfl rfl, zwk_5 205 rfl rfl⟩
theorem zm_X7_37 : Cond.methodLinkNest RX7 37 yX6_init "WindsparlourModel" ∈ zsp ∧ Cond.instanceMethod yX6_init ∈ zw ∧ yX6_init.name = "<init>" := ⟨zsk_5 24 rfl rfl, zwk_5 25 rfl rfl, rfl⟩
theorem zm_X7_68 : Cond.methodLink RX7 68 yX7_refuse ∈ zw ∧ Cond.instanceMethod yX7_refuse ∈ zw ∧ Cond.selects RX7 yX7_refuse yX7_refuse ∈ zw := ⟨zwk_5 146 rfl rfl, zwk_5 148 rfl rfl, zw_at 33 (by decide +kernel) rfl⟩
theorem zm_X7_78 : Cond.methodLink RX7 78 yX7_left ∈ zw ∧ Cond.instanceMethod yX7_left ∈ zw ∧ Cond.selects RX7 yX7_left yX7_left ∈ zw := ⟨zwk_5 169 rfl rfl, zwk_5 171 rfl rfl, zw_at 35 (by decide +kernel) rfl⟩
theorem zm_X7_85 : Cond.methodLink RX7 85 yX7_start ∈ zw ∧ Cond.instanceMethod yX7_start ∈ zw ∧ Cond.selects RX7 yX7_start yX7_start ∈ zw := ⟨zwk_5 142 rfl rfl, zwk_5 144 rfl rfl, zw_at 32 (by decide +kernel) rfl⟩
theorem zm_X7_91 : Cond.methodLink RX7 91 yX6_begin ∈ zw ∧ Cond.instanceMethod yX6_begin ∈ zw ∧ Cond.selects RX6 yX6_begin yX6_begin ∈ zw := ⟨zwk_5 150 rfl rfl, zwk_5 151 rfl rfl, zwk_5 152 rfl rfl⟩
theorem zm_X7_97 : Cond.methodLink RX7 97 yX7_lucky ∈ zw ∧ Cond.static yX7_lucky ∈ zw := ⟨zwk_5 158 rfl rfl, zwk_5 159 rfl rfl⟩
theorem zm_X7_104 : Cond.methodLink RX7 104 yX7_its ∈ zw ∧ Cond.instanceMethod yX7_its ∈ zw ∧ Cond.selects RX7 yX7_its yX7_its ∈ zw := ⟨zwk_5 177 rfl rfl, zwk_5 179 rfl rfl, zw_at 37 (by decide +kernel) rfl⟩
theorem zm_X7_108 : Cond.methodLink RX7 108 yX6_isReady ∈ zw ∧ Cond.instanceMethod yX6_isReady ∈ zw ∧ Cond.selects RX6 yX6_isReady yX6_isReady ∈ zw := ⟨zwk_5 185 rfl rfl, zwk_5 186 rfl rfl, zwk_5 187 rfl rfl⟩
theorem zm_X7_115 : Cond.methodLink RX7 115 yX7_canDraw ∈ zw ∧ Cond.instanceMethod yX7_canDraw ∈ zw ∧ Cond.selects RX7 yX7_canDraw yX7_canDraw ∈ zw := ⟨zwk_5 165 rfl rfl, zwk_5 167 rfl rfl, zw_at 34 (by decide +kernel) rfl⟩
theorem zm_X7_118 : Cond.methodLink RX7 118 yX7_take ∈ zw ∧ Cond.instanceMethod yX7_take ∈ zw ∧ Cond.selects RX7 yX7_take yX7_take ∈ zw := ⟨zwk_5 173 rfl rfl, zwk_5 175 rfl rfl, zw_at 36 (by decide +kernel) rfl⟩
theorem zm_X7_121 : Cond.methodLink RX7 121 yX7_settle ∈ zw ∧ Cond.instanceMethod yX7_settle ∈ zw ∧ Cond.selects RX7 yX7_settle yX7_settle ∈ zw := ⟨zwk_5 181 rfl rfl, zwk_5 183 rfl rfl, zw_at 38 (by decide +kernel) rfl⟩
theorem zm_X7_128 : Cond.methodLink RX7 128 yJ6_valueOf_2dffe ∈ zw ∧ Cond.static yJ6_valueOf_2dffe ∈ zw := ⟨zwk_5 222 rfl rfl, zwk_5 223 rfl rfl⟩
theorem zm_X7_134 : Cond.methodLink RX7 134 yJx4a65c_add_9ea2d ∈ zw ∧ Cond.instanceMethod yJx4a65c_add_9ea2d ∈ zw ∧ Cond.selects RJx4a65c yJx4a65c_add_9ea2d yJx4a65c_add_9ea2d ∈ zw := ⟨zwk_6 2 rfl rfl, zwk_6 3 rfl rfl, zwk_6 4 rfl rfl⟩
theorem zm_X7_144 : Cond.methodLink RX7 144 yJx4a65c_size_8abf5 ∈ zw ∧ Cond.instanceMethod yJx4a65c_size_8abf5 ∈ zw ∧ Cond.selects RJx4a65c yJx4a65c_size_8abf5 yJx4a65c_size_8abf5 ∈ zw := ⟨zwk_6 50 rfl rfl, zwk_5 198 rfl rfl, zwk_5 199 rfl rfl⟩
theorem zm_X7_147 : Cond.methodLink RX7 147 yX7_isKind ∈ zw ∧ Cond.static yX7_isKind ∈ zw := ⟨zwk_5 215 rfl rfl, zwk_5 216 rfl rfl⟩
theorem zm_X7_155 : Cond.methodLink RX7 155 yX7_away ∈ zw ∧ Cond.instanceMethod yX7_away ∈ zw ∧ Cond.selects RX7 yX7_away yX7_away ∈ zw := ⟨zwk_5 218 rfl rfl, zwk_5 220 rfl rfl, zw_at 39 (by decide +kernel) rfl⟩
theorem zm_X7_158 : Cond.methodLink RX7 158 yX6_open ∈ zw ∧ Cond.instanceMethod yX6_open ∈ zw ∧ Cond.selects RX6 yX6_open yX6_open ∈ zw := ⟨zwk_6 59 rfl rfl, zwk_6 60 rfl rfl, zwk_6 61 rfl rfl⟩
theorem zm_X7_161 : Cond.methodLink RX7 161 yX7_mayCall ∈ zw ∧ Cond.instanceMethod yX7_mayCall ∈ zw ∧ Cond.selects RX7 yX7_mayCall yX7_mayCall ∈ zw := ⟨zwk_6 55 rfl rfl, zwk_6 57 rfl rfl, zw_at 43 (by decide +kernel) rfl⟩
theorem zm_X7_167 : Cond.methodLink RX7 167 yX7_mayFour ∈ zw ∧ Cond.instanceMethod yX7_mayFour ∈ zw ∧ Cond.selects RX7 yX7_mayFour yX7_mayFour ∈ zw := ⟨zwk_6 125 rfl rfl, zwk_6 127 rfl rfl, zw_at 45 (by decide +kernel) rfl⟩
theorem zm_X7_170 : Cond.methodLink RX7 170 yJx4a65c_remove_915e3 ∈ zw ∧ Cond.instanceMethod yJx4a65c_remove_915e3 ∈ zw ∧ Cond.selects RJx4a65c yJx4a65c_remove_915e3 yJx4a65c_remove_915e3 ∈ zw := ⟨zwk_6 133 rfl rfl, zwk_6 134 rfl rfl, zwk_6 135 rfl rfl⟩
theorem zm_X7_174 : Cond.methodLink RX7 174 yX7_isNoPlayer ∈ zw ∧ Cond.static yX7_isNoPlayer ∈ zw := ⟨zwk_6 118 rfl rfl, zwk_6 119 rfl rfl⟩
theorem zm_X7_177 : Cond.methodLink RX7 177 yX7_mayClaim ∈ zw ∧ Cond.instanceMethod yX7_mayClaim ∈ zw ∧ Cond.selects RX7 yX7_mayClaim yX7_mayClaim ∈ zw := ⟨zwk_6 121 rfl rfl, zwk_6 123 rfl rfl, zw_at 44 (by decide +kernel) rfl⟩
theorem zm_X7_180 : Cond.methodLink RX7 180 yX7_leave ∈ zw ∧ Cond.instanceMethod yX7_leave ∈ zw ∧ Cond.selects RX7 yX7_leave yX7_leave ∈ zw := ⟨zwk_6 129 rfl rfl, zwk_6 131 rfl rfl, zw_at 46 (by decide +kernel) rfl⟩
theorem zm_X7_188 : Cond.methodLink RX7 188 yX5_init ∈ zw ∧ Cond.instanceMethod yX5_init ∈ zw ∧ yX5_init.name = "<init>" := ⟨zwk_6 148 rfl rfl, zwk_6 149 rfl rfl, rfl⟩
theorem zm_X7_191 : Cond.methodLink RX7 191 yX7_drawLast ∈ zw ∧ Cond.instanceMethod yX7_drawLast ∈ zw ∧ Cond.selects RX7 yX7_drawLast yX7_drawLast ∈ zw := ⟨zwk_6 161 rfl rfl, zwk_6 163 rfl rfl, zw_at 48 (by decide +kernel) rfl⟩
theorem zm_X7_194 : Cond.methodLink RX7 194 yJ9_floorMod_7cf53 ∈ zw ∧ Cond.static yJ9_floorMod_7cf53 ∈ zw := ⟨zwk_6 204 rfl rfl, zwk_6 205 rfl rfl⟩
theorem zm_X7_197 : Cond.methodLink RX7 197 yJx4a65c_iterator_32c93 ∈ zw ∧ Cond.instanceMethod yJx4a65c_iterator_32c93 ∈ zw ∧ Cond.selects RJx4a65c yJx4a65c_iterator_32c93 yJx4a65c_iterator_32c93 ∈ zw := ⟨zwk_6 191 rfl rfl, zwk_6 64 rfl rfl, zwk_6 65 rfl rfl⟩
theorem zm_X7_201 : (Cond.methodLink RX7 201 ⟨"java/util/Iterator", "hasNext", "()Z"⟩ ∈ zw ∧ Cond.selects RJx35411 ⟨"java/util/Iterator", "hasNext", "()Z"⟩ yJx35411_hasNext_aae02 ∈ zw ∧ Cond.instanceMethod yJx35411_hasNext_aae02 ∈ zw) ∧ ((RJx35411, ⟨"java/util/Iterator", "hasNext", "()Z"⟩, yJx35411_hasNext_aae02) : String × MethodName × MethodName) ∈ zfw ∧ (parseMethodDescriptor (⟨"java/util/Iterator", "hasNext", "()Z"⟩ : MethodName).desc).map (fun d => d.parameters.length) = some 0 := ⟨⟨zwk_6 193 rfl rfl, zwk_6 91 rfl rfl, zwk_6 93 rfl rfl⟩, by decide +kernel, by decide +kernel⟩
theorem zm_X7_206 : (Cond.methodLink RX7 206 ⟨"java/util/Iterator", "next", "()Ljava/lang/Object;"⟩ ∈ zw ∧ Cond.selects RJx35411 ⟨"java/util/Iterator", "next", "()Ljava/lang/Object;"⟩ yJx35411_next_0502b ∈ zw ∧ Cond.instanceMethod yJx35411_next_0502b ∈ zw) ∧ ((RJx35411, ⟨"java/util/Iterator", "next", "()Ljava/lang/Object;"⟩, yJx35411_next_0502b) : String × MethodName × MethodName) ∈ zfw ∧ (parseMethodDescriptor (⟨"java/util/Iterator", "next", "()Ljava/lang/Object;"⟩ : MethodName).desc).map (fun d => d.parameters.length) = some 0 := ⟨⟨zwk_6 195 rfl rfl, zwk_6 100 rfl rfl, zwk_6 102 rfl rfl⟩, by decide +kernel, by decide +kernel⟩
theorem zm_X7_210 : Cond.methodLink RX7 210 yX5_of ∈ zw ∧ Cond.instanceMethod yX5_of ∈ zw ∧ Cond.selects RX5 yX5_of yX5_of ∈ zw := ⟨zwk_6 216 rfl rfl, zwk_6 217 rfl rfl, zwk_6 218 rfl rfl⟩
theorem zm_X7_213 : Cond.methodLink RX7 213 yX7_isEnd ∈ zw ∧ Cond.static yX7_isEnd ∈ zw := ⟨zwk_6 221 rfl rfl, zwk_6 222 rfl rfl⟩
theorem zm_X7_222 : Cond.methodLink RX7 222 yX7_areAll ∈ zw ∧ Cond.static yX7_areAll ∈ zw := ⟨zwk_6 225 rfl rfl, zwk_6 226 rfl rfl⟩
theorem zm_X7_226 : Cond.methodLink RX7 226 yX7_wind ∈ zw ∧ Cond.instanceMethod yX7_wind ∈ zw ∧ Cond.selects RX7 yX7_wind yX7_wind ∈ zw := ⟨zwk_6 200 rfl rfl, zwk_6 202 rfl rfl, zw_at 53 (by decide +kernel) rfl⟩
theorem zm_X7_229 : Cond.methodLink RX7 229 yX7_valueOfThree ∈ zw ∧ Cond.instanceMethod yX7_valueOfThree ∈ zw ∧ Cond.selects RX7 yX7_valueOfThree yX7_valueOfThree ∈ zw := ⟨zwk_6 196 rfl rfl, zwk_6 198 rfl rfl, zw_at 52 (by decide +kernel) rfl⟩
theorem zm_X7_232 : Cond.methodLink RX7 232 yX7_valueOfSets ∈ zw ∧ Cond.instanceMethod yX7_valueOfSets ∈ zw ∧ Cond.selects RX7 yX7_valueOfSets yX7_valueOfSets ∈ zw := ⟨zwk_6 207 rfl rfl, zwk_6 209 rfl rfl, zw_at 54 (by decide +kernel) rfl⟩
theorem zm_X7_235 : Cond.methodLink RX7 235 yJ9_max_7cf53 ∈ zw ∧ Cond.static yJ9_max_7cf53 ∈ zw := ⟨zwk_6 211 rfl rfl, zwk_1 216 rfl rfl⟩
theorem zm_X7_244 : Cond.methodLink RX7 244 yX7_valueOfTiles ∈ zw ∧ Cond.instanceMethod yX7_valueOfTiles ∈ zw ∧ Cond.selects RX7 yX7_valueOfTiles yX7_valueOfTiles ∈ zw := ⟨zwk_6 212 rfl rfl, zwk_6 214 rfl rfl, zw_at 55 (by decide +kernel) rfl⟩
theorem zm_X7_248 : Cond.methodLink RX7 248 yX6_waits ∈ zw ∧ Cond.instanceMethod yX6_waits ∈ zw ∧ Cond.selects RX6 yX6_waits yX6_waits ∈ zw := ⟨zwk_6 182 rfl rfl, zwk_5 190 rfl rfl, zwk_5 191 rfl rfl⟩
theorem zm_X7_252 : Cond.methodLink RX7 252 yX7_isComplete ∈ zw ∧ Cond.static yX7_isComplete ∈ zw := ⟨zwk_6 181 rfl rfl, zwk_5 202 rfl rfl⟩
theorem zm_X7_255 : Cond.methodLink RX7 255 yX7_isBarred ∈ zw ∧ Cond.instanceMethod yX7_isBarred ∈ zw ∧ Cond.selects RX7 yX7_isBarred yX7_isBarred ∈ zw := ⟨zwk_6 183 rfl rfl, zwk_6 185 rfl rfl, zw_at 50 (by decide +kernel) rfl⟩
theorem zm_X7_259 : Cond.methodLink RX7 259 yX7_mayWin ∈ zw ∧ Cond.instanceMethod yX7_mayWin ∈ zw ∧ Cond.selects RX7 yX7_mayWin yX7_mayWin ∈ zw := ⟨zwk_6 177 rfl rfl, zwk_6 179 rfl rfl, zw_at 49 (by decide +kernel) rfl⟩
theorem zm_X7_262 : Cond.methodLink RX7 262 yX7_value ∈ zw ∧ Cond.instanceMethod yX7_value ∈ zw ∧ Cond.selects RX7 yX7_value yX7_value ∈ zw := ⟨zwk_6 187 rfl rfl, zwk_6 189 rfl rfl, zw_at 51 (by decide +kernel) rfl⟩
theorem zm_X7_269 : Cond.methodLink RX7 269 yX6_tiles ∈ zw ∧ Cond.instanceMethod yX6_tiles ∈ zw ∧ Cond.selects RX6 yX6_tiles yX6_tiles ∈ zw := ⟨zwk_7 1 rfl rfl, zwk_5 194 rfl rfl, zwk_5 195 rfl rfl⟩
theorem zm_X7_272 : Cond.methodLink RX7 272 yX6_far ∈ zw ∧ Cond.instanceMethod yX6_far ∈ zw ∧ Cond.selects RX6 yX6_far yX6_far ∈ zw := ⟨zwk_7 2 rfl rfl, zwk_7 3 rfl rfl, zwk_7 4 rfl rfl⟩
theorem zm_X7_274 : Cond.methodLink RX7 274 yX7_ofPlayerNow ∈ zw ∧ Cond.instanceMethod yX7_ofPlayerNow ∈ zw ∧ Cond.selects RX7 yX7_ofPlayerNow yX7_ofPlayerNow ∈ zw := ⟨zwk_6 237 rfl rfl, zwk_6 239 rfl rfl, zw_at 56 (by decide +kernel) rfl⟩
theorem zm_X7_277 : Cond.methodLink RX7 277 yJx4a65c_get_915e3 ∈ zw ∧ Cond.instanceMethod yJx4a65c_get_915e3 ∈ zw ∧ Cond.selects RJx4a65c yJx4a65c_get_915e3 yJx4a65c_get_915e3 ∈ zw := ⟨zwk_7 17 rfl rfl, zwk_7 18 rfl rfl, zwk_7 19 rfl rfl⟩
theorem zm_X7_280 : Cond.methodLink RX7 280 yX7_ofSetNow ∈ zw ∧ Cond.static yX7_ofSetNow ∈ zw := ⟨zwk_7 25 rfl rfl, zwk_7 26 rfl rfl⟩
theorem zm_X7_284 : Cond.methodLink RX7 284 yJ6_intValue_8abf5 ∈ zw ∧ Cond.instanceMethod yJ6_intValue_8abf5 ∈ zw ∧ Cond.selects RJ6 yJ6_intValue_8abf5 yJ6_intValue_8abf5 ∈ zw := ⟨zwk_7 33 rfl rfl, zwk_7 34 rfl rfl, zwk_7 35 rfl rfl⟩
theorem zm_X7_287 : Cond.methodLink RX7 287 yX7_seenNow ∈ zw ∧ Cond.instanceMethod yX7_seenNow ∈ zw ∧ Cond.selects RX7 yX7_seenNow yX7_seenNow ∈ zw := ⟨zwk_7 41 rfl rfl, zwk_7 43 rfl rfl, zw_at 57 (by decide +kernel) rfl⟩
theorem zm_X7_294 : Cond.methodLink RX7 294 yJ4_init_da8c8 ∈ zw ∧ Cond.instanceMethod yJ4_init_da8c8 ∈ zw ∧ yJ4_init_da8c8.name = "<init>" := ⟨zwk_7 55 rfl rfl, zwk_3 180 rfl rfl, rfl⟩
theorem zm_X7_297 : Cond.methodLink RX7 297 yJ0_charAt_5068e ∈ zw ∧ Cond.instanceMethod yJ0_charAt_5068e ∈ zw ∧ Cond.selects RJ0 yJ0_charAt_5068e yJ0_charAt_5068e ∈ zw := ⟨zwk_7 57 rfl rfl, zwk_4 117 rfl rfl, zwk_4 118 rfl rfl⟩
theorem zm_X7_303 : Cond.methodLink RX7 303 yJ4_append_cf468 ∈ zw ∧ Cond.instanceMethod yJ4_append_cf468 ∈ zw ∧ Cond.selects RJ4 yJ4_append_cf468 yJ4_append_cf468 ∈ zw := ⟨zwk_7 58 rfl rfl, zwk_4 63 rfl rfl, zwk_4 64 rfl rfl⟩
theorem zm_X7_307 : Cond.methodLink RX7 307 yJ4_length_8abf5 ∈ zw ∧ Cond.instanceMethod yJ4_length_8abf5 ∈ zw ∧ Cond.selects RJ4 yJ4_length_8abf5 yJ4_length_8abf5 ∈ zw := ⟨zwk_7 59 rfl rfl, zwk_3 212 rfl rfl, zwk_3 213 rfl rfl⟩
theorem zm_X7_310 : Cond.methodLink RX7 310 yJ4_charAt_5068e ∈ zw ∧ Cond.instanceMethod yJ4_charAt_5068e ∈ zw ∧ Cond.selects RJ4 yJ4_charAt_5068e yJ4_charAt_5068e ∈ zw := ⟨zwk_7 60 rfl rfl, zwk_7 61 rfl rfl, zwk_7 62 rfl rfl⟩
theorem zm_X7_311 : Cond.methodLink RX7 311 yJ4_toString_0e30d ∈ zw ∧ Cond.instanceMethod yJ4_toString_0e30d ∈ zw ∧ Cond.selects RJ4 yJ4_toString_0e30d yJ4_toString_0e30d ∈ zw := ⟨zwk_7 70 rfl rfl, zwk_4 135 rfl rfl, zwk_4 136 rfl rfl⟩
theorem zm_X7_315 : Cond.methodLink RX7 315 yX7_manyNow ∈ zw ∧ Cond.instanceMethod yX7_manyNow ∈ zw ∧ Cond.selects RX7 yX7_manyNow yX7_manyNow ∈ zw := ⟨zwk_7 75 rfl rfl, zwk_7 77 rfl rfl, zw_at 58 (by decide +kernel) rfl⟩
theorem zm_X7_320 : Cond.methodLink RX7 320 yX7_leadNow ∈ zw ∧ Cond.instanceMethod yX7_leadNow ∈ zw ∧ Cond.selects RX7 yX7_leadNow yX7_leadNow ∈ zw := ⟨zwk_7 83 rfl rfl, zwk_7 85 rfl rfl, zw_at 59 (by decide +kernel) rfl⟩
theorem zm_X7_324 : Cond.methodLink RX7 324 yX6_farWith ∈ zw ∧ Cond.instanceMethod yX6_farWith ∈ zw ∧ Cond.selects RX6 yX6_farWith yX6_farWith ∈ zw := ⟨zwk_7 100 rfl rfl, zwk_7 101 rfl rfl, zwk_7 102 rfl rfl⟩
theorem zm_X7_327 : Cond.methodLink RX7 327 yX7_bestNow ∈ zw ∧ Cond.instanceMethod yX7_bestNow ∈ zw ∧ Cond.selects RX7 yX7_bestNow yX7_bestNow ∈ zw := ⟨zwk_7 96 rfl rfl, zwk_7 98 rfl rfl, zw_at 60 (by decide +kernel) rfl⟩
theorem zm_X7_330 : Cond.methodLink RX7 330 yX6_hasTooMany ∈ zw ∧ Cond.instanceMethod yX6_hasTooMany ∈ zw ∧ Cond.selects RX6 yX6_hasTooMany yX6_hasTooMany ∈ zw := ⟨zwk_7 113 rfl rfl, zwk_7 114 rfl rfl, zwk_7 115 rfl rfl⟩
theorem zm_X7_333 : Cond.methodLink RX7 333 yX7_unseen ∈ zw ∧ Cond.instanceMethod yX7_unseen ∈ zw ∧ Cond.selects RX7 yX7_unseen yX7_unseen ∈ zw := ⟨zwk_7 117 rfl rfl, zwk_7 119 rfl rfl, zw_at 61 (by decide +kernel) rfl⟩
theorem zm_X7_340 : Cond.methodLink RX7 340 yX7_add ∈ zw ∧ Cond.static yX7_add ∈ zw := ⟨zwk_7 126 rfl rfl, zwk_7 127 rfl rfl⟩
theorem zm_X5_18 : Cond.methodLinkNest RX5 18 yX7_isIn "WindsparlourModel" ∈ zsp ∧ Cond.static yX7_isIn ∈ zw := ⟨zsk_6 220 rfl rfl, zwk_5 140 rfl rfl⟩
theorem zm_X6_21 : Cond.methodLink RX6 21 yJx4a65c_init_da8c8 ∈ zw ∧ Cond.instanceMethod yJx4a65c_init_da8c8 ∈ zw ∧ yJx4a65c_init_da8c8.name = "<init>" := ⟨zwk_5 30 rfl rfl, zwk_5 31 rfl rfl, rfl⟩
theorem zm_X6_29 : Cond.methodLink RX6 29 yJx4a65c_clear_da8c8 ∈ zw ∧ Cond.instanceMethod yJx4a65c_clear_da8c8 ∈ zw ∧ Cond.selects RJx4a65c yJx4a65c_clear_da8c8 yJx4a65c_clear_da8c8 ∈ zw := ⟨zwk_5 154 rfl rfl, zwk_5 155 rfl rfl, zwk_5 156 rfl rfl⟩
theorem zm_X6_40 : Cond.methodLink RX6 40 yX6_tiles ∈ zw ∧ Cond.instanceMethod yX6_tiles ∈ zw ∧ Cond.selects RX6 yX6_tiles yX6_tiles ∈ zw := ⟨zwk_5 193 rfl rfl, zwk_5 194 rfl rfl, zwk_5 195 rfl rfl⟩
theorem zm_X6_44 : Cond.methodLink RX6 44 yJx4a65c_size_8abf5 ∈ zw ∧ Cond.instanceMethod yJx4a65c_size_8abf5 ∈ zw ∧ Cond.selects RJx4a65c yJx4a65c_size_8abf5 yJx4a65c_size_8abf5 ∈ zw := ⟨zwk_5 197 rfl rfl, zwk_5 198 rfl rfl, zwk_5 199 rfl rfl⟩
theorem zm_X6_47 : Cond.methodLink RX6 47 yJx4a65c_iterator_32c93 ∈ zw ∧ Cond.instanceMethod yJx4a65c_iterator_32c93 ∈ zw ∧ Cond.selects RJx4a65c yJx4a65c_iterator_32c93 yJx4a65c_iterator_32c93 ∈ zw := ⟨zwk_6 63 rfl rfl, zwk_6 64 rfl rfl, zwk_6 65 rfl rfl⟩
theorem zm_X6_51 : (Cond.methodLink RX6 51 ⟨"java/util/Iterator", "hasNext", "()Z"⟩ ∈ zw ∧ Cond.selects RJx35411 ⟨"java/util/Iterator", "hasNext", "()Z"⟩ yJx35411_hasNext_aae02 ∈ zw ∧ Cond.instanceMethod yJx35411_hasNext_aae02 ∈ zw) ∧ ((RJx35411, ⟨"java/util/Iterator", "hasNext", "()Z"⟩, yJx35411_hasNext_aae02) : String × MethodName × MethodName) ∈ zfw ∧ (parseMethodDescriptor (⟨"java/util/Iterator", "hasNext", "()Z"⟩ : MethodName).desc).map (fun d => d.parameters.length) = some 0 := ⟨⟨zwk_6 87 rfl rfl, zwk_6 91 rfl rfl, zwk_6 93 rfl rfl⟩, by decide +kernel, by decide +kernel⟩
theorem zm_X6_57 : (Cond.methodLink RX6 57 ⟨"java/util/Iterator", "next", "()Ljava/lang/Object;"⟩ ∈ zw ∧ Cond.selects RJx35411 ⟨"java/util/Iterator", "next", "()Ljava/lang/Object;"⟩ yJx35411_next_0502b ∈ zw ∧ Cond.instanceMethod yJx35411_next_0502b ∈ zw) ∧ ((RJx35411, ⟨"java/util/Iterator", "next", "()Ljava/lang/Object;"⟩, yJx35411_next_0502b) : String × MethodName × MethodName) ∈ zfw ∧ (parseMethodDescriptor (⟨"java/util/Iterator", "next", "()Ljava/lang/Object;"⟩ : MethodName).desc).map (fun d => d.parameters.length) = some 0 := ⟨⟨zwk_6 97 rfl rfl, zwk_6 100 rfl rfl, zwk_6 102 rfl rfl⟩, by decide +kernel, by decide +kernel⟩
theorem zm_X6_63 : Cond.methodLink RX6 63 yX5_isOpen ∈ zw ∧ Cond.instanceMethod yX5_isOpen ∈ zw ∧ Cond.selects RX5 yX5_isOpen yX5_isOpen ∈ zw := ⟨zwk_6 110 rfl rfl, zwk_6 111 rfl rfl, zwk_6 112 rfl rfl⟩
theorem zm_X6_66 : Cond.methodLinkNest RX6 66 yX7_far "WindsparlourModel" ∈ zsp ∧ Cond.static yX7_far ∈ zw := ⟨zsk_7 6 rfl rfl, zwk_7 7 rfl rfl⟩
theorem zm_X6_70 : Cond.methodLink RX6 70 yX6_far ∈ zw ∧ Cond.instanceMethod yX6_far ∈ zw ∧ Cond.selects RX6 yX6_far yX6_far ∈ zw := ⟨zwk_7 104 rfl rfl, zwk_7 3 rfl rfl, zwk_7 4 rfl rfl⟩
theorem zm_X6_72 : Cond.methodLinkNest RX6 72 yX7_isComplete "WindsparlourModel" ∈ zsp ∧ Cond.static yX7_isComplete ∈ zw := ⟨zsk_5 201 rfl rfl, zwk_5 202 rfl rfl⟩
theorem zm_X6_76 : Cond.methodLink RX6 76 yX6_waits ∈ zw ∧ Cond.instanceMethod yX6_waits ∈ zw ∧ Cond.selects RX6 yX6_waits yX6_waits ∈ zw := ⟨zwk_5 189 rfl rfl, zwk_5 190 rfl rfl, zwk_5 191 rfl rfl⟩
theorem zm_J5_32 : Cond.methodLink RJ5 32 yJ0_length_8abf5 ∈ zw ∧ Cond.instanceMethod yJ0_length_8abf5 ∈ zw ∧ Cond.selects RJ0 yJ0_length_8abf5 yJ0_length_8abf5 ∈ zw := ⟨zwk_4 182 rfl rfl, zwk_4 108 rfl rfl, zwk_4 109 rfl rfl⟩
theorem zm_J5_40 : Cond.methodLink RJ5 40 yJ0_coder_7d493 ∈ zw ∧ Cond.instanceMethod yJ0_coder_7d493 ∈ zw ∧ Cond.selects RJ0 yJ0_coder_7d493 yJ0_coder_7d493 ∈ zw := ⟨zwk_4 191 rfl rfl, zwk_4 112 rfl rfl, zwk_4 113 rfl rfl⟩
theorem zm_J5_83 : Cond.methodLink RJ5 83 yJ5_isLatin1_aae02 ∈ zw ∧ Cond.instanceMethod yJ5_isLatin1_aae02 ∈ zw ∧ Cond.selects RJ4 yJ5_isLatin1_aae02 yJ5_isLatin1_aae02 ∈ zw := ⟨zwk_4 19 rfl rfl, zwk_4 20 rfl rfl, zwk_4 22 rfl rfl⟩
theorem zm_J5_100 : Cond.methodLink RJ5 100 yJ5_ensureCapacityInternal_d00df ∈ zw ∧ Cond.instanceMethod yJ5_ensureCapacityInternal_d00df ∈ zw ∧ Cond.selects RJ4 yJ5_ensureCapacityInternal_d00df yJ5_ensureCapacityInternal_d00df ∈ zw := ⟨zwk_3 228 rfl rfl, zwk_3 230 rfl rfl, zw_at 1671 (by decide +kernel) rfl⟩
theorem zm_J5_104 : Cond.methodLink RJ5 104 yJ5_newCapacity_0f7a4 ∈ zw ∧ Cond.instanceMethod yJ5_newCapacity_0f7a4 ∈ zw ∧ Cond.selects RJ4 yJ5_newCapacity_0f7a4 yJ5_newCapacity_0f7a4 ∈ zw := ⟨zwk_3 232 rfl rfl, zwk_3 234 rfl rfl, zw_at 1672 (by decide +kernel) rfl⟩
theorem zm_J5_108 : Cond.methodLink RJ5 108 yJ7_copyOf_9075b ∈ zw ∧ Cond.static yJ7_copyOf_9075b ∈ zw := ⟨zwk_4 5 rfl rfl, zwk_4 6 rfl rfl⟩
theorem zm_J5_114 : Cond.methodLink RJ5 114 yJ8_newLength_cabcc ∈ zw ∧ Cond.static yJ8_newLength_cabcc ∈ zw := ⟨zwk_3 236 rfl rfl, zwk_3 237 rfl rfl⟩
theorem zm_J5_138 : Cond.methodLink RJ5 138 yJ9_min_7cf53 ∈ zw ∧ Cond.static yJ9_min_7cf53 ∈ zw := ⟨zwk_7 67 rfl rfl, zwk_1 219 rfl rfl⟩
theorem zm_J5_144 : Cond.methodLink RJ5 144 yJ0_checkIndex_df160 ∈ zw ∧ Cond.static yJ0_checkIndex_df160 ∈ zw := ⟨zwk_7 68 rfl rfl, zwk_4 98 rfl rfl⟩
theorem zm_J5_191 : Cond.methodLink RJ5 191 yJ1_canEncode_fc78d ∈ zw ∧ Cond.static yJ1_canEncode_fc78d ∈ zw := ⟨zwk_4 69 rfl rfl, zwk_4 70 rfl rfl⟩
theorem zm_J5_208 : Cond.methodLink RJ5 208 yJ5_putStringAt_47b60 ∈ zw ∧ Cond.instanceMethod yJ5_putStringAt_47b60 ∈ zw ∧ Cond.selects RJ4 yJ5_putStringAt_47b60 yJ5_putStringAt_47b60 ∈ zw := ⟨zwk_4 183 rfl rfl, zwk_4 185 rfl rfl, zw_at 1675 (by decide +kernel) rfl⟩
theorem zm_J5_245 : Cond.methodLink RJ5 245 yJ6_stringSize_0f7a4 ∈ zw ∧ Cond.static yJ6_stringSize_0f7a4 ∈ zw := ⟨zwk_3 225 rfl rfl, zwk_3 226 rfl rfl⟩
theorem zm_J5_248 : Cond.methodLink RJ5 248 yJ6_getChars_ba4f3 ∈ zw ∧ Cond.static yJ6_getChars_ba4f3 ∈ zw := ⟨zwk_4 24 rfl rfl, zwk_4 25 rfl rfl⟩
theorem zm_J5_397 : Cond.methodLink RJ5 397 yJ5_inflateIfNeededFor_a7421 ∈ zw ∧ Cond.instanceMethod yJ5_inflateIfNeededFor_a7421 ∈ zw ∧ Cond.selects RJ4 yJ5_inflateIfNeededFor_a7421 yJ5_inflateIfNeededFor_a7421 ∈ zw := ⟨zwk_4 187 rfl rfl, zwk_4 189 rfl rfl, zw_at 1676 (by decide +kernel) rfl⟩
theorem zm_J5_399 : Cond.methodLink RJ5 399 yJ0_getBytes_840e7 ∈ zw ∧ Cond.instanceMethod yJ0_getBytes_840e7 ∈ zw ∧ Cond.selects RJ0 yJ0_getBytes_840e7 yJ0_getBytes_840e7 ∈ zw := ⟨zwk_4 192 rfl rfl, zwk_4 193 rfl rfl, zwk_4 194 rfl rfl⟩
theorem zm_J6_199 : Cond.methodLink RJ6 199 yJ6_init_d00df ∈ zw ∧ Cond.instanceMethod yJ6_init_d00df ∈ zw ∧ yJ6_init_d00df.name = "<init>" := ⟨zwk_5 231 rfl rfl, zwk_5 232 rfl rfl, rfl⟩
theorem zm_J6_202 : Cond.methodLink RJ6 202 yJxd2413_init_da8c8 ∈ zw ∧ Cond.instanceMethod yJxd2413_init_da8c8 ∈ zw ∧ yJxd2413_init_da8c8.name = "<init>" := ⟨zwk_5 234 rfl rfl, zwk_5 235 rfl rfl, rfl⟩
theorem zm_J0_54 : Cond.methodLink RJ0 54 yJ7_copyOfRange_39247 ∈ zw ∧ Cond.static yJ7_copyOfRange_39247 ∈ zw := ⟨zwk_4 154 rfl rfl, zwk_4 155 rfl rfl⟩
theorem zm_J0_335 : Cond.methodLink RJ0 335 yJ0_coder_7d493 ∈ zw ∧ Cond.instanceMethod yJ0_coder_7d493 ∈ zw ∧ Cond.selects RJ0 yJ0_coder_7d493 yJ0_coder_7d493 ∈ zw := ⟨zwk_4 111 rfl rfl, zwk_4 112 rfl rfl, zwk_4 113 rfl rfl⟩
theorem zm_J0_489 : Cond.methodLink RJ0 489 yJ0_init_db425 ∈ zw ∧ Cond.instanceMethod yJ0_init_db425 ∈ zw ∧ yJ0_init_db425.name = "<init>" := ⟨zwk_4 143 rfl rfl, zwk_4 144 rfl rfl, rfl⟩
theorem zm_J0_492 : Cond.methodLink RJ0 492 yJ0_isLatin1_aae02 ∈ zw ∧ Cond.instanceMethod yJ0_isLatin1_aae02 ∈ zw ∧ Cond.selects RJ0 yJ0_isLatin1_aae02 yJ0_isLatin1_aae02 ∈ zw := ⟨zwk_4 120 rfl rfl, zwk_4 121 rfl rfl, zwk_4 122 rfl rfl⟩
theorem zm_J0_495 : Cond.methodLink RJ0 495 yJ1_charAt_3b067 ∈ zw ∧ Cond.static yJ1_charAt_3b067 ∈ zw := ⟨zwk_4 124 rfl rfl, zwk_4 125 rfl rfl⟩
theorem zm_J0_549 : (Cond.methodLink RJ0 549 yJ5_length_8abf5 ∈ zw ∧ Cond.sameMethod yJ5_length_8abf5.cls yJ5_length_8abf5.cls yJ5_length_8abf5.name yJ5_length_8abf5.desc ∈ zw ∧ Cond.instanceMethod yJ5_length_8abf5 ∈ zw ∧ Cond.selects RJ4 yJ5_length_8abf5 yJ4_length_8abf5 ∈ zw ∧ Cond.instanceMethod yJ4_length_8abf5 ∈ zw) ∧ Cond.code yJ5_length_8abf5 cJ5_length_8abf5 1 (some FieldType.int) ∈ zw ∧ (yJ5_length_8abf5.cls ≠ "java/lang/invoke/MethodHandle" ∧ yJ5_length_8abf5.cls ≠ "java/lang/invoke/VarHandle" ∧ (parseMethodDescriptor yJ5_length_8abf5.desc).map (fun d => d.parameters.length) = some 0) := ⟨⟨zwk_4 152 rfl rfl, zwk_7 131 rfl rfl, zwk_3 216 rfl rfl, zwk_7 137 rfl rfl, zwk_3 212 rfl rfl⟩, zwk_3 217 rfl rfl, by decide +kernel, by decide +kernel, by decide +kernel⟩
theorem zm_J0_552 : Cond.methodLink RJ0 552 yJ5_getValue_6d5f1 ∈ zw ∧ Cond.instanceMethod yJ5_getValue_6d5f1 ∈ zw ∧ Cond.selects RJ4 yJ5_getValue_6d5f1 yJ5_getValue_6d5f1 ∈ zw := ⟨zwk_4 147 rfl rfl, zwk_4 148 rfl rfl, zwk_4 150 rfl rfl⟩
theorem zm_J0_1047 : Cond.methodLink RJ0 1047 yJ5_isLatin1_aae02 ∈ zw ∧ Cond.instanceMethod yJ5_isLatin1_aae02 ∈ zw ∧ Cond.selects RJ4 yJ5_isLatin1_aae02 yJ5_isLatin1_aae02 ∈ zw := ⟨zwk_4 153 rfl rfl, zwk_4 20 rfl rfl, zwk_4 22 rfl rfl⟩
theorem zm_J0_1059 : Cond.methodLink RJ0 1059 yJ3_checkIndex_8e157 ∈ zw ∧ Cond.static yJ3_checkIndex_8e157 ∈ zw := ⟨zwk_4 100 rfl rfl, zwk_4 101 rfl rfl⟩
theorem zm_J0_1062 : Cond.methodLink RJ0 1062 yJ3_checkFromToIndex_8c36e ∈ zw ∧ Cond.static yJ3_checkFromToIndex_8c36e ∈ zw := ⟨zwk_4 45 rfl rfl, zwk_4 46 rfl rfl⟩
theorem zm_J0_1065 : Cond.methodLink RJ0 1065 yJ3_checkFromIndexSize_8c36e ∈ zw ∧ Cond.static yJ3_checkFromIndexSize_8c36e ∈ zw := ⟨zwk_4 88 rfl rfl, zwk_4 89 rfl rfl⟩
theorem zm_J4_1 : Cond.methodLink RJ4 1 yJ5_init_d00df ∈ zw ∧ Cond.instanceMethod yJ5_init_d00df ∈ zw ∧ yJ5_init_d00df.name = "<init>" := ⟨zwk_3 182 rfl rfl, zwk_3 183 rfl rfl, rfl⟩
theorem zm_J4_29 : Cond.methodLink RJ4 29 yJ5_append_cf1ce ∈ zw ∧ Cond.sameMethod yJ5_append_cf1ce.cls yJ5_append_cf1ce.cls yJ5_append_cf1ce.name yJ5_append_cf1ce.desc ∈ zw ∧ Cond.superclass RJ4 yJ5_append_cf1ce.cls ∈ zw ∧ Cond.instanceMethod yJ5_append_cf1ce ∈ zw ∧ yJ5_append_cf1ce.name ≠ "<init>" ∧ RJ4 = RJ4 := ⟨zwk_4 172 rfl rfl, zwk_7 138 rfl rfl, zwk_3 207 rfl rfl, zwk_4 173 rfl rfl, by decide +kernel, rfl⟩
theorem zm_J4_50 : Cond.methodLink RJ4 50 yJ5_append_3fe6f ∈ zw ∧ Cond.sameMethod yJ5_append_3fe6f.cls yJ5_append_3fe6f.cls yJ5_append_3fe6f.name yJ5_append_3fe6f.desc ∈ zw ∧ Cond.superclass RJ4 yJ5_append_3fe6f.cls ∈ zw ∧ Cond.instanceMethod yJ5_append_3fe6f ∈ zw ∧ yJ5_append_3fe6f.name ≠ "<init>" ∧ RJ4 = RJ4 := ⟨zwk_4 66 rfl rfl, zwk_7 135 rfl rfl, zwk_3 207 rfl rfl, zwk_4 67 rfl rfl, by decide +kernel, rfl⟩
theorem zm_J4_53 : Cond.methodLink RJ4 53 yJ5_append_c97b9 ∈ zw ∧ Cond.sameMethod yJ5_append_c97b9.cls yJ5_append_c97b9.cls yJ5_append_c97b9.name yJ5_append_c97b9.desc ∈ zw ∧ Cond.superclass RJ4 yJ5_append_c97b9.cls ∈ zw ∧ Cond.instanceMethod yJ5_append_c97b9 ∈ zw ∧ yJ5_append_c97b9.name ≠ "<init>" ∧ RJ4 = RJ4 := ⟨zwk_3 222 rfl rfl, zwk_7 132 rfl rfl, zwk_3 207 rfl rfl, zwk_3 223 rfl rfl, by decide +kernel, rfl⟩
theorem zm_J4_137 : Cond.methodLink RJ4 137 yJ0_init_81219 ∈ zw ∧ Cond.instanceMethod yJ0_init_81219 ∈ zw ∧ yJ0_init_81219.name = "<init>" := ⟨zwk_4 140 rfl rfl, zwk_4 141 rfl rfl, rfl⟩
theorem zm_J4_329 : Cond.methodLink RJ4 329 yJ5_charAt_5068e ∈ zw ∧ Cond.sameMethod yJ5_charAt_5068e.cls yJ5_charAt_5068e.cls yJ5_charAt_5068e.name yJ5_charAt_5068e.desc ∈ zw ∧ Cond.superclass RJ4 yJ5_charAt_5068e.cls ∈ zw ∧ Cond.instanceMethod yJ5_charAt_5068e ∈ zw ∧ yJ5_charAt_5068e.name ≠ "<init>" ∧ RJ4 = RJ4 := ⟨zwk_7 64 rfl rfl, zwk_7 142 rfl rfl, zwk_3 207 rfl rfl, zwk_7 65 rfl rfl, by decide +kernel, rfl⟩
theorem zm_J4_343 : Cond.methodLink RJ4 343 yJ5_length_8abf5 ∈ zw ∧ Cond.sameMethod yJ5_length_8abf5.cls yJ5_length_8abf5.cls yJ5_length_8abf5.name yJ5_length_8abf5.desc ∈ zw ∧ Cond.superclass RJ4 yJ5_length_8abf5.cls ∈ zw ∧ Cond.instanceMethod yJ5_length_8abf5 ∈ zw ∧ yJ5_length_8abf5.name ≠ "<init>" ∧ RJ4 = RJ4 := ⟨zwk_3 215 rfl rfl, zwk_7 131 rfl rfl, zwk_3 207 rfl rfl, zwk_3 216 rfl rfl, by decide +kernel, rfl⟩
theorem zm_J1_9 : Cond.methodLink RJ1 9 yJ0_checkIndex_df160 ∈ zw ∧ Cond.static yJ0_checkIndex_df160 ∈ zw := ⟨zwk_4 127 rfl rfl, zwk_4 98 rfl rfl⟩
theorem zm_Jxc12de_1 : Cond.methodLink RJxc12de 1 yJxa1e45_init_da8c8 ∈ zw ∧ Cond.instanceMethod yJxa1e45_init_da8c8 ∈ zw ∧ yJxa1e45_init_da8c8.name = "<init>" := ⟨zwk_5 36 rfl rfl, zwk_5 37 rfl rfl, rfl⟩
theorem zm_Jx4a65c_1 : Cond.methodLink RJx4a65c 1 yJxc12de_init_da8c8 ∈ zw ∧ Cond.instanceMethod yJxc12de_init_da8c8 ∈ zw ∧ yJxc12de_init_da8c8.name = "<init>" := ⟨zwk_5 33 rfl rfl, zwk_5 34 rfl rfl, rfl⟩
theorem zm_Jx4a65c_66 : Cond.methodLink RJx4a65c 66 yJ7_copyOf_1904c ∈ zw ∧ Cond.static yJ7_copyOf_1904c ∈ zw := ⟨zwk_6 19 rfl rfl, zwk_6 20 rfl rfl⟩
theorem zm_Jx4a65c_69 : Cond.methodLink RJx4a65c 69 yJx4a65c_grow_92f84 ∈ zw ∧ Cond.instanceMethod yJx4a65c_grow_92f84 ∈ zw ∧ Cond.selects RJx4a65c yJx4a65c_grow_92f84 yJx4a65c_grow_92f84 ∈ zw := ⟨zwk_6 14 rfl rfl, zwk_6 16 rfl rfl, zw_at 42 (by decide +kernel) rfl⟩
theorem zm_Jx4a65c_73 : Cond.methodLink RJx4a65c 73 yJ8_newLength_cabcc ∈ zw ∧ Cond.static yJ8_newLength_cabcc ∈ zw := ⟨zwk_6 18 rfl rfl, zwk_3 237 rfl rfl⟩
theorem zm_Jx4a65c_79 : Cond.methodLink RJx4a65c 79 yJ9_max_7cf53 ∈ zw ∧ Cond.static yJ9_max_7cf53 ∈ zw := ⟨zwk_6 48 rfl rfl, zwk_1 216 rfl rfl⟩
theorem zm_Jx4a65c_118 : Cond.methodLink RJx4a65c 118 yJ15_checkIndex_7cf53 ∈ zw ∧ Cond.static yJ15_checkIndex_7cf53 ∈ zw := ⟨zwk_6 137 rfl rfl, zwk_6 138 rfl rfl⟩
theorem zm_Jx4a65c_123 : Cond.methodLink RJx4a65c 123 yJx4a65c_elementData_915e3 ∈ zw ∧ Cond.instanceMethod yJx4a65c_elementData_915e3 ∈ zw ∧ Cond.selects RJx4a65c yJx4a65c_elementData_915e3 yJx4a65c_elementData_915e3 ∈ zw := ⟨zwk_7 21 rfl rfl, zwk_7 22 rfl rfl, zwk_7 23 rfl rfl⟩
theorem zm_Jx4a65c_129 : Cond.methodLink RJx4a65c 129 yJx4a65c_grow_d5877 ∈ zw ∧ Cond.instanceMethod yJx4a65c_grow_d5877 ∈ zw ∧ Cond.selects RJx4a65c yJx4a65c_grow_d5877 yJx4a65c_grow_d5877 ∈ zw := ⟨zwk_6 10 rfl rfl, zwk_6 12 rfl rfl, zw_at 41 (by decide +kernel) rfl⟩
theorem zm_Jx4a65c_131 : Cond.methodLink RJx4a65c 131 yJx4a65c_add_72be8 ∈ zw ∧ Cond.instanceMethod yJx4a65c_add_72be8 ∈ zw ∧ Cond.selects RJx4a65c yJx4a65c_add_72be8 yJx4a65c_add_72be8 ∈ zw := ⟨zwk_6 6 rfl rfl, zwk_6 8 rfl rfl, zw_at 40 (by decide +kernel) rfl⟩
theorem zm_Jx4a65c_144 : Cond.methodLink RJx4a65c 144 yJx4a65c_fastRemove_b59b0 ∈ zw ∧ Cond.instanceMethod yJx4a65c_fastRemove_b59b0 ∈ zw ∧ Cond.selects RJx4a65c yJx4a65c_fastRemove_b59b0 yJx4a65c_fastRemove_b59b0 ∈ zw := ⟨zwk_6 141 rfl rfl, zwk_6 143 rfl rfl, zw_at 47 (by decide +kernel) rfl⟩
theorem zm_Jx4a65c_269 : Cond.methodLink RJx4a65c 269 yJx35411_init_45d68 ∈ zw ∧ Cond.instanceMethod yJx35411_init_45d68 ∈ zw ∧ yJx35411_init_45d68.name = "<init>" := ⟨zwk_6 69 rfl rfl, zwk_6 70 rfl rfl, rfl⟩
theorem zm_Jx35411_31 : Cond.methodLink RJx35411 31 yJx35411_checkForComodification_da8c8 ∈ zw ∧ Cond.instanceMethod yJx35411_checkForComodification_da8c8 ∈ zw ∧ Cond.selects RJx35411 yJx35411_checkForComodification_da8c8 yJx35411_checkForComodification_da8c8 ∈ zw := ⟨zwk_6 105 rfl rfl, zwk_6 106 rfl rfl, zwk_6 107 rfl rfl⟩
theorem zm_J7_300 : Cond.methodLink RJ7 300 yJ7_copyOf_6403c ∈ zw ∧ Cond.static yJ7_copyOf_6403c ∈ zw := ⟨zwk_6 42 rfl rfl, zwk_6 43 rfl rfl⟩
theorem zm_J7_304 : Cond.methodLink RJ7 304 yJ9_min_7cf53 ∈ zw ∧ Cond.static yJ9_min_7cf53 ∈ zw := ⟨zwk_4 15 rfl rfl, zwk_1 219 rfl rfl⟩
theorem zm_J7_339 : Cond.methodLink RJ7 339 yJ7_copyOfRangeByte_39247 ∈ zw ∧ Cond.static yJ7_copyOfRangeByte_39247 ∈ zw := ⟨zwk_4 157 rfl rfl, zwk_4 158 rfl rfl⟩
theorem zm_J7_343 : Cond.methodLink RJ7 343 yJ7_checkLength_df160 ∈ zw ∧ Cond.static yJ7_checkLength_df160 ∈ zw := ⟨zwk_4 160 rfl rfl, zwk_4 161 rfl rfl⟩
theorem zm_J15_105 : Cond.methodLink RJ15 105 yJ3_checkIndex_8e157 ∈ zw ∧ Cond.static yJ3_checkIndex_8e157 ∈ zw := ⟨zwk_6 140 rfl rfl, zwk_4 101 rfl rfl⟩
theorem zm_J8_194 : Cond.methodLink RJ8 194 yJ9_max_7cf53 ∈ zw ∧ Cond.static yJ9_max_7cf53 ∈ zw := ⟨zwk_3 239 rfl rfl, zwk_1 216 rfl rfl⟩
theorem zcs_IllegalArgumentException : Cond.castable "java/lang/IllegalArgumentException" "java/lang/IllegalArgumentException" ∈ zsp := zsk_2 5 rfl rfl
theorem zcs_IllegalStateException : Cond.castable "java/lang/IllegalStateException" "java/lang/IllegalStateException" ∈ zsp := zsk_2 168 rfl rfl
theorem zcs_IndexOutOfBoundsException : Cond.castable "java/lang/IndexOutOfBoundsException" "java/lang/IndexOutOfBoundsException" ∈ zsp := zsk_2 84 rfl rfl
theorem zac_X7_216 : zac RX7 216 := ⟨zwk_6 224 rfl rfl, zwk_4 18 rfl rfl, zwk_4 17 rfl rfl, zwk_1 22 rfl rfl⟩
theorem zac_J0_212 : zac RJ0 212 := ⟨zwk_4 196 rfl rfl, zwk_4 18 rfl rfl, zwk_4 17 rfl rfl, zwk_1 22 rfl rfl⟩
theorem zac_Jx4a65c_112 : zac RJx4a65c 112 := ⟨zwk_6 145 rfl rfl, zwk_4 18 rfl rfl, zwk_4 17 rfl rfl, zwk_1 22 rfl rfl⟩
theorem zac_J7_150 : zac RJ7 150 := ⟨zwk_4 16 rfl rfl, zwk_4 18 rfl rfl, zwk_4 17 rfl rfl, zwk_1 22 rfl rfl⟩
theorem zclw_J7_310 : zclw RJ7 310 "[B" := ⟨zwk_4 8 rfl rfl, zwk_4 9 rfl rfl, zwk_4 10 rfl rfl, zwk_4 11 rfl rfl, zwk_4 12 rfl rfl, zsk_4 13 rfl rfl⟩
theorem zgcl_J7_86 : Cond.methodLink RJ7 86 zgcn ∈ zw ∧ Cond.declares zgcn ∈ zsp ∧ Cond.selects "[Ljava/lang/Object;" zgcn zgcn ∈ zw ∧ Cond.instanceMethod zgcn ∈ zw ∧ Cond.native zgcn ∈ zw := ⟨zwk_6 22 rfl rfl, zsk_7 162 rfl rfl, zwk_7 161 rfl rfl, zwk_6 23 rfl rfl, zwk_6 41 rfl rfl⟩
theorem zqs_20 (L : zL) : (("Windsparlour", 320, "ESWNRGH", zad L 20) : String × Nat × String × Nat) ∈ zstr L := List.mem_of_getElem? (i := 0) rfl
theorem zqs_21 (L : zL) : (("WindsparlourModel", 295, "ESWNRGH", zad L 21) : String × Nat × String × Nat) ∈ zstr L := List.mem_of_getElem? (i := 1) rfl
theorem zqs_22 (L : zL) : (("WindsparlourModel", 290, "", zad L 22) : String × Nat × String × Nat) ∈ zstr L := List.mem_of_getElem? (i := 2) rfl
theorem zx_X3_75 : zxw RX3 75 "java/lang/IllegalArgumentException" := ⟨by decide +kernel, by decide +kernel, by decide +kernel, zwk_1 14 rfl rfl⟩
theorem zx_X3_122 : zxw RX3 122 "java/lang/IllegalStateException" := ⟨by decide +kernel, by decide +kernel, by decide +kernel, zwk_1 15 rfl rfl⟩
theorem zx_X3_223 : zxw RX3 223 "java/lang/IndexOutOfBoundsException" := ⟨by decide +kernel, by decide +kernel, by decide +kernel, zwk_1 24 rfl rfl⟩
theorem zs_X3_73 : Cond.stringRef RX3 73 "no such step or shift" ∈ lw_tbl := List.mem_of_getElem? (i := 463) (by decide +kernel)
theorem zs_X3_120 : Cond.stringRef RX3 120 "that tile cannot be discarded" ∈ lw_tbl := List.mem_of_getElem? (i := 533) (by decide +kernel)
theorem zs_X3_138 : Cond.stringRef RX3 138 "that hand cannot be called" ∈ lw_tbl := List.mem_of_getElem? (i := 554) (by decide +kernel)
theorem zs_X3_146 : Cond.stringRef RX3 146 "no such claim" ∈ lw_tbl := List.mem_of_getElem? (i := 563) (by decide +kernel)
theorem zs_X3_152 : Cond.stringRef RX3 152 "that cannot be claimed" ∈ lw_tbl := List.mem_of_getElem? (i := 576) (by decide +kernel)
theorem zs_X3_173 : Cond.stringRef RX3 173 "no closed four of that kind" ∈ lw_tbl := List.mem_of_getElem? (i := 600) (by decide +kernel)
theorem zs_X3_182 : Cond.stringRef RX3 182 "that is no win" ∈ lw_tbl := List.mem_of_getElem? (i := 623) (by decide +kernel)
theorem zs_X3_217 : Cond.stringRef RX3 217 "no such number of a player" ∈ lw_tbl := List.mem_of_getElem? (i := 432) (by decide +kernel)
theorem zs_X3_221 : Cond.stringRef RX3 221 "no such set" ∈ lw_tbl := List.mem_of_getElem? (i := 684) (by decide +kernel)
theorem zs_X3_227 : Cond.stringRef RX3 227 "no such place" ∈ lw_tbl := List.mem_of_getElem? (i := 692) (by decide +kernel)
theorem zs_X3_256 : Cond.stringRef RX3 256 "no such number" ∈ lw_tbl := List.mem_of_getElem? (i := 346) (by decide +kernel)
theorem zs_X3_287 : Cond.stringRef RX3 287 "no such player" ∈ lw_tbl := List.mem_of_getElem? (i := 393) (by decide +kernel)
theorem zs_X3_289 : Cond.stringRef RX3 289 "no such kind" ∈ lw_tbl := List.mem_of_getElem? (i := 532) (by decide +kernel)
theorem zs_X3_291 : Cond.stringRef RX3 291 "not in this phase" ∈ lw_tbl := List.mem_of_getElem? (i := 477) (by decide +kernel)
def zoI (o : String ⊕ Int32) : zE := match o with
  | .inl E => .inl E
  | .inr v => .inr (some (.int v))
def zoJ (o : String ⊕ Int64) : zE := match o with
  | .inl E => .inl E
  | .inr v => .inr (some (.long v))
def zoD (o : String ⊕ UInt64) : zE := match o with
  | .inl E => .inl E
  | .inr v => .inr (some (.double v))
def zoA (L : zL) (o : String ⊕ Nat) : zE := match o with
  | .inl E => .inl E
  | .inr v => .inr (some (.ref (zad L v)))
def zoV (o : String ⊕ Unit) : zE := match o with
  | .inl E => .inl E
  | .inr _ => .inr none
/-- on behind a call that may throw: what is thrown is thrown on -/
def xb {α β : Type} (x : Option ((String ⊕ α) × zM)) (f : α → zM → Option ((String ⊕ β) × zM)) : Option ((String ⊕ β) × zM) := match x with
  | none => none
  | some (.inl E, M) => some (.inl E, M)
  | some (.inr v, M) => f v M
theorem xbs {α β : Type} {x : Option ((String ⊕ α) × zM)} {f : α → zM → Option ((String ⊕ β) × zM)} {r : (String ⊕ β) × zM} (h : xb x f = some r) : (∃ E M, x = some (.inl E, M) ∧ r = (.inl E, M)) ∨ ∃ v M, x = some (.inr v, M) ∧ f v M = some r := by
  match x, h with
  | some (.inl E, M), h => exact Or.inl ⟨E, M, rfl, (Option.some.inj h).symm⟩
  | some (.inr v, M), h => exact Or.inr ⟨v, M, rfl, h⟩
def xn {α β : Type} (x : Option ((String ⊕ α) × zM)) (f : α → zM → Option β) : Option β := match x with
  | some (.inr v, M) => f v M
  | _ => none
theorem xns {α β : Type} {x : Option ((String ⊕ α) × zM)} {f : α → zM → Option β} {r : β} (h : xn x f = some r) : ∃ v M, x = some (.inr v, M) ∧ f v M = some r := by
  match x, h with
  | some (.inr v, M), h => exact ⟨v, M, rfl, h⟩
theorem V_callS_I {L : zL} {X : zX} {y : MethodName} {cc : ByteArray} {nL : Nat} {ret : Option FieldType} {dd : Nat} {M0 : zM} {N : Nat × Nat} {Q : State → Prop} {M : zM} {pc : Nat} {ls : List (Nat × Value)} {st : List Value} {y' : MethodName} {cc' : ByteArray} {n' : Nat} {ret' : Option FieldType} {d' : Nat} {As rest : List Value} {M1 : zM} {ix k : Nat} {a : Int32} (hC : CP L X.2.1 y' cc' n' ret' d' M As (some (.int a)) M1) (hf : zcf y' cc' n' ret' k) (hn : As.length = k) (hd : d' + 1 ≤ dd) (hl : Cond.methodLink y.cls ix y' ∈ zw ∧ Cond.static y' ∈ zw) (hcat : (rest.map fun v => v.category).sum ≤ 8) (hst : st = As.reverse ++ rest) (d : decode cc pc = .ok (.invokestatic ix, 3)) (kk : V L X y cc nL ret dd M0 N Q M1 (pc + 3) ls (.int a :: rest)) : V L X y cc nL ret dd M0 N Q M pc ls st :=
  V_callS hC hf hn hd hl hcat hst d kk
theorem V_callS_J {L : zL} {X : zX} {y : MethodName} {cc : ByteArray} {nL : Nat} {ret : Option FieldType} {dd : Nat} {M0 : zM} {N : Nat × Nat} {Q : State → Prop} {M : zM} {pc : Nat} {ls : List (Nat × Value)} {st : List Value} {y' : MethodName} {cc' : ByteArray} {n' : Nat} {ret' : Option FieldType} {d' : Nat} {As rest : List Value} {M1 : zM} {ix k : Nat} {a : Int64} (hC : CP L X.2.1 y' cc' n' ret' d' M As (some (.long a)) M1) (hf : zcf y' cc' n' ret' k) (hn : As.length = k) (hd : d' + 1 ≤ dd) (hl : Cond.methodLink y.cls ix y' ∈ zw ∧ Cond.static y' ∈ zw) (hcat : (rest.map fun v => v.category).sum ≤ 8) (hst : st = As.reverse ++ rest) (d : decode cc pc = .ok (.invokestatic ix, 3)) (kk : V L X y cc nL ret dd M0 N Q M1 (pc + 3) ls (.long a :: rest)) : V L X y cc nL ret dd M0 N Q M pc ls st :=
  V_callS hC hf hn hd hl hcat hst d kk
theorem V_callS_D {L : zL} {X : zX} {y : MethodName} {cc : ByteArray} {nL : Nat} {ret : Option FieldType} {dd : Nat} {M0 : zM} {N : Nat × Nat} {Q : State → Prop} {M : zM} {pc : Nat} {ls : List (Nat × Value)} {st : List Value} {y' : MethodName} {cc' : ByteArray} {n' : Nat} {ret' : Option FieldType} {d' : Nat} {As rest : List Value} {M1 : zM} {ix k : Nat} {a : UInt64} (hC : CP L X.2.1 y' cc' n' ret' d' M As (some (.double a)) M1) (hf : zcf y' cc' n' ret' k) (hn : As.length = k) (hd : d' + 1 ≤ dd) (hl : Cond.methodLink y.cls ix y' ∈ zw ∧ Cond.static y' ∈ zw) (hcat : (rest.map fun v => v.category).sum ≤ 8) (hst : st = As.reverse ++ rest) (d : decode cc pc = .ok (.invokestatic ix, 3)) (kk : V L X y cc nL ret dd M0 N Q M1 (pc + 3) ls (.double a :: rest)) : V L X y cc nL ret dd M0 N Q M pc ls st :=
  V_callS hC hf hn hd hl hcat hst d kk
theorem V_callS_A {L : zL} {X : zX} {y : MethodName} {cc : ByteArray} {nL : Nat} {ret : Option FieldType} {dd : Nat} {M0 : zM} {N : Nat × Nat} {Q : State → Prop} {M : zM} {pc : Nat} {ls : List (Nat × Value)} {st : List Value} {y' : MethodName} {cc' : ByteArray} {n' : Nat} {ret' : Option FieldType} {d' : Nat} {As rest : List Value} {M1 : zM} {ix k : Nat} {a : Nat} (hC : CP L X.2.1 y' cc' n' ret' d' M As (some (.ref (zad L a))) M1) (hf : zcf y' cc' n' ret' k) (hn : As.length = k) (hd : d' + 1 ≤ dd) (hl : Cond.methodLink y.cls ix y' ∈ zw ∧ Cond.static y' ∈ zw) (hcat : (rest.map fun v => v.category).sum ≤ 8) (hst : st = As.reverse ++ rest) (d : decode cc pc = .ok (.invokestatic ix, 3)) (kk : V L X y cc nL ret dd M0 N Q M1 (pc + 3) ls (.ref (zad L a) :: rest)) : V L X y cc nL ret dd M0 N Q M pc ls st :=
  V_callS hC hf hn hd hl hcat hst d kk
theorem V_callS_V {L : zL} {X : zX} {y : MethodName} {cc : ByteArray} {nL : Nat} {ret : Option FieldType} {dd : Nat} {M0 : zM} {N : Nat × Nat} {Q : State → Prop} {M : zM} {pc : Nat} {ls : List (Nat × Value)} {st : List Value} {y' : MethodName} {cc' : ByteArray} {n' : Nat} {ret' : Option FieldType} {d' : Nat} {As rest : List Value} {M1 : zM} {ix k : Nat} (hC : CP L X.2.1 y' cc' n' ret' d' M As none M1) (hf : zcf y' cc' n' ret' k) (hn : As.length = k) (hd : d' + 1 ≤ dd) (hl : Cond.methodLink y.cls ix y' ∈ zw ∧ Cond.static y' ∈ zw) (hcat : (rest.map fun v => v.category).sum ≤ 8) (hst : st = As.reverse ++ rest) (d : decode cc pc = .ok (.invokestatic ix, 3)) (kk : V L X y cc nL ret dd M0 N Q M1 (pc + 3) ls rest) : V L X y cc nL ret dd M0 N Q M pc ls st :=
  V_callS hC hf hn hd hl hcat hst d kk
theorem V_callSN_I {L : zL} {X : zX} {y : MethodName} {cc : ByteArray} {nL : Nat} {ret : Option FieldType} {dd : Nat} {M0 : zM} {N : Nat × Nat} {Q : State → Prop} {M : zM} {pc : Nat} {ls : List (Nat × Value)} {st : List Value} {y' : MethodName} {cc' : ByteArray} {n' : Nat} {ret' : Option FieldType} {d' : Nat} {As rest : List Value} {M1 : zM} {ix k : Nat} {a : Int32} (hC : CP L X.2.1 y' cc' n' ret' d' M As (some (.int a)) M1) (hf : zcf y' cc' n' ret' k) (hn : As.length = k) (hd : d' + 1 ≤ dd) {host : String} (hl : Cond.methodLinkNest y.cls ix y' host ∈ zsp ∧ Cond.static y' ∈ zw) (hcat : (rest.map fun v => v.category).sum ≤ 8) (hst : st = As.reverse ++ rest) (d : decode cc pc = .ok (.invokestatic ix, 3)) (kk : V L X y cc nL ret dd M0 N Q M1 (pc + 3) ls (.int a :: rest)) : V L X y cc nL ret dd M0 N Q M pc ls st :=
  V_callSN hC hf hn hd hl hcat hst d kk
theorem V_callSN_J {L : zL} {X : zX} {y : MethodName} {cc : ByteArray} {nL : Nat} {ret : Option FieldType} {dd : Nat} {M0 : zM} {N : Nat × Nat} {Q : State → Prop} {M : zM} {pc : Nat} {ls : List (Nat × Value)} {st : List Value} {y' : MethodName} {cc' : ByteArray} {n' : Nat} {ret' : Option FieldType} {d' : Nat} {As rest : List Value} {M1 : zM} {ix k : Nat} {a : Int64} (hC : CP L X.2.1 y' cc' n' ret' d' M As (some (.long a)) M1) (hf : zcf y' cc' n' ret' k) (hn : As.length = k) (hd : d' + 1 ≤ dd) {host : String} (hl : Cond.methodLinkNest y.cls ix y' host ∈ zsp ∧ Cond.static y' ∈ zw) (hcat : (rest.map fun v => v.category).sum ≤ 8) (hst : st = As.reverse ++ rest) (d : decode cc pc = .ok (.invokestatic ix, 3)) (kk : V L X y cc nL ret dd M0 N Q M1 (pc + 3) ls (.long a :: rest)) : V L X y cc nL ret dd M0 N Q M pc ls st :=
  V_callSN hC hf hn hd hl hcat hst d kk
theorem V_callSN_D {L : zL} {X : zX} {y : MethodName} {cc : ByteArray} {nL : Nat} {ret : Option FieldType} {dd : Nat} {M0 : zM} {N : Nat × Nat} {Q : State → Prop} {M : zM} {pc : Nat} {ls : List (Nat × Value)} {st : List Value} {y' : MethodName} {cc' : ByteArray} {n' : Nat} {ret' : Option FieldType} {d' : Nat} {As rest : List Value} {M1 : zM} {ix k : Nat} {a : UInt64} (hC : CP L X.2.1 y' cc' n' ret' d' M As (some (.double a)) M1) (hf : zcf y' cc' n' ret' k) (hn : As.length = k) (hd : d' + 1 ≤ dd) {host : String} (hl : Cond.methodLinkNest y.cls ix y' host ∈ zsp ∧ Cond.static y' ∈ zw) (hcat : (rest.map fun v => v.category).sum ≤ 8) (hst : st = As.reverse ++ rest) (d : decode cc pc = .ok (.invokestatic ix, 3)) (kk : V L X y cc nL ret dd M0 N Q M1 (pc + 3) ls (.double a :: rest)) : V L X y cc nL ret dd M0 N Q M pc ls st :=
  V_callSN hC hf hn hd hl hcat hst d kk
theorem V_callSN_A {L : zL} {X : zX} {y : MethodName} {cc : ByteArray} {nL : Nat} {ret : Option FieldType} {dd : Nat} {M0 : zM} {N : Nat × Nat} {Q : State → Prop} {M : zM} {pc : Nat} {ls : List (Nat × Value)} {st : List Value} {y' : MethodName} {cc' : ByteArray} {n' : Nat} {ret' : Option FieldType} {d' : Nat} {As rest : List Value} {M1 : zM} {ix k : Nat} {a : Nat} (hC : CP L X.2.1 y' cc' n' ret' d' M As (some (.ref (zad L a))) M1) (hf : zcf y' cc' n' ret' k) (hn : As.length = k) (hd : d' + 1 ≤ dd) {host : String} (hl : Cond.methodLinkNest y.cls ix y' host ∈ zsp ∧ Cond.static y' ∈ zw) (hcat : (rest.map fun v => v.category).sum ≤ 8) (hst : st = As.reverse ++ rest) (d : decode cc pc = .ok (.invokestatic ix, 3)) (kk : V L X y cc nL ret dd M0 N Q M1 (pc + 3) ls (.ref (zad L a) :: rest)) : V L X y cc nL ret dd M0 N Q M pc ls st :=
  V_callSN hC hf hn hd hl hcat hst d kk
theorem V_callSN_V {L : zL} {X : zX} {y : MethodName} {cc : ByteArray} {nL : Nat} {ret : Option FieldType} {dd : Nat} {M0 : zM} {N : Nat × Nat} {Q : State → Prop} {M : zM} {pc : Nat} {ls : List (Nat × Value)} {st : List Value} {y' : MethodName} {cc' : ByteArray} {n' : Nat} {ret' : Option FieldType} {d' : Nat} {As rest : List Value} {M1 : zM} {ix k : Nat} (hC : CP L X.2.1 y' cc' n' ret' d' M As none M1) (hf : zcf y' cc' n' ret' k) (hn : As.length = k) (hd : d' + 1 ≤ dd) {host : String} (hl : Cond.methodLinkNest y.cls ix y' host ∈ zsp ∧ Cond.static y' ∈ zw) (hcat : (rest.map fun v => v.category).sum ≤ 8) (hst : st = As.reverse ++ rest) (d : decode cc pc = .ok (.invokestatic ix, 3)) (kk : V L X y cc nL ret dd M0 N Q M1 (pc + 3) ls rest) : V L X y cc nL ret dd M0 N Q M pc ls st :=
  V_callSN hC hf hn hd hl hcat hst d kk
theorem V_callV_I {L : zL} {X : zX} {y : MethodName} {cc : ByteArray} {nL : Nat} {ret : Option FieldType} {dd : Nat} {M0 : zM} {N : Nat × Nat} {Q : State → Prop} {M : zM} {pc : Nat} {ls : List (Nat × Value)} {st : List Value} {y' : MethodName} {cc' : ByteArray} {n' : Nat} {ret' : Option FieldType} {d' : Nat} {As rest : List Value} {M1 : zM} {ix k : Nat} {a : Int32} {b : Nat} (hC : CP L X.2.1 y' cc' n' ret' d' M (.ref (zad L b) :: As) (some (.int a)) M1) (hf : zcf y' cc' n' ret' k) (hn : As.length = k) (hd : d' + 1 ≤ dd) {kb NN : Nat} {C : String} {T : u_T} (hc : vwCl[kb - 1]? = some (C, T, NN)) (k0 : 0 < kb ∧ kb < 100) (hv : mK M b = kb ∨ mK M b = 300 + kb) (hl : Cond.methodLink y.cls ix y' ∈ zw ∧ Cond.instanceMethod y' ∈ zw ∧ Cond.selects C y' y' ∈ zw) (hcat : (rest.map fun v => v.category).sum ≤ 8) (hst : st = As.reverse ++ .ref (zad L b) :: rest) (d : decode cc pc = .ok (.invokevirtual ix, 3)) (kk : V L X y cc nL ret dd M0 N Q M1 (pc + 3) ls (.int a :: rest)) : V L X y cc nL ret dd M0 N Q M pc ls st :=
  V_callV hC hf hn hd hc k0 hv hl hcat hst d kk
theorem V_callV_J {L : zL} {X : zX} {y : MethodName} {cc : ByteArray} {nL : Nat} {ret : Option FieldType} {dd : Nat} {M0 : zM} {N : Nat × Nat} {Q : State → Prop} {M : zM} {pc : Nat} {ls : List (Nat × Value)} {st : List Value} {y' : MethodName} {cc' : ByteArray} {n' : Nat} {ret' : Option FieldType} {d' : Nat} {As rest : List Value} {M1 : zM} {ix k : Nat} {a : Int64} {b : Nat} (hC : CP L X.2.1 y' cc' n' ret' d' M (.ref (zad L b) :: As) (some (.long a)) M1) (hf : zcf y' cc' n' ret' k) (hn : As.length = k) (hd : d' + 1 ≤ dd) {kb NN : Nat} {C : String} {T : u_T} (hc : vwCl[kb - 1]? = some (C, T, NN)) (k0 : 0 < kb ∧ kb < 100) (hv : mK M b = kb ∨ mK M b = 300 + kb) (hl : Cond.methodLink y.cls ix y' ∈ zw ∧ Cond.instanceMethod y' ∈ zw ∧ Cond.selects C y' y' ∈ zw) (hcat : (rest.map fun v => v.category).sum ≤ 8) (hst : st = As.reverse ++ .ref (zad L b) :: rest) (d : decode cc pc = .ok (.invokevirtual ix, 3)) (kk : V L X y cc nL ret dd M0 N Q M1 (pc + 3) ls (.long a :: rest)) : V L X y cc nL ret dd M0 N Q M pc ls st :=
  V_callV hC hf hn hd hc k0 hv hl hcat hst d kk
theorem V_callV_D {L : zL} {X : zX} {y : MethodName} {cc : ByteArray} {nL : Nat} {ret : Option FieldType} {dd : Nat} {M0 : zM} {N : Nat × Nat} {Q : State → Prop} {M : zM} {pc : Nat} {ls : List (Nat × Value)} {st : List Value} {y' : MethodName} {cc' : ByteArray} {n' : Nat} {ret' : Option FieldType} {d' : Nat} {As rest : List Value} {M1 : zM} {ix k : Nat} {a : UInt64} {b : Nat} (hC : CP L X.2.1 y' cc' n' ret' d' M (.ref (zad L b) :: As) (some (.double a)) M1) (hf : zcf y' cc' n' ret' k) (hn : As.length = k) (hd : d' + 1 ≤ dd) {kb NN : Nat} {C : String} {T : u_T} (hc : vwCl[kb - 1]? = some (C, T, NN)) (k0 : 0 < kb ∧ kb < 100) (hv : mK M b = kb ∨ mK M b = 300 + kb) (hl : Cond.methodLink y.cls ix y' ∈ zw ∧ Cond.instanceMethod y' ∈ zw ∧ Cond.selects C y' y' ∈ zw) (hcat : (rest.map fun v => v.category).sum ≤ 8) (hst : st = As.reverse ++ .ref (zad L b) :: rest) (d : decode cc pc = .ok (.invokevirtual ix, 3)) (kk : V L X y cc nL ret dd M0 N Q M1 (pc + 3) ls (.double a :: rest)) : V L X y cc nL ret dd M0 N Q M pc ls st :=
  V_callV hC hf hn hd hc k0 hv hl hcat hst d kk
theorem V_callV_A {L : zL} {X : zX} {y : MethodName} {cc : ByteArray} {nL : Nat} {ret : Option FieldType} {dd : Nat} {M0 : zM} {N : Nat × Nat} {Q : State → Prop} {M : zM} {pc : Nat} {ls : List (Nat × Value)} {st : List Value} {y' : MethodName} {cc' : ByteArray} {n' : Nat} {ret' : Option FieldType} {d' : Nat} {As rest : List Value} {M1 : zM} {ix k : Nat} {a : Nat} {b : Nat} (hC : CP L X.2.1 y' cc' n' ret' d' M (.ref (zad L b) :: As) (some (.ref (zad L a))) M1) (hf : zcf y' cc' n' ret' k) (hn : As.length = k) (hd : d' + 1 ≤ dd) {kb NN : Nat} {C : String} {T : u_T} (hc : vwCl[kb - 1]? = some (C, T, NN)) (k0 : 0 < kb ∧ kb < 100) (hv : mK M b = kb ∨ mK M b = 300 + kb) (hl : Cond.methodLink y.cls ix y' ∈ zw ∧ Cond.instanceMethod y' ∈ zw ∧ Cond.selects C y' y' ∈ zw) (hcat : (rest.map fun v => v.category).sum ≤ 8) (hst : st = As.reverse ++ .ref (zad L b) :: rest) (d : decode cc pc = .ok (.invokevirtual ix, 3)) (kk : V L X y cc nL ret dd M0 N Q M1 (pc + 3) ls (.ref (zad L a) :: rest)) : V L X y cc nL ret dd M0 N Q M pc ls st :=
  V_callV hC hf hn hd hc k0 hv hl hcat hst d kk
theorem V_callV_V {L : zL} {X : zX} {y : MethodName} {cc : ByteArray} {nL : Nat} {ret : Option FieldType} {dd : Nat} {M0 : zM} {N : Nat × Nat} {Q : State → Prop} {M : zM} {pc : Nat} {ls : List (Nat × Value)} {st : List Value} {y' : MethodName} {cc' : ByteArray} {n' : Nat} {ret' : Option FieldType} {d' : Nat} {As rest : List Value} {M1 : zM} {ix k : Nat} {b : Nat} (hC : CP L X.2.1 y' cc' n' ret' d' M (.ref (zad L b) :: As) none M1) (hf : zcf y' cc' n' ret' k) (hn : As.length = k) (hd : d' + 1 ≤ dd) {kb NN : Nat} {C : String} {T : u_T} (hc : vwCl[kb - 1]? = some (C, T, NN)) (k0 : 0 < kb ∧ kb < 100) (hv : mK M b = kb ∨ mK M b = 300 + kb) (hl : Cond.methodLink y.cls ix y' ∈ zw ∧ Cond.instanceMethod y' ∈ zw ∧ Cond.selects C y' y' ∈ zw) (hcat : (rest.map fun v => v.category).sum ≤ 8) (hst : st = As.reverse ++ .ref (zad L b) :: rest) (d : decode cc pc = .ok (.invokevirtual ix, 3)) (kk : V L X y cc nL ret dd M0 N Q M1 (pc + 3) ls rest) : V L X y cc nL ret dd M0 N Q M pc ls st :=
  V_callV hC hf hn hd hc k0 hv hl hcat hst d kk
theorem V_callVN_I {L : zL} {X : zX} {y : MethodName} {cc : ByteArray} {nL : Nat} {ret : Option FieldType} {dd : Nat} {M0 : zM} {N : Nat × Nat} {Q : State → Prop} {M : zM} {pc : Nat} {ls : List (Nat × Value)} {st : List Value} {y' : MethodName} {cc' : ByteArray} {n' : Nat} {ret' : Option FieldType} {d' : Nat} {As rest : List Value} {M1 : zM} {ix k : Nat} {a : Int32} {b : Nat} (hC : CP L X.2.1 y' cc' n' ret' d' M (.ref (zad L b) :: As) (some (.int a)) M1) (hf : zcf y' cc' n' ret' k) (hn : As.length = k) (hd : d' + 1 ≤ dd) {kb NN : Nat} {C : String} {T : u_T} (hc : vwCl[kb - 1]? = some (C, T, NN)) (k0 : 0 < kb ∧ kb < 100) (hv : mK M b = kb ∨ mK M b = 300 + kb) {host : String} (hl : Cond.methodLinkNest y.cls ix y' host ∈ zsp ∧ Cond.instanceMethod y' ∈ zw ∧ Cond.selects C y' y' ∈ zw) (hcat : (rest.map fun v => v.category).sum ≤ 8) (hst : st = As.reverse ++ .ref (zad L b) :: rest) (d : decode cc pc = .ok (.invokevirtual ix, 3)) (kk : V L X y cc nL ret dd M0 N Q M1 (pc + 3) ls (.int a :: rest)) : V L X y cc nL ret dd M0 N Q M pc ls st :=
  V_callVN hC hf hn hd hc k0 hv hl hcat hst d kk
theorem V_callVN_J {L : zL} {X : zX} {y : MethodName} {cc : ByteArray} {nL : Nat} {ret : Option FieldType} {dd : Nat} {M0 : zM} {N : Nat × Nat} {Q : State → Prop} {M : zM} {pc : Nat} {ls : List (Nat × Value)} {st : List Value} {y' : MethodName} {cc' : ByteArray} {n' : Nat} {ret' : Option FieldType} {d' : Nat} {As rest : List Value} {M1 : zM} {ix k : Nat} {a : Int64} {b : Nat} (hC : CP L X.2.1 y' cc' n' ret' d' M (.ref (zad L b) :: As) (some (.long a)) M1) (hf : zcf y' cc' n' ret' k) (hn : As.length = k) (hd : d' + 1 ≤ dd) {kb NN : Nat} {C : String} {T : u_T} (hc : vwCl[kb - 1]? = some (C, T, NN)) (k0 : 0 < kb ∧ kb < 100) (hv : mK M b = kb ∨ mK M b = 300 + kb) {host : String} (hl : Cond.methodLinkNest y.cls ix y' host ∈ zsp ∧ Cond.instanceMethod y' ∈ zw ∧ Cond.selects C y' y' ∈ zw) (hcat : (rest.map fun v => v.category).sum ≤ 8) (hst : st = As.reverse ++ .ref (zad L b) :: rest) (d : decode cc pc = .ok (.invokevirtual ix, 3)) (kk : V L X y cc nL ret dd M0 N Q M1 (pc + 3) ls (.long a :: rest)) : V L X y cc nL ret dd M0 N Q M pc ls st :=
  V_callVN hC hf hn hd hc k0 hv hl hcat hst d kk
theorem V_callVN_D {L : zL} {X : zX} {y : MethodName} {cc : ByteArray} {nL : Nat} {ret : Option FieldType} {dd : Nat} {M0 : zM} {N : Nat × Nat} {Q : State → Prop} {M : zM} {pc : Nat} {ls : List (Nat × Value)} {st : List Value} {y' : MethodName} {cc' : ByteArray} {n' : Nat} {ret' : Option FieldType} {d' : Nat} {As rest : List Value} {M1 : zM} {ix k : Nat} {a : UInt64} {b : Nat} (hC : CP L X.2.1 y' cc' n' ret' d' M (.ref (zad L b) :: As) (some (.double a)) M1) (hf : zcf y' cc' n' ret' k) (hn : As.length = k) (hd : d' + 1 ≤ dd) {kb NN : Nat} {C : String} {T : u_T} (hc : vwCl[kb - 1]? = some (C, T, NN)) (k0 : 0 < kb ∧ kb < 100) (hv : mK M b = kb ∨ mK M b = 300 + kb) {host : String} (hl : Cond.methodLinkNest y.cls ix y' host ∈ zsp ∧ Cond.instanceMethod y' ∈ zw ∧ Cond.selects C y' y' ∈ zw) (hcat : (rest.map fun v => v.category).sum ≤ 8) (hst : st = As.reverse ++ .ref (zad L b) :: rest) (d : decode cc pc = .ok (.invokevirtual ix, 3)) (kk : V L X y cc nL ret dd M0 N Q M1 (pc + 3) ls (.double a :: rest)) : V L X y cc nL ret dd M0 N Q M pc ls st :=
  V_callVN hC hf hn hd hc k0 hv hl hcat hst d kk
theorem V_callVN_A {L : zL} {X : zX} {y : MethodName} {cc : ByteArray} {nL : Nat} {ret : Option FieldType} {dd : Nat} {M0 : zM} {N : Nat × Nat} {Q : State → Prop} {M : zM} {pc : Nat} {ls : List (Nat × Value)} {st : List Value} {y' : MethodName} {cc' : ByteArray} {n' : Nat} {ret' : Option FieldType} {d' : Nat} {As rest : List Value} {M1 : zM} {ix k : Nat} {a : Nat} {b : Nat} (hC : CP L X.2.1 y' cc' n' ret' d' M (.ref (zad L b) :: As) (some (.ref (zad L a))) M1) (hf : zcf y' cc' n' ret' k) (hn : As.length = k) (hd : d' + 1 ≤ dd) {kb NN : Nat} {C : String} {T : u_T} (hc : vwCl[kb - 1]? = some (C, T, NN)) (k0 : 0 < kb ∧ kb < 100) (hv : mK M b = kb ∨ mK M b = 300 + kb) {host : String} (hl : Cond.methodLinkNest y.cls ix y' host ∈ zsp ∧ Cond.instanceMethod y' ∈ zw ∧ Cond.selects C y' y' ∈ zw) (hcat : (rest.map fun v => v.category).sum ≤ 8) (hst : st = As.reverse ++ .ref (zad L b) :: rest) (d : decode cc pc = .ok (.invokevirtual ix, 3)) (kk : V L X y cc nL ret dd M0 N Q M1 (pc + 3) ls (.ref (zad L a) :: rest)) : V L X y cc nL ret dd M0 N Q M pc ls st :=
  V_callVN hC hf hn hd hc k0 hv hl hcat hst d kk
theorem V_callVN_V {L : zL} {X : zX} {y : MethodName} {cc : ByteArray} {nL : Nat} {ret : Option FieldType} {dd : Nat} {M0 : zM} {N : Nat × Nat} {Q : State → Prop} {M : zM} {pc : Nat} {ls : List (Nat × Value)} {st : List Value} {y' : MethodName} {cc' : ByteArray} {n' : Nat} {ret' : Option FieldType} {d' : Nat} {As rest : List Value} {M1 : zM} {ix k : Nat} {b : Nat} (hC : CP L X.2.1 y' cc' n' ret' d' M (.ref (zad L b) :: As) none M1) (hf : zcf y' cc' n' ret' k) (hn : As.length = k) (hd : d' + 1 ≤ dd) {kb NN : Nat} {C : String} {T : u_T} (hc : vwCl[kb - 1]? = some (C, T, NN)) (k0 : 0 < kb ∧ kb < 100) (hv : mK M b = kb ∨ mK M b = 300 + kb) {host : String} (hl : Cond.methodLinkNest y.cls ix y' host ∈ zsp ∧ Cond.instanceMethod y' ∈ zw ∧ Cond.selects C y' y' ∈ zw) (hcat : (rest.map fun v => v.category).sum ≤ 8) (hst : st = As.reverse ++ .ref (zad L b) :: rest) (d : decode cc pc = .ok (.invokevirtual ix, 3)) (kk : V L X y cc nL ret dd M0 N Q M1 (pc + 3) ls rest) : V L X y cc nL ret dd M0 N Q M pc ls st :=
  V_callVN hC hf hn hd hc k0 hv hl hcat hst d kk
theorem V_callI_V {L : zL} {X : zX} {y : MethodName} {cc : ByteArray} {nL : Nat} {ret : Option FieldType} {dd : Nat} {M0 : zM} {N : Nat × Nat} {Q : State → Prop} {M : zM} {pc : Nat} {ls : List (Nat × Value)} {st : List Value} {y' : MethodName} {cc' : ByteArray} {n' : Nat} {ret' : Option FieldType} {d' : Nat} {As rest : List Value} {M1 : zM} {ix k : Nat} {b : Nat} (hC : CP L X.2.1 y' cc' n' ret' d' M (.ref (zad L b) :: As) none M1) (hf : zcf y' cc' n' ret' k) (hn : As.length = k) (hd : d' + 1 ≤ dd) (hl : Cond.methodLink y.cls ix y' ∈ zw ∧ Cond.instanceMethod y' ∈ zw ∧ y'.name = "<init>") (hret : ret' = none) (hcat : (rest.map fun v => v.category).sum ≤ 8) (hst : st = As.reverse ++ .ref (zad L b) :: rest) (d : decode cc pc = .ok (.invokespecial ix, 3)) (kk : V L X y cc nL ret dd M0 N Q M1 (pc + 3) ls rest) : V L X y cc nL ret dd M0 N Q M pc ls st :=
  V_callI hC hf hn hd hl hret hcat hst d kk
theorem V_callIN_V {L : zL} {X : zX} {y : MethodName} {cc : ByteArray} {nL : Nat} {ret : Option FieldType} {dd : Nat} {M0 : zM} {N : Nat × Nat} {Q : State → Prop} {M : zM} {pc : Nat} {ls : List (Nat × Value)} {st : List Value} {y' : MethodName} {cc' : ByteArray} {n' : Nat} {ret' : Option FieldType} {d' : Nat} {As rest : List Value} {M1 : zM} {ix k : Nat} {b : Nat} (hC : CP L X.2.1 y' cc' n' ret' d' M (.ref (zad L b) :: As) none M1) (hf : zcf y' cc' n' ret' k) (hn : As.length = k) (hd : d' + 1 ≤ dd) {host : String} (hl : Cond.methodLinkNest y.cls ix y' host ∈ zsp ∧ Cond.instanceMethod y' ∈ zw ∧ y'.name = "<init>") (hret : ret' = none) (hcat : (rest.map fun v => v.category).sum ≤ 8) (hst : st = As.reverse ++ .ref (zad L b) :: rest) (d : decode cc pc = .ok (.invokespecial ix, 3)) (kk : V L X y cc nL ret dd M0 N Q M1 (pc + 3) ls rest) : V L X y cc nL ret dd M0 N Q M pc ls st :=
  V_callIN hC hf hn hd hl hret hcat hst d kk
theorem V_callSx_I {L : zL} {X : zX} {y : MethodName} {cc : ByteArray} {nL : Nat} {ret : Option FieldType} {dd : Nat} {M0 : zM} {N : Nat × Nat} {Q : State → Prop} {M : zM} {pc : Nat} {ls : List (Nat × Value)} {st : List Value} {y' : MethodName} {cc' : ByteArray} {n' : Nat} {ret' : Option FieldType} {d' : Nat} {As rest : List Value} {M1 : zM} {ix k : Nat} {a : Int32} (hC : CX L X.2.1 y' cc' n' ret' d' M As (.inr (some (.int a))) M1) (hf : zcf y' cc' n' ret' k) (hn : As.length = k) (hd : d' + 1 ≤ dd) (hl : Cond.methodLink y.cls ix y' ∈ zw ∧ Cond.static y' ∈ zw) (hcat : (rest.map fun v => v.category).sum ≤ 8) (hst : st = As.reverse ++ rest) (d : decode cc pc = .ok (.invokestatic ix, 3)) (kk : V L X y cc nL ret dd M0 N Q M1 (pc + 3) ls (.int a :: rest)) : V L X y cc nL ret dd M0 N Q M pc ls st :=
  V_callSx hC hf hn hd hl hcat hst d kk
theorem V_callSx_J {L : zL} {X : zX} {y : MethodName} {cc : ByteArray} {nL : Nat} {ret : Option FieldType} {dd : Nat} {M0 : zM} {N : Nat × Nat} {Q : State → Prop} {M : zM} {pc : Nat} {ls : List (Nat × Value)} {st : List Value} {y' : MethodName} {cc' : ByteArray} {n' : Nat} {ret' : Option FieldType} {d' : Nat} {As rest : List Value} {M1 : zM} {ix k : Nat} {a : Int64} (hC : CX L X.2.1 y' cc' n' ret' d' M As (.inr (some (.long a))) M1) (hf : zcf y' cc' n' ret' k) (hn : As.length = k) (hd : d' + 1 ≤ dd) (hl : Cond.methodLink y.cls ix y' ∈ zw ∧ Cond.static y' ∈ zw) (hcat : (rest.map fun v => v.category).sum ≤ 8) (hst : st = As.reverse ++ rest) (d : decode cc pc = .ok (.invokestatic ix, 3)) (kk : V L X y cc nL ret dd M0 N Q M1 (pc + 3) ls (.long a :: rest)) : V L X y cc nL ret dd M0 N Q M pc ls st :=
  V_callSx hC hf hn hd hl hcat hst d kk
theorem V_callSx_D {L : zL} {X : zX} {y : MethodName} {cc : ByteArray} {nL : Nat} {ret : Option FieldType} {dd : Nat} {M0 : zM} {N : Nat × Nat} {Q : State → Prop} {M : zM} {pc : Nat} {ls : List (Nat × Value)} {st : List Value} {y' : MethodName} {cc' : ByteArray} {n' : Nat} {ret' : Option FieldType} {d' : Nat} {As rest : List Value} {M1 : zM} {ix k : Nat} {a : UInt64} (hC : CX L X.2.1 y' cc' n' ret' d' M As (.inr (some (.double a))) M1) (hf : zcf y' cc' n' ret' k) (hn : As.length = k) (hd : d' + 1 ≤ dd) (hl : Cond.methodLink y.cls ix y' ∈ zw ∧ Cond.static y' ∈ zw) (hcat : (rest.map fun v => v.category).sum ≤ 8) (hst : st = As.reverse ++ rest) (d : decode cc pc = .ok (.invokestatic ix, 3)) (kk : V L X y cc nL ret dd M0 N Q M1 (pc + 3) ls (.double a :: rest)) : V L X y cc nL ret dd M0 N Q M pc ls st :=
  V_callSx hC hf hn hd hl hcat hst d kk
theorem V_callSx_A {L : zL} {X : zX} {y : MethodName} {cc : ByteArray} {nL : Nat} {ret : Option FieldType} {dd : Nat} {M0 : zM} {N : Nat × Nat} {Q : State → Prop} {M : zM} {pc : Nat} {ls : List (Nat × Value)} {st : List Value} {y' : MethodName} {cc' : ByteArray} {n' : Nat} {ret' : Option FieldType} {d' : Nat} {As rest : List Value} {M1 : zM} {ix k : Nat} {a : Nat} (hC : CX L X.2.1 y' cc' n' ret' d' M As (.inr (some (.ref (zad L a)))) M1) (hf : zcf y' cc' n' ret' k) (hn : As.length = k) (hd : d' + 1 ≤ dd) (hl : Cond.methodLink y.cls ix y' ∈ zw ∧ Cond.static y' ∈ zw) (hcat : (rest.map fun v => v.category).sum ≤ 8) (hst : st = As.reverse ++ rest) (d : decode cc pc = .ok (.invokestatic ix, 3)) (kk : V L X y cc nL ret dd M0 N Q M1 (pc + 3) ls (.ref (zad L a) :: rest)) : V L X y cc nL ret dd M0 N Q M pc ls st :=
  V_callSx hC hf hn hd hl hcat hst d kk
theorem V_callSx_V {L : zL} {X : zX} {y : MethodName} {cc : ByteArray} {nL : Nat} {ret : Option FieldType} {dd : Nat} {M0 : zM} {N : Nat × Nat} {Q : State → Prop} {M : zM} {pc : Nat} {ls : List (Nat × Value)} {st : List Value} {y' : MethodName} {cc' : ByteArray} {n' : Nat} {ret' : Option FieldType} {d' : Nat} {As rest : List Value} {M1 : zM} {ix k : Nat} (hC : CX L X.2.1 y' cc' n' ret' d' M As (.inr none) M1) (hf : zcf y' cc' n' ret' k) (hn : As.length = k) (hd : d' + 1 ≤ dd) (hl : Cond.methodLink y.cls ix y' ∈ zw ∧ Cond.static y' ∈ zw) (hcat : (rest.map fun v => v.category).sum ≤ 8) (hst : st = As.reverse ++ rest) (d : decode cc pc = .ok (.invokestatic ix, 3)) (kk : V L X y cc nL ret dd M0 N Q M1 (pc + 3) ls rest) : V L X y cc nL ret dd M0 N Q M pc ls st :=
  V_callSx hC hf hn hd hl hcat hst d kk
theorem V_callVx_I {L : zL} {X : zX} {y : MethodName} {cc : ByteArray} {nL : Nat} {ret : Option FieldType} {dd : Nat} {M0 : zM} {N : Nat × Nat} {Q : State → Prop} {M : zM} {pc : Nat} {ls : List (Nat × Value)} {st : List Value} {y' : MethodName} {cc' : ByteArray} {n' : Nat} {ret' : Option FieldType} {d' : Nat} {As rest : List Value} {M1 : zM} {ix k : Nat} {a : Int32} {b : Nat} (hC : CX L X.2.1 y' cc' n' ret' d' M (.ref (zad L b) :: As) (.inr (some (.int a))) M1) (hf : zcf y' cc' n' ret' k) (hn : As.length = k) (hd : d' + 1 ≤ dd) {kb NN : Nat} {C : String} {T : u_T} (hc : vwCl[kb - 1]? = some (C, T, NN)) (k0 : 0 < kb ∧ kb < 100) (hv : mK M b = kb ∨ mK M b = 300 + kb) (hl : Cond.methodLink y.cls ix y' ∈ zw ∧ Cond.instanceMethod y' ∈ zw ∧ Cond.selects C y' y' ∈ zw) (hcat : (rest.map fun v => v.category).sum ≤ 8) (hst : st = As.reverse ++ .ref (zad L b) :: rest) (d : decode cc pc = .ok (.invokevirtual ix, 3)) (kk : V L X y cc nL ret dd M0 N Q M1 (pc + 3) ls (.int a :: rest)) : V L X y cc nL ret dd M0 N Q M pc ls st :=
  V_callVx hC hf hn hd hc k0 hv hl hcat hst d kk
theorem V_callVx_J {L : zL} {X : zX} {y : MethodName} {cc : ByteArray} {nL : Nat} {ret : Option FieldType} {dd : Nat} {M0 : zM} {N : Nat × Nat} {Q : State → Prop} {M : zM} {pc : Nat} {ls : List (Nat × Value)} {st : List Value} {y' : MethodName} {cc' : ByteArray} {n' : Nat} {ret' : Option FieldType} {d' : Nat} {As rest : List Value} {M1 : zM} {ix k : Nat} {a : Int64} {b : Nat} (hC : CX L X.2.1 y' cc' n' ret' d' M (.ref (zad L b) :: As) (.inr (some (.long a))) M1) (hf : zcf y' cc' n' ret' k) (hn : As.length = k) (hd : d' + 1 ≤ dd) {kb NN : Nat} {C : String} {T : u_T} (hc : vwCl[kb - 1]? = some (C, T, NN)) (k0 : 0 < kb ∧ kb < 100) (hv : mK M b = kb ∨ mK M b = 300 + kb) (hl : Cond.methodLink y.cls ix y' ∈ zw ∧ Cond.instanceMethod y' ∈ zw ∧ Cond.selects C y' y' ∈ zw) (hcat : (rest.map fun v => v.category).sum ≤ 8) (hst : st = As.reverse ++ .ref (zad L b) :: rest) (d : decode cc pc = .ok (.invokevirtual ix, 3)) (kk : V L X y cc nL ret dd M0 N Q M1 (pc + 3) ls (.long a :: rest)) : V L X y cc nL ret dd M0 N Q M pc ls st :=
  V_callVx hC hf hn hd hc k0 hv hl hcat hst d kk
theorem V_callVx_D {L : zL} {X : zX} {y : MethodName} {cc : ByteArray} {nL : Nat} {ret : Option FieldType} {dd : Nat} {M0 : zM} {N : Nat × Nat} {Q : State → Prop} {M : zM} {pc : Nat} {ls : List (Nat × Value)} {st : List Value} {y' : MethodName} {cc' : ByteArray} {n' : Nat} {ret' : Option FieldType} {d' : Nat} {As rest : List Value} {M1 : zM} {ix k : Nat} {a : UInt64} {b : Nat} (hC : CX L X.2.1 y' cc' n' ret' d' M (.ref (zad L b) :: As) (.inr (some (.double a))) M1) (hf : zcf y' cc' n' ret' k) (hn : As.length = k) (hd : d' + 1 ≤ dd) {kb NN : Nat} {C : String} {T : u_T} (hc : vwCl[kb - 1]? = some (C, T, NN)) (k0 : 0 < kb ∧ kb < 100) (hv : mK M b = kb ∨ mK M b = 300 + kb) (hl : Cond.methodLink y.cls ix y' ∈ zw ∧ Cond.instanceMethod y' ∈ zw ∧ Cond.selects C y' y' ∈ zw) (hcat : (rest.map fun v => v.category).sum ≤ 8) (hst : st = As.reverse ++ .ref (zad L b) :: rest) (d : decode cc pc = .ok (.invokevirtual ix, 3)) (kk : V L X y cc nL ret dd M0 N Q M1 (pc + 3) ls (.double a :: rest)) : V L X y cc nL ret dd M0 N Q M pc ls st :=
  V_callVx hC hf hn hd hc k0 hv hl hcat hst d kk
theorem V_callVx_A {L : zL} {X : zX} {y : MethodName} {cc : ByteArray} {nL : Nat} {ret : Option FieldType} {dd : Nat} {M0 : zM} {N : Nat × Nat} {Q : State → Prop} {M : zM} {pc : Nat} {ls : List (Nat × Value)} {st : List Value} {y' : MethodName} {cc' : ByteArray} {n' : Nat} {ret' : Option FieldType} {d' : Nat} {As rest : List Value} {M1 : zM} {ix k : Nat} {a : Nat} {b : Nat} (hC : CX L X.2.1 y' cc' n' ret' d' M (.ref (zad L b) :: As) (.inr (some (.ref (zad L a)))) M1) (hf : zcf y' cc' n' ret' k) (hn : As.length = k) (hd : d' + 1 ≤ dd) {kb NN : Nat} {C : String} {T : u_T} (hc : vwCl[kb - 1]? = some (C, T, NN)) (k0 : 0 < kb ∧ kb < 100) (hv : mK M b = kb ∨ mK M b = 300 + kb) (hl : Cond.methodLink y.cls ix y' ∈ zw ∧ Cond.instanceMethod y' ∈ zw ∧ Cond.selects C y' y' ∈ zw) (hcat : (rest.map fun v => v.category).sum ≤ 8) (hst : st = As.reverse ++ .ref (zad L b) :: rest) (d : decode cc pc = .ok (.invokevirtual ix, 3)) (kk : V L X y cc nL ret dd M0 N Q M1 (pc + 3) ls (.ref (zad L a) :: rest)) : V L X y cc nL ret dd M0 N Q M pc ls st :=
  V_callVx hC hf hn hd hc k0 hv hl hcat hst d kk
theorem V_callVx_V {L : zL} {X : zX} {y : MethodName} {cc : ByteArray} {nL : Nat} {ret : Option FieldType} {dd : Nat} {M0 : zM} {N : Nat × Nat} {Q : State → Prop} {M : zM} {pc : Nat} {ls : List (Nat × Value)} {st : List Value} {y' : MethodName} {cc' : ByteArray} {n' : Nat} {ret' : Option FieldType} {d' : Nat} {As rest : List Value} {M1 : zM} {ix k : Nat} {b : Nat} (hC : CX L X.2.1 y' cc' n' ret' d' M (.ref (zad L b) :: As) (.inr none) M1) (hf : zcf y' cc' n' ret' k) (hn : As.length = k) (hd : d' + 1 ≤ dd) {kb NN : Nat} {C : String} {T : u_T} (hc : vwCl[kb - 1]? = some (C, T, NN)) (k0 : 0 < kb ∧ kb < 100) (hv : mK M b = kb ∨ mK M b = 300 + kb) (hl : Cond.methodLink y.cls ix y' ∈ zw ∧ Cond.instanceMethod y' ∈ zw ∧ Cond.selects C y' y' ∈ zw) (hcat : (rest.map fun v => v.category).sum ≤ 8) (hst : st = As.reverse ++ .ref (zad L b) :: rest) (d : decode cc pc = .ok (.invokevirtual ix, 3)) (kk : V L X y cc nL ret dd M0 N Q M1 (pc + 3) ls rest) : V L X y cc nL ret dd M0 N Q M pc ls st :=
  V_callVx hC hf hn hd hc k0 hv hl hcat hst d kk
theorem V_callSW_I {L : zL} {X : zX} {y : MethodName} {cc : ByteArray} {nL : Nat} {ret : Option FieldType} {dd : Nat} {M0 : zM} {N : Nat × Nat} {Q : State → Prop} {M : zM} {pc : Nat} {ls : List (Nat × Value)} {st : List Value} {y' : MethodName} {cc' : ByteArray} {n' : Nat} {ret' : Option FieldType} {d' : Nat} {As rest : List Value} {M1 : zM} {ix k : Nat} {a : Int32} {hh : List (Nat × Nat × Nat × Nat)} (hC : CH L X.2.1 y' cc' n' ret' hh d' M As (some (.int a)) M1) (hf : zcfW y' cc' n' ret' hh k) (hn : As.length = k) (hd : d' + 1 ≤ dd) (hl : Cond.methodLink y.cls ix y' ∈ zw ∧ Cond.static y' ∈ zw) (hcat : (rest.map fun v => v.category).sum ≤ 8) (hst : st = As.reverse ++ rest) (d : decode cc pc = .ok (.invokestatic ix, 3)) (kk : V L X y cc nL ret dd M0 N Q M1 (pc + 3) ls (.int a :: rest)) : V L X y cc nL ret dd M0 N Q M pc ls st :=
  V_callSW hC hf hn hd hl hcat hst d kk
theorem V_callU_I {L : zL} {X : zX} {y : MethodName} {cc : ByteArray} {nL : Nat} {ret : Option FieldType} {dd : Nat} {M0 : zM} {N : Nat × Nat} {Q : State → Prop} {M : zM} {pc : Nat} {ls : List (Nat × Value)} {st : List Value} {y' : MethodName} {cc' : ByteArray} {n' : Nat} {ret' : Option FieldType} {d' : Nat} {As rest : List Value} {M1 : zM} {ix k : Nat} {a : Int32} {b : Nat} (hC : CP L X.2.1 y' cc' n' ret' d' M (.ref (zad L b) :: As) (some (.int a)) M1) (hf : zcf y' cc' n' ret' k) (hn : As.length = k) (hd : d' + 1 ≤ dd) {kb NN : Nat} {C : String} {T : u_T} (hc : vwCl[kb - 1]? = some (C, T, NN)) (k0 : 0 < kb ∧ kb < 100) (hv : mK M b = kb ∨ mK M b = 300 + kb) (hl : Cond.methodLink y.cls ix y' ∈ zw ∧ Cond.sameMethod y'.cls y'.cls y'.name y'.desc ∈ zw ∧ Cond.superclass y.cls y'.cls ∈ zw ∧ Cond.instanceMethod y' ∈ zw ∧ y'.name ≠ "<init>" ∧ y.cls = C) (hcat : (rest.map fun v => v.category).sum ≤ 8) (hst : st = As.reverse ++ .ref (zad L b) :: rest) (d : decode cc pc = .ok (.invokespecial ix, 3)) (kk : V L X y cc nL ret dd M0 N Q M1 (pc + 3) ls (.int a :: rest)) : V L X y cc nL ret dd M0 N Q M pc ls st :=
  V_callU hC hf hn hd hc k0 hv hl hcat hst d kk
theorem V_callU_A {L : zL} {X : zX} {y : MethodName} {cc : ByteArray} {nL : Nat} {ret : Option FieldType} {dd : Nat} {M0 : zM} {N : Nat × Nat} {Q : State → Prop} {M : zM} {pc : Nat} {ls : List (Nat × Value)} {st : List Value} {y' : MethodName} {cc' : ByteArray} {n' : Nat} {ret' : Option FieldType} {d' : Nat} {As rest : List Value} {M1 : zM} {ix k : Nat} {a : Nat} {b : Nat} (hC : CP L X.2.1 y' cc' n' ret' d' M (.ref (zad L b) :: As) (some (.ref (zad L a))) M1) (hf : zcf y' cc' n' ret' k) (hn : As.length = k) (hd : d' + 1 ≤ dd) {kb NN : Nat} {C : String} {T : u_T} (hc : vwCl[kb - 1]? = some (C, T, NN)) (k0 : 0 < kb ∧ kb < 100) (hv : mK M b = kb ∨ mK M b = 300 + kb) (hl : Cond.methodLink y.cls ix y' ∈ zw ∧ Cond.sameMethod y'.cls y'.cls y'.name y'.desc ∈ zw ∧ Cond.superclass y.cls y'.cls ∈ zw ∧ Cond.instanceMethod y' ∈ zw ∧ y'.name ≠ "<init>" ∧ y.cls = C) (hcat : (rest.map fun v => v.category).sum ≤ 8) (hst : st = As.reverse ++ .ref (zad L b) :: rest) (d : decode cc pc = .ok (.invokespecial ix, 3)) (kk : V L X y cc nL ret dd M0 N Q M1 (pc + 3) ls (.ref (zad L a) :: rest)) : V L X y cc nL ret dd M0 N Q M pc ls st :=
  V_callU hC hf hn hd hc k0 hv hl hcat hst d kk
theorem V_callU_V {L : zL} {X : zX} {y : MethodName} {cc : ByteArray} {nL : Nat} {ret : Option FieldType} {dd : Nat} {M0 : zM} {N : Nat × Nat} {Q : State → Prop} {M : zM} {pc : Nat} {ls : List (Nat × Value)} {st : List Value} {y' : MethodName} {cc' : ByteArray} {n' : Nat} {ret' : Option FieldType} {d' : Nat} {As rest : List Value} {M1 : zM} {ix k : Nat} {b : Nat} (hC : CP L X.2.1 y' cc' n' ret' d' M (.ref (zad L b) :: As) none M1) (hf : zcf y' cc' n' ret' k) (hn : As.length = k) (hd : d' + 1 ≤ dd) {kb NN : Nat} {C : String} {T : u_T} (hc : vwCl[kb - 1]? = some (C, T, NN)) (k0 : 0 < kb ∧ kb < 100) (hv : mK M b = kb ∨ mK M b = 300 + kb) (hl : Cond.methodLink y.cls ix y' ∈ zw ∧ Cond.sameMethod y'.cls y'.cls y'.name y'.desc ∈ zw ∧ Cond.superclass y.cls y'.cls ∈ zw ∧ Cond.instanceMethod y' ∈ zw ∧ y'.name ≠ "<init>" ∧ y.cls = C) (hcat : (rest.map fun v => v.category).sum ≤ 8) (hst : st = As.reverse ++ .ref (zad L b) :: rest) (d : decode cc pc = .ok (.invokespecial ix, 3)) (kk : V L X y cc nL ret dd M0 N Q M1 (pc + 3) ls rest) : V L X y cc nL ret dd M0 N Q M pc ls st :=
  V_callU hC hf hn hd hc k0 hv hl hcat hst d kk
theorem V_callO_I {L : zL} {X : zX} {y : MethodName} {cc : ByteArray} {nL : Nat} {ret : Option FieldType} {dd : Nat} {M0 : zM} {N : Nat × Nat} {Q : State → Prop} {M : zM} {pc : Nat} {ls : List (Nat × Value)} {st : List Value} {y' : MethodName} {cc' : ByteArray} {n' : Nat} {ret' : Option FieldType} {d' : Nat} {As rest : List Value} {M1 : zM} {ix k : Nat} {a : Int32} {b : Nat} {x : MethodName} {b0 : ByteArray} {m0 : Nat} {r0 : Option FieldType} (hC : CP L X.2.1 y' cc' n' ret' d' M (.ref (zad L b) :: As) (some (.int a)) M1) (hf : zcf y' cc' n' ret' k) (hn : As.length = k) (hd : d' + 1 ≤ dd) {kb NN : Nat} {C : String} {T : u_T} (hc : vwCl[kb - 1]? = some (C, T, NN)) (k0 : 0 < kb ∧ kb < 100) (hv : mK M b = kb ∨ mK M b = 300 + kb) (hl : (Cond.methodLink y.cls ix x ∈ zw ∧ Cond.sameMethod x.cls x.cls x.name x.desc ∈ zw ∧ Cond.instanceMethod x ∈ zw ∧ Cond.selects C x y' ∈ zw ∧ Cond.instanceMethod y' ∈ zw) ∧ Cond.code x b0 m0 r0 ∈ zw ∧ (x.cls ≠ "java/lang/invoke/MethodHandle" ∧ x.cls ≠ "java/lang/invoke/VarHandle" ∧ (parseMethodDescriptor x.desc).map (fun d => d.parameters.length) = some k)) (hcat : (rest.map fun v => v.category).sum ≤ 8) (hst : st = As.reverse ++ .ref (zad L b) :: rest) (d : decode cc pc = .ok (.invokevirtual ix, 3)) (kk : V L X y cc nL ret dd M0 N Q M1 (pc + 3) ls (.int a :: rest)) : V L X y cc nL ret dd M0 N Q M pc ls st :=
  V_callO hC hf hn hd hc k0 hv hl.1 hl.2.1 hl.2.2 hcat hst d kk
theorem V_callO_A {L : zL} {X : zX} {y : MethodName} {cc : ByteArray} {nL : Nat} {ret : Option FieldType} {dd : Nat} {M0 : zM} {N : Nat × Nat} {Q : State → Prop} {M : zM} {pc : Nat} {ls : List (Nat × Value)} {st : List Value} {y' : MethodName} {cc' : ByteArray} {n' : Nat} {ret' : Option FieldType} {d' : Nat} {As rest : List Value} {M1 : zM} {ix k : Nat} {a : Nat} {b : Nat} {x : MethodName} {b0 : ByteArray} {m0 : Nat} {r0 : Option FieldType} (hC : CP L X.2.1 y' cc' n' ret' d' M (.ref (zad L b) :: As) (some (.ref (zad L a))) M1) (hf : zcf y' cc' n' ret' k) (hn : As.length = k) (hd : d' + 1 ≤ dd) {kb NN : Nat} {C : String} {T : u_T} (hc : vwCl[kb - 1]? = some (C, T, NN)) (k0 : 0 < kb ∧ kb < 100) (hv : mK M b = kb ∨ mK M b = 300 + kb) (hl : (Cond.methodLink y.cls ix x ∈ zw ∧ Cond.sameMethod x.cls x.cls x.name x.desc ∈ zw ∧ Cond.instanceMethod x ∈ zw ∧ Cond.selects C x y' ∈ zw ∧ Cond.instanceMethod y' ∈ zw) ∧ Cond.code x b0 m0 r0 ∈ zw ∧ (x.cls ≠ "java/lang/invoke/MethodHandle" ∧ x.cls ≠ "java/lang/invoke/VarHandle" ∧ (parseMethodDescriptor x.desc).map (fun d => d.parameters.length) = some k)) (hcat : (rest.map fun v => v.category).sum ≤ 8) (hst : st = As.reverse ++ .ref (zad L b) :: rest) (d : decode cc pc = .ok (.invokevirtual ix, 3)) (kk : V L X y cc nL ret dd M0 N Q M1 (pc + 3) ls (.ref (zad L a) :: rest)) : V L X y cc nL ret dd M0 N Q M pc ls st :=
  V_callO hC hf hn hd hc k0 hv hl.1 hl.2.1 hl.2.2 hcat hst d kk
theorem V_callO_V {L : zL} {X : zX} {y : MethodName} {cc : ByteArray} {nL : Nat} {ret : Option FieldType} {dd : Nat} {M0 : zM} {N : Nat × Nat} {Q : State → Prop} {M : zM} {pc : Nat} {ls : List (Nat × Value)} {st : List Value} {y' : MethodName} {cc' : ByteArray} {n' : Nat} {ret' : Option FieldType} {d' : Nat} {As rest : List Value} {M1 : zM} {ix k : Nat} {b : Nat} {x : MethodName} {b0 : ByteArray} {m0 : Nat} {r0 : Option FieldType} (hC : CP L X.2.1 y' cc' n' ret' d' M (.ref (zad L b) :: As) none M1) (hf : zcf y' cc' n' ret' k) (hn : As.length = k) (hd : d' + 1 ≤ dd) {kb NN : Nat} {C : String} {T : u_T} (hc : vwCl[kb - 1]? = some (C, T, NN)) (k0 : 0 < kb ∧ kb < 100) (hv : mK M b = kb ∨ mK M b = 300 + kb) (hl : (Cond.methodLink y.cls ix x ∈ zw ∧ Cond.sameMethod x.cls x.cls x.name x.desc ∈ zw ∧ Cond.instanceMethod x ∈ zw ∧ Cond.selects C x y' ∈ zw ∧ Cond.instanceMethod y' ∈ zw) ∧ Cond.code x b0 m0 r0 ∈ zw ∧ (x.cls ≠ "java/lang/invoke/MethodHandle" ∧ x.cls ≠ "java/lang/invoke/VarHandle" ∧ (parseMethodDescriptor x.desc).map (fun d => d.parameters.length) = some k)) (hcat : (rest.map fun v => v.category).sum ≤ 8) (hst : st = As.reverse ++ .ref (zad L b) :: rest) (d : decode cc pc = .ok (.invokevirtual ix, 3)) (kk : V L X y cc nL ret dd M0 N Q M1 (pc + 3) ls rest) : V L X y cc nL ret dd M0 N Q M pc ls st :=
  V_callO hC hf hn hd hc k0 hv hl.1 hl.2.1 hl.2.2 hcat hst d kk
theorem V_callF_I {L : zL} {X : zX} {y : MethodName} {cc : ByteArray} {nL : Nat} {ret : Option FieldType} {dd : Nat} {M0 : zM} {N : Nat × Nat} {Q : State → Prop} {M : zM} {pc : Nat} {ls : List (Nat × Value)} {st : List Value} {y' : MethodName} {cc' : ByteArray} {n' : Nat} {ret' : Option FieldType} {d' : Nat} {As rest : List Value} {M1 : zM} {ix k : Nat} {a : Int32} {b : Nat} {x : MethodName} {cnt : Nat} (hC : CP L X.2.1 y' cc' n' ret' d' M (.ref (zad L b) :: As) (some (.int a)) M1) (hf : zcf y' cc' n' ret' k) (hn : As.length = k) (hd : d' + 1 ≤ dd) {kb NN : Nat} {C : String} {T : u_T} (hc : vwCl[kb - 1]? = some (C, T, NN)) (k0 : 0 < kb ∧ kb < 100) (hv : mK M b = kb ∨ mK M b = 300 + kb) (hl : (Cond.methodLink y.cls ix x ∈ zw ∧ Cond.selects C x y' ∈ zw ∧ Cond.instanceMethod y' ∈ zw) ∧ (C, x, y') ∈ zfw ∧ (parseMethodDescriptor x.desc).map (fun d => d.parameters.length) = some k) (hcat : (rest.map fun v => v.category).sum ≤ 8) (hst : st = As.reverse ++ .ref (zad L b) :: rest) (d : decode cc pc = .ok (.invokeinterface ix cnt, 5)) (kk : V L X y cc nL ret dd M0 N Q M1 (pc + 5) ls (.int a :: rest)) : V L X y cc nL ret dd M0 N Q M pc ls st :=
  V_callF hC hf hn hd hc k0 hv hl.1 hl.2.1 hl.2.2 hcat hst d kk
theorem V_callF_A {L : zL} {X : zX} {y : MethodName} {cc : ByteArray} {nL : Nat} {ret : Option FieldType} {dd : Nat} {M0 : zM} {N : Nat × Nat} {Q : State → Prop} {M : zM} {pc : Nat} {ls : List (Nat × Value)} {st : List Value} {y' : MethodName} {cc' : ByteArray} {n' : Nat} {ret' : Option FieldType} {d' : Nat} {As rest : List Value} {M1 : zM} {ix k : Nat} {a : Nat} {b : Nat} {x : MethodName} {cnt : Nat} (hC : CP L X.2.1 y' cc' n' ret' d' M (.ref (zad L b) :: As) (some (.ref (zad L a))) M1) (hf : zcf y' cc' n' ret' k) (hn : As.length = k) (hd : d' + 1 ≤ dd) {kb NN : Nat} {C : String} {T : u_T} (hc : vwCl[kb - 1]? = some (C, T, NN)) (k0 : 0 < kb ∧ kb < 100) (hv : mK M b = kb ∨ mK M b = 300 + kb) (hl : (Cond.methodLink y.cls ix x ∈ zw ∧ Cond.selects C x y' ∈ zw ∧ Cond.instanceMethod y' ∈ zw) ∧ (C, x, y') ∈ zfw ∧ (parseMethodDescriptor x.desc).map (fun d => d.parameters.length) = some k) (hcat : (rest.map fun v => v.category).sum ≤ 8) (hst : st = As.reverse ++ .ref (zad L b) :: rest) (d : decode cc pc = .ok (.invokeinterface ix cnt, 5)) (kk : V L X y cc nL ret dd M0 N Q M1 (pc + 5) ls (.ref (zad L a) :: rest)) : V L X y cc nL ret dd M0 N Q M pc ls st :=
  V_callF hC hf hn hd hc k0 hv hl.1 hl.2.1 hl.2.2 hcat hst d kk
theorem V_callF_V {L : zL} {X : zX} {y : MethodName} {cc : ByteArray} {nL : Nat} {ret : Option FieldType} {dd : Nat} {M0 : zM} {N : Nat × Nat} {Q : State → Prop} {M : zM} {pc : Nat} {ls : List (Nat × Value)} {st : List Value} {y' : MethodName} {cc' : ByteArray} {n' : Nat} {ret' : Option FieldType} {d' : Nat} {As rest : List Value} {M1 : zM} {ix k : Nat} {b : Nat} {x : MethodName} {cnt : Nat} (hC : CP L X.2.1 y' cc' n' ret' d' M (.ref (zad L b) :: As) none M1) (hf : zcf y' cc' n' ret' k) (hn : As.length = k) (hd : d' + 1 ≤ dd) {kb NN : Nat} {C : String} {T : u_T} (hc : vwCl[kb - 1]? = some (C, T, NN)) (k0 : 0 < kb ∧ kb < 100) (hv : mK M b = kb ∨ mK M b = 300 + kb) (hl : (Cond.methodLink y.cls ix x ∈ zw ∧ Cond.selects C x y' ∈ zw ∧ Cond.instanceMethod y' ∈ zw) ∧ (C, x, y') ∈ zfw ∧ (parseMethodDescriptor x.desc).map (fun d => d.parameters.length) = some k) (hcat : (rest.map fun v => v.category).sum ≤ 8) (hst : st = As.reverse ++ .ref (zad L b) :: rest) (d : decode cc pc = .ok (.invokeinterface ix cnt, 5)) (kk : V L X y cc nL ret dd M0 N Q M1 (pc + 5) ls rest) : V L X y cc nL ret dd M0 N Q M pc ls st :=
  V_callF hC hf hn hd hc k0 hv hl.1 hl.2.1 hl.2.2 hcat hst d kk
