def RX0 : String := "Windsparlour$Parting"
def TX0 : u_T := fun k => match k with
  | 0 => ("Windsparlour$Parting", "rest", "[I", true)
  | 1 => ("Windsparlour$Parting", "plain", "[I", true)
  | 2 => ("Windsparlour$Parting", "paired", "[I", true)
  | 3 => ("Windsparlour$Parting", "groupPlain", "[I", true)
  | _ => ("Windsparlour$Parting", "groupPaired", "[I", true)
def tyX0 : Nat → FieldType := fun k => match k with
  | 0 => .array .int
  | 1 => .array .int
  | 2 => .array .int
  | 3 => .array .int
  | _ => .array .int
abbrev wsX00 : List Cond := u_ws RX0 TX0 5
theorem nmX0 : ∀ a, a < 5 → ∀ b, b < 5 → a ≠ b → (TX0 a).2.1 ≠ (TX0 b).2.1 := by decide +kernel
theorem tyX0_ok : ∀ k, k < 5 → parseFieldDescriptor (TX0 k).2.2.1 = some (tyX0 k) := by decide +kernel
abbrev cX0_init : ByteArray := prog_2_method_1_code
def yX0_init : MethodName := ⟨RX0, "<init>", "()V"⟩
abbrev cX0_complete : ByteArray := prog_2_method_2_code
def yX0_complete : MethodName := ⟨RX0, "complete", "([I)Z"⟩
abbrev cX0_copy : ByteArray := prog_2_method_3_code
def yX0_copy : MethodName := ⟨RX0, "copy", "([I)V"⟩
abbrev cX0_restIsSets : ByteArray := prog_2_method_4_code
def yX0_restIsSets : MethodName := ⟨RX0, "restIsSets", "()Z"⟩
abbrev cX0_far : ByteArray := prog_2_method_5_code
def yX0_far : MethodName := ⟨RX0, "far", "([II)I"⟩
abbrev cX0_join : ByteArray := prog_2_method_6_code
def yX0_join : MethodName := ⟨RX0, "join", "(III)V"⟩
abbrev cX0_joinParts : ByteArray := prog_2_method_7_code
def yX0_joinParts : MethodName := ⟨RX0, "joinParts", "(I)V"⟩
abbrev cX0_most : ByteArray := prog_2_method_8_code
def yX0_most : MethodName := ⟨RX0, "most", "([IIII)I"⟩
abbrev cX0_fits : ByteArray := prog_2_method_9_code
def yX0_fits : MethodName := ⟨RX0, "fits", "([IIII)Z"⟩
abbrev cX0_changePart : ByteArray := prog_2_method_10_code
def yX0_changePart : MethodName := ⟨RX0, "changePart", "([IIII)V"⟩
def RX1 : String := "Windsparlour$Seat"
def TX1 : u_T := fun k => match k with
  | 0 => ("Windsparlour$Seat", "tiles", "[I", true)
  | 1 => ("Windsparlour$Seat", "sets", "[I", true)
  | 2 => ("Windsparlour$Seat", "river", "[I", true)
  | 3 => ("Windsparlour$Seat", "discarded", "J", false)
  | 4 => ("Windsparlour$Seat", "setsMany", "I", false)
  | 5 => ("Windsparlour$Seat", "riverMany", "I", false)
  | 6 => ("Windsparlour$Seat", "called", "Z", false)
  | 7 => ("Windsparlour$Seat", "points", "I", false)
  | _ => ("Windsparlour$Seat", "wins", "I", false)
def tyX1 : Nat → FieldType := fun k => match k with
  | 0 => .array .int
  | 1 => .array .int
  | 2 => .array .int
  | 3 => .long
  | 4 => .int
  | 5 => .int
  | 6 => .boolean
  | 7 => .int
  | _ => .int
abbrev wsX10 : List Cond := u_ws RX1 TX1 9
theorem nmX1 : ∀ a, a < 9 → ∀ b, b < 9 → a ≠ b → (TX1 a).2.1 ≠ (TX1 b).2.1 := by decide +kernel
theorem tyX1_ok : ∀ k, k < 9 → parseFieldDescriptor (TX1 k).2.2.1 = some (tyX1 k) := by decide +kernel
abbrev cX1_init : ByteArray := prog_3_method_1_code
def yX1_init : MethodName := ⟨RX1, "<init>", "()V"⟩
abbrev cX1_clear : ByteArray := prog_3_method_2_code
def yX1_clear : MethodName := ⟨RX1, "clear", "()V"⟩
abbrev cX1_count : ByteArray := prog_3_method_3_code
def yX1_count : MethodName := ⟨RX1, "count", "(I)I"⟩
abbrev cX1_change : ByteArray := prog_3_method_4_code
def yX1_change : MethodName := ⟨RX1, "change", "(II)V"⟩
abbrev cX1_inHand : ByteArray := prog_3_method_5_code
def yX1_inHand : MethodName := ⟨RX1, "inHand", "()I"⟩
abbrev cX1_size : ByteArray := prog_3_method_6_code
def yX1_size : MethodName := ⟨RX1, "size", "()I"⟩
abbrev cX1_openSets : ByteArray := prog_3_method_7_code
def yX1_openSets : MethodName := ⟨RX1, "openSets", "()I"⟩
abbrev cX1_rowLies : ByteArray := prog_3_method_8_code
def yX1_rowLies : MethodName := ⟨RX1, "rowLies", "()Z"⟩
abbrev cX1_inSets : ByteArray := prog_3_method_9_code
def yX1_inSets : MethodName := ⟨RX1, "inSets", "(I)I"⟩
abbrev cX1_lying : ByteArray := prog_3_method_10_code
def yX1_lying : MethodName := ⟨RX1, "lying", "(I)I"⟩
abbrev cX1_tilesOf : ByteArray := prog_3_method_11_code
def yX1_tilesOf : MethodName := ⟨RX1, "tilesOf", "(III)I"⟩
abbrev cX1_laySet : ByteArray := prog_3_method_12_code
def yX1_laySet : MethodName := ⟨RX1, "laySet", "(II)V"⟩
abbrev cX1_toRiver : ByteArray := prog_3_method_13_code
def yX1_toRiver : MethodName := ⟨RX1, "toRiver", "(I)V"⟩
abbrev cX1_latestInRiver : ByteArray := prog_3_method_14_code
def yX1_latestInRiver : MethodName := ⟨RX1, "latestInRiver", "()I"⟩
abbrev cX1_leaveRiver : ByteArray := prog_3_method_15_code
def yX1_leaveRiver : MethodName := ⟨RX1, "leaveRiver", "()I"⟩
def RX2 : String := "Windsparlour$Valuing"
def TX2 : u_T := fun k => match k with
  | _ => ("Windsparlour$Valuing", "all", "[I", true)
def tyX2 : Nat → FieldType := fun k => match k with
  | _ => .array .int
abbrev wsX20 : List Cond := u_ws RX2 TX2 1
theorem nmX2 : ∀ a, a < 1 → ∀ b, b < 1 → a ≠ b → (TX2 a).2.1 ≠ (TX2 b).2.1 := by decide +kernel
theorem tyX2_ok : ∀ k, k < 1 → parseFieldDescriptor (TX2 k).2.2.1 = some (tyX2 k) := by decide +kernel
abbrev cX2_init : ByteArray := prog_4_method_1_code
def yX2_init : MethodName := ⟨RX2, "<init>", "()V"⟩
abbrev cX2_value : ByteArray := prog_4_method_2_code
def yX2_value : MethodName := ⟨RX2, "value", "(LWindsparlour$Seat;ZII)I"⟩
abbrev cX2_gather : ByteArray := prog_4_method_3_code
def yX2_gather : MethodName := ⟨RX2, "gather", "(LWindsparlour$Seat;)V"⟩
abbrev cX2_setOf : ByteArray := prog_4_method_4_code
def yX2_setOf : MethodName := ⟨RX2, "setOf", "(I)I"⟩
abbrev cX2_withoutEndsAndHonours : ByteArray := prog_4_method_5_code
def yX2_withoutEndsAndHonours : MethodName := ⟨RX2, "withoutEndsAndHonours", "()Z"⟩
abbrev cX2_withoutRows : ByteArray := prog_4_method_6_code
def yX2_withoutRows : MethodName := ⟨RX2, "withoutRows", "(LWindsparlour$Seat;)Z"⟩
abbrev cX2_ofOneSuit : ByteArray := prog_4_method_7_code
def yX2_ofOneSuit : MethodName := ⟨RX2, "ofOneSuit", "()I"⟩
abbrev cX2_anyOf : ByteArray := prog_4_method_8_code
def yX2_anyOf : MethodName := ⟨RX2, "anyOf", "(II)Z"⟩
def RX3 : String := "Windsparlour"
def TX3 : u_T := fun k => match k with
  | 0 => ("Windsparlour", "seats", "[LWindsparlour$Seat;", true)
  | 1 => ("Windsparlour", "parting", "LWindsparlour$Parting;", true)
  | 2 => ("Windsparlour", "valuing", "LWindsparlour$Valuing;", true)
  | 3 => ("Windsparlour", "step", "I", false)
  | 4 => ("Windsparlour", "shift", "I", false)
  | 5 => ("Windsparlour", "drawn", "I", false)
  | 6 => ("Windsparlour", "fours", "I", false)
  | 7 => ("Windsparlour", "phase", "I", false)
  | 8 => ("Windsparlour", "turn", "I", false)
  | 9 => ("Windsparlour", "dealer", "I", false)
  | 10 => ("Windsparlour", "rounds", "I", false)
  | 11 => ("Windsparlour", "pot", "I", false)
  | 12 => ("Windsparlour", "luckyKind", "I", false)
  | 13 => ("Windsparlour", "lastWinner", "I", false)
  | 14 => ("Windsparlour", "lastDrawn", "I", false)
  | _ => ("Windsparlour", "drewLatest", "Z", false)
def tyX3 : Nat → FieldType := fun k => match k with
  | 0 => .array (.object "Windsparlour$Seat")
  | 1 => .object "Windsparlour$Parting"
  | 2 => .object "Windsparlour$Valuing"
  | 3 => .int
  | 4 => .int
  | 5 => .int
  | 6 => .int
  | 7 => .int
  | 8 => .int
  | 9 => .int
  | 10 => .int
  | 11 => .int
  | 12 => .int
  | 13 => .int
  | 14 => .int
  | _ => .boolean
abbrev wsX30 : List Cond := u_ws RX3 TX3 16
theorem nmX3 : ∀ a, a < 16 → ∀ b, b < 16 → a ≠ b → (TX3 a).2.1 ≠ (TX3 b).2.1 := by decide +kernel
theorem tyX3_ok : ∀ k, k < 16 → parseFieldDescriptor (TX3 k).2.2.1 = some (tyX3 k) := by decide +kernel
abbrev cX3_init : ByteArray := prog_1_method_1_code
def yX3_init : MethodName := ⟨RX3, "<init>", "()V"⟩
abbrev cX3_lay : ByteArray := prog_1_method_2_code
def yX3_lay : MethodName := ⟨RX3, "lay", "(II)I"⟩
abbrev cX3_draw : ByteArray := prog_1_method_3_code
def yX3_draw : MethodName := ⟨RX3, "draw", "()I"⟩
abbrev cX3_discard : ByteArray := prog_1_method_4_code
def yX3_discard : MethodName := ⟨RX3, "discard", "(I)I"⟩
abbrev cX3_call : ByteArray := prog_1_method_5_code
def yX3_call : MethodName := ⟨RX3, "call", "(I)I"⟩
abbrev cX3_claim : ByteArray := prog_1_method_6_code
def yX3_claim : MethodName := ⟨RX3, "claim", "(III)I"⟩
abbrev cX3_four : ByteArray := prog_1_method_7_code
def yX3_four : MethodName := ⟨RX3, "four", "(I)I"⟩
abbrev cX3_pass : ByteArray := prog_1_method_8_code
def yX3_pass : MethodName := ⟨RX3, "pass", "()I"⟩
abbrev cX3_win : ByteArray := prog_1_method_9_code
def yX3_win : MethodName := ⟨RX3, "win", "(I)I"⟩
abbrev cX3_has : ByteArray := prog_1_method_10_code
def yX3_has : MethodName := ⟨RX3, "has", "(II)I"⟩
abbrev cX3_ofPlayer : ByteArray := prog_1_method_11_code
def yX3_ofPlayer : MethodName := ⟨RX3, "ofPlayer", "(II)I"⟩
abbrev cX3_ofSet : ByteArray := prog_1_method_12_code
def yX3_ofSet : MethodName := ⟨RX3, "ofSet", "(II)I"⟩
abbrev cX3_river : ByteArray := prog_1_method_13_code
def yX3_river : MethodName := ⟨RX3, "river", "(II)I"⟩
abbrev cX3_waits : ByteArray := prog_1_method_14_code
def yX3_waits : MethodName := ⟨RX3, "waits", "(I)J"⟩
abbrev cX3_seen : ByteArray := prog_1_method_15_code
def yX3_seen : MethodName := ⟨RX3, "seen", "(I)I"⟩
abbrev cX3_hand : ByteArray := prog_1_method_16_code
def yX3_hand : MethodName := ⟨RX3, "hand", "(I)Ljava/lang/String;"⟩
abbrev cX3_many : ByteArray := prog_1_method_17_code
def yX3_many : MethodName := ⟨RX3, "many", "(I)I"⟩
abbrev cX3_lead : ByteArray := prog_1_method_18_code
def yX3_lead : MethodName := ⟨RX3, "lead", "(I)D"⟩
abbrev cX3_worth : ByteArray := prog_1_method_19_code
def yX3_worth : MethodName := ⟨RX3, "worth", "(II)I"⟩
abbrev cX3_best : ByteArray := prog_1_method_20_code
def yX3_best : MethodName := ⟨RX3, "best", "()I"⟩
abbrev cX3_outs : ByteArray := prog_1_method_22_code
def yX3_outs : MethodName := ⟨RX3, "outs", "(I)I"⟩
abbrev cX3_digest : ByteArray := prog_1_method_23_code
def yX3_digest : MethodName := ⟨RX3, "digest", "()J"⟩
abbrev cX3_requirePlayer : ByteArray := prog_1_method_24_code
def yX3_requirePlayer : MethodName := ⟨RX3, "requirePlayer", "(I)V"⟩
abbrev cX3_requireKind : ByteArray := prog_1_method_25_code
def yX3_requireKind : MethodName := ⟨RX3, "requireKind", "(I)V"⟩
abbrev cX3_requirePhase : ByteArray := prog_1_method_26_code
def yX3_requirePhase : MethodName := ⟨RX3, "requirePhase", "(I)V"⟩
abbrev cX3_seatInTurn : ByteArray := prog_1_method_27_code
def yX3_seatInTurn : MethodName := ⟨RX3, "seatInTurn", "()LWindsparlour$Seat;"⟩
abbrev cX3_startsRow : ByteArray := prog_1_method_28_code
def yX3_startsRow : MethodName := ⟨RX3, "startsRow", "(I)Z"⟩
abbrev cX3_beginRound : ByteArray := prog_1_method_29_code
def yX3_beginRound : MethodName := ⟨RX3, "beginRound", "()V"⟩
abbrev cX3_dealTo : ByteArray := prog_1_method_30_code
def yX3_dealTo : MethodName := ⟨RX3, "dealTo", "(I)V"⟩
abbrev cX3_kindAt : ByteArray := prog_1_method_31_code
def yX3_kindAt : MethodName := ⟨RX3, "kindAt", "(I)I"⟩
abbrev cX3_follower : ByteArray := prog_1_method_32_code
def yX3_follower : MethodName := ⟨RX3, "follower", "(I)I"⟩
abbrev cX3_tilesLeft : ByteArray := prog_1_method_33_code
def yX3_tilesLeft : MethodName := ⟨RX3, "tilesLeft", "()I"⟩
abbrev cX3_canDraw : ByteArray := prog_1_method_34_code
def yX3_canDraw : MethodName := ⟨RX3, "canDraw", "()Z"⟩
abbrev cX3_fourAllowed : ByteArray := prog_1_method_35_code
def yX3_fourAllowed : MethodName := ⟨RX3, "fourAllowed", "()Z"⟩
abbrev cX3_drawForFour : ByteArray := prog_1_method_36_code
def yX3_drawForFour : MethodName := ⟨RX3, "drawForFour", "()I"⟩
abbrev cX3_receive : ByteArray := prog_1_method_37_code
def yX3_receive : MethodName := ⟨RX3, "receive", "(I)V"⟩
abbrev cX3_layIntoRiver : ByteArray := prog_1_method_38_code
def yX3_layIntoRiver : MethodName := ⟨RX3, "layIntoRiver", "(LWindsparlour$Seat;I)V"⟩
abbrev cX3_mayClaim : ByteArray := prog_1_method_39_code
def yX3_mayClaim : MethodName := ⟨RX3, "mayClaim", "(III)Z"⟩
abbrev cX3_completesRow : ByteArray := prog_1_method_40_code
def yX3_completesRow : MethodName := ⟨RX3, "completesRow", "(LWindsparlour$Seat;II)Z"⟩
abbrev cX3_winsAlone : ByteArray := prog_1_method_41_code
def yX3_winsAlone : MethodName := ⟨RX3, "winsAlone", "(I)Z"⟩
abbrev cX3_winsByDiscard : ByteArray := prog_1_method_42_code
def yX3_winsByDiscard : MethodName := ⟨RX3, "winsByDiscard", "(I)Z"⟩
abbrev cX3_payWin : ByteArray := prog_1_method_43_code
def yX3_payWin : MethodName := ⟨RX3, "payWin", "(IZI)V"⟩
abbrev cX3_endWithoutWinner : ByteArray := prog_1_method_44_code
def yX3_endWithoutWinner : MethodName := ⟨RX3, "endWithoutWinner", "()V"⟩
abbrev cX3_windOf : ByteArray := prog_1_method_45_code
def yX3_windOf : MethodName := ⟨RX3, "windOf", "(I)I"⟩
abbrev cX3_waitsOf : ByteArray := prog_1_method_46_code
def yX3_waitsOf : MethodName := ⟨RX3, "waitsOf", "(LWindsparlour$Seat;)J"⟩
abbrev cX3_readyWithout : ByteArray := prog_1_method_47_code
def yX3_readyWithout : MethodName := ⟨RX3, "readyWithout", "(LWindsparlour$Seat;I)Z"⟩
abbrev cX3_farWith : ByteArray := prog_1_method_48_code
def yX3_farWith : MethodName := ⟨RX3, "farWith", "(LWindsparlour$Seat;II)I"⟩
abbrev cX3_fourLeads : ByteArray := prog_1_method_49_code
def yX3_fourLeads : MethodName := ⟨RX3, "fourLeads", "(I)I"⟩
abbrev cX3_writeSuit : ByteArray := prog_1_method_50_code
def yX3_writeSuit : MethodName := ⟨RX3, "writeSuit", "(Ljava/lang/StringBuilder;LWindsparlour$Seat;IC)V"⟩
abbrev cX3_writeHonours : ByteArray := prog_1_method_51_code
def yX3_writeHonours : MethodName := ⟨RX3, "writeHonours", "(Ljava/lang/StringBuilder;LWindsparlour$Seat;)V"⟩
abbrev cX3_digestPlayer : ByteArray := prog_1_method_52_code
def yX3_digestPlayer : MethodName := ⟨RX3, "digestPlayer", "(JI)J"⟩
def RX4 : String := "WindsparlourModel$Lying"
def TX4 : u_T := fun k => match k with
  | _ => ("", "", "", false)
def tyX4 : Nat → FieldType := fun k => match k with
  | _ => .int
abbrev wsX40 : List Cond := u_ws RX4 TX4 0
theorem nmX4 : ∀ a, a < 0 → ∀ b, b < 0 → a ≠ b → (TX4 a).2.1 ≠ (TX4 b).2.1 := by decide +kernel
theorem tyX4_ok : ∀ k, k < 0 → parseFieldDescriptor (TX4 k).2.2.1 = some (tyX4 k) := by decide +kernel
def RX5 : String := "WindsparlourModel$Player"
def TX5 : u_T := fun k => match k with
  | _ => ("", "", "", false)
def tyX5 : Nat → FieldType := fun k => match k with
  | _ => .int
abbrev wsX50 : List Cond := u_ws RX5 TX5 0
theorem nmX5 : ∀ a, a < 0 → ∀ b, b < 0 → a ≠ b → (TX5 a).2.1 ≠ (TX5 b).2.1 := by decide +kernel
theorem tyX5_ok : ∀ k, k < 0 → parseFieldDescriptor (TX5 k).2.2.1 = some (tyX5 k) := by decide +kernel
def RX6 : String := "WindsparlourModel"
def TX6 : u_T := fun k => match k with
  | _ => ("", "", "", false)
def tyX6 : Nat → FieldType := fun k => match k with
  | _ => .int
abbrev wsX60 : List Cond := u_ws RX6 TX6 0
theorem nmX6 : ∀ a, a < 0 → ∀ b, b < 0 → a ≠ b → (TX6 a).2.1 ≠ (TX6 b).2.1 := by decide +kernel
theorem tyX6_ok : ∀ k, k < 0 → parseFieldDescriptor (TX6 k).2.2.1 = some (tyX6 k) := by decide +kernel
def RJx145de : String := "java/io/Serializable"
def TJx145de : u_T := fun k => match k with
  | _ => ("", "", "", false)
def tyJx145de : Nat → FieldType := fun k => match k with
  | _ => .int
abbrev wsJx145de0 : List Cond := u_ws RJx145de TJx145de 0
theorem nmJx145de : ∀ a, a < 0 → ∀ b, b < 0 → a ≠ b → (TJx145de a).2.1 ≠ (TJx145de b).2.1 := by decide +kernel
theorem tyJx145de_ok : ∀ k, k < 0 → parseFieldDescriptor (TJx145de k).2.2.1 = some (tyJx145de k) := by decide +kernel
def RJ5 : String := "java/lang/AbstractStringBuilder"
def TJ5 : u_T := fun k => match k with
  | _ => ("", "", "", false)
def tyJ5 : Nat → FieldType := fun k => match k with
  | _ => .int
abbrev wsJ50 : List Cond := u_ws RJ5 TJ5 0
theorem nmJ5 : ∀ a, a < 0 → ∀ b, b < 0 → a ≠ b → (TJ5 a).2.1 ≠ (TJ5 b).2.1 := by decide +kernel
theorem tyJ5_ok : ∀ k, k < 0 → parseFieldDescriptor (TJ5 k).2.2.1 = some (tyJ5 k) := by decide +kernel
abbrev cJ5_init_d00df : ByteArray := prog_9_method_2_code
def yJ5_init_d00df : MethodName := ⟨RJ5, "<init>", "(I)V"⟩
abbrev cJ5_length_8abf5 : ByteArray := prog_9_method_6_code
def yJ5_length_8abf5 : MethodName := ⟨RJ5, "length", "()I"⟩
abbrev cJ5_ensureCapacityInternal_d00df : ByteArray := prog_9_method_9_code
def yJ5_ensureCapacityInternal_d00df : MethodName := ⟨RJ5, "ensureCapacityInternal", "(I)V"⟩
abbrev cJ5_newCapacity_0f7a4 : ByteArray := prog_9_method_10_code
def yJ5_newCapacity_0f7a4 : MethodName := ⟨RJ5, "newCapacity", "(I)I"⟩
abbrev cJ5_inflate_da8c8 : ByteArray := prog_9_method_11_code
def yJ5_inflate_da8c8 : MethodName := ⟨RJ5, "inflate", "()V"⟩
abbrev cJ5_append_3fe6f : ByteArray := prog_9_method_31_code
def yJ5_append_3fe6f : MethodName := ⟨RJ5, "append", "(C)Ljava/lang/AbstractStringBuilder;"⟩
abbrev cJ5_append_c97b9 : ByteArray := prog_9_method_32_code
def yJ5_append_c97b9 : MethodName := ⟨RJ5, "append", "(I)Ljava/lang/AbstractStringBuilder;"⟩
abbrev cJ5_getValue_6d5f1 : ByteArray := prog_9_method_64_code
def yJ5_getValue_6d5f1 : MethodName := ⟨RJ5, "getValue", "()[B"⟩
abbrev cJ5_isLatin1_aae02 : ByteArray := prog_9_method_68_code
def yJ5_isLatin1_aae02 : MethodName := ⟨RJ5, "isLatin1", "()Z"⟩
def RJx2cfe8 : String := "java/lang/Appendable"
def TJx2cfe8 : u_T := fun k => match k with
  | _ => ("", "", "", false)
def tyJx2cfe8 : Nat → FieldType := fun k => match k with
  | _ => .int
abbrev wsJx2cfe80 : List Cond := u_ws RJx2cfe8 TJx2cfe8 0
theorem nmJx2cfe8 : ∀ a, a < 0 → ∀ b, b < 0 → a ≠ b → (TJx2cfe8 a).2.1 ≠ (TJx2cfe8 b).2.1 := by decide +kernel
theorem tyJx2cfe8_ok : ∀ k, k < 0 → parseFieldDescriptor (TJx2cfe8 k).2.2.1 = some (tyJx2cfe8 k) := by decide +kernel
def RJx9f9b0 : String := "java/lang/CharSequence"
def TJx9f9b0 : u_T := fun k => match k with
  | _ => ("", "", "", false)
def tyJx9f9b0 : Nat → FieldType := fun k => match k with
  | _ => .int
abbrev wsJx9f9b00 : List Cond := u_ws RJx9f9b0 TJx9f9b0 0
theorem nmJx9f9b0 : ∀ a, a < 0 → ∀ b, b < 0 → a ≠ b → (TJx9f9b0 a).2.1 ≠ (TJx9f9b0 b).2.1 := by decide +kernel
theorem tyJx9f9b0_ok : ∀ k, k < 0 → parseFieldDescriptor (TJx9f9b0 k).2.2.1 = some (tyJx9f9b0 k) := by decide +kernel
def RJx8e188 : String := "java/lang/Cloneable"
def TJx8e188 : u_T := fun k => match k with
  | _ => ("", "", "", false)
def tyJx8e188 : Nat → FieldType := fun k => match k with
  | _ => .int
abbrev wsJx8e1880 : List Cond := u_ws RJx8e188 TJx8e188 0
theorem nmJx8e188 : ∀ a, a < 0 → ∀ b, b < 0 → a ≠ b → (TJx8e188 a).2.1 ≠ (TJx8e188 b).2.1 := by decide +kernel
theorem tyJx8e188_ok : ∀ k, k < 0 → parseFieldDescriptor (TJx8e188 k).2.2.1 = some (tyJx8e188 k) := by decide +kernel
def RJxb160c : String := "java/lang/Comparable"
def TJxb160c : u_T := fun k => match k with
  | _ => ("", "", "", false)
def tyJxb160c : Nat → FieldType := fun k => match k with
  | _ => .int
abbrev wsJxb160c0 : List Cond := u_ws RJxb160c TJxb160c 0
theorem nmJxb160c : ∀ a, a < 0 → ∀ b, b < 0 → a ≠ b → (TJxb160c a).2.1 ≠ (TJxb160c b).2.1 := by decide +kernel
theorem tyJxb160c_ok : ∀ k, k < 0 → parseFieldDescriptor (TJxb160c k).2.2.1 = some (tyJxb160c k) := by decide +kernel
def RJ6 : String := "java/lang/Integer"
def TJ6 : u_T := fun k => match k with
  | _ => ("", "", "", false)
def tyJ6 : Nat → FieldType := fun k => match k with
  | _ => .int
abbrev wsJ60 : List Cond := u_ws RJ6 TJ6 0
theorem nmJ6 : ∀ a, a < 0 → ∀ b, b < 0 → a ≠ b → (TJ6 a).2.1 ≠ (TJ6 b).2.1 := by decide +kernel
theorem tyJ6_ok : ∀ k, k < 0 → parseFieldDescriptor (TJ6 k).2.2.1 = some (tyJ6 k) := by decide +kernel
abbrev cJ6_getChars_ba4f3 : ByteArray := prog_15_method_12_code
def yJ6_getChars_ba4f3 : MethodName := ⟨RJ6, "getChars", "(II[B)I"⟩
abbrev cJ6_stringSize_0f7a4 : ByteArray := prog_15_method_13_code
def yJ6_stringSize_0f7a4 : MethodName := ⟨RJ6, "stringSize", "(I)I"⟩
def RJ9 : String := "java/lang/Math"
def TJ9 : u_T := fun k => match k with
  | _ => ("", "", "", false)
def tyJ9 : Nat → FieldType := fun k => match k with
  | _ => .int
abbrev wsJ90 : List Cond := u_ws RJ9 TJ9 0
theorem nmJ9 : ∀ a, a < 0 → ∀ b, b < 0 → a ≠ b → (TJ9 a).2.1 ≠ (TJ9 b).2.1 := by decide +kernel
theorem tyJ9_ok : ∀ k, k < 0 → parseFieldDescriptor (TJ9 k).2.2.1 = some (tyJ9 k) := by decide +kernel
abbrev cJ9_max_7cf53 : ByteArray := prog_16_method_65_code
def yJ9_max_7cf53 : MethodName := ⟨RJ9, "max", "(II)I"⟩
abbrev cJ9_min_7cf53 : ByteArray := prog_16_method_69_code
def yJ9_min_7cf53 : MethodName := ⟨RJ9, "min", "(II)I"⟩
def RJxd2413 : String := "java/lang/Number"
def TJxd2413 : u_T := fun k => match k with
  | _ => ("", "", "", false)
def tyJxd2413 : Nat → FieldType := fun k => match k with
  | _ => .int
abbrev wsJxd24130 : List Cond := u_ws RJxd2413 TJxd2413 0
theorem nmJxd2413 : ∀ a, a < 0 → ∀ b, b < 0 → a ≠ b → (TJxd2413 a).2.1 ≠ (TJxd2413 b).2.1 := by decide +kernel
theorem tyJxd2413_ok : ∀ k, k < 0 → parseFieldDescriptor (TJxd2413 k).2.2.1 = some (tyJxd2413 k) := by decide +kernel
def RJ0 : String := "java/lang/String"
def TJ0 : u_T := fun k => match k with
  | 0 => ("java/lang/String", "value", "[B", true)
  | 1 => ("java/lang/String", "coder", "B", true)
  | 2 => ("java/lang/String", "hash", "I", false)
  | _ => ("java/lang/String", "hashIsZero", "Z", false)
def tyJ0 : Nat → FieldType := fun k => match k with
  | 0 => .array .byte
  | 1 => .byte
  | 2 => .int
  | _ => .boolean
abbrev wsJ00 : List Cond := u_ws RJ0 TJ0 4
theorem nmJ0 : ∀ a, a < 4 → ∀ b, b < 4 → a ≠ b → (TJ0 a).2.1 ≠ (TJ0 b).2.1 := by decide +kernel
theorem tyJ0_ok : ∀ k, k < 4 → parseFieldDescriptor (TJ0 k).2.2.1 = some (tyJ0 k) := by decide +kernel
abbrev cJ0_init_81219 : ByteArray := prog_19_method_53_code
def yJ0_init_81219 : MethodName := ⟨RJ0, "<init>", "(Ljava/lang/StringBuilder;)V"⟩
abbrev cJ0_length_8abf5 : ByteArray := prog_19_method_54_code
def yJ0_length_8abf5 : MethodName := ⟨RJ0, "length", "()I"⟩
abbrev cJ0_charAt_5068e : ByteArray := prog_19_method_56_code
def yJ0_charAt_5068e : MethodName := ⟨RJ0, "charAt", "(I)C"⟩
abbrev cJ0_init_db425 : ByteArray := prog_19_method_150_code
def yJ0_init_db425 : MethodName := ⟨RJ0, "<init>", "(Ljava/lang/AbstractStringBuilder;Ljava/lang/Void;)V"⟩
abbrev cJ0_coder_7d493 : ByteArray := prog_19_method_152_code
def yJ0_coder_7d493 : MethodName := ⟨RJ0, "coder", "()B"⟩
abbrev cJ0_isLatin1_aae02 : ByteArray := prog_19_method_154_code
def yJ0_isLatin1_aae02 : MethodName := ⟨RJ0, "isLatin1", "()Z"⟩
abbrev cJ0_checkIndex_df160 : ByteArray := prog_19_method_155_code
def yJ0_checkIndex_df160 : MethodName := ⟨RJ0, "checkIndex", "(II)V"⟩
abbrev cJ0_checkBoundsOffCount_cabcc : ByteArray := prog_19_method_157_code
def yJ0_checkBoundsOffCount_cabcc : MethodName := ⟨RJ0, "checkBoundsOffCount", "(III)I"⟩
abbrev cJ0_checkBoundsBeginEnd_23922 : ByteArray := prog_19_method_158_code
def yJ0_checkBoundsBeginEnd_23922 : MethodName := ⟨RJ0, "checkBoundsBeginEnd", "(III)V"⟩
def RJ4 : String := "java/lang/StringBuilder"
def TJ4 : u_T := fun k => match k with
  | 0 => ("java/lang/AbstractStringBuilder", "value", "[B", false)
  | 1 => ("java/lang/AbstractStringBuilder", "coder", "B", false)
  | 2 => ("java/lang/AbstractStringBuilder", "maybeLatin1", "Z", false)
  | _ => ("java/lang/AbstractStringBuilder", "count", "I", false)
def tyJ4 : Nat → FieldType := fun k => match k with
  | 0 => .array .byte
  | 1 => .byte
  | 2 => .boolean
  | _ => .int
abbrev wsJ40 : List Cond := u_ws RJ4 TJ4 4
theorem nmJ4 : ∀ a, a < 4 → ∀ b, b < 4 → a ≠ b → (TJ4 a).2.1 ≠ (TJ4 b).2.1 := by decide +kernel
theorem tyJ4_ok : ∀ k, k < 4 → parseFieldDescriptor (TJ4 k).2.2.1 = some (tyJ4 k) := by decide +kernel
abbrev cJ4_init_da8c8 : ByteArray := prog_20_method_1_code
def yJ4_init_da8c8 : MethodName := ⟨RJ4, "<init>", "()V"⟩
abbrev cJ4_append_cf468 : ByteArray := prog_20_method_14_code
def yJ4_append_cf468 : MethodName := ⟨RJ4, "append", "(C)Ljava/lang/StringBuilder;"⟩
abbrev cJ4_append_bf812 : ByteArray := prog_20_method_15_code
def yJ4_append_bf812 : MethodName := ⟨RJ4, "append", "(I)Ljava/lang/StringBuilder;"⟩
abbrev cJ4_toString_0e30d : ByteArray := prog_20_method_42_code
def yJ4_toString_0e30d : MethodName := ⟨RJ4, "toString", "()Ljava/lang/String;"⟩
abbrev cJ4_length_8abf5 : ByteArray := prog_20_method_93_code
def yJ4_length_8abf5 : MethodName := ⟨RJ4, "length", "()I"⟩
def RJ1 : String := "java/lang/StringLatin1"
def TJ1 : u_T := fun k => match k with
  | _ => ("", "", "", false)
def tyJ1 : Nat → FieldType := fun k => match k with
  | _ => .int
abbrev wsJ10 : List Cond := u_ws RJ1 TJ1 0
theorem nmJ1 : ∀ a, a < 0 → ∀ b, b < 0 → a ≠ b → (TJ1 a).2.1 ≠ (TJ1 b).2.1 := by decide +kernel
theorem tyJ1_ok : ∀ k, k < 0 → parseFieldDescriptor (TJ1 k).2.2.1 = some (tyJ1 k) := by decide +kernel
abbrev cJ1_charAt_3b067 : ByteArray := prog_21_method_2_code
def yJ1_charAt_3b067 : MethodName := ⟨RJ1, "charAt", "([BI)C"⟩
abbrev cJ1_canEncode_fc78d : ByteArray := prog_21_method_3_code
def yJ1_canEncode_fc78d : MethodName := ⟨RJ1, "canEncode", "(C)Z"⟩
abbrev cJ1_inflate_0e8fd : ByteArray := prog_21_method_50_code
def yJ1_inflate_0e8fd : MethodName := ⟨RJ1, "inflate", "([BI[BII)V"⟩
def RJ2 : String := "java/lang/StringUTF16"
def TJ2 : u_T := fun k => match k with
  | _ => ("", "", "", false)
def tyJ2 : Nat → FieldType := fun k => match k with
  | _ => .int
abbrev wsJ20 : List Cond := u_ws RJ2 TJ2 0
theorem nmJ2 : ∀ a, a < 0 → ∀ b, b < 0 → a ≠ b → (TJ2 a).2.1 ≠ (TJ2 b).2.1 := by decide +kernel
theorem tyJ2_ok : ∀ k, k < 0 → parseFieldDescriptor (TJ2 k).2.2.1 = some (tyJ2 k) := by decide +kernel
abbrev cJ2_newBytesFor_77867 : ByteArray := prog_22_method_2_code
def yJ2_newBytesFor_77867 : MethodName := ⟨RJ2, "newBytesFor", "(I)[B"⟩
abbrev cJ2_newBytesLength_0f7a4 : ByteArray := prog_22_method_3_code
def yJ2_newBytesLength_0f7a4 : MethodName := ⟨RJ2, "newBytesLength", "(I)I"⟩
abbrev cJ2_putChar_b72d1 : ByteArray := prog_22_method_4_code
def yJ2_putChar_b72d1 : MethodName := ⟨RJ2, "putChar", "([BII)V"⟩
abbrev cJ2_getChar_3b067 : ByteArray := prog_22_method_5_code
def yJ2_getChar_3b067 : MethodName := ⟨RJ2, "getChar", "([BI)C"⟩
abbrev cJ2_length_9d52b : ByteArray := prog_22_method_6_code
def yJ2_length_9d52b : MethodName := ⟨RJ2, "length", "([B)I"⟩
abbrev cJ2_coderFromArrayLen_85cad : ByteArray := prog_22_method_15_code
def yJ2_coderFromArrayLen_85cad : MethodName := ⟨RJ2, "coderFromArrayLen", "([BI)B"⟩
abbrev cJ2_compress_39247 : ByteArray := prog_22_method_17_code
def yJ2_compress_39247 : MethodName := ⟨RJ2, "compress", "([BII)[B"⟩
abbrev cJ2_compress_5af95 : ByteArray := prog_22_method_22_code
def yJ2_compress_5af95 : MethodName := ⟨RJ2, "compress", "([BI[BII)I"⟩
abbrev cJ2_putCharSB_b72d1 : ByteArray := prog_22_method_71_code
def yJ2_putCharSB_b72d1 : MethodName := ⟨RJ2, "putCharSB", "([BII)V"⟩
abbrev cJ2_getChars_46870 : ByteArray := prog_22_method_77_code
def yJ2_getChars_46870 : MethodName := ⟨RJ2, "getChars", "(III[B)I"⟩
abbrev cJ2_charAt_3b067 : ByteArray := prog_22_method_83_code
def yJ2_charAt_3b067 : MethodName := ⟨RJ2, "charAt", "([BI)C"⟩
abbrev cJ2_inflate_0e8fd : ByteArray := prog_22_method_86_code
def yJ2_inflate_0e8fd : MethodName := ⟨RJ2, "inflate", "([BI[BII)V"⟩
abbrev cJ2_getChars_ba4f3 : ByteArray := prog_22_method_89_code
def yJ2_getChars_ba4f3 : MethodName := ⟨RJ2, "getChars", "(II[B)I"⟩
abbrev cJ2_checkIndex_2214a : ByteArray := prog_22_method_91_code
def yJ2_checkIndex_2214a : MethodName := ⟨RJ2, "checkIndex", "(I[B)V"⟩
abbrev cJ2_checkBoundsBeginEnd_d044e : ByteArray := prog_22_method_93_code
def yJ2_checkBoundsBeginEnd_d044e : MethodName := ⟨RJ2, "checkBoundsBeginEnd", "(II[B)V"⟩
abbrev cJ2_checkBoundsOffCount_d044e : ByteArray := prog_22_method_94_code
def yJ2_checkBoundsOffCount_d044e : MethodName := ⟨RJ2, "checkBoundsOffCount", "(II[B)V"⟩
def RJ10 : String := "java/lang/System"
def TJ10 : u_T := fun k => match k with
  | _ => ("", "", "", false)
def tyJ10 : Nat → FieldType := fun k => match k with
  | _ => .int
abbrev wsJ100 : List Cond := u_ws RJ10 TJ10 0
theorem nmJ10 : ∀ a, a < 0 → ∀ b, b < 0 → a ≠ b → (TJ10 a).2.1 ≠ (TJ10 b).2.1 := by decide +kernel
theorem tyJ10_ok : ∀ k, k < 0 → parseFieldDescriptor (TJ10 k).2.2.1 = some (tyJ10 k) := by decide +kernel
def RJxfd54e : String := "java/lang/constant/Constable"
def TJxfd54e : u_T := fun k => match k with
  | _ => ("", "", "", false)
def tyJxfd54e : Nat → FieldType := fun k => match k with
  | _ => .int
abbrev wsJxfd54e0 : List Cond := u_ws RJxfd54e TJxfd54e 0
theorem nmJxfd54e : ∀ a, a < 0 → ∀ b, b < 0 → a ≠ b → (TJxfd54e a).2.1 ≠ (TJxfd54e b).2.1 := by decide +kernel
theorem tyJxfd54e_ok : ∀ k, k < 0 → parseFieldDescriptor (TJxfd54e k).2.2.1 = some (tyJxfd54e k) := by decide +kernel
def RJx3cf43 : String := "java/lang/constant/ConstantDesc"
def TJx3cf43 : u_T := fun k => match k with
  | _ => ("", "", "", false)
def tyJx3cf43 : Nat → FieldType := fun k => match k with
  | _ => .int
abbrev wsJx3cf430 : List Cond := u_ws RJx3cf43 TJx3cf43 0
theorem nmJx3cf43 : ∀ a, a < 0 → ∀ b, b < 0 → a ≠ b → (TJx3cf43 a).2.1 ≠ (TJx3cf43 b).2.1 := by decide +kernel
theorem tyJx3cf43_ok : ∀ k, k < 0 → parseFieldDescriptor (TJx3cf43 k).2.2.1 = some (tyJx3cf43 k) := by decide +kernel
def RJ7 : String := "java/util/Arrays"
def TJ7 : u_T := fun k => match k with
  | _ => ("", "", "", false)
def tyJ7 : Nat → FieldType := fun k => match k with
  | _ => .int
abbrev wsJ70 : List Cond := u_ws RJ7 TJ7 0
theorem nmJ7 : ∀ a, a < 0 → ∀ b, b < 0 → a ≠ b → (TJ7 a).2.1 ≠ (TJ7 b).2.1 := by decide +kernel
theorem tyJ7_ok : ∀ k, k < 0 → parseFieldDescriptor (TJ7 k).2.2.1 = some (tyJ7 k) := by decide +kernel
abbrev cJ7_copyOf_9075b : ByteArray := prog_25_method_121_code
def yJ7_copyOf_9075b : MethodName := ⟨RJ7, "copyOf", "([BI)[B"⟩
abbrev cJ7_checkLength_df160 : ByteArray := prog_25_method_131_code
def yJ7_checkLength_df160 : MethodName := ⟨RJ7, "checkLength", "(II)V"⟩
abbrev cJ7_copyOfRange_39247 : ByteArray := prog_25_method_132_code
def yJ7_copyOfRange_39247 : MethodName := ⟨RJ7, "copyOfRange", "([BII)[B"⟩
abbrev cJ7_copyOfRangeByte_39247 : ByteArray := prog_25_method_133_code
def yJ7_copyOfRangeByte_39247 : MethodName := ⟨RJ7, "copyOfRangeByte", "([BII)[B"⟩
def RJ8 : String := "jdk/internal/util/ArraysSupport"
def TJ8 : u_T := fun k => match k with
  | _ => ("", "", "", false)
def tyJ8 : Nat → FieldType := fun k => match k with
  | _ => .int
abbrev wsJ80 : List Cond := u_ws RJ8 TJ8 0
theorem nmJ8 : ∀ a, a < 0 → ∀ b, b < 0 → a ≠ b → (TJ8 a).2.1 ≠ (TJ8 b).2.1 := by decide +kernel
theorem tyJ8_ok : ∀ k, k < 0 → parseFieldDescriptor (TJ8 k).2.2.1 = some (tyJ8 k) := by decide +kernel
abbrev cJ8_newLength_cabcc : ByteArray := prog_26_method_27_code
def yJ8_newLength_cabcc : MethodName := ⟨RJ8, "newLength", "(III)I"⟩
abbrev cJ8_hugeLength_7cf53 : ByteArray := prog_26_method_28_code
def yJ8_hugeLength_7cf53 : MethodName := ⟨RJ8, "hugeLength", "(II)I"⟩
def RJ3 : String := "jdk/internal/util/Preconditions"
def TJ3 : u_T := fun k => match k with
  | _ => ("", "", "", false)
def tyJ3 : Nat → FieldType := fun k => match k with
  | _ => .int
abbrev wsJ30 : List Cond := u_ws RJ3 TJ3 0
theorem nmJ3 : ∀ a, a < 0 → ∀ b, b < 0 → a ≠ b → (TJ3 a).2.1 ≠ (TJ3 b).2.1 := by decide +kernel
theorem tyJ3_ok : ∀ k, k < 0 → parseFieldDescriptor (TJ3 k).2.2.1 = some (tyJ3 k) := by decide +kernel
abbrev cJ3_checkIndex_8e157 : ByteArray := prog_27_method_11_code
def yJ3_checkIndex_8e157 : MethodName := ⟨RJ3, "checkIndex", "(IILjava/util/function/BiFunction;)I"⟩
abbrev cJ3_checkFromToIndex_8c36e : ByteArray := prog_27_method_12_code
def yJ3_checkFromToIndex_8c36e : MethodName := ⟨RJ3, "checkFromToIndex", "(IIILjava/util/function/BiFunction;)I"⟩
abbrev cJ3_checkFromIndexSize_8c36e : ByteArray := prog_27_method_13_code
def yJ3_checkFromIndexSize_8c36e : MethodName := ⟨RJ3, "checkFromIndexSize", "(IIILjava/util/function/BiFunction;)I"⟩
def RL : String := "WindsparlourLaw"
abbrev cL_below : ByteArray := method_2_code
def yL_below : MethodName := ⟨RL, "below", "(II)I"⟩
abbrev cL_cell : ByteArray := method_3_code
def yL_cell : MethodName := ⟨RL, "cell", "([II)I"⟩
abbrev cL_law : ByteArray := code
def yL_law : MethodName := ⟨RL, "law", "([I)Z"⟩
abbrev cL_isTurn : ByteArray := method_5_code
def yL_isTurn : MethodName := ⟨RL, "isTurn", "(LWindsparlour;II)Z"⟩
abbrev cL_isThrownAtAll : ByteArray := method_6_code
def yL_isThrownAtAll : MethodName := ⟨RL, "isThrownAtAll", "(LWindsparlour;I)Z"⟩
abbrev cL_isOffered : ByteArray := method_7_code
def yL_isOffered : MethodName := ⟨RL, "isOffered", "(LWindsparlour;II)Z"⟩
abbrev cL_isWon : ByteArray := method_8_code
def yL_isWon : MethodName := ⟨RL, "isWon", "(LWindsparlour;I)Z"⟩
abbrev cL_isReady : ByteArray := method_9_code
def yL_isReady : MethodName := ⟨RL, "isReady", "(LWindsparlour;I)Z"⟩
abbrev cL_areWell : ByteArray := method_10_code
def yL_areWell : MethodName := ⟨RL, "areWell", "(LWindsparlour;)Z"⟩
abbrev vwCl : List vw_C := [(RJ0, TJ0, 4), (RJ4, TJ4, 4), (RJ0, TJ0, 4), (RJ0, TJ0, 4), (RJ0, TJ0, 4), (RX0, TX0, 5), (RX1, TX1, 9), (RX2, TX2, 1), (RX3, TX3, 16)]
def zlay (c : Nat) : List Nat := match c with
  | 1 => [2, 0, 0, 0]
  | 2 => [2, 0, 0, 0]
  | 3 => [2, 0, 0, 0]
  | 4 => [2, 0, 0, 0]
  | 5 => [2, 0, 0, 0]
  | 6 => [2, 2, 2, 2, 2]
  | 7 => [2, 2, 2, 1, 0, 0, 0, 0, 0]
  | 8 => [2]
  | 9 => [2, 2, 2, 0, 0, 0, 0, 0, 0, 0, 0, 0, 0, 0, 0, 0]
  | _ => []
theorem zin1 : ∀ w ∈ u_ws RJ0 TJ0 4, w ∈ zw := by decide +kernel
theorem zin2 : ∀ w ∈ u_ws RJ4 TJ4 4, w ∈ zw := by decide +kernel
theorem zin3 : ∀ w ∈ u_ws RJ0 TJ0 4, w ∈ zw := by decide +kernel
theorem zin4 : ∀ w ∈ u_ws RJ0 TJ0 4, w ∈ zw := by decide +kernel
theorem zin5 : ∀ w ∈ u_ws RJ0 TJ0 4, w ∈ zw := by decide +kernel
theorem zin6 : ∀ w ∈ u_ws RX0 TX0 5, w ∈ zw := by decide +kernel
theorem zin7 : ∀ w ∈ u_ws RX1 TX1 9, w ∈ zw := by decide +kernel
theorem zin8 : ∀ w ∈ u_ws RX2 TX2 1, w ∈ zw := by decide +kernel
theorem zin9 : ∀ w ∈ u_ws RX3 TX3 16, w ∈ zw := by decide +kernel
/-- the handlers of the methods that have some -/
def zhtl : List ((String × String × String) × List (Nat × Nat × Nat × Nat)) := [(("WindsparlourLaw", "isTurn", "(LWindsparlour;II)Z"), [(104, 181, 298, 86), (182, 253, 298, 86), (254, 294, 298, 86)]), (("WindsparlourLaw", "isWon", "(LWindsparlour;I)Z"), [(23, 109, 110, 86)]), (("WindsparlourLaw", "isThrownAtAll", "(LWindsparlour;I)Z"), [(8, 27, 28, 86)]), (("WindsparlourLaw", "isOffered", "(LWindsparlour;II)Z"), [(79, 181, 182, 86)])]
def zht (y : MethodName) : List (Nat × Nat × Nat × Nat) := match zhtl.find? (fun q => q.1.1 == y.cls && q.1.2.1 == y.name && q.1.2.2 == y.desc) with
  | some q => q.2
  | none => []
