def RX0 : String := "Windsparlour$Parting"
def TX0 : u_T := fun k => match k with
  | 0 => ("Windsparlour$Parting", "rest", "[I", true)
  | 1 => ("Windsparlour$Parting", "plain", "[I", true)
  | 2 => ("Windsparlour$Parting", "paired", "[I", true)
  | 3 => ("Windsparlour$Parting", "groupPlain", "[I", true)
  | _ => ("Windsparlour$Parting", "groupPaired", "[I", true)
def tyX0 : Nat → FieldType := fun k => match k with
  | 0 => .array .int
  | 1 => .array .int
  | 2 => .array .int
  | 3 => .array .int
  | _ => .array .int
abbrev wsX00 : List Cond := u_ws RX0 TX0 5
theorem nmX0 : ∀ a, a < 5 → ∀ b, b < 5 → a ≠ b → (TX0 a).2.1 ≠ (TX0 b).2.1 := by decide +kernel
theorem tyX0_ok : ∀ k, k < 5 → parseFieldDescriptor (TX0 k).2.2.1 = some (tyX0 k) := by decide +kernel
abbrev cX0_init : ByteArray := prog_2_method_1_code
def yX0_init : MethodName := ⟨RX0, "<init>", "()V"⟩
abbrev cX0_complete : ByteArray := prog_2_method_2_code
def yX0_complete : MethodName := ⟨RX0, "complete", "([I)Z"⟩
abbrev cX0_copy : ByteArray := prog_2_method_3_code
def yX0_copy : MethodName := ⟨RX0, "copy", "([I)V"⟩
abbrev cX0_restIsSets : ByteArray := prog_2_method_4_code
def yX0_restIsSets : MethodName := ⟨RX0, "restIsSets", "()Z"⟩
abbrev cX0_far : ByteArray := prog_2_method_5_code
def yX0_far : MethodName := ⟨RX0, "far", "([II)I"⟩
abbrev cX0_join : ByteArray := prog_2_method_6_code
def yX0_join : MethodName := ⟨RX0, "join", "(III)V"⟩
abbrev cX0_joinParts : ByteArray := prog_2_method_7_code
def yX0_joinParts : MethodName := ⟨RX0, "joinParts", "(I)V"⟩
abbrev cX0_most : ByteArray := prog_2_method_8_code
def yX0_most : MethodName := ⟨RX0, "most", "([IIII)I"⟩
abbrev cX0_fits : ByteArray := prog_2_method_9_code
def yX0_fits : MethodName := ⟨RX0, "fits", "([IIII)Z"⟩
abbrev cX0_changePart : ByteArray := prog_2_method_10_code
def yX0_changePart : MethodName := ⟨RX0, "changePart", "([IIII)V"⟩
def RX1 : String := "Windsparlour$Seat"
def TX1 : u_T := fun k => match k with
  | 0 => ("Windsparlour$Seat", "tiles", "[I", true)
  | 1 => ("Windsparlour$Seat", "sets", "[I", true)
  | 2 => ("Windsparlour$Seat", "river", "[I", true)
  | 3 => ("Windsparlour$Seat", "discarded", "J", false)
  | 4 => ("Windsparlour$Seat", "setsMany", "I", false)
  | 5 => ("Windsparlour$Seat", "riverMany", "I", false)
  | 6 => ("Windsparlour$Seat", "called", "Z", false)
  | 7 => ("Windsparlour$Seat", "points", "I", false)
  | _ => ("Windsparlour$Seat", "wins", "I", false)
def tyX1 : Nat → FieldType := fun k => match k with
  | 0 => .array .int
  | 1 => .array .int
  | 2 => .array .int
  | 3 => .long
  | 4 => .int
  | 5 => .int
  | 6 => .boolean
  | 7 => .int
  | _ => .int
abbrev wsX10 : List Cond := u_ws RX1 TX1 9
theorem nmX1 : ∀ a, a < 9 → ∀ b, b < 9 → a ≠ b → (TX1 a).2.1 ≠ (TX1 b).2.1 := by decide +kernel
theorem tyX1_ok : ∀ k, k < 9 → parseFieldDescriptor (TX1 k).2.2.1 = some (tyX1 k) := by decide +kernel
abbrev cX1_init : ByteArray := prog_3_method_1_code
def yX1_init : MethodName := ⟨RX1, "<init>", "()V"⟩
abbrev cX1_clear : ByteArray := prog_3_method_2_code
def yX1_clear : MethodName := ⟨RX1, "clear", "()V"⟩
abbrev cX1_count : ByteArray := prog_3_method_3_code
def yX1_count : MethodName := ⟨RX1, "count", "(I)I"⟩
abbrev cX1_change : ByteArray := prog_3_method_4_code
def yX1_change : MethodName := ⟨RX1, "change", "(II)V"⟩
abbrev cX1_inHand : ByteArray := prog_3_method_5_code
def yX1_inHand : MethodName := ⟨RX1, "inHand", "()I"⟩
abbrev cX1_size : ByteArray := prog_3_method_6_code
def yX1_size : MethodName := ⟨RX1, "size", "()I"⟩
abbrev cX1_openSets : ByteArray := prog_3_method_7_code
def yX1_openSets : MethodName := ⟨RX1, "openSets", "()I"⟩
abbrev cX1_rowLies : ByteArray := prog_3_method_8_code
def yX1_rowLies : MethodName := ⟨RX1, "rowLies", "()Z"⟩
abbrev cX1_inSets : ByteArray := prog_3_method_9_code
def yX1_inSets : MethodName := ⟨RX1, "inSets", "(I)I"⟩
abbrev cX1_lying : ByteArray := prog_3_method_10_code
def yX1_lying : MethodName := ⟨RX1, "lying", "(I)I"⟩
abbrev cX1_tilesOf : ByteArray := prog_3_method_11_code
def yX1_tilesOf : MethodName := ⟨RX1, "tilesOf", "(III)I"⟩
abbrev cX1_laySet : ByteArray := prog_3_method_12_code
def yX1_laySet : MethodName := ⟨RX1, "laySet", "(II)V"⟩
abbrev cX1_toRiver : ByteArray := prog_3_method_13_code
def yX1_toRiver : MethodName := ⟨RX1, "toRiver", "(I)V"⟩
abbrev cX1_latestInRiver : ByteArray := prog_3_method_14_code
def yX1_latestInRiver : MethodName := ⟨RX1, "latestInRiver", "()I"⟩
abbrev cX1_leaveRiver : ByteArray := prog_3_method_15_code
def yX1_leaveRiver : MethodName := ⟨RX1, "leaveRiver", "()I"⟩
def RX2 : String := "Windsparlour$Valuing"
def TX2 : u_T := fun k => match k with
  | _ => ("Windsparlour$Valuing", "all", "[I", true)
def tyX2 : Nat → FieldType := fun k => match k with
  | _ => .array .int
abbrev wsX20 : List Cond := u_ws RX2 TX2 1
theorem nmX2 : ∀ a, a < 1 → ∀ b, b < 1 → a ≠ b → (TX2 a).2.1 ≠ (TX2 b).2.1 := by decide +kernel
theorem tyX2_ok : ∀ k, k < 1 → parseFieldDescriptor (TX2 k).2.2.1 = some (tyX2 k) := by decide +kernel
abbrev cX2_init : ByteArray := prog_4_method_1_code
def yX2_init : MethodName := ⟨RX2, "<init>", "()V"⟩
abbrev cX2_value : ByteArray := prog_4_method_2_code
def yX2_value : MethodName := ⟨RX2, "value", "(LWindsparlour$Seat;ZII)I"⟩
abbrev cX2_gather : ByteArray := prog_4_method_3_code
def yX2_gather : MethodName := ⟨RX2, "gather", "(LWindsparlour$Seat;)V"⟩
abbrev cX2_setOf : ByteArray := prog_4_method_4_code
def yX2_setOf : MethodName := ⟨RX2, "setOf", "(I)I"⟩
abbrev cX2_withoutEndsAndHonours : ByteArray := prog_4_method_5_code
def yX2_withoutEndsAndHonours : MethodName := ⟨RX2, "withoutEndsAndHonours", "()Z"⟩
abbrev cX2_withoutRows : ByteArray := prog_4_method_6_code
def yX2_withoutRows : MethodName := ⟨RX2, "withoutRows", "(LWindsparlour$Seat;)Z"⟩
abbrev cX2_ofOneSuit : ByteArray := prog_4_method_7_code
def yX2_ofOneSuit : MethodName := ⟨RX2, "ofOneSuit", "()I"⟩
abbrev cX2_anyOf : ByteArray := prog_4_method_8_code
def yX2_anyOf : MethodName := ⟨RX2, "anyOf", "(II)Z"⟩
def RX3 : String := "Windsparlour"
def TX3 : u_T := fun k => match k with
  | 0 => ("Windsparlour", "seats", "[LWindsparlour$Seat;", true)
  | 1 => ("Windsparlour", "parting", "LWindsparlour$Parting;", true)
  | 2 => ("Windsparlour", "valuing", "LWindsparlour$Valuing;", true)
  | 3 => ("Windsparlour", "step", "I", false)
  | 4 => ("Windsparlour", "shift", "I", false)
  | 5 => ("Windsparlour", "drawn", "I", false)
  | 6 => ("Windsparlour", "fours", "I", false)
  | 7 => ("Windsparlour", "phase", "I", false)
  | 8 => ("Windsparlour", "turn", "I", false)
  | 9 => ("Windsparlour", "dealer", "I", false)
  | 10 => ("Windsparlour", "rounds", "I", false)
  | 11 => ("Windsparlour", "pot", "I", false)
  | 12 => ("Windsparlour", "luckyKind", "I", false)
  | 13 => ("Windsparlour", "lastWinner", "I", false)
  | 14 => ("Windsparlour", "lastDrawn", "I", false)
  | _ => ("Windsparlour", "drewLatest", "Z", false)
def tyX3 : Nat → FieldType := fun k => match k with
  | 0 => .array (.object "Windsparlour$Seat")
  | 1 => .object "Windsparlour$Parting"
  | 2 => .object "Windsparlour$Valuing"
  | 3 => .int
  | 4 => .int
  | 5 => .int
  | 6 => .int
  | 7 => .int
  | 8 => .int
  | 9 => .int
  | 10 => .int
  | 11 => .int
  | 12 => .int
  | 13 => .int
  | 14 => .int
  | _ => .boolean
abbrev wsX30 : List Cond := u_ws RX3 TX3 16
theorem nmX3 : ∀ a, a < 16 → ∀ b, b < 16 → a ≠ b → (TX3 a).2.1 ≠ (TX3 b).2.1 := by decide +kernel
theorem tyX3_ok : ∀ k, k < 16 → parseFieldDescriptor (TX3 k).2.2.1 = some (tyX3 k) := by decide +kernel
abbrev cX3_init : ByteArray := prog_1_method_1_code
def yX3_init : MethodName := ⟨RX3, "<init>", "()V"⟩
abbrev cX3_lay : ByteArray := prog_1_method_2_code
def yX3_lay : MethodName := ⟨RX3, "lay", "(II)I"⟩
abbrev cX3_draw : ByteArray := prog_1_method_3_code
def yX3_draw : MethodName := ⟨RX3, "draw", "()I"⟩
abbrev cX3_discard : ByteArray := prog_1_method_4_code
def yX3_discard : MethodName := ⟨RX3, "discard", "(I)I"⟩
abbrev cX3_call : ByteArray := prog_1_method_5_code
def yX3_call : MethodName := ⟨RX3, "call", "(I)I"⟩
abbrev cX3_claim : ByteArray := prog_1_method_6_code
def yX3_claim : MethodName := ⟨RX3, "claim", "(III)I"⟩
abbrev cX3_four : ByteArray := prog_1_method_7_code
def yX3_four : MethodName := ⟨RX3, "four", "(I)I"⟩
abbrev cX3_pass : ByteArray := prog_1_method_8_code
def yX3_pass : MethodName := ⟨RX3, "pass", "()I"⟩
abbrev cX3_win : ByteArray := prog_1_method_9_code
def yX3_win : MethodName := ⟨RX3, "win", "(I)I"⟩
abbrev cX3_has : ByteArray := prog_1_method_10_code
def yX3_has : MethodName := ⟨RX3, "has", "(II)I"⟩
abbrev cX3_ofPlayer : ByteArray := prog_1_method_11_code
def yX3_ofPlayer : MethodName := ⟨RX3, "ofPlayer", "(II)I"⟩
abbrev cX3_ofSet : ByteArray := prog_1_method_12_code
def yX3_ofSet : MethodName := ⟨RX3, "ofSet", "(II)I"⟩
abbrev cX3_river : ByteArray := prog_1_method_13_code
def yX3_river : MethodName := ⟨RX3, "river", "(II)I"⟩
abbrev cX3_waits : ByteArray := prog_1_method_14_code
def yX3_waits : MethodName := ⟨RX3, "waits", "(I)J"⟩
abbrev cX3_seen : ByteArray := prog_1_method_15_code
def yX3_seen : MethodName := ⟨RX3, "seen", "(I)I"⟩
abbrev cX3_hand : ByteArray := prog_1_method_16_code
def yX3_hand : MethodName := ⟨RX3, "hand", "(I)Ljava/lang/String;"⟩
abbrev cX3_many : ByteArray := prog_1_method_17_code
def yX3_many : MethodName := ⟨RX3, "many", "(I)I"⟩
abbrev cX3_lead : ByteArray := prog_1_method_18_code
def yX3_lead : MethodName := ⟨RX3, "lead", "(I)D"⟩
abbrev cX3_worth : ByteArray := prog_1_method_19_code
def yX3_worth : MethodName := ⟨RX3, "worth", "(II)I"⟩
abbrev cX3_best : ByteArray := prog_1_method_20_code
def yX3_best : MethodName := ⟨RX3, "best", "()I"⟩
abbrev cX3_isSafe : ByteArray := prog_1_method_21_code
def yX3_isSafe : MethodName := ⟨RX3, "isSafe", "(II)Z"⟩
abbrev cX3_outs : ByteArray := prog_1_method_22_code
def yX3_outs : MethodName := ⟨RX3, "outs", "(I)I"⟩
abbrev cX3_digest : ByteArray := prog_1_method_23_code
def yX3_digest : MethodName := ⟨RX3, "digest", "()J"⟩
abbrev cX3_requirePlayer : ByteArray := prog_1_method_24_code
def yX3_requirePlayer : MethodName := ⟨RX3, "requirePlayer", "(I)V"⟩
abbrev cX3_requireKind : ByteArray := prog_1_method_25_code
def yX3_requireKind : MethodName := ⟨RX3, "requireKind", "(I)V"⟩
abbrev cX3_requirePhase : ByteArray := prog_1_method_26_code
def yX3_requirePhase : MethodName := ⟨RX3, "requirePhase", "(I)V"⟩
abbrev cX3_seatInTurn : ByteArray := prog_1_method_27_code
def yX3_seatInTurn : MethodName := ⟨RX3, "seatInTurn", "()LWindsparlour$Seat;"⟩
abbrev cX3_startsRow : ByteArray := prog_1_method_28_code
def yX3_startsRow : MethodName := ⟨RX3, "startsRow", "(I)Z"⟩
abbrev cX3_beginRound : ByteArray := prog_1_method_29_code
def yX3_beginRound : MethodName := ⟨RX3, "beginRound", "()V"⟩
abbrev cX3_dealTo : ByteArray := prog_1_method_30_code
def yX3_dealTo : MethodName := ⟨RX3, "dealTo", "(I)V"⟩
abbrev cX3_kindAt : ByteArray := prog_1_method_31_code
def yX3_kindAt : MethodName := ⟨RX3, "kindAt", "(I)I"⟩
abbrev cX3_follower : ByteArray := prog_1_method_32_code
def yX3_follower : MethodName := ⟨RX3, "follower", "(I)I"⟩
abbrev cX3_tilesLeft : ByteArray := prog_1_method_33_code
def yX3_tilesLeft : MethodName := ⟨RX3, "tilesLeft", "()I"⟩
abbrev cX3_canDraw : ByteArray := prog_1_method_34_code
def yX3_canDraw : MethodName := ⟨RX3, "canDraw", "()Z"⟩
abbrev cX3_fourAllowed : ByteArray := prog_1_method_35_code
def yX3_fourAllowed : MethodName := ⟨RX3, "fourAllowed", "()Z"⟩
abbrev cX3_drawForFour : ByteArray := prog_1_method_36_code
def yX3_drawForFour : MethodName := ⟨RX3, "drawForFour", "()I"⟩
abbrev cX3_receive : ByteArray := prog_1_method_37_code
def yX3_receive : MethodName := ⟨RX3, "receive", "(I)V"⟩
abbrev cX3_layIntoRiver : ByteArray := prog_1_method_38_code
def yX3_layIntoRiver : MethodName := ⟨RX3, "layIntoRiver", "(LWindsparlour$Seat;I)V"⟩
abbrev cX3_mayClaim : ByteArray := prog_1_method_39_code
def yX3_mayClaim : MethodName := ⟨RX3, "mayClaim", "(III)Z"⟩
abbrev cX3_completesRow : ByteArray := prog_1_method_40_code
def yX3_completesRow : MethodName := ⟨RX3, "completesRow", "(LWindsparlour$Seat;II)Z"⟩
abbrev cX3_winsAlone : ByteArray := prog_1_method_41_code
def yX3_winsAlone : MethodName := ⟨RX3, "winsAlone", "(I)Z"⟩
abbrev cX3_winsByDiscard : ByteArray := prog_1_method_42_code
def yX3_winsByDiscard : MethodName := ⟨RX3, "winsByDiscard", "(I)Z"⟩
abbrev cX3_payWin : ByteArray := prog_1_method_43_code
def yX3_payWin : MethodName := ⟨RX3, "payWin", "(IZI)V"⟩
abbrev cX3_endWithoutWinner : ByteArray := prog_1_method_44_code
def yX3_endWithoutWinner : MethodName := ⟨RX3, "endWithoutWinner", "()V"⟩
abbrev cX3_windOf : ByteArray := prog_1_method_45_code
def yX3_windOf : MethodName := ⟨RX3, "windOf", "(I)I"⟩
abbrev cX3_waitsOf : ByteArray := prog_1_method_46_code
def yX3_waitsOf : MethodName := ⟨RX3, "waitsOf", "(LWindsparlour$Seat;)J"⟩
abbrev cX3_readyWithout : ByteArray := prog_1_method_47_code
def yX3_readyWithout : MethodName := ⟨RX3, "readyWithout", "(LWindsparlour$Seat;I)Z"⟩
abbrev cX3_farWith : ByteArray := prog_1_method_48_code
def yX3_farWith : MethodName := ⟨RX3, "farWith", "(LWindsparlour$Seat;II)I"⟩
abbrev cX3_fourLeads : ByteArray := prog_1_method_49_code
def yX3_fourLeads : MethodName := ⟨RX3, "fourLeads", "(I)I"⟩
abbrev cX3_writeSuit : ByteArray := prog_1_method_50_code
def yX3_writeSuit : MethodName := ⟨RX3, "writeSuit", "(Ljava/lang/StringBuilder;LWindsparlour$Seat;IC)V"⟩
abbrev cX3_writeHonours : ByteArray := prog_1_method_51_code
def yX3_writeHonours : MethodName := ⟨RX3, "writeHonours", "(Ljava/lang/StringBuilder;LWindsparlour$Seat;)V"⟩
abbrev cX3_digestPlayer : ByteArray := prog_1_method_52_code
def yX3_digestPlayer : MethodName := ⟨RX3, "digestPlayer", "(JI)J"⟩
def RX4 : String := "WindsparlourLaw$Out"
def TX4 : u_T := fun k => match k with
  | 0 => ("WindsparlourLaw$Out", "n", "J", false)
  | 1 => ("WindsparlourLaw$Out", "d", "D", false)
  | _ => ("WindsparlourLaw$Out", "s", "Ljava/lang/String;", false)
def tyX4 : Nat → FieldType := fun k => match k with
  | 0 => .long
  | 1 => .double
  | _ => .object "java/lang/String"
abbrev wsX40 : List Cond := u_ws RX4 TX4 3
theorem nmX4 : ∀ a, a < 3 → ∀ b, b < 3 → a ≠ b → (TX4 a).2.1 ≠ (TX4 b).2.1 := by decide +kernel
theorem tyX4_ok : ∀ k, k < 3 → parseFieldDescriptor (TX4 k).2.2.1 = some (tyX4 k) := by decide +kernel
abbrev cX4_init : ByteArray := prog_6_method_1_code
def yX4_init : MethodName := ⟨RX4, "<init>", "()V"⟩
def RX5 : String := "WindsparlourModel$Lying"
def TX5 : u_T := fun k => match k with
  | 0 => ("WindsparlourModel$Lying", "kind", "I", true)
  | _ => ("WindsparlourModel$Lying", "what", "I", true)
def tyX5 : Nat → FieldType := fun k => match k with
  | 0 => .int
  | _ => .int
abbrev wsX50 : List Cond := u_ws RX5 TX5 2
theorem nmX5 : ∀ a, a < 2 → ∀ b, b < 2 → a ≠ b → (TX5 a).2.1 ≠ (TX5 b).2.1 := by decide +kernel
theorem tyX5_ok : ∀ k, k < 2 → parseFieldDescriptor (TX5 k).2.2.1 = some (tyX5 k) := by decide +kernel
abbrev cX5_init : ByteArray := prog_8_method_1_code
def yX5_init : MethodName := ⟨RX5, "<init>", "(II)V"⟩
abbrev cX5_isOpen : ByteArray := prog_8_method_2_code
def yX5_isOpen : MethodName := ⟨RX5, "isOpen", "()Z"⟩
abbrev cX5_of : ByteArray := prog_8_method_3_code
def yX5_of : MethodName := ⟨RX5, "of", "(I)I"⟩
def RX6 : String := "WindsparlourModel$Player"
def TX6 : u_T := fun k => match k with
  | 0 => ("WindsparlourModel$Player", "points", "I", false)
  | 1 => ("WindsparlourModel$Player", "won", "I", false)
  | 2 => ("WindsparlourModel$Player", "hand", "[I", false)
  | 3 => ("WindsparlourModel$Player", "lying", "Ljava/util/ArrayList;", true)
  | 4 => ("WindsparlourModel$Player", "river", "Ljava/util/ArrayList;", true)
  | 5 => ("WindsparlourModel$Player", "discarded", "J", false)
  | _ => ("WindsparlourModel$Player", "hasCalled", "Z", false)
def tyX6 : Nat → FieldType := fun k => match k with
  | 0 => .int
  | 1 => .int
  | 2 => .array .int
  | 3 => .object "java/util/ArrayList"
  | 4 => .object "java/util/ArrayList"
  | 5 => .long
  | _ => .boolean
abbrev wsX60 : List Cond := u_ws RX6 TX6 7
theorem nmX6 : ∀ a, a < 7 → ∀ b, b < 7 → a ≠ b → (TX6 a).2.1 ≠ (TX6 b).2.1 := by decide +kernel
theorem tyX6_ok : ∀ k, k < 7 → parseFieldDescriptor (TX6 k).2.2.1 = some (tyX6 k) := by decide +kernel
abbrev cX6_init : ByteArray := prog_9_method_1_code
def yX6_init : MethodName := ⟨RX6, "<init>", "()V"⟩
abbrev cX6_begin : ByteArray := prog_9_method_2_code
def yX6_begin : MethodName := ⟨RX6, "begin", "()V"⟩
abbrev cX6_tiles : ByteArray := prog_9_method_3_code
def yX6_tiles : MethodName := ⟨RX6, "tiles", "()I"⟩
abbrev cX6_hasTooMany : ByteArray := prog_9_method_4_code
def yX6_hasTooMany : MethodName := ⟨RX6, "hasTooMany", "()Z"⟩
abbrev cX6_open : ByteArray := prog_9_method_5_code
def yX6_open : MethodName := ⟨RX6, "open", "()I"⟩
abbrev cX6_far : ByteArray := prog_9_method_6_code
def yX6_far : MethodName := ⟨RX6, "far", "()I"⟩
abbrev cX6_farWith : ByteArray := prog_9_method_7_code
def yX6_farWith : MethodName := ⟨RX6, "farWith", "(II)I"⟩
abbrev cX6_waits : ByteArray := prog_9_method_8_code
def yX6_waits : MethodName := ⟨RX6, "waits", "()J"⟩
abbrev cX6_isReady : ByteArray := prog_9_method_9_code
def yX6_isReady : MethodName := ⟨RX6, "isReady", "()Z"⟩
def RX7 : String := "WindsparlourModel"
def TX7 : u_T := fun k => match k with
  | 0 => ("WindsparlourModel", "thrown", "I", false)
  | 1 => ("WindsparlourModel", "players", "[LWindsparlourModel$Player;", true)
  | 2 => ("WindsparlourModel", "wall", "[I", true)
  | 3 => ("WindsparlourModel", "front", "I", false)
  | 4 => ("WindsparlourModel", "back", "I", false)
  | 5 => ("WindsparlourModel", "luckyKind", "I", false)
  | 6 => ("WindsparlourModel", "phase", "I", false)
  | 7 => ("WindsparlourModel", "turn", "I", false)
  | 8 => ("WindsparlourModel", "dealer", "I", false)
  | 9 => ("WindsparlourModel", "rounds", "I", false)
  | 10 => ("WindsparlourModel", "fours", "I", false)
  | 11 => ("WindsparlourModel", "pot", "I", false)
  | 12 => ("WindsparlourModel", "winner", "I", false)
  | 13 => ("WindsparlourModel", "drawn", "I", false)
  | _ => ("WindsparlourModel", "offered", "I", false)
def tyX7 : Nat → FieldType := fun k => match k with
  | 0 => .int
  | 1 => .array (.object "WindsparlourModel$Player")
  | 2 => .array .int
  | 3 => .int
  | 4 => .int
  | 5 => .int
  | 6 => .int
  | 7 => .int
  | 8 => .int
  | 9 => .int
  | 10 => .int
  | 11 => .int
  | 12 => .int
  | 13 => .int
  | _ => .int
abbrev wsX70 : List Cond := u_ws RX7 TX7 15
theorem nmX7 : ∀ a, a < 15 → ∀ b, b < 15 → a ≠ b → (TX7 a).2.1 ≠ (TX7 b).2.1 := by decide +kernel
theorem tyX7_ok : ∀ k, k < 15 → parseFieldDescriptor (TX7 k).2.2.1 = some (tyX7 k) := by decide +kernel
abbrev cX7_isIn : ByteArray := prog_7_method_1_code
def yX7_isIn : MethodName := ⟨RX7, "isIn", "(III)Z"⟩
abbrev cX7_isKind : ByteArray := prog_7_method_2_code
def yX7_isKind : MethodName := ⟨RX7, "isKind", "(I)Z"⟩
abbrev cX7_isEnd : ByteArray := prog_7_method_3_code
def yX7_isEnd : MethodName := ⟨RX7, "isEnd", "(I)Z"⟩
abbrev cX7_isRun : ByteArray := prog_7_method_4_code
def yX7_isRun : MethodName := ⟨RX7, "isRun", "(II)Z"⟩
abbrev cX7_lucky : ByteArray := prog_7_method_5_code
def yX7_lucky : MethodName := ⟨RX7, "lucky", "(I)I"⟩
abbrev cX7_far : ByteArray := prog_7_method_6_code
def yX7_far : MethodName := ⟨RX7, "far", "([IIIII)I"⟩
abbrev cX7_with : ByteArray := prog_7_method_7_code
def yX7_with : MethodName := ⟨RX7, "with", "([IIIIIII)I"⟩
abbrev cX7_areSets : ByteArray := prog_7_method_8_code
def yX7_areSets : MethodName := ⟨RX7, "areSets", "([II)Z"⟩
abbrev cX7_isComplete : ByteArray := prog_7_method_9_code
def yX7_isComplete : MethodName := ⟨RX7, "isComplete", "([II)Z"⟩
abbrev cX7_init : ByteArray := prog_7_method_10_code
def yX7_init : MethodName := ⟨RX7, "<init>", "()V"⟩
abbrev cX7_thrown : ByteArray := prog_7_method_11_code
def yX7_thrown : MethodName := ⟨RX7, "thrown", "()I"⟩
abbrev cX7_refuse : ByteArray := prog_7_method_12_code
def yX7_refuse : MethodName := ⟨RX7, "refuse", "(ZI)Z"⟩
abbrev cX7_start : ByteArray := prog_7_method_13_code
def yX7_start : MethodName := ⟨RX7, "start", "(ZI)Z"⟩
abbrev cX7_isNoPlayer : ByteArray := prog_7_method_14_code
def yX7_isNoPlayer : MethodName := ⟨RX7, "isNoPlayer", "(I)Z"⟩
abbrev cX7_left : ByteArray := prog_7_method_15_code
def yX7_left : MethodName := ⟨RX7, "left", "()I"⟩
abbrev cX7_canDraw : ByteArray := prog_7_method_16_code
def yX7_canDraw : MethodName := ⟨RX7, "canDraw", "()Z"⟩
abbrev cX7_its : ByteArray := prog_7_method_17_code
def yX7_its : MethodName := ⟨RX7, "its", "()LWindsparlourModel$Player;"⟩
abbrev cX7_lay : ByteArray := prog_7_method_18_code
def yX7_lay : MethodName := ⟨RX7, "lay", "(II)I"⟩
abbrev cX7_take : ByteArray := prog_7_method_19_code
def yX7_take : MethodName := ⟨RX7, "take", "(I)I"⟩
abbrev cX7_settle : ByteArray := prog_7_method_20_code
def yX7_settle : MethodName := ⟨RX7, "settle", "()V"⟩
abbrev cX7_draw : ByteArray := prog_7_method_21_code
def yX7_draw : MethodName := ⟨RX7, "draw", "()I"⟩
abbrev cX7_away : ByteArray := prog_7_method_22_code
def yX7_away : MethodName := ⟨RX7, "away", "(I)I"⟩
abbrev cX7_discard : ByteArray := prog_7_method_23_code
def yX7_discard : MethodName := ⟨RX7, "discard", "(I)I"⟩
abbrev cX7_mayCall : ByteArray := prog_7_method_24_code
def yX7_mayCall : MethodName := ⟨RX7, "mayCall", "(I)Z"⟩
abbrev cX7_call : ByteArray := prog_7_method_25_code
def yX7_call : MethodName := ⟨RX7, "call", "(I)I"⟩
abbrev cX7_mayFour : ByteArray := prog_7_method_26_code
def yX7_mayFour : MethodName := ⟨RX7, "mayFour", "()Z"⟩
abbrev cX7_mayClaim : ByteArray := prog_7_method_27_code
def yX7_mayClaim : MethodName := ⟨RX7, "mayClaim", "(III)Z"⟩
abbrev cX7_leave : ByteArray := prog_7_method_28_code
def yX7_leave : MethodName := ⟨RX7, "leave", "()V"⟩
abbrev cX7_drawLast : ByteArray := prog_7_method_29_code
def yX7_drawLast : MethodName := ⟨RX7, "drawLast", "()I"⟩
abbrev cX7_claim : ByteArray := prog_7_method_30_code
def yX7_claim : MethodName := ⟨RX7, "claim", "(III)I"⟩
abbrev cX7_four : ByteArray := prog_7_method_31_code
def yX7_four : MethodName := ⟨RX7, "four", "(I)I"⟩
abbrev cX7_pass : ByteArray := prog_7_method_32_code
def yX7_pass : MethodName := ⟨RX7, "pass", "()I"⟩
abbrev cX7_wind : ByteArray := prog_7_method_33_code
def yX7_wind : MethodName := ⟨RX7, "wind", "(I)I"⟩
abbrev cX7_areAll : ByteArray := prog_7_method_34_code
def yX7_areAll : MethodName := ⟨RX7, "areAll", "([III)Z"⟩
abbrev cX7_valueOfTiles : ByteArray := prog_7_method_35_code
def yX7_valueOfTiles : MethodName := ⟨RX7, "valueOfTiles", "(LWindsparlourModel$Player;Z)I"⟩
abbrev cX7_valueOfThree : ByteArray := prog_7_method_36_code
def yX7_valueOfThree : MethodName := ⟨RX7, "valueOfThree", "(II)I"⟩
abbrev cX7_valueOfSets : ByteArray := prog_7_method_37_code
def yX7_valueOfSets : MethodName := ⟨RX7, "valueOfSets", "([IIIII)I"⟩
abbrev cX7_value : ByteArray := prog_7_method_38_code
def yX7_value : MethodName := ⟨RX7, "value", "(IZ)I"⟩
abbrev cX7_isBarred : ByteArray := prog_7_method_39_code
def yX7_isBarred : MethodName := ⟨RX7, "isBarred", "(LWindsparlourModel$Player;)Z"⟩
abbrev cX7_mayWin : ByteArray := prog_7_method_40_code
def yX7_mayWin : MethodName := ⟨RX7, "mayWin", "(I)Z"⟩
abbrev cX7_win : ByteArray := prog_7_method_41_code
def yX7_win : MethodName := ⟨RX7, "win", "(I)I"⟩
abbrev cX7_has : ByteArray := prog_7_method_42_code
def yX7_has : MethodName := ⟨RX7, "has", "(II)I"⟩
abbrev cX7_ofPlayerNow : ByteArray := prog_7_method_43_code
def yX7_ofPlayerNow : MethodName := ⟨RX7, "ofPlayerNow", "(II)I"⟩
abbrev cX7_ofPlayer : ByteArray := prog_7_method_44_code
def yX7_ofPlayer : MethodName := ⟨RX7, "ofPlayer", "(II)I"⟩
abbrev cX7_ofSetNow : ByteArray := prog_7_method_45_code
def yX7_ofSetNow : MethodName := ⟨RX7, "ofSetNow", "(LWindsparlourModel$Lying;)I"⟩
abbrev cX7_ofSet : ByteArray := prog_7_method_46_code
def yX7_ofSet : MethodName := ⟨RX7, "ofSet", "(II)I"⟩
abbrev cX7_river : ByteArray := prog_7_method_47_code
def yX7_river : MethodName := ⟨RX7, "river", "(II)I"⟩
abbrev cX7_seen : ByteArray := prog_7_method_48_code
def yX7_seen : MethodName := ⟨RX7, "seen", "(I)I"⟩
abbrev cX7_waits : ByteArray := prog_7_method_49_code
def yX7_waits : MethodName := ⟨RX7, "waits", "(I)J"⟩
abbrev cX7_hand : ByteArray := prog_7_method_50_code
def yX7_hand : MethodName := ⟨RX7, "hand", "(I)Ljava/lang/String;"⟩
abbrev cX7_manyNow : ByteArray := prog_7_method_51_code
def yX7_manyNow : MethodName := ⟨RX7, "manyNow", "(I)I"⟩
abbrev cX7_many : ByteArray := prog_7_method_52_code
def yX7_many : MethodName := ⟨RX7, "many", "(I)I"⟩
abbrev cX7_leadNow : ByteArray := prog_7_method_53_code
def yX7_leadNow : MethodName := ⟨RX7, "leadNow", "(I)D"⟩
abbrev cX7_lead : ByteArray := prog_7_method_54_code
def yX7_lead : MethodName := ⟨RX7, "lead", "(I)D"⟩
abbrev cX7_worth : ByteArray := prog_7_method_55_code
def yX7_worth : MethodName := ⟨RX7, "worth", "(II)I"⟩
abbrev cX7_bestNow : ByteArray := prog_7_method_56_code
def yX7_bestNow : MethodName := ⟨RX7, "bestNow", "()I"⟩
abbrev cX7_best : ByteArray := prog_7_method_57_code
def yX7_best : MethodName := ⟨RX7, "best", "()I"⟩
abbrev cX7_isSafe : ByteArray := prog_7_method_58_code
def yX7_isSafe : MethodName := ⟨RX7, "isSafe", "(II)Z"⟩
abbrev cX7_seenNow : ByteArray := prog_7_method_59_code
def yX7_seenNow : MethodName := ⟨RX7, "seenNow", "(I)I"⟩
abbrev cX7_unseen : ByteArray := prog_7_method_60_code
def yX7_unseen : MethodName := ⟨RX7, "unseen", "(II)I"⟩
abbrev cX7_outs : ByteArray := prog_7_method_61_code
def yX7_outs : MethodName := ⟨RX7, "outs", "(I)I"⟩
abbrev cX7_add : ByteArray := prog_7_method_62_code
def yX7_add : MethodName := ⟨RX7, "add", "(JJ)J"⟩
abbrev cX7_digest : ByteArray := prog_7_method_63_code
def yX7_digest : MethodName := ⟨RX7, "digest", "()J"⟩
def RJx145de : String := "java/io/Serializable"
def TJx145de : u_T := fun k => match k with
  | _ => ("", "", "", false)
def tyJx145de : Nat → FieldType := fun k => match k with
  | _ => .int
abbrev wsJx145de0 : List Cond := u_ws RJx145de TJx145de 0
theorem nmJx145de : ∀ a, a < 0 → ∀ b, b < 0 → a ≠ b → (TJx145de a).2.1 ≠ (TJx145de b).2.1 := by decide +kernel
theorem tyJx145de_ok : ∀ k, k < 0 → parseFieldDescriptor (TJx145de k).2.2.1 = some (tyJx145de k) := by decide +kernel
def RJ5 : String := "java/lang/AbstractStringBuilder"
def TJ5 : u_T := fun k => match k with
  | _ => ("", "", "", false)
def tyJ5 : Nat → FieldType := fun k => match k with
  | _ => .int
abbrev wsJ50 : List Cond := u_ws RJ5 TJ5 0
theorem nmJ5 : ∀ a, a < 0 → ∀ b, b < 0 → a ≠ b → (TJ5 a).2.1 ≠ (TJ5 b).2.1 := by decide +kernel
theorem tyJ5_ok : ∀ k, k < 0 → parseFieldDescriptor (TJ5 k).2.2.1 = some (tyJ5 k) := by decide +kernel
abbrev cJ5_init_d00df : ByteArray := prog_11_method_2_code
def yJ5_init_d00df : MethodName := ⟨RJ5, "<init>", "(I)V"⟩
abbrev cJ5_length_8abf5 : ByteArray := prog_11_method_6_code
def yJ5_length_8abf5 : MethodName := ⟨RJ5, "length", "()I"⟩
abbrev cJ5_ensureCapacityInternal_d00df : ByteArray := prog_11_method_9_code
def yJ5_ensureCapacityInternal_d00df : MethodName := ⟨RJ5, "ensureCapacityInternal", "(I)V"⟩
abbrev cJ5_newCapacity_0f7a4 : ByteArray := prog_11_method_10_code
def yJ5_newCapacity_0f7a4 : MethodName := ⟨RJ5, "newCapacity", "(I)I"⟩
abbrev cJ5_inflate_da8c8 : ByteArray := prog_11_method_11_code
def yJ5_inflate_da8c8 : MethodName := ⟨RJ5, "inflate", "()V"⟩
abbrev cJ5_charAt_5068e : ByteArray := prog_11_method_14_code
def yJ5_charAt_5068e : MethodName := ⟨RJ5, "charAt", "(I)C"⟩
abbrev cJ5_append_cf1ce : ByteArray := prog_11_method_22_code
def yJ5_append_cf1ce : MethodName := ⟨RJ5, "append", "(Ljava/lang/String;)Ljava/lang/AbstractStringBuilder;"⟩
abbrev cJ5_appendNull_278bc : ByteArray := prog_11_method_26_code
def yJ5_appendNull_278bc : MethodName := ⟨RJ5, "appendNull", "()Ljava/lang/AbstractStringBuilder;"⟩
abbrev cJ5_append_3fe6f : ByteArray := prog_11_method_31_code
def yJ5_append_3fe6f : MethodName := ⟨RJ5, "append", "(C)Ljava/lang/AbstractStringBuilder;"⟩
abbrev cJ5_append_c97b9 : ByteArray := prog_11_method_32_code
def yJ5_append_c97b9 : MethodName := ⟨RJ5, "append", "(I)Ljava/lang/AbstractStringBuilder;"⟩
abbrev cJ5_getValue_6d5f1 : ByteArray := prog_11_method_64_code
def yJ5_getValue_6d5f1 : MethodName := ⟨RJ5, "getValue", "()[B"⟩
abbrev cJ5_isLatin1_aae02 : ByteArray := prog_11_method_68_code
def yJ5_isLatin1_aae02 : MethodName := ⟨RJ5, "isLatin1", "()Z"⟩
abbrev cJ5_inflateIfNeededFor_a7421 : ByteArray := prog_11_method_71_code
def yJ5_inflateIfNeededFor_a7421 : MethodName := ⟨RJ5, "inflateIfNeededFor", "(Ljava/lang/String;)V"⟩
abbrev cJ5_putStringAt_47b60 : ByteArray := prog_11_method_73_code
def yJ5_putStringAt_47b60 : MethodName := ⟨RJ5, "putStringAt", "(ILjava/lang/String;)V"⟩
def RJx2cfe8 : String := "java/lang/Appendable"
def TJx2cfe8 : u_T := fun k => match k with
  | _ => ("", "", "", false)
def tyJx2cfe8 : Nat → FieldType := fun k => match k with
  | _ => .int
abbrev wsJx2cfe80 : List Cond := u_ws RJx2cfe8 TJx2cfe8 0
theorem nmJx2cfe8 : ∀ a, a < 0 → ∀ b, b < 0 → a ≠ b → (TJx2cfe8 a).2.1 ≠ (TJx2cfe8 b).2.1 := by decide +kernel
theorem tyJx2cfe8_ok : ∀ k, k < 0 → parseFieldDescriptor (TJx2cfe8 k).2.2.1 = some (tyJx2cfe8 k) := by decide +kernel
def RJx9f9b0 : String := "java/lang/CharSequence"
def TJx9f9b0 : u_T := fun k => match k with
  | _ => ("", "", "", false)
def tyJx9f9b0 : Nat → FieldType := fun k => match k with
  | _ => .int
abbrev wsJx9f9b00 : List Cond := u_ws RJx9f9b0 TJx9f9b0 0
theorem nmJx9f9b0 : ∀ a, a < 0 → ∀ b, b < 0 → a ≠ b → (TJx9f9b0 a).2.1 ≠ (TJx9f9b0 b).2.1 := by decide +kernel
theorem tyJx9f9b0_ok : ∀ k, k < 0 → parseFieldDescriptor (TJx9f9b0 k).2.2.1 = some (tyJx9f9b0 k) := by decide +kernel
def RJx8e188 : String := "java/lang/Cloneable"
def TJx8e188 : u_T := fun k => match k with
  | _ => ("", "", "", false)
def tyJx8e188 : Nat → FieldType := fun k => match k with
  | _ => .int
abbrev wsJx8e1880 : List Cond := u_ws RJx8e188 TJx8e188 0
theorem nmJx8e188 : ∀ a, a < 0 → ∀ b, b < 0 → a ≠ b → (TJx8e188 a).2.1 ≠ (TJx8e188 b).2.1 := by decide +kernel
theorem tyJx8e188_ok : ∀ k, k < 0 → parseFieldDescriptor (TJx8e188 k).2.2.1 = some (tyJx8e188 k) := by decide +kernel
def RJxb160c : String := "java/lang/Comparable"
def TJxb160c : u_T := fun k => match k with
  | _ => ("", "", "", false)
def tyJxb160c : Nat → FieldType := fun k => match k with
  | _ => .int
abbrev wsJxb160c0 : List Cond := u_ws RJxb160c TJxb160c 0
theorem nmJxb160c : ∀ a, a < 0 → ∀ b, b < 0 → a ≠ b → (TJxb160c a).2.1 ≠ (TJxb160c b).2.1 := by decide +kernel
theorem tyJxb160c_ok : ∀ k, k < 0 → parseFieldDescriptor (TJxb160c k).2.2.1 = some (tyJxb160c k) := by decide +kernel
def RJxabbfe : String := "java/lang/Integer$IntegerCache"
def TJxabbfe : u_T := fun k => match k with
  | _ => ("", "", "", false)
def tyJxabbfe : Nat → FieldType := fun k => match k with
  | _ => .int
abbrev wsJxabbfe0 : List Cond := u_ws RJxabbfe TJxabbfe 0
theorem nmJxabbfe : ∀ a, a < 0 → ∀ b, b < 0 → a ≠ b → (TJxabbfe a).2.1 ≠ (TJxabbfe b).2.1 := by decide +kernel
theorem tyJxabbfe_ok : ∀ k, k < 0 → parseFieldDescriptor (TJxabbfe k).2.2.1 = some (tyJxabbfe k) := by decide +kernel
def RJ6 : String := "java/lang/Integer"
def TJ6 : u_T := fun k => match k with
  | _ => ("java/lang/Integer", "value", "I", true)
def tyJ6 : Nat → FieldType := fun k => match k with
  | _ => .int
abbrev wsJ60 : List Cond := u_ws RJ6 TJ6 1
theorem nmJ6 : ∀ a, a < 1 → ∀ b, b < 1 → a ≠ b → (TJ6 a).2.1 ≠ (TJ6 b).2.1 := by decide +kernel
theorem tyJ6_ok : ∀ k, k < 1 → parseFieldDescriptor (TJ6 k).2.2.1 = some (tyJ6 k) := by decide +kernel
abbrev cJ6_getChars_ba4f3 : ByteArray := prog_20_method_12_code
def yJ6_getChars_ba4f3 : MethodName := ⟨RJ6, "getChars", "(II[B)I"⟩
abbrev cJ6_stringSize_0f7a4 : ByteArray := prog_20_method_13_code
def yJ6_stringSize_0f7a4 : MethodName := ⟨RJ6, "stringSize", "(I)I"⟩
abbrev cJ6_valueOf_2dffe : ByteArray := prog_20_method_22_code
def yJ6_valueOf_2dffe : MethodName := ⟨RJ6, "valueOf", "(I)Ljava/lang/Integer;"⟩
abbrev cJ6_init_d00df : ByteArray := prog_20_method_23_code
def yJ6_init_d00df : MethodName := ⟨RJ6, "<init>", "(I)V"⟩
abbrev cJ6_intValue_8abf5 : ByteArray := prog_20_method_27_code
def yJ6_intValue_8abf5 : MethodName := ⟨RJ6, "intValue", "()I"⟩
def RJxab1ab : String := "java/lang/Iterable"
def TJxab1ab : u_T := fun k => match k with
  | _ => ("", "", "", false)
def tyJxab1ab : Nat → FieldType := fun k => match k with
  | _ => .int
abbrev wsJxab1ab0 : List Cond := u_ws RJxab1ab TJxab1ab 0
theorem nmJxab1ab : ∀ a, a < 0 → ∀ b, b < 0 → a ≠ b → (TJxab1ab a).2.1 ≠ (TJxab1ab b).2.1 := by decide +kernel
theorem tyJxab1ab_ok : ∀ k, k < 0 → parseFieldDescriptor (TJxab1ab k).2.2.1 = some (tyJxab1ab k) := by decide +kernel
def RJ9 : String := "java/lang/Math"
def TJ9 : u_T := fun k => match k with
  | _ => ("", "", "", false)
def tyJ9 : Nat → FieldType := fun k => match k with
  | _ => .int
abbrev wsJ90 : List Cond := u_ws RJ9 TJ9 0
theorem nmJ9 : ∀ a, a < 0 → ∀ b, b < 0 → a ≠ b → (TJ9 a).2.1 ≠ (TJ9 b).2.1 := by decide +kernel
theorem tyJ9_ok : ∀ k, k < 0 → parseFieldDescriptor (TJ9 k).2.2.1 = some (tyJ9 k) := by decide +kernel
abbrev cJ9_floorMod_7cf53 : ByteArray := prog_23_method_50_code
def yJ9_floorMod_7cf53 : MethodName := ⟨RJ9, "floorMod", "(II)I"⟩
abbrev cJ9_max_7cf53 : ByteArray := prog_23_method_65_code
def yJ9_max_7cf53 : MethodName := ⟨RJ9, "max", "(II)I"⟩
abbrev cJ9_min_7cf53 : ByteArray := prog_23_method_69_code
def yJ9_min_7cf53 : MethodName := ⟨RJ9, "min", "(II)I"⟩
def RJxd2413 : String := "java/lang/Number"
def TJxd2413 : u_T := fun k => match k with
  | _ => ("", "", "", false)
def tyJxd2413 : Nat → FieldType := fun k => match k with
  | _ => .int
abbrev wsJxd24130 : List Cond := u_ws RJxd2413 TJxd2413 0
theorem nmJxd2413 : ∀ a, a < 0 → ∀ b, b < 0 → a ≠ b → (TJxd2413 a).2.1 ≠ (TJxd2413 b).2.1 := by decide +kernel
theorem tyJxd2413_ok : ∀ k, k < 0 → parseFieldDescriptor (TJxd2413 k).2.2.1 = some (tyJxd2413 k) := by decide +kernel
abbrev cJxd2413_init_da8c8 : ByteArray := prog_24_method_1_code
def yJxd2413_init_da8c8 : MethodName := ⟨RJxd2413, "<init>", "()V"⟩
def RJ0 : String := "java/lang/String"
def TJ0 : u_T := fun k => match k with
  | 0 => ("java/lang/String", "value", "[B", true)
  | 1 => ("java/lang/String", "coder", "B", true)
  | 2 => ("java/lang/String", "hash", "I", false)
  | _ => ("java/lang/String", "hashIsZero", "Z", false)
def tyJ0 : Nat → FieldType := fun k => match k with
  | 0 => .array .byte
  | 1 => .byte
  | 2 => .int
  | _ => .boolean
abbrev wsJ00 : List Cond := u_ws RJ0 TJ0 4
theorem nmJ0 : ∀ a, a < 4 → ∀ b, b < 4 → a ≠ b → (TJ0 a).2.1 ≠ (TJ0 b).2.1 := by decide +kernel
theorem tyJ0_ok : ∀ k, k < 4 → parseFieldDescriptor (TJ0 k).2.2.1 = some (tyJ0 k) := by decide +kernel
abbrev cJ0_init_81219 : ByteArray := prog_26_method_53_code
def yJ0_init_81219 : MethodName := ⟨RJ0, "<init>", "(Ljava/lang/StringBuilder;)V"⟩
abbrev cJ0_length_8abf5 : ByteArray := prog_26_method_54_code
def yJ0_length_8abf5 : MethodName := ⟨RJ0, "length", "()I"⟩
abbrev cJ0_charAt_5068e : ByteArray := prog_26_method_56_code
def yJ0_charAt_5068e : MethodName := ⟨RJ0, "charAt", "(I)C"⟩
abbrev cJ0_getBytes_840e7 : ByteArray := prog_26_method_147_code
def yJ0_getBytes_840e7 : MethodName := ⟨RJ0, "getBytes", "([BIB)V"⟩
abbrev cJ0_init_db425 : ByteArray := prog_26_method_150_code
def yJ0_init_db425 : MethodName := ⟨RJ0, "<init>", "(Ljava/lang/AbstractStringBuilder;Ljava/lang/Void;)V"⟩
abbrev cJ0_coder_7d493 : ByteArray := prog_26_method_152_code
def yJ0_coder_7d493 : MethodName := ⟨RJ0, "coder", "()B"⟩
abbrev cJ0_isLatin1_aae02 : ByteArray := prog_26_method_154_code
def yJ0_isLatin1_aae02 : MethodName := ⟨RJ0, "isLatin1", "()Z"⟩
abbrev cJ0_checkIndex_df160 : ByteArray := prog_26_method_155_code
def yJ0_checkIndex_df160 : MethodName := ⟨RJ0, "checkIndex", "(II)V"⟩
abbrev cJ0_checkBoundsOffCount_cabcc : ByteArray := prog_26_method_157_code
def yJ0_checkBoundsOffCount_cabcc : MethodName := ⟨RJ0, "checkBoundsOffCount", "(III)I"⟩
abbrev cJ0_checkBoundsBeginEnd_23922 : ByteArray := prog_26_method_158_code
def yJ0_checkBoundsBeginEnd_23922 : MethodName := ⟨RJ0, "checkBoundsBeginEnd", "(III)V"⟩
def RJ4 : String := "java/lang/StringBuilder"
def TJ4 : u_T := fun k => match k with
  | 0 => ("java/lang/AbstractStringBuilder", "value", "[B", false)
  | 1 => ("java/lang/AbstractStringBuilder", "coder", "B", false)
  | 2 => ("java/lang/AbstractStringBuilder", "maybeLatin1", "Z", false)
  | _ => ("java/lang/AbstractStringBuilder", "count", "I", false)
def tyJ4 : Nat → FieldType := fun k => match k with
  | 0 => .array .byte
  | 1 => .byte
  | 2 => .boolean
  | _ => .int
abbrev wsJ40 : List Cond := u_ws RJ4 TJ4 4
theorem nmJ4 : ∀ a, a < 4 → ∀ b, b < 4 → a ≠ b → (TJ4 a).2.1 ≠ (TJ4 b).2.1 := by decide +kernel
theorem tyJ4_ok : ∀ k, k < 4 → parseFieldDescriptor (TJ4 k).2.2.1 = some (tyJ4 k) := by decide +kernel
abbrev cJ4_init_da8c8 : ByteArray := prog_27_method_1_code
def yJ4_init_da8c8 : MethodName := ⟨RJ4, "<init>", "()V"⟩
abbrev cJ4_append_15ec4 : ByteArray := prog_27_method_7_code
def yJ4_append_15ec4 : MethodName := ⟨RJ4, "append", "(Ljava/lang/String;)Ljava/lang/StringBuilder;"⟩
abbrev cJ4_append_cf468 : ByteArray := prog_27_method_14_code
def yJ4_append_cf468 : MethodName := ⟨RJ4, "append", "(C)Ljava/lang/StringBuilder;"⟩
abbrev cJ4_append_bf812 : ByteArray := prog_27_method_15_code
def yJ4_append_bf812 : MethodName := ⟨RJ4, "append", "(I)Ljava/lang/StringBuilder;"⟩
abbrev cJ4_toString_0e30d : ByteArray := prog_27_method_42_code
def yJ4_toString_0e30d : MethodName := ⟨RJ4, "toString", "()Ljava/lang/String;"⟩
abbrev cJ4_charAt_5068e : ByteArray := prog_27_method_88_code
def yJ4_charAt_5068e : MethodName := ⟨RJ4, "charAt", "(I)C"⟩
abbrev cJ4_length_8abf5 : ByteArray := prog_27_method_93_code
def yJ4_length_8abf5 : MethodName := ⟨RJ4, "length", "()I"⟩
def RJ1 : String := "java/lang/StringLatin1"
def TJ1 : u_T := fun k => match k with
  | _ => ("", "", "", false)
def tyJ1 : Nat → FieldType := fun k => match k with
  | _ => .int
abbrev wsJ10 : List Cond := u_ws RJ1 TJ1 0
theorem nmJ1 : ∀ a, a < 0 → ∀ b, b < 0 → a ≠ b → (TJ1 a).2.1 ≠ (TJ1 b).2.1 := by decide +kernel
theorem tyJ1_ok : ∀ k, k < 0 → parseFieldDescriptor (TJ1 k).2.2.1 = some (tyJ1 k) := by decide +kernel
abbrev cJ1_charAt_3b067 : ByteArray := prog_28_method_2_code
def yJ1_charAt_3b067 : MethodName := ⟨RJ1, "charAt", "([BI)C"⟩
abbrev cJ1_canEncode_fc78d : ByteArray := prog_28_method_3_code
def yJ1_canEncode_fc78d : MethodName := ⟨RJ1, "canEncode", "(C)Z"⟩
abbrev cJ1_inflate_0e8fd : ByteArray := prog_28_method_50_code
def yJ1_inflate_0e8fd : MethodName := ⟨RJ1, "inflate", "([BI[BII)V"⟩
def RJ2 : String := "java/lang/StringUTF16"
def TJ2 : u_T := fun k => match k with
  | _ => ("", "", "", false)
def tyJ2 : Nat → FieldType := fun k => match k with
  | _ => .int
abbrev wsJ20 : List Cond := u_ws RJ2 TJ2 0
theorem nmJ2 : ∀ a, a < 0 → ∀ b, b < 0 → a ≠ b → (TJ2 a).2.1 ≠ (TJ2 b).2.1 := by decide +kernel
theorem tyJ2_ok : ∀ k, k < 0 → parseFieldDescriptor (TJ2 k).2.2.1 = some (tyJ2 k) := by decide +kernel
abbrev cJ2_newBytesFor_77867 : ByteArray := prog_29_method_2_code
def yJ2_newBytesFor_77867 : MethodName := ⟨RJ2, "newBytesFor", "(I)[B"⟩
abbrev cJ2_newBytesLength_0f7a4 : ByteArray := prog_29_method_3_code
def yJ2_newBytesLength_0f7a4 : MethodName := ⟨RJ2, "newBytesLength", "(I)I"⟩
abbrev cJ2_putChar_b72d1 : ByteArray := prog_29_method_4_code
def yJ2_putChar_b72d1 : MethodName := ⟨RJ2, "putChar", "([BII)V"⟩
abbrev cJ2_getChar_3b067 : ByteArray := prog_29_method_5_code
def yJ2_getChar_3b067 : MethodName := ⟨RJ2, "getChar", "([BI)C"⟩
abbrev cJ2_length_9d52b : ByteArray := prog_29_method_6_code
def yJ2_length_9d52b : MethodName := ⟨RJ2, "length", "([B)I"⟩
abbrev cJ2_coderFromArrayLen_85cad : ByteArray := prog_29_method_15_code
def yJ2_coderFromArrayLen_85cad : MethodName := ⟨RJ2, "coderFromArrayLen", "([BI)B"⟩
abbrev cJ2_compress_39247 : ByteArray := prog_29_method_17_code
def yJ2_compress_39247 : MethodName := ⟨RJ2, "compress", "([BII)[B"⟩
abbrev cJ2_compress_5af95 : ByteArray := prog_29_method_22_code
def yJ2_compress_5af95 : MethodName := ⟨RJ2, "compress", "([BI[BII)I"⟩
abbrev cJ2_putCharSB_b72d1 : ByteArray := prog_29_method_71_code
def yJ2_putCharSB_b72d1 : MethodName := ⟨RJ2, "putCharSB", "([BII)V"⟩
abbrev cJ2_getChars_46870 : ByteArray := prog_29_method_77_code
def yJ2_getChars_46870 : MethodName := ⟨RJ2, "getChars", "(III[B)I"⟩
abbrev cJ2_putCharsAt_cd4e5 : ByteArray := prog_29_method_81_code
def yJ2_putCharsAt_cd4e5 : MethodName := ⟨RJ2, "putCharsAt", "([BICCCC)I"⟩
abbrev cJ2_charAt_3b067 : ByteArray := prog_29_method_83_code
def yJ2_charAt_3b067 : MethodName := ⟨RJ2, "charAt", "([BI)C"⟩
abbrev cJ2_inflate_0e8fd : ByteArray := prog_29_method_86_code
def yJ2_inflate_0e8fd : MethodName := ⟨RJ2, "inflate", "([BI[BII)V"⟩
abbrev cJ2_getChars_ba4f3 : ByteArray := prog_29_method_89_code
def yJ2_getChars_ba4f3 : MethodName := ⟨RJ2, "getChars", "(II[B)I"⟩
abbrev cJ2_checkIndex_2214a : ByteArray := prog_29_method_91_code
def yJ2_checkIndex_2214a : MethodName := ⟨RJ2, "checkIndex", "(I[B)V"⟩
abbrev cJ2_checkBoundsBeginEnd_d044e : ByteArray := prog_29_method_93_code
def yJ2_checkBoundsBeginEnd_d044e : MethodName := ⟨RJ2, "checkBoundsBeginEnd", "(II[B)V"⟩
abbrev cJ2_checkBoundsOffCount_d044e : ByteArray := prog_29_method_94_code
def yJ2_checkBoundsOffCount_d044e : MethodName := ⟨RJ2, "checkBoundsOffCount", "(II[B)V"⟩
def RJ10 : String := "java/lang/System"
def TJ10 : u_T := fun k => match k with
  | _ => ("", "", "", false)
def tyJ10 : Nat → FieldType := fun k => match k with
  | _ => .int
abbrev wsJ100 : List Cond := u_ws RJ10 TJ10 0
theorem nmJ10 : ∀ a, a < 0 → ∀ b, b < 0 → a ≠ b → (TJ10 a).2.1 ≠ (TJ10 b).2.1 := by decide +kernel
theorem tyJ10_ok : ∀ k, k < 0 → parseFieldDescriptor (TJ10 k).2.2.1 = some (tyJ10 k) := by decide +kernel
def RJxfd54e : String := "java/lang/constant/Constable"
def TJxfd54e : u_T := fun k => match k with
  | _ => ("", "", "", false)
def tyJxfd54e : Nat → FieldType := fun k => match k with
  | _ => .int
abbrev wsJxfd54e0 : List Cond := u_ws RJxfd54e TJxfd54e 0
theorem nmJxfd54e : ∀ a, a < 0 → ∀ b, b < 0 → a ≠ b → (TJxfd54e a).2.1 ≠ (TJxfd54e b).2.1 := by decide +kernel
theorem tyJxfd54e_ok : ∀ k, k < 0 → parseFieldDescriptor (TJxfd54e k).2.2.1 = some (tyJxfd54e k) := by decide +kernel
def RJx3cf43 : String := "java/lang/constant/ConstantDesc"
def TJx3cf43 : u_T := fun k => match k with
  | _ => ("", "", "", false)
def tyJx3cf43 : Nat → FieldType := fun k => match k with
  | _ => .int
abbrev wsJx3cf430 : List Cond := u_ws RJx3cf43 TJx3cf43 0
theorem nmJx3cf43 : ∀ a, a < 0 → ∀ b, b < 0 → a ≠ b → (TJx3cf43 a).2.1 ≠ (TJx3cf43 b).2.1 := by decide +kernel
theorem tyJx3cf43_ok : ∀ k, k < 0 → parseFieldDescriptor (TJx3cf43 k).2.2.1 = some (tyJx3cf43 k) := by decide +kernel
def RJxa1e45 : String := "java/util/AbstractCollection"
def TJxa1e45 : u_T := fun k => match k with
  | _ => ("", "", "", false)
def tyJxa1e45 : Nat → FieldType := fun k => match k with
  | _ => .int
abbrev wsJxa1e450 : List Cond := u_ws RJxa1e45 TJxa1e45 0
theorem nmJxa1e45 : ∀ a, a < 0 → ∀ b, b < 0 → a ≠ b → (TJxa1e45 a).2.1 ≠ (TJxa1e45 b).2.1 := by decide +kernel
theorem tyJxa1e45_ok : ∀ k, k < 0 → parseFieldDescriptor (TJxa1e45 k).2.2.1 = some (tyJxa1e45 k) := by decide +kernel
abbrev cJxa1e45_init_da8c8 : ByteArray := prog_34_method_1_code
def yJxa1e45_init_da8c8 : MethodName := ⟨RJxa1e45, "<init>", "()V"⟩
def RJxc12de : String := "java/util/AbstractList"
def TJxc12de : u_T := fun k => match k with
  | _ => ("", "", "", false)
def tyJxc12de : Nat → FieldType := fun k => match k with
  | _ => .int
abbrev wsJxc12de0 : List Cond := u_ws RJxc12de TJxc12de 0
theorem nmJxc12de : ∀ a, a < 0 → ∀ b, b < 0 → a ≠ b → (TJxc12de a).2.1 ≠ (TJxc12de b).2.1 := by decide +kernel
theorem tyJxc12de_ok : ∀ k, k < 0 → parseFieldDescriptor (TJxc12de k).2.2.1 = some (tyJxc12de k) := by decide +kernel
abbrev cJxc12de_init_da8c8 : ByteArray := prog_35_method_1_code
def yJxc12de_init_da8c8 : MethodName := ⟨RJxc12de, "<init>", "()V"⟩
def RJx35411 : String := "java/util/ArrayList$Itr"
def TJx35411 : u_T := fun k => match k with
  | 0 => ("java/util/ArrayList$Itr", "cursor", "I", false)
  | 1 => ("java/util/ArrayList$Itr", "lastRet", "I", false)
  | 2 => ("java/util/ArrayList$Itr", "expectedModCount", "I", false)
  | _ => ("java/util/ArrayList$Itr", "this$0", "Ljava/util/ArrayList;", true)
def tyJx35411 : Nat → FieldType := fun k => match k with
  | 0 => .int
  | 1 => .int
  | 2 => .int
  | _ => .object "java/util/ArrayList"
abbrev wsJx354110 : List Cond := u_ws RJx35411 TJx35411 4
theorem nmJx35411 : ∀ a, a < 4 → ∀ b, b < 4 → a ≠ b → (TJx35411 a).2.1 ≠ (TJx35411 b).2.1 := by decide +kernel
theorem tyJx35411_ok : ∀ k, k < 4 → parseFieldDescriptor (TJx35411 k).2.2.1 = some (tyJx35411 k) := by decide +kernel
abbrev cJx35411_init_45d68 : ByteArray := prog_37_method_1_code
def yJx35411_init_45d68 : MethodName := ⟨RJx35411, "<init>", "(Ljava/util/ArrayList;)V"⟩
abbrev cJx35411_hasNext_aae02 : ByteArray := prog_37_method_2_code
def yJx35411_hasNext_aae02 : MethodName := ⟨RJx35411, "hasNext", "()Z"⟩
abbrev cJx35411_next_0502b : ByteArray := prog_37_method_3_code
def yJx35411_next_0502b : MethodName := ⟨RJx35411, "next", "()Ljava/lang/Object;"⟩
abbrev cJx35411_checkForComodification_da8c8 : ByteArray := prog_37_method_6_code
def yJx35411_checkForComodification_da8c8 : MethodName := ⟨RJx35411, "checkForComodification", "()V"⟩
def RJx4a65c : String := "java/util/ArrayList"
def TJx4a65c : u_T := fun k => match k with
  | 0 => ("java/util/AbstractList", "modCount", "I", false)
  | 1 => ("java/util/ArrayList", "elementData", "[Ljava/lang/Object;", false)
  | _ => ("java/util/ArrayList", "size", "I", false)
def tyJx4a65c : Nat → FieldType := fun k => match k with
  | 0 => .int
  | 1 => .array (.object "java/lang/Object")
  | _ => .int
abbrev wsJx4a65c0 : List Cond := u_ws RJx4a65c TJx4a65c 3
theorem nmJx4a65c : ∀ a, a < 3 → ∀ b, b < 3 → a ≠ b → (TJx4a65c a).2.1 ≠ (TJx4a65c b).2.1 := by decide +kernel
theorem tyJx4a65c_ok : ∀ k, k < 3 → parseFieldDescriptor (TJx4a65c k).2.2.1 = some (tyJx4a65c k) := by decide +kernel
abbrev cJx4a65c_init_da8c8 : ByteArray := prog_36_method_2_code
def yJx4a65c_init_da8c8 : MethodName := ⟨RJx4a65c, "<init>", "()V"⟩
abbrev cJx4a65c_grow_92f84 : ByteArray := prog_36_method_6_code
def yJx4a65c_grow_92f84 : MethodName := ⟨RJx4a65c, "grow", "(I)[Ljava/lang/Object;"⟩
abbrev cJx4a65c_grow_d5877 : ByteArray := prog_36_method_7_code
def yJx4a65c_grow_d5877 : MethodName := ⟨RJx4a65c, "grow", "()[Ljava/lang/Object;"⟩
abbrev cJx4a65c_size_8abf5 : ByteArray := prog_36_method_8_code
def yJx4a65c_size_8abf5 : MethodName := ⟨RJx4a65c, "size", "()I"⟩
abbrev cJx4a65c_elementData_915e3 : ByteArray := prog_36_method_18_code
def yJx4a65c_elementData_915e3 : MethodName := ⟨RJx4a65c, "elementData", "(I)Ljava/lang/Object;"⟩
abbrev cJx4a65c_get_915e3 : ByteArray := prog_36_method_20_code
def yJx4a65c_get_915e3 : MethodName := ⟨RJx4a65c, "get", "(I)Ljava/lang/Object;"⟩
abbrev cJx4a65c_add_72be8 : ByteArray := prog_36_method_24_code
def yJx4a65c_add_72be8 : MethodName := ⟨RJx4a65c, "add", "(Ljava/lang/Object;[Ljava/lang/Object;I)V"⟩
abbrev cJx4a65c_add_9ea2d : ByteArray := prog_36_method_25_code
def yJx4a65c_add_9ea2d : MethodName := ⟨RJx4a65c, "add", "(Ljava/lang/Object;)Z"⟩
abbrev cJx4a65c_remove_915e3 : ByteArray := prog_36_method_29_code
def yJx4a65c_remove_915e3 : MethodName := ⟨RJx4a65c, "remove", "(I)Ljava/lang/Object;"⟩
abbrev cJx4a65c_fastRemove_b59b0 : ByteArray := prog_36_method_39_code
def yJx4a65c_fastRemove_b59b0 : MethodName := ⟨RJx4a65c, "fastRemove", "([Ljava/lang/Object;I)V"⟩
abbrev cJx4a65c_clear_da8c8 : ByteArray := prog_36_method_40_code
def yJx4a65c_clear_da8c8 : MethodName := ⟨RJx4a65c, "clear", "()V"⟩
abbrev cJx4a65c_iterator_32c93 : ByteArray := prog_36_method_55_code
def yJx4a65c_iterator_32c93 : MethodName := ⟨RJx4a65c, "iterator", "()Ljava/util/Iterator;"⟩
def RJ7 : String := "java/util/Arrays"
def TJ7 : u_T := fun k => match k with
  | _ => ("", "", "", false)
def tyJ7 : Nat → FieldType := fun k => match k with
  | _ => .int
abbrev wsJ70 : List Cond := u_ws RJ7 TJ7 0
theorem nmJ7 : ∀ a, a < 0 → ∀ b, b < 0 → a ≠ b → (TJ7 a).2.1 ≠ (TJ7 b).2.1 := by decide +kernel
theorem tyJ7_ok : ∀ k, k < 0 → parseFieldDescriptor (TJ7 k).2.2.1 = some (tyJ7 k) := by decide +kernel
abbrev cJ7_copyOf_1904c : ByteArray := prog_38_method_119_code
def yJ7_copyOf_1904c : MethodName := ⟨RJ7, "copyOf", "([Ljava/lang/Object;I)[Ljava/lang/Object;"⟩
abbrev cJ7_copyOf_6403c : ByteArray := prog_38_method_120_code
def yJ7_copyOf_6403c : MethodName := ⟨RJ7, "copyOf", "([Ljava/lang/Object;ILjava/lang/Class;)[Ljava/lang/Object;"⟩
abbrev cJ7_copyOf_9075b : ByteArray := prog_38_method_121_code
def yJ7_copyOf_9075b : MethodName := ⟨RJ7, "copyOf", "([BI)[B"⟩
abbrev cJ7_checkLength_df160 : ByteArray := prog_38_method_131_code
def yJ7_checkLength_df160 : MethodName := ⟨RJ7, "checkLength", "(II)V"⟩
abbrev cJ7_copyOfRange_39247 : ByteArray := prog_38_method_132_code
def yJ7_copyOfRange_39247 : MethodName := ⟨RJ7, "copyOfRange", "([BII)[B"⟩
abbrev cJ7_copyOfRangeByte_39247 : ByteArray := prog_38_method_133_code
def yJ7_copyOfRangeByte_39247 : MethodName := ⟨RJ7, "copyOfRangeByte", "([BII)[B"⟩
def RJx5ef63 : String := "java/util/Collection"
def TJx5ef63 : u_T := fun k => match k with
  | _ => ("", "", "", false)
def tyJx5ef63 : Nat → FieldType := fun k => match k with
  | _ => .int
abbrev wsJx5ef630 : List Cond := u_ws RJx5ef63 TJx5ef63 0
theorem nmJx5ef63 : ∀ a, a < 0 → ∀ b, b < 0 → a ≠ b → (TJx5ef63 a).2.1 ≠ (TJx5ef63 b).2.1 := by decide +kernel
theorem tyJx5ef63_ok : ∀ k, k < 0 → parseFieldDescriptor (TJx5ef63 k).2.2.1 = some (tyJx5ef63 k) := by decide +kernel
def RJx4d0d8 : String := "java/util/Iterator"
def TJx4d0d8 : u_T := fun k => match k with
  | _ => ("", "", "", false)
def tyJx4d0d8 : Nat → FieldType := fun k => match k with
  | _ => .int
abbrev wsJx4d0d80 : List Cond := u_ws RJx4d0d8 TJx4d0d8 0
theorem nmJx4d0d8 : ∀ a, a < 0 → ∀ b, b < 0 → a ≠ b → (TJx4d0d8 a).2.1 ≠ (TJx4d0d8 b).2.1 := by decide +kernel
theorem tyJx4d0d8_ok : ∀ k, k < 0 → parseFieldDescriptor (TJx4d0d8 k).2.2.1 = some (tyJx4d0d8 k) := by decide +kernel
def RJxbd725 : String := "java/util/List"
def TJxbd725 : u_T := fun k => match k with
  | _ => ("", "", "", false)
def tyJxbd725 : Nat → FieldType := fun k => match k with
  | _ => .int
abbrev wsJxbd7250 : List Cond := u_ws RJxbd725 TJxbd725 0
theorem nmJxbd725 : ∀ a, a < 0 → ∀ b, b < 0 → a ≠ b → (TJxbd725 a).2.1 ≠ (TJxbd725 b).2.1 := by decide +kernel
theorem tyJxbd725_ok : ∀ k, k < 0 → parseFieldDescriptor (TJxbd725 k).2.2.1 = some (tyJxbd725 k) := by decide +kernel
def RJ15 : String := "java/util/Objects"
def TJ15 : u_T := fun k => match k with
  | _ => ("", "", "", false)
def tyJ15 : Nat → FieldType := fun k => match k with
  | _ => .int
abbrev wsJ150 : List Cond := u_ws RJ15 TJ15 0
theorem nmJ15 : ∀ a, a < 0 → ∀ b, b < 0 → a ≠ b → (TJ15 a).2.1 ≠ (TJ15 b).2.1 := by decide +kernel
theorem tyJ15_ok : ∀ k, k < 0 → parseFieldDescriptor (TJ15 k).2.2.1 = some (tyJ15 k) := by decide +kernel
abbrev cJ15_checkIndex_7cf53 : ByteArray := prog_42_method_17_code
def yJ15_checkIndex_7cf53 : MethodName := ⟨RJ15, "checkIndex", "(II)I"⟩
def RJxf0a74 : String := "java/util/RandomAccess"
def TJxf0a74 : u_T := fun k => match k with
  | _ => ("", "", "", false)
def tyJxf0a74 : Nat → FieldType := fun k => match k with
  | _ => .int
abbrev wsJxf0a740 : List Cond := u_ws RJxf0a74 TJxf0a74 0
theorem nmJxf0a74 : ∀ a, a < 0 → ∀ b, b < 0 → a ≠ b → (TJxf0a74 a).2.1 ≠ (TJxf0a74 b).2.1 := by decide +kernel
theorem tyJxf0a74_ok : ∀ k, k < 0 → parseFieldDescriptor (TJxf0a74 k).2.2.1 = some (tyJxf0a74 k) := by decide +kernel
def RJxa66e6 : String := "java/util/SequencedCollection"
def TJxa66e6 : u_T := fun k => match k with
  | _ => ("", "", "", false)
def tyJxa66e6 : Nat → FieldType := fun k => match k with
  | _ => .int
abbrev wsJxa66e60 : List Cond := u_ws RJxa66e6 TJxa66e6 0
theorem nmJxa66e6 : ∀ a, a < 0 → ∀ b, b < 0 → a ≠ b → (TJxa66e6 a).2.1 ≠ (TJxa66e6 b).2.1 := by decide +kernel
theorem tyJxa66e6_ok : ∀ k, k < 0 → parseFieldDescriptor (TJxa66e6 k).2.2.1 = some (tyJxa66e6 k) := by decide +kernel
def RJ8 : String := "jdk/internal/util/ArraysSupport"
def TJ8 : u_T := fun k => match k with
  | _ => ("", "", "", false)
def tyJ8 : Nat → FieldType := fun k => match k with
  | _ => .int
abbrev wsJ80 : List Cond := u_ws RJ8 TJ8 0
theorem nmJ8 : ∀ a, a < 0 → ∀ b, b < 0 → a ≠ b → (TJ8 a).2.1 ≠ (TJ8 b).2.1 := by decide +kernel
theorem tyJ8_ok : ∀ k, k < 0 → parseFieldDescriptor (TJ8 k).2.2.1 = some (tyJ8 k) := by decide +kernel
abbrev cJ8_newLength_cabcc : ByteArray := prog_45_method_27_code
def yJ8_newLength_cabcc : MethodName := ⟨RJ8, "newLength", "(III)I"⟩
abbrev cJ8_hugeLength_7cf53 : ByteArray := prog_45_method_28_code
def yJ8_hugeLength_7cf53 : MethodName := ⟨RJ8, "hugeLength", "(II)I"⟩
def RJ3 : String := "jdk/internal/util/Preconditions"
def TJ3 : u_T := fun k => match k with
  | _ => ("", "", "", false)
def tyJ3 : Nat → FieldType := fun k => match k with
  | _ => .int
abbrev wsJ30 : List Cond := u_ws RJ3 TJ3 0
theorem nmJ3 : ∀ a, a < 0 → ∀ b, b < 0 → a ≠ b → (TJ3 a).2.1 ≠ (TJ3 b).2.1 := by decide +kernel
theorem tyJ3_ok : ∀ k, k < 0 → parseFieldDescriptor (TJ3 k).2.2.1 = some (tyJ3 k) := by decide +kernel
abbrev cJ3_checkIndex_8e157 : ByteArray := prog_46_method_11_code
def yJ3_checkIndex_8e157 : MethodName := ⟨RJ3, "checkIndex", "(IILjava/util/function/BiFunction;)I"⟩
abbrev cJ3_checkFromToIndex_8c36e : ByteArray := prog_46_method_12_code
def yJ3_checkFromToIndex_8c36e : MethodName := ⟨RJ3, "checkFromToIndex", "(IIILjava/util/function/BiFunction;)I"⟩
abbrev cJ3_checkFromIndexSize_8c36e : ByteArray := prog_46_method_13_code
def yJ3_checkFromIndexSize_8c36e : MethodName := ⟨RJ3, "checkFromIndexSize", "(IIILjava/util/function/BiFunction;)I"⟩
def RL : String := "WindsparlourLaw"
abbrev cL_lay : ByteArray := method_2_code
def yL_lay : MethodName := ⟨RL, "lay", "(LWindsparlour;IILWindsparlourLaw$Out;)I"⟩
abbrev cL_draw : ByteArray := method_3_code
def yL_draw : MethodName := ⟨RL, "draw", "(LWindsparlour;LWindsparlourLaw$Out;)I"⟩
abbrev cL_discard : ByteArray := method_4_code
def yL_discard : MethodName := ⟨RL, "discard", "(LWindsparlour;ILWindsparlourLaw$Out;)I"⟩
abbrev cL_call : ByteArray := method_5_code
def yL_call : MethodName := ⟨RL, "call", "(LWindsparlour;ILWindsparlourLaw$Out;)I"⟩
abbrev cL_claim : ByteArray := method_6_code
def yL_claim : MethodName := ⟨RL, "claim", "(LWindsparlour;IIILWindsparlourLaw$Out;)I"⟩
abbrev cL_four : ByteArray := method_7_code
def yL_four : MethodName := ⟨RL, "four", "(LWindsparlour;ILWindsparlourLaw$Out;)I"⟩
abbrev cL_pass : ByteArray := method_8_code
def yL_pass : MethodName := ⟨RL, "pass", "(LWindsparlour;LWindsparlourLaw$Out;)I"⟩
abbrev cL_win : ByteArray := method_9_code
def yL_win : MethodName := ⟨RL, "win", "(LWindsparlour;ILWindsparlourLaw$Out;)I"⟩
abbrev cL_has : ByteArray := method_10_code
def yL_has : MethodName := ⟨RL, "has", "(LWindsparlour;IILWindsparlourLaw$Out;)I"⟩
abbrev cL_ofPlayer : ByteArray := method_11_code
def yL_ofPlayer : MethodName := ⟨RL, "ofPlayer", "(LWindsparlour;IILWindsparlourLaw$Out;)I"⟩
abbrev cL_ofSet : ByteArray := method_12_code
def yL_ofSet : MethodName := ⟨RL, "ofSet", "(LWindsparlour;IILWindsparlourLaw$Out;)I"⟩
abbrev cL_river : ByteArray := method_13_code
def yL_river : MethodName := ⟨RL, "river", "(LWindsparlour;IILWindsparlourLaw$Out;)I"⟩
abbrev cL_waits : ByteArray := method_14_code
def yL_waits : MethodName := ⟨RL, "waits", "(LWindsparlour;ILWindsparlourLaw$Out;)I"⟩
abbrev cL_seen : ByteArray := method_15_code
def yL_seen : MethodName := ⟨RL, "seen", "(LWindsparlour;ILWindsparlourLaw$Out;)I"⟩
abbrev cL_hand : ByteArray := method_16_code
def yL_hand : MethodName := ⟨RL, "hand", "(LWindsparlour;ILWindsparlourLaw$Out;)I"⟩
abbrev cL_many : ByteArray := method_17_code
def yL_many : MethodName := ⟨RL, "many", "(LWindsparlour;ILWindsparlourLaw$Out;)I"⟩
abbrev cL_lead : ByteArray := method_18_code
def yL_lead : MethodName := ⟨RL, "lead", "(LWindsparlour;ILWindsparlourLaw$Out;)I"⟩
abbrev cL_worth : ByteArray := method_19_code
def yL_worth : MethodName := ⟨RL, "worth", "(LWindsparlour;IILWindsparlourLaw$Out;)I"⟩
abbrev cL_isSafe : ByteArray := method_20_code
def yL_isSafe : MethodName := ⟨RL, "isSafe", "(LWindsparlour;IILWindsparlourLaw$Out;)I"⟩
abbrev cL_outs : ByteArray := method_21_code
def yL_outs : MethodName := ⟨RL, "outs", "(LWindsparlour;ILWindsparlourLaw$Out;)I"⟩
abbrev cL_law : ByteArray := code
def yL_law : MethodName := ⟨RL, "law", "([I)Z"⟩
abbrev vwCl : List vw_C := [(RJ0, TJ0, 4), (RJ4, TJ4, 4), (RJ6, TJ6, 1), (RJx35411, TJx35411, 4), (RJx4a65c, TJx4a65c, 3), (RX0, TX0, 5), (RX1, TX1, 9), (RX2, TX2, 1), (RX3, TX3, 16), (RX4, TX4, 3), (RX5, TX5, 2), (RX6, TX6, 7), (RX7, TX7, 15)]
def zlay (c : Nat) : List Nat := match c with
  | 1 => [2, 0, 0, 0]
  | 2 => [2, 0, 0, 0]
  | 3 => [0]
  | 4 => [0, 0, 0, 2]
  | 5 => [0, 2, 0]
  | 6 => [2, 2, 2, 2, 2]
  | 7 => [2, 2, 2, 1, 0, 0, 0, 0, 0]
  | 8 => [2]
  | 9 => [2, 2, 2, 0, 0, 0, 0, 0, 0, 0, 0, 0, 0, 0, 0, 0]
  | 10 => [1, 3, 2]
  | 11 => [0, 0]
  | 12 => [0, 0, 2, 2, 2, 1, 0]
  | 13 => [0, 2, 2, 0, 0, 0, 0, 0, 0, 0, 0, 0, 0, 0, 0]
  | _ => []
theorem zin1 : ∀ w ∈ u_ws RJ0 TJ0 4, w ∈ zw := by decide +kernel
theorem zin2 : ∀ w ∈ u_ws RJ4 TJ4 4, w ∈ zw := by decide +kernel
theorem zin3 : ∀ w ∈ u_ws RJ6 TJ6 1, w ∈ zw := by decide +kernel
theorem zin4 : ∀ w ∈ u_ws RJx35411 TJx35411 4, w ∈ zw := by decide +kernel
theorem zin5 : ∀ w ∈ u_ws RJx4a65c TJx4a65c 3, w ∈ zw := by decide +kernel
theorem zin6 : ∀ w ∈ u_ws RX0 TX0 5, w ∈ zw := by decide +kernel
theorem zin7 : ∀ w ∈ u_ws RX1 TX1 9, w ∈ zw := by decide +kernel
theorem zin8 : ∀ w ∈ u_ws RX2 TX2 1, w ∈ zw := by decide +kernel
theorem zin9 : ∀ w ∈ u_ws RX3 TX3 16, w ∈ zw := by decide +kernel
theorem zin10 : ∀ w ∈ u_ws RX4 TX4 3, w ∈ zw := by decide +kernel
theorem zin11 : ∀ w ∈ u_ws RX5 TX5 2, w ∈ zw := by decide +kernel
theorem zin12 : ∀ w ∈ u_ws RX6 TX6 7, w ∈ zw := by decide +kernel
theorem zin13 : ∀ w ∈ u_ws RX7 TX7 15, w ∈ zw := by decide +kernel
/-- the handlers of the methods that have some -/
def zhtl : List ((String × String × String) × List (Nat × Nat × Nat × Nat)) := [(("WindsparlourLaw", "lay", "(LWindsparlour;IILWindsparlourLaw$Out;)I"), [(0, 11, 14, 19), (0, 11, 18, 21)]), (("WindsparlourLaw", "draw", "(LWindsparlour;LWindsparlourLaw$Out;)I"), [(0, 9, 12, 21)]), (("WindsparlourLaw", "discard", "(LWindsparlour;ILWindsparlourLaw$Out;)I"), [(0, 10, 13, 19), (0, 10, 16, 21)]), (("WindsparlourLaw", "call", "(LWindsparlour;ILWindsparlourLaw$Out;)I"), [(0, 10, 13, 19), (0, 10, 16, 21)]), (("WindsparlourLaw", "claim", "(LWindsparlour;IIILWindsparlourLaw$Out;)I"), [(0, 13, 16, 38), (0, 13, 20, 19), (0, 13, 24, 21)]), (("WindsparlourLaw", "four", "(LWindsparlour;ILWindsparlourLaw$Out;)I"), [(0, 10, 13, 19), (0, 10, 16, 21)]), (("WindsparlourLaw", "pass", "(LWindsparlour;LWindsparlourLaw$Out;)I"), [(0, 9, 12, 21)]), (("WindsparlourLaw", "win", "(LWindsparlour;ILWindsparlourLaw$Out;)I"), [(0, 10, 13, 38), (0, 10, 16, 21)]), (("WindsparlourLaw", "has", "(LWindsparlour;IILWindsparlourLaw$Out;)I"), [(0, 11, 14, 38), (0, 11, 18, 19)]), (("WindsparlourLaw", "ofPlayer", "(LWindsparlour;IILWindsparlourLaw$Out;)I"), [(0, 11, 14, 38), (0, 11, 18, 19)]), (("WindsparlourLaw", "ofSet", "(LWindsparlour;IILWindsparlourLaw$Out;)I"), [(0, 11, 14, 38)]), (("WindsparlourLaw", "river", "(LWindsparlour;IILWindsparlourLaw$Out;)I"), [(0, 11, 14, 38)]), (("WindsparlourLaw", "waits", "(LWindsparlour;ILWindsparlourLaw$Out;)I"), [(0, 9, 12, 38)]), (("WindsparlourLaw", "seen", "(LWindsparlour;ILWindsparlourLaw$Out;)I"), [(0, 10, 13, 19)]), (("WindsparlourLaw", "hand", "(LWindsparlour;ILWindsparlourLaw$Out;)I"), [(0, 9, 12, 38)]), (("WindsparlourLaw", "many", "(LWindsparlour;ILWindsparlourLaw$Out;)I"), [(0, 10, 13, 19)]), (("WindsparlourLaw", "lead", "(LWindsparlour;ILWindsparlourLaw$Out;)I"), [(0, 9, 12, 38)]), (("WindsparlourLaw", "worth", "(LWindsparlour;IILWindsparlourLaw$Out;)I"), [(0, 11, 14, 38), (0, 11, 18, 19)]), (("WindsparlourLaw", "isSafe", "(LWindsparlour;IILWindsparlourLaw$Out;)I"), [(0, 18, 21, 38), (0, 18, 25, 19)]), (("WindsparlourLaw", "outs", "(LWindsparlour;ILWindsparlourLaw$Out;)I"), [(0, 10, 13, 38)])]
def zht (y : MethodName) : List (Nat × Nat × Nat × Nat) := match zhtl.find? (fun q => q.1.1 == y.cls && q.1.2.1 == y.name && q.1.2.2 == y.desc) with
  | some q => q.2
  | none => []
