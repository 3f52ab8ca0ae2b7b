def RX0 : String := "LampRhythms$Chart"
def TX0 : u_T := fun k => match k with
  | 0 => ("LampRhythms$Chart", "patterns", "[I", true)
  | _ => ("LampRhythms$Chart", "notices", "I", false)
def tyX0 : Nat → FieldType := fun k => match k with
  | 0 => .array .int
  | _ => .int
abbrev wsX00 : List Cond := u_ws RX0 TX0 2
theorem nmX0 : ∀ a, a < 2 → ∀ b, b < 2 → a ≠ b → (TX0 a).2.1 ≠ (TX0 b).2.1 := by decide +kernel
theorem tyX0_ok : ∀ k, k < 2 → parseFieldDescriptor (TX0 k).2.2.1 = some (tyX0 k) := by decide +kernel
abbrev cX0_init : ByteArray := prog_2_method_1_code
def yX0_init : MethodName := ⟨RX0, "<init>", "()V"⟩
abbrev cX0_putIn : ByteArray := prog_2_method_2_code
def yX0_putIn : MethodName := ⟨RX0, "putIn", "(LLampRhythms$Notice;)V"⟩
abbrev cX0_patternOf : ByteArray := prog_2_method_3_code
def yX0_patternOf : MethodName := ⟨RX0, "patternOf", "(I)I"⟩
def RX1 : String := "LampRhythms$Lamp"
def TX1 : u_T := fun k => match k with
  | 0 => ("LampRhythms$Lamp", "x", "I", true)
  | 1 => ("LampRhythms$Lamp", "y", "I", true)
  | 2 => ("LampRhythms$Lamp", "sight", "[I", true)
  | 3 => ("LampRhythms$Lamp", "pattern", "I", false)
  | 4 => ("LampRhythms$Lamp", "begins", "I", false)
  | _ => ("LampRhythms$Lamp", "failed", "Z", false)
def tyX1 : Nat → FieldType := fun k => match k with
  | 0 => .int
  | 1 => .int
  | 2 => .array .int
  | 3 => .int
  | 4 => .int
  | _ => .boolean
abbrev wsX10 : List Cond := u_ws RX1 TX1 6
theorem nmX1 : ∀ a, a < 6 → ∀ b, b < 6 → a ≠ b → (TX1 a).2.1 ≠ (TX1 b).2.1 := by decide +kernel
theorem tyX1_ok : ∀ k, k < 6 → parseFieldDescriptor (TX1 k).2.2.1 = some (tyX1 k) := by decide +kernel
abbrev cX1_init : ByteArray := prog_3_method_1_code
def yX1_init : MethodName := ⟨RX1, "<init>", "(IIIII)V"⟩
abbrev cX1_isWithin : ByteArray := prog_3_method_2_code
def yX1_isWithin : MethodName := ⟨RX1, "isWithin", "(IIII)Z"⟩
abbrev cX1_sectorOf : ByteArray := prog_3_method_3_code
def yX1_sectorOf : MethodName := ⟨RX1, "sectorOf", "(II)I"⟩
abbrev cX1_quarterOf : ByteArray := prog_3_method_4_code
def yX1_quarterOf : MethodName := ⟨RX1, "quarterOf", "(II)I"⟩
abbrev cX1_canBeSeenFrom : ByteArray := prog_3_method_5_code
def yX1_canBeSeenFrom : MethodName := ⟨RX1, "canBeSeenFrom", "(II)Z"⟩
abbrev cX1_placesSharedWith : ByteArray := prog_3_method_6_code
def yX1_placesSharedWith : MethodName := ⟨RX1, "placesSharedWith", "(LLampRhythms$Lamp;)I"⟩
def RX2 : String := "LampRhythms$Notice"
def TX2 : u_T := fun k => match k with
  | 0 => ("LampRhythms$Notice", "lamp", "I", true)
  | _ => ("LampRhythms$Notice", "pattern", "I", true)
def tyX2 : Nat → FieldType := fun k => match k with
  | 0 => .int
  | _ => .int
abbrev wsX20 : List Cond := u_ws RX2 TX2 2
theorem nmX2 : ∀ a, a < 2 → ∀ b, b < 2 → a ≠ b → (TX2 a).2.1 ≠ (TX2 b).2.1 := by decide +kernel
theorem tyX2_ok : ∀ k, k < 2 → parseFieldDescriptor (TX2 k).2.2.1 = some (tyX2 k) := by decide +kernel
abbrev cX2_init : ByteArray := prog_4_method_1_code
def yX2_init : MethodName := ⟨RX2, "<init>", "(II)V"⟩
def RX3 : String := "LampRhythms$Pattern"
def TX3 : u_T := fun k => match k with
  | 0 => ("LampRhythms$Pattern", "period", "I", true)
  | 1 => ("LampRhythms$Pattern", "light", "J", true)
  | _ => ("LampRhythms$Pattern", "cycle", "[I", true)
def tyX3 : Nat → FieldType := fun k => match k with
  | 0 => .int
  | 1 => .long
  | _ => .array .int
abbrev wsX30 : List Cond := u_ws RX3 TX3 3
theorem nmX3 : ∀ a, a < 3 → ∀ b, b < 3 → a ≠ b → (TX3 a).2.1 ≠ (TX3 b).2.1 := by decide +kernel
theorem tyX3_ok : ∀ k, k < 3 → parseFieldDescriptor (TX3 k).2.2.1 = some (tyX3 k) := by decide +kernel
abbrev cX3_init : ByteArray := prog_5_method_1_code
def yX3_init : MethodName := ⟨RX3, "<init>", "([I)V"⟩
abbrev cX3_fewestOf : ByteArray := prog_5_method_2_code
def yX3_fewestOf : MethodName := ⟨RX3, "fewestOf", "([I)I"⟩
abbrev cX3_repeatsAfter : ByteArray := prog_5_method_3_code
def yX3_repeatsAfter : MethodName := ⟨RX3, "repeatsAfter", "([II)Z"⟩
abbrev cX3_isLight : ByteArray := prog_5_method_4_code
def yX3_isLight : MethodName := ⟨RX3, "isLight", "(I)Z"⟩
abbrev cX3_hasPhasesOf : ByteArray := prog_5_method_5_code
def yX3_hasPhasesOf : MethodName := ⟨RX3, "hasPhasesOf", "(LLampRhythms$Pattern;)Z"⟩
abbrev cX3_hasPhasesTurned : ByteArray := prog_5_method_6_code
def yX3_hasPhasesTurned : MethodName := ⟨RX3, "hasPhasesTurned", "([II)Z"⟩
abbrev cX3_hasSecondsOf : ByteArray := prog_5_method_7_code
def yX3_hasSecondsOf : MethodName := ⟨RX3, "hasSecondsOf", "(LLampRhythms$Pattern;)Z"⟩
abbrev cX3_hasSecondsLater : ByteArray := prog_5_method_8_code
def yX3_hasSecondsLater : MethodName := ⟨RX3, "hasSecondsLater", "(LLampRhythms$Pattern;I)Z"⟩
abbrev cX3_canLookLike : ByteArray := prog_5_method_9_code
def yX3_canLookLike : MethodName := ⟨RX3, "canLookLike", "(JI)Z"⟩
abbrev cX3_looksLike : ByteArray := prog_5_method_10_code
def yX3_looksLike : MethodName := ⟨RX3, "looksLike", "(JII)Z"⟩
def RX4 : String := "LampRhythms"
def TX4 : u_T := fun k => match k with
  | 0 => ("LampRhythms", "draft", "[I", true)
  | 1 => ("LampRhythms", "drafted", "I", false)
  | 2 => ("LampRhythms", "patterns", "Ljava/util/ArrayList;", true)
  | 3 => ("LampRhythms", "lamps", "Ljava/util/ArrayList;", true)
  | 4 => ("LampRhythms", "told", "Ljava/util/ArrayList;", true)
  | _ => ("LampRhythms", "charts", "Ljava/util/ArrayList;", true)
def tyX4 : Nat → FieldType := fun k => match k with
  | 0 => .array .int
  | 1 => .int
  | 2 => .object "java/util/ArrayList"
  | 3 => .object "java/util/ArrayList"
  | 4 => .object "java/util/ArrayList"
  | _ => .object "java/util/ArrayList"
abbrev wsX40 : List Cond := u_ws RX4 TX4 6
theorem nmX4 : ∀ a, a < 6 → ∀ b, b < 6 → a ≠ b → (TX4 a).2.1 ≠ (TX4 b).2.1 := by decide +kernel
theorem tyX4_ok : ∀ k, k < 6 → parseFieldDescriptor (TX4 k).2.2.1 = some (tyX4 k) := by decide +kernel
abbrev cX4_init : ByteArray := prog_1_method_1_code
def yX4_init : MethodName := ⟨RX4, "<init>", "()V"⟩
abbrev cX4_phase : ByteArray := prog_1_method_2_code
def yX4_phase : MethodName := ⟨RX4, "phase", "(I)I"⟩
abbrev cX4_pattern : ByteArray := prog_1_method_3_code
def yX4_pattern : MethodName := ⟨RX4, "pattern", "()I"⟩
abbrev cX4_period : ByteArray := prog_1_method_4_code
def yX4_period : MethodName := ⟨RX4, "period", "(I)I"⟩
abbrev cX4_areAlike : ByteArray := prog_1_method_5_code
def yX4_areAlike : MethodName := ⟨RX4, "areAlike", "(II)Z"⟩
abbrev cX4_areAlikeBySeconds : ByteArray := prog_1_method_6_code
def yX4_areAlikeBySeconds : MethodName := ⟨RX4, "areAlikeBySeconds", "(II)Z"⟩
abbrev cX4_lamp : ByteArray := prog_1_method_7_code
def yX4_lamp : MethodName := ⟨RX4, "lamp", "(IIIII)I"⟩
abbrev cX4_change : ByteArray := prog_1_method_8_code
def yX4_change : MethodName := ⟨RX4, "change", "(III)I"⟩
abbrev cX4_fail : ByteArray := prog_1_method_9_code
def yX4_fail : MethodName := ⟨RX4, "fail", "(IZ)I"⟩
abbrev cX4_shines : ByteArray := prog_1_method_10_code
def yX4_shines : MethodName := ⟨RX4, "shines", "(II)Z"⟩
abbrev cX4_sector : ByteArray := prog_1_method_11_code
def yX4_sector : MethodName := ⟨RX4, "sector", "(III)I"⟩
abbrev cX4_isSeen : ByteArray := prog_1_method_12_code
def yX4_isSeen : MethodName := ⟨RX4, "isSeen", "(III)Z"⟩
abbrev cX4_common : ByteArray := prog_1_method_13_code
def yX4_common : MethodName := ⟨RX4, "common", "(II)I"⟩
abbrev cX4_clashes : ByteArray := prog_1_method_14_code
def yX4_clashes : MethodName := ⟨RX4, "clashes", "()I"⟩
abbrev cX4_notices : ByteArray := prog_1_method_15_code
def yX4_notices : MethodName := ⟨RX4, "notices", "()I"⟩
abbrev cX4_print : ByteArray := prog_1_method_16_code
def yX4_print : MethodName := ⟨RX4, "print", "()I"⟩
abbrev cX4_correct : ByteArray := prog_1_method_17_code
def yX4_correct : MethodName := ⟨RX4, "correct", "(II)I"⟩
abbrev cX4_behind : ByteArray := prog_1_method_18_code
def yX4_behind : MethodName := ⟨RX4, "behind", "(I)I"⟩
abbrev cX4_shown : ByteArray := prog_1_method_19_code
def yX4_shown : MethodName := ⟨RX4, "shown", "(II)I"⟩
abbrev cX4_taken : ByteArray := prog_1_method_20_code
def yX4_taken : MethodName := ⟨RX4, "taken", "(IIIIII)I"⟩
abbrev cX4_requireWithin : ByteArray := prog_1_method_21_code
def yX4_requireWithin : MethodName := ⟨RX4, "requireWithin", "(III)V"⟩
abbrev cX4_requirePlace : ByteArray := prog_1_method_22_code
def yX4_requirePlace : MethodName := ⟨RX4, "requirePlace", "(II)V"⟩
abbrev cX4_requirePattern : ByteArray := prog_1_method_23_code
def yX4_requirePattern : MethodName := ⟨RX4, "requirePattern", "(I)V"⟩
abbrev cX4_requireLamp : ByteArray := prog_1_method_24_code
def yX4_requireLamp : MethodName := ⟨RX4, "requireLamp", "(I)V"⟩
abbrev cX4_patternAt : ByteArray := prog_1_method_25_code
def yX4_patternAt : MethodName := ⟨RX4, "patternAt", "(I)LLampRhythms$Pattern;"⟩
abbrev cX4_lampAt : ByteArray := prog_1_method_26_code
def yX4_lampAt : MethodName := ⟨RX4, "lampAt", "(I)LLampRhythms$Lamp;"⟩
abbrev cX4_chartAt : ByteArray := prog_1_method_27_code
def yX4_chartAt : MethodName := ⟨RX4, "chartAt", "(I)LLampRhythms$Chart;"⟩
abbrev cX4_isLit : ByteArray := prog_1_method_28_code
def yX4_isLit : MethodName := ⟨RX4, "isLit", "(LLampRhythms$Lamp;I)Z"⟩
abbrev cX4_clash : ByteArray := prog_1_method_29_code
def yX4_clash : MethodName := ⟨RX4, "clash", "(LLampRhythms$Lamp;LLampRhythms$Lamp;)Z"⟩
abbrev cX4_tell : ByteArray := prog_1_method_30_code
def yX4_tell : MethodName := ⟨RX4, "tell", "(I)I"⟩
abbrev cX4_lackOf : ByteArray := prog_1_method_31_code
def yX4_lackOf : MethodName := ⟨RX4, "lackOf", "(LLampRhythms$Chart;)I"⟩
abbrev cX4_putIn : ByteArray := prog_1_method_32_code
def yX4_putIn : MethodName := ⟨RX4, "putIn", "(LLampRhythms$Chart;I)V"⟩
abbrev cX4_lookAt : ByteArray := prog_1_method_33_code
def yX4_lookAt : MethodName := ⟨RX4, "lookAt", "(LLampRhythms$Lamp;II)J"⟩
def RX5 : String := "LampRhythmsModel"
def TX5 : u_T := fun k => match k with
  | 0 => ("LampRhythmsModel", "draft", "[I", true)
  | 1 => ("LampRhythmsModel", "drafted", "I", false)
  | 2 => ("LampRhythmsModel", "patterns", "I", false)
  | 3 => ("LampRhythmsModel", "phase", "[I", true)
  | 4 => ("LampRhythmsModel", "phases", "[I", true)
  | 5 => ("LampRhythmsModel", "period", "[I", true)
  | 6 => ("LampRhythmsModel", "lamps", "I", false)
  | 7 => ("LampRhythmsModel", "left", "[I", true)
  | 8 => ("LampRhythmsModel", "up", "[I", true)
  | 9 => ("LampRhythmsModel", "has", "[I", true)
  | 10 => ("LampRhythmsModel", "begun", "[I", true)
  | 11 => ("LampRhythmsModel", "reach", "[I", true)
  | 12 => ("LampRhythmsModel", "sectors", "[I", true)
  | 13 => ("LampRhythmsModel", "failed", "[Z", true)
  | 14 => ("LampRhythmsModel", "notice", "[I", true)
  | 15 => ("LampRhythmsModel", "notices", "I", false)
  | 16 => ("LampRhythmsModel", "charts", "I", false)
  | 17 => ("LampRhythmsModel", "told", "[I", true)
  | 18 => ("LampRhythmsModel", "shows", "[I", true)
  | _ => ("LampRhythmsModel", "thrown", "I", false)
def tyX5 : Nat → FieldType := fun k => match k with
  | 0 => .array .int
  | 1 => .int
  | 2 => .int
  | 3 => .array .int
  | 4 => .array .int
  | 5 => .array .int
  | 6 => .int
  | 7 => .array .int
  | 8 => .array .int
  | 9 => .array .int
  | 10 => .array .int
  | 11 => .array .int
  | 12 => .array .int
  | 13 => .array .boolean
  | 14 => .array .int
  | 15 => .int
  | 16 => .int
  | 17 => .array .int
  | 18 => .array .int
  | _ => .int
abbrev wsX50 : List Cond := u_ws RX5 TX5 20
theorem nmX5 : ∀ a, a < 20 → ∀ b, b < 20 → a ≠ b → (TX5 a).2.1 ≠ (TX5 b).2.1 := by decide +kernel
theorem tyX5_ok : ∀ k, k < 20 → parseFieldDescriptor (TX5 k).2.2.1 = some (tyX5 k) := by decide +kernel
abbrev cX5_init : ByteArray := prog_7_method_1_code
def yX5_init : MethodName := ⟨RX5, "<init>", "()V"⟩
abbrev cX5_thrown : ByteArray := prog_7_method_2_code
def yX5_thrown : MethodName := ⟨RX5, "thrown", "()I"⟩
abbrev cX5_isIn : ByteArray := prog_7_method_3_code
def yX5_isIn : MethodName := ⟨RX5, "isIn", "(III)Z"⟩
abbrev cX5_isPattern : ByteArray := prog_7_method_4_code
def yX5_isPattern : MethodName := ⟨RX5, "isPattern", "(I)Z"⟩
abbrev cX5_isLamp : ByteArray := prog_7_method_5_code
def yX5_isLamp : MethodName := ⟨RX5, "isLamp", "(I)Z"⟩
abbrev cX5_isChart : ByteArray := prog_7_method_6_code
def yX5_isChart : MethodName := ⟨RX5, "isChart", "(I)Z"⟩
abbrev cX5_isPlace : ByteArray := prog_7_method_7_code
def yX5_isPlace : MethodName := ⟨RX5, "isPlace", "(II)Z"⟩
abbrev cX5_phase : ByteArray := prog_7_method_8_code
def yX5_phase : MethodName := ⟨RX5, "phase", "(I)I"⟩
abbrev cX5_pattern : ByteArray := prog_7_method_9_code
def yX5_pattern : MethodName := ⟨RX5, "pattern", "()I"⟩
abbrev cX5_period : ByteArray := prog_7_method_10_code
def yX5_period : MethodName := ⟨RX5, "period", "(I)I"⟩
abbrev cX5_isLight : ByteArray := prog_7_method_11_code
def yX5_isLight : MethodName := ⟨RX5, "isLight", "(II)Z"⟩
abbrev cX5_returns : ByteArray := prog_7_method_12_code
def yX5_returns : MethodName := ⟨RX5, "returns", "(I)I"⟩
abbrev cX5_alike : ByteArray := prog_7_method_13_code
def yX5_alike : MethodName := ⟨RX5, "alike", "(II)Z"⟩
abbrev cX5_asksAlike : ByteArray := prog_7_method_14_code
def yX5_asksAlike : MethodName := ⟨RX5, "asksAlike", "(II)Z"⟩
abbrev cX5_areAlike : ByteArray := prog_7_method_15_code
def yX5_areAlike : MethodName := ⟨RX5, "areAlike", "(II)Z"⟩
abbrev cX5_areAlikeBySeconds : ByteArray := prog_7_method_16_code
def yX5_areAlikeBySeconds : MethodName := ⟨RX5, "areAlikeBySeconds", "(II)Z"⟩
abbrev cX5_tells : ByteArray := prog_7_method_17_code
def yX5_tells : MethodName := ⟨RX5, "tells", "(I)I"⟩
abbrev cX5_lamp : ByteArray := prog_7_method_18_code
def yX5_lamp : MethodName := ⟨RX5, "lamp", "(IIIII)I"⟩
abbrev cX5_change : ByteArray := prog_7_method_19_code
def yX5_change : MethodName := ⟨RX5, "change", "(III)I"⟩
abbrev cX5_fail : ByteArray := prog_7_method_20_code
def yX5_fail : MethodName := ⟨RX5, "fail", "(IZ)I"⟩
abbrev cX5_isOn : ByteArray := prog_7_method_21_code
def yX5_isOn : MethodName := ⟨RX5, "isOn", "(II)Z"⟩
abbrev cX5_shines : ByteArray := prog_7_method_22_code
def yX5_shines : MethodName := ⟨RX5, "shines", "(II)Z"⟩
abbrev cX5_sectorOf : ByteArray := prog_7_method_23_code
def yX5_sectorOf : MethodName := ⟨RX5, "sectorOf", "(III)I"⟩
abbrev cX5_sees : ByteArray := prog_7_method_24_code
def yX5_sees : MethodName := ⟨RX5, "sees", "(III)Z"⟩
abbrev cX5_asks : ByteArray := prog_7_method_25_code
def yX5_asks : MethodName := ⟨RX5, "asks", "(III)Z"⟩
abbrev cX5_sector : ByteArray := prog_7_method_26_code
def yX5_sector : MethodName := ⟨RX5, "sector", "(III)I"⟩
abbrev cX5_isSeen : ByteArray := prog_7_method_27_code
def yX5_isSeen : MethodName := ⟨RX5, "isSeen", "(III)Z"⟩
abbrev cX5_both : ByteArray := prog_7_method_28_code
def yX5_both : MethodName := ⟨RX5, "both", "(II)I"⟩
abbrev cX5_common : ByteArray := prog_7_method_29_code
def yX5_common : MethodName := ⟨RX5, "common", "(II)I"⟩
abbrev cX5_clashes : ByteArray := prog_7_method_30_code
def yX5_clashes : MethodName := ⟨RX5, "clashes", "()I"⟩
abbrev cX5_notices : ByteArray := prog_7_method_31_code
def yX5_notices : MethodName := ⟨RX5, "notices", "()I"⟩
abbrev cX5_puts : ByteArray := prog_7_method_32_code
def yX5_puts : MethodName := ⟨RX5, "puts", "(II)I"⟩
abbrev cX5_print : ByteArray := prog_7_method_33_code
def yX5_print : MethodName := ⟨RX5, "print", "()I"⟩
abbrev cX5_correct : ByteArray := prog_7_method_34_code
def yX5_correct : MethodName := ⟨RX5, "correct", "(II)I"⟩
abbrev cX5_behind : ByteArray := prog_7_method_35_code
def yX5_behind : MethodName := ⟨RX5, "behind", "(I)I"⟩
abbrev cX5_shown : ByteArray := prog_7_method_36_code
def yX5_shown : MethodName := ⟨RX5, "shown", "(II)I"⟩
abbrev cX5_could : ByteArray := prog_7_method_37_code
def yX5_could : MethodName := ⟨RX5, "could", "(IIII)Z"⟩
abbrev cX5_taken : ByteArray := prog_7_method_38_code
def yX5_taken : MethodName := ⟨RX5, "taken", "(IIIIII)I"⟩
def RJx145de : String := "java/io/Serializable"
def TJx145de : u_T := fun k => match k with
  | _ => ("", "", "", false)
def tyJx145de : Nat → FieldType := fun k => match k with
  | _ => .int
abbrev wsJx145de0 : List Cond := u_ws RJx145de TJx145de 0
theorem nmJx145de : ∀ a, a < 0 → ∀ b, b < 0 → a ≠ b → (TJx145de a).2.1 ≠ (TJx145de b).2.1 := by decide +kernel
theorem tyJx145de_ok : ∀ k, k < 0 → parseFieldDescriptor (TJx145de k).2.2.1 = some (tyJx145de k) := by decide +kernel
def RJx8e188 : String := "java/lang/Cloneable"
def TJx8e188 : u_T := fun k => match k with
  | _ => ("", "", "", false)
def tyJx8e188 : Nat → FieldType := fun k => match k with
  | _ => .int
abbrev wsJx8e1880 : List Cond := u_ws RJx8e188 TJx8e188 0
theorem nmJx8e188 : ∀ a, a < 0 → ∀ b, b < 0 → a ≠ b → (TJx8e188 a).2.1 ≠ (TJx8e188 b).2.1 := by decide +kernel
theorem tyJx8e188_ok : ∀ k, k < 0 → parseFieldDescriptor (TJx8e188 k).2.2.1 = some (tyJx8e188 k) := by decide +kernel
def RJ6 : String := "java/lang/Integer"
def TJ6 : u_T := fun k => match k with
  | _ => ("", "", "", false)
def tyJ6 : Nat → FieldType := fun k => match k with
  | _ => .int
abbrev wsJ60 : List Cond := u_ws RJ6 TJ6 0
theorem nmJ6 : ∀ a, a < 0 → ∀ b, b < 0 → a ≠ b → (TJ6 a).2.1 ≠ (TJ6 b).2.1 := by decide +kernel
theorem tyJ6_ok : ∀ k, k < 0 → parseFieldDescriptor (TJ6 k).2.2.1 = some (tyJ6 k) := by decide +kernel
abbrev cJ6_bitCount_0f7a4 : ByteArray := prog_14_method_49_code
def yJ6_bitCount_0f7a4 : MethodName := ⟨RJ6, "bitCount", "(I)I"⟩
def RJxab1ab : String := "java/lang/Iterable"
def TJxab1ab : u_T := fun k => match k with
  | _ => ("", "", "", false)
def tyJxab1ab : Nat → FieldType := fun k => match k with
  | _ => .int
abbrev wsJxab1ab0 : List Cond := u_ws RJxab1ab TJxab1ab 0
theorem nmJxab1ab : ∀ a, a < 0 → ∀ b, b < 0 → a ≠ b → (TJxab1ab a).2.1 ≠ (TJxab1ab b).2.1 := by decide +kernel
theorem tyJxab1ab_ok : ∀ k, k < 0 → parseFieldDescriptor (TJxab1ab k).2.2.1 = some (tyJxab1ab k) := by decide +kernel
def RJ9 : String := "java/lang/Math"
def TJ9 : u_T := fun k => match k with
  | _ => ("", "", "", false)
def tyJ9 : Nat → FieldType := fun k => match k with
  | _ => .int
abbrev wsJ90 : List Cond := u_ws RJ9 TJ9 0
theorem nmJ9 : ∀ a, a < 0 → ∀ b, b < 0 → a ≠ b → (TJ9 a).2.1 ≠ (TJ9 b).2.1 := by decide +kernel
theorem tyJ9_ok : ∀ k, k < 0 → parseFieldDescriptor (TJ9 k).2.2.1 = some (tyJ9 k) := by decide +kernel
abbrev cJ9_abs_0f7a4 : ByteArray := prog_16_method_59_code
def yJ9_abs_0f7a4 : MethodName := ⟨RJ9, "abs", "(I)I"⟩
abbrev cJ9_max_7cf53 : ByteArray := prog_16_method_65_code
def yJ9_max_7cf53 : MethodName := ⟨RJ9, "max", "(II)I"⟩
abbrev cJ9_min_7cf53 : ByteArray := prog_16_method_69_code
def yJ9_min_7cf53 : MethodName := ⟨RJ9, "min", "(II)I"⟩
def RJ0 : String := "java/lang/String"
def TJ0 : u_T := fun k => match k with
  | _ => ("", "", "", false)
def tyJ0 : Nat → FieldType := fun k => match k with
  | _ => .int
abbrev wsJ00 : List Cond := u_ws RJ0 TJ0 0
theorem nmJ0 : ∀ a, a < 0 → ∀ b, b < 0 → a ≠ b → (TJ0 a).2.1 ≠ (TJ0 b).2.1 := by decide +kernel
theorem tyJ0_ok : ∀ k, k < 0 → parseFieldDescriptor (TJ0 k).2.2.1 = some (tyJ0 k) := by decide +kernel
def RJ10 : String := "java/lang/System"
def TJ10 : u_T := fun k => match k with
  | _ => ("", "", "", false)
def tyJ10 : Nat → FieldType := fun k => match k with
  | _ => .int
abbrev wsJ100 : List Cond := u_ws RJ10 TJ10 0
theorem nmJ10 : ∀ a, a < 0 → ∀ b, b < 0 → a ≠ b → (TJ10 a).2.1 ≠ (TJ10 b).2.1 := by decide +kernel
theorem tyJ10_ok : ∀ k, k < 0 → parseFieldDescriptor (TJ10 k).2.2.1 = some (tyJ10 k) := by decide +kernel
def RJxa1e45 : String := "java/util/AbstractCollection"
def TJxa1e45 : u_T := fun k => match k with
  | _ => ("", "", "", false)
def tyJxa1e45 : Nat → FieldType := fun k => match k with
  | _ => .int
abbrev wsJxa1e450 : List Cond := u_ws RJxa1e45 TJxa1e45 0
theorem nmJxa1e45 : ∀ a, a < 0 → ∀ b, b < 0 → a ≠ b → (TJxa1e45 a).2.1 ≠ (TJxa1e45 b).2.1 := by decide +kernel
theorem tyJxa1e45_ok : ∀ k, k < 0 → parseFieldDescriptor (TJxa1e45 k).2.2.1 = some (tyJxa1e45 k) := by decide +kernel
abbrev cJxa1e45_init_da8c8 : ByteArray := prog_21_method_1_code
def yJxa1e45_init_da8c8 : MethodName := ⟨RJxa1e45, "<init>", "()V"⟩
def RJxc12de : String := "java/util/AbstractList"
def TJxc12de : u_T := fun k => match k with
  | _ => ("", "", "", false)
def tyJxc12de : Nat → FieldType := fun k => match k with
  | _ => .int
abbrev wsJxc12de0 : List Cond := u_ws RJxc12de TJxc12de 0
theorem nmJxc12de : ∀ a, a < 0 → ∀ b, b < 0 → a ≠ b → (TJxc12de a).2.1 ≠ (TJxc12de b).2.1 := by decide +kernel
theorem tyJxc12de_ok : ∀ k, k < 0 → parseFieldDescriptor (TJxc12de k).2.2.1 = some (tyJxc12de k) := by decide +kernel
abbrev cJxc12de_init_da8c8 : ByteArray := prog_22_method_1_code
def yJxc12de_init_da8c8 : MethodName := ⟨RJxc12de, "<init>", "()V"⟩
def RJx4a65c : String := "java/util/ArrayList"
def TJx4a65c : u_T := fun k => match k with
  | 0 => ("java/util/AbstractList", "modCount", "I", false)
  | 1 => ("java/util/ArrayList", "elementData", "[Ljava/lang/Object;", false)
  | _ => ("java/util/ArrayList", "size", "I", false)
def tyJx4a65c : Nat → FieldType := fun k => match k with
  | 0 => .int
  | 1 => .array (.object "java/lang/Object")
  | _ => .int
abbrev wsJx4a65c0 : List Cond := u_ws RJx4a65c TJx4a65c 3
theorem nmJx4a65c : ∀ a, a < 3 → ∀ b, b < 3 → a ≠ b → (TJx4a65c a).2.1 ≠ (TJx4a65c b).2.1 := by decide +kernel
theorem tyJx4a65c_ok : ∀ k, k < 3 → parseFieldDescriptor (TJx4a65c k).2.2.1 = some (tyJx4a65c k) := by decide +kernel
abbrev cJx4a65c_init_da8c8 : ByteArray := prog_23_method_2_code
def yJx4a65c_init_da8c8 : MethodName := ⟨RJx4a65c, "<init>", "()V"⟩
abbrev cJx4a65c_grow_92f84 : ByteArray := prog_23_method_6_code
def yJx4a65c_grow_92f84 : MethodName := ⟨RJx4a65c, "grow", "(I)[Ljava/lang/Object;"⟩
abbrev cJx4a65c_grow_d5877 : ByteArray := prog_23_method_7_code
def yJx4a65c_grow_d5877 : MethodName := ⟨RJx4a65c, "grow", "()[Ljava/lang/Object;"⟩
abbrev cJx4a65c_size_8abf5 : ByteArray := prog_23_method_8_code
def yJx4a65c_size_8abf5 : MethodName := ⟨RJx4a65c, "size", "()I"⟩
abbrev cJx4a65c_elementData_915e3 : ByteArray := prog_23_method_18_code
def yJx4a65c_elementData_915e3 : MethodName := ⟨RJx4a65c, "elementData", "(I)Ljava/lang/Object;"⟩
abbrev cJx4a65c_get_915e3 : ByteArray := prog_23_method_20_code
def yJx4a65c_get_915e3 : MethodName := ⟨RJx4a65c, "get", "(I)Ljava/lang/Object;"⟩
abbrev cJx4a65c_add_72be8 : ByteArray := prog_23_method_24_code
def yJx4a65c_add_72be8 : MethodName := ⟨RJx4a65c, "add", "(Ljava/lang/Object;[Ljava/lang/Object;I)V"⟩
abbrev cJx4a65c_add_9ea2d : ByteArray := prog_23_method_25_code
def yJx4a65c_add_9ea2d : MethodName := ⟨RJx4a65c, "add", "(Ljava/lang/Object;)Z"⟩
def RJ7 : String := "java/util/Arrays"
def TJ7 : u_T := fun k => match k with
  | _ => ("", "", "", false)
def tyJ7 : Nat → FieldType := fun k => match k with
  | _ => .int
abbrev wsJ70 : List Cond := u_ws RJ7 TJ7 0
theorem nmJ7 : ∀ a, a < 0 → ∀ b, b < 0 → a ≠ b → (TJ7 a).2.1 ≠ (TJ7 b).2.1 := by decide +kernel
theorem tyJ7_ok : ∀ k, k < 0 → parseFieldDescriptor (TJ7 k).2.2.1 = some (tyJ7 k) := by decide +kernel
abbrev cJ7_fill_53178 : ByteArray := prog_24_method_103_code
def yJ7_fill_53178 : MethodName := ⟨RJ7, "fill", "([II)V"⟩
abbrev cJ7_copyOf_1904c : ByteArray := prog_24_method_119_code
def yJ7_copyOf_1904c : MethodName := ⟨RJ7, "copyOf", "([Ljava/lang/Object;I)[Ljava/lang/Object;"⟩
abbrev cJ7_copyOf_6403c : ByteArray := prog_24_method_120_code
def yJ7_copyOf_6403c : MethodName := ⟨RJ7, "copyOf", "([Ljava/lang/Object;ILjava/lang/Class;)[Ljava/lang/Object;"⟩
abbrev cJ7_copyOf_59c91 : ByteArray := prog_24_method_123_code
def yJ7_copyOf_59c91 : MethodName := ⟨RJ7, "copyOf", "([II)[I"⟩
def RJx5ef63 : String := "java/util/Collection"
def TJx5ef63 : u_T := fun k => match k with
  | _ => ("", "", "", false)
def tyJx5ef63 : Nat → FieldType := fun k => match k with
  | _ => .int
abbrev wsJx5ef630 : List Cond := u_ws RJx5ef63 TJx5ef63 0
theorem nmJx5ef63 : ∀ a, a < 0 → ∀ b, b < 0 → a ≠ b → (TJx5ef63 a).2.1 ≠ (TJx5ef63 b).2.1 := by decide +kernel
theorem tyJx5ef63_ok : ∀ k, k < 0 → parseFieldDescriptor (TJx5ef63 k).2.2.1 = some (tyJx5ef63 k) := by decide +kernel
def RJxbd725 : String := "java/util/List"
def TJxbd725 : u_T := fun k => match k with
  | _ => ("", "", "", false)
def tyJxbd725 : Nat → FieldType := fun k => match k with
  | _ => .int
abbrev wsJxbd7250 : List Cond := u_ws RJxbd725 TJxbd725 0
theorem nmJxbd725 : ∀ a, a < 0 → ∀ b, b < 0 → a ≠ b → (TJxbd725 a).2.1 ≠ (TJxbd725 b).2.1 := by decide +kernel
theorem tyJxbd725_ok : ∀ k, k < 0 → parseFieldDescriptor (TJxbd725 k).2.2.1 = some (tyJxbd725 k) := by decide +kernel
def RJ15 : String := "java/util/Objects"
def TJ15 : u_T := fun k => match k with
  | _ => ("", "", "", false)
def tyJ15 : Nat → FieldType := fun k => match k with
  | _ => .int
abbrev wsJ150 : List Cond := u_ws RJ15 TJ15 0
theorem nmJ15 : ∀ a, a < 0 → ∀ b, b < 0 → a ≠ b → (TJ15 a).2.1 ≠ (TJ15 b).2.1 := by decide +kernel
theorem tyJ15_ok : ∀ k, k < 0 → parseFieldDescriptor (TJ15 k).2.2.1 = some (tyJ15 k) := by decide +kernel
abbrev cJ15_checkIndex_7cf53 : ByteArray := prog_27_method_17_code
def yJ15_checkIndex_7cf53 : MethodName := ⟨RJ15, "checkIndex", "(II)I"⟩
def RJxf0a74 : String := "java/util/RandomAccess"
def TJxf0a74 : u_T := fun k => match k with
  | _ => ("", "", "", false)
def tyJxf0a74 : Nat → FieldType := fun k => match k with
  | _ => .int
abbrev wsJxf0a740 : List Cond := u_ws RJxf0a74 TJxf0a74 0
theorem nmJxf0a74 : ∀ a, a < 0 → ∀ b, b < 0 → a ≠ b → (TJxf0a74 a).2.1 ≠ (TJxf0a74 b).2.1 := by decide +kernel
theorem tyJxf0a74_ok : ∀ k, k < 0 → parseFieldDescriptor (TJxf0a74 k).2.2.1 = some (tyJxf0a74 k) := by decide +kernel
def RJxa66e6 : String := "java/util/SequencedCollection"
def TJxa66e6 : u_T := fun k => match k with
  | _ => ("", "", "", false)
def tyJxa66e6 : Nat → FieldType := fun k => match k with
  | _ => .int
abbrev wsJxa66e60 : List Cond := u_ws RJxa66e6 TJxa66e6 0
theorem nmJxa66e6 : ∀ a, a < 0 → ∀ b, b < 0 → a ≠ b → (TJxa66e6 a).2.1 ≠ (TJxa66e6 b).2.1 := by decide +kernel
theorem tyJxa66e6_ok : ∀ k, k < 0 → parseFieldDescriptor (TJxa66e6 k).2.2.1 = some (tyJxa66e6 k) := by decide +kernel
def RJ8 : String := "jdk/internal/util/ArraysSupport"
def TJ8 : u_T := fun k => match k with
  | _ => ("", "", "", false)
def tyJ8 : Nat → FieldType := fun k => match k with
  | _ => .int
abbrev wsJ80 : List Cond := u_ws RJ8 TJ8 0
theorem nmJ8 : ∀ a, a < 0 → ∀ b, b < 0 → a ≠ b → (TJ8 a).2.1 ≠ (TJ8 b).2.1 := by decide +kernel
theorem tyJ8_ok : ∀ k, k < 0 → parseFieldDescriptor (TJ8 k).2.2.1 = some (tyJ8 k) := by decide +kernel
abbrev cJ8_newLength_cabcc : ByteArray := prog_30_method_27_code
def yJ8_newLength_cabcc : MethodName := ⟨RJ8, "newLength", "(III)I"⟩
abbrev cJ8_hugeLength_7cf53 : ByteArray := prog_30_method_28_code
def yJ8_hugeLength_7cf53 : MethodName := ⟨RJ8, "hugeLength", "(II)I"⟩
def RJ3 : String := "jdk/internal/util/Preconditions"
def TJ3 : u_T := fun k => match k with
  | _ => ("", "", "", false)
def tyJ3 : Nat → FieldType := fun k => match k with
  | _ => .int
abbrev wsJ30 : List Cond := u_ws RJ3 TJ3 0
theorem nmJ3 : ∀ a, a < 0 → ∀ b, b < 0 → a ≠ b → (TJ3 a).2.1 ≠ (TJ3 b).2.1 := by decide +kernel
theorem tyJ3_ok : ∀ k, k < 0 → parseFieldDescriptor (TJ3 k).2.2.1 = some (tyJ3 k) := by decide +kernel
abbrev cJ3_checkIndex_8e157 : ByteArray := prog_31_method_11_code
def yJ3_checkIndex_8e157 : MethodName := ⟨RJ3, "checkIndex", "(IILjava/util/function/BiFunction;)I"⟩
def RL : String := "LampRhythmsLaw"
abbrev cL_phase : ByteArray := method_3_code
def yL_phase : MethodName := ⟨RL, "phase", "(LLampRhythms;I[J)I"⟩
abbrev cL_pattern : ByteArray := method_4_code
def yL_pattern : MethodName := ⟨RL, "pattern", "(LLampRhythms;[J)I"⟩
abbrev cL_period : ByteArray := method_5_code
def yL_period : MethodName := ⟨RL, "period", "(LLampRhythms;I[J)I"⟩
abbrev cL_areAlike : ByteArray := method_6_code
def yL_areAlike : MethodName := ⟨RL, "areAlike", "(LLampRhythms;II[J)I"⟩
abbrev cL_areAlikeBySeconds : ByteArray := method_7_code
def yL_areAlikeBySeconds : MethodName := ⟨RL, "areAlikeBySeconds", "(LLampRhythms;II[J)I"⟩
abbrev cL_lamp : ByteArray := method_8_code
def yL_lamp : MethodName := ⟨RL, "lamp", "(LLampRhythms;IIIII[J)I"⟩
abbrev cL_change : ByteArray := method_9_code
def yL_change : MethodName := ⟨RL, "change", "(LLampRhythms;III[J)I"⟩
abbrev cL_fail : ByteArray := method_10_code
def yL_fail : MethodName := ⟨RL, "fail", "(LLampRhythms;IZ[J)I"⟩
abbrev cL_shines : ByteArray := method_11_code
def yL_shines : MethodName := ⟨RL, "shines", "(LLampRhythms;II[J)I"⟩
abbrev cL_sector : ByteArray := method_12_code
def yL_sector : MethodName := ⟨RL, "sector", "(LLampRhythms;III[J)I"⟩
abbrev cL_isSeen : ByteArray := method_13_code
def yL_isSeen : MethodName := ⟨RL, "isSeen", "(LLampRhythms;III[J)I"⟩
abbrev cL_common : ByteArray := method_14_code
def yL_common : MethodName := ⟨RL, "common", "(LLampRhythms;II[J)I"⟩
abbrev cL_print : ByteArray := method_15_code
def yL_print : MethodName := ⟨RL, "print", "(LLampRhythms;[J)I"⟩
abbrev cL_correct : ByteArray := method_16_code
def yL_correct : MethodName := ⟨RL, "correct", "(LLampRhythms;II[J)I"⟩
abbrev cL_behind : ByteArray := method_17_code
def yL_behind : MethodName := ⟨RL, "behind", "(LLampRhythms;I[J)I"⟩
abbrev cL_shown : ByteArray := method_18_code
def yL_shown : MethodName := ⟨RL, "shown", "(LLampRhythms;II[J)I"⟩
abbrev cL_taken : ByteArray := method_19_code
def yL_taken : MethodName := ⟨RL, "taken", "(LLampRhythms;IIIIII[J)I"⟩
abbrev cL_law : ByteArray := code
def yL_law : MethodName := ⟨RL, "law", "([I)Z"⟩
abbrev vwCl : List vw_C := [(RJx4a65c, TJx4a65c, 3), (RX0, TX0, 2), (RX1, TX1, 6), (RX2, TX2, 2), (RX3, TX3, 3), (RX4, TX4, 6), (RX5, TX5, 20)]
def wa_0 : List Cond := [Cond.classLink RL 8 RX4, Cond.instantiable RX4 6, Cond.initialized RX4, Cond.classLink RL 76 RX5, Cond.instantiable RX5 20, Cond.initialized RX5, Cond.arrayClass .long, Cond.methodLink RL 75 yX4_init, Cond.instanceMethod yX4_init, Cond.code yX4_init cX4_init 1 none, Cond.methodLink RX4 1 objectInit, Cond.instanceMethod objectInit, Cond.code objectInit ⟨#[0xb1]⟩ 1 none, Cond.arrayClass .int, Cond.fieldLink RX4 9 "LampRhythms" "draft" "[I", Cond.fieldLink RX4 13 "LampRhythms" "drafted" "I", Cond.classLink RX4 17 RJx4a65c, Cond.instantiable RJx4a65c 3, Cond.initialized RJx4a65c, Cond.fieldLink RX4 20 "LampRhythms" "patterns" "Ljava/util/ArrayList;", Cond.fieldLink RX4 24 "LampRhythms" "lamps" "Ljava/util/ArrayList;", Cond.fieldLink RX4 27 "LampRhythms" "told" "Ljava/util/ArrayList;", Cond.fieldLink RX4 30 "LampRhythms" "charts" "Ljava/util/ArrayList;", Cond.methodLink RX4 19 yJx4a65c_init_da8c8, Cond.instanceMethod yJx4a65c_init_da8c8]
def wa_1 : List Cond := [Cond.code yJx4a65c_init_da8c8 cJx4a65c_init_da8c8 1 none, Cond.fieldLink RJx4a65c 39 "java/util/ArrayList" "DEFAULTCAPACITY_EMPTY_ELEMENTDATA" "[Ljava/lang/Object;", Cond.fieldLink RJx4a65c 9 "java/util/ArrayList" "elementData" "[Ljava/lang/Object;", Cond.methodLink RJx4a65c 1 yJxc12de_init_da8c8, Cond.instanceMethod yJxc12de_init_da8c8, Cond.initialized RJxc12de, Cond.code yJxc12de_init_da8c8 cJxc12de_init_da8c8 1 none, Cond.fieldLink RJxc12de 7 "java/util/AbstractList" "modCount" "I", Cond.methodLink RJxc12de 1 yJxa1e45_init_da8c8, Cond.instanceMethod yJxa1e45_init_da8c8, Cond.initialized RJxa1e45, Cond.code yJxa1e45_init_da8c8 cJxa1e45_init_da8c8 1 none, Cond.methodLink RJxa1e45 1 objectInit, Cond.methodLink RL 78 yX5_init, Cond.instanceMethod yX5_init, Cond.code yX5_init cX5_init 1 none, Cond.methodLink RX5 1 objectInit, Cond.fieldLink RX5 7 "LampRhythmsModel" "draft" "[I", Cond.fieldLink RX5 13 "LampRhythmsModel" "phase" "[I", Cond.fieldLink RX5 16 "LampRhythmsModel" "phases" "[I", Cond.fieldLink RX5 19 "LampRhythmsModel" "period" "[I", Cond.fieldLink RX5 22 "LampRhythmsModel" "left" "[I", Cond.fieldLink RX5 25 "LampRhythmsModel" "up" "[I", Cond.fieldLink RX5 28 "LampRhythmsModel" "has" "[I", Cond.fieldLink RX5 31 "LampRhythmsModel" "begun" "[I"]
def wa_2 : List Cond := [Cond.fieldLink RX5 34 "LampRhythmsModel" "reach" "[I", Cond.fieldLink RX5 37 "LampRhythmsModel" "sectors" "[I", Cond.arrayClass .boolean, Cond.fieldLink RX5 40 "LampRhythmsModel" "failed" "[Z", Cond.fieldLink RX5 44 "LampRhythmsModel" "notice" "[I", Cond.fieldLink RX5 47 "LampRhythmsModel" "told" "[I", Cond.fieldLink RX5 50 "LampRhythmsModel" "shows" "[I", Cond.methodLink RL 79 yL_phase, Cond.static yL_phase, Cond.initialized RL, Cond.codeWith yL_phase cL_phase 4 (some .int) [(0, 9, 12, 13), (0, 9, 15, 15)], Cond.classLink RL 13 "java/lang/IllegalArgumentException", Cond.classLink RL 15 "java/lang/IllegalStateException", Cond.methodLink RL 7 yX4_phase, Cond.instanceMethod yX4_phase, Cond.selects RX4 yX4_phase yX4_phase, Cond.code yX4_phase cX4_phase 2 (some .int), Cond.classLink RX4 37 "java/lang/IllegalStateException", Cond.initialized "java/lang/IllegalStateException", Cond.methodLink RX4 33 yX4_requireWithin, Cond.static yX4_requireWithin, Cond.code yX4_requireWithin cX4_requireWithin 3 none, Cond.classLink RX4 183 "java/lang/IllegalArgumentException", Cond.initialized "java/lang/IllegalArgumentException", Cond.methodLink RL 84 yX5_phase]
def wa_3 : List Cond := [Cond.instanceMethod yX5_phase, Cond.selects RX5 yX5_phase yX5_phase, Cond.code yX5_phase cX5_phase 2 (some .int), Cond.fieldLink RX5 70 "LampRhythmsModel" "drafted" "I", Cond.fieldLink RX5 53 "LampRhythmsModel" "thrown" "I", Cond.methodLink RX5 60 yX5_isIn, Cond.static yX5_isIn, Cond.code yX5_isIn cX5_isIn 3 (some .boolean), Cond.methodLink RL 85 yX5_thrown, Cond.instanceMethod yX5_thrown, Cond.selects RX5 yX5_thrown yX5_thrown, Cond.code yX5_thrown cX5_thrown 1 (some .int), Cond.methodLink RL 88 yL_pattern, Cond.static yL_pattern, Cond.codeWith yL_pattern cL_pattern 3 (some .int) [(0, 8, 11, 15)], Cond.methodLink RL 17 yX4_pattern, Cond.instanceMethod yX4_pattern, Cond.selects RX4 yX4_pattern yX4_pattern, Cond.code yX4_pattern cX4_pattern 1 (some .int), Cond.classLink RX4 52 RX3, Cond.instantiable RX3 3, Cond.initialized RX3, Cond.methodLink RX4 46 yJx4a65c_size_8abf5, Cond.instanceMethod yJx4a65c_size_8abf5, Cond.selects RJx4a65c yJx4a65c_size_8abf5 yJx4a65c_size_8abf5]
def wa_4 : List Cond := [Cond.code yJx4a65c_size_8abf5 cJx4a65c_size_8abf5 1 (some .int), Cond.fieldLink RJx4a65c 48 "java/util/ArrayList" "size" "I", Cond.methodLink RX4 54 yJ7_copyOf_59c91, Cond.static yJ7_copyOf_59c91, Cond.initialized RJ7, Cond.code yJ7_copyOf_59c91 cJ7_copyOf_59c91 3 (some (.array .int)), Cond.methodLink RJ7 316 ⟨"[I", "clone", "()Ljava/lang/Object;"⟩, Cond.sameMethod "[I" "java/lang/Object" "clone" "()Ljava/lang/Object;", Cond.native ⟨"java/lang/Object", "clone", "()Ljava/lang/Object;"⟩, Cond.instanceMethod ⟨"java/lang/Object", "clone", "()Ljava/lang/Object;"⟩, Cond.selects "[I" ⟨"[I", "clone", "()Ljava/lang/Object;"⟩ ⟨"java/lang/Object", "clone", "()Ljava/lang/Object;"⟩, Cond.classLink RJ7 317 "[I", Cond.methodLink RJ7 304 Lib.Math.min.name, Cond.static Lib.Math.min.name, Cond.initialized "java/lang/Math", Cond.code Lib.Math.min.name Lib.Math.min.code 2 (some .int), Cond.methodLink RJ7 150 arraycopyName, Cond.native arraycopyName, Cond.static arraycopyName, Cond.initialized "java/lang/System", Cond.methodLink RX4 60 yX3_init, Cond.instanceMethod yX3_init, Cond.code yX3_init cX3_init 7 none, Cond.methodLink RX3 1 objectInit, Cond.fieldLink RX3 7 "LampRhythms$Pattern" "period" "I"]
def wa_5 : List Cond := [Cond.fieldLink RX3 13 "LampRhythms$Pattern" "light" "J", Cond.fieldLink RX3 27 "LampRhythms$Pattern" "cycle" "[I", Cond.methodLink RX3 17 yX3_fewestOf, Cond.static yX3_fewestOf, Cond.code yX3_fewestOf cX3_fewestOf 2 (some .int), Cond.methodLink RX3 31 yX3_repeatsAfter, Cond.static yX3_repeatsAfter, Cond.code yX3_repeatsAfter cX3_repeatsAfter 3 (some .boolean), Cond.methodLink RX3 21 yJ7_copyOf_59c91, Cond.methodLink RX4 63 yJx4a65c_add_9ea2d, Cond.instanceMethod yJx4a65c_add_9ea2d, Cond.selects RJx4a65c yJx4a65c_add_9ea2d yJx4a65c_add_9ea2d, Cond.code yJx4a65c_add_9ea2d cJx4a65c_add_9ea2d 2 (some .boolean), Cond.fieldLink RJx4a65c 63 "java/util/ArrayList" "modCount" "I", Cond.sameField "java/util/ArrayList" "java/util/AbstractList" "modCount" "I", Cond.methodLink RJx4a65c 131 yJx4a65c_add_72be8, Cond.instanceMethod yJx4a65c_add_72be8, Cond.selects RJx4a65c yJx4a65c_add_72be8 yJx4a65c_add_72be8, Cond.code yJx4a65c_add_72be8 cJx4a65c_add_72be8 4 none, Cond.methodLink RJx4a65c 129 yJx4a65c_grow_d5877, Cond.instanceMethod yJx4a65c_grow_d5877, Cond.selects RJx4a65c yJx4a65c_grow_d5877 yJx4a65c_grow_d5877, Cond.code yJx4a65c_grow_d5877 cJx4a65c_grow_d5877 1 (some (.array (.object "java/lang/Object"))), Cond.methodLink RJx4a65c 69 yJx4a65c_grow_92f84, Cond.instanceMethod yJx4a65c_grow_92f84]
def wa_6 : List Cond := [Cond.selects RJx4a65c yJx4a65c_grow_92f84 yJx4a65c_grow_92f84, Cond.code yJx4a65c_grow_92f84 cJx4a65c_grow_92f84 4 (some (.array (.object "java/lang/Object"))), Cond.methodLink RJx4a65c 79 Lib.Math.max.name, Cond.static Lib.Math.max.name, Cond.code Lib.Math.max.name Lib.Math.max.code 2 (some .int), Cond.classLink RJx4a65c 7 "java/lang/Object", Cond.methodLink RJx4a65c 73 yJ8_newLength_cabcc, Cond.static yJ8_newLength_cabcc, Cond.initialized RJ8, Cond.code yJ8_newLength_cabcc cJ8_newLength_cabcc 4 (some .int), Cond.methodLink RJ8 194 Lib.Math.max.name, Cond.constant RJ8 200 (2147483639), Cond.methodLink RJ8 201 yJ8_hugeLength_7cf53, Cond.static yJ8_hugeLength_7cf53, Cond.code yJ8_hugeLength_7cf53 cJ8_hugeLength_7cf53 3 (some .int), Cond.methodLink RJx4a65c 66 yJ7_copyOf_1904c, Cond.static yJ7_copyOf_1904c, Cond.code yJ7_copyOf_1904c cJ7_copyOf_1904c 2 (some (.array (.object "java/lang/Object"))), Cond.methodLink RJ7 86 ⟨"java/lang/Object", "getClass", "()Ljava/lang/Class;"⟩, Cond.selects "[Ljava/lang/Object;" ⟨"java/lang/Object", "getClass", "()Ljava/lang/Class;"⟩ ⟨"java/lang/Object", "getClass", "()Ljava/lang/Class;"⟩, Cond.instanceMethod ⟨"java/lang/Object", "getClass", "()Ljava/lang/Class;"⟩, Cond.native ⟨"java/lang/Object", "getClass", "()Ljava/lang/Class;"⟩, Cond.methodLink RJ7 300 yJ7_copyOf_6403c, Cond.static yJ7_copyOf_6403c, Cond.code yJ7_copyOf_6403c cJ7_copyOf_6403c 4 (some (.array (.object "java/lang/Object")))]
def wa_7 : List Cond := [Cond.classLink RJ7 110 "[Ljava/lang/Object;", Cond.classLink RJ7 2 "java/lang/Object", Cond.methodLink RL 91 yX5_pattern, Cond.instanceMethod yX5_pattern, Cond.selects RX5 yX5_pattern yX5_pattern, Cond.code yX5_pattern cX5_pattern 3 (some .int), Cond.fieldLink RX5 57 "LampRhythmsModel" "patterns" "I", Cond.methodLink RL 92 yL_period, Cond.static yL_period, Cond.codeWith yL_period cL_period 4 (some .int) [(0, 9, 12, 24)], Cond.classLink RL 24 "java/lang/IndexOutOfBoundsException", Cond.methodLink RL 21 yX4_period, Cond.instanceMethod yX4_period, Cond.selects RX4 yX4_period yX4_period, Cond.code yX4_period cX4_period 2 (some .int), Cond.fieldLink RX4 71 "LampRhythms$Pattern" "period" "I", Cond.methodLink RX4 67 yX4_patternAt, Cond.instanceMethod yX4_patternAt, Cond.selects RX4 yX4_patternAt yX4_patternAt, Cond.code yX4_patternAt cX4_patternAt 2 (some (.object "LampRhythms$Pattern")), Cond.classLink RX4 52 "LampRhythms$Pattern", Cond.methodLink RX4 81 yX4_requirePattern, Cond.instanceMethod yX4_requirePattern, Cond.selects RX4 yX4_requirePattern yX4_requirePattern, Cond.code yX4_requirePattern cX4_requirePattern 2 none]
def wa_8 : List Cond := [Cond.classLink RX4 188 "java/lang/IndexOutOfBoundsException", Cond.initialized "java/lang/IndexOutOfBoundsException", Cond.methodLink RX4 139 yJx4a65c_get_915e3, Cond.instanceMethod yJx4a65c_get_915e3, Cond.selects RJx4a65c yJx4a65c_get_915e3 yJx4a65c_get_915e3, Cond.code yJx4a65c_get_915e3 cJx4a65c_get_915e3 2 (some (.object "java/lang/Object")), Cond.methodLink RJx4a65c 118 yJ15_checkIndex_7cf53, Cond.static yJ15_checkIndex_7cf53, Cond.initialized RJ15, Cond.code yJ15_checkIndex_7cf53 cJ15_checkIndex_7cf53 2 (some .int), Cond.methodLink RJ15 105 yJ3_checkIndex_8e157, Cond.static yJ3_checkIndex_8e157, Cond.initialized RJ3, Cond.code yJ3_checkIndex_8e157 cJ3_checkIndex_8e157 3 (some .int), Cond.methodLink RJx4a65c 123 yJx4a65c_elementData_915e3, Cond.instanceMethod yJx4a65c_elementData_915e3, Cond.selects RJx4a65c yJx4a65c_elementData_915e3 yJx4a65c_elementData_915e3, Cond.code yJx4a65c_elementData_915e3 cJx4a65c_elementData_915e3 2 (some (.object "java/lang/Object")), Cond.methodLink RL 94 yX5_period, Cond.instanceMethod yX5_period, Cond.selects RX5 yX5_period yX5_period, Cond.code yX5_period cX5_period 2 (some .int), Cond.methodLink RX5 73 yX5_isPattern, Cond.instanceMethod yX5_isPattern, Cond.selects RX5 yX5_isPattern yX5_isPattern]
def wa_9 : List Cond := [Cond.code yX5_isPattern cX5_isPattern 2 (some .boolean), Cond.methodLink RL 95 yL_areAlike, Cond.static yL_areAlike, Cond.codeWith yL_areAlike cL_areAlike 5 (some .int) [(0, 17, 20, 24)], Cond.methodLink RL 26 yX4_areAlike, Cond.instanceMethod yX4_areAlike, Cond.selects RX4 yX4_areAlike yX4_areAlike, Cond.code yX4_areAlike cX4_areAlike 3 (some .boolean), Cond.methodLink RX4 74 yX3_hasPhasesOf, Cond.instanceMethod yX3_hasPhasesOf, Cond.selects RX3 yX3_hasPhasesOf yX3_hasPhasesOf, Cond.code yX3_hasPhasesOf cX3_hasPhasesOf 3 (some .boolean), Cond.methodLink RX3 35 yX3_hasPhasesTurned, Cond.instanceMethod yX3_hasPhasesTurned, Cond.selects RX3 yX3_hasPhasesTurned yX3_hasPhasesTurned, Cond.code yX3_hasPhasesTurned cX3_hasPhasesTurned 4 (some .boolean), Cond.methodLink RL 98 yX5_areAlike, Cond.instanceMethod yX5_areAlike, Cond.selects RX5 yX5_areAlike yX5_areAlike, Cond.code yX5_areAlike cX5_areAlike 3 (some .boolean), Cond.methodLink RX5 88 yX5_asksAlike, Cond.instanceMethod yX5_asksAlike, Cond.selects RX5 yX5_asksAlike yX5_asksAlike, Cond.code yX5_asksAlike cX5_asksAlike 3 (some .boolean), Cond.methodLink RX5 85 yX5_alike]
def wa_10 : List Cond := [Cond.instanceMethod yX5_alike, Cond.selects RX5 yX5_alike yX5_alike, Cond.code yX5_alike cX5_alike 8 (some .boolean), Cond.methodLink RX5 81 yX5_returns, Cond.instanceMethod yX5_returns, Cond.selects RX5 yX5_returns yX5_returns, Cond.code yX5_returns cX5_returns 6 (some .int), Cond.methodLink RX5 77 yX5_isLight, Cond.instanceMethod yX5_isLight, Cond.selects RX5 yX5_isLight yX5_isLight, Cond.code yX5_isLight cX5_isLight 5 (some .boolean), Cond.methodLink RL 99 yL_areAlikeBySeconds, Cond.static yL_areAlikeBySeconds, Cond.codeWith yL_areAlikeBySeconds cL_areAlikeBySeconds 5 (some .int) [(0, 17, 20, 24)], Cond.methodLink RL 30 yX4_areAlikeBySeconds, Cond.instanceMethod yX4_areAlikeBySeconds, Cond.selects RX4 yX4_areAlikeBySeconds yX4_areAlikeBySeconds, Cond.code yX4_areAlikeBySeconds cX4_areAlikeBySeconds 3 (some .boolean), Cond.methodLink RX4 78 yX3_hasSecondsOf, Cond.instanceMethod yX3_hasSecondsOf, Cond.selects RX3 yX3_hasSecondsOf yX3_hasSecondsOf, Cond.code yX3_hasSecondsOf cX3_hasSecondsOf 3 (some .boolean), Cond.methodLink RX3 38 yX3_hasSecondsLater, Cond.instanceMethod yX3_hasSecondsLater, Cond.selects RX3 yX3_hasSecondsLater yX3_hasSecondsLater]
def wa_11 : List Cond := [Cond.code yX3_hasSecondsLater cX3_hasSecondsLater 5 (some .boolean), Cond.methodLink RX3 42 yX3_isLight, Cond.instanceMethod yX3_isLight, Cond.selects RX3 yX3_isLight yX3_isLight, Cond.code yX3_isLight cX3_isLight 2 (some .boolean), Cond.methodLink RL 101 yX5_areAlikeBySeconds, Cond.instanceMethod yX5_areAlikeBySeconds, Cond.selects RX5 yX5_areAlikeBySeconds yX5_areAlikeBySeconds, Cond.code yX5_areAlikeBySeconds cX5_areAlikeBySeconds 3 (some .boolean), Cond.methodLink RL 102 yL_lamp, Cond.static yL_lamp, Cond.codeWith yL_lamp cL_lamp 8 (some .int) [(0, 16, 19, 24), (0, 16, 23, 13), (0, 16, 27, 15)], Cond.methodLink RL 33 yX4_lamp, Cond.instanceMethod yX4_lamp, Cond.selects RX4 yX4_lamp yX4_lamp, Cond.code yX4_lamp cX4_lamp 7 (some .int), Cond.classLink RX4 91 RX1, Cond.instantiable RX1 6, Cond.initialized RX1, Cond.methodLink RX4 85 yX4_requirePlace, Cond.static yX4_requirePlace, Cond.code yX4_requirePlace cX4_requirePlace 2 none, Cond.methodLink RX4 93 yX1_init, Cond.instanceMethod yX1_init, Cond.code yX1_init cX1_init 9 none]
def wa_12 : List Cond := [Cond.methodLink RX1 3 objectInit, Cond.fieldLink RX1 9 "LampRhythms$Lamp" "begins" "I", Cond.fieldLink RX1 15 "LampRhythms$Lamp" "failed" "Z", Cond.fieldLink RX1 23 "LampRhythms$Lamp" "x" "I", Cond.fieldLink RX1 26 "LampRhythms$Lamp" "y" "I", Cond.fieldLink RX1 29 "LampRhythms$Lamp" "sight" "[I", Cond.fieldLink RX1 33 "LampRhythms$Lamp" "pattern" "I", Cond.methodLink RX1 19 yX1_isWithin, Cond.static yX1_isWithin, Cond.code yX1_isWithin cX1_isWithin 5 (some .boolean), Cond.methodLink RX1 36 Lib.Math.abs.name, Cond.static Lib.Math.abs.name, Cond.code Lib.Math.abs.name Lib.Math.abs.code 1 (some .int), Cond.methodLink RX1 42 yX1_sectorOf, Cond.static yX1_sectorOf, Cond.code yX1_sectorOf cX1_sectorOf 5 (some .int), Cond.methodLink RX1 46 yX1_quarterOf, Cond.static yX1_quarterOf, Cond.code yX1_quarterOf cX1_quarterOf 2 (some .int), Cond.methodLink RX4 96 yX4_tell, Cond.instanceMethod yX4_tell, Cond.selects RX4 yX4_tell yX4_tell, Cond.code yX4_tell cX4_tell 3 (some .int), Cond.classLink RX4 201 RX2, Cond.instantiable RX2 2]
def wa_13 : List Cond := [Cond.initialized RX2, Cond.fieldLink RX4 110 "LampRhythms$Lamp" "failed" "Z", Cond.fieldLink RX4 104 "LampRhythms$Lamp" "pattern" "I", Cond.methodLink RX4 100 yX4_lampAt, Cond.instanceMethod yX4_lampAt, Cond.selects RX4 yX4_lampAt yX4_lampAt, Cond.code yX4_lampAt cX4_lampAt 2 (some (.object "LampRhythms$Lamp")), Cond.classLink RX4 91 "LampRhythms$Lamp", Cond.methodLink RX4 169 yX4_requireLamp, Cond.instanceMethod yX4_requireLamp, Cond.selects RX4 yX4_requireLamp yX4_requireLamp, Cond.code yX4_requireLamp cX4_requireLamp 2 none, Cond.methodLink RX4 203 yX2_init, Cond.instanceMethod yX2_init, Cond.code yX2_init cX2_init 3 none, Cond.methodLink RX2 1 objectInit, Cond.fieldLink RX2 7 "LampRhythms$Notice" "lamp" "I", Cond.fieldLink RX2 13 "LampRhythms$Notice" "pattern" "I", Cond.methodLink RL 105 yX5_lamp, Cond.instanceMethod yX5_lamp, Cond.selects RX5 yX5_lamp yX5_lamp, Cond.code yX5_lamp cX5_lamp 7 (some .int), Cond.fieldLink RX5 64 "LampRhythmsModel" "lamps" "I", Cond.methodLink RX5 94 yX5_isPlace, Cond.static yX5_isPlace]
def wa_14 : List Cond := [Cond.code yX5_isPlace cX5_isPlace 2 (some .boolean), Cond.methodLink RX5 97 yX5_tells, Cond.instanceMethod yX5_tells, Cond.selects RX5 yX5_tells yX5_tells, Cond.code yX5_tells cX5_tells 2 (some .int), Cond.fieldLink RX5 91 "LampRhythmsModel" "notices" "I", Cond.methodLink RL 106 yL_change, Cond.static yL_change, Cond.codeWith yL_change cL_change 6 (some .int) [(0, 12, 15, 24), (0, 12, 19, 13)], Cond.methodLink RL 37 yX4_change, Cond.instanceMethod yX4_change, Cond.selects RX4 yX4_change yX4_change, Cond.code yX4_change cX4_change 5 (some .int), Cond.fieldLink RX4 107 "LampRhythms$Lamp" "begins" "I", Cond.methodLink RL 109 yX5_change, Cond.instanceMethod yX5_change, Cond.selects RX5 yX5_change yX5_change, Cond.code yX5_change cX5_change 4 (some .int), Cond.methodLink RX5 100 yX5_isLamp, Cond.instanceMethod yX5_isLamp, Cond.selects RX5 yX5_isLamp yX5_isLamp, Cond.code yX5_isLamp cX5_isLamp 2 (some .boolean), Cond.methodLink RL 110 yL_fail, Cond.static yL_fail, Cond.codeWith yL_fail cL_fail 5 (some .int) [(0, 10, 13, 24), (0, 10, 17, 15)]]
def wa_15 : List Cond := [Cond.methodLink RL 41 yX4_fail, Cond.instanceMethod yX4_fail, Cond.selects RX4 yX4_fail yX4_fail, Cond.code yX4_fail cX4_fail 4 (some .int), Cond.methodLink RL 113 yX5_fail, Cond.instanceMethod yX5_fail, Cond.selects RX5 yX5_fail yX5_fail, Cond.code yX5_fail cX5_fail 3 (some .int), Cond.methodLink RL 114 yL_shines, Cond.static yL_shines, Cond.codeWith yL_shines cL_shines 5 (some .int) [(0, 17, 20, 24), (0, 17, 24, 13)], Cond.methodLink RL 45 yX4_shines, Cond.instanceMethod yX4_shines, Cond.selects RX4 yX4_shines yX4_shines, Cond.code yX4_shines cX4_shines 4 (some .boolean), Cond.constant RX4 116 (100000), Cond.methodLink RX4 117 yX4_isLit, Cond.instanceMethod yX4_isLit, Cond.selects RX4 yX4_isLit yX4_isLit, Cond.code yX4_isLit cX4_isLit 3 (some .boolean), Cond.methodLink RX4 197 yX3_isLight, Cond.methodLink RL 116 yX5_shines, Cond.instanceMethod yX5_shines, Cond.selects RX5 yX5_shines yX5_shines, Cond.code yX5_shines cX5_shines 3 (some .boolean)]
def wa_16 : List Cond := [Cond.constant RX5 103 (100000), Cond.methodLink RX5 104 yX5_isOn, Cond.instanceMethod yX5_isOn, Cond.selects RX5 yX5_isOn yX5_isOn, Cond.code yX5_isOn cX5_isOn 3 (some .boolean), Cond.methodLink RL 117 yL_sector, Cond.static yL_sector, Cond.codeWith yL_sector cL_sector 6 (some .int) [(0, 12, 15, 24), (0, 12, 19, 13)], Cond.methodLink RL 48 yX4_sector, Cond.instanceMethod yX4_sector, Cond.selects RX4 yX4_sector yX4_sector, Cond.code yX4_sector cX4_sector 5 (some .int), Cond.fieldLink RX4 121 "LampRhythms$Lamp" "x" "I", Cond.fieldLink RX4 124 "LampRhythms$Lamp" "y" "I", Cond.methodLink RX4 127 yX1_sectorOf, Cond.methodLink RL 119 yX5_sector, Cond.instanceMethod yX5_sector, Cond.selects RX5 yX5_sector yX5_sector, Cond.code yX5_sector cX5_sector 4 (some .int), Cond.methodLink RX5 111 yX5_asks, Cond.instanceMethod yX5_asks, Cond.selects RX5 yX5_asks yX5_asks, Cond.code yX5_asks cX5_asks 4 (some .boolean), Cond.methodLink RX5 107 yX5_sectorOf, Cond.instanceMethod yX5_sectorOf]
def wa_17 : List Cond := [Cond.selects RX5 yX5_sectorOf yX5_sectorOf, Cond.code yX5_sectorOf cX5_sectorOf 10 (some .int), Cond.methodLink RL 120 yL_isSeen, Cond.static yL_isSeen, Cond.codeWith yL_isSeen cL_isSeen 6 (some .int) [(0, 19, 22, 24), (0, 19, 26, 13)], Cond.methodLink RL 51 yX4_isSeen, Cond.instanceMethod yX4_isSeen, Cond.selects RX4 yX4_isSeen yX4_isSeen, Cond.code yX4_isSeen cX4_isSeen 5 (some .boolean), Cond.methodLink RX4 131 yX1_canBeSeenFrom, Cond.instanceMethod yX1_canBeSeenFrom, Cond.selects RX1 yX1_canBeSeenFrom yX1_canBeSeenFrom, Cond.code yX1_canBeSeenFrom cX1_canBeSeenFrom 3 (some .boolean), Cond.methodLink RL 122 yX5_isSeen, Cond.instanceMethod yX5_isSeen, Cond.selects RX5 yX5_isSeen yX5_isSeen, Cond.code yX5_isSeen cX5_isSeen 4 (some .boolean), Cond.methodLink RX5 114 yX5_sees, Cond.instanceMethod yX5_sees, Cond.selects RX5 yX5_sees yX5_sees, Cond.code yX5_sees cX5_sees 8 (some .boolean), Cond.methodLink RL 123 yL_common, Cond.static yL_common, Cond.codeWith yL_common cL_common 5 (some .int) [(0, 10, 13, 24)], Cond.methodLink RL 55 yX4_common]
def wa_18 : List Cond := [Cond.instanceMethod yX4_common, Cond.selects RX4 yX4_common yX4_common, Cond.code yX4_common cX4_common 3 (some .int), Cond.methodLink RX4 135 yX1_placesSharedWith, Cond.instanceMethod yX1_placesSharedWith, Cond.selects RX1 yX1_placesSharedWith yX1_placesSharedWith, Cond.code yX1_placesSharedWith cX1_placesSharedWith 4 (some .int), Cond.methodLink RX1 49 yJ6_bitCount_0f7a4, Cond.static yJ6_bitCount_0f7a4, Cond.initialized RJ6, Cond.code yJ6_bitCount_0f7a4 cJ6_bitCount_0f7a4 1 (some .int), Cond.constant RJ6 265 (1431655765), Cond.constant RJ6 266 (858993459), Cond.constant RJ6 267 (252645135), Cond.methodLink RL 125 yX5_common, Cond.instanceMethod yX5_common, Cond.selects RX5 yX5_common yX5_common, Cond.code yX5_common cX5_common 3 (some .int), Cond.methodLink RX5 117 yX5_both, Cond.instanceMethod yX5_both, Cond.selects RX5 yX5_both yX5_both, Cond.code yX5_both cX5_both 5 (some .int), Cond.methodLink RL 126 yX4_clashes, Cond.instanceMethod yX4_clashes, Cond.selects RX4 yX4_clashes yX4_clashes]
def wa_19 : List Cond := [Cond.code yX4_clashes cX4_clashes 4 (some .int), Cond.methodLink RX4 143 yX4_clash, Cond.instanceMethod yX4_clash, Cond.selects RX4 yX4_clash yX4_clash, Cond.code yX4_clash cX4_clash 3 (some .boolean), Cond.methodLink RL 129 yX5_clashes, Cond.instanceMethod yX5_clashes, Cond.selects RX5 yX5_clashes yX5_clashes, Cond.code yX5_clashes cX5_clashes 4 (some .int), Cond.methodLink RL 130 yX4_notices, Cond.instanceMethod yX4_notices, Cond.selects RX4 yX4_notices yX4_notices, Cond.code yX4_notices cX4_notices 1 (some .int), Cond.methodLink RL 133 yX5_notices, Cond.instanceMethod yX5_notices, Cond.selects RX5 yX5_notices yX5_notices, Cond.code yX5_notices cX5_notices 1 (some .int), Cond.methodLink RL 134 yL_print, Cond.static yL_print, Cond.codeWith yL_print cL_print 3 (some .int) [(0, 8, 11, 15)], Cond.methodLink RL 59 yX4_print, Cond.instanceMethod yX4_print, Cond.selects RX4 yX4_print yX4_print, Cond.code yX4_print cX4_print 2 (some .int), Cond.classLink RX4 149 RX0]
def wa_20 : List Cond := [Cond.instantiable RX0 2, Cond.initialized RX0, Cond.methodLink RX4 151 yX0_init, Cond.instanceMethod yX0_init, Cond.code yX0_init cX0_init 1 none, Cond.methodLink RX0 3 objectInit, Cond.fieldLink RX0 9 "LampRhythms$Chart" "patterns" "[I", Cond.fieldLink RX0 15 "LampRhythms$Chart" "notices" "I", Cond.methodLink RX0 19 yJ7_fill_53178, Cond.static yJ7_fill_53178, Cond.code yJ7_fill_53178 cJ7_fill_53178 4 none, Cond.methodLink RX4 152 yX4_putIn, Cond.instanceMethod yX4_putIn, Cond.selects RX4 yX4_putIn yX4_putIn, Cond.code yX4_putIn cX4_putIn 5 none, Cond.fieldLink RX4 205 "LampRhythms$Chart" "notices" "I", Cond.methodLink RX4 164 Lib.Math.min.name, Cond.classLink RX4 201 "LampRhythms$Notice", Cond.methodLink RX4 208 yX0_putIn, Cond.instanceMethod yX0_putIn, Cond.selects RX0 yX0_putIn yX0_putIn, Cond.code yX0_putIn cX0_putIn 2 none, Cond.fieldLink RX0 25 "LampRhythms$Notice" "lamp" "I", Cond.fieldLink RX0 30 "LampRhythms$Notice" "pattern" "I", Cond.methodLink RL 136 yX5_print]
def wa_21 : List Cond := [Cond.instanceMethod yX5_print, Cond.selects RX5 yX5_print yX5_print, Cond.code yX5_print cX5_print 2 (some .int), Cond.fieldLink RX5 67 "LampRhythmsModel" "charts" "I", Cond.methodLink RX5 121 yX5_puts, Cond.instanceMethod yX5_puts, Cond.selects RX5 yX5_puts yX5_puts, Cond.code yX5_puts cX5_puts 5 (some .int), Cond.methodLink RL 137 yL_correct, Cond.static yL_correct, Cond.codeWith yL_correct cL_correct 5 (some .int) [(0, 10, 13, 24), (0, 10, 17, 13)], Cond.methodLink RL 62 yX4_correct, Cond.instanceMethod yX4_correct, Cond.selects RX4 yX4_correct yX4_correct, Cond.code yX4_correct cX4_correct 5 (some .int), Cond.methodLink RX4 156 yX4_chartAt, Cond.instanceMethod yX4_chartAt, Cond.selects RX4 yX4_chartAt yX4_chartAt, Cond.code yX4_chartAt cX4_chartAt 2 (some (.object "LampRhythms$Chart")), Cond.classLink RX4 149 "LampRhythms$Chart", Cond.methodLink RX4 160 yX4_lackOf, Cond.instanceMethod yX4_lackOf, Cond.selects RX4 yX4_lackOf yX4_lackOf, Cond.code yX4_lackOf cX4_lackOf 2 (some .int), Cond.methodLink RL 139 yX5_correct]
def wa_22 : List Cond := [Cond.instanceMethod yX5_correct, Cond.selects RX5 yX5_correct yX5_correct, Cond.code yX5_correct cX5_correct 3 (some .int), Cond.methodLink RX5 124 yX5_isChart, Cond.instanceMethod yX5_isChart, Cond.selects RX5 yX5_isChart yX5_isChart, Cond.code yX5_isChart cX5_isChart 2 (some .boolean), Cond.methodLink RL 140 yL_behind, Cond.static yL_behind, Cond.codeWith yL_behind cL_behind 4 (some .int) [(0, 9, 12, 24)], Cond.methodLink RL 65 yX4_behind, Cond.instanceMethod yX4_behind, Cond.selects RX4 yX4_behind yX4_behind, Cond.code yX4_behind cX4_behind 2 (some .int), Cond.methodLink RL 142 yX5_behind, Cond.instanceMethod yX5_behind, Cond.selects RX5 yX5_behind yX5_behind, Cond.code yX5_behind cX5_behind 2 (some .int), Cond.methodLink RL 143 yL_shown, Cond.static yL_shown, Cond.codeWith yL_shown cL_shown 5 (some .int) [(0, 10, 13, 24)], Cond.methodLink RL 68 yX4_shown, Cond.instanceMethod yX4_shown, Cond.selects RX4 yX4_shown yX4_shown, Cond.code yX4_shown cX4_shown 4 (some .int)]
def wa_23 : List Cond := [Cond.methodLink RX4 172 yX0_patternOf, Cond.instanceMethod yX0_patternOf, Cond.selects RX0 yX0_patternOf yX0_patternOf, Cond.code yX0_patternOf cX0_patternOf 2 (some .int), Cond.methodLink RL 145 yX5_shown, Cond.instanceMethod yX5_shown, Cond.selects RX5 yX5_shown yX5_shown, Cond.code yX5_shown cX5_shown 3 (some .int), Cond.methodLink RL 146 yL_taken, Cond.static yL_taken, Cond.codeWith yL_taken cL_taken 9 (some .int) [(0, 18, 21, 24), (0, 18, 25, 13)], Cond.methodLink RL 71 yX4_taken, Cond.instanceMethod yX4_taken, Cond.selects RX4 yX4_taken yX4_taken, Cond.code yX4_taken cX4_taken 14 (some .int), Cond.methodLink RX4 175 yX4_lookAt, Cond.instanceMethod yX4_lookAt, Cond.selects RX4 yX4_lookAt yX4_lookAt, Cond.code yX4_lookAt cX4_lookAt 7 (some .long), Cond.methodLink RX4 179 yX3_canLookLike, Cond.instanceMethod yX3_canLookLike, Cond.selects RX3 yX3_canLookLike yX3_canLookLike, Cond.code yX3_canLookLike cX3_canLookLike 5 (some .boolean), Cond.methodLink RX3 46 yX3_looksLike, Cond.instanceMethod yX3_looksLike]
def wa_24 : List Cond := [Cond.selects RX3 yX3_looksLike yX3_looksLike, Cond.code yX3_looksLike cX3_looksLike 7 (some .boolean), Cond.methodLink RL 149 yX5_taken, Cond.instanceMethod yX5_taken, Cond.selects RX5 yX5_taken yX5_taken, Cond.code yX5_taken cX5_taken 12 (some .int), Cond.methodLink RX5 127 yX5_could, Cond.instanceMethod yX5_could, Cond.selects RX5 yX5_could yX5_could, Cond.code yX5_could cX5_could 9 (some .boolean)]
/-- every word that a method may ask of the tables -/
def WALL : List Cond := wa_0 ++ (wa_1 ++ (wa_2 ++ (wa_3 ++ (wa_4 ++ (wa_5 ++ (wa_6 ++ (wa_7 ++ (wa_8 ++ (wa_9 ++ (wa_10 ++ (wa_11 ++ (wa_12 ++ (wa_13 ++ (wa_14 ++ (wa_15 ++ (wa_16 ++ (wa_17 ++ (wa_18 ++ (wa_19 ++ (wa_20 ++ (wa_21 ++ (wa_22 ++ (wa_23 ++ (wa_24 ++ (wsX40 ++ (wsX50 ++ (wsJx4a65c0 ++ (wsX30 ++ (wsX10 ++ (wsX20 ++ (wsX00 ++ (((vx_atS RX4 41 "java/lang/IllegalStateException" ["java/lang/RuntimeException", "java/lang/Exception"]).filter goodWord) ++ (((vx_atS RX4 187 "java/lang/IllegalArgumentException" ["java/lang/RuntimeException", "java/lang/Exception"]).filter goodWord) ++ (((vx_atS RX4 192 "java/lang/IndexOutOfBoundsException" ["java/lang/RuntimeException", "java/lang/Exception"]).filter goodWord)))))))))))))))))))))))))))))))))))
theorem wi_0 : ∀ w ∈ wa_0, w ∈ WALL := fun _ h => List.mem_append_left _ (h)
theorem m_0_0 : Cond.classLink RL 8 RX4 ∈ WALL := wi_0 _ (List.mem_of_getElem? (i := 0) rfl)
theorem m_0_1 : Cond.instantiable RX4 6 ∈ WALL := wi_0 _ (List.mem_of_getElem? (i := 1) rfl)
theorem m_0_2 : Cond.initialized RX4 ∈ WALL := wi_0 _ (List.mem_of_getElem? (i := 2) rfl)
theorem m_0_3 : Cond.classLink RL 76 RX5 ∈ WALL := wi_0 _ (List.mem_of_getElem? (i := 3) rfl)
theorem m_0_4 : Cond.instantiable RX5 20 ∈ WALL := wi_0 _ (List.mem_of_getElem? (i := 4) rfl)
theorem m_0_5 : Cond.initialized RX5 ∈ WALL := wi_0 _ (List.mem_of_getElem? (i := 5) rfl)
theorem m_0_6 : Cond.arrayClass .long ∈ WALL := wi_0 _ (List.mem_of_getElem? (i := 6) rfl)
theorem m_0_7 : Cond.methodLink RL 75 yX4_init ∈ WALL := wi_0 _ (List.mem_of_getElem? (i := 7) rfl)
theorem m_0_8 : Cond.instanceMethod yX4_init ∈ WALL := wi_0 _ (List.mem_of_getElem? (i := 8) rfl)
theorem m_0_9 : Cond.code yX4_init cX4_init 1 none ∈ WALL := wi_0 _ (List.mem_of_getElem? (i := 9) rfl)
theorem m_0_10 : Cond.methodLink RX4 1 objectInit ∈ WALL := wi_0 _ (List.mem_of_getElem? (i := 10) rfl)
theorem m_0_11 : Cond.instanceMethod objectInit ∈ WALL := wi_0 _ (List.mem_of_getElem? (i := 11) rfl)
theorem m_0_12 : Cond.code objectInit ⟨#[0xb1]⟩ 1 none ∈ WALL := wi_0 _ (List.mem_of_getElem? (i := 12) rfl)
theorem m_0_13 : Cond.arrayClass .int ∈ WALL := wi_0 _ (List.mem_of_getElem? (i := 13) rfl)
theorem m_0_14 : Cond.fieldLink RX4 9 "LampRhythms" "draft" "[I" ∈ WALL := wi_0 _ (List.mem_of_getElem? (i := 14) rfl)
theorem m_0_15 : Cond.fieldLink RX4 13 "LampRhythms" "drafted" "I" ∈ WALL := wi_0 _ (List.mem_of_getElem? (i := 15) rfl)
theorem m_0_16 : Cond.classLink RX4 17 RJx4a65c ∈ WALL := wi_0 _ (List.mem_of_getElem? (i := 16) rfl)
theorem m_0_17 : Cond.instantiable RJx4a65c 3 ∈ WALL := wi_0 _ (List.mem_of_getElem? (i := 17) rfl)
theorem m_0_18 : Cond.initialized RJx4a65c ∈ WALL := wi_0 _ (List.mem_of_getElem? (i := 18) rfl)
theorem m_0_19 : Cond.fieldLink RX4 20 "LampRhythms" "patterns" "Ljava/util/ArrayList;" ∈ WALL := wi_0 _ (List.mem_of_getElem? (i := 19) rfl)
theorem m_0_20 : Cond.fieldLink RX4 24 "LampRhythms" "lamps" "Ljava/util/ArrayList;" ∈ WALL := wi_0 _ (List.mem_of_getElem? (i := 20) rfl)
theorem m_0_21 : Cond.fieldLink RX4 27 "LampRhythms" "told" "Ljava/util/ArrayList;" ∈ WALL := wi_0 _ (List.mem_of_getElem? (i := 21) rfl)
theorem m_0_22 : Cond.fieldLink RX4 30 "LampRhythms" "charts" "Ljava/util/ArrayList;" ∈ WALL := wi_0 _ (List.mem_of_getElem? (i := 22) rfl)
theorem m_0_23 : Cond.methodLink RX4 19 yJx4a65c_init_da8c8 ∈ WALL := wi_0 _ (List.mem_of_getElem? (i := 23) rfl)
theorem m_0_24 : Cond.instanceMethod yJx4a65c_init_da8c8 ∈ WALL := wi_0 _ (List.mem_of_getElem? (i := 24) rfl)
theorem wi_1 : ∀ w ∈ wa_1, w ∈ WALL := fun _ h => List.mem_append_right _ (List.mem_append_left _ (h))
theorem m_1_0 : Cond.code yJx4a65c_init_da8c8 cJx4a65c_init_da8c8 1 none ∈ WALL := wi_1 _ (List.mem_of_getElem? (i := 0) rfl)
theorem m_1_1 : Cond.fieldLink RJx4a65c 39 "java/util/ArrayList" "DEFAULTCAPACITY_EMPTY_ELEMENTDATA" "[Ljava/lang/Object;" ∈ WALL := wi_1 _ (List.mem_of_getElem? (i := 1) rfl)
theorem m_1_2 : Cond.fieldLink RJx4a65c 9 "java/util/ArrayList" "elementData" "[Ljava/lang/Object;" ∈ WALL := wi_1 _ (List.mem_of_getElem? (i := 2) rfl)
theorem m_1_3 : Cond.methodLink RJx4a65c 1 yJxc12de_init_da8c8 ∈ WALL := wi_1 _ (List.mem_of_getElem? (i := 3) rfl)
theorem m_1_4 : Cond.instanceMethod yJxc12de_init_da8c8 ∈ WALL := wi_1 _ (List.mem_of_getElem? (i := 4) rfl)
theorem m_1_5 : Cond.initialized RJxc12de ∈ WALL := wi_1 _ (List.mem_of_getElem? (i := 5) rfl)
theorem m_1_6 : Cond.code yJxc12de_init_da8c8 cJxc12de_init_da8c8 1 none ∈ WALL := wi_1 _ (List.mem_of_getElem? (i := 6) rfl)
theorem m_1_7 : Cond.fieldLink RJxc12de 7 "java/util/AbstractList" "modCount" "I" ∈ WALL := wi_1 _ (List.mem_of_getElem? (i := 7) rfl)
theorem m_1_8 : Cond.methodLink RJxc12de 1 yJxa1e45_init_da8c8 ∈ WALL := wi_1 _ (List.mem_of_getElem? (i := 8) rfl)
theorem m_1_9 : Cond.instanceMethod yJxa1e45_init_da8c8 ∈ WALL := wi_1 _ (List.mem_of_getElem? (i := 9) rfl)
theorem m_1_10 : Cond.initialized RJxa1e45 ∈ WALL := wi_1 _ (List.mem_of_getElem? (i := 10) rfl)
theorem m_1_11 : Cond.code yJxa1e45_init_da8c8 cJxa1e45_init_da8c8 1 none ∈ WALL := wi_1 _ (List.mem_of_getElem? (i := 11) rfl)
theorem m_1_12 : Cond.methodLink RJxa1e45 1 objectInit ∈ WALL := wi_1 _ (List.mem_of_getElem? (i := 12) rfl)
theorem m_1_13 : Cond.methodLink RL 78 yX5_init ∈ WALL := wi_1 _ (List.mem_of_getElem? (i := 13) rfl)
theorem m_1_14 : Cond.instanceMethod yX5_init ∈ WALL := wi_1 _ (List.mem_of_getElem? (i := 14) rfl)
theorem m_1_15 : Cond.code yX5_init cX5_init 1 none ∈ WALL := wi_1 _ (List.mem_of_getElem? (i := 15) rfl)
theorem m_1_16 : Cond.methodLink RX5 1 objectInit ∈ WALL := wi_1 _ (List.mem_of_getElem? (i := 16) rfl)
theorem m_1_17 : Cond.fieldLink RX5 7 "LampRhythmsModel" "draft" "[I" ∈ WALL := wi_1 _ (List.mem_of_getElem? (i := 17) rfl)
theorem m_1_18 : Cond.fieldLink RX5 13 "LampRhythmsModel" "phase" "[I" ∈ WALL := wi_1 _ (List.mem_of_getElem? (i := 18) rfl)
theorem m_1_19 : Cond.fieldLink RX5 16 "LampRhythmsModel" "phases" "[I" ∈ WALL := wi_1 _ (List.mem_of_getElem? (i := 19) rfl)
theorem m_1_20 : Cond.fieldLink RX5 19 "LampRhythmsModel" "period" "[I" ∈ WALL := wi_1 _ (List.mem_of_getElem? (i := 20) rfl)
theorem m_1_21 : Cond.fieldLink RX5 22 "LampRhythmsModel" "left" "[I" ∈ WALL := wi_1 _ (List.mem_of_getElem? (i := 21) rfl)
theorem m_1_22 : Cond.fieldLink RX5 25 "LampRhythmsModel" "up" "[I" ∈ WALL := wi_1 _ (List.mem_of_getElem? (i := 22) rfl)
theorem m_1_23 : Cond.fieldLink RX5 28 "LampRhythmsModel" "has" "[I" ∈ WALL := wi_1 _ (List.mem_of_getElem? (i := 23) rfl)
theorem m_1_24 : Cond.fieldLink RX5 31 "LampRhythmsModel" "begun" "[I" ∈ WALL := wi_1 _ (List.mem_of_getElem? (i := 24) rfl)
theorem wi_2 : ∀ w ∈ wa_2, w ∈ WALL := fun _ h => List.mem_append_right _ (List.mem_append_right _ (List.mem_append_left _ (h)))
theorem m_2_0 : Cond.fieldLink RX5 34 "LampRhythmsModel" "reach" "[I" ∈ WALL := wi_2 _ (List.mem_of_getElem? (i := 0) rfl)
theorem m_2_1 : Cond.fieldLink RX5 37 "LampRhythmsModel" "sectors" "[I" ∈ WALL := wi_2 _ (List.mem_of_getElem? (i := 1) rfl)
theorem m_2_2 : Cond.arrayClass .boolean ∈ WALL := wi_2 _ (List.mem_of_getElem? (i := 2) rfl)
theorem m_2_3 : Cond.fieldLink RX5 40 "LampRhythmsModel" "failed" "[Z" ∈ WALL := wi_2 _ (List.mem_of_getElem? (i := 3) rfl)
theorem m_2_4 : Cond.fieldLink RX5 44 "LampRhythmsModel" "notice" "[I" ∈ WALL := wi_2 _ (List.mem_of_getElem? (i := 4) rfl)
theorem m_2_5 : Cond.fieldLink RX5 47 "LampRhythmsModel" "told" "[I" ∈ WALL := wi_2 _ (List.mem_of_getElem? (i := 5) rfl)
theorem m_2_6 : Cond.fieldLink RX5 50 "LampRhythmsModel" "shows" "[I" ∈ WALL := wi_2 _ (List.mem_of_getElem? (i := 6) rfl)
theorem m_2_7 : Cond.methodLink RL 79 yL_phase ∈ WALL := wi_2 _ (List.mem_of_getElem? (i := 7) rfl)
theorem m_2_8 : Cond.static yL_phase ∈ WALL := wi_2 _ (List.mem_of_getElem? (i := 8) rfl)
theorem m_2_9 : Cond.initialized RL ∈ WALL := wi_2 _ (List.mem_of_getElem? (i := 9) rfl)
theorem m_2_10 : Cond.codeWith yL_phase cL_phase 4 (some .int) [(0, 9, 12, 13), (0, 9, 15, 15)] ∈ WALL := wi_2 _ (List.mem_of_getElem? (i := 10) rfl)
theorem m_2_11 : Cond.classLink RL 13 "java/lang/IllegalArgumentException" ∈ WALL := wi_2 _ (List.mem_of_getElem? (i := 11) rfl)
theorem m_2_12 : Cond.classLink RL 15 "java/lang/IllegalStateException" ∈ WALL := wi_2 _ (List.mem_of_getElem? (i := 12) rfl)
theorem m_2_13 : Cond.methodLink RL 7 yX4_phase ∈ WALL := wi_2 _ (List.mem_of_getElem? (i := 13) rfl)
theorem m_2_14 : Cond.instanceMethod yX4_phase ∈ WALL := wi_2 _ (List.mem_of_getElem? (i := 14) rfl)
theorem m_2_15 : Cond.selects RX4 yX4_phase yX4_phase ∈ WALL := wi_2 _ (List.mem_of_getElem? (i := 15) rfl)
theorem m_2_16 : Cond.code yX4_phase cX4_phase 2 (some .int) ∈ WALL := wi_2 _ (List.mem_of_getElem? (i := 16) rfl)
theorem m_2_17 : Cond.classLink RX4 37 "java/lang/IllegalStateException" ∈ WALL := wi_2 _ (List.mem_of_getElem? (i := 17) rfl)
theorem m_2_18 : Cond.initialized "java/lang/IllegalStateException" ∈ WALL := wi_2 _ (List.mem_of_getElem? (i := 18) rfl)
theorem m_2_19 : Cond.methodLink RX4 33 yX4_requireWithin ∈ WALL := wi_2 _ (List.mem_of_getElem? (i := 19) rfl)
theorem m_2_20 : Cond.static yX4_requireWithin ∈ WALL := wi_2 _ (List.mem_of_getElem? (i := 20) rfl)
theorem m_2_21 : Cond.code yX4_requireWithin cX4_requireWithin 3 none ∈ WALL := wi_2 _ (List.mem_of_getElem? (i := 21) rfl)
theorem m_2_22 : Cond.classLink RX4 183 "java/lang/IllegalArgumentException" ∈ WALL := wi_2 _ (List.mem_of_getElem? (i := 22) rfl)
theorem m_2_23 : Cond.initialized "java/lang/IllegalArgumentException" ∈ WALL := wi_2 _ (List.mem_of_getElem? (i := 23) rfl)
theorem m_2_24 : Cond.methodLink RL 84 yX5_phase ∈ WALL := wi_2 _ (List.mem_of_getElem? (i := 24) rfl)
theorem wi_3 : ∀ w ∈ wa_3, w ∈ WALL := fun _ h => List.mem_append_right _ (List.mem_append_right _ (List.mem_append_right _ (List.mem_append_left _ (h))))
theorem m_3_0 : Cond.instanceMethod yX5_phase ∈ WALL := wi_3 _ (List.mem_of_getElem? (i := 0) rfl)
theorem m_3_1 : Cond.selects RX5 yX5_phase yX5_phase ∈ WALL := wi_3 _ (List.mem_of_getElem? (i := 1) rfl)
theorem m_3_2 : Cond.code yX5_phase cX5_phase 2 (some .int) ∈ WALL := wi_3 _ (List.mem_of_getElem? (i := 2) rfl)
theorem m_3_3 : Cond.fieldLink RX5 70 "LampRhythmsModel" "drafted" "I" ∈ WALL := wi_3 _ (List.mem_of_getElem? (i := 3) rfl)
theorem m_3_4 : Cond.fieldLink RX5 53 "LampRhythmsModel" "thrown" "I" ∈ WALL := wi_3 _ (List.mem_of_getElem? (i := 4) rfl)
theorem m_3_5 : Cond.methodLink RX5 60 yX5_isIn ∈ WALL := wi_3 _ (List.mem_of_getElem? (i := 5) rfl)
theorem m_3_6 : Cond.static yX5_isIn ∈ WALL := wi_3 _ (List.mem_of_getElem? (i := 6) rfl)
theorem m_3_7 : Cond.code yX5_isIn cX5_isIn 3 (some .boolean) ∈ WALL := wi_3 _ (List.mem_of_getElem? (i := 7) rfl)
theorem m_3_8 : Cond.methodLink RL 85 yX5_thrown ∈ WALL := wi_3 _ (List.mem_of_getElem? (i := 8) rfl)
theorem m_3_9 : Cond.instanceMethod yX5_thrown ∈ WALL := wi_3 _ (List.mem_of_getElem? (i := 9) rfl)
theorem m_3_10 : Cond.selects RX5 yX5_thrown yX5_thrown ∈ WALL := wi_3 _ (List.mem_of_getElem? (i := 10) rfl)
theorem m_3_11 : Cond.code yX5_thrown cX5_thrown 1 (some .int) ∈ WALL := wi_3 _ (List.mem_of_getElem? (i := 11) rfl)
theorem m_3_12 : Cond.methodLink RL 88 yL_pattern ∈ WALL := wi_3 _ (List.mem_of_getElem? (i := 12) rfl)
theorem m_3_13 : Cond.static yL_pattern ∈ WALL := wi_3 _ (List.mem_of_getElem? (i := 13) rfl)
theorem m_3_14 : Cond.codeWith yL_pattern cL_pattern 3 (some .int) [(0, 8, 11, 15)] ∈ WALL := wi_3 _ (List.mem_of_getElem? (i := 14) rfl)
theorem m_3_15 : Cond.methodLink RL 17 yX4_pattern ∈ WALL := wi_3 _ (List.mem_of_getElem? (i := 15) rfl)
theorem m_3_16 : Cond.instanceMethod yX4_pattern ∈ WALL := wi_3 _ (List.mem_of_getElem? (i := 16) rfl)
theorem m_3_17 : Cond.selects RX4 yX4_pattern yX4_pattern ∈ WALL := wi_3 _ (List.mem_of_getElem? (i := 17) rfl)
theorem m_3_18 : Cond.code yX4_pattern cX4_pattern 1 (some .int) ∈ WALL := wi_3 _ (List.mem_of_getElem? (i := 18) rfl)
theorem m_3_19 : Cond.classLink RX4 52 RX3 ∈ WALL := wi_3 _ (List.mem_of_getElem? (i := 19) rfl)
theorem m_3_20 : Cond.instantiable RX3 3 ∈ WALL := wi_3 _ (List.mem_of_getElem? (i := 20) rfl)
theorem m_3_21 : Cond.initialized RX3 ∈ WALL := wi_3 _ (List.mem_of_getElem? (i := 21) rfl)
theorem m_3_22 : Cond.methodLink RX4 46 yJx4a65c_size_8abf5 ∈ WALL := wi_3 _ (List.mem_of_getElem? (i := 22) rfl)
theorem m_3_23 : Cond.instanceMethod yJx4a65c_size_8abf5 ∈ WALL := wi_3 _ (List.mem_of_getElem? (i := 23) rfl)
theorem m_3_24 : Cond.selects RJx4a65c yJx4a65c_size_8abf5 yJx4a65c_size_8abf5 ∈ WALL := wi_3 _ (List.mem_of_getElem? (i := 24) rfl)
theorem wi_4 : ∀ w ∈ wa_4, w ∈ WALL := fun _ h => List.mem_append_right _ (List.mem_append_right _ (List.mem_append_right _ (List.mem_append_right _ (List.mem_append_left _ (h)))))
theorem m_4_0 : Cond.code yJx4a65c_size_8abf5 cJx4a65c_size_8abf5 1 (some .int) ∈ WALL := wi_4 _ (List.mem_of_getElem? (i := 0) rfl)
theorem m_4_1 : Cond.fieldLink RJx4a65c 48 "java/util/ArrayList" "size" "I" ∈ WALL := wi_4 _ (List.mem_of_getElem? (i := 1) rfl)
theorem m_4_2 : Cond.methodLink RX4 54 yJ7_copyOf_59c91 ∈ WALL := wi_4 _ (List.mem_of_getElem? (i := 2) rfl)
theorem m_4_3 : Cond.static yJ7_copyOf_59c91 ∈ WALL := wi_4 _ (List.mem_of_getElem? (i := 3) rfl)
theorem m_4_4 : Cond.initialized RJ7 ∈ WALL := wi_4 _ (List.mem_of_getElem? (i := 4) rfl)
theorem m_4_5 : Cond.code yJ7_copyOf_59c91 cJ7_copyOf_59c91 3 (some (.array .int)) ∈ WALL := wi_4 _ (List.mem_of_getElem? (i := 5) rfl)
theorem m_4_6 : Cond.methodLink RJ7 316 ⟨"[I", "clone", "()Ljava/lang/Object;"⟩ ∈ WALL := wi_4 _ (List.mem_of_getElem? (i := 6) rfl)
theorem m_4_7 : Cond.sameMethod "[I" "java/lang/Object" "clone" "()Ljava/lang/Object;" ∈ WALL := wi_4 _ (List.mem_of_getElem? (i := 7) rfl)
theorem m_4_8 : Cond.native ⟨"java/lang/Object", "clone", "()Ljava/lang/Object;"⟩ ∈ WALL := wi_4 _ (List.mem_of_getElem? (i := 8) rfl)
theorem m_4_9 : Cond.instanceMethod ⟨"java/lang/Object", "clone", "()Ljava/lang/Object;"⟩ ∈ WALL := wi_4 _ (List.mem_of_getElem? (i := 9) rfl)
theorem m_4_10 : Cond.selects "[I" ⟨"[I", "clone", "()Ljava/lang/Object;"⟩ ⟨"java/lang/Object", "clone", "()Ljava/lang/Object;"⟩ ∈ WALL := wi_4 _ (List.mem_of_getElem? (i := 10) rfl)
theorem m_4_11 : Cond.classLink RJ7 317 "[I" ∈ WALL := wi_4 _ (List.mem_of_getElem? (i := 11) rfl)
theorem m_4_12 : Cond.methodLink RJ7 304 Lib.Math.min.name ∈ WALL := wi_4 _ (List.mem_of_getElem? (i := 12) rfl)
theorem m_4_13 : Cond.static Lib.Math.min.name ∈ WALL := wi_4 _ (List.mem_of_getElem? (i := 13) rfl)
theorem m_4_14 : Cond.initialized "java/lang/Math" ∈ WALL := wi_4 _ (List.mem_of_getElem? (i := 14) rfl)
theorem m_4_15 : Cond.code Lib.Math.min.name Lib.Math.min.code 2 (some .int) ∈ WALL := wi_4 _ (List.mem_of_getElem? (i := 15) rfl)
theorem m_4_16 : Cond.methodLink RJ7 150 arraycopyName ∈ WALL := wi_4 _ (List.mem_of_getElem? (i := 16) rfl)
theorem m_4_17 : Cond.native arraycopyName ∈ WALL := wi_4 _ (List.mem_of_getElem? (i := 17) rfl)
theorem m_4_18 : Cond.static arraycopyName ∈ WALL := wi_4 _ (List.mem_of_getElem? (i := 18) rfl)
theorem m_4_19 : Cond.initialized "java/lang/System" ∈ WALL := wi_4 _ (List.mem_of_getElem? (i := 19) rfl)
theorem m_4_20 : Cond.methodLink RX4 60 yX3_init ∈ WALL := wi_4 _ (List.mem_of_getElem? (i := 20) rfl)
theorem m_4_21 : Cond.instanceMethod yX3_init ∈ WALL := wi_4 _ (List.mem_of_getElem? (i := 21) rfl)
theorem m_4_22 : Cond.code yX3_init cX3_init 7 none ∈ WALL := wi_4 _ (List.mem_of_getElem? (i := 22) rfl)
theorem m_4_23 : Cond.methodLink RX3 1 objectInit ∈ WALL := wi_4 _ (List.mem_of_getElem? (i := 23) rfl)
theorem m_4_24 : Cond.fieldLink RX3 7 "LampRhythms$Pattern" "period" "I" ∈ WALL := wi_4 _ (List.mem_of_getElem? (i := 24) rfl)
theorem wi_5 : ∀ w ∈ wa_5, w ∈ WALL := fun _ h => List.mem_append_right _ (List.mem_append_right _ (List.mem_append_right _ (List.mem_append_right _ (List.mem_append_right _ (List.mem_append_left _ (h))))))
theorem m_5_0 : Cond.fieldLink RX3 13 "LampRhythms$Pattern" "light" "J" ∈ WALL := wi_5 _ (List.mem_of_getElem? (i := 0) rfl)
theorem m_5_1 : Cond.fieldLink RX3 27 "LampRhythms$Pattern" "cycle" "[I" ∈ WALL := wi_5 _ (List.mem_of_getElem? (i := 1) rfl)
theorem m_5_2 : Cond.methodLink RX3 17 yX3_fewestOf ∈ WALL := wi_5 _ (List.mem_of_getElem? (i := 2) rfl)
theorem m_5_3 : Cond.static yX3_fewestOf ∈ WALL := wi_5 _ (List.mem_of_getElem? (i := 3) rfl)
theorem m_5_4 : Cond.code yX3_fewestOf cX3_fewestOf 2 (some .int) ∈ WALL := wi_5 _ (List.mem_of_getElem? (i := 4) rfl)
theorem m_5_5 : Cond.methodLink RX3 31 yX3_repeatsAfter ∈ WALL := wi_5 _ (List.mem_of_getElem? (i := 5) rfl)
theorem m_5_6 : Cond.static yX3_repeatsAfter ∈ WALL := wi_5 _ (List.mem_of_getElem? (i := 6) rfl)
theorem m_5_7 : Cond.code yX3_repeatsAfter cX3_repeatsAfter 3 (some .boolean) ∈ WALL := wi_5 _ (List.mem_of_getElem? (i := 7) rfl)
theorem m_5_8 : Cond.methodLink RX3 21 yJ7_copyOf_59c91 ∈ WALL := wi_5 _ (List.mem_of_getElem? (i := 8) rfl)
theorem m_5_9 : Cond.methodLink RX4 63 yJx4a65c_add_9ea2d ∈ WALL := wi_5 _ (List.mem_of_getElem? (i := 9) rfl)
theorem m_5_10 : Cond.instanceMethod yJx4a65c_add_9ea2d ∈ WALL := wi_5 _ (List.mem_of_getElem? (i := 10) rfl)
theorem m_5_11 : Cond.selects RJx4a65c yJx4a65c_add_9ea2d yJx4a65c_add_9ea2d ∈ WALL := wi_5 _ (List.mem_of_getElem? (i := 11) rfl)
theorem m_5_12 : Cond.code yJx4a65c_add_9ea2d cJx4a65c_add_9ea2d 2 (some .boolean) ∈ WALL := wi_5 _ (List.mem_of_getElem? (i := 12) rfl)
theorem m_5_13 : Cond.fieldLink RJx4a65c 63 "java/util/ArrayList" "modCount" "I" ∈ WALL := wi_5 _ (List.mem_of_getElem? (i := 13) rfl)
theorem m_5_14 : Cond.sameField "java/util/ArrayList" "java/util/AbstractList" "modCount" "I" ∈ WALL := wi_5 _ (List.mem_of_getElem? (i := 14) rfl)
theorem m_5_15 : Cond.methodLink RJx4a65c 131 yJx4a65c_add_72be8 ∈ WALL := wi_5 _ (List.mem_of_getElem? (i := 15) rfl)
theorem m_5_16 : Cond.instanceMethod yJx4a65c_add_72be8 ∈ WALL := wi_5 _ (List.mem_of_getElem? (i := 16) rfl)
theorem m_5_17 : Cond.selects RJx4a65c yJx4a65c_add_72be8 yJx4a65c_add_72be8 ∈ WALL := wi_5 _ (List.mem_of_getElem? (i := 17) rfl)
theorem m_5_18 : Cond.code yJx4a65c_add_72be8 cJx4a65c_add_72be8 4 none ∈ WALL := wi_5 _ (List.mem_of_getElem? (i := 18) rfl)
theorem m_5_19 : Cond.methodLink RJx4a65c 129 yJx4a65c_grow_d5877 ∈ WALL := wi_5 _ (List.mem_of_getElem? (i := 19) rfl)
theorem m_5_20 : Cond.instanceMethod yJx4a65c_grow_d5877 ∈ WALL := wi_5 _ (List.mem_of_getElem? (i := 20) rfl)
theorem m_5_21 : Cond.selects RJx4a65c yJx4a65c_grow_d5877 yJx4a65c_grow_d5877 ∈ WALL := wi_5 _ (List.mem_of_getElem? (i := 21) rfl)
theorem m_5_22 : Cond.code yJx4a65c_grow_d5877 cJx4a65c_grow_d5877 1 (some (.array (.object "java/lang/Object"))) ∈ WALL := wi_5 _ (List.mem_of_getElem? (i := 22) rfl)
theorem m_5_23 : Cond.methodLink RJx4a65c 69 yJx4a65c_grow_92f84 ∈ WALL := wi_5 _ (List.mem_of_getElem? (i := 23) rfl)
theorem m_5_24 : Cond.instanceMethod yJx4a65c_grow_92f84 ∈ WALL := wi_5 _ (List.mem_of_getElem? (i := 24) rfl)
theorem wi_6 : ∀ w ∈ wa_6, w ∈ WALL := fun _ h => List.mem_append_right _ (List.mem_append_right _ (List.mem_append_right _ (List.mem_append_right _ (List.mem_append_right _ (List.mem_append_right _ (List.mem_append_left _ (h)))))))
theorem m_6_0 : Cond.selects RJx4a65c yJx4a65c_grow_92f84 yJx4a65c_grow_92f84 ∈ WALL := wi_6 _ (List.mem_of_getElem? (i := 0) rfl)
theorem m_6_1 : Cond.code yJx4a65c_grow_92f84 cJx4a65c_grow_92f84 4 (some (.array (.object "java/lang/Object"))) ∈ WALL := wi_6 _ (List.mem_of_getElem? (i := 1) rfl)
theorem m_6_2 : Cond.methodLink RJx4a65c 79 Lib.Math.max.name ∈ WALL := wi_6 _ (List.mem_of_getElem? (i := 2) rfl)
theorem m_6_3 : Cond.static Lib.Math.max.name ∈ WALL := wi_6 _ (List.mem_of_getElem? (i := 3) rfl)
theorem m_6_4 : Cond.code Lib.Math.max.name Lib.Math.max.code 2 (some .int) ∈ WALL := wi_6 _ (List.mem_of_getElem? (i := 4) rfl)
theorem m_6_5 : Cond.classLink RJx4a65c 7 "java/lang/Object" ∈ WALL := wi_6 _ (List.mem_of_getElem? (i := 5) rfl)
theorem m_6_6 : Cond.methodLink RJx4a65c 73 yJ8_newLength_cabcc ∈ WALL := wi_6 _ (List.mem_of_getElem? (i := 6) rfl)
theorem m_6_7 : Cond.static yJ8_newLength_cabcc ∈ WALL := wi_6 _ (List.mem_of_getElem? (i := 7) rfl)
theorem m_6_8 : Cond.initialized RJ8 ∈ WALL := wi_6 _ (List.mem_of_getElem? (i := 8) rfl)
theorem m_6_9 : Cond.code yJ8_newLength_cabcc cJ8_newLength_cabcc 4 (some .int) ∈ WALL := wi_6 _ (List.mem_of_getElem? (i := 9) rfl)
theorem m_6_10 : Cond.methodLink RJ8 194 Lib.Math.max.name ∈ WALL := wi_6 _ (List.mem_of_getElem? (i := 10) rfl)
theorem m_6_11 : Cond.constant RJ8 200 (2147483639) ∈ WALL := wi_6 _ (List.mem_of_getElem? (i := 11) rfl)
theorem m_6_12 : Cond.methodLink RJ8 201 yJ8_hugeLength_7cf53 ∈ WALL := wi_6 _ (List.mem_of_getElem? (i := 12) rfl)
theorem m_6_13 : Cond.static yJ8_hugeLength_7cf53 ∈ WALL := wi_6 _ (List.mem_of_getElem? (i := 13) rfl)
theorem m_6_14 : Cond.code yJ8_hugeLength_7cf53 cJ8_hugeLength_7cf53 3 (some .int) ∈ WALL := wi_6 _ (List.mem_of_getElem? (i := 14) rfl)
theorem m_6_15 : Cond.methodLink RJx4a65c 66 yJ7_copyOf_1904c ∈ WALL := wi_6 _ (List.mem_of_getElem? (i := 15) rfl)
theorem m_6_16 : Cond.static yJ7_copyOf_1904c ∈ WALL := wi_6 _ (List.mem_of_getElem? (i := 16) rfl)
theorem m_6_17 : Cond.code yJ7_copyOf_1904c cJ7_copyOf_1904c 2 (some (.array (.object "java/lang/Object"))) ∈ WALL := wi_6 _ (List.mem_of_getElem? (i := 17) rfl)
theorem m_6_18 : Cond.methodLink RJ7 86 ⟨"java/lang/Object", "getClass", "()Ljava/lang/Class;"⟩ ∈ WALL := wi_6 _ (List.mem_of_getElem? (i := 18) rfl)
theorem m_6_19 : Cond.selects "[Ljava/lang/Object;" ⟨"java/lang/Object", "getClass", "()Ljava/lang/Class;"⟩ ⟨"java/lang/Object", "getClass", "()Ljava/lang/Class;"⟩ ∈ WALL := wi_6 _ (List.mem_of_getElem? (i := 19) rfl)
theorem m_6_20 : Cond.instanceMethod ⟨"java/lang/Object", "getClass", "()Ljava/lang/Class;"⟩ ∈ WALL := wi_6 _ (List.mem_of_getElem? (i := 20) rfl)
theorem m_6_21 : Cond.native ⟨"java/lang/Object", "getClass", "()Ljava/lang/Class;"⟩ ∈ WALL := wi_6 _ (List.mem_of_getElem? (i := 21) rfl)
theorem m_6_22 : Cond.methodLink RJ7 300 yJ7_copyOf_6403c ∈ WALL := wi_6 _ (List.mem_of_getElem? (i := 22) rfl)
theorem m_6_23 : Cond.static yJ7_copyOf_6403c ∈ WALL := wi_6 _ (List.mem_of_getElem? (i := 23) rfl)
theorem m_6_24 : Cond.code yJ7_copyOf_6403c cJ7_copyOf_6403c 4 (some (.array (.object "java/lang/Object"))) ∈ WALL := wi_6 _ (List.mem_of_getElem? (i := 24) rfl)
theorem wi_7 : ∀ w ∈ wa_7, w ∈ WALL := fun _ h => List.mem_append_right _ (List.mem_append_right _ (List.mem_append_right _ (List.mem_append_right _ (List.mem_append_right _ (List.mem_append_right _ (List.mem_append_right _ (List.mem_append_left _ (h))))))))
theorem m_7_0 : Cond.classLink RJ7 110 "[Ljava/lang/Object;" ∈ WALL := wi_7 _ (List.mem_of_getElem? (i := 0) rfl)
theorem m_7_1 : Cond.classLink RJ7 2 "java/lang/Object" ∈ WALL := wi_7 _ (List.mem_of_getElem? (i := 1) rfl)
theorem m_7_2 : Cond.methodLink RL 91 yX5_pattern ∈ WALL := wi_7 _ (List.mem_of_getElem? (i := 2) rfl)
theorem m_7_3 : Cond.instanceMethod yX5_pattern ∈ WALL := wi_7 _ (List.mem_of_getElem? (i := 3) rfl)
theorem m_7_4 : Cond.selects RX5 yX5_pattern yX5_pattern ∈ WALL := wi_7 _ (List.mem_of_getElem? (i := 4) rfl)
theorem m_7_5 : Cond.code yX5_pattern cX5_pattern 3 (some .int) ∈ WALL := wi_7 _ (List.mem_of_getElem? (i := 5) rfl)
theorem m_7_6 : Cond.fieldLink RX5 57 "LampRhythmsModel" "patterns" "I" ∈ WALL := wi_7 _ (List.mem_of_getElem? (i := 6) rfl)
theorem m_7_7 : Cond.methodLink RL 92 yL_period ∈ WALL := wi_7 _ (List.mem_of_getElem? (i := 7) rfl)
theorem m_7_8 : Cond.static yL_period ∈ WALL := wi_7 _ (List.mem_of_getElem? (i := 8) rfl)
theorem m_7_9 : Cond.codeWith yL_period cL_period 4 (some .int) [(0, 9, 12, 24)] ∈ WALL := wi_7 _ (List.mem_of_getElem? (i := 9) rfl)
theorem m_7_10 : Cond.classLink RL 24 "java/lang/IndexOutOfBoundsException" ∈ WALL := wi_7 _ (List.mem_of_getElem? (i := 10) rfl)
theorem m_7_11 : Cond.methodLink RL 21 yX4_period ∈ WALL := wi_7 _ (List.mem_of_getElem? (i := 11) rfl)
theorem m_7_12 : Cond.instanceMethod yX4_period ∈ WALL := wi_7 _ (List.mem_of_getElem? (i := 12) rfl)
theorem m_7_13 : Cond.selects RX4 yX4_period yX4_period ∈ WALL := wi_7 _ (List.mem_of_getElem? (i := 13) rfl)
theorem m_7_14 : Cond.code yX4_period cX4_period 2 (some .int) ∈ WALL := wi_7 _ (List.mem_of_getElem? (i := 14) rfl)
theorem m_7_15 : Cond.fieldLink RX4 71 "LampRhythms$Pattern" "period" "I" ∈ WALL := wi_7 _ (List.mem_of_getElem? (i := 15) rfl)
theorem m_7_16 : Cond.methodLink RX4 67 yX4_patternAt ∈ WALL := wi_7 _ (List.mem_of_getElem? (i := 16) rfl)
theorem m_7_17 : Cond.instanceMethod yX4_patternAt ∈ WALL := wi_7 _ (List.mem_of_getElem? (i := 17) rfl)
theorem m_7_18 : Cond.selects RX4 yX4_patternAt yX4_patternAt ∈ WALL := wi_7 _ (List.mem_of_getElem? (i := 18) rfl)
theorem m_7_19 : Cond.code yX4_patternAt cX4_patternAt 2 (some (.object "LampRhythms$Pattern")) ∈ WALL := wi_7 _ (List.mem_of_getElem? (i := 19) rfl)
theorem m_7_20 : Cond.classLink RX4 52 "LampRhythms$Pattern" ∈ WALL := wi_7 _ (List.mem_of_getElem? (i := 20) rfl)
theorem m_7_21 : Cond.methodLink RX4 81 yX4_requirePattern ∈ WALL := wi_7 _ (List.mem_of_getElem? (i := 21) rfl)
theorem m_7_22 : Cond.instanceMethod yX4_requirePattern ∈ WALL := wi_7 _ (List.mem_of_getElem? (i := 22) rfl)
theorem m_7_23 : Cond.selects RX4 yX4_requirePattern yX4_requirePattern ∈ WALL := wi_7 _ (List.mem_of_getElem? (i := 23) rfl)
theorem m_7_24 : Cond.code yX4_requirePattern cX4_requirePattern 2 none ∈ WALL := wi_7 _ (List.mem_of_getElem? (i := 24) rfl)
theorem wi_8 : ∀ w ∈ wa_8, w ∈ WALL := fun _ h => List.mem_append_right _ (List.mem_append_right _ (List.mem_append_right _ (List.mem_append_right _ (List.mem_append_right _ (List.mem_append_right _ (List.mem_append_right _ (List.mem_append_right _ (List.mem_append_left _ (h)))))))))
theorem m_8_0 : Cond.classLink RX4 188 "java/lang/IndexOutOfBoundsException" ∈ WALL := wi_8 _ (List.mem_of_getElem? (i := 0) rfl)
theorem m_8_1 : Cond.initialized "java/lang/IndexOutOfBoundsException" ∈ WALL := wi_8 _ (List.mem_of_getElem? (i := 1) rfl)
theorem m_8_2 : Cond.methodLink RX4 139 yJx4a65c_get_915e3 ∈ WALL := wi_8 _ (List.mem_of_getElem? (i := 2) rfl)
theorem m_8_3 : Cond.instanceMethod yJx4a65c_get_915e3 ∈ WALL := wi_8 _ (List.mem_of_getElem? (i := 3) rfl)
theorem m_8_4 : Cond.selects RJx4a65c yJx4a65c_get_915e3 yJx4a65c_get_915e3 ∈ WALL := wi_8 _ (List.mem_of_getElem? (i := 4) rfl)
theorem m_8_5 : Cond.code yJx4a65c_get_915e3 cJx4a65c_get_915e3 2 (some (.object "java/lang/Object")) ∈ WALL := wi_8 _ (List.mem_of_getElem? (i := 5) rfl)
theorem m_8_6 : Cond.methodLink RJx4a65c 118 yJ15_checkIndex_7cf53 ∈ WALL := wi_8 _ (List.mem_of_getElem? (i := 6) rfl)
theorem m_8_7 : Cond.static yJ15_checkIndex_7cf53 ∈ WALL := wi_8 _ (List.mem_of_getElem? (i := 7) rfl)
theorem m_8_8 : Cond.initialized RJ15 ∈ WALL := wi_8 _ (List.mem_of_getElem? (i := 8) rfl)
theorem m_8_9 : Cond.code yJ15_checkIndex_7cf53 cJ15_checkIndex_7cf53 2 (some .int) ∈ WALL := wi_8 _ (List.mem_of_getElem? (i := 9) rfl)
theorem m_8_10 : Cond.methodLink RJ15 105 yJ3_checkIndex_8e157 ∈ WALL := wi_8 _ (List.mem_of_getElem? (i := 10) rfl)
theorem m_8_11 : Cond.static yJ3_checkIndex_8e157 ∈ WALL := wi_8 _ (List.mem_of_getElem? (i := 11) rfl)
theorem m_8_12 : Cond.initialized RJ3 ∈ WALL := wi_8 _ (List.mem_of_getElem? (i := 12) rfl)
theorem m_8_13 : Cond.code yJ3_checkIndex_8e157 cJ3_checkIndex_8e157 3 (some .int) ∈ WALL := wi_8 _ (List.mem_of_getElem? (i := 13) rfl)
theorem m_8_14 : Cond.methodLink RJx4a65c 123 yJx4a65c_elementData_915e3 ∈ WALL := wi_8 _ (List.mem_of_getElem? (i := 14) rfl)
theorem m_8_15 : Cond.instanceMethod yJx4a65c_elementData_915e3 ∈ WALL := wi_8 _ (List.mem_of_getElem? (i := 15) rfl)
theorem m_8_16 : Cond.selects RJx4a65c yJx4a65c_elementData_915e3 yJx4a65c_elementData_915e3 ∈ WALL := wi_8 _ (List.mem_of_getElem? (i := 16) rfl)
theorem m_8_17 : Cond.code yJx4a65c_elementData_915e3 cJx4a65c_elementData_915e3 2 (some (.object "java/lang/Object")) ∈ WALL := wi_8 _ (List.mem_of_getElem? (i := 17) rfl)
theorem m_8_18 : Cond.methodLink RL 94 yX5_period ∈ WALL := wi_8 _ (List.mem_of_getElem? (i := 18) rfl)
theorem m_8_19 : Cond.instanceMethod yX5_period ∈ WALL := wi_8 _ (List.mem_of_getElem? (i := 19) rfl)
theorem m_8_20 : Cond.selects RX5 yX5_period yX5_period ∈ WALL := wi_8 _ (List.mem_of_getElem? (i := 20) rfl)
theorem m_8_21 : Cond.code yX5_period cX5_period 2 (some .int) ∈ WALL := wi_8 _ (List.mem_of_getElem? (i := 21) rfl)
theorem m_8_22 : Cond.methodLink RX5 73 yX5_isPattern ∈ WALL := wi_8 _ (List.mem_of_getElem? (i := 22) rfl)
theorem m_8_23 : Cond.instanceMethod yX5_isPattern ∈ WALL := wi_8 _ (List.mem_of_getElem? (i := 23) rfl)
theorem m_8_24 : Cond.selects RX5 yX5_isPattern yX5_isPattern ∈ WALL := wi_8 _ (List.mem_of_getElem? (i := 24) rfl)
theorem wi_9 : ∀ w ∈ wa_9, w ∈ WALL := fun _ h => List.mem_append_right _ (List.mem_append_right _ (List.mem_append_right _ (List.mem_append_right _ (List.mem_append_right _ (List.mem_append_right _ (List.mem_append_right _ (List.mem_append_right _ (List.mem_append_right _ (List.mem_append_left _ (h))))))))))
theorem m_9_0 : Cond.code yX5_isPattern cX5_isPattern 2 (some .boolean) ∈ WALL := wi_9 _ (List.mem_of_getElem? (i := 0) rfl)
theorem m_9_1 : Cond.methodLink RL 95 yL_areAlike ∈ WALL := wi_9 _ (List.mem_of_getElem? (i := 1) rfl)
theorem m_9_2 : Cond.static yL_areAlike ∈ WALL := wi_9 _ (List.mem_of_getElem? (i := 2) rfl)
theorem m_9_3 : Cond.codeWith yL_areAlike cL_areAlike 5 (some .int) [(0, 17, 20, 24)] ∈ WALL := wi_9 _ (List.mem_of_getElem? (i := 3) rfl)
theorem m_9_4 : Cond.methodLink RL 26 yX4_areAlike ∈ WALL := wi_9 _ (List.mem_of_getElem? (i := 4) rfl)
theorem m_9_5 : Cond.instanceMethod yX4_areAlike ∈ WALL := wi_9 _ (List.mem_of_getElem? (i := 5) rfl)
theorem m_9_6 : Cond.selects RX4 yX4_areAlike yX4_areAlike ∈ WALL := wi_9 _ (List.mem_of_getElem? (i := 6) rfl)
theorem m_9_7 : Cond.code yX4_areAlike cX4_areAlike 3 (some .boolean) ∈ WALL := wi_9 _ (List.mem_of_getElem? (i := 7) rfl)
theorem m_9_8 : Cond.methodLink RX4 74 yX3_hasPhasesOf ∈ WALL := wi_9 _ (List.mem_of_getElem? (i := 8) rfl)
theorem m_9_9 : Cond.instanceMethod yX3_hasPhasesOf ∈ WALL := wi_9 _ (List.mem_of_getElem? (i := 9) rfl)
theorem m_9_10 : Cond.selects RX3 yX3_hasPhasesOf yX3_hasPhasesOf ∈ WALL := wi_9 _ (List.mem_of_getElem? (i := 10) rfl)
theorem m_9_11 : Cond.code yX3_hasPhasesOf cX3_hasPhasesOf 3 (some .boolean) ∈ WALL := wi_9 _ (List.mem_of_getElem? (i := 11) rfl)
theorem m_9_12 : Cond.methodLink RX3 35 yX3_hasPhasesTurned ∈ WALL := wi_9 _ (List.mem_of_getElem? (i := 12) rfl)
theorem m_9_13 : Cond.instanceMethod yX3_hasPhasesTurned ∈ WALL := wi_9 _ (List.mem_of_getElem? (i := 13) rfl)
theorem m_9_14 : Cond.selects RX3 yX3_hasPhasesTurned yX3_hasPhasesTurned ∈ WALL := wi_9 _ (List.mem_of_getElem? (i := 14) rfl)
theorem m_9_15 : Cond.code yX3_hasPhasesTurned cX3_hasPhasesTurned 4 (some .boolean) ∈ WALL := wi_9 _ (List.mem_of_getElem? (i := 15) rfl)
theorem m_9_16 : Cond.methodLink RL 98 yX5_areAlike ∈ WALL := wi_9 _ (List.mem_of_getElem? (i := 16) rfl)
theorem m_9_17 : Cond.instanceMethod yX5_areAlike ∈ WALL := wi_9 _ (List.mem_of_getElem? (i := 17) rfl)
theorem m_9_18 : Cond.selects RX5 yX5_areAlike yX5_areAlike ∈ WALL := wi_9 _ (List.mem_of_getElem? (i := 18) rfl)
theorem m_9_19 : Cond.code yX5_areAlike cX5_areAlike 3 (some .boolean) ∈ WALL := wi_9 _ (List.mem_of_getElem? (i := 19) rfl)
theorem m_9_20 : Cond.methodLink RX5 88 yX5_asksAlike ∈ WALL := wi_9 _ (List.mem_of_getElem? (i := 20) rfl)
theorem m_9_21 : Cond.instanceMethod yX5_asksAlike ∈ WALL := wi_9 _ (List.mem_of_getElem? (i := 21) rfl)
theorem m_9_22 : Cond.selects RX5 yX5_asksAlike yX5_asksAlike ∈ WALL := wi_9 _ (List.mem_of_getElem? (i := 22) rfl)
theorem m_9_23 : Cond.code yX5_asksAlike cX5_asksAlike 3 (some .boolean) ∈ WALL := wi_9 _ (List.mem_of_getElem? (i := 23) rfl)
theorem m_9_24 : Cond.methodLink RX5 85 yX5_alike ∈ WALL := wi_9 _ (List.mem_of_getElem? (i := 24) rfl)
theorem wi_10 : ∀ w ∈ wa_10, w ∈ WALL := fun _ h => List.mem_append_right _ (List.mem_append_right _ (List.mem_append_right _ (List.mem_append_right _ (List.mem_append_right _ (List.mem_append_right _ (List.mem_append_right _ (List.mem_append_right _ (List.mem_append_right _ (List.mem_append_right _ (List.mem_append_left _ (h)))))))))))
theorem m_10_0 : Cond.instanceMethod yX5_alike ∈ WALL := wi_10 _ (List.mem_of_getElem? (i := 0) rfl)
theorem m_10_1 : Cond.selects RX5 yX5_alike yX5_alike ∈ WALL := wi_10 _ (List.mem_of_getElem? (i := 1) rfl)
theorem m_10_2 : Cond.code yX5_alike cX5_alike 8 (some .boolean) ∈ WALL := wi_10 _ (List.mem_of_getElem? (i := 2) rfl)
theorem m_10_3 : Cond.methodLink RX5 81 yX5_returns ∈ WALL := wi_10 _ (List.mem_of_getElem? (i := 3) rfl)
theorem m_10_4 : Cond.instanceMethod yX5_returns ∈ WALL := wi_10 _ (List.mem_of_getElem? (i := 4) rfl)
theorem m_10_5 : Cond.selects RX5 yX5_returns yX5_returns ∈ WALL := wi_10 _ (List.mem_of_getElem? (i := 5) rfl)
theorem m_10_6 : Cond.code yX5_returns cX5_returns 6 (some .int) ∈ WALL := wi_10 _ (List.mem_of_getElem? (i := 6) rfl)
theorem m_10_7 : Cond.methodLink RX5 77 yX5_isLight ∈ WALL := wi_10 _ (List.mem_of_getElem? (i := 7) rfl)
theorem m_10_8 : Cond.instanceMethod yX5_isLight ∈ WALL := wi_10 _ (List.mem_of_getElem? (i := 8) rfl)
theorem m_10_9 : Cond.selects RX5 yX5_isLight yX5_isLight ∈ WALL := wi_10 _ (List.mem_of_getElem? (i := 9) rfl)
theorem m_10_10 : Cond.code yX5_isLight cX5_isLight 5 (some .boolean) ∈ WALL := wi_10 _ (List.mem_of_getElem? (i := 10) rfl)
theorem m_10_11 : Cond.methodLink RL 99 yL_areAlikeBySeconds ∈ WALL := wi_10 _ (List.mem_of_getElem? (i := 11) rfl)
theorem m_10_12 : Cond.static yL_areAlikeBySeconds ∈ WALL := wi_10 _ (List.mem_of_getElem? (i := 12) rfl)
theorem m_10_13 : Cond.codeWith yL_areAlikeBySeconds cL_areAlikeBySeconds 5 (some .int) [(0, 17, 20, 24)] ∈ WALL := wi_10 _ (List.mem_of_getElem? (i := 13) rfl)
theorem m_10_14 : Cond.methodLink RL 30 yX4_areAlikeBySeconds ∈ WALL := wi_10 _ (List.mem_of_getElem? (i := 14) rfl)
theorem m_10_15 : Cond.instanceMethod yX4_areAlikeBySeconds ∈ WALL := wi_10 _ (List.mem_of_getElem? (i := 15) rfl)
theorem m_10_16 : Cond.selects RX4 yX4_areAlikeBySeconds yX4_areAlikeBySeconds ∈ WALL := wi_10 _ (List.mem_of_getElem? (i := 16) rfl)
theorem m_10_17 : Cond.code yX4_areAlikeBySeconds cX4_areAlikeBySeconds 3 (some .boolean) ∈ WALL := wi_10 _ (List.mem_of_getElem? (i := 17) rfl)
theorem m_10_18 : Cond.methodLink RX4 78 yX3_hasSecondsOf ∈ WALL := wi_10 _ (List.mem_of_getElem? (i := 18) rfl)
theorem m_10_19 : Cond.instanceMethod yX3_hasSecondsOf ∈ WALL := wi_10 _ (List.mem_of_getElem? (i := 19) rfl)
theorem m_10_20 : Cond.selects RX3 yX3_hasSecondsOf yX3_hasSecondsOf ∈ WALL := wi_10 _ (List.mem_of_getElem? (i := 20) rfl)
theorem m_10_21 : Cond.code yX3_hasSecondsOf cX3_hasSecondsOf 3 (some .boolean) ∈ WALL := wi_10 _ (List.mem_of_getElem? (i := 21) rfl)
theorem m_10_22 : Cond.methodLink RX3 38 yX3_hasSecondsLater ∈ WALL := wi_10 _ (List.mem_of_getElem? (i := 22) rfl)
theorem m_10_23 : Cond.instanceMethod yX3_hasSecondsLater ∈ WALL := wi_10 _ (List.mem_of_getElem? (i := 23) rfl)
theorem m_10_24 : Cond.selects RX3 yX3_hasSecondsLater yX3_hasSecondsLater ∈ WALL := wi_10 _ (List.mem_of_getElem? (i := 24) rfl)
theorem wi_11 : ∀ w ∈ wa_11, w ∈ WALL := fun _ h => List.mem_append_right _ (List.mem_append_right _ (List.mem_append_right _ (List.mem_append_right _ (List.mem_append_right _ (List.mem_append_right _ (List.mem_append_right _ (List.mem_append_right _ (List.mem_append_right _ (List.mem_append_right _ (List.mem_append_right _ (List.mem_append_left _ (h))))))))))))
theorem m_11_0 : Cond.code yX3_hasSecondsLater cX3_hasSecondsLater 5 (some .boolean) ∈ WALL := wi_11 _ (List.mem_of_getElem? (i := 0) rfl)
theorem m_11_1 : Cond.methodLink RX3 42 yX3_isLight ∈ WALL := wi_11 _ (List.mem_of_getElem? (i := 1) rfl)
theorem m_11_2 : Cond.instanceMethod yX3_isLight ∈ WALL := wi_11 _ (List.mem_of_getElem? (i := 2) rfl)
theorem m_11_3 : Cond.selects RX3 yX3_isLight yX3_isLight ∈ WALL := wi_11 _ (List.mem_of_getElem? (i := 3) rfl)
theorem m_11_4 : Cond.code yX3_isLight cX3_isLight 2 (some .boolean) ∈ WALL := wi_11 _ (List.mem_of_getElem? (i := 4) rfl)
theorem m_11_5 : Cond.methodLink RL 101 yX5_areAlikeBySeconds ∈ WALL := wi_11 _ (List.mem_of_getElem? (i := 5) rfl)
theorem m_11_6 : Cond.instanceMethod yX5_areAlikeBySeconds ∈ WALL := wi_11 _ (List.mem_of_getElem? (i := 6) rfl)
theorem m_11_7 : Cond.selects RX5 yX5_areAlikeBySeconds yX5_areAlikeBySeconds ∈ WALL := wi_11 _ (List.mem_of_getElem? (i := 7) rfl)
theorem m_11_8 : Cond.code yX5_areAlikeBySeconds cX5_areAlikeBySeconds 3 (some .boolean) ∈ WALL := wi_11 _ (List.mem_of_getElem? (i := 8) rfl)
theorem m_11_9 : Cond.methodLink RL 102 yL_lamp ∈ WALL := wi_11 _ (List.mem_of_getElem? (i := 9) rfl)
theorem m_11_10 : Cond.static yL_lamp ∈ WALL := wi_11 _ (List.mem_of_getElem? (i := 10) rfl)
theorem m_11_11 : Cond.codeWith yL_lamp cL_lamp 8 (some .int) [(0, 16, 19, 24), (0, 16, 23, 13), (0, 16, 27, 15)] ∈ WALL := wi_11 _ (List.mem_of_getElem? (i := 11) rfl)
theorem m_11_12 : Cond.methodLink RL 33 yX4_lamp ∈ WALL := wi_11 _ (List.mem_of_getElem? (i := 12) rfl)
theorem m_11_13 : Cond.instanceMethod yX4_lamp ∈ WALL := wi_11 _ (List.mem_of_getElem? (i := 13) rfl)
theorem m_11_14 : Cond.selects RX4 yX4_lamp yX4_lamp ∈ WALL := wi_11 _ (List.mem_of_getElem? (i := 14) rfl)
theorem m_11_15 : Cond.code yX4_lamp cX4_lamp 7 (some .int) ∈ WALL := wi_11 _ (List.mem_of_getElem? (i := 15) rfl)
theorem m_11_16 : Cond.classLink RX4 91 RX1 ∈ WALL := wi_11 _ (List.mem_of_getElem? (i := 16) rfl)
theorem m_11_17 : Cond.instantiable RX1 6 ∈ WALL := wi_11 _ (List.mem_of_getElem? (i := 17) rfl)
theorem m_11_18 : Cond.initialized RX1 ∈ WALL := wi_11 _ (List.mem_of_getElem? (i := 18) rfl)
theorem m_11_19 : Cond.methodLink RX4 85 yX4_requirePlace ∈ WALL := wi_11 _ (List.mem_of_getElem? (i := 19) rfl)
theorem m_11_20 : Cond.static yX4_requirePlace ∈ WALL := wi_11 _ (List.mem_of_getElem? (i := 20) rfl)
theorem m_11_21 : Cond.code yX4_requirePlace cX4_requirePlace 2 none ∈ WALL := wi_11 _ (List.mem_of_getElem? (i := 21) rfl)
theorem m_11_22 : Cond.methodLink RX4 93 yX1_init ∈ WALL := wi_11 _ (List.mem_of_getElem? (i := 22) rfl)
theorem m_11_23 : Cond.instanceMethod yX1_init ∈ WALL := wi_11 _ (List.mem_of_getElem? (i := 23) rfl)
theorem m_11_24 : Cond.code yX1_init cX1_init 9 none ∈ WALL := wi_11 _ (List.mem_of_getElem? (i := 24) rfl)
theorem wi_12 : ∀ w ∈ wa_12, w ∈ WALL := fun _ h => List.mem_append_right _ (List.mem_append_right _ (List.mem_append_right _ (List.mem_append_right _ (List.mem_append_right _ (List.mem_append_right _ (List.mem_append_right _ (List.mem_append_right _ (List.mem_append_right _ (List.mem_append_right _ (List.mem_append_right _ (List.mem_append_right _ (List.mem_append_left _ (h)))))))))))))
theorem m_12_0 : Cond.methodLink RX1 3 objectInit ∈ WALL := wi_12 _ (List.mem_of_getElem? (i := 0) rfl)
theorem m_12_1 : Cond.fieldLink RX1 9 "LampRhythms$Lamp" "begins" "I" ∈ WALL := wi_12 _ (List.mem_of_getElem? (i := 1) rfl)
theorem m_12_2 : Cond.fieldLink RX1 15 "LampRhythms$Lamp" "failed" "Z" ∈ WALL := wi_12 _ (List.mem_of_getElem? (i := 2) rfl)
theorem m_12_3 : Cond.fieldLink RX1 23 "LampRhythms$Lamp" "x" "I" ∈ WALL := wi_12 _ (List.mem_of_getElem? (i := 3) rfl)
theorem m_12_4 : Cond.fieldLink RX1 26 "LampRhythms$Lamp" "y" "I" ∈ WALL := wi_12 _ (List.mem_of_getElem? (i := 4) rfl)
theorem m_12_5 : Cond.fieldLink RX1 29 "LampRhythms$Lamp" "sight" "[I" ∈ WALL := wi_12 _ (List.mem_of_getElem? (i := 5) rfl)
theorem m_12_6 : Cond.fieldLink RX1 33 "LampRhythms$Lamp" "pattern" "I" ∈ WALL := wi_12 _ (List.mem_of_getElem? (i := 6) rfl)
theorem m_12_7 : Cond.methodLink RX1 19 yX1_isWithin ∈ WALL := wi_12 _ (List.mem_of_getElem? (i := 7) rfl)
theorem m_12_8 : Cond.static yX1_isWithin ∈ WALL := wi_12 _ (List.mem_of_getElem? (i := 8) rfl)
theorem m_12_9 : Cond.code yX1_isWithin cX1_isWithin 5 (some .boolean) ∈ WALL := wi_12 _ (List.mem_of_getElem? (i := 9) rfl)
theorem m_12_10 : Cond.methodLink RX1 36 Lib.Math.abs.name ∈ WALL := wi_12 _ (List.mem_of_getElem? (i := 10) rfl)
theorem m_12_11 : Cond.static Lib.Math.abs.name ∈ WALL := wi_12 _ (List.mem_of_getElem? (i := 11) rfl)
theorem m_12_12 : Cond.code Lib.Math.abs.name Lib.Math.abs.code 1 (some .int) ∈ WALL := wi_12 _ (List.mem_of_getElem? (i := 12) rfl)
theorem m_12_13 : Cond.methodLink RX1 42 yX1_sectorOf ∈ WALL := wi_12 _ (List.mem_of_getElem? (i := 13) rfl)
theorem m_12_14 : Cond.static yX1_sectorOf ∈ WALL := wi_12 _ (List.mem_of_getElem? (i := 14) rfl)
theorem m_12_15 : Cond.code yX1_sectorOf cX1_sectorOf 5 (some .int) ∈ WALL := wi_12 _ (List.mem_of_getElem? (i := 15) rfl)
theorem m_12_16 : Cond.methodLink RX1 46 yX1_quarterOf ∈ WALL := wi_12 _ (List.mem_of_getElem? (i := 16) rfl)
theorem m_12_17 : Cond.static yX1_quarterOf ∈ WALL := wi_12 _ (List.mem_of_getElem? (i := 17) rfl)
theorem m_12_18 : Cond.code yX1_quarterOf cX1_quarterOf 2 (some .int) ∈ WALL := wi_12 _ (List.mem_of_getElem? (i := 18) rfl)
theorem m_12_19 : Cond.methodLink RX4 96 yX4_tell ∈ WALL := wi_12 _ (List.mem_of_getElem? (i := 19) rfl)
theorem m_12_20 : Cond.instanceMethod yX4_tell ∈ WALL := wi_12 _ (List.mem_of_getElem? (i := 20) rfl)
theorem m_12_21 : Cond.selects RX4 yX4_tell yX4_tell ∈ WALL := wi_12 _ (List.mem_of_getElem? (i := 21) rfl)
theorem m_12_22 : Cond.code yX4_tell cX4_tell 3 (some .int) ∈ WALL := wi_12 _ (List.mem_of_getElem? (i := 22) rfl)
theorem m_12_23 : Cond.classLink RX4 201 RX2 ∈ WALL := wi_12 _ (List.mem_of_getElem? (i := 23) rfl)
theorem m_12_24 : Cond.instantiable RX2 2 ∈ WALL := wi_12 _ (List.mem_of_getElem? (i := 24) rfl)
theorem wi_13 : ∀ w ∈ wa_13, w ∈ WALL := fun _ h => List.mem_append_right _ (List.mem_append_right _ (List.mem_append_right _ (List.mem_append_right _ (List.mem_append_right _ (List.mem_append_right _ (List.mem_append_right _ (List.mem_append_right _ (List.mem_append_right _ (List.mem_append_right _ (List.mem_append_right _ (List.mem_append_right _ (List.mem_append_right _ (List.mem_append_left _ (h))))))))))))))
theorem m_13_0 : Cond.initialized RX2 ∈ WALL := wi_13 _ (List.mem_of_getElem? (i := 0) rfl)
theorem m_13_1 : Cond.fieldLink RX4 110 "LampRhythms$Lamp" "failed" "Z" ∈ WALL := wi_13 _ (List.mem_of_getElem? (i := 1) rfl)
theorem m_13_2 : Cond.fieldLink RX4 104 "LampRhythms$Lamp" "pattern" "I" ∈ WALL := wi_13 _ (List.mem_of_getElem? (i := 2) rfl)
theorem m_13_3 : Cond.methodLink RX4 100 yX4_lampAt ∈ WALL := wi_13 _ (List.mem_of_getElem? (i := 3) rfl)
theorem m_13_4 : Cond.instanceMethod yX4_lampAt ∈ WALL := wi_13 _ (List.mem_of_getElem? (i := 4) rfl)
theorem m_13_5 : Cond.selects RX4 yX4_lampAt yX4_lampAt ∈ WALL := wi_13 _ (List.mem_of_getElem? (i := 5) rfl)
theorem m_13_6 : Cond.code yX4_lampAt cX4_lampAt 2 (some (.object "LampRhythms$Lamp")) ∈ WALL := wi_13 _ (List.mem_of_getElem? (i := 6) rfl)
theorem m_13_7 : Cond.classLink RX4 91 "LampRhythms$Lamp" ∈ WALL := wi_13 _ (List.mem_of_getElem? (i := 7) rfl)
theorem m_13_8 : Cond.methodLink RX4 169 yX4_requireLamp ∈ WALL := wi_13 _ (List.mem_of_getElem? (i := 8) rfl)
theorem m_13_9 : Cond.instanceMethod yX4_requireLamp ∈ WALL := wi_13 _ (List.mem_of_getElem? (i := 9) rfl)
theorem m_13_10 : Cond.selects RX4 yX4_requireLamp yX4_requireLamp ∈ WALL := wi_13 _ (List.mem_of_getElem? (i := 10) rfl)
theorem m_13_11 : Cond.code yX4_requireLamp cX4_requireLamp 2 none ∈ WALL := wi_13 _ (List.mem_of_getElem? (i := 11) rfl)
theorem m_13_12 : Cond.methodLink RX4 203 yX2_init ∈ WALL := wi_13 _ (List.mem_of_getElem? (i := 12) rfl)
theorem m_13_13 : Cond.instanceMethod yX2_init ∈ WALL := wi_13 _ (List.mem_of_getElem? (i := 13) rfl)
theorem m_13_14 : Cond.code yX2_init cX2_init 3 none ∈ WALL := wi_13 _ (List.mem_of_getElem? (i := 14) rfl)
theorem m_13_15 : Cond.methodLink RX2 1 objectInit ∈ WALL := wi_13 _ (List.mem_of_getElem? (i := 15) rfl)
theorem m_13_16 : Cond.fieldLink RX2 7 "LampRhythms$Notice" "lamp" "I" ∈ WALL := wi_13 _ (List.mem_of_getElem? (i := 16) rfl)
theorem m_13_17 : Cond.fieldLink RX2 13 "LampRhythms$Notice" "pattern" "I" ∈ WALL := wi_13 _ (List.mem_of_getElem? (i := 17) rfl)
theorem m_13_18 : Cond.methodLink RL 105 yX5_lamp ∈ WALL := wi_13 _ (List.mem_of_getElem? (i := 18) rfl)
theorem m_13_19 : Cond.instanceMethod yX5_lamp ∈ WALL := wi_13 _ (List.mem_of_getElem? (i := 19) rfl)
theorem m_13_20 : Cond.selects RX5 yX5_lamp yX5_lamp ∈ WALL := wi_13 _ (List.mem_of_getElem? (i := 20) rfl)
theorem m_13_21 : Cond.code yX5_lamp cX5_lamp 7 (some .int) ∈ WALL := wi_13 _ (List.mem_of_getElem? (i := 21) rfl)
theorem m_13_22 : Cond.fieldLink RX5 64 "LampRhythmsModel" "lamps" "I" ∈ WALL := wi_13 _ (List.mem_of_getElem? (i := 22) rfl)
theorem m_13_23 : Cond.methodLink RX5 94 yX5_isPlace ∈ WALL := wi_13 _ (List.mem_of_getElem? (i := 23) rfl)
theorem m_13_24 : Cond.static yX5_isPlace ∈ WALL := wi_13 _ (List.mem_of_getElem? (i := 24) rfl)
theorem wi_14 : ∀ w ∈ wa_14, w ∈ WALL := fun _ h => List.mem_append_right _ (List.mem_append_right _ (List.mem_append_right _ (List.mem_append_right _ (List.mem_append_right _ (List.mem_append_right _ (List.mem_append_right _ (List.mem_append_right _ (List.mem_append_right _ (List.mem_append_right _ (List.mem_append_right _ (List.mem_append_right _ (List.mem_append_right _ (List.mem_append_right _ (List.mem_append_left _ (h)))))))))))))))
theorem m_14_0 : Cond.code yX5_isPlace cX5_isPlace 2 (some .boolean) ∈ WALL := wi_14 _ (List.mem_of_getElem? (i := 0) rfl)
theorem m_14_1 : Cond.methodLink RX5 97 yX5_tells ∈ WALL := wi_14 _ (List.mem_of_getElem? (i := 1) rfl)
theorem m_14_2 : Cond.instanceMethod yX5_tells ∈ WALL := wi_14 _ (List.mem_of_getElem? (i := 2) rfl)
theorem m_14_3 : Cond.selects RX5 yX5_tells yX5_tells ∈ WALL := wi_14 _ (List.mem_of_getElem? (i := 3) rfl)
theorem m_14_4 : Cond.code yX5_tells cX5_tells 2 (some .int) ∈ WALL := wi_14 _ (List.mem_of_getElem? (i := 4) rfl)
theorem m_14_5 : Cond.fieldLink RX5 91 "LampRhythmsModel" "notices" "I" ∈ WALL := wi_14 _ (List.mem_of_getElem? (i := 5) rfl)
theorem m_14_6 : Cond.methodLink RL 106 yL_change ∈ WALL := wi_14 _ (List.mem_of_getElem? (i := 6) rfl)
theorem m_14_7 : Cond.static yL_change ∈ WALL := wi_14 _ (List.mem_of_getElem? (i := 7) rfl)
theorem m_14_8 : Cond.codeWith yL_change cL_change 6 (some .int) [(0, 12, 15, 24), (0, 12, 19, 13)] ∈ WALL := wi_14 _ (List.mem_of_getElem? (i := 8) rfl)
theorem m_14_9 : Cond.methodLink RL 37 yX4_change ∈ WALL := wi_14 _ (List.mem_of_getElem? (i := 9) rfl)
theorem m_14_10 : Cond.instanceMethod yX4_change ∈ WALL := wi_14 _ (List.mem_of_getElem? (i := 10) rfl)
theorem m_14_11 : Cond.selects RX4 yX4_change yX4_change ∈ WALL := wi_14 _ (List.mem_of_getElem? (i := 11) rfl)
theorem m_14_12 : Cond.code yX4_change cX4_change 5 (some .int) ∈ WALL := wi_14 _ (List.mem_of_getElem? (i := 12) rfl)
theorem m_14_13 : Cond.fieldLink RX4 107 "LampRhythms$Lamp" "begins" "I" ∈ WALL := wi_14 _ (List.mem_of_getElem? (i := 13) rfl)
theorem m_14_14 : Cond.methodLink RL 109 yX5_change ∈ WALL := wi_14 _ (List.mem_of_getElem? (i := 14) rfl)
theorem m_14_15 : Cond.instanceMethod yX5_change ∈ WALL := wi_14 _ (List.mem_of_getElem? (i := 15) rfl)
theorem m_14_16 : Cond.selects RX5 yX5_change yX5_change ∈ WALL := wi_14 _ (List.mem_of_getElem? (i := 16) rfl)
theorem m_14_17 : Cond.code yX5_change cX5_change 4 (some .int) ∈ WALL := wi_14 _ (List.mem_of_getElem? (i := 17) rfl)
theorem m_14_18 : Cond.methodLink RX5 100 yX5_isLamp ∈ WALL := wi_14 _ (List.mem_of_getElem? (i := 18) rfl)
theorem m_14_19 : Cond.instanceMethod yX5_isLamp ∈ WALL := wi_14 _ (List.mem_of_getElem? (i := 19) rfl)
theorem m_14_20 : Cond.selects RX5 yX5_isLamp yX5_isLamp ∈ WALL := wi_14 _ (List.mem_of_getElem? (i := 20) rfl)
theorem m_14_21 : Cond.code yX5_isLamp cX5_isLamp 2 (some .boolean) ∈ WALL := wi_14 _ (List.mem_of_getElem? (i := 21) rfl)
theorem m_14_22 : Cond.methodLink RL 110 yL_fail ∈ WALL := wi_14 _ (List.mem_of_getElem? (i := 22) rfl)
theorem m_14_23 : Cond.static yL_fail ∈ WALL := wi_14 _ (List.mem_of_getElem? (i := 23) rfl)
theorem m_14_24 : Cond.codeWith yL_fail cL_fail 5 (some .int) [(0, 10, 13, 24), (0, 10, 17, 15)] ∈ WALL := wi_14 _ (List.mem_of_getElem? (i := 24) rfl)
theorem wi_15 : ∀ w ∈ wa_15, w ∈ WALL := fun _ h => List.mem_append_right _ (List.mem_append_right _ (List.mem_append_right _ (List.mem_append_right _ (List.mem_append_right _ (List.mem_append_right _ (List.mem_append_right _ (List.mem_append_right _ (List.mem_append_right _ (List.mem_append_right _ (List.mem_append_right _ (List.mem_append_right _ (List.mem_append_right _ (List.mem_append_right _ (List.mem_append_right _ (List.mem_append_left _ (h))))))))))))))))
theorem m_15_0 : Cond.methodLink RL 41 yX4_fail ∈ WALL := wi_15 _ (List.mem_of_getElem? (i := 0) rfl)
theorem m_15_1 : Cond.instanceMethod yX4_fail ∈ WALL := wi_15 _ (List.mem_of_getElem? (i := 1) rfl)
theorem m_15_2 : Cond.selects RX4 yX4_fail yX4_fail ∈ WALL := wi_15 _ (List.mem_of_getElem? (i := 2) rfl)
theorem m_15_3 : Cond.code yX4_fail cX4_fail 4 (some .int) ∈ WALL := wi_15 _ (List.mem_of_getElem? (i := 3) rfl)
theorem m_15_4 : Cond.methodLink RL 113 yX5_fail ∈ WALL := wi_15 _ (List.mem_of_getElem? (i := 4) rfl)
theorem m_15_5 : Cond.instanceMethod yX5_fail ∈ WALL := wi_15 _ (List.mem_of_getElem? (i := 5) rfl)
theorem m_15_6 : Cond.selects RX5 yX5_fail yX5_fail ∈ WALL := wi_15 _ (List.mem_of_getElem? (i := 6) rfl)
theorem m_15_7 : Cond.code yX5_fail cX5_fail 3 (some .int) ∈ WALL := wi_15 _ (List.mem_of_getElem? (i := 7) rfl)
theorem m_15_8 : Cond.methodLink RL 114 yL_shines ∈ WALL := wi_15 _ (List.mem_of_getElem? (i := 8) rfl)
theorem m_15_9 : Cond.static yL_shines ∈ WALL := wi_15 _ (List.mem_of_getElem? (i := 9) rfl)
theorem m_15_10 : Cond.codeWith yL_shines cL_shines 5 (some .int) [(0, 17, 20, 24), (0, 17, 24, 13)] ∈ WALL := wi_15 _ (List.mem_of_getElem? (i := 10) rfl)
theorem m_15_11 : Cond.methodLink RL 45 yX4_shines ∈ WALL := wi_15 _ (List.mem_of_getElem? (i := 11) rfl)
theorem m_15_12 : Cond.instanceMethod yX4_shines ∈ WALL := wi_15 _ (List.mem_of_getElem? (i := 12) rfl)
theorem m_15_13 : Cond.selects RX4 yX4_shines yX4_shines ∈ WALL := wi_15 _ (List.mem_of_getElem? (i := 13) rfl)
theorem m_15_14 : Cond.code yX4_shines cX4_shines 4 (some .boolean) ∈ WALL := wi_15 _ (List.mem_of_getElem? (i := 14) rfl)
theorem m_15_15 : Cond.constant RX4 116 (100000) ∈ WALL := wi_15 _ (List.mem_of_getElem? (i := 15) rfl)
theorem m_15_16 : Cond.methodLink RX4 117 yX4_isLit ∈ WALL := wi_15 _ (List.mem_of_getElem? (i := 16) rfl)
theorem m_15_17 : Cond.instanceMethod yX4_isLit ∈ WALL := wi_15 _ (List.mem_of_getElem? (i := 17) rfl)
theorem m_15_18 : Cond.selects RX4 yX4_isLit yX4_isLit ∈ WALL := wi_15 _ (List.mem_of_getElem? (i := 18) rfl)
theorem m_15_19 : Cond.code yX4_isLit cX4_isLit 3 (some .boolean) ∈ WALL := wi_15 _ (List.mem_of_getElem? (i := 19) rfl)
theorem m_15_20 : Cond.methodLink RX4 197 yX3_isLight ∈ WALL := wi_15 _ (List.mem_of_getElem? (i := 20) rfl)
theorem m_15_21 : Cond.methodLink RL 116 yX5_shines ∈ WALL := wi_15 _ (List.mem_of_getElem? (i := 21) rfl)
theorem m_15_22 : Cond.instanceMethod yX5_shines ∈ WALL := wi_15 _ (List.mem_of_getElem? (i := 22) rfl)
theorem m_15_23 : Cond.selects RX5 yX5_shines yX5_shines ∈ WALL := wi_15 _ (List.mem_of_getElem? (i := 23) rfl)
theorem m_15_24 : Cond.code yX5_shines cX5_shines 3 (some .boolean) ∈ WALL := wi_15 _ (List.mem_of_getElem? (i := 24) rfl)
theorem wi_16 : ∀ w ∈ wa_16, w ∈ WALL := fun _ h => List.mem_append_right _ (List.mem_append_right _ (List.mem_append_right _ (List.mem_append_right _ (List.mem_append_right _ (List.mem_append_right _ (List.mem_append_right _ (List.mem_append_right _ (List.mem_append_right _ (List.mem_append_right _ (List.mem_append_right _ (List.mem_append_right _ (List.mem_append_right _ (List.mem_append_right _ (List.mem_append_right _ (List.mem_append_right _ (List.mem_append_left _ (h)))))))))))))))))
theorem m_16_0 : Cond.constant RX5 103 (100000) ∈ WALL := wi_16 _ (List.mem_of_getElem? (i := 0) rfl)
theorem m_16_1 : Cond.methodLink RX5 104 yX5_isOn ∈ WALL := wi_16 _ (List.mem_of_getElem? (i := 1) rfl)
theorem m_16_2 : Cond.instanceMethod yX5_isOn ∈ WALL := wi_16 _ (List.mem_of_getElem? (i := 2) rfl)
theorem m_16_3 : Cond.selects RX5 yX5_isOn yX5_isOn ∈ WALL := wi_16 _ (List.mem_of_getElem? (i := 3) rfl)
theorem m_16_4 : Cond.code yX5_isOn cX5_isOn 3 (some .boolean) ∈ WALL := wi_16 _ (List.mem_of_getElem? (i := 4) rfl)
theorem m_16_5 : Cond.methodLink RL 117 yL_sector ∈ WALL := wi_16 _ (List.mem_of_getElem? (i := 5) rfl)
theorem m_16_6 : Cond.static yL_sector ∈ WALL := wi_16 _ (List.mem_of_getElem? (i := 6) rfl)
theorem m_16_7 : Cond.codeWith yL_sector cL_sector 6 (some .int) [(0, 12, 15, 24), (0, 12, 19, 13)] ∈ WALL := wi_16 _ (List.mem_of_getElem? (i := 7) rfl)
theorem m_16_8 : Cond.methodLink RL 48 yX4_sector ∈ WALL := wi_16 _ (List.mem_of_getElem? (i := 8) rfl)
theorem m_16_9 : Cond.instanceMethod yX4_sector ∈ WALL := wi_16 _ (List.mem_of_getElem? (i := 9) rfl)
theorem m_16_10 : Cond.selects RX4 yX4_sector yX4_sector ∈ WALL := wi_16 _ (List.mem_of_getElem? (i := 10) rfl)
theorem m_16_11 : Cond.code yX4_sector cX4_sector 5 (some .int) ∈ WALL := wi_16 _ (List.mem_of_getElem? (i := 11) rfl)
theorem m_16_12 : Cond.fieldLink RX4 121 "LampRhythms$Lamp" "x" "I" ∈ WALL := wi_16 _ (List.mem_of_getElem? (i := 12) rfl)
theorem m_16_13 : Cond.fieldLink RX4 124 "LampRhythms$Lamp" "y" "I" ∈ WALL := wi_16 _ (List.mem_of_getElem? (i := 13) rfl)
theorem m_16_14 : Cond.methodLink RX4 127 yX1_sectorOf ∈ WALL := wi_16 _ (List.mem_of_getElem? (i := 14) rfl)
theorem m_16_15 : Cond.methodLink RL 119 yX5_sector ∈ WALL := wi_16 _ (List.mem_of_getElem? (i := 15) rfl)
theorem m_16_16 : Cond.instanceMethod yX5_sector ∈ WALL := wi_16 _ (List.mem_of_getElem? (i := 16) rfl)
theorem m_16_17 : Cond.selects RX5 yX5_sector yX5_sector ∈ WALL := wi_16 _ (List.mem_of_getElem? (i := 17) rfl)
theorem m_16_18 : Cond.code yX5_sector cX5_sector 4 (some .int) ∈ WALL := wi_16 _ (List.mem_of_getElem? (i := 18) rfl)
theorem m_16_19 : Cond.methodLink RX5 111 yX5_asks ∈ WALL := wi_16 _ (List.mem_of_getElem? (i := 19) rfl)
theorem m_16_20 : Cond.instanceMethod yX5_asks ∈ WALL := wi_16 _ (List.mem_of_getElem? (i := 20) rfl)
theorem m_16_21 : Cond.selects RX5 yX5_asks yX5_asks ∈ WALL := wi_16 _ (List.mem_of_getElem? (i := 21) rfl)
theorem m_16_22 : Cond.code yX5_asks cX5_asks 4 (some .boolean) ∈ WALL := wi_16 _ (List.mem_of_getElem? (i := 22) rfl)
theorem m_16_23 : Cond.methodLink RX5 107 yX5_sectorOf ∈ WALL := wi_16 _ (List.mem_of_getElem? (i := 23) rfl)
theorem m_16_24 : Cond.instanceMethod yX5_sectorOf ∈ WALL := wi_16 _ (List.mem_of_getElem? (i := 24) rfl)
theorem wi_17 : ∀ w ∈ wa_17, w ∈ WALL := fun _ h => List.mem_append_right _ (List.mem_append_right _ (List.mem_append_right _ (List.mem_append_right _ (List.mem_append_right _ (List.mem_append_right _ (List.mem_append_right _ (List.mem_append_right _ (List.mem_append_right _ (List.mem_append_right _ (List.mem_append_right _ (List.mem_append_right _ (List.mem_append_right _ (List.mem_append_right _ (List.mem_append_right _ (List.mem_append_right _ (List.mem_append_right _ (List.mem_append_left _ (h))))))))))))))))))
theorem m_17_0 : Cond.selects RX5 yX5_sectorOf yX5_sectorOf ∈ WALL := wi_17 _ (List.mem_of_getElem? (i := 0) rfl)
theorem m_17_1 : Cond.code yX5_sectorOf cX5_sectorOf 10 (some .int) ∈ WALL := wi_17 _ (List.mem_of_getElem? (i := 1) rfl)
theorem m_17_2 : Cond.methodLink RL 120 yL_isSeen ∈ WALL := wi_17 _ (List.mem_of_getElem? (i := 2) rfl)
theorem m_17_3 : Cond.static yL_isSeen ∈ WALL := wi_17 _ (List.mem_of_getElem? (i := 3) rfl)
theorem m_17_4 : Cond.codeWith yL_isSeen cL_isSeen 6 (some .int) [(0, 19, 22, 24), (0, 19, 26, 13)] ∈ WALL := wi_17 _ (List.mem_of_getElem? (i := 4) rfl)
theorem m_17_5 : Cond.methodLink RL 51 yX4_isSeen ∈ WALL := wi_17 _ (List.mem_of_getElem? (i := 5) rfl)
theorem m_17_6 : Cond.instanceMethod yX4_isSeen ∈ WALL := wi_17 _ (List.mem_of_getElem? (i := 6) rfl)
theorem m_17_7 : Cond.selects RX4 yX4_isSeen yX4_isSeen ∈ WALL := wi_17 _ (List.mem_of_getElem? (i := 7) rfl)
theorem m_17_8 : Cond.code yX4_isSeen cX4_isSeen 5 (some .boolean) ∈ WALL := wi_17 _ (List.mem_of_getElem? (i := 8) rfl)
theorem m_17_9 : Cond.methodLink RX4 131 yX1_canBeSeenFrom ∈ WALL := wi_17 _ (List.mem_of_getElem? (i := 9) rfl)
theorem m_17_10 : Cond.instanceMethod yX1_canBeSeenFrom ∈ WALL := wi_17 _ (List.mem_of_getElem? (i := 10) rfl)
theorem m_17_11 : Cond.selects RX1 yX1_canBeSeenFrom yX1_canBeSeenFrom ∈ WALL := wi_17 _ (List.mem_of_getElem? (i := 11) rfl)
theorem m_17_12 : Cond.code yX1_canBeSeenFrom cX1_canBeSeenFrom 3 (some .boolean) ∈ WALL := wi_17 _ (List.mem_of_getElem? (i := 12) rfl)
theorem m_17_13 : Cond.methodLink RL 122 yX5_isSeen ∈ WALL := wi_17 _ (List.mem_of_getElem? (i := 13) rfl)
theorem m_17_14 : Cond.instanceMethod yX5_isSeen ∈ WALL := wi_17 _ (List.mem_of_getElem? (i := 14) rfl)
theorem m_17_15 : Cond.selects RX5 yX5_isSeen yX5_isSeen ∈ WALL := wi_17 _ (List.mem_of_getElem? (i := 15) rfl)
theorem m_17_16 : Cond.code yX5_isSeen cX5_isSeen 4 (some .boolean) ∈ WALL := wi_17 _ (List.mem_of_getElem? (i := 16) rfl)
theorem m_17_17 : Cond.methodLink RX5 114 yX5_sees ∈ WALL := wi_17 _ (List.mem_of_getElem? (i := 17) rfl)
theorem m_17_18 : Cond.instanceMethod yX5_sees ∈ WALL := wi_17 _ (List.mem_of_getElem? (i := 18) rfl)
theorem m_17_19 : Cond.selects RX5 yX5_sees yX5_sees ∈ WALL := wi_17 _ (List.mem_of_getElem? (i := 19) rfl)
theorem m_17_20 : Cond.code yX5_sees cX5_sees 8 (some .boolean) ∈ WALL := wi_17 _ (List.mem_of_getElem? (i := 20) rfl)
theorem m_17_21 : Cond.methodLink RL 123 yL_common ∈ WALL := wi_17 _ (List.mem_of_getElem? (i := 21) rfl)
theorem m_17_22 : Cond.static yL_common ∈ WALL := wi_17 _ (List.mem_of_getElem? (i := 22) rfl)
theorem m_17_23 : Cond.codeWith yL_common cL_common 5 (some .int) [(0, 10, 13, 24)] ∈ WALL := wi_17 _ (List.mem_of_getElem? (i := 23) rfl)
theorem m_17_24 : Cond.methodLink RL 55 yX4_common ∈ WALL := wi_17 _ (List.mem_of_getElem? (i := 24) rfl)
theorem wi_18 : ∀ w ∈ wa_18, w ∈ WALL := fun _ h => List.mem_append_right _ (List.mem_append_right _ (List.mem_append_right _ (List.mem_append_right _ (List.mem_append_right _ (List.mem_append_right _ (List.mem_append_right _ (List.mem_append_right _ (List.mem_append_right _ (List.mem_append_right _ (List.mem_append_right _ (List.mem_append_right _ (List.mem_append_right _ (List.mem_append_right _ (List.mem_append_right _ (List.mem_append_right _ (List.mem_append_right _ (List.mem_append_right _ (List.mem_append_left _ (h)))))))))))))))))))
theorem m_18_0 : Cond.instanceMethod yX4_common ∈ WALL := wi_18 _ (List.mem_of_getElem? (i := 0) rfl)
theorem m_18_1 : Cond.selects RX4 yX4_common yX4_common ∈ WALL := wi_18 _ (List.mem_of_getElem? (i := 1) rfl)
theorem m_18_2 : Cond.code yX4_common cX4_common 3 (some .int) ∈ WALL := wi_18 _ (List.mem_of_getElem? (i := 2) rfl)
theorem m_18_3 : Cond.methodLink RX4 135 yX1_placesSharedWith ∈ WALL := wi_18 _ (List.mem_of_getElem? (i := 3) rfl)
theorem m_18_4 : Cond.instanceMethod yX1_placesSharedWith ∈ WALL := wi_18 _ (List.mem_of_getElem? (i := 4) rfl)
theorem m_18_5 : Cond.selects RX1 yX1_placesSharedWith yX1_placesSharedWith ∈ WALL := wi_18 _ (List.mem_of_getElem? (i := 5) rfl)
theorem m_18_6 : Cond.code yX1_placesSharedWith cX1_placesSharedWith 4 (some .int) ∈ WALL := wi_18 _ (List.mem_of_getElem? (i := 6) rfl)
theorem m_18_7 : Cond.methodLink RX1 49 yJ6_bitCount_0f7a4 ∈ WALL := wi_18 _ (List.mem_of_getElem? (i := 7) rfl)
theorem m_18_8 : Cond.static yJ6_bitCount_0f7a4 ∈ WALL := wi_18 _ (List.mem_of_getElem? (i := 8) rfl)
theorem m_18_9 : Cond.initialized RJ6 ∈ WALL := wi_18 _ (List.mem_of_getElem? (i := 9) rfl)
theorem m_18_10 : Cond.code yJ6_bitCount_0f7a4 cJ6_bitCount_0f7a4 1 (some .int) ∈ WALL := wi_18 _ (List.mem_of_getElem? (i := 10) rfl)
theorem m_18_11 : Cond.constant RJ6 265 (1431655765) ∈ WALL := wi_18 _ (List.mem_of_getElem? (i := 11) rfl)
theorem m_18_12 : Cond.constant RJ6 266 (858993459) ∈ WALL := wi_18 _ (List.mem_of_getElem? (i := 12) rfl)
theorem m_18_13 : Cond.constant RJ6 267 (252645135) ∈ WALL := wi_18 _ (List.mem_of_getElem? (i := 13) rfl)
theorem m_18_14 : Cond.methodLink RL 125 yX5_common ∈ WALL := wi_18 _ (List.mem_of_getElem? (i := 14) rfl)
theorem m_18_15 : Cond.instanceMethod yX5_common ∈ WALL := wi_18 _ (List.mem_of_getElem? (i := 15) rfl)
theorem m_18_16 : Cond.selects RX5 yX5_common yX5_common ∈ WALL := wi_18 _ (List.mem_of_getElem? (i := 16) rfl)
theorem m_18_17 : Cond.code yX5_common cX5_common 3 (some .int) ∈ WALL := wi_18 _ (List.mem_of_getElem? (i := 17) rfl)
theorem m_18_18 : Cond.methodLink RX5 117 yX5_both ∈ WALL := wi_18 _ (List.mem_of_getElem? (i := 18) rfl)
theorem m_18_19 : Cond.instanceMethod yX5_both ∈ WALL := wi_18 _ (List.mem_of_getElem? (i := 19) rfl)
theorem m_18_20 : Cond.selects RX5 yX5_both yX5_both ∈ WALL := wi_18 _ (List.mem_of_getElem? (i := 20) rfl)
theorem m_18_21 : Cond.code yX5_both cX5_both 5 (some .int) ∈ WALL := wi_18 _ (List.mem_of_getElem? (i := 21) rfl)
theorem m_18_22 : Cond.methodLink RL 126 yX4_clashes ∈ WALL := wi_18 _ (List.mem_of_getElem? (i := 22) rfl)
theorem m_18_23 : Cond.instanceMethod yX4_clashes ∈ WALL := wi_18 _ (List.mem_of_getElem? (i := 23) rfl)
theorem m_18_24 : Cond.selects RX4 yX4_clashes yX4_clashes ∈ WALL := wi_18 _ (List.mem_of_getElem? (i := 24) rfl)
theorem wi_19 : ∀ w ∈ wa_19, w ∈ WALL := fun _ h => List.mem_append_right _ (List.mem_append_right _ (List.mem_append_right _ (List.mem_append_right _ (List.mem_append_right _ (List.mem_append_right _ (List.mem_append_right _ (List.mem_append_right _ (List.mem_append_right _ (List.mem_append_right _ (List.mem_append_right _ (List.mem_append_right _ (List.mem_append_right _ (List.mem_append_right _ (List.mem_append_right _ (List.mem_append_right _ (List.mem_append_right _ (List.mem_append_right _ (List.mem_append_right _ (List.mem_append_left _ (h))))))))))))))))))))
theorem m_19_0 : Cond.code yX4_clashes cX4_clashes 4 (some .int) ∈ WALL := wi_19 _ (List.mem_of_getElem? (i := 0) rfl)
theorem m_19_1 : Cond.methodLink RX4 143 yX4_clash ∈ WALL := wi_19 _ (List.mem_of_getElem? (i := 1) rfl)
theorem m_19_2 : Cond.instanceMethod yX4_clash ∈ WALL := wi_19 _ (List.mem_of_getElem? (i := 2) rfl)
theorem m_19_3 : Cond.selects RX4 yX4_clash yX4_clash ∈ WALL := wi_19 _ (List.mem_of_getElem? (i := 3) rfl)
theorem m_19_4 : Cond.code yX4_clash cX4_clash 3 (some .boolean) ∈ WALL := wi_19 _ (List.mem_of_getElem? (i := 4) rfl)
theorem m_19_5 : Cond.methodLink RL 129 yX5_clashes ∈ WALL := wi_19 _ (List.mem_of_getElem? (i := 5) rfl)
theorem m_19_6 : Cond.instanceMethod yX5_clashes ∈ WALL := wi_19 _ (List.mem_of_getElem? (i := 6) rfl)
theorem m_19_7 : Cond.selects RX5 yX5_clashes yX5_clashes ∈ WALL := wi_19 _ (List.mem_of_getElem? (i := 7) rfl)
theorem m_19_8 : Cond.code yX5_clashes cX5_clashes 4 (some .int) ∈ WALL := wi_19 _ (List.mem_of_getElem? (i := 8) rfl)
theorem m_19_9 : Cond.methodLink RL 130 yX4_notices ∈ WALL := wi_19 _ (List.mem_of_getElem? (i := 9) rfl)
theorem m_19_10 : Cond.instanceMethod yX4_notices ∈ WALL := wi_19 _ (List.mem_of_getElem? (i := 10) rfl)
theorem m_19_11 : Cond.selects RX4 yX4_notices yX4_notices ∈ WALL := wi_19 _ (List.mem_of_getElem? (i := 11) rfl)
theorem m_19_12 : Cond.code yX4_notices cX4_notices 1 (some .int) ∈ WALL := wi_19 _ (List.mem_of_getElem? (i := 12) rfl)
theorem m_19_13 : Cond.methodLink RL 133 yX5_notices ∈ WALL := wi_19 _ (List.mem_of_getElem? (i := 13) rfl)
theorem m_19_14 : Cond.instanceMethod yX5_notices ∈ WALL := wi_19 _ (List.mem_of_getElem? (i := 14) rfl)
theorem m_19_15 : Cond.selects RX5 yX5_notices yX5_notices ∈ WALL := wi_19 _ (List.mem_of_getElem? (i := 15) rfl)
theorem m_19_16 : Cond.code yX5_notices cX5_notices 1 (some .int) ∈ WALL := wi_19 _ (List.mem_of_getElem? (i := 16) rfl)
theorem m_19_17 : Cond.methodLink RL 134 yL_print ∈ WALL := wi_19 _ (List.mem_of_getElem? (i := 17) rfl)
theorem m_19_18 : Cond.static yL_print ∈ WALL := wi_19 _ (List.mem_of_getElem? (i := 18) rfl)
theorem m_19_19 : Cond.codeWith yL_print cL_print 3 (some .int) [(0, 8, 11, 15)] ∈ WALL := wi_19 _ (List.mem_of_getElem? (i := 19) rfl)
theorem m_19_20 : Cond.methodLink RL 59 yX4_print ∈ WALL := wi_19 _ (List.mem_of_getElem? (i := 20) rfl)
theorem m_19_21 : Cond.instanceMethod yX4_print ∈ WALL := wi_19 _ (List.mem_of_getElem? (i := 21) rfl)
theorem m_19_22 : Cond.selects RX4 yX4_print yX4_print ∈ WALL := wi_19 _ (List.mem_of_getElem? (i := 22) rfl)
theorem m_19_23 : Cond.code yX4_print cX4_print 2 (some .int) ∈ WALL := wi_19 _ (List.mem_of_getElem? (i := 23) rfl)
theorem m_19_24 : Cond.classLink RX4 149 RX0 ∈ WALL := wi_19 _ (List.mem_of_getElem? (i := 24) rfl)
theorem wi_20 : ∀ w ∈ wa_20, w ∈ WALL := fun _ h => List.mem_append_right _ (List.mem_append_right _ (List.mem_append_right _ (List.mem_append_right _ (List.mem_append_right _ (List.mem_append_right _ (List.mem_append_right _ (List.mem_append_right _ (List.mem_append_right _ (List.mem_append_right _ (List.mem_append_right _ (List.mem_append_right _ (List.mem_append_right _ (List.mem_append_right _ (List.mem_append_right _ (List.mem_append_right _ (List.mem_append_right _ (List.mem_append_right _ (List.mem_append_right _ (List.mem_append_right _ (List.mem_append_left _ (h)))))))))))))))))))))
theorem m_20_0 : Cond.instantiable RX0 2 ∈ WALL := wi_20 _ (List.mem_of_getElem? (i := 0) rfl)
theorem m_20_1 : Cond.initialized RX0 ∈ WALL := wi_20 _ (List.mem_of_getElem? (i := 1) rfl)
theorem m_20_2 : Cond.methodLink RX4 151 yX0_init ∈ WALL := wi_20 _ (List.mem_of_getElem? (i := 2) rfl)
theorem m_20_3 : Cond.instanceMethod yX0_init ∈ WALL := wi_20 _ (List.mem_of_getElem? (i := 3) rfl)
theorem m_20_4 : Cond.code yX0_init cX0_init 1 none ∈ WALL := wi_20 _ (List.mem_of_getElem? (i := 4) rfl)
theorem m_20_5 : Cond.methodLink RX0 3 objectInit ∈ WALL := wi_20 _ (List.mem_of_getElem? (i := 5) rfl)
theorem m_20_6 : Cond.fieldLink RX0 9 "LampRhythms$Chart" "patterns" "[I" ∈ WALL := wi_20 _ (List.mem_of_getElem? (i := 6) rfl)
theorem m_20_7 : Cond.fieldLink RX0 15 "LampRhythms$Chart" "notices" "I" ∈ WALL := wi_20 _ (List.mem_of_getElem? (i := 7) rfl)
theorem m_20_8 : Cond.methodLink RX0 19 yJ7_fill_53178 ∈ WALL := wi_20 _ (List.mem_of_getElem? (i := 8) rfl)
theorem m_20_9 : Cond.static yJ7_fill_53178 ∈ WALL := wi_20 _ (List.mem_of_getElem? (i := 9) rfl)
theorem m_20_10 : Cond.code yJ7_fill_53178 cJ7_fill_53178 4 none ∈ WALL := wi_20 _ (List.mem_of_getElem? (i := 10) rfl)
theorem m_20_11 : Cond.methodLink RX4 152 yX4_putIn ∈ WALL := wi_20 _ (List.mem_of_getElem? (i := 11) rfl)
theorem m_20_12 : Cond.instanceMethod yX4_putIn ∈ WALL := wi_20 _ (List.mem_of_getElem? (i := 12) rfl)
theorem m_20_13 : Cond.selects RX4 yX4_putIn yX4_putIn ∈ WALL := wi_20 _ (List.mem_of_getElem? (i := 13) rfl)
theorem m_20_14 : Cond.code yX4_putIn cX4_putIn 5 none ∈ WALL := wi_20 _ (List.mem_of_getElem? (i := 14) rfl)
theorem m_20_15 : Cond.fieldLink RX4 205 "LampRhythms$Chart" "notices" "I" ∈ WALL := wi_20 _ (List.mem_of_getElem? (i := 15) rfl)
theorem m_20_16 : Cond.methodLink RX4 164 Lib.Math.min.name ∈ WALL := wi_20 _ (List.mem_of_getElem? (i := 16) rfl)
theorem m_20_17 : Cond.classLink RX4 201 "LampRhythms$Notice" ∈ WALL := wi_20 _ (List.mem_of_getElem? (i := 17) rfl)
theorem m_20_18 : Cond.methodLink RX4 208 yX0_putIn ∈ WALL := wi_20 _ (List.mem_of_getElem? (i := 18) rfl)
theorem m_20_19 : Cond.instanceMethod yX0_putIn ∈ WALL := wi_20 _ (List.mem_of_getElem? (i := 19) rfl)
theorem m_20_20 : Cond.selects RX0 yX0_putIn yX0_putIn ∈ WALL := wi_20 _ (List.mem_of_getElem? (i := 20) rfl)
theorem m_20_21 : Cond.code yX0_putIn cX0_putIn 2 none ∈ WALL := wi_20 _ (List.mem_of_getElem? (i := 21) rfl)
theorem m_20_22 : Cond.fieldLink RX0 25 "LampRhythms$Notice" "lamp" "I" ∈ WALL := wi_20 _ (List.mem_of_getElem? (i := 22) rfl)
theorem m_20_23 : Cond.fieldLink RX0 30 "LampRhythms$Notice" "pattern" "I" ∈ WALL := wi_20 _ (List.mem_of_getElem? (i := 23) rfl)
theorem m_20_24 : Cond.methodLink RL 136 yX5_print ∈ WALL := wi_20 _ (List.mem_of_getElem? (i := 24) rfl)
theorem wi_21 : ∀ w ∈ wa_21, w ∈ WALL := fun _ h => List.mem_append_right _ (List.mem_append_right _ (List.mem_append_right _ (List.mem_append_right _ (List.mem_append_right _ (List.mem_append_right _ (List.mem_append_right _ (List.mem_append_right _ (List.mem_append_right _ (List.mem_append_right _ (List.mem_append_right _ (List.mem_append_right _ (List.mem_append_right _ (List.mem_append_right _ (List.mem_append_right _ (List.mem_append_right _ (List.mem_append_right _ (List.mem_append_right _ (List.mem_append_right _ (List.mem_append_right _ (List.mem_append_right _ (List.mem_append_left _ (h))))))))))))))))))))))
theorem m_21_0 : Cond.instanceMethod yX5_print ∈ WALL := wi_21 _ (List.mem_of_getElem? (i := 0) rfl)
theorem m_21_1 : Cond.selects RX5 yX5_print yX5_print ∈ WALL := wi_21 _ (List.mem_of_getElem? (i := 1) rfl)
theorem m_21_2 : Cond.code yX5_print cX5_print 2 (some .int) ∈ WALL := wi_21 _ (List.mem_of_getElem? (i := 2) rfl)
theorem m_21_3 : Cond.fieldLink RX5 67 "LampRhythmsModel" "charts" "I" ∈ WALL := wi_21 _ (List.mem_of_getElem? (i := 3) rfl)
theorem m_21_4 : Cond.methodLink RX5 121 yX5_puts ∈ WALL := wi_21 _ (List.mem_of_getElem? (i := 4) rfl)
theorem m_21_5 : Cond.instanceMethod yX5_puts ∈ WALL := wi_21 _ (List.mem_of_getElem? (i := 5) rfl)
theorem m_21_6 : Cond.selects RX5 yX5_puts yX5_puts ∈ WALL := wi_21 _ (List.mem_of_getElem? (i := 6) rfl)
theorem m_21_7 : Cond.code yX5_puts cX5_puts 5 (some .int) ∈ WALL := wi_21 _ (List.mem_of_getElem? (i := 7) rfl)
theorem m_21_8 : Cond.methodLink RL 137 yL_correct ∈ WALL := wi_21 _ (List.mem_of_getElem? (i := 8) rfl)
theorem m_21_9 : Cond.static yL_correct ∈ WALL := wi_21 _ (List.mem_of_getElem? (i := 9) rfl)
theorem m_21_10 : Cond.codeWith yL_correct cL_correct 5 (some .int) [(0, 10, 13, 24), (0, 10, 17, 13)] ∈ WALL := wi_21 _ (List.mem_of_getElem? (i := 10) rfl)
theorem m_21_11 : Cond.methodLink RL 62 yX4_correct ∈ WALL := wi_21 _ (List.mem_of_getElem? (i := 11) rfl)
theorem m_21_12 : Cond.instanceMethod yX4_correct ∈ WALL := wi_21 _ (List.mem_of_getElem? (i := 12) rfl)
theorem m_21_13 : Cond.selects RX4 yX4_correct yX4_correct ∈ WALL := wi_21 _ (List.mem_of_getElem? (i := 13) rfl)
theorem m_21_14 : Cond.code yX4_correct cX4_correct 5 (some .int) ∈ WALL := wi_21 _ (List.mem_of_getElem? (i := 14) rfl)
theorem m_21_15 : Cond.methodLink RX4 156 yX4_chartAt ∈ WALL := wi_21 _ (List.mem_of_getElem? (i := 15) rfl)
theorem m_21_16 : Cond.instanceMethod yX4_chartAt ∈ WALL := wi_21 _ (List.mem_of_getElem? (i := 16) rfl)
theorem m_21_17 : Cond.selects RX4 yX4_chartAt yX4_chartAt ∈ WALL := wi_21 _ (List.mem_of_getElem? (i := 17) rfl)
theorem m_21_18 : Cond.code yX4_chartAt cX4_chartAt 2 (some (.object "LampRhythms$Chart")) ∈ WALL := wi_21 _ (List.mem_of_getElem? (i := 18) rfl)
theorem m_21_19 : Cond.classLink RX4 149 "LampRhythms$Chart" ∈ WALL := wi_21 _ (List.mem_of_getElem? (i := 19) rfl)
theorem m_21_20 : Cond.methodLink RX4 160 yX4_lackOf ∈ WALL := wi_21 _ (List.mem_of_getElem? (i := 20) rfl)
theorem m_21_21 : Cond.instanceMethod yX4_lackOf ∈ WALL := wi_21 _ (List.mem_of_getElem? (i := 21) rfl)
theorem m_21_22 : Cond.selects RX4 yX4_lackOf yX4_lackOf ∈ WALL := wi_21 _ (List.mem_of_getElem? (i := 22) rfl)
theorem m_21_23 : Cond.code yX4_lackOf cX4_lackOf 2 (some .int) ∈ WALL := wi_21 _ (List.mem_of_getElem? (i := 23) rfl)
theorem m_21_24 : Cond.methodLink RL 139 yX5_correct ∈ WALL := wi_21 _ (List.mem_of_getElem? (i := 24) rfl)
theorem wi_22 : ∀ w ∈ wa_22, w ∈ WALL := fun _ h => List.mem_append_right _ (List.mem_append_right _ (List.mem_append_right _ (List.mem_append_right _ (List.mem_append_right _ (List.mem_append_right _ (List.mem_append_right _ (List.mem_append_right _ (List.mem_append_right _ (List.mem_append_right _ (List.mem_append_right _ (List.mem_append_right _ (List.mem_append_right _ (List.mem_append_right _ (List.mem_append_right _ (List.mem_append_right _ (List.mem_append_right _ (List.mem_append_right _ (List.mem_append_right _ (List.mem_append_right _ (List.mem_append_right _ (List.mem_append_right _ (List.mem_append_left _ (h)))))))))))))))))))))))
theorem m_22_0 : Cond.instanceMethod yX5_correct ∈ WALL := wi_22 _ (List.mem_of_getElem? (i := 0) rfl)
theorem m_22_1 : Cond.selects RX5 yX5_correct yX5_correct ∈ WALL := wi_22 _ (List.mem_of_getElem? (i := 1) rfl)
theorem m_22_2 : Cond.code yX5_correct cX5_correct 3 (some .int) ∈ WALL := wi_22 _ (List.mem_of_getElem? (i := 2) rfl)
theorem m_22_3 : Cond.methodLink RX5 124 yX5_isChart ∈ WALL := wi_22 _ (List.mem_of_getElem? (i := 3) rfl)
theorem m_22_4 : Cond.instanceMethod yX5_isChart ∈ WALL := wi_22 _ (List.mem_of_getElem? (i := 4) rfl)
theorem m_22_5 : Cond.selects RX5 yX5_isChart yX5_isChart ∈ WALL := wi_22 _ (List.mem_of_getElem? (i := 5) rfl)
theorem m_22_6 : Cond.code yX5_isChart cX5_isChart 2 (some .boolean) ∈ WALL := wi_22 _ (List.mem_of_getElem? (i := 6) rfl)
theorem m_22_7 : Cond.methodLink RL 140 yL_behind ∈ WALL := wi_22 _ (List.mem_of_getElem? (i := 7) rfl)
theorem m_22_8 : Cond.static yL_behind ∈ WALL := wi_22 _ (List.mem_of_getElem? (i := 8) rfl)
theorem m_22_9 : Cond.codeWith yL_behind cL_behind 4 (some .int) [(0, 9, 12, 24)] ∈ WALL := wi_22 _ (List.mem_of_getElem? (i := 9) rfl)
theorem m_22_10 : Cond.methodLink RL 65 yX4_behind ∈ WALL := wi_22 _ (List.mem_of_getElem? (i := 10) rfl)
theorem m_22_11 : Cond.instanceMethod yX4_behind ∈ WALL := wi_22 _ (List.mem_of_getElem? (i := 11) rfl)
theorem m_22_12 : Cond.selects RX4 yX4_behind yX4_behind ∈ WALL := wi_22 _ (List.mem_of_getElem? (i := 12) rfl)
theorem m_22_13 : Cond.code yX4_behind cX4_behind 2 (some .int) ∈ WALL := wi_22 _ (List.mem_of_getElem? (i := 13) rfl)
theorem m_22_14 : Cond.methodLink RL 142 yX5_behind ∈ WALL := wi_22 _ (List.mem_of_getElem? (i := 14) rfl)
theorem m_22_15 : Cond.instanceMethod yX5_behind ∈ WALL := wi_22 _ (List.mem_of_getElem? (i := 15) rfl)
theorem m_22_16 : Cond.selects RX5 yX5_behind yX5_behind ∈ WALL := wi_22 _ (List.mem_of_getElem? (i := 16) rfl)
theorem m_22_17 : Cond.code yX5_behind cX5_behind 2 (some .int) ∈ WALL := wi_22 _ (List.mem_of_getElem? (i := 17) rfl)
theorem m_22_18 : Cond.methodLink RL 143 yL_shown ∈ WALL := wi_22 _ (List.mem_of_getElem? (i := 18) rfl)
theorem m_22_19 : Cond.static yL_shown ∈ WALL := wi_22 _ (List.mem_of_getElem? (i := 19) rfl)
theorem m_22_20 : Cond.codeWith yL_shown cL_shown 5 (some .int) [(0, 10, 13, 24)] ∈ WALL := wi_22 _ (List.mem_of_getElem? (i := 20) rfl)
theorem m_22_21 : Cond.methodLink RL 68 yX4_shown ∈ WALL := wi_22 _ (List.mem_of_getElem? (i := 21) rfl)
theorem m_22_22 : Cond.instanceMethod yX4_shown ∈ WALL := wi_22 _ (List.mem_of_getElem? (i := 22) rfl)
theorem m_22_23 : Cond.selects RX4 yX4_shown yX4_shown ∈ WALL := wi_22 _ (List.mem_of_getElem? (i := 23) rfl)
theorem m_22_24 : Cond.code yX4_shown cX4_shown 4 (some .int) ∈ WALL := wi_22 _ (List.mem_of_getElem? (i := 24) rfl)
theorem wi_23 : ∀ w ∈ wa_23, w ∈ WALL := fun _ h => List.mem_append_right _ (List.mem_append_right _ (List.mem_append_right _ (List.mem_append_right _ (List.mem_append_right _ (List.mem_append_right _ (List.mem_append_right _ (List.mem_append_right _ (List.mem_append_right _ (List.mem_append_right _ (List.mem_append_right _ (List.mem_append_right _ (List.mem_append_right _ (List.mem_append_right _ (List.mem_append_right _ (List.mem_append_right _ (List.mem_append_right _ (List.mem_append_right _ (List.mem_append_right _ (List.mem_append_right _ (List.mem_append_right _ (List.mem_append_right _ (List.mem_append_right _ (List.mem_append_left _ (h))))))))))))))))))))))))
theorem m_23_0 : Cond.methodLink RX4 172 yX0_patternOf ∈ WALL := wi_23 _ (List.mem_of_getElem? (i := 0) rfl)
theorem m_23_1 : Cond.instanceMethod yX0_patternOf ∈ WALL := wi_23 _ (List.mem_of_getElem? (i := 1) rfl)
theorem m_23_2 : Cond.selects RX0 yX0_patternOf yX0_patternOf ∈ WALL := wi_23 _ (List.mem_of_getElem? (i := 2) rfl)
theorem m_23_3 : Cond.code yX0_patternOf cX0_patternOf 2 (some .int) ∈ WALL := wi_23 _ (List.mem_of_getElem? (i := 3) rfl)
theorem m_23_4 : Cond.methodLink RL 145 yX5_shown ∈ WALL := wi_23 _ (List.mem_of_getElem? (i := 4) rfl)
theorem m_23_5 : Cond.instanceMethod yX5_shown ∈ WALL := wi_23 _ (List.mem_of_getElem? (i := 5) rfl)
theorem m_23_6 : Cond.selects RX5 yX5_shown yX5_shown ∈ WALL := wi_23 _ (List.mem_of_getElem? (i := 6) rfl)
theorem m_23_7 : Cond.code yX5_shown cX5_shown 3 (some .int) ∈ WALL := wi_23 _ (List.mem_of_getElem? (i := 7) rfl)
theorem m_23_8 : Cond.methodLink RL 146 yL_taken ∈ WALL := wi_23 _ (List.mem_of_getElem? (i := 8) rfl)
theorem m_23_9 : Cond.static yL_taken ∈ WALL := wi_23 _ (List.mem_of_getElem? (i := 9) rfl)
theorem m_23_10 : Cond.codeWith yL_taken cL_taken 9 (some .int) [(0, 18, 21, 24), (0, 18, 25, 13)] ∈ WALL := wi_23 _ (List.mem_of_getElem? (i := 10) rfl)
theorem m_23_11 : Cond.methodLink RL 71 yX4_taken ∈ WALL := wi_23 _ (List.mem_of_getElem? (i := 11) rfl)
theorem m_23_12 : Cond.instanceMethod yX4_taken ∈ WALL := wi_23 _ (List.mem_of_getElem? (i := 12) rfl)
theorem m_23_13 : Cond.selects RX4 yX4_taken yX4_taken ∈ WALL := wi_23 _ (List.mem_of_getElem? (i := 13) rfl)
theorem m_23_14 : Cond.code yX4_taken cX4_taken 14 (some .int) ∈ WALL := wi_23 _ (List.mem_of_getElem? (i := 14) rfl)
theorem m_23_15 : Cond.methodLink RX4 175 yX4_lookAt ∈ WALL := wi_23 _ (List.mem_of_getElem? (i := 15) rfl)
theorem m_23_16 : Cond.instanceMethod yX4_lookAt ∈ WALL := wi_23 _ (List.mem_of_getElem? (i := 16) rfl)
theorem m_23_17 : Cond.selects RX4 yX4_lookAt yX4_lookAt ∈ WALL := wi_23 _ (List.mem_of_getElem? (i := 17) rfl)
theorem m_23_18 : Cond.code yX4_lookAt cX4_lookAt 7 (some .long) ∈ WALL := wi_23 _ (List.mem_of_getElem? (i := 18) rfl)
theorem m_23_19 : Cond.methodLink RX4 179 yX3_canLookLike ∈ WALL := wi_23 _ (List.mem_of_getElem? (i := 19) rfl)
theorem m_23_20 : Cond.instanceMethod yX3_canLookLike ∈ WALL := wi_23 _ (List.mem_of_getElem? (i := 20) rfl)
theorem m_23_21 : Cond.selects RX3 yX3_canLookLike yX3_canLookLike ∈ WALL := wi_23 _ (List.mem_of_getElem? (i := 21) rfl)
theorem m_23_22 : Cond.code yX3_canLookLike cX3_canLookLike 5 (some .boolean) ∈ WALL := wi_23 _ (List.mem_of_getElem? (i := 22) rfl)
theorem m_23_23 : Cond.methodLink RX3 46 yX3_looksLike ∈ WALL := wi_23 _ (List.mem_of_getElem? (i := 23) rfl)
theorem m_23_24 : Cond.instanceMethod yX3_looksLike ∈ WALL := wi_23 _ (List.mem_of_getElem? (i := 24) rfl)
theorem wi_24 : ∀ w ∈ wa_24, w ∈ WALL := fun _ h => List.mem_append_right _ (List.mem_append_right _ (List.mem_append_right _ (List.mem_append_right _ (List.mem_append_right _ (List.mem_append_right _ (List.mem_append_right _ (List.mem_append_right _ (List.mem_append_right _ (List.mem_append_right _ (List.mem_append_right _ (List.mem_append_right _ (List.mem_append_right _ (List.mem_append_right _ (List.mem_append_right _ (List.mem_append_right _ (List.mem_append_right _ (List.mem_append_right _ (List.mem_append_right _ (List.mem_append_right _ (List.mem_append_right _ (List.mem_append_right _ (List.mem_append_right _ (List.mem_append_right _ (List.mem_append_left _ (h)))))))))))))))))))))))))
theorem m_24_0 : Cond.selects RX3 yX3_looksLike yX3_looksLike ∈ WALL := wi_24 _ (List.mem_of_getElem? (i := 0) rfl)
theorem m_24_1 : Cond.code yX3_looksLike cX3_looksLike 7 (some .boolean) ∈ WALL := wi_24 _ (List.mem_of_getElem? (i := 1) rfl)
theorem m_24_2 : Cond.methodLink RL 149 yX5_taken ∈ WALL := wi_24 _ (List.mem_of_getElem? (i := 2) rfl)
theorem m_24_3 : Cond.instanceMethod yX5_taken ∈ WALL := wi_24 _ (List.mem_of_getElem? (i := 3) rfl)
theorem m_24_4 : Cond.selects RX5 yX5_taken yX5_taken ∈ WALL := wi_24 _ (List.mem_of_getElem? (i := 4) rfl)
theorem m_24_5 : Cond.code yX5_taken cX5_taken 12 (some .int) ∈ WALL := wi_24 _ (List.mem_of_getElem? (i := 5) rfl)
theorem m_24_6 : Cond.methodLink RX5 127 yX5_could ∈ WALL := wi_24 _ (List.mem_of_getElem? (i := 6) rfl)
theorem m_24_7 : Cond.instanceMethod yX5_could ∈ WALL := wi_24 _ (List.mem_of_getElem? (i := 7) rfl)
theorem m_24_8 : Cond.selects RX5 yX5_could yX5_could ∈ WALL := wi_24 _ (List.mem_of_getElem? (i := 8) rfl)
theorem m_24_9 : Cond.code yX5_could cX5_could 9 (some .boolean) ∈ WALL := wi_24 _ (List.mem_of_getElem? (i := 9) rfl)
theorem wt_0 : ∀ w ∈ wsX40, w ∈ WALL := fun _ h => List.mem_append_right _ (List.mem_append_right _ (List.mem_append_right _ (List.mem_append_right _ (List.mem_append_right _ (List.mem_append_right _ (List.mem_append_right _ (List.mem_append_right _ (List.mem_append_right _ (List.mem_append_right _ (List.mem_append_right _ (List.mem_append_right _ (List.mem_append_right _ (List.mem_append_right _ (List.mem_append_right _ (List.mem_append_right _ (List.mem_append_right _ (List.mem_append_right _ (List.mem_append_right _ (List.mem_append_right _ (List.mem_append_right _ (List.mem_append_right _ (List.mem_append_right _ (List.mem_append_right _ (List.mem_append_right _ (List.mem_append_left _ (h))))))))))))))))))))))))))
theorem wt_1 : ∀ w ∈ wsX50, w ∈ WALL := fun _ h => List.mem_append_right _ (List.mem_append_right _ (List.mem_append_right _ (List.mem_append_right _ (List.mem_append_right _ (List.mem_append_right _ (List.mem_append_right _ (List.mem_append_right _ (List.mem_append_right _ (List.mem_append_right _ (List.mem_append_right _ (List.mem_append_right _ (List.mem_append_right _ (List.mem_append_right _ (List.mem_append_right _ (List.mem_append_right _ (List.mem_append_right _ (List.mem_append_right _ (List.mem_append_right _ (List.mem_append_right _ (List.mem_append_right _ (List.mem_append_right _ (List.mem_append_right _ (List.mem_append_right _ (List.mem_append_right _ (List.mem_append_right _ (List.mem_append_left _ (h)))))))))))))))))))))))))))
theorem wt_2 : ∀ w ∈ wsJx4a65c0, w ∈ WALL := fun _ h => List.mem_append_right _ (List.mem_append_right _ (List.mem_append_right _ (List.mem_append_right _ (List.mem_append_right _ (List.mem_append_right _ (List.mem_append_right _ (List.mem_append_right _ (List.mem_append_right _ (List.mem_append_right _ (List.mem_append_right _ (List.mem_append_right _ (List.mem_append_right _ (List.mem_append_right _ (List.mem_append_right _ (List.mem_append_right _ (List.mem_append_right _ (List.mem_append_right _ (List.mem_append_right _ (List.mem_append_right _ (List.mem_append_right _ (List.mem_append_right _ (List.mem_append_right _ (List.mem_append_right _ (List.mem_append_right _ (List.mem_append_right _ (List.mem_append_right _ (List.mem_append_left _ (h))))))))))))))))))))))))))))
theorem wt_3 : ∀ w ∈ wsX30, w ∈ WALL := fun _ h => List.mem_append_right _ (List.mem_append_right _ (List.mem_append_right _ (List.mem_append_right _ (List.mem_append_right _ (List.mem_append_right _ (List.mem_append_right _ (List.mem_append_right _ (List.mem_append_right _ (List.mem_append_right _ (List.mem_append_right _ (List.mem_append_right _ (List.mem_append_right _ (List.mem_append_right _ (List.mem_append_right _ (List.mem_append_right _ (List.mem_append_right _ (List.mem_append_right _ (List.mem_append_right _ (List.mem_append_right _ (List.mem_append_right _ (List.mem_append_right _ (List.mem_append_right _ (List.mem_append_right _ (List.mem_append_right _ (List.mem_append_right _ (List.mem_append_right _ (List.mem_append_right _ (List.mem_append_left _ (h)))))))))))))))))))))))))))))
theorem wt_4 : ∀ w ∈ wsX10, w ∈ WALL := fun _ h => List.mem_append_right _ (List.mem_append_right _ (List.mem_append_right _ (List.mem_append_right _ (List.mem_append_right _ (List.mem_append_right _ (List.mem_append_right _ (List.mem_append_right _ (List.mem_append_right _ (List.mem_append_right _ (List.mem_append_right _ (List.mem_append_right _ (List.mem_append_right _ (List.mem_append_right _ (List.mem_append_right _ (List.mem_append_right _ (List.mem_append_right _ (List.mem_append_right _ (List.mem_append_right _ (List.mem_append_right _ (List.mem_append_right _ (List.mem_append_right _ (List.mem_append_right _ (List.mem_append_right _ (List.mem_append_right _ (List.mem_append_right _ (List.mem_append_right _ (List.mem_append_right _ (List.mem_append_right _ (List.mem_append_left _ (h))))))))))))))))))))))))))))))
theorem wt_5 : ∀ w ∈ wsX20, w ∈ WALL := fun _ h => List.mem_append_right _ (List.mem_append_right _ (List.mem_append_right _ (List.mem_append_right _ (List.mem_append_right _ (List.mem_append_right _ (List.mem_append_right _ (List.mem_append_right _ (List.mem_append_right _ (List.mem_append_right _ (List.mem_append_right _ (List.mem_append_right _ (List.mem_append_right _ (List.mem_append_right _ (List.mem_append_right _ (List.mem_append_right _ (List.mem_append_right _ (List.mem_append_right _ (List.mem_append_right _ (List.mem_append_right _ (List.mem_append_right _ (List.mem_append_right _ (List.mem_append_right _ (List.mem_append_right _ (List.mem_append_right _ (List.mem_append_right _ (List.mem_append_right _ (List.mem_append_right _ (List.mem_append_right _ (List.mem_append_right _ (List.mem_append_left _ (h)))))))))))))))))))))))))))))))
theorem wt_6 : ∀ w ∈ wsX00, w ∈ WALL := fun _ h => List.mem_append_right _ (List.mem_append_right _ (List.mem_append_right _ (List.mem_append_right _ (List.mem_append_right _ (List.mem_append_right _ (List.mem_append_right _ (List.mem_append_right _ (List.mem_append_right _ (List.mem_append_right _ (List.mem_append_right _ (List.mem_append_right _ (List.mem_append_right _ (List.mem_append_right _ (List.mem_append_right _ (List.mem_append_right _ (List.mem_append_right _ (List.mem_append_right _ (List.mem_append_right _ (List.mem_append_right _ (List.mem_append_right _ (List.mem_append_right _ (List.mem_append_right _ (List.mem_append_right _ (List.mem_append_right _ (List.mem_append_right _ (List.mem_append_right _ (List.mem_append_right _ (List.mem_append_right _ (List.mem_append_right _ (List.mem_append_right _ (List.mem_append_left _ (h))))))))))))))))))))))))))))))))
theorem wt_7 : ∀ w ∈ ((vx_atS RX4 41 "java/lang/IllegalStateException" ["java/lang/RuntimeException", "java/lang/Exception"]).filter goodWord), w ∈ WALL := fun _ h => List.mem_append_right _ (List.mem_append_right _ (List.mem_append_right _ (List.mem_append_right _ (List.mem_append_right _ (List.mem_append_right _ (List.mem_append_right _ (List.mem_append_right _ (List.mem_append_right _ (List.mem_append_right _ (List.mem_append_right _ (List.mem_append_right _ (List.mem_append_right _ (List.mem_append_right _ (List.mem_append_right _ (List.mem_append_right _ (List.mem_append_right _ (List.mem_append_right _ (List.mem_append_right _ (List.mem_append_right _ (List.mem_append_right _ (List.mem_append_right _ (List.mem_append_right _ (List.mem_append_right _ (List.mem_append_right _ (List.mem_append_right _ (List.mem_append_right _ (List.mem_append_right _ (List.mem_append_right _ (List.mem_append_right _ (List.mem_append_right _ (List.mem_append_right _ (List.mem_append_left _ (h)))))))))))))))))))))))))))))))))
theorem wt_8 : ∀ w ∈ ((vx_atS RX4 187 "java/lang/IllegalArgumentException" ["java/lang/RuntimeException", "java/lang/Exception"]).filter goodWord), w ∈ WALL := fun _ h => List.mem_append_right _ (List.mem_append_right _ (List.mem_append_right _ (List.mem_append_right _ (List.mem_append_right _ (List.mem_append_right _ (List.mem_append_right _ (List.mem_append_right _ (List.mem_append_right _ (List.mem_append_right _ (List.mem_append_right _ (List.mem_append_right _ (List.mem_append_right _ (List.mem_append_right _ (List.mem_append_right _ (List.mem_append_right _ (List.mem_append_right _ (List.mem_append_right _ (List.mem_append_right _ (List.mem_append_right _ (List.mem_append_right _ (List.mem_append_right _ (List.mem_append_right _ (List.mem_append_right _ (List.mem_append_right _ (List.mem_append_right _ (List.mem_append_right _ (List.mem_append_right _ (List.mem_append_right _ (List.mem_append_right _ (List.mem_append_right _ (List.mem_append_right _ (List.mem_append_right _ (List.mem_append_left _ (h))))))))))))))))))))))))))))))))))
theorem wt_9 : ∀ w ∈ ((vx_atS RX4 192 "java/lang/IndexOutOfBoundsException" ["java/lang/RuntimeException", "java/lang/Exception"]).filter goodWord), w ∈ WALL := fun _ h => List.mem_append_right _ (List.mem_append_right _ (List.mem_append_right _ (List.mem_append_right _ (List.mem_append_right _ (List.mem_append_right _ (List.mem_append_right _ (List.mem_append_right _ (List.mem_append_right _ (List.mem_append_right _ (List.mem_append_right _ (List.mem_append_right _ (List.mem_append_right _ (List.mem_append_right _ (List.mem_append_right _ (List.mem_append_right _ (List.mem_append_right _ (List.mem_append_right _ (List.mem_append_right _ (List.mem_append_right _ (List.mem_append_right _ (List.mem_append_right _ (List.mem_append_right _ (List.mem_append_right _ (List.mem_append_right _ (List.mem_append_right _ (List.mem_append_right _ (List.mem_append_right _ (List.mem_append_right _ (List.mem_append_right _ (List.mem_append_right _ (List.mem_append_right _ (List.mem_append_right _ (List.mem_append_right _ (h))))))))))))))))))))))))))))))))))
theorem wg_0 : wa_0.all goodWord = true := by decide +kernel
theorem wg_1 : wa_1.all goodWord = true := by decide +kernel
theorem wg_2 : wa_2.all goodWord = true := by decide +kernel
theorem wg_3 : wa_3.all goodWord = true := by decide +kernel
theorem wg_4 : wa_4.all goodWord = true := by decide +kernel
theorem wg_5 : wa_5.all goodWord = true := by decide +kernel
theorem wg_6 : wa_6.all goodWord = true := by decide +kernel
theorem wg_7 : wa_7.all goodWord = true := by decide +kernel
theorem wg_8 : wa_8.all goodWord = true := by decide +kernel
theorem wg_9 : wa_9.all goodWord = true := by decide +kernel
theorem wg_10 : wa_10.all goodWord = true := by decide +kernel
theorem wg_11 : wa_11.all goodWord = true := by decide +kernel
theorem wg_12 : wa_12.all goodWord = true := by decide +kernel
theorem wg_13 : wa_13.all goodWord = true := by decide +kernel
theorem wg_14 : wa_14.all goodWord = true := by decide +kernel
theorem wg_15 : wa_15.all goodWord = true := by decide +kernel
theorem wg_16 : wa_16.all goodWord = true := by decide +kernel
theorem wg_17 : wa_17.all goodWord = true := by decide +kernel
theorem wg_18 : wa_18.all goodWord = true := by decide +kernel
theorem wg_19 : wa_19.all goodWord = true := by decide +kernel
theorem wg_20 : wa_20.all goodWord = true := by decide +kernel
theorem wg_21 : wa_21.all goodWord = true := by decide +kernel
theorem wg_22 : wa_22.all goodWord = true := by decide +kernel
theorem wg_23 : wa_23.all goodWord = true := by decide +kernel
theorem wg_24 : wa_24.all goodWord = true := by decide +kernel
theorem wh_0 : (wsX40).all goodWord = true := by decide +kernel
theorem wh_1 : (wsX50).all goodWord = true := by decide +kernel
theorem wh_2 : (wsJx4a65c0).all goodWord = true := by decide +kernel
theorem wh_3 : (wsX30).all goodWord = true := by decide +kernel
theorem wh_4 : (wsX10).all goodWord = true := by decide +kernel
theorem wh_5 : (wsX20).all goodWord = true := by decide +kernel
theorem wh_6 : (wsX00).all goodWord = true := by decide +kernel
theorem wh_7 : (((vx_atS RX4 41 "java/lang/IllegalStateException" ["java/lang/RuntimeException", "java/lang/Exception"]).filter goodWord)).all goodWord = true := List.all_eq_true.mpr (fun w h => (List.mem_filter.mp h).2)
theorem wh_8 : (((vx_atS RX4 187 "java/lang/IllegalArgumentException" ["java/lang/RuntimeException", "java/lang/Exception"]).filter goodWord)).all goodWord = true := List.all_eq_true.mpr (fun w h => (List.mem_filter.mp h).2)
theorem wh_9 : (((vx_atS RX4 192 "java/lang/IndexOutOfBoundsException" ["java/lang/RuntimeException", "java/lang/Exception"]).filter goodWord)).all goodWord = true := List.all_eq_true.mpr (fun w h => (List.mem_filter.mp h).2)
theorem WALL_good : ∀ w ∈ WALL, goodWord w = true := List.forall_mem_append.mpr ⟨(List.all_eq_true.mp wg_0), List.forall_mem_append.mpr ⟨(List.all_eq_true.mp wg_1), List.forall_mem_append.mpr ⟨(List.all_eq_true.mp wg_2), List.forall_mem_append.mpr ⟨(List.all_eq_true.mp wg_3), List.forall_mem_append.mpr ⟨(List.all_eq_true.mp wg_4), List.forall_mem_append.mpr ⟨(List.all_eq_true.mp wg_5), List.forall_mem_append.mpr ⟨(List.all_eq_true.mp wg_6), List.forall_mem_append.mpr ⟨(List.all_eq_true.mp wg_7), List.forall_mem_append.mpr ⟨(List.all_eq_true.mp wg_8), List.forall_mem_append.mpr ⟨(List.all_eq_true.mp wg_9), List.forall_mem_append.mpr ⟨(List.all_eq_true.mp wg_10), List.forall_mem_append.mpr ⟨(List.all_eq_true.mp wg_11), List.forall_mem_append.mpr ⟨(List.all_eq_true.mp wg_12), List.forall_mem_append.mpr ⟨(List.all_eq_true.mp wg_13), List.forall_mem_append.mpr ⟨(List.all_eq_true.mp wg_14), List.forall_mem_append.mpr ⟨(List.all_eq_true.mp wg_15), List.forall_mem_append.mpr ⟨(List.all_eq_true.mp wg_16), List.forall_mem_append.mpr ⟨(List.all_eq_true.mp wg_17), List.forall_mem_append.mpr ⟨(List.all_eq_true.mp wg_18), List.forall_mem_append.mpr ⟨(List.all_eq_true.mp wg_19), List.forall_mem_append.mpr ⟨(List.all_eq_true.mp wg_20), List.forall_mem_append.mpr ⟨(List.all_eq_true.mp wg_21), List.forall_mem_append.mpr ⟨(List.all_eq_true.mp wg_22), List.forall_mem_append.mpr ⟨(List.all_eq_true.mp wg_23), List.forall_mem_append.mpr ⟨(List.all_eq_true.mp wg_24), List.forall_mem_append.mpr ⟨(List.all_eq_true.mp wh_0), List.forall_mem_append.mpr ⟨(List.all_eq_true.mp wh_1), List.forall_mem_append.mpr ⟨(List.all_eq_true.mp wh_2), List.forall_mem_append.mpr ⟨(List.all_eq_true.mp wh_3), List.forall_mem_append.mpr ⟨(List.all_eq_true.mp wh_4), List.forall_mem_append.mpr ⟨(List.all_eq_true.mp wh_5), List.forall_mem_append.mpr ⟨(List.all_eq_true.mp wh_6), List.forall_mem_append.mpr ⟨(List.all_eq_true.mp wh_7), List.forall_mem_append.mpr ⟨(List.all_eq_true.mp wh_8), (List.all_eq_true.mp wh_9)⟩⟩⟩⟩⟩⟩⟩⟩⟩⟩⟩⟩⟩⟩⟩⟩⟩⟩⟩⟩⟩⟩⟩⟩⟩⟩⟩⟩⟩⟩⟩⟩⟩⟩
