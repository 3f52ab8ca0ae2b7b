def RX0 : String := "LampRhythms$Chart"
def TX0 : u_T := fun k => match k with
  | 0 => ("LampRhythms$Chart", "patterns", "[I", true)
  | _ => ("LampRhythms$Chart", "notices", "I", false)
def tyX0 : Nat → FieldType := fun k => match k with
  | 0 => .array .int
  | _ => .int
abbrev wsX00 : List Cond := u_ws RX0 TX0 2
theorem nmX0 : ∀ a, a < 2 → ∀ b, b < 2 → a ≠ b → (TX0 a).2.1 ≠ (TX0 b).2.1 := by decide +kernel
theorem tyX0_ok : ∀ k, k < 2 → parseFieldDescriptor (TX0 k).2.2.1 = some (tyX0 k) := by decide +kernel
abbrev cX0_init : ByteArray := prog_2_method_1_code
def yX0_init : MethodName := ⟨RX0, "<init>", "()V"⟩
abbrev cX0_putIn : ByteArray := prog_2_method_2_code
def yX0_putIn : MethodName := ⟨RX0, "putIn", "(LLampRhythms$Notice;)V"⟩
abbrev cX0_patternOf : ByteArray := prog_2_method_3_code
def yX0_patternOf : MethodName := ⟨RX0, "patternOf", "(I)I"⟩
def RX1 : String := "LampRhythms$Lamp"
def TX1 : u_T := fun k => match k with
  | 0 => ("LampRhythms$Lamp", "x", "I", true)
  | 1 => ("LampRhythms$Lamp", "y", "I", true)
  | 2 => ("LampRhythms$Lamp", "sight", "[I", true)
  | 3 => ("LampRhythms$Lamp", "pattern", "I", false)
  | 4 => ("LampRhythms$Lamp", "begins", "I", false)
  | _ => ("LampRhythms$Lamp", "failed", "Z", false)
def tyX1 : Nat → FieldType := fun k => match k with
  | 0 => .int
  | 1 => .int
  | 2 => .array .int
  | 3 => .int
  | 4 => .int
  | _ => .boolean
abbrev wsX10 : List Cond := u_ws RX1 TX1 6
theorem nmX1 : ∀ a, a < 6 → ∀ b, b < 6 → a ≠ b → (TX1 a).2.1 ≠ (TX1 b).2.1 := by decide +kernel
theorem tyX1_ok : ∀ k, k < 6 → parseFieldDescriptor (TX1 k).2.2.1 = some (tyX1 k) := by decide +kernel
abbrev cX1_init : ByteArray := prog_3_method_1_code
def yX1_init : MethodName := ⟨RX1, "<init>", "(IIIII)V"⟩
abbrev cX1_isWithin : ByteArray := prog_3_method_2_code
def yX1_isWithin : MethodName := ⟨RX1, "isWithin", "(IIII)Z"⟩
abbrev cX1_sectorOf : ByteArray := prog_3_method_3_code
def yX1_sectorOf : MethodName := ⟨RX1, "sectorOf", "(II)I"⟩
abbrev cX1_quarterOf : ByteArray := prog_3_method_4_code
def yX1_quarterOf : MethodName := ⟨RX1, "quarterOf", "(II)I"⟩
abbrev cX1_canBeSeenFrom : ByteArray := prog_3_method_5_code
def yX1_canBeSeenFrom : MethodName := ⟨RX1, "canBeSeenFrom", "(II)Z"⟩
abbrev cX1_placesSharedWith : ByteArray := prog_3_method_6_code
def yX1_placesSharedWith : MethodName := ⟨RX1, "placesSharedWith", "(LLampRhythms$Lamp;)I"⟩
def RX2 : String := "LampRhythms$Notice"
def TX2 : u_T := fun k => match k with
  | 0 => ("LampRhythms$Notice", "lamp", "I", true)
  | _ => ("LampRhythms$Notice", "pattern", "I", true)
def tyX2 : Nat → FieldType := fun k => match k with
  | 0 => .int
  | _ => .int
abbrev wsX20 : List Cond := u_ws RX2 TX2 2
theorem nmX2 : ∀ a, a < 2 → ∀ b, b < 2 → a ≠ b → (TX2 a).2.1 ≠ (TX2 b).2.1 := by decide +kernel
theorem tyX2_ok : ∀ k, k < 2 → parseFieldDescriptor (TX2 k).2.2.1 = some (tyX2 k) := by decide +kernel
abbrev cX2_init : ByteArray := prog_4_method_1_code
def yX2_init : MethodName := ⟨RX2, "<init>", "(II)V"⟩
def RX3 : String := "LampRhythms$Pattern"
def TX3 : u_T := fun k => match k with
  | 0 => ("LampRhythms$Pattern", "period", "I", true)
  | 1 => ("LampRhythms$Pattern", "light", "J", true)
  | _ => ("LampRhythms$Pattern", "cycle", "[I", true)
def tyX3 : Nat → FieldType := fun k => match k with
  | 0 => .int
  | 1 => .long
  | _ => .array .int
abbrev wsX30 : List Cond := u_ws RX3 TX3 3
theorem nmX3 : ∀ a, a < 3 → ∀ b, b < 3 → a ≠ b → (TX3 a).2.1 ≠ (TX3 b).2.1 := by decide +kernel
theorem tyX3_ok : ∀ k, k < 3 → parseFieldDescriptor (TX3 k).2.2.1 = some (tyX3 k) := by decide +kernel
abbrev cX3_init : ByteArray := prog_5_method_1_code
def yX3_init : MethodName := ⟨RX3, "<init>", "([I)V"⟩
abbrev cX3_fewestOf : ByteArray := prog_5_method_2_code
def yX3_fewestOf : MethodName := ⟨RX3, "fewestOf", "([I)I"⟩
abbrev cX3_repeatsAfter : ByteArray := prog_5_method_3_code
def yX3_repeatsAfter : MethodName := ⟨RX3, "repeatsAfter", "([II)Z"⟩
abbrev cX3_isLight : ByteArray := prog_5_method_4_code
def yX3_isLight : MethodName := ⟨RX3, "isLight", "(I)Z"⟩
abbrev cX3_hasPhasesOf : ByteArray := prog_5_method_5_code
def yX3_hasPhasesOf : MethodName := ⟨RX3, "hasPhasesOf", "(LLampRhythms$Pattern;)Z"⟩
abbrev cX3_hasPhasesTurned : ByteArray := prog_5_method_6_code
def yX3_hasPhasesTurned : MethodName := ⟨RX3, "hasPhasesTurned", "([II)Z"⟩
abbrev cX3_hasSecondsOf : ByteArray := prog_5_method_7_code
def yX3_hasSecondsOf : MethodName := ⟨RX3, "hasSecondsOf", "(LLampRhythms$Pattern;)Z"⟩
abbrev cX3_hasSecondsLater : ByteArray := prog_5_method_8_code
def yX3_hasSecondsLater : MethodName := ⟨RX3, "hasSecondsLater", "(LLampRhythms$Pattern;I)Z"⟩
abbrev cX3_canLookLike : ByteArray := prog_5_method_9_code
def yX3_canLookLike : MethodName := ⟨RX3, "canLookLike", "(JI)Z"⟩
abbrev cX3_looksLike : ByteArray := prog_5_method_10_code
def yX3_looksLike : MethodName := ⟨RX3, "looksLike", "(JII)Z"⟩
def RX4 : String := "LampRhythms"
def TX4 : u_T := fun k => match k with
  | 0 => ("LampRhythms", "draft", "[I", true)
  | 1 => ("LampRhythms", "drafted", "I", false)
  | 2 => ("LampRhythms", "patterns", "Ljava/util/ArrayList;", true)
  | 3 => ("LampRhythms", "lamps", "Ljava/util/ArrayList;", true)
  | 4 => ("LampRhythms", "told", "Ljava/util/ArrayList;", true)
  | _ => ("LampRhythms", "charts", "Ljava/util/ArrayList;", true)
def tyX4 : Nat → FieldType := fun k => match k with
  | 0 => .array .int
  | 1 => .int
  | 2 => .object "java/util/ArrayList"
  | 3 => .object "java/util/ArrayList"
  | 4 => .object "java/util/ArrayList"
  | _ => .object "java/util/ArrayList"
abbrev wsX40 : List Cond := u_ws RX4 TX4 6
theorem nmX4 : ∀ a, a < 6 → ∀ b, b < 6 → a ≠ b → (TX4 a).2.1 ≠ (TX4 b).2.1 := by decide +kernel
theorem tyX4_ok : ∀ k, k < 6 → parseFieldDescriptor (TX4 k).2.2.1 = some (tyX4 k) := by decide +kernel
abbrev cX4_init : ByteArray := prog_1_method_1_code
def yX4_init : MethodName := ⟨RX4, "<init>", "()V"⟩
abbrev cX4_phase : ByteArray := prog_1_method_2_code
def yX4_phase : MethodName := ⟨RX4, "phase", "(I)I"⟩
abbrev cX4_pattern : ByteArray := prog_1_method_3_code
def yX4_pattern : MethodName := ⟨RX4, "pattern", "()I"⟩
abbrev cX4_period : ByteArray := prog_1_method_4_code
def yX4_period : MethodName := ⟨RX4, "period", "(I)I"⟩
abbrev cX4_areAlike : ByteArray := prog_1_method_5_code
def yX4_areAlike : MethodName := ⟨RX4, "areAlike", "(II)Z"⟩
abbrev cX4_areAlikeBySeconds : ByteArray := prog_1_method_6_code
def yX4_areAlikeBySeconds : MethodName := ⟨RX4, "areAlikeBySeconds", "(II)Z"⟩
abbrev cX4_lamp : ByteArray := prog_1_method_7_code
def yX4_lamp : MethodName := ⟨RX4, "lamp", "(IIIII)I"⟩
abbrev cX4_change : ByteArray := prog_1_method_8_code
def yX4_change : MethodName := ⟨RX4, "change", "(III)I"⟩
abbrev cX4_fail : ByteArray := prog_1_method_9_code
def yX4_fail : MethodName := ⟨RX4, "fail", "(IZ)I"⟩
abbrev cX4_shines : ByteArray := prog_1_method_10_code
def yX4_shines : MethodName := ⟨RX4, "shines", "(II)Z"⟩
abbrev cX4_sector : ByteArray := prog_1_method_11_code
def yX4_sector : MethodName := ⟨RX4, "sector", "(III)I"⟩
abbrev cX4_isSeen : ByteArray := prog_1_method_12_code
def yX4_isSeen : MethodName := ⟨RX4, "isSeen", "(III)Z"⟩
abbrev cX4_common : ByteArray := prog_1_method_13_code
def yX4_common : MethodName := ⟨RX4, "common", "(II)I"⟩
abbrev cX4_clashes : ByteArray := prog_1_method_14_code
def yX4_clashes : MethodName := ⟨RX4, "clashes", "()I"⟩
abbrev cX4_notices : ByteArray := prog_1_method_15_code
def yX4_notices : MethodName := ⟨RX4, "notices", "()I"⟩
abbrev cX4_print : ByteArray := prog_1_method_16_code
def yX4_print : MethodName := ⟨RX4, "print", "()I"⟩
abbrev cX4_correct : ByteArray := prog_1_method_17_code
def yX4_correct : MethodName := ⟨RX4, "correct", "(II)I"⟩
abbrev cX4_behind : ByteArray := prog_1_method_18_code
def yX4_behind : MethodName := ⟨RX4, "behind", "(I)I"⟩
abbrev cX4_shown : ByteArray := prog_1_method_19_code
def yX4_shown : MethodName := ⟨RX4, "shown", "(II)I"⟩
abbrev cX4_taken : ByteArray := prog_1_method_20_code
def yX4_taken : MethodName := ⟨RX4, "taken", "(IIIIII)I"⟩
abbrev cX4_requireWithin : ByteArray := prog_1_method_21_code
def yX4_requireWithin : MethodName := ⟨RX4, "requireWithin", "(III)V"⟩
abbrev cX4_requirePlace : ByteArray := prog_1_method_22_code
def yX4_requirePlace : MethodName := ⟨RX4, "requirePlace", "(II)V"⟩
abbrev cX4_requirePattern : ByteArray := prog_1_method_23_code
def yX4_requirePattern : MethodName := ⟨RX4, "requirePattern", "(I)V"⟩
abbrev cX4_requireLamp : ByteArray := prog_1_method_24_code
def yX4_requireLamp : MethodName := ⟨RX4, "requireLamp", "(I)V"⟩
abbrev cX4_patternAt : ByteArray := prog_1_method_25_code
def yX4_patternAt : MethodName := ⟨RX4, "patternAt", "(I)LLampRhythms$Pattern;"⟩
abbrev cX4_lampAt : ByteArray := prog_1_method_26_code
def yX4_lampAt : MethodName := ⟨RX4, "lampAt", "(I)LLampRhythms$Lamp;"⟩
abbrev cX4_chartAt : ByteArray := prog_1_method_27_code
def yX4_chartAt : MethodName := ⟨RX4, "chartAt", "(I)LLampRhythms$Chart;"⟩
abbrev cX4_isLit : ByteArray := prog_1_method_28_code
def yX4_isLit : MethodName := ⟨RX4, "isLit", "(LLampRhythms$Lamp;I)Z"⟩
abbrev cX4_clash : ByteArray := prog_1_method_29_code
def yX4_clash : MethodName := ⟨RX4, "clash", "(LLampRhythms$Lamp;LLampRhythms$Lamp;)Z"⟩
abbrev cX4_tell : ByteArray := prog_1_method_30_code
def yX4_tell : MethodName := ⟨RX4, "tell", "(I)I"⟩
abbrev cX4_lackOf : ByteArray := prog_1_method_31_code
def yX4_lackOf : MethodName := ⟨RX4, "lackOf", "(LLampRhythms$Chart;)I"⟩
abbrev cX4_putIn : ByteArray := prog_1_method_32_code
def yX4_putIn : MethodName := ⟨RX4, "putIn", "(LLampRhythms$Chart;I)V"⟩
abbrev cX4_lookAt : ByteArray := prog_1_method_33_code
def yX4_lookAt : MethodName := ⟨RX4, "lookAt", "(LLampRhythms$Lamp;II)J"⟩
def RX5 : String := "LampRhythmsModel"
def TX5 : u_T := fun k => match k with
  | _ => ("", "", "", false)
def tyX5 : Nat → FieldType := fun k => match k with
  | _ => .int
abbrev wsX50 : List Cond := u_ws RX5 TX5 0
theorem nmX5 : ∀ a, a < 0 → ∀ b, b < 0 → a ≠ b → (TX5 a).2.1 ≠ (TX5 b).2.1 := by decide +kernel
theorem tyX5_ok : ∀ k, k < 0 → parseFieldDescriptor (TX5 k).2.2.1 = some (tyX5 k) := by decide +kernel
def RJx145de : String := "java/io/Serializable"
def TJx145de : u_T := fun k => match k with
  | _ => ("", "", "", false)
def tyJx145de : Nat → FieldType := fun k => match k with
  | _ => .int
abbrev wsJx145de0 : List Cond := u_ws RJx145de TJx145de 0
theorem nmJx145de : ∀ a, a < 0 → ∀ b, b < 0 → a ≠ b → (TJx145de a).2.1 ≠ (TJx145de b).2.1 := by decide +kernel
theorem tyJx145de_ok : ∀ k, k < 0 → parseFieldDescriptor (TJx145de k).2.2.1 = some (tyJx145de k) := by decide +kernel
def RJx8e188 : String := "java/lang/Cloneable"
def TJx8e188 : u_T := fun k => match k with
  | _ => ("", "", "", false)
def tyJx8e188 : Nat → FieldType := fun k => match k with
  | _ => .int
abbrev wsJx8e1880 : List Cond := u_ws RJx8e188 TJx8e188 0
theorem nmJx8e188 : ∀ a, a < 0 → ∀ b, b < 0 → a ≠ b → (TJx8e188 a).2.1 ≠ (TJx8e188 b).2.1 := by decide +kernel
theorem tyJx8e188_ok : ∀ k, k < 0 → parseFieldDescriptor (TJx8e188 k).2.2.1 = some (tyJx8e188 k) := by decide +kernel
def RJ6 : String := "java/lang/Integer"
def TJ6 : u_T := fun k => match k with
  | _ => ("", "", "", false)
def tyJ6 : Nat → FieldType := fun k => match k with
  | _ => .int
abbrev wsJ60 : List Cond := u_ws RJ6 TJ6 0
theorem nmJ6 : ∀ a, a < 0 → ∀ b, b < 0 → a ≠ b → (TJ6 a).2.1 ≠ (TJ6 b).2.1 := by decide +kernel
theorem tyJ6_ok : ∀ k, k < 0 → parseFieldDescriptor (TJ6 k).2.2.1 = some (tyJ6 k) := by decide +kernel
abbrev cJ6_bitCount_0f7a4 : ByteArray := prog_14_method_49_code
def yJ6_bitCount_0f7a4 : MethodName := ⟨RJ6, "bitCount", "(I)I"⟩
def RJxab1ab : String := "java/lang/Iterable"
def TJxab1ab : u_T := fun k => match k with
  | _ => ("", "", "", false)
def tyJxab1ab : Nat → FieldType := fun k => match k with
  | _ => .int
abbrev wsJxab1ab0 : List Cond := u_ws RJxab1ab TJxab1ab 0
theorem nmJxab1ab : ∀ a, a < 0 → ∀ b, b < 0 → a ≠ b → (TJxab1ab a).2.1 ≠ (TJxab1ab b).2.1 := by decide +kernel
theorem tyJxab1ab_ok : ∀ k, k < 0 → parseFieldDescriptor (TJxab1ab k).2.2.1 = some (tyJxab1ab k) := by decide +kernel
def RJ9 : String := "java/lang/Math"
def TJ9 : u_T := fun k => match k with
  | _ => ("", "", "", false)
def tyJ9 : Nat → FieldType := fun k => match k with
  | _ => .int
abbrev wsJ90 : List Cond := u_ws RJ9 TJ9 0
theorem nmJ9 : ∀ a, a < 0 → ∀ b, b < 0 → a ≠ b → (TJ9 a).2.1 ≠ (TJ9 b).2.1 := by decide +kernel
theorem tyJ9_ok : ∀ k, k < 0 → parseFieldDescriptor (TJ9 k).2.2.1 = some (tyJ9 k) := by decide +kernel
abbrev cJ9_abs_0f7a4 : ByteArray := prog_16_method_59_code
def yJ9_abs_0f7a4 : MethodName := ⟨RJ9, "abs", "(I)I"⟩
abbrev cJ9_max_7cf53 : ByteArray := prog_16_method_65_code
def yJ9_max_7cf53 : MethodName := ⟨RJ9, "max", "(II)I"⟩
abbrev cJ9_min_7cf53 : ByteArray := prog_16_method_69_code
def yJ9_min_7cf53 : MethodName := ⟨RJ9, "min", "(II)I"⟩
def RJ0 : String := "java/lang/String"
def TJ0 : u_T := fun k => match k with
  | _ => ("", "", "", false)
def tyJ0 : Nat → FieldType := fun k => match k with
  | _ => .int
abbrev wsJ00 : List Cond := u_ws RJ0 TJ0 0
theorem nmJ0 : ∀ a, a < 0 → ∀ b, b < 0 → a ≠ b → (TJ0 a).2.1 ≠ (TJ0 b).2.1 := by decide +kernel
theorem tyJ0_ok : ∀ k, k < 0 → parseFieldDescriptor (TJ0 k).2.2.1 = some (tyJ0 k) := by decide +kernel
def RJ10 : String := "java/lang/System"
def TJ10 : u_T := fun k => match k with
  | _ => ("", "", "", false)
def tyJ10 : Nat → FieldType := fun k => match k with
  | _ => .int
abbrev wsJ100 : List Cond := u_ws RJ10 TJ10 0
theorem nmJ10 : ∀ a, a < 0 → ∀ b, b < 0 → a ≠ b → (TJ10 a).2.1 ≠ (TJ10 b).2.1 := by decide +kernel
theorem tyJ10_ok : ∀ k, k < 0 → parseFieldDescriptor (TJ10 k).2.2.1 = some (tyJ10 k) := by decide +kernel
def RJxa1e45 : String := "java/util/AbstractCollection"
def TJxa1e45 : u_T := fun k => match k with
  | _ => ("", "", "", false)
def tyJxa1e45 : Nat → FieldType := fun k => match k with
  | _ => .int
abbrev wsJxa1e450 : List Cond := u_ws RJxa1e45 TJxa1e45 0
theorem nmJxa1e45 : ∀ a, a < 0 → ∀ b, b < 0 → a ≠ b → (TJxa1e45 a).2.1 ≠ (TJxa1e45 b).2.1 := by decide +kernel
theorem tyJxa1e45_ok : ∀ k, k < 0 → parseFieldDescriptor (TJxa1e45 k).2.2.1 = some (tyJxa1e45 k) := by decide +kernel
abbrev cJxa1e45_init_da8c8 : ByteArray := prog_21_method_1_code
def yJxa1e45_init_da8c8 : MethodName := ⟨RJxa1e45, "<init>", "()V"⟩
def RJxc12de : String := "java/util/AbstractList"
def TJxc12de : u_T := fun k => match k with
  | _ => ("", "", "", false)
def tyJxc12de : Nat → FieldType := fun k => match k with
  | _ => .int
abbrev wsJxc12de0 : List Cond := u_ws RJxc12de TJxc12de 0
theorem nmJxc12de : ∀ a, a < 0 → ∀ b, b < 0 → a ≠ b → (TJxc12de a).2.1 ≠ (TJxc12de b).2.1 := by decide +kernel
theorem tyJxc12de_ok : ∀ k, k < 0 → parseFieldDescriptor (TJxc12de k).2.2.1 = some (tyJxc12de k) := by decide +kernel
abbrev cJxc12de_init_da8c8 : ByteArray := prog_22_method_1_code
def yJxc12de_init_da8c8 : MethodName := ⟨RJxc12de, "<init>", "()V"⟩
def RJx4a65c : String := "java/util/ArrayList"
def TJx4a65c : u_T := fun k => match k with
  | 0 => ("java/util/AbstractList", "modCount", "I", false)
  | 1 => ("java/util/ArrayList", "elementData", "[Ljava/lang/Object;", false)
  | _ => ("java/util/ArrayList", "size", "I", false)
def tyJx4a65c : Nat → FieldType := fun k => match k with
  | 0 => .int
  | 1 => .array (.object "java/lang/Object")
  | _ => .int
abbrev wsJx4a65c0 : List Cond := u_ws RJx4a65c TJx4a65c 3
theorem nmJx4a65c : ∀ a, a < 3 → ∀ b, b < 3 → a ≠ b → (TJx4a65c a).2.1 ≠ (TJx4a65c b).2.1 := by decide +kernel
theorem tyJx4a65c_ok : ∀ k, k < 3 → parseFieldDescriptor (TJx4a65c k).2.2.1 = some (tyJx4a65c k) := by decide +kernel
abbrev cJx4a65c_init_da8c8 : ByteArray := prog_23_method_2_code
def yJx4a65c_init_da8c8 : MethodName := ⟨RJx4a65c, "<init>", "()V"⟩
abbrev cJx4a65c_grow_92f84 : ByteArray := prog_23_method_6_code
def yJx4a65c_grow_92f84 : MethodName := ⟨RJx4a65c, "grow", "(I)[Ljava/lang/Object;"⟩
abbrev cJx4a65c_grow_d5877 : ByteArray := prog_23_method_7_code
def yJx4a65c_grow_d5877 : MethodName := ⟨RJx4a65c, "grow", "()[Ljava/lang/Object;"⟩
abbrev cJx4a65c_size_8abf5 : ByteArray := prog_23_method_8_code
def yJx4a65c_size_8abf5 : MethodName := ⟨RJx4a65c, "size", "()I"⟩
abbrev cJx4a65c_elementData_915e3 : ByteArray := prog_23_method_18_code
def yJx4a65c_elementData_915e3 : MethodName := ⟨RJx4a65c, "elementData", "(I)Ljava/lang/Object;"⟩
abbrev cJx4a65c_get_915e3 : ByteArray := prog_23_method_20_code
def yJx4a65c_get_915e3 : MethodName := ⟨RJx4a65c, "get", "(I)Ljava/lang/Object;"⟩
abbrev cJx4a65c_add_72be8 : ByteArray := prog_23_method_24_code
def yJx4a65c_add_72be8 : MethodName := ⟨RJx4a65c, "add", "(Ljava/lang/Object;[Ljava/lang/Object;I)V"⟩
abbrev cJx4a65c_add_9ea2d : ByteArray := prog_23_method_25_code
def yJx4a65c_add_9ea2d : MethodName := ⟨RJx4a65c, "add", "(Ljava/lang/Object;)Z"⟩
def RJ7 : String := "java/util/Arrays"
def TJ7 : u_T := fun k => match k with
  | _ => ("", "", "", false)
def tyJ7 : Nat → FieldType := fun k => match k with
  | _ => .int
abbrev wsJ70 : List Cond := u_ws RJ7 TJ7 0
theorem nmJ7 : ∀ a, a < 0 → ∀ b, b < 0 → a ≠ b → (TJ7 a).2.1 ≠ (TJ7 b).2.1 := by decide +kernel
theorem tyJ7_ok : ∀ k, k < 0 → parseFieldDescriptor (TJ7 k).2.2.1 = some (tyJ7 k) := by decide +kernel
abbrev cJ7_fill_53178 : ByteArray := prog_24_method_103_code
def yJ7_fill_53178 : MethodName := ⟨RJ7, "fill", "([II)V"⟩
abbrev cJ7_copyOf_1904c : ByteArray := prog_24_method_119_code
def yJ7_copyOf_1904c : MethodName := ⟨RJ7, "copyOf", "([Ljava/lang/Object;I)[Ljava/lang/Object;"⟩
abbrev cJ7_copyOf_6403c : ByteArray := prog_24_method_120_code
def yJ7_copyOf_6403c : MethodName := ⟨RJ7, "copyOf", "([Ljava/lang/Object;ILjava/lang/Class;)[Ljava/lang/Object;"⟩
abbrev cJ7_copyOf_59c91 : ByteArray := prog_24_method_123_code
def yJ7_copyOf_59c91 : MethodName := ⟨RJ7, "copyOf", "([II)[I"⟩
def RJx5ef63 : String := "java/util/Collection"
def TJx5ef63 : u_T := fun k => match k with
  | _ => ("", "", "", false)
def tyJx5ef63 : Nat → FieldType := fun k => match k with
  | _ => .int
abbrev wsJx5ef630 : List Cond := u_ws RJx5ef63 TJx5ef63 0
theorem nmJx5ef63 : ∀ a, a < 0 → ∀ b, b < 0 → a ≠ b → (TJx5ef63 a).2.1 ≠ (TJx5ef63 b).2.1 := by decide +kernel
theorem tyJx5ef63_ok : ∀ k, k < 0 → parseFieldDescriptor (TJx5ef63 k).2.2.1 = some (tyJx5ef63 k) := by decide +kernel
def RJxbd725 : String := "java/util/List"
def TJxbd725 : u_T := fun k => match k with
  | _ => ("", "", "", false)
def tyJxbd725 : Nat → FieldType := fun k => match k with
  | _ => .int
abbrev wsJxbd7250 : List Cond := u_ws RJxbd725 TJxbd725 0
theorem nmJxbd725 : ∀ a, a < 0 → ∀ b, b < 0 → a ≠ b → (TJxbd725 a).2.1 ≠ (TJxbd725 b).2.1 := by decide +kernel
theorem tyJxbd725_ok : ∀ k, k < 0 → parseFieldDescriptor (TJxbd725 k).2.2.1 = some (tyJxbd725 k) := by decide +kernel
def RJ15 : String := "java/util/Objects"
def TJ15 : u_T := fun k => match k with
  | _ => ("", "", "", false)
def tyJ15 : Nat → FieldType := fun k => match k with
  | _ => .int
abbrev wsJ150 : List Cond := u_ws RJ15 TJ15 0
theorem nmJ15 : ∀ a, a < 0 → ∀ b, b < 0 → a ≠ b → (TJ15 a).2.1 ≠ (TJ15 b).2.1 := by decide +kernel
theorem tyJ15_ok : ∀ k, k < 0 → parseFieldDescriptor (TJ15 k).2.2.1 = some (tyJ15 k) := by decide +kernel
abbrev cJ15_checkIndex_7cf53 : ByteArray := prog_27_method_17_code
def yJ15_checkIndex_7cf53 : MethodName := ⟨RJ15, "checkIndex", "(II)I"⟩
def RJxf0a74 : String := "java/util/RandomAccess"
def TJxf0a74 : u_T := fun k => match k with
  | _ => ("", "", "", false)
def tyJxf0a74 : Nat → FieldType := fun k => match k with
  | _ => .int
abbrev wsJxf0a740 : List Cond := u_ws RJxf0a74 TJxf0a74 0
theorem nmJxf0a74 : ∀ a, a < 0 → ∀ b, b < 0 → a ≠ b → (TJxf0a74 a).2.1 ≠ (TJxf0a74 b).2.1 := by decide +kernel
theorem tyJxf0a74_ok : ∀ k, k < 0 → parseFieldDescriptor (TJxf0a74 k).2.2.1 = some (tyJxf0a74 k) := by decide +kernel
def RJxa66e6 : String := "java/util/SequencedCollection"
def TJxa66e6 : u_T := fun k => match k with
  | _ => ("", "", "", false)
def tyJxa66e6 : Nat → FieldType := fun k => match k with
  | _ => .int
abbrev wsJxa66e60 : List Cond := u_ws RJxa66e6 TJxa66e6 0
theorem nmJxa66e6 : ∀ a, a < 0 → ∀ b, b < 0 → a ≠ b → (TJxa66e6 a).2.1 ≠ (TJxa66e6 b).2.1 := by decide +kernel
theorem tyJxa66e6_ok : ∀ k, k < 0 → parseFieldDescriptor (TJxa66e6 k).2.2.1 = some (tyJxa66e6 k) := by decide +kernel
def RJ8 : String := "jdk/internal/util/ArraysSupport"
def TJ8 : u_T := fun k => match k with
  | _ => ("", "", "", false)
def tyJ8 : Nat → FieldType := fun k => match k with
  | _ => .int
abbrev wsJ80 : List Cond := u_ws RJ8 TJ8 0
theorem nmJ8 : ∀ a, a < 0 → ∀ b, b < 0 → a ≠ b → (TJ8 a).2.1 ≠ (TJ8 b).2.1 := by decide +kernel
theorem tyJ8_ok : ∀ k, k < 0 → parseFieldDescriptor (TJ8 k).2.2.1 = some (tyJ8 k) := by decide +kernel
abbrev cJ8_newLength_cabcc : ByteArray := prog_30_method_27_code
def yJ8_newLength_cabcc : MethodName := ⟨RJ8, "newLength", "(III)I"⟩
abbrev cJ8_hugeLength_7cf53 : ByteArray := prog_30_method_28_code
def yJ8_hugeLength_7cf53 : MethodName := ⟨RJ8, "hugeLength", "(II)I"⟩
def RJ3 : String := "jdk/internal/util/Preconditions"
def TJ3 : u_T := fun k => match k with
  | _ => ("", "", "", false)
def tyJ3 : Nat → FieldType := fun k => match k with
  | _ => .int
abbrev wsJ30 : List Cond := u_ws RJ3 TJ3 0
theorem nmJ3 : ∀ a, a < 0 → ∀ b, b < 0 → a ≠ b → (TJ3 a).2.1 ≠ (TJ3 b).2.1 := by decide +kernel
theorem tyJ3_ok : ∀ k, k < 0 → parseFieldDescriptor (TJ3 k).2.2.1 = some (tyJ3 k) := by decide +kernel
abbrev cJ3_checkIndex_8e157 : ByteArray := prog_31_method_11_code
def yJ3_checkIndex_8e157 : MethodName := ⟨RJ3, "checkIndex", "(IILjava/util/function/BiFunction;)I"⟩
def RL : String := "LampRhythmsLaw"
abbrev cL_act : ByteArray := method_2_code
def yL_act : MethodName := ⟨RL, "act", "(LLampRhythms;IIII)I"⟩
abbrev cL_lamp : ByteArray := method_3_code
def yL_lamp : MethodName := ⟨RL, "lamp", "(LLampRhythms;IIIII)I"⟩
abbrev cL_taken : ByteArray := method_4_code
def yL_taken : MethodName := ⟨RL, "taken", "(LLampRhythms;IIIIII)I"⟩
abbrev cL_refuses : ByteArray := method_5_code
def yL_refuses : MethodName := ⟨RL, "refuses", "(LLampRhythms;III)Z"⟩
abbrev cL_pattern : ByteArray := method_6_code
def yL_pattern : MethodName := ⟨RL, "pattern", "(LLampRhythms;I)I"⟩
abbrev cL_alike : ByteArray := method_7_code
def yL_alike : MethodName := ⟨RL, "alike", "(LLampRhythms;IIZ)Z"⟩
abbrev cL_rhythms : ByteArray := method_8_code
def yL_rhythms : MethodName := ⟨RL, "rhythms", "()Z"⟩
abbrev cL_sector : ByteArray := method_9_code
def yL_sector : MethodName := ⟨RL, "sector", "(LLampRhythms;III)Z"⟩
abbrev cL_shines : ByteArray := method_10_code
def yL_shines : MethodName := ⟨RL, "shines", "(LLampRhythms;IIII)Z"⟩
abbrev cL_harbour : ByteArray := method_11_code
def yL_harbour : MethodName := ⟨RL, "harbour", "()Z"⟩
abbrev cL_most : ByteArray := method_12_code
def yL_most : MethodName := ⟨RL, "most", "()Z"⟩
abbrev cL_law : ByteArray := code
def yL_law : MethodName := ⟨RL, "law", "([I)Z"⟩
abbrev vwCl : List vw_C := [(RJx4a65c, TJx4a65c, 3), (RX0, TX0, 2), (RX1, TX1, 6), (RX2, TX2, 2), (RX3, TX3, 3), (RX4, TX4, 6)]
def wa_0 : List Cond := [Cond.classLink RL 8 RX4, Cond.instantiable RX4 6, Cond.initialized RX4, Cond.methodLink RL 119 yL_rhythms, Cond.static yL_rhythms, Cond.initialized RL, Cond.code yL_rhythms cL_rhythms 2 (some .boolean), Cond.constant RL 103 (111111), Cond.constant RL 104 (123456), Cond.constant RL 105 (345612), Cond.constant RL 106 (123465), Cond.constant RL 107 (991999), Cond.constant RL 108 (232323), Cond.methodLink RL 95 yX4_init, Cond.instanceMethod yX4_init, Cond.code yX4_init cX4_init 1 none, Cond.methodLink RX4 1 objectInit, Cond.instanceMethod objectInit, Cond.code objectInit ⟨#[0xb1]⟩ 1 none, Cond.arrayClass .int, Cond.fieldLink RX4 9 "LampRhythms" "draft" "[I", Cond.fieldLink RX4 13 "LampRhythms" "drafted" "I", Cond.classLink RX4 17 RJx4a65c, Cond.instantiable RJx4a65c 3, Cond.initialized RJx4a65c]
def wa_1 : List Cond := [Cond.fieldLink RX4 20 "LampRhythms" "patterns" "Ljava/util/ArrayList;", Cond.fieldLink RX4 24 "LampRhythms" "lamps" "Ljava/util/ArrayList;", Cond.fieldLink RX4 27 "LampRhythms" "told" "Ljava/util/ArrayList;", Cond.fieldLink RX4 30 "LampRhythms" "charts" "Ljava/util/ArrayList;", Cond.methodLink RX4 19 yJx4a65c_init_da8c8, Cond.instanceMethod yJx4a65c_init_da8c8, Cond.code yJx4a65c_init_da8c8 cJx4a65c_init_da8c8 1 none, Cond.fieldLink RJx4a65c 39 "java/util/ArrayList" "DEFAULTCAPACITY_EMPTY_ELEMENTDATA" "[Ljava/lang/Object;", Cond.fieldLink RJx4a65c 9 "java/util/ArrayList" "elementData" "[Ljava/lang/Object;", Cond.methodLink RJx4a65c 1 yJxc12de_init_da8c8, Cond.instanceMethod yJxc12de_init_da8c8, Cond.initialized RJxc12de, Cond.code yJxc12de_init_da8c8 cJxc12de_init_da8c8 1 none, Cond.fieldLink RJxc12de 7 "java/util/AbstractList" "modCount" "I", Cond.methodLink RJxc12de 1 yJxa1e45_init_da8c8, Cond.instanceMethod yJxa1e45_init_da8c8, Cond.initialized RJxa1e45, Cond.code yJxa1e45_init_da8c8 cJxa1e45_init_da8c8 1 none, Cond.methodLink RJxa1e45 1 objectInit, Cond.methodLink RL 96 yL_refuses, Cond.static yL_refuses, Cond.code yL_refuses cL_refuses 16 (some .boolean), Cond.constant RL 81 (2147483647), Cond.constant RL 94 (100001), Cond.methodLink RL 75 yX4_notices]
def wa_2 : List Cond := [Cond.instanceMethod yX4_notices, Cond.selects RX4 yX4_notices yX4_notices, Cond.code yX4_notices cX4_notices 1 (some .int), Cond.methodLink RX4 46 yJx4a65c_size_8abf5, Cond.instanceMethod yJx4a65c_size_8abf5, Cond.selects RJx4a65c yJx4a65c_size_8abf5 yJx4a65c_size_8abf5, Cond.code yJx4a65c_size_8abf5 cJx4a65c_size_8abf5 1 (some .int), Cond.fieldLink RJx4a65c 48 "java/util/ArrayList" "size" "I", Cond.methodLink RL 78 yX4_clashes, Cond.instanceMethod yX4_clashes, Cond.selects RX4 yX4_clashes yX4_clashes, Cond.code yX4_clashes cX4_clashes 4 (some .int), Cond.classLink RX4 91 "LampRhythms$Lamp", Cond.methodLink RX4 139 yJx4a65c_get_915e3, Cond.instanceMethod yJx4a65c_get_915e3, Cond.selects RJx4a65c yJx4a65c_get_915e3 yJx4a65c_get_915e3, Cond.code yJx4a65c_get_915e3 cJx4a65c_get_915e3 2 (some (.object "java/lang/Object")), Cond.methodLink RJx4a65c 118 yJ15_checkIndex_7cf53, Cond.static yJ15_checkIndex_7cf53, Cond.initialized RJ15, Cond.code yJ15_checkIndex_7cf53 cJ15_checkIndex_7cf53 2 (some .int), Cond.methodLink RJ15 105 yJ3_checkIndex_8e157, Cond.static yJ3_checkIndex_8e157, Cond.initialized RJ3, Cond.code yJ3_checkIndex_8e157 cJ3_checkIndex_8e157 3 (some .int)]
def wa_3 : List Cond := [Cond.methodLink RJx4a65c 123 yJx4a65c_elementData_915e3, Cond.instanceMethod yJx4a65c_elementData_915e3, Cond.selects RJx4a65c yJx4a65c_elementData_915e3 yJx4a65c_elementData_915e3, Cond.code yJx4a65c_elementData_915e3 cJx4a65c_elementData_915e3 2 (some (.object "java/lang/Object")), Cond.methodLink RX4 143 yX4_clash, Cond.instanceMethod yX4_clash, Cond.selects RX4 yX4_clash yX4_clash, Cond.code yX4_clash cX4_clash 3 (some .boolean), Cond.fieldLink RX4 104 "LampRhythms$Lamp" "pattern" "I", Cond.methodLink RX4 67 yX4_patternAt, Cond.instanceMethod yX4_patternAt, Cond.selects RX4 yX4_patternAt yX4_patternAt, Cond.code yX4_patternAt cX4_patternAt 2 (some (.object "LampRhythms$Pattern")), Cond.classLink RX4 52 "LampRhythms$Pattern", Cond.methodLink RX4 81 yX4_requirePattern, Cond.instanceMethod yX4_requirePattern, Cond.selects RX4 yX4_requirePattern yX4_requirePattern, Cond.code yX4_requirePattern cX4_requirePattern 2 none, Cond.classLink RX4 188 "java/lang/IndexOutOfBoundsException", Cond.initialized "java/lang/IndexOutOfBoundsException", Cond.methodLink RX4 74 yX3_hasPhasesOf, Cond.instanceMethod yX3_hasPhasesOf, Cond.selects RX3 yX3_hasPhasesOf yX3_hasPhasesOf, Cond.initialized RX3, Cond.code yX3_hasPhasesOf cX3_hasPhasesOf 3 (some .boolean)]
def wa_4 : List Cond := [Cond.fieldLink RX3 27 "LampRhythms$Pattern" "cycle" "[I", Cond.methodLink RX3 35 yX3_hasPhasesTurned, Cond.instanceMethod yX3_hasPhasesTurned, Cond.selects RX3 yX3_hasPhasesTurned yX3_hasPhasesTurned, Cond.code yX3_hasPhasesTurned cX3_hasPhasesTurned 4 (some .boolean), Cond.methodLink RX4 135 yX1_placesSharedWith, Cond.instanceMethod yX1_placesSharedWith, Cond.selects RX1 yX1_placesSharedWith yX1_placesSharedWith, Cond.initialized RX1, Cond.code yX1_placesSharedWith cX1_placesSharedWith 4 (some .int), Cond.fieldLink RX1 29 "LampRhythms$Lamp" "sight" "[I", Cond.methodLink RX1 49 yJ6_bitCount_0f7a4, Cond.static yJ6_bitCount_0f7a4, Cond.initialized RJ6, Cond.code yJ6_bitCount_0f7a4 cJ6_bitCount_0f7a4 1 (some .int), Cond.constant RJ6 265 (1431655765), Cond.constant RJ6 266 (858993459), Cond.constant RJ6 267 (252645135), Cond.methodLink RL 82 yL_act, Cond.static yL_act, Cond.codeWith yL_act cL_act 6 (some .int) [(0, 249, 250, 61), (0, 249, 255, 63), (0, 249, 260, 65)], Cond.classLink RL 61 "java/lang/IndexOutOfBoundsException", Cond.classLink RL 63 "java/lang/IllegalArgumentException", Cond.classLink RL 65 "java/lang/IllegalStateException", Cond.methodLink RL 7 yX4_phase]
def wa_5 : List Cond := [Cond.instanceMethod yX4_phase, Cond.selects RX4 yX4_phase yX4_phase, Cond.code yX4_phase cX4_phase 2 (some .int), Cond.classLink RX4 37 "java/lang/IllegalStateException", Cond.initialized "java/lang/IllegalStateException", Cond.methodLink RX4 33 yX4_requireWithin, Cond.static yX4_requireWithin, Cond.code yX4_requireWithin cX4_requireWithin 3 none, Cond.classLink RX4 183 "java/lang/IllegalArgumentException", Cond.initialized "java/lang/IllegalArgumentException", Cond.methodLink RL 13 yX4_pattern, Cond.instanceMethod yX4_pattern, Cond.selects RX4 yX4_pattern yX4_pattern, Cond.code yX4_pattern cX4_pattern 1 (some .int), Cond.classLink RX4 52 RX3, Cond.instantiable RX3 3, Cond.methodLink RX4 54 yJ7_copyOf_59c91, Cond.static yJ7_copyOf_59c91, Cond.initialized RJ7, Cond.code yJ7_copyOf_59c91 cJ7_copyOf_59c91 3 (some (.array .int)), Cond.methodLink RJ7 316 ⟨"[I", "clone", "()Ljava/lang/Object;"⟩, Cond.sameMethod "[I" "java/lang/Object" "clone" "()Ljava/lang/Object;", Cond.native ⟨"java/lang/Object", "clone", "()Ljava/lang/Object;"⟩, Cond.instanceMethod ⟨"java/lang/Object", "clone", "()Ljava/lang/Object;"⟩, Cond.selects "[I" ⟨"[I", "clone", "()Ljava/lang/Object;"⟩ ⟨"java/lang/Object", "clone", "()Ljava/lang/Object;"⟩]
def wa_6 : List Cond := [Cond.classLink RJ7 317 "[I", Cond.methodLink RJ7 304 Lib.Math.min.name, Cond.static Lib.Math.min.name, Cond.initialized "java/lang/Math", Cond.code Lib.Math.min.name Lib.Math.min.code 2 (some .int), Cond.methodLink RJ7 150 arraycopyName, Cond.native arraycopyName, Cond.static arraycopyName, Cond.initialized "java/lang/System", Cond.methodLink RX4 60 yX3_init, Cond.instanceMethod yX3_init, Cond.code yX3_init cX3_init 7 none, Cond.methodLink RX3 1 objectInit, Cond.fieldLink RX3 7 "LampRhythms$Pattern" "period" "I", Cond.fieldLink RX3 13 "LampRhythms$Pattern" "light" "J", Cond.methodLink RX3 17 yX3_fewestOf, Cond.static yX3_fewestOf, Cond.code yX3_fewestOf cX3_fewestOf 2 (some .int), Cond.methodLink RX3 31 yX3_repeatsAfter, Cond.static yX3_repeatsAfter, Cond.code yX3_repeatsAfter cX3_repeatsAfter 3 (some .boolean), Cond.methodLink RX3 21 yJ7_copyOf_59c91, Cond.methodLink RX4 63 yJx4a65c_add_9ea2d, Cond.instanceMethod yJx4a65c_add_9ea2d, Cond.selects RJx4a65c yJx4a65c_add_9ea2d yJx4a65c_add_9ea2d]
def wa_7 : List Cond := [Cond.code yJx4a65c_add_9ea2d cJx4a65c_add_9ea2d 2 (some .boolean), Cond.fieldLink RJx4a65c 63 "java/util/ArrayList" "modCount" "I", Cond.sameField "java/util/ArrayList" "java/util/AbstractList" "modCount" "I", Cond.methodLink RJx4a65c 131 yJx4a65c_add_72be8, Cond.instanceMethod yJx4a65c_add_72be8, Cond.selects RJx4a65c yJx4a65c_add_72be8 yJx4a65c_add_72be8, Cond.code yJx4a65c_add_72be8 cJx4a65c_add_72be8 4 none, Cond.methodLink RJx4a65c 129 yJx4a65c_grow_d5877, Cond.instanceMethod yJx4a65c_grow_d5877, Cond.selects RJx4a65c yJx4a65c_grow_d5877 yJx4a65c_grow_d5877, Cond.code yJx4a65c_grow_d5877 cJx4a65c_grow_d5877 1 (some (.array (.object "java/lang/Object"))), Cond.methodLink RJx4a65c 69 yJx4a65c_grow_92f84, Cond.instanceMethod yJx4a65c_grow_92f84, Cond.selects RJx4a65c yJx4a65c_grow_92f84 yJx4a65c_grow_92f84, Cond.code yJx4a65c_grow_92f84 cJx4a65c_grow_92f84 4 (some (.array (.object "java/lang/Object"))), Cond.methodLink RJx4a65c 79 Lib.Math.max.name, Cond.static Lib.Math.max.name, Cond.code Lib.Math.max.name Lib.Math.max.code 2 (some .int), Cond.classLink RJx4a65c 7 "java/lang/Object", Cond.methodLink RJx4a65c 73 yJ8_newLength_cabcc, Cond.static yJ8_newLength_cabcc, Cond.initialized RJ8, Cond.code yJ8_newLength_cabcc cJ8_newLength_cabcc 4 (some .int), Cond.methodLink RJ8 194 Lib.Math.max.name, Cond.constant RJ8 200 (2147483639)]
def wa_8 : List Cond := [Cond.methodLink RJ8 201 yJ8_hugeLength_7cf53, Cond.static yJ8_hugeLength_7cf53, Cond.code yJ8_hugeLength_7cf53 cJ8_hugeLength_7cf53 3 (some .int), Cond.methodLink RJx4a65c 66 yJ7_copyOf_1904c, Cond.static yJ7_copyOf_1904c, Cond.code yJ7_copyOf_1904c cJ7_copyOf_1904c 2 (some (.array (.object "java/lang/Object"))), Cond.methodLink RJ7 86 ⟨"java/lang/Object", "getClass", "()Ljava/lang/Class;"⟩, Cond.selects "[Ljava/lang/Object;" ⟨"java/lang/Object", "getClass", "()Ljava/lang/Class;"⟩ ⟨"java/lang/Object", "getClass", "()Ljava/lang/Class;"⟩, Cond.instanceMethod ⟨"java/lang/Object", "getClass", "()Ljava/lang/Class;"⟩, Cond.native ⟨"java/lang/Object", "getClass", "()Ljava/lang/Class;"⟩, Cond.methodLink RJ7 300 yJ7_copyOf_6403c, Cond.static yJ7_copyOf_6403c, Cond.code yJ7_copyOf_6403c cJ7_copyOf_6403c 4 (some (.array (.object "java/lang/Object"))), Cond.classLink RJ7 110 "[Ljava/lang/Object;", Cond.classLink RJ7 2 "java/lang/Object", Cond.methodLink RL 17 yX4_period, Cond.instanceMethod yX4_period, Cond.selects RX4 yX4_period yX4_period, Cond.code yX4_period cX4_period 2 (some .int), Cond.fieldLink RX4 71 "LampRhythms$Pattern" "period" "I", Cond.methodLink RL 20 yX4_areAlike, Cond.instanceMethod yX4_areAlike, Cond.selects RX4 yX4_areAlike yX4_areAlike, Cond.code yX4_areAlike cX4_areAlike 3 (some .boolean), Cond.methodLink RL 24 yX4_areAlikeBySeconds]
def wa_9 : List Cond := [Cond.instanceMethod yX4_areAlikeBySeconds, Cond.selects RX4 yX4_areAlikeBySeconds yX4_areAlikeBySeconds, Cond.code yX4_areAlikeBySeconds cX4_areAlikeBySeconds 3 (some .boolean), Cond.methodLink RX4 78 yX3_hasSecondsOf, Cond.instanceMethod yX3_hasSecondsOf, Cond.selects RX3 yX3_hasSecondsOf yX3_hasSecondsOf, Cond.code yX3_hasSecondsOf cX3_hasSecondsOf 3 (some .boolean), Cond.methodLink RX3 38 yX3_hasSecondsLater, Cond.instanceMethod yX3_hasSecondsLater, Cond.selects RX3 yX3_hasSecondsLater yX3_hasSecondsLater, Cond.code yX3_hasSecondsLater cX3_hasSecondsLater 5 (some .boolean), Cond.methodLink RX3 42 yX3_isLight, Cond.instanceMethod yX3_isLight, Cond.selects RX3 yX3_isLight yX3_isLight, Cond.code yX3_isLight cX3_isLight 2 (some .boolean), Cond.methodLink RL 27 yX4_change, Cond.instanceMethod yX4_change, Cond.selects RX4 yX4_change yX4_change, Cond.code yX4_change cX4_change 5 (some .int), Cond.fieldLink RX4 107 "LampRhythms$Lamp" "begins" "I", Cond.methodLink RX4 100 yX4_lampAt, Cond.instanceMethod yX4_lampAt, Cond.selects RX4 yX4_lampAt yX4_lampAt, Cond.code yX4_lampAt cX4_lampAt 2 (some (.object "LampRhythms$Lamp")), Cond.methodLink RX4 169 yX4_requireLamp]
def wa_10 : List Cond := [Cond.instanceMethod yX4_requireLamp, Cond.selects RX4 yX4_requireLamp yX4_requireLamp, Cond.code yX4_requireLamp cX4_requireLamp 2 none, Cond.methodLink RX4 96 yX4_tell, Cond.instanceMethod yX4_tell, Cond.selects RX4 yX4_tell yX4_tell, Cond.code yX4_tell cX4_tell 3 (some .int), Cond.classLink RX4 201 RX2, Cond.instantiable RX2 2, Cond.initialized RX2, Cond.fieldLink RX4 110 "LampRhythms$Lamp" "failed" "Z", Cond.methodLink RX4 203 yX2_init, Cond.instanceMethod yX2_init, Cond.code yX2_init cX2_init 3 none, Cond.methodLink RX2 1 objectInit, Cond.fieldLink RX2 7 "LampRhythms$Notice" "lamp" "I", Cond.fieldLink RX2 13 "LampRhythms$Notice" "pattern" "I", Cond.methodLink RL 31 yX4_fail, Cond.instanceMethod yX4_fail, Cond.selects RX4 yX4_fail yX4_fail, Cond.code yX4_fail cX4_fail 4 (some .int), Cond.methodLink RL 35 yX4_shines, Cond.instanceMethod yX4_shines, Cond.selects RX4 yX4_shines yX4_shines, Cond.code yX4_shines cX4_shines 4 (some .boolean)]
def wa_11 : List Cond := [Cond.constant RX4 116 (100000), Cond.methodLink RX4 117 yX4_isLit, Cond.instanceMethod yX4_isLit, Cond.selects RX4 yX4_isLit yX4_isLit, Cond.code yX4_isLit cX4_isLit 3 (some .boolean), Cond.methodLink RX4 197 yX3_isLight, Cond.methodLink RL 38 yX4_sector, Cond.instanceMethod yX4_sector, Cond.selects RX4 yX4_sector yX4_sector, Cond.code yX4_sector cX4_sector 5 (some .int), Cond.fieldLink RX4 121 "LampRhythms$Lamp" "x" "I", Cond.fieldLink RX4 124 "LampRhythms$Lamp" "y" "I", Cond.methodLink RX4 85 yX4_requirePlace, Cond.static yX4_requirePlace, Cond.code yX4_requirePlace cX4_requirePlace 2 none, Cond.methodLink RX4 127 yX1_sectorOf, Cond.static yX1_sectorOf, Cond.code yX1_sectorOf cX1_sectorOf 5 (some .int), Cond.methodLink RX1 36 Lib.Math.abs.name, Cond.static Lib.Math.abs.name, Cond.code Lib.Math.abs.name Lib.Math.abs.code 1 (some .int), Cond.methodLink RX1 46 yX1_quarterOf, Cond.static yX1_quarterOf, Cond.code yX1_quarterOf cX1_quarterOf 2 (some .int), Cond.methodLink RL 41 yX4_isSeen]
def wa_12 : List Cond := [Cond.instanceMethod yX4_isSeen, Cond.selects RX4 yX4_isSeen yX4_isSeen, Cond.code yX4_isSeen cX4_isSeen 5 (some .boolean), Cond.methodLink RX4 131 yX1_canBeSeenFrom, Cond.instanceMethod yX1_canBeSeenFrom, Cond.selects RX1 yX1_canBeSeenFrom yX1_canBeSeenFrom, Cond.code yX1_canBeSeenFrom cX1_canBeSeenFrom 3 (some .boolean), Cond.methodLink RL 45 yX4_common, Cond.instanceMethod yX4_common, Cond.selects RX4 yX4_common yX4_common, Cond.code yX4_common cX4_common 3 (some .int), Cond.methodLink RL 49 yX4_print, Cond.instanceMethod yX4_print, Cond.selects RX4 yX4_print yX4_print, Cond.code yX4_print cX4_print 2 (some .int), Cond.classLink RX4 149 RX0, Cond.instantiable RX0 2, Cond.initialized RX0, Cond.methodLink RX4 151 yX0_init, Cond.instanceMethod yX0_init, Cond.code yX0_init cX0_init 1 none, Cond.methodLink RX0 3 objectInit, Cond.fieldLink RX0 9 "LampRhythms$Chart" "patterns" "[I", Cond.fieldLink RX0 15 "LampRhythms$Chart" "notices" "I", Cond.methodLink RX0 19 yJ7_fill_53178]
def wa_13 : List Cond := [Cond.static yJ7_fill_53178, Cond.code yJ7_fill_53178 cJ7_fill_53178 4 none, Cond.methodLink RX4 152 yX4_putIn, Cond.instanceMethod yX4_putIn, Cond.selects RX4 yX4_putIn yX4_putIn, Cond.code yX4_putIn cX4_putIn 5 none, Cond.fieldLink RX4 205 "LampRhythms$Chart" "notices" "I", Cond.methodLink RX4 164 Lib.Math.min.name, Cond.classLink RX4 201 "LampRhythms$Notice", Cond.methodLink RX4 208 yX0_putIn, Cond.instanceMethod yX0_putIn, Cond.selects RX0 yX0_putIn yX0_putIn, Cond.code yX0_putIn cX0_putIn 2 none, Cond.fieldLink RX0 25 "LampRhythms$Notice" "lamp" "I", Cond.fieldLink RX0 30 "LampRhythms$Notice" "pattern" "I", Cond.methodLink RL 52 yX4_correct, Cond.instanceMethod yX4_correct, Cond.selects RX4 yX4_correct yX4_correct, Cond.code yX4_correct cX4_correct 5 (some .int), Cond.methodLink RX4 156 yX4_chartAt, Cond.instanceMethod yX4_chartAt, Cond.selects RX4 yX4_chartAt yX4_chartAt, Cond.code yX4_chartAt cX4_chartAt 2 (some (.object "LampRhythms$Chart")), Cond.classLink RX4 149 "LampRhythms$Chart", Cond.methodLink RX4 160 yX4_lackOf]
def wa_14 : List Cond := [Cond.instanceMethod yX4_lackOf, Cond.selects RX4 yX4_lackOf yX4_lackOf, Cond.code yX4_lackOf cX4_lackOf 2 (some .int), Cond.methodLink RL 55 yX4_behind, Cond.instanceMethod yX4_behind, Cond.selects RX4 yX4_behind yX4_behind, Cond.code yX4_behind cX4_behind 2 (some .int), Cond.methodLink RL 58 yX4_shown, Cond.instanceMethod yX4_shown, Cond.selects RX4 yX4_shown yX4_shown, Cond.code yX4_shown cX4_shown 4 (some .int), Cond.methodLink RX4 172 yX0_patternOf, Cond.instanceMethod yX0_patternOf, Cond.selects RX0 yX0_patternOf yX0_patternOf, Cond.code yX0_patternOf cX0_patternOf 2 (some .int), Cond.methodLink RL 88 yL_lamp, Cond.static yL_lamp, Cond.codeWith yL_lamp cL_lamp 7 (some .int) [(0, 11, 12, 61), (0, 11, 17, 63), (0, 11, 22, 65)], Cond.methodLink RL 67 yX4_lamp, Cond.instanceMethod yX4_lamp, Cond.selects RX4 yX4_lamp yX4_lamp, Cond.code yX4_lamp cX4_lamp 7 (some .int), Cond.classLink RX4 91 RX1, Cond.instantiable RX1 6, Cond.methodLink RX4 93 yX1_init]
def wa_15 : List Cond := [Cond.instanceMethod yX1_init, Cond.code yX1_init cX1_init 9 none, Cond.methodLink RX1 3 objectInit, Cond.fieldLink RX1 9 "LampRhythms$Lamp" "begins" "I", Cond.fieldLink RX1 15 "LampRhythms$Lamp" "failed" "Z", Cond.fieldLink RX1 23 "LampRhythms$Lamp" "x" "I", Cond.fieldLink RX1 26 "LampRhythms$Lamp" "y" "I", Cond.fieldLink RX1 33 "LampRhythms$Lamp" "pattern" "I", Cond.methodLink RX1 19 yX1_isWithin, Cond.static yX1_isWithin, Cond.code yX1_isWithin cX1_isWithin 5 (some .boolean), Cond.methodLink RX1 42 yX1_sectorOf, Cond.methodLink RL 91 yL_taken, Cond.static yL_taken, Cond.codeWith yL_taken cL_taken 8 (some .int) [(0, 13, 14, 61), (0, 13, 19, 63)], Cond.methodLink RL 71 yX4_taken, Cond.instanceMethod yX4_taken, Cond.selects RX4 yX4_taken yX4_taken, Cond.code yX4_taken cX4_taken 14 (some .int), Cond.methodLink RX4 175 yX4_lookAt, Cond.instanceMethod yX4_lookAt, Cond.selects RX4 yX4_lookAt yX4_lookAt, Cond.code yX4_lookAt cX4_lookAt 7 (some .long), Cond.methodLink RX4 179 yX3_canLookLike, Cond.instanceMethod yX3_canLookLike]
def wa_16 : List Cond := [Cond.selects RX3 yX3_canLookLike yX3_canLookLike, Cond.code yX3_canLookLike cX3_canLookLike 5 (some .boolean), Cond.methodLink RX3 46 yX3_looksLike, Cond.instanceMethod yX3_looksLike, Cond.selects RX3 yX3_looksLike yX3_looksLike, Cond.code yX3_looksLike cX3_looksLike 7 (some .boolean), Cond.methodLink RL 100 yL_pattern, Cond.static yL_pattern, Cond.code yL_pattern cL_pattern 5 (some .int), Cond.methodLink RL 109 yL_alike, Cond.static yL_alike, Cond.code yL_alike cL_alike 4 (some .boolean), Cond.methodLink RL 123 yL_harbour, Cond.static yL_harbour, Cond.code yL_harbour cL_harbour 1 (some .boolean), Cond.constant RL 116 (100000), Cond.methodLink RL 113 yL_shines, Cond.static yL_shines, Cond.code yL_shines cL_shines 6 (some .boolean), Cond.methodLink RL 117 yL_sector, Cond.static yL_sector, Cond.code yL_sector cL_sector 4 (some .boolean), Cond.methodLink RL 126 yL_most, Cond.static yL_most, Cond.code yL_most cL_most 2 (some .boolean)]
/-- every word that a method may ask of the tables -/
def WALL : List Cond := wa_0 ++ (wa_1 ++ (wa_2 ++ (wa_3 ++ (wa_4 ++ (wa_5 ++ (wa_6 ++ (wa_7 ++ (wa_8 ++ (wa_9 ++ (wa_10 ++ (wa_11 ++ (wa_12 ++ (wa_13 ++ (wa_14 ++ (wa_15 ++ (wa_16 ++ (wsX40 ++ (wsX50 ++ (wsJx4a65c0 ++ (wsX30 ++ (wsX10 ++ (wsX20 ++ (wsX00 ++ (((vx_atS RX4 41 "java/lang/IllegalStateException" ["java/lang/RuntimeException", "java/lang/Exception"]).filter goodWord) ++ (((vx_atS RX4 187 "java/lang/IllegalArgumentException" ["java/lang/RuntimeException", "java/lang/Exception"]).filter goodWord) ++ (((vx_atS RX4 192 "java/lang/IndexOutOfBoundsException" ["java/lang/RuntimeException", "java/lang/Exception"]).filter goodWord)))))))))))))))))))))))))))
theorem wi_0 : ∀ w ∈ wa_0, w ∈ WALL := fun _ h => List.mem_append_left _ (h)
theorem m_0_0 : Cond.classLink RL 8 RX4 ∈ WALL := wi_0 _ (List.mem_of_getElem? (i := 0) rfl)
theorem m_0_1 : Cond.instantiable RX4 6 ∈ WALL := wi_0 _ (List.mem_of_getElem? (i := 1) rfl)
theorem m_0_2 : Cond.initialized RX4 ∈ WALL := wi_0 _ (List.mem_of_getElem? (i := 2) rfl)
theorem m_0_3 : Cond.methodLink RL 119 yL_rhythms ∈ WALL := wi_0 _ (List.mem_of_getElem? (i := 3) rfl)
theorem m_0_4 : Cond.static yL_rhythms ∈ WALL := wi_0 _ (List.mem_of_getElem? (i := 4) rfl)
theorem m_0_5 : Cond.initialized RL ∈ WALL := wi_0 _ (List.mem_of_getElem? (i := 5) rfl)
theorem m_0_6 : Cond.code yL_rhythms cL_rhythms 2 (some .boolean) ∈ WALL := wi_0 _ (List.mem_of_getElem? (i := 6) rfl)
theorem m_0_7 : Cond.constant RL 103 (111111) ∈ WALL := wi_0 _ (List.mem_of_getElem? (i := 7) rfl)
theorem m_0_8 : Cond.constant RL 104 (123456) ∈ WALL := wi_0 _ (List.mem_of_getElem? (i := 8) rfl)
theorem m_0_9 : Cond.constant RL 105 (345612) ∈ WALL := wi_0 _ (List.mem_of_getElem? (i := 9) rfl)
theorem m_0_10 : Cond.constant RL 106 (123465) ∈ WALL := wi_0 _ (List.mem_of_getElem? (i := 10) rfl)
theorem m_0_11 : Cond.constant RL 107 (991999) ∈ WALL := wi_0 _ (List.mem_of_getElem? (i := 11) rfl)
theorem m_0_12 : Cond.constant RL 108 (232323) ∈ WALL := wi_0 _ (List.mem_of_getElem? (i := 12) rfl)
theorem m_0_13 : Cond.methodLink RL 95 yX4_init ∈ WALL := wi_0 _ (List.mem_of_getElem? (i := 13) rfl)
theorem m_0_14 : Cond.instanceMethod yX4_init ∈ WALL := wi_0 _ (List.mem_of_getElem? (i := 14) rfl)
theorem m_0_15 : Cond.code yX4_init cX4_init 1 none ∈ WALL := wi_0 _ (List.mem_of_getElem? (i := 15) rfl)
theorem m_0_16 : Cond.methodLink RX4 1 objectInit ∈ WALL := wi_0 _ (List.mem_of_getElem? (i := 16) rfl)
theorem m_0_17 : Cond.instanceMethod objectInit ∈ WALL := wi_0 _ (List.mem_of_getElem? (i := 17) rfl)
theorem m_0_18 : Cond.code objectInit ⟨#[0xb1]⟩ 1 none ∈ WALL := wi_0 _ (List.mem_of_getElem? (i := 18) rfl)
theorem m_0_19 : Cond.arrayClass .int ∈ WALL := wi_0 _ (List.mem_of_getElem? (i := 19) rfl)
theorem m_0_20 : Cond.fieldLink RX4 9 "LampRhythms" "draft" "[I" ∈ WALL := wi_0 _ (List.mem_of_getElem? (i := 20) rfl)
theorem m_0_21 : Cond.fieldLink RX4 13 "LampRhythms" "drafted" "I" ∈ WALL := wi_0 _ (List.mem_of_getElem? (i := 21) rfl)
theorem m_0_22 : Cond.classLink RX4 17 RJx4a65c ∈ WALL := wi_0 _ (List.mem_of_getElem? (i := 22) rfl)
theorem m_0_23 : Cond.instantiable RJx4a65c 3 ∈ WALL := wi_0 _ (List.mem_of_getElem? (i := 23) rfl)
theorem m_0_24 : Cond.initialized RJx4a65c ∈ WALL := wi_0 _ (List.mem_of_getElem? (i := 24) rfl)
theorem wi_1 : ∀ w ∈ wa_1, w ∈ WALL := fun _ h => List.mem_append_right _ (List.mem_append_left _ (h))
theorem m_1_0 : Cond.fieldLink RX4 20 "LampRhythms" "patterns" "Ljava/util/ArrayList;" ∈ WALL := wi_1 _ (List.mem_of_getElem? (i := 0) rfl)
theorem m_1_1 : Cond.fieldLink RX4 24 "LampRhythms" "lamps" "Ljava/util/ArrayList;" ∈ WALL := wi_1 _ (List.mem_of_getElem? (i := 1) rfl)
theorem m_1_2 : Cond.fieldLink RX4 27 "LampRhythms" "told" "Ljava/util/ArrayList;" ∈ WALL := wi_1 _ (List.mem_of_getElem? (i := 2) rfl)
theorem m_1_3 : Cond.fieldLink RX4 30 "LampRhythms" "charts" "Ljava/util/ArrayList;" ∈ WALL := wi_1 _ (List.mem_of_getElem? (i := 3) rfl)
theorem m_1_4 : Cond.methodLink RX4 19 yJx4a65c_init_da8c8 ∈ WALL := wi_1 _ (List.mem_of_getElem? (i := 4) rfl)
theorem m_1_5 : Cond.instanceMethod yJx4a65c_init_da8c8 ∈ WALL := wi_1 _ (List.mem_of_getElem? (i := 5) rfl)
theorem m_1_6 : Cond.code yJx4a65c_init_da8c8 cJx4a65c_init_da8c8 1 none ∈ WALL := wi_1 _ (List.mem_of_getElem? (i := 6) rfl)
theorem m_1_7 : Cond.fieldLink RJx4a65c 39 "java/util/ArrayList" "DEFAULTCAPACITY_EMPTY_ELEMENTDATA" "[Ljava/lang/Object;" ∈ WALL := wi_1 _ (List.mem_of_getElem? (i := 7) rfl)
theorem m_1_8 : Cond.fieldLink RJx4a65c 9 "java/util/ArrayList" "elementData" "[Ljava/lang/Object;" ∈ WALL := wi_1 _ (List.mem_of_getElem? (i := 8) rfl)
theorem m_1_9 : Cond.methodLink RJx4a65c 1 yJxc12de_init_da8c8 ∈ WALL := wi_1 _ (List.mem_of_getElem? (i := 9) rfl)
theorem m_1_10 : Cond.instanceMethod yJxc12de_init_da8c8 ∈ WALL := wi_1 _ (List.mem_of_getElem? (i := 10) rfl)
theorem m_1_11 : Cond.initialized RJxc12de ∈ WALL := wi_1 _ (List.mem_of_getElem? (i := 11) rfl)
theorem m_1_12 : Cond.code yJxc12de_init_da8c8 cJxc12de_init_da8c8 1 none ∈ WALL := wi_1 _ (List.mem_of_getElem? (i := 12) rfl)
theorem m_1_13 : Cond.fieldLink RJxc12de 7 "java/util/AbstractList" "modCount" "I" ∈ WALL := wi_1 _ (List.mem_of_getElem? (i := 13) rfl)
theorem m_1_14 : Cond.methodLink RJxc12de 1 yJxa1e45_init_da8c8 ∈ WALL := wi_1 _ (List.mem_of_getElem? (i := 14) rfl)
theorem m_1_15 : Cond.instanceMethod yJxa1e45_init_da8c8 ∈ WALL := wi_1 _ (List.mem_of_getElem? (i := 15) rfl)
theorem m_1_16 : Cond.initialized RJxa1e45 ∈ WALL := wi_1 _ (List.mem_of_getElem? (i := 16) rfl)
theorem m_1_17 : Cond.code yJxa1e45_init_da8c8 cJxa1e45_init_da8c8 1 none ∈ WALL := wi_1 _ (List.mem_of_getElem? (i := 17) rfl)
theorem m_1_18 : Cond.methodLink RJxa1e45 1 objectInit ∈ WALL := wi_1 _ (List.mem_of_getElem? (i := 18) rfl)
theorem m_1_19 : Cond.methodLink RL 96 yL_refuses ∈ WALL := wi_1 _ (List.mem_of_getElem? (i := 19) rfl)
theorem m_1_20 : Cond.static yL_refuses ∈ WALL := wi_1 _ (List.mem_of_getElem? (i := 20) rfl)
theorem m_1_21 : Cond.code yL_refuses cL_refuses 16 (some .boolean) ∈ WALL := wi_1 _ (List.mem_of_getElem? (i := 21) rfl)
theorem m_1_22 : Cond.constant RL 81 (2147483647) ∈ WALL := wi_1 _ (List.mem_of_getElem? (i := 22) rfl)
theorem m_1_23 : Cond.constant RL 94 (100001) ∈ WALL := wi_1 _ (List.mem_of_getElem? (i := 23) rfl)
theorem m_1_24 : Cond.methodLink RL 75 yX4_notices ∈ WALL := wi_1 _ (List.mem_of_getElem? (i := 24) rfl)
theorem wi_2 : ∀ w ∈ wa_2, w ∈ WALL := fun _ h => List.mem_append_right _ (List.mem_append_right _ (List.mem_append_left _ (h)))
theorem m_2_0 : Cond.instanceMethod yX4_notices ∈ WALL := wi_2 _ (List.mem_of_getElem? (i := 0) rfl)
theorem m_2_1 : Cond.selects RX4 yX4_notices yX4_notices ∈ WALL := wi_2 _ (List.mem_of_getElem? (i := 1) rfl)
theorem m_2_2 : Cond.code yX4_notices cX4_notices 1 (some .int) ∈ WALL := wi_2 _ (List.mem_of_getElem? (i := 2) rfl)
theorem m_2_3 : Cond.methodLink RX4 46 yJx4a65c_size_8abf5 ∈ WALL := wi_2 _ (List.mem_of_getElem? (i := 3) rfl)
theorem m_2_4 : Cond.instanceMethod yJx4a65c_size_8abf5 ∈ WALL := wi_2 _ (List.mem_of_getElem? (i := 4) rfl)
theorem m_2_5 : Cond.selects RJx4a65c yJx4a65c_size_8abf5 yJx4a65c_size_8abf5 ∈ WALL := wi_2 _ (List.mem_of_getElem? (i := 5) rfl)
theorem m_2_6 : Cond.code yJx4a65c_size_8abf5 cJx4a65c_size_8abf5 1 (some .int) ∈ WALL := wi_2 _ (List.mem_of_getElem? (i := 6) rfl)
theorem m_2_7 : Cond.fieldLink RJx4a65c 48 "java/util/ArrayList" "size" "I" ∈ WALL := wi_2 _ (List.mem_of_getElem? (i := 7) rfl)
theorem m_2_8 : Cond.methodLink RL 78 yX4_clashes ∈ WALL := wi_2 _ (List.mem_of_getElem? (i := 8) rfl)
theorem m_2_9 : Cond.instanceMethod yX4_clashes ∈ WALL := wi_2 _ (List.mem_of_getElem? (i := 9) rfl)
theorem m_2_10 : Cond.selects RX4 yX4_clashes yX4_clashes ∈ WALL := wi_2 _ (List.mem_of_getElem? (i := 10) rfl)
theorem m_2_11 : Cond.code yX4_clashes cX4_clashes 4 (some .int) ∈ WALL := wi_2 _ (List.mem_of_getElem? (i := 11) rfl)
theorem m_2_12 : Cond.classLink RX4 91 "LampRhythms$Lamp" ∈ WALL := wi_2 _ (List.mem_of_getElem? (i := 12) rfl)
theorem m_2_13 : Cond.methodLink RX4 139 yJx4a65c_get_915e3 ∈ WALL := wi_2 _ (List.mem_of_getElem? (i := 13) rfl)
theorem m_2_14 : Cond.instanceMethod yJx4a65c_get_915e3 ∈ WALL := wi_2 _ (List.mem_of_getElem? (i := 14) rfl)
theorem m_2_15 : Cond.selects RJx4a65c yJx4a65c_get_915e3 yJx4a65c_get_915e3 ∈ WALL := wi_2 _ (List.mem_of_getElem? (i := 15) rfl)
theorem m_2_16 : Cond.code yJx4a65c_get_915e3 cJx4a65c_get_915e3 2 (some (.object "java/lang/Object")) ∈ WALL := wi_2 _ (List.mem_of_getElem? (i := 16) rfl)
theorem m_2_17 : Cond.methodLink RJx4a65c 118 yJ15_checkIndex_7cf53 ∈ WALL := wi_2 _ (List.mem_of_getElem? (i := 17) rfl)
theorem m_2_18 : Cond.static yJ15_checkIndex_7cf53 ∈ WALL := wi_2 _ (List.mem_of_getElem? (i := 18) rfl)
theorem m_2_19 : Cond.initialized RJ15 ∈ WALL := wi_2 _ (List.mem_of_getElem? (i := 19) rfl)
theorem m_2_20 : Cond.code yJ15_checkIndex_7cf53 cJ15_checkIndex_7cf53 2 (some .int) ∈ WALL := wi_2 _ (List.mem_of_getElem? (i := 20) rfl)
theorem m_2_21 : Cond.methodLink RJ15 105 yJ3_checkIndex_8e157 ∈ WALL := wi_2 _ (List.mem_of_getElem? (i := 21) rfl)
theorem m_2_22 : Cond.static yJ3_checkIndex_8e157 ∈ WALL := wi_2 _ (List.mem_of_getElem? (i := 22) rfl)
theorem m_2_23 : Cond.initialized RJ3 ∈ WALL := wi_2 _ (List.mem_of_getElem? (i := 23) rfl)
theorem m_2_24 : Cond.code yJ3_checkIndex_8e157 cJ3_checkIndex_8e157 3 (some .int) ∈ WALL := wi_2 _ (List.mem_of_getElem? (i := 24) rfl)
theorem wi_3 : ∀ w ∈ wa_3, w ∈ WALL := fun _ h => List.mem_append_right _ (List.mem_append_right _ (List.mem_append_right _ (List.mem_append_left _ (h))))
theorem m_3_0 : Cond.methodLink RJx4a65c 123 yJx4a65c_elementData_915e3 ∈ WALL := wi_3 _ (List.mem_of_getElem? (i := 0) rfl)
theorem m_3_1 : Cond.instanceMethod yJx4a65c_elementData_915e3 ∈ WALL := wi_3 _ (List.mem_of_getElem? (i := 1) rfl)
theorem m_3_2 : Cond.selects RJx4a65c yJx4a65c_elementData_915e3 yJx4a65c_elementData_915e3 ∈ WALL := wi_3 _ (List.mem_of_getElem? (i := 2) rfl)
theorem m_3_3 : Cond.code yJx4a65c_elementData_915e3 cJx4a65c_elementData_915e3 2 (some (.object "java/lang/Object")) ∈ WALL := wi_3 _ (List.mem_of_getElem? (i := 3) rfl)
theorem m_3_4 : Cond.methodLink RX4 143 yX4_clash ∈ WALL := wi_3 _ (List.mem_of_getElem? (i := 4) rfl)
theorem m_3_5 : Cond.instanceMethod yX4_clash ∈ WALL := wi_3 _ (List.mem_of_getElem? (i := 5) rfl)
theorem m_3_6 : Cond.selects RX4 yX4_clash yX4_clash ∈ WALL := wi_3 _ (List.mem_of_getElem? (i := 6) rfl)
theorem m_3_7 : Cond.code yX4_clash cX4_clash 3 (some .boolean) ∈ WALL := wi_3 _ (List.mem_of_getElem? (i := 7) rfl)
theorem m_3_8 : Cond.fieldLink RX4 104 "LampRhythms$Lamp" "pattern" "I" ∈ WALL := wi_3 _ (List.mem_of_getElem? (i := 8) rfl)
theorem m_3_9 : Cond.methodLink RX4 67 yX4_patternAt ∈ WALL := wi_3 _ (List.mem_of_getElem? (i := 9) rfl)
theorem m_3_10 : Cond.instanceMethod yX4_patternAt ∈ WALL := wi_3 _ (List.mem_of_getElem? (i := 10) rfl)
theorem m_3_11 : Cond.selects RX4 yX4_patternAt yX4_patternAt ∈ WALL := wi_3 _ (List.mem_of_getElem? (i := 11) rfl)
theorem m_3_12 : Cond.code yX4_patternAt cX4_patternAt 2 (some (.object "LampRhythms$Pattern")) ∈ WALL := wi_3 _ (List.mem_of_getElem? (i := 12) rfl)
theorem m_3_13 : Cond.classLink RX4 52 "LampRhythms$Pattern" ∈ WALL := wi_3 _ (List.mem_of_getElem? (i := 13) rfl)
theorem m_3_14 : Cond.methodLink RX4 81 yX4_requirePattern ∈ WALL := wi_3 _ (List.mem_of_getElem? (i := 14) rfl)
theorem m_3_15 : Cond.instanceMethod yX4_requirePattern ∈ WALL := wi_3 _ (List.mem_of_getElem? (i := 15) rfl)
theorem m_3_16 : Cond.selects RX4 yX4_requirePattern yX4_requirePattern ∈ WALL := wi_3 _ (List.mem_of_getElem? (i := 16) rfl)
theorem m_3_17 : Cond.code yX4_requirePattern cX4_requirePattern 2 none ∈ WALL := wi_3 _ (List.mem_of_getElem? (i := 17) rfl)
theorem m_3_18 : Cond.classLink RX4 188 "java/lang/IndexOutOfBoundsException" ∈ WALL := wi_3 _ (List.mem_of_getElem? (i := 18) rfl)
theorem m_3_19 : Cond.initialized "java/lang/IndexOutOfBoundsException" ∈ WALL := wi_3 _ (List.mem_of_getElem? (i := 19) rfl)
theorem m_3_20 : Cond.methodLink RX4 74 yX3_hasPhasesOf ∈ WALL := wi_3 _ (List.mem_of_getElem? (i := 20) rfl)
theorem m_3_21 : Cond.instanceMethod yX3_hasPhasesOf ∈ WALL := wi_3 _ (List.mem_of_getElem? (i := 21) rfl)
theorem m_3_22 : Cond.selects RX3 yX3_hasPhasesOf yX3_hasPhasesOf ∈ WALL := wi_3 _ (List.mem_of_getElem? (i := 22) rfl)
theorem m_3_23 : Cond.initialized RX3 ∈ WALL := wi_3 _ (List.mem_of_getElem? (i := 23) rfl)
theorem m_3_24 : Cond.code yX3_hasPhasesOf cX3_hasPhasesOf 3 (some .boolean) ∈ WALL := wi_3 _ (List.mem_of_getElem? (i := 24) rfl)
theorem wi_4 : ∀ w ∈ wa_4, w ∈ WALL := fun _ h => List.mem_append_right _ (List.mem_append_right _ (List.mem_append_right _ (List.mem_append_right _ (List.mem_append_left _ (h)))))
theorem m_4_0 : Cond.fieldLink RX3 27 "LampRhythms$Pattern" "cycle" "[I" ∈ WALL := wi_4 _ (List.mem_of_getElem? (i := 0) rfl)
theorem m_4_1 : Cond.methodLink RX3 35 yX3_hasPhasesTurned ∈ WALL := wi_4 _ (List.mem_of_getElem? (i := 1) rfl)
theorem m_4_2 : Cond.instanceMethod yX3_hasPhasesTurned ∈ WALL := wi_4 _ (List.mem_of_getElem? (i := 2) rfl)
theorem m_4_3 : Cond.selects RX3 yX3_hasPhasesTurned yX3_hasPhasesTurned ∈ WALL := wi_4 _ (List.mem_of_getElem? (i := 3) rfl)
theorem m_4_4 : Cond.code yX3_hasPhasesTurned cX3_hasPhasesTurned 4 (some .boolean) ∈ WALL := wi_4 _ (List.mem_of_getElem? (i := 4) rfl)
theorem m_4_5 : Cond.methodLink RX4 135 yX1_placesSharedWith ∈ WALL := wi_4 _ (List.mem_of_getElem? (i := 5) rfl)
theorem m_4_6 : Cond.instanceMethod yX1_placesSharedWith ∈ WALL := wi_4 _ (List.mem_of_getElem? (i := 6) rfl)
theorem m_4_7 : Cond.selects RX1 yX1_placesSharedWith yX1_placesSharedWith ∈ WALL := wi_4 _ (List.mem_of_getElem? (i := 7) rfl)
theorem m_4_8 : Cond.initialized RX1 ∈ WALL := wi_4 _ (List.mem_of_getElem? (i := 8) rfl)
theorem m_4_9 : Cond.code yX1_placesSharedWith cX1_placesSharedWith 4 (some .int) ∈ WALL := wi_4 _ (List.mem_of_getElem? (i := 9) rfl)
theorem m_4_10 : Cond.fieldLink RX1 29 "LampRhythms$Lamp" "sight" "[I" ∈ WALL := wi_4 _ (List.mem_of_getElem? (i := 10) rfl)
theorem m_4_11 : Cond.methodLink RX1 49 yJ6_bitCount_0f7a4 ∈ WALL := wi_4 _ (List.mem_of_getElem? (i := 11) rfl)
theorem m_4_12 : Cond.static yJ6_bitCount_0f7a4 ∈ WALL := wi_4 _ (List.mem_of_getElem? (i := 12) rfl)
theorem m_4_13 : Cond.initialized RJ6 ∈ WALL := wi_4 _ (List.mem_of_getElem? (i := 13) rfl)
theorem m_4_14 : Cond.code yJ6_bitCount_0f7a4 cJ6_bitCount_0f7a4 1 (some .int) ∈ WALL := wi_4 _ (List.mem_of_getElem? (i := 14) rfl)
theorem m_4_15 : Cond.constant RJ6 265 (1431655765) ∈ WALL := wi_4 _ (List.mem_of_getElem? (i := 15) rfl)
theorem m_4_16 : Cond.constant RJ6 266 (858993459) ∈ WALL := wi_4 _ (List.mem_of_getElem? (i := 16) rfl)
theorem m_4_17 : Cond.constant RJ6 267 (252645135) ∈ WALL := wi_4 _ (List.mem_of_getElem? (i := 17) rfl)
theorem m_4_18 : Cond.methodLink RL 82 yL_act ∈ WALL := wi_4 _ (List.mem_of_getElem? (i := 18) rfl)
theorem m_4_19 : Cond.static yL_act ∈ WALL := wi_4 _ (List.mem_of_getElem? (i := 19) rfl)
theorem m_4_20 : Cond.codeWith yL_act cL_act 6 (some .int) [(0, 249, 250, 61), (0, 249, 255, 63), (0, 249, 260, 65)] ∈ WALL := wi_4 _ (List.mem_of_getElem? (i := 20) rfl)
theorem m_4_21 : Cond.classLink RL 61 "java/lang/IndexOutOfBoundsException" ∈ WALL := wi_4 _ (List.mem_of_getElem? (i := 21) rfl)
theorem m_4_22 : Cond.classLink RL 63 "java/lang/IllegalArgumentException" ∈ WALL := wi_4 _ (List.mem_of_getElem? (i := 22) rfl)
theorem m_4_23 : Cond.classLink RL 65 "java/lang/IllegalStateException" ∈ WALL := wi_4 _ (List.mem_of_getElem? (i := 23) rfl)
theorem m_4_24 : Cond.methodLink RL 7 yX4_phase ∈ WALL := wi_4 _ (List.mem_of_getElem? (i := 24) rfl)
theorem wi_5 : ∀ w ∈ wa_5, w ∈ WALL := fun _ h => List.mem_append_right _ (List.mem_append_right _ (List.mem_append_right _ (List.mem_append_right _ (List.mem_append_right _ (List.mem_append_left _ (h))))))
theorem m_5_0 : Cond.instanceMethod yX4_phase ∈ WALL := wi_5 _ (List.mem_of_getElem? (i := 0) rfl)
theorem m_5_1 : Cond.selects RX4 yX4_phase yX4_phase ∈ WALL := wi_5 _ (List.mem_of_getElem? (i := 1) rfl)
theorem m_5_2 : Cond.code yX4_phase cX4_phase 2 (some .int) ∈ WALL := wi_5 _ (List.mem_of_getElem? (i := 2) rfl)
theorem m_5_3 : Cond.classLink RX4 37 "java/lang/IllegalStateException" ∈ WALL := wi_5 _ (List.mem_of_getElem? (i := 3) rfl)
theorem m_5_4 : Cond.initialized "java/lang/IllegalStateException" ∈ WALL := wi_5 _ (List.mem_of_getElem? (i := 4) rfl)
theorem m_5_5 : Cond.methodLink RX4 33 yX4_requireWithin ∈ WALL := wi_5 _ (List.mem_of_getElem? (i := 5) rfl)
theorem m_5_6 : Cond.static yX4_requireWithin ∈ WALL := wi_5 _ (List.mem_of_getElem? (i := 6) rfl)
theorem m_5_7 : Cond.code yX4_requireWithin cX4_requireWithin 3 none ∈ WALL := wi_5 _ (List.mem_of_getElem? (i := 7) rfl)
theorem m_5_8 : Cond.classLink RX4 183 "java/lang/IllegalArgumentException" ∈ WALL := wi_5 _ (List.mem_of_getElem? (i := 8) rfl)
theorem m_5_9 : Cond.initialized "java/lang/IllegalArgumentException" ∈ WALL := wi_5 _ (List.mem_of_getElem? (i := 9) rfl)
theorem m_5_10 : Cond.methodLink RL 13 yX4_pattern ∈ WALL := wi_5 _ (List.mem_of_getElem? (i := 10) rfl)
theorem m_5_11 : Cond.instanceMethod yX4_pattern ∈ WALL := wi_5 _ (List.mem_of_getElem? (i := 11) rfl)
theorem m_5_12 : Cond.selects RX4 yX4_pattern yX4_pattern ∈ WALL := wi_5 _ (List.mem_of_getElem? (i := 12) rfl)
theorem m_5_13 : Cond.code yX4_pattern cX4_pattern 1 (some .int) ∈ WALL := wi_5 _ (List.mem_of_getElem? (i := 13) rfl)
theorem m_5_14 : Cond.classLink RX4 52 RX3 ∈ WALL := wi_5 _ (List.mem_of_getElem? (i := 14) rfl)
theorem m_5_15 : Cond.instantiable RX3 3 ∈ WALL := wi_5 _ (List.mem_of_getElem? (i := 15) rfl)
theorem m_5_16 : Cond.methodLink RX4 54 yJ7_copyOf_59c91 ∈ WALL := wi_5 _ (List.mem_of_getElem? (i := 16) rfl)
theorem m_5_17 : Cond.static yJ7_copyOf_59c91 ∈ WALL := wi_5 _ (List.mem_of_getElem? (i := 17) rfl)
theorem m_5_18 : Cond.initialized RJ7 ∈ WALL := wi_5 _ (List.mem_of_getElem? (i := 18) rfl)
theorem m_5_19 : Cond.code yJ7_copyOf_59c91 cJ7_copyOf_59c91 3 (some (.array .int)) ∈ WALL := wi_5 _ (List.mem_of_getElem? (i := 19) rfl)
theorem m_5_20 : Cond.methodLink RJ7 316 ⟨"[I", "clone", "()Ljava/lang/Object;"⟩ ∈ WALL := wi_5 _ (List.mem_of_getElem? (i := 20) rfl)
theorem m_5_21 : Cond.sameMethod "[I" "java/lang/Object" "clone" "()Ljava/lang/Object;" ∈ WALL := wi_5 _ (List.mem_of_getElem? (i := 21) rfl)
theorem m_5_22 : Cond.native ⟨"java/lang/Object", "clone", "()Ljava/lang/Object;"⟩ ∈ WALL := wi_5 _ (List.mem_of_getElem? (i := 22) rfl)
theorem m_5_23 : Cond.instanceMethod ⟨"java/lang/Object", "clone", "()Ljava/lang/Object;"⟩ ∈ WALL := wi_5 _ (List.mem_of_getElem? (i := 23) rfl)
theorem m_5_24 : Cond.selects "[I" ⟨"[I", "clone", "()Ljava/lang/Object;"⟩ ⟨"java/lang/Object", "clone", "()Ljava/lang/Object;"⟩ ∈ WALL := wi_5 _ (List.mem_of_getElem? (i := 24) rfl)
theorem wi_6 : ∀ w ∈ wa_6, w ∈ WALL := fun _ h => List.mem_append_right _ (List.mem_append_right _ (List.mem_append_right _ (List.mem_append_right _ (List.mem_append_right _ (List.mem_append_right _ (List.mem_append_left _ (h)))))))
theorem m_6_0 : Cond.classLink RJ7 317 "[I" ∈ WALL := wi_6 _ (List.mem_of_getElem? (i := 0) rfl)
theorem m_6_1 : Cond.methodLink RJ7 304 Lib.Math.min.name ∈ WALL := wi_6 _ (List.mem_of_getElem? (i := 1) rfl)
theorem m_6_2 : Cond.static Lib.Math.min.name ∈ WALL := wi_6 _ (List.mem_of_getElem? (i := 2) rfl)
theorem m_6_3 : Cond.initialized "java/lang/Math" ∈ WALL := wi_6 _ (List.mem_of_getElem? (i := 3) rfl)
theorem m_6_4 : Cond.code Lib.Math.min.name Lib.Math.min.code 2 (some .int) ∈ WALL := wi_6 _ (List.mem_of_getElem? (i := 4) rfl)
theorem m_6_5 : Cond.methodLink RJ7 150 arraycopyName ∈ WALL := wi_6 _ (List.mem_of_getElem? (i := 5) rfl)
theorem m_6_6 : Cond.native arraycopyName ∈ WALL := wi_6 _ (List.mem_of_getElem? (i := 6) rfl)
theorem m_6_7 : Cond.static arraycopyName ∈ WALL := wi_6 _ (List.mem_of_getElem? (i := 7) rfl)
theorem m_6_8 : Cond.initialized "java/lang/System" ∈ WALL := wi_6 _ (List.mem_of_getElem? (i := 8) rfl)
theorem m_6_9 : Cond.methodLink RX4 60 yX3_init ∈ WALL := wi_6 _ (List.mem_of_getElem? (i := 9) rfl)
theorem m_6_10 : Cond.instanceMethod yX3_init ∈ WALL := wi_6 _ (List.mem_of_getElem? (i := 10) rfl)
theorem m_6_11 : Cond.code yX3_init cX3_init 7 none ∈ WALL := wi_6 _ (List.mem_of_getElem? (i := 11) rfl)
theorem m_6_12 : Cond.methodLink RX3 1 objectInit ∈ WALL := wi_6 _ (List.mem_of_getElem? (i := 12) rfl)
theorem m_6_13 : Cond.fieldLink RX3 7 "LampRhythms$Pattern" "period" "I" ∈ WALL := wi_6 _ (List.mem_of_getElem? (i := 13) rfl)
theorem m_6_14 : Cond.fieldLink RX3 13 "LampRhythms$Pattern" "light" "J" ∈ WALL := wi_6 _ (List.mem_of_getElem? (i := 14) rfl)
theorem m_6_15 : Cond.methodLink RX3 17 yX3_fewestOf ∈ WALL := wi_6 _ (List.mem_of_getElem? (i := 15) rfl)
theorem m_6_16 : Cond.static yX3_fewestOf ∈ WALL := wi_6 _ (List.mem_of_getElem? (i := 16) rfl)
theorem m_6_17 : Cond.code yX3_fewestOf cX3_fewestOf 2 (some .int) ∈ WALL := wi_6 _ (List.mem_of_getElem? (i := 17) rfl)
theorem m_6_18 : Cond.methodLink RX3 31 yX3_repeatsAfter ∈ WALL := wi_6 _ (List.mem_of_getElem? (i := 18) rfl)
theorem m_6_19 : Cond.static yX3_repeatsAfter ∈ WALL := wi_6 _ (List.mem_of_getElem? (i := 19) rfl)
theorem m_6_20 : Cond.code yX3_repeatsAfter cX3_repeatsAfter 3 (some .boolean) ∈ WALL := wi_6 _ (List.mem_of_getElem? (i := 20) rfl)
theorem m_6_21 : Cond.methodLink RX3 21 yJ7_copyOf_59c91 ∈ WALL := wi_6 _ (List.mem_of_getElem? (i := 21) rfl)
theorem m_6_22 : Cond.methodLink RX4 63 yJx4a65c_add_9ea2d ∈ WALL := wi_6 _ (List.mem_of_getElem? (i := 22) rfl)
theorem m_6_23 : Cond.instanceMethod yJx4a65c_add_9ea2d ∈ WALL := wi_6 _ (List.mem_of_getElem? (i := 23) rfl)
theorem m_6_24 : Cond.selects RJx4a65c yJx4a65c_add_9ea2d yJx4a65c_add_9ea2d ∈ WALL := wi_6 _ (List.mem_of_getElem? (i := 24) rfl)
theorem wi_7 : ∀ w ∈ wa_7, w ∈ WALL := fun _ h => List.mem_append_right _ (List.mem_append_right _ (List.mem_append_right _ (List.mem_append_right _ (List.mem_append_right _ (List.mem_append_right _ (List.mem_append_right _ (List.mem_append_left _ (h))))))))
theorem m_7_0 : Cond.code yJx4a65c_add_9ea2d cJx4a65c_add_9ea2d 2 (some .boolean) ∈ WALL := wi_7 _ (List.mem_of_getElem? (i := 0) rfl)
theorem m_7_1 : Cond.fieldLink RJx4a65c 63 "java/util/ArrayList" "modCount" "I" ∈ WALL := wi_7 _ (List.mem_of_getElem? (i := 1) rfl)
theorem m_7_2 : Cond.sameField "java/util/ArrayList" "java/util/AbstractList" "modCount" "I" ∈ WALL := wi_7 _ (List.mem_of_getElem? (i := 2) rfl)
theorem m_7_3 : Cond.methodLink RJx4a65c 131 yJx4a65c_add_72be8 ∈ WALL := wi_7 _ (List.mem_of_getElem? (i := 3) rfl)
theorem m_7_4 : Cond.instanceMethod yJx4a65c_add_72be8 ∈ WALL := wi_7 _ (List.mem_of_getElem? (i := 4) rfl)
theorem m_7_5 : Cond.selects RJx4a65c yJx4a65c_add_72be8 yJx4a65c_add_72be8 ∈ WALL := wi_7 _ (List.mem_of_getElem? (i := 5) rfl)
theorem m_7_6 : Cond.code yJx4a65c_add_72be8 cJx4a65c_add_72be8 4 none ∈ WALL := wi_7 _ (List.mem_of_getElem? (i := 6) rfl)
theorem m_7_7 : Cond.methodLink RJx4a65c 129 yJx4a65c_grow_d5877 ∈ WALL := wi_7 _ (List.mem_of_getElem? (i := 7) rfl)
theorem m_7_8 : Cond.instanceMethod yJx4a65c_grow_d5877 ∈ WALL := wi_7 _ (List.mem_of_getElem? (i := 8) rfl)
theorem m_7_9 : Cond.selects RJx4a65c yJx4a65c_grow_d5877 yJx4a65c_grow_d5877 ∈ WALL := wi_7 _ (List.mem_of_getElem? (i := 9) rfl)
theorem m_7_10 : Cond.code yJx4a65c_grow_d5877 cJx4a65c_grow_d5877 1 (some (.array (.object "java/lang/Object"))) ∈ WALL := wi_7 _ (List.mem_of_getElem? (i := 10) rfl)
theorem m_7_11 : Cond.methodLink RJx4a65c 69 yJx4a65c_grow_92f84 ∈ WALL := wi_7 _ (List.mem_of_getElem? (i := 11) rfl)
theorem m_7_12 : Cond.instanceMethod yJx4a65c_grow_92f84 ∈ WALL := wi_7 _ (List.mem_of_getElem? (i := 12) rfl)
theorem m_7_13 : Cond.selects RJx4a65c yJx4a65c_grow_92f84 yJx4a65c_grow_92f84 ∈ WALL := wi_7 _ (List.mem_of_getElem? (i := 13) rfl)
theorem m_7_14 : Cond.code yJx4a65c_grow_92f84 cJx4a65c_grow_92f84 4 (some (.array (.object "java/lang/Object"))) ∈ WALL := wi_7 _ (List.mem_of_getElem? (i := 14) rfl)
theorem m_7_15 : Cond.methodLink RJx4a65c 79 Lib.Math.max.name ∈ WALL := wi_7 _ (List.mem_of_getElem? (i := 15) rfl)
theorem m_7_16 : Cond.static Lib.Math.max.name ∈ WALL := wi_7 _ (List.mem_of_getElem? (i := 16) rfl)
theorem m_7_17 : Cond.code Lib.Math.max.name Lib.Math.max.code 2 (some .int) ∈ WALL := wi_7 _ (List.mem_of_getElem? (i := 17) rfl)
theorem m_7_18 : Cond.classLink RJx4a65c 7 "java/lang/Object" ∈ WALL := wi_7 _ (List.mem_of_getElem? (i := 18) rfl)
theorem m_7_19 : Cond.methodLink RJx4a65c 73 yJ8_newLength_cabcc ∈ WALL := wi_7 _ (List.mem_of_getElem? (i := 19) rfl)
theorem m_7_20 : Cond.static yJ8_newLength_cabcc ∈ WALL := wi_7 _ (List.mem_of_getElem? (i := 20) rfl)
theorem m_7_21 : Cond.initialized RJ8 ∈ WALL := wi_7 _ (List.mem_of_getElem? (i := 21) rfl)
theorem m_7_22 : Cond.code yJ8_newLength_cabcc cJ8_newLength_cabcc 4 (some .int) ∈ WALL := wi_7 _ (List.mem_of_getElem? (i := 22) rfl)
theorem m_7_23 : Cond.methodLink RJ8 194 Lib.Math.max.name ∈ WALL := wi_7 _ (List.mem_of_getElem? (i := 23) rfl)
theorem m_7_24 : Cond.constant RJ8 200 (2147483639) ∈ WALL := wi_7 _ (List.mem_of_getElem? (i := 24) rfl)
theorem wi_8 : ∀ w ∈ wa_8, w ∈ WALL := fun _ h => List.mem_append_right _ (List.mem_append_right _ (List.mem_append_right _ (List.mem_append_right _ (List.mem_append_right _ (List.mem_append_right _ (List.mem_append_right _ (List.mem_append_right _ (List.mem_append_left _ (h)))))))))
theorem m_8_0 : Cond.methodLink RJ8 201 yJ8_hugeLength_7cf53 ∈ WALL := wi_8 _ (List.mem_of_getElem? (i := 0) rfl)
theorem m_8_1 : Cond.static yJ8_hugeLength_7cf53 ∈ WALL := wi_8 _ (List.mem_of_getElem? (i := 1) rfl)
theorem m_8_2 : Cond.code yJ8_hugeLength_7cf53 cJ8_hugeLength_7cf53 3 (some .int) ∈ WALL := wi_8 _ (List.mem_of_getElem? (i := 2) rfl)
theorem m_8_3 : Cond.methodLink RJx4a65c 66 yJ7_copyOf_1904c ∈ WALL := wi_8 _ (List.mem_of_getElem? (i := 3) rfl)
theorem m_8_4 : Cond.static yJ7_copyOf_1904c ∈ WALL := wi_8 _ (List.mem_of_getElem? (i := 4) rfl)
theorem m_8_5 : Cond.code yJ7_copyOf_1904c cJ7_copyOf_1904c 2 (some (.array (.object "java/lang/Object"))) ∈ WALL := wi_8 _ (List.mem_of_getElem? (i := 5) rfl)
theorem m_8_6 : Cond.methodLink RJ7 86 ⟨"java/lang/Object", "getClass", "()Ljava/lang/Class;"⟩ ∈ WALL := wi_8 _ (List.mem_of_getElem? (i := 6) rfl)
theorem m_8_7 : Cond.selects "[Ljava/lang/Object;" ⟨"java/lang/Object", "getClass", "()Ljava/lang/Class;"⟩ ⟨"java/lang/Object", "getClass", "()Ljava/lang/Class;"⟩ ∈ WALL := wi_8 _ (List.mem_of_getElem? (i := 7) rfl)
theorem m_8_8 : Cond.instanceMethod ⟨"java/lang/Object", "getClass", "()Ljava/lang/Class;"⟩ ∈ WALL := wi_8 _ (List.mem_of_getElem? (i := 8) rfl)
theorem m_8_9 : Cond.native ⟨"java/lang/Object", "getClass", "()Ljava/lang/Class;"⟩ ∈ WALL := wi_8 _ (List.mem_of_getElem? (i := 9) rfl)
theorem m_8_10 : Cond.methodLink RJ7 300 yJ7_copyOf_6403c ∈ WALL := wi_8 _ (List.mem_of_getElem? (i := 10) rfl)
theorem m_8_11 : Cond.static yJ7_copyOf_6403c ∈ WALL := wi_8 _ (List.mem_of_getElem? (i := 11) rfl)
theorem m_8_12 : Cond.code yJ7_copyOf_6403c cJ7_copyOf_6403c 4 (some (.array (.object "java/lang/Object"))) ∈ WALL := wi_8 _ (List.mem_of_getElem? (i := 12) rfl)
theorem m_8_13 : Cond.classLink RJ7 110 "[Ljava/lang/Object;" ∈ WALL := wi_8 _ (List.mem_of_getElem? (i := 13) rfl)
theorem m_8_14 : Cond.classLink RJ7 2 "java/lang/Object" ∈ WALL := wi_8 _ (List.mem_of_getElem? (i := 14) rfl)
theorem m_8_15 : Cond.methodLink RL 17 yX4_period ∈ WALL := wi_8 _ (List.mem_of_getElem? (i := 15) rfl)
theorem m_8_16 : Cond.instanceMethod yX4_period ∈ WALL := wi_8 _ (List.mem_of_getElem? (i := 16) rfl)
theorem m_8_17 : Cond.selects RX4 yX4_period yX4_period ∈ WALL := wi_8 _ (List.mem_of_getElem? (i := 17) rfl)
theorem m_8_18 : Cond.code yX4_period cX4_period 2 (some .int) ∈ WALL := wi_8 _ (List.mem_of_getElem? (i := 18) rfl)
theorem m_8_19 : Cond.fieldLink RX4 71 "LampRhythms$Pattern" "period" "I" ∈ WALL := wi_8 _ (List.mem_of_getElem? (i := 19) rfl)
theorem m_8_20 : Cond.methodLink RL 20 yX4_areAlike ∈ WALL := wi_8 _ (List.mem_of_getElem? (i := 20) rfl)
theorem m_8_21 : Cond.instanceMethod yX4_areAlike ∈ WALL := wi_8 _ (List.mem_of_getElem? (i := 21) rfl)
theorem m_8_22 : Cond.selects RX4 yX4_areAlike yX4_areAlike ∈ WALL := wi_8 _ (List.mem_of_getElem? (i := 22) rfl)
theorem m_8_23 : Cond.code yX4_areAlike cX4_areAlike 3 (some .boolean) ∈ WALL := wi_8 _ (List.mem_of_getElem? (i := 23) rfl)
theorem m_8_24 : Cond.methodLink RL 24 yX4_areAlikeBySeconds ∈ WALL := wi_8 _ (List.mem_of_getElem? (i := 24) rfl)
theorem wi_9 : ∀ w ∈ wa_9, w ∈ WALL := fun _ h => List.mem_append_right _ (List.mem_append_right _ (List.mem_append_right _ (List.mem_append_right _ (List.mem_append_right _ (List.mem_append_right _ (List.mem_append_right _ (List.mem_append_right _ (List.mem_append_right _ (List.mem_append_left _ (h))))))))))
theorem m_9_0 : Cond.instanceMethod yX4_areAlikeBySeconds ∈ WALL := wi_9 _ (List.mem_of_getElem? (i := 0) rfl)
theorem m_9_1 : Cond.selects RX4 yX4_areAlikeBySeconds yX4_areAlikeBySeconds ∈ WALL := wi_9 _ (List.mem_of_getElem? (i := 1) rfl)
theorem m_9_2 : Cond.code yX4_areAlikeBySeconds cX4_areAlikeBySeconds 3 (some .boolean) ∈ WALL := wi_9 _ (List.mem_of_getElem? (i := 2) rfl)
theorem m_9_3 : Cond.methodLink RX4 78 yX3_hasSecondsOf ∈ WALL := wi_9 _ (List.mem_of_getElem? (i := 3) rfl)
theorem m_9_4 : Cond.instanceMethod yX3_hasSecondsOf ∈ WALL := wi_9 _ (List.mem_of_getElem? (i := 4) rfl)
theorem m_9_5 : Cond.selects RX3 yX3_hasSecondsOf yX3_hasSecondsOf ∈ WALL := wi_9 _ (List.mem_of_getElem? (i := 5) rfl)
theorem m_9_6 : Cond.code yX3_hasSecondsOf cX3_hasSecondsOf 3 (some .boolean) ∈ WALL := wi_9 _ (List.mem_of_getElem? (i := 6) rfl)
theorem m_9_7 : Cond.methodLink RX3 38 yX3_hasSecondsLater ∈ WALL := wi_9 _ (List.mem_of_getElem? (i := 7) rfl)
theorem m_9_8 : Cond.instanceMethod yX3_hasSecondsLater ∈ WALL := wi_9 _ (List.mem_of_getElem? (i := 8) rfl)
theorem m_9_9 : Cond.selects RX3 yX3_hasSecondsLater yX3_hasSecondsLater ∈ WALL := wi_9 _ (List.mem_of_getElem? (i := 9) rfl)
theorem m_9_10 : Cond.code yX3_hasSecondsLater cX3_hasSecondsLater 5 (some .boolean) ∈ WALL := wi_9 _ (List.mem_of_getElem? (i := 10) rfl)
theorem m_9_11 : Cond.methodLink RX3 42 yX3_isLight ∈ WALL := wi_9 _ (List.mem_of_getElem? (i := 11) rfl)
theorem m_9_12 : Cond.instanceMethod yX3_isLight ∈ WALL := wi_9 _ (List.mem_of_getElem? (i := 12) rfl)
theorem m_9_13 : Cond.selects RX3 yX3_isLight yX3_isLight ∈ WALL := wi_9 _ (List.mem_of_getElem? (i := 13) rfl)
theorem m_9_14 : Cond.code yX3_isLight cX3_isLight 2 (some .boolean) ∈ WALL := wi_9 _ (List.mem_of_getElem? (i := 14) rfl)
theorem m_9_15 : Cond.methodLink RL 27 yX4_change ∈ WALL := wi_9 _ (List.mem_of_getElem? (i := 15) rfl)
theorem m_9_16 : Cond.instanceMethod yX4_change ∈ WALL := wi_9 _ (List.mem_of_getElem? (i := 16) rfl)
theorem m_9_17 : Cond.selects RX4 yX4_change yX4_change ∈ WALL := wi_9 _ (List.mem_of_getElem? (i := 17) rfl)
theorem m_9_18 : Cond.code yX4_change cX4_change 5 (some .int) ∈ WALL := wi_9 _ (List.mem_of_getElem? (i := 18) rfl)
theorem m_9_19 : Cond.fieldLink RX4 107 "LampRhythms$Lamp" "begins" "I" ∈ WALL := wi_9 _ (List.mem_of_getElem? (i := 19) rfl)
theorem m_9_20 : Cond.methodLink RX4 100 yX4_lampAt ∈ WALL := wi_9 _ (List.mem_of_getElem? (i := 20) rfl)
theorem m_9_21 : Cond.instanceMethod yX4_lampAt ∈ WALL := wi_9 _ (List.mem_of_getElem? (i := 21) rfl)
theorem m_9_22 : Cond.selects RX4 yX4_lampAt yX4_lampAt ∈ WALL := wi_9 _ (List.mem_of_getElem? (i := 22) rfl)
theorem m_9_23 : Cond.code yX4_lampAt cX4_lampAt 2 (some (.object "LampRhythms$Lamp")) ∈ WALL := wi_9 _ (List.mem_of_getElem? (i := 23) rfl)
theorem m_9_24 : Cond.methodLink RX4 169 yX4_requireLamp ∈ WALL := wi_9 _ (List.mem_of_getElem? (i := 24) rfl)
theorem wi_10 : ∀ w ∈ wa_10, w ∈ WALL := fun _ h => List.mem_append_right _ (List.mem_append_right _ (List.mem_append_right _ (List.mem_append_right _ (List.mem_append_right _ (List.mem_append_right _ (List.mem_append_right _ (List.mem_append_right _ (List.mem_append_right _ (List.mem_append_right _ (List.mem_append_left _ (h)))))))))))
theorem m_10_0 : Cond.instanceMethod yX4_requireLamp ∈ WALL := wi_10 _ (List.mem_of_getElem? (i := 0) rfl)
theorem m_10_1 : Cond.selects RX4 yX4_requireLamp yX4_requireLamp ∈ WALL := wi_10 _ (List.mem_of_getElem? (i := 1) rfl)
theorem m_10_2 : Cond.code yX4_requireLamp cX4_requireLamp 2 none ∈ WALL := wi_10 _ (List.mem_of_getElem? (i := 2) rfl)
theorem m_10_3 : Cond.methodLink RX4 96 yX4_tell ∈ WALL := wi_10 _ (List.mem_of_getElem? (i := 3) rfl)
theorem m_10_4 : Cond.instanceMethod yX4_tell ∈ WALL := wi_10 _ (List.mem_of_getElem? (i := 4) rfl)
theorem m_10_5 : Cond.selects RX4 yX4_tell yX4_tell ∈ WALL := wi_10 _ (List.mem_of_getElem? (i := 5) rfl)
theorem m_10_6 : Cond.code yX4_tell cX4_tell 3 (some .int) ∈ WALL := wi_10 _ (List.mem_of_getElem? (i := 6) rfl)
theorem m_10_7 : Cond.classLink RX4 201 RX2 ∈ WALL := wi_10 _ (List.mem_of_getElem? (i := 7) rfl)
theorem m_10_8 : Cond.instantiable RX2 2 ∈ WALL := wi_10 _ (List.mem_of_getElem? (i := 8) rfl)
theorem m_10_9 : Cond.initialized RX2 ∈ WALL := wi_10 _ (List.mem_of_getElem? (i := 9) rfl)
theorem m_10_10 : Cond.fieldLink RX4 110 "LampRhythms$Lamp" "failed" "Z" ∈ WALL := wi_10 _ (List.mem_of_getElem? (i := 10) rfl)
theorem m_10_11 : Cond.methodLink RX4 203 yX2_init ∈ WALL := wi_10 _ (List.mem_of_getElem? (i := 11) rfl)
theorem m_10_12 : Cond.instanceMethod yX2_init ∈ WALL := wi_10 _ (List.mem_of_getElem? (i := 12) rfl)
theorem m_10_13 : Cond.code yX2_init cX2_init 3 none ∈ WALL := wi_10 _ (List.mem_of_getElem? (i := 13) rfl)
theorem m_10_14 : Cond.methodLink RX2 1 objectInit ∈ WALL := wi_10 _ (List.mem_of_getElem? (i := 14) rfl)
theorem m_10_15 : Cond.fieldLink RX2 7 "LampRhythms$Notice" "lamp" "I" ∈ WALL := wi_10 _ (List.mem_of_getElem? (i := 15) rfl)
theorem m_10_16 : Cond.fieldLink RX2 13 "LampRhythms$Notice" "pattern" "I" ∈ WALL := wi_10 _ (List.mem_of_getElem? (i := 16) rfl)
theorem m_10_17 : Cond.methodLink RL 31 yX4_fail ∈ WALL := wi_10 _ (List.mem_of_getElem? (i := 17) rfl)
theorem m_10_18 : Cond.instanceMethod yX4_fail ∈ WALL := wi_10 _ (List.mem_of_getElem? (i := 18) rfl)
theorem m_10_19 : Cond.selects RX4 yX4_fail yX4_fail ∈ WALL := wi_10 _ (List.mem_of_getElem? (i := 19) rfl)
theorem m_10_20 : Cond.code yX4_fail cX4_fail 4 (some .int) ∈ WALL := wi_10 _ (List.mem_of_getElem? (i := 20) rfl)
theorem m_10_21 : Cond.methodLink RL 35 yX4_shines ∈ WALL := wi_10 _ (List.mem_of_getElem? (i := 21) rfl)
theorem m_10_22 : Cond.instanceMethod yX4_shines ∈ WALL := wi_10 _ (List.mem_of_getElem? (i := 22) rfl)
theorem m_10_23 : Cond.selects RX4 yX4_shines yX4_shines ∈ WALL := wi_10 _ (List.mem_of_getElem? (i := 23) rfl)
theorem m_10_24 : Cond.code yX4_shines cX4_shines 4 (some .boolean) ∈ WALL := wi_10 _ (List.mem_of_getElem? (i := 24) rfl)
theorem wi_11 : ∀ w ∈ wa_11, w ∈ WALL := fun _ h => List.mem_append_right _ (List.mem_append_right _ (List.mem_append_right _ (List.mem_append_right _ (List.mem_append_right _ (List.mem_append_right _ (List.mem_append_right _ (List.mem_append_right _ (List.mem_append_right _ (List.mem_append_right _ (List.mem_append_right _ (List.mem_append_left _ (h))))))))))))
theorem m_11_0 : Cond.constant RX4 116 (100000) ∈ WALL := wi_11 _ (List.mem_of_getElem? (i := 0) rfl)
theorem m_11_1 : Cond.methodLink RX4 117 yX4_isLit ∈ WALL := wi_11 _ (List.mem_of_getElem? (i := 1) rfl)
theorem m_11_2 : Cond.instanceMethod yX4_isLit ∈ WALL := wi_11 _ (List.mem_of_getElem? (i := 2) rfl)
theorem m_11_3 : Cond.selects RX4 yX4_isLit yX4_isLit ∈ WALL := wi_11 _ (List.mem_of_getElem? (i := 3) rfl)
theorem m_11_4 : Cond.code yX4_isLit cX4_isLit 3 (some .boolean) ∈ WALL := wi_11 _ (List.mem_of_getElem? (i := 4) rfl)
theorem m_11_5 : Cond.methodLink RX4 197 yX3_isLight ∈ WALL := wi_11 _ (List.mem_of_getElem? (i := 5) rfl)
theorem m_11_6 : Cond.methodLink RL 38 yX4_sector ∈ WALL := wi_11 _ (List.mem_of_getElem? (i := 6) rfl)
theorem m_11_7 : Cond.instanceMethod yX4_sector ∈ WALL := wi_11 _ (List.mem_of_getElem? (i := 7) rfl)
theorem m_11_8 : Cond.selects RX4 yX4_sector yX4_sector ∈ WALL := wi_11 _ (List.mem_of_getElem? (i := 8) rfl)
theorem m_11_9 : Cond.code yX4_sector cX4_sector 5 (some .int) ∈ WALL := wi_11 _ (List.mem_of_getElem? (i := 9) rfl)
theorem m_11_10 : Cond.fieldLink RX4 121 "LampRhythms$Lamp" "x" "I" ∈ WALL := wi_11 _ (List.mem_of_getElem? (i := 10) rfl)
theorem m_11_11 : Cond.fieldLink RX4 124 "LampRhythms$Lamp" "y" "I" ∈ WALL := wi_11 _ (List.mem_of_getElem? (i := 11) rfl)
theorem m_11_12 : Cond.methodLink RX4 85 yX4_requirePlace ∈ WALL := wi_11 _ (List.mem_of_getElem? (i := 12) rfl)
theorem m_11_13 : Cond.static yX4_requirePlace ∈ WALL := wi_11 _ (List.mem_of_getElem? (i := 13) rfl)
theorem m_11_14 : Cond.code yX4_requirePlace cX4_requirePlace 2 none ∈ WALL := wi_11 _ (List.mem_of_getElem? (i := 14) rfl)
theorem m_11_15 : Cond.methodLink RX4 127 yX1_sectorOf ∈ WALL := wi_11 _ (List.mem_of_getElem? (i := 15) rfl)
theorem m_11_16 : Cond.static yX1_sectorOf ∈ WALL := wi_11 _ (List.mem_of_getElem? (i := 16) rfl)
theorem m_11_17 : Cond.code yX1_sectorOf cX1_sectorOf 5 (some .int) ∈ WALL := wi_11 _ (List.mem_of_getElem? (i := 17) rfl)
theorem m_11_18 : Cond.methodLink RX1 36 Lib.Math.abs.name ∈ WALL := wi_11 _ (List.mem_of_getElem? (i := 18) rfl)
theorem m_11_19 : Cond.static Lib.Math.abs.name ∈ WALL := wi_11 _ (List.mem_of_getElem? (i := 19) rfl)
theorem m_11_20 : Cond.code Lib.Math.abs.name Lib.Math.abs.code 1 (some .int) ∈ WALL := wi_11 _ (List.mem_of_getElem? (i := 20) rfl)
theorem m_11_21 : Cond.methodLink RX1 46 yX1_quarterOf ∈ WALL := wi_11 _ (List.mem_of_getElem? (i := 21) rfl)
theorem m_11_22 : Cond.static yX1_quarterOf ∈ WALL := wi_11 _ (List.mem_of_getElem? (i := 22) rfl)
theorem m_11_23 : Cond.code yX1_quarterOf cX1_quarterOf 2 (some .int) ∈ WALL := wi_11 _ (List.mem_of_getElem? (i := 23) rfl)
theorem m_11_24 : Cond.methodLink RL 41 yX4_isSeen ∈ WALL := wi_11 _ (List.mem_of_getElem? (i := 24) rfl)
theorem wi_12 : ∀ w ∈ wa_12, w ∈ WALL := fun _ h => List.mem_append_right _ (List.mem_append_right _ (List.mem_append_right _ (List.mem_append_right _ (List.mem_append_right _ (List.mem_append_right _ (List.mem_append_right _ (List.mem_append_right _ (List.mem_append_right _ (List.mem_append_right _ (List.mem_append_right _ (List.mem_append_right _ (List.mem_append_left _ (h)))))))))))))
theorem m_12_0 : Cond.instanceMethod yX4_isSeen ∈ WALL := wi_12 _ (List.mem_of_getElem? (i := 0) rfl)
theorem m_12_1 : Cond.selects RX4 yX4_isSeen yX4_isSeen ∈ WALL := wi_12 _ (List.mem_of_getElem? (i := 1) rfl)
theorem m_12_2 : Cond.code yX4_isSeen cX4_isSeen 5 (some .boolean) ∈ WALL := wi_12 _ (List.mem_of_getElem? (i := 2) rfl)
theorem m_12_3 : Cond.methodLink RX4 131 yX1_canBeSeenFrom ∈ WALL := wi_12 _ (List.mem_of_getElem? (i := 3) rfl)
theorem m_12_4 : Cond.instanceMethod yX1_canBeSeenFrom ∈ WALL := wi_12 _ (List.mem_of_getElem? (i := 4) rfl)
theorem m_12_5 : Cond.selects RX1 yX1_canBeSeenFrom yX1_canBeSeenFrom ∈ WALL := wi_12 _ (List.mem_of_getElem? (i := 5) rfl)
theorem m_12_6 : Cond.code yX1_canBeSeenFrom cX1_canBeSeenFrom 3 (some .boolean) ∈ WALL := wi_12 _ (List.mem_of_getElem? (i := 6) rfl)
theorem m_12_7 : Cond.methodLink RL 45 yX4_common ∈ WALL := wi_12 _ (List.mem_of_getElem? (i := 7) rfl)
theorem m_12_8 : Cond.instanceMethod yX4_common ∈ WALL := wi_12 _ (List.mem_of_getElem? (i := 8) rfl)
theorem m_12_9 : Cond.selects RX4 yX4_common yX4_common ∈ WALL := wi_12 _ (List.mem_of_getElem? (i := 9) rfl)
theorem m_12_10 : Cond.code yX4_common cX4_common 3 (some .int) ∈ WALL := wi_12 _ (List.mem_of_getElem? (i := 10) rfl)
theorem m_12_11 : Cond.methodLink RL 49 yX4_print ∈ WALL := wi_12 _ (List.mem_of_getElem? (i := 11) rfl)
theorem m_12_12 : Cond.instanceMethod yX4_print ∈ WALL := wi_12 _ (List.mem_of_getElem? (i := 12) rfl)
theorem m_12_13 : Cond.selects RX4 yX4_print yX4_print ∈ WALL := wi_12 _ (List.mem_of_getElem? (i := 13) rfl)
theorem m_12_14 : Cond.code yX4_print cX4_print 2 (some .int) ∈ WALL := wi_12 _ (List.mem_of_getElem? (i := 14) rfl)
theorem m_12_15 : Cond.classLink RX4 149 RX0 ∈ WALL := wi_12 _ (List.mem_of_getElem? (i := 15) rfl)
theorem m_12_16 : Cond.instantiable RX0 2 ∈ WALL := wi_12 _ (List.mem_of_getElem? (i := 16) rfl)
theorem m_12_17 : Cond.initialized RX0 ∈ WALL := wi_12 _ (List.mem_of_getElem? (i := 17) rfl)
theorem m_12_18 : Cond.methodLink RX4 151 yX0_init ∈ WALL := wi_12 _ (List.mem_of_getElem? (i := 18) rfl)
theorem m_12_19 : Cond.instanceMethod yX0_init ∈ WALL := wi_12 _ (List.mem_of_getElem? (i := 19) rfl)
theorem m_12_20 : Cond.code yX0_init cX0_init 1 none ∈ WALL := wi_12 _ (List.mem_of_getElem? (i := 20) rfl)
theorem m_12_21 : Cond.methodLink RX0 3 objectInit ∈ WALL := wi_12 _ (List.mem_of_getElem? (i := 21) rfl)
theorem m_12_22 : Cond.fieldLink RX0 9 "LampRhythms$Chart" "patterns" "[I" ∈ WALL := wi_12 _ (List.mem_of_getElem? (i := 22) rfl)
theorem m_12_23 : Cond.fieldLink RX0 15 "LampRhythms$Chart" "notices" "I" ∈ WALL := wi_12 _ (List.mem_of_getElem? (i := 23) rfl)
theorem m_12_24 : Cond.methodLink RX0 19 yJ7_fill_53178 ∈ WALL := wi_12 _ (List.mem_of_getElem? (i := 24) rfl)
theorem wi_13 : ∀ w ∈ wa_13, w ∈ WALL := fun _ h => List.mem_append_right _ (List.mem_append_right _ (List.mem_append_right _ (List.mem_append_right _ (List.mem_append_right _ (List.mem_append_right _ (List.mem_append_right _ (List.mem_append_right _ (List.mem_append_right _ (List.mem_append_right _ (List.mem_append_right _ (List.mem_append_right _ (List.mem_append_right _ (List.mem_append_left _ (h))))))))))))))
theorem m_13_0 : Cond.static yJ7_fill_53178 ∈ WALL := wi_13 _ (List.mem_of_getElem? (i := 0) rfl)
theorem m_13_1 : Cond.code yJ7_fill_53178 cJ7_fill_53178 4 none ∈ WALL := wi_13 _ (List.mem_of_getElem? (i := 1) rfl)
theorem m_13_2 : Cond.methodLink RX4 152 yX4_putIn ∈ WALL := wi_13 _ (List.mem_of_getElem? (i := 2) rfl)
theorem m_13_3 : Cond.instanceMethod yX4_putIn ∈ WALL := wi_13 _ (List.mem_of_getElem? (i := 3) rfl)
theorem m_13_4 : Cond.selects RX4 yX4_putIn yX4_putIn ∈ WALL := wi_13 _ (List.mem_of_getElem? (i := 4) rfl)
theorem m_13_5 : Cond.code yX4_putIn cX4_putIn 5 none ∈ WALL := wi_13 _ (List.mem_of_getElem? (i := 5) rfl)
theorem m_13_6 : Cond.fieldLink RX4 205 "LampRhythms$Chart" "notices" "I" ∈ WALL := wi_13 _ (List.mem_of_getElem? (i := 6) rfl)
theorem m_13_7 : Cond.methodLink RX4 164 Lib.Math.min.name ∈ WALL := wi_13 _ (List.mem_of_getElem? (i := 7) rfl)
theorem m_13_8 : Cond.classLink RX4 201 "LampRhythms$Notice" ∈ WALL := wi_13 _ (List.mem_of_getElem? (i := 8) rfl)
theorem m_13_9 : Cond.methodLink RX4 208 yX0_putIn ∈ WALL := wi_13 _ (List.mem_of_getElem? (i := 9) rfl)
theorem m_13_10 : Cond.instanceMethod yX0_putIn ∈ WALL := wi_13 _ (List.mem_of_getElem? (i := 10) rfl)
theorem m_13_11 : Cond.selects RX0 yX0_putIn yX0_putIn ∈ WALL := wi_13 _ (List.mem_of_getElem? (i := 11) rfl)
theorem m_13_12 : Cond.code yX0_putIn cX0_putIn 2 none ∈ WALL := wi_13 _ (List.mem_of_getElem? (i := 12) rfl)
theorem m_13_13 : Cond.fieldLink RX0 25 "LampRhythms$Notice" "lamp" "I" ∈ WALL := wi_13 _ (List.mem_of_getElem? (i := 13) rfl)
theorem m_13_14 : Cond.fieldLink RX0 30 "LampRhythms$Notice" "pattern" "I" ∈ WALL := wi_13 _ (List.mem_of_getElem? (i := 14) rfl)
theorem m_13_15 : Cond.methodLink RL 52 yX4_correct ∈ WALL := wi_13 _ (List.mem_of_getElem? (i := 15) rfl)
theorem m_13_16 : Cond.instanceMethod yX4_correct ∈ WALL := wi_13 _ (List.mem_of_getElem? (i := 16) rfl)
theorem m_13_17 : Cond.selects RX4 yX4_correct yX4_correct ∈ WALL := wi_13 _ (List.mem_of_getElem? (i := 17) rfl)
theorem m_13_18 : Cond.code yX4_correct cX4_correct 5 (some .int) ∈ WALL := wi_13 _ (List.mem_of_getElem? (i := 18) rfl)
theorem m_13_19 : Cond.methodLink RX4 156 yX4_chartAt ∈ WALL := wi_13 _ (List.mem_of_getElem? (i := 19) rfl)
theorem m_13_20 : Cond.instanceMethod yX4_chartAt ∈ WALL := wi_13 _ (List.mem_of_getElem? (i := 20) rfl)
theorem m_13_21 : Cond.selects RX4 yX4_chartAt yX4_chartAt ∈ WALL := wi_13 _ (List.mem_of_getElem? (i := 21) rfl)
theorem m_13_22 : Cond.code yX4_chartAt cX4_chartAt 2 (some (.object "LampRhythms$Chart")) ∈ WALL := wi_13 _ (List.mem_of_getElem? (i := 22) rfl)
theorem m_13_23 : Cond.classLink RX4 149 "LampRhythms$Chart" ∈ WALL := wi_13 _ (List.mem_of_getElem? (i := 23) rfl)
theorem m_13_24 : Cond.methodLink RX4 160 yX4_lackOf ∈ WALL := wi_13 _ (List.mem_of_getElem? (i := 24) rfl)
theorem wi_14 : ∀ w ∈ wa_14, w ∈ WALL := fun _ h => List.mem_append_right _ (List.mem_append_right _ (List.mem_append_right _ (List.mem_append_right _ (List.mem_append_right _ (List.mem_append_right _ (List.mem_append_right _ (List.mem_append_right _ (List.mem_append_right _ (List.mem_append_right _ (List.mem_append_right _ (List.mem_append_right _ (List.mem_append_right _ (List.mem_append_right _ (List.mem_append_left _ (h)))))))))))))))
theorem m_14_0 : Cond.instanceMethod yX4_lackOf ∈ WALL := wi_14 _ (List.mem_of_getElem? (i := 0) rfl)
theorem m_14_1 : Cond.selects RX4 yX4_lackOf yX4_lackOf ∈ WALL := wi_14 _ (List.mem_of_getElem? (i := 1) rfl)
theorem m_14_2 : Cond.code yX4_lackOf cX4_lackOf 2 (some .int) ∈ WALL := wi_14 _ (List.mem_of_getElem? (i := 2) rfl)
theorem m_14_3 : Cond.methodLink RL 55 yX4_behind ∈ WALL := wi_14 _ (List.mem_of_getElem? (i := 3) rfl)
theorem m_14_4 : Cond.instanceMethod yX4_behind ∈ WALL := wi_14 _ (List.mem_of_getElem? (i := 4) rfl)
theorem m_14_5 : Cond.selects RX4 yX4_behind yX4_behind ∈ WALL := wi_14 _ (List.mem_of_getElem? (i := 5) rfl)
theorem m_14_6 : Cond.code yX4_behind cX4_behind 2 (some .int) ∈ WALL := wi_14 _ (List.mem_of_getElem? (i := 6) rfl)
theorem m_14_7 : Cond.methodLink RL 58 yX4_shown ∈ WALL := wi_14 _ (List.mem_of_getElem? (i := 7) rfl)
theorem m_14_8 : Cond.instanceMethod yX4_shown ∈ WALL := wi_14 _ (List.mem_of_getElem? (i := 8) rfl)
theorem m_14_9 : Cond.selects RX4 yX4_shown yX4_shown ∈ WALL := wi_14 _ (List.mem_of_getElem? (i := 9) rfl)
theorem m_14_10 : Cond.code yX4_shown cX4_shown 4 (some .int) ∈ WALL := wi_14 _ (List.mem_of_getElem? (i := 10) rfl)
theorem m_14_11 : Cond.methodLink RX4 172 yX0_patternOf ∈ WALL := wi_14 _ (List.mem_of_getElem? (i := 11) rfl)
theorem m_14_12 : Cond.instanceMethod yX0_patternOf ∈ WALL := wi_14 _ (List.mem_of_getElem? (i := 12) rfl)
theorem m_14_13 : Cond.selects RX0 yX0_patternOf yX0_patternOf ∈ WALL := wi_14 _ (List.mem_of_getElem? (i := 13) rfl)
theorem m_14_14 : Cond.code yX0_patternOf cX0_patternOf 2 (some .int) ∈ WALL := wi_14 _ (List.mem_of_getElem? (i := 14) rfl)
theorem m_14_15 : Cond.methodLink RL 88 yL_lamp ∈ WALL := wi_14 _ (List.mem_of_getElem? (i := 15) rfl)
theorem m_14_16 : Cond.static yL_lamp ∈ WALL := wi_14 _ (List.mem_of_getElem? (i := 16) rfl)
theorem m_14_17 : Cond.codeWith yL_lamp cL_lamp 7 (some .int) [(0, 11, 12, 61), (0, 11, 17, 63), (0, 11, 22, 65)] ∈ WALL := wi_14 _ (List.mem_of_getElem? (i := 17) rfl)
theorem m_14_18 : Cond.methodLink RL 67 yX4_lamp ∈ WALL := wi_14 _ (List.mem_of_getElem? (i := 18) rfl)
theorem m_14_19 : Cond.instanceMethod yX4_lamp ∈ WALL := wi_14 _ (List.mem_of_getElem? (i := 19) rfl)
theorem m_14_20 : Cond.selects RX4 yX4_lamp yX4_lamp ∈ WALL := wi_14 _ (List.mem_of_getElem? (i := 20) rfl)
theorem m_14_21 : Cond.code yX4_lamp cX4_lamp 7 (some .int) ∈ WALL := wi_14 _ (List.mem_of_getElem? (i := 21) rfl)
theorem m_14_22 : Cond.classLink RX4 91 RX1 ∈ WALL := wi_14 _ (List.mem_of_getElem? (i := 22) rfl)
theorem m_14_23 : Cond.instantiable RX1 6 ∈ WALL := wi_14 _ (List.mem_of_getElem? (i := 23) rfl)
theorem m_14_24 : Cond.methodLink RX4 93 yX1_init ∈ WALL := wi_14 _ (List.mem_of_getElem? (i := 24) rfl)
theorem wi_15 : ∀ w ∈ wa_15, w ∈ WALL := fun _ h => List.mem_append_right _ (List.mem_append_right _ (List.mem_append_right _ (List.mem_append_right _ (List.mem_append_right _ (List.mem_append_right _ (List.mem_append_right _ (List.mem_append_right _ (List.mem_append_right _ (List.mem_append_right _ (List.mem_append_right _ (List.mem_append_right _ (List.mem_append_right _ (List.mem_append_right _ (List.mem_append_right _ (List.mem_append_left _ (h))))))))))))))))
theorem m_15_0 : Cond.instanceMethod yX1_init ∈ WALL := wi_15 _ (List.mem_of_getElem? (i := 0) rfl)
theorem m_15_1 : Cond.code yX1_init cX1_init 9 none ∈ WALL := wi_15 _ (List.mem_of_getElem? (i := 1) rfl)
theorem m_15_2 : Cond.methodLink RX1 3 objectInit ∈ WALL := wi_15 _ (List.mem_of_getElem? (i := 2) rfl)
theorem m_15_3 : Cond.fieldLink RX1 9 "LampRhythms$Lamp" "begins" "I" ∈ WALL := wi_15 _ (List.mem_of_getElem? (i := 3) rfl)
theorem m_15_4 : Cond.fieldLink RX1 15 "LampRhythms$Lamp" "failed" "Z" ∈ WALL := wi_15 _ (List.mem_of_getElem? (i := 4) rfl)
theorem m_15_5 : Cond.fieldLink RX1 23 "LampRhythms$Lamp" "x" "I" ∈ WALL := wi_15 _ (List.mem_of_getElem? (i := 5) rfl)
theorem m_15_6 : Cond.fieldLink RX1 26 "LampRhythms$Lamp" "y" "I" ∈ WALL := wi_15 _ (List.mem_of_getElem? (i := 6) rfl)
theorem m_15_7 : Cond.fieldLink RX1 33 "LampRhythms$Lamp" "pattern" "I" ∈ WALL := wi_15 _ (List.mem_of_getElem? (i := 7) rfl)
theorem m_15_8 : Cond.methodLink RX1 19 yX1_isWithin ∈ WALL := wi_15 _ (List.mem_of_getElem? (i := 8) rfl)
theorem m_15_9 : Cond.static yX1_isWithin ∈ WALL := wi_15 _ (List.mem_of_getElem? (i := 9) rfl)
theorem m_15_10 : Cond.code yX1_isWithin cX1_isWithin 5 (some .boolean) ∈ WALL := wi_15 _ (List.mem_of_getElem? (i := 10) rfl)
theorem m_15_11 : Cond.methodLink RX1 42 yX1_sectorOf ∈ WALL := wi_15 _ (List.mem_of_getElem? (i := 11) rfl)
theorem m_15_12 : Cond.methodLink RL 91 yL_taken ∈ WALL := wi_15 _ (List.mem_of_getElem? (i := 12) rfl)
theorem m_15_13 : Cond.static yL_taken ∈ WALL := wi_15 _ (List.mem_of_getElem? (i := 13) rfl)
theorem m_15_14 : Cond.codeWith yL_taken cL_taken 8 (some .int) [(0, 13, 14, 61), (0, 13, 19, 63)] ∈ WALL := wi_15 _ (List.mem_of_getElem? (i := 14) rfl)
theorem m_15_15 : Cond.methodLink RL 71 yX4_taken ∈ WALL := wi_15 _ (List.mem_of_getElem? (i := 15) rfl)
theorem m_15_16 : Cond.instanceMethod yX4_taken ∈ WALL := wi_15 _ (List.mem_of_getElem? (i := 16) rfl)
theorem m_15_17 : Cond.selects RX4 yX4_taken yX4_taken ∈ WALL := wi_15 _ (List.mem_of_getElem? (i := 17) rfl)
theorem m_15_18 : Cond.code yX4_taken cX4_taken 14 (some .int) ∈ WALL := wi_15 _ (List.mem_of_getElem? (i := 18) rfl)
theorem m_15_19 : Cond.methodLink RX4 175 yX4_lookAt ∈ WALL := wi_15 _ (List.mem_of_getElem? (i := 19) rfl)
theorem m_15_20 : Cond.instanceMethod yX4_lookAt ∈ WALL := wi_15 _ (List.mem_of_getElem? (i := 20) rfl)
theorem m_15_21 : Cond.selects RX4 yX4_lookAt yX4_lookAt ∈ WALL := wi_15 _ (List.mem_of_getElem? (i := 21) rfl)
theorem m_15_22 : Cond.code yX4_lookAt cX4_lookAt 7 (some .long) ∈ WALL := wi_15 _ (List.mem_of_getElem? (i := 22) rfl)
theorem m_15_23 : Cond.methodLink RX4 179 yX3_canLookLike ∈ WALL := wi_15 _ (List.mem_of_getElem? (i := 23) rfl)
theorem m_15_24 : Cond.instanceMethod yX3_canLookLike ∈ WALL := wi_15 _ (List.mem_of_getElem? (i := 24) rfl)
theorem wi_16 : ∀ w ∈ wa_16, w ∈ WALL := fun _ h => List.mem_append_right _ (List.mem_append_right _ (List.mem_append_right _ (List.mem_append_right _ (List.mem_append_right _ (List.mem_append_right _ (List.mem_append_right _ (List.mem_append_right _ (List.mem_append_right _ (List.mem_append_right _ (List.mem_append_right _ (List.mem_append_right _ (List.mem_append_right _ (List.mem_append_right _ (List.mem_append_right _ (List.mem_append_right _ (List.mem_append_left _ (h)))))))))))))))))
theorem m_16_0 : Cond.selects RX3 yX3_canLookLike yX3_canLookLike ∈ WALL := wi_16 _ (List.mem_of_getElem? (i := 0) rfl)
theorem m_16_1 : Cond.code yX3_canLookLike cX3_canLookLike 5 (some .boolean) ∈ WALL := wi_16 _ (List.mem_of_getElem? (i := 1) rfl)
theorem m_16_2 : Cond.methodLink RX3 46 yX3_looksLike ∈ WALL := wi_16 _ (List.mem_of_getElem? (i := 2) rfl)
theorem m_16_3 : Cond.instanceMethod yX3_looksLike ∈ WALL := wi_16 _ (List.mem_of_getElem? (i := 3) rfl)
theorem m_16_4 : Cond.selects RX3 yX3_looksLike yX3_looksLike ∈ WALL := wi_16 _ (List.mem_of_getElem? (i := 4) rfl)
theorem m_16_5 : Cond.code yX3_looksLike cX3_looksLike 7 (some .boolean) ∈ WALL := wi_16 _ (List.mem_of_getElem? (i := 5) rfl)
theorem m_16_6 : Cond.methodLink RL 100 yL_pattern ∈ WALL := wi_16 _ (List.mem_of_getElem? (i := 6) rfl)
theorem m_16_7 : Cond.static yL_pattern ∈ WALL := wi_16 _ (List.mem_of_getElem? (i := 7) rfl)
theorem m_16_8 : Cond.code yL_pattern cL_pattern 5 (some .int) ∈ WALL := wi_16 _ (List.mem_of_getElem? (i := 8) rfl)
theorem m_16_9 : Cond.methodLink RL 109 yL_alike ∈ WALL := wi_16 _ (List.mem_of_getElem? (i := 9) rfl)
theorem m_16_10 : Cond.static yL_alike ∈ WALL := wi_16 _ (List.mem_of_getElem? (i := 10) rfl)
theorem m_16_11 : Cond.code yL_alike cL_alike 4 (some .boolean) ∈ WALL := wi_16 _ (List.mem_of_getElem? (i := 11) rfl)
theorem m_16_12 : Cond.methodLink RL 123 yL_harbour ∈ WALL := wi_16 _ (List.mem_of_getElem? (i := 12) rfl)
theorem m_16_13 : Cond.static yL_harbour ∈ WALL := wi_16 _ (List.mem_of_getElem? (i := 13) rfl)
theorem m_16_14 : Cond.code yL_harbour cL_harbour 1 (some .boolean) ∈ WALL := wi_16 _ (List.mem_of_getElem? (i := 14) rfl)
theorem m_16_15 : Cond.constant RL 116 (100000) ∈ WALL := wi_16 _ (List.mem_of_getElem? (i := 15) rfl)
theorem m_16_16 : Cond.methodLink RL 113 yL_shines ∈ WALL := wi_16 _ (List.mem_of_getElem? (i := 16) rfl)
theorem m_16_17 : Cond.static yL_shines ∈ WALL := wi_16 _ (List.mem_of_getElem? (i := 17) rfl)
theorem m_16_18 : Cond.code yL_shines cL_shines 6 (some .boolean) ∈ WALL := wi_16 _ (List.mem_of_getElem? (i := 18) rfl)
theorem m_16_19 : Cond.methodLink RL 117 yL_sector ∈ WALL := wi_16 _ (List.mem_of_getElem? (i := 19) rfl)
theorem m_16_20 : Cond.static yL_sector ∈ WALL := wi_16 _ (List.mem_of_getElem? (i := 20) rfl)
theorem m_16_21 : Cond.code yL_sector cL_sector 4 (some .boolean) ∈ WALL := wi_16 _ (List.mem_of_getElem? (i := 21) rfl)
theorem m_16_22 : Cond.methodLink RL 126 yL_most ∈ WALL := wi_16 _ (List.mem_of_getElem? (i := 22) rfl)
theorem m_16_23 : Cond.static yL_most ∈ WALL := wi_16 _ (List.mem_of_getElem? (i := 23) rfl)
theorem m_16_24 : Cond.code yL_most cL_most 2 (some .boolean) ∈ WALL := wi_16 _ (List.mem_of_getElem? (i := 24) rfl)
theorem wt_0 : ∀ w ∈ wsX40, w ∈ WALL := fun _ h => List.mem_append_right _ (List.mem_append_right _ (List.mem_append_right _ (List.mem_append_right _ (List.mem_append_right _ (List.mem_append_right _ (List.mem_append_right _ (List.mem_append_right _ (List.mem_append_right _ (List.mem_append_right _ (List.mem_append_right _ (List.mem_append_right _ (List.mem_append_right _ (List.mem_append_right _ (List.mem_append_right _ (List.mem_append_right _ (List.mem_append_right _ (List.mem_append_left _ (h))))))))))))))))))
theorem wt_1 : ∀ w ∈ wsX50, w ∈ WALL := fun _ h => List.mem_append_right _ (List.mem_append_right _ (List.mem_append_right _ (List.mem_append_right _ (List.mem_append_right _ (List.mem_append_right _ (List.mem_append_right _ (List.mem_append_right _ (List.mem_append_right _ (List.mem_append_right _ (List.mem_append_right _ (List.mem_append_right _ (List.mem_append_right _ (List.mem_append_right _ (List.mem_append_right _ (List.mem_append_right _ (List.mem_append_right _ (List.mem_append_right _ (List.mem_append_left _ (h)))))))))))))))))))
theorem wt_2 : ∀ w ∈ wsJx4a65c0, w ∈ WALL := fun _ h => List.mem_append_right _ (List.mem_append_right _ (List.mem_append_right _ (List.mem_append_right _ (List.mem_append_right _ (List.mem_append_right _ (List.mem_append_right _ (List.mem_append_right _ (List.mem_append_right _ (List.mem_append_right _ (List.mem_append_right _ (List.mem_append_right _ (List.mem_append_right _ (List.mem_append_right _ (List.mem_append_right _ (List.mem_append_right _ (List.mem_append_right _ (List.mem_append_right _ (List.mem_append_right _ (List.mem_append_left _ (h))))))))))))))))))))
theorem wt_3 : ∀ w ∈ wsX30, w ∈ WALL := fun _ h => List.mem_append_right _ (List.mem_append_right _ (List.mem_append_right _ (List.mem_append_right _ (List.mem_append_right _ (List.mem_append_right _ (List.mem_append_right _ (List.mem_append_right _ (List.mem_append_right _ (List.mem_append_right _ (List.mem_append_right _ (List.mem_append_right _ (List.mem_append_right _ (List.mem_append_right _ (List.mem_append_right _ (List.mem_append_right _ (List.mem_append_right _ (List.mem_append_right _ (List.mem_append_right _ (List.mem_append_right _ (List.mem_append_left _ (h)))))))))))))))))))))
theorem wt_4 : ∀ w ∈ wsX10, w ∈ WALL := fun _ h => List.mem_append_right _ (List.mem_append_right _ (List.mem_append_right _ (List.mem_append_right _ (List.mem_append_right _ (List.mem_append_right _ (List.mem_append_right _ (List.mem_append_right _ (List.mem_append_right _ (List.mem_append_right _ (List.mem_append_right _ (List.mem_append_right _ (List.mem_append_right _ (List.mem_append_right _ (List.mem_append_right _ (List.mem_append_right _ (List.mem_append_right _ (List.mem_append_right _ (List.mem_append_right _ (List.mem_append_right _ (List.mem_append_right _ (List.mem_append_left _ (h))))))))))))))))))))))
theorem wt_5 : ∀ w ∈ wsX20, w ∈ WALL := fun _ h => List.mem_append_right _ (List.mem_append_right _ (List.mem_append_right _ (List.mem_append_right _ (List.mem_append_right _ (List.mem_append_right _ (List.mem_append_right _ (List.mem_append_right _ (List.mem_append_right _ (List.mem_append_right _ (List.mem_append_right _ (List.mem_append_right _ (List.mem_append_right _ (List.mem_append_right _ (List.mem_append_right _ (List.mem_append_right _ (List.mem_append_right _ (List.mem_append_right _ (List.mem_append_right _ (List.mem_append_right _ (List.mem_append_right _ (List.mem_append_right _ (List.mem_append_left _ (h)))))))))))))))))))))))
theorem wt_6 : ∀ w ∈ wsX00, w ∈ WALL := fun _ h => List.mem_append_right _ (List.mem_append_right _ (List.mem_append_right _ (List.mem_append_right _ (List.mem_append_right _ (List.mem_append_right _ (List.mem_append_right _ (List.mem_append_right _ (List.mem_append_right _ (List.mem_append_right _ (List.mem_append_right _ (List.mem_append_right _ (List.mem_append_right _ (List.mem_append_right _ (List.mem_append_right _ (List.mem_append_right _ (List.mem_append_right _ (List.mem_append_right _ (List.mem_append_right _ (List.mem_append_right _ (List.mem_append_right _ (List.mem_append_right _ (List.mem_append_right _ (List.mem_append_left _ (h))))))))))))))))))))))))
theorem wt_7 : ∀ w ∈ ((vx_atS RX4 41 "java/lang/IllegalStateException" ["java/lang/RuntimeException", "java/lang/Exception"]).filter goodWord), w ∈ WALL := fun _ h => List.mem_append_right _ (List.mem_append_right _ (List.mem_append_right _ (List.mem_append_right _ (List.mem_append_right _ (List.mem_append_right _ (List.mem_append_right _ (List.mem_append_right _ (List.mem_append_right _ (List.mem_append_right _ (List.mem_append_right _ (List.mem_append_right _ (List.mem_append_right _ (List.mem_append_right _ (List.mem_append_right _ (List.mem_append_right _ (List.mem_append_right _ (List.mem_append_right _ (List.mem_append_right _ (List.mem_append_right _ (List.mem_append_right _ (List.mem_append_right _ (List.mem_append_right _ (List.mem_append_right _ (List.mem_append_left _ (h)))))))))))))))))))))))))
theorem wt_8 : ∀ w ∈ ((vx_atS RX4 187 "java/lang/IllegalArgumentException" ["java/lang/RuntimeException", "java/lang/Exception"]).filter goodWord), w ∈ WALL := fun _ h => List.mem_append_right _ (List.mem_append_right _ (List.mem_append_right _ (List.mem_append_right _ (List.mem_append_right _ (List.mem_append_right _ (List.mem_append_right _ (List.mem_append_right _ (List.mem_append_right _ (List.mem_append_right _ (List.mem_append_right _ (List.mem_append_right _ (List.mem_append_right _ (List.mem_append_right _ (List.mem_append_right _ (List.mem_append_right _ (List.mem_append_right _ (List.mem_append_right _ (List.mem_append_right _ (List.mem_append_right _ (List.mem_append_right _ (List.mem_append_right _ (List.mem_append_right _ (List.mem_append_right _ (List.mem_append_right _ (List.mem_append_left _ (h))))))))))))))))))))))))))
theorem wt_9 : ∀ w ∈ ((vx_atS RX4 192 "java/lang/IndexOutOfBoundsException" ["java/lang/RuntimeException", "java/lang/Exception"]).filter goodWord), w ∈ WALL := fun _ h => List.mem_append_right _ (List.mem_append_right _ (List.mem_append_right _ (List.mem_append_right _ (List.mem_append_right _ (List.mem_append_right _ (List.mem_append_right _ (List.mem_append_right _ (List.mem_append_right _ (List.mem_append_right _ (List.mem_append_right _ (List.mem_append_right _ (List.mem_append_right _ (List.mem_append_right _ (List.mem_append_right _ (List.mem_append_right _ (List.mem_append_right _ (List.mem_append_right _ (List.mem_append_right _ (List.mem_append_right _ (List.mem_append_right _ (List.mem_append_right _ (List.mem_append_right _ (List.mem_append_right _ (List.mem_append_right _ (List.mem_append_right _ (h))))))))))))))))))))))))))
theorem wg_0 : wa_0.all goodWord = true := by decide +kernel
theorem wg_1 : wa_1.all goodWord = true := by decide +kernel
theorem wg_2 : wa_2.all goodWord = true := by decide +kernel
theorem wg_3 : wa_3.all goodWord = true := by decide +kernel
theorem wg_4 : wa_4.all goodWord = true := by decide +kernel
theorem wg_5 : wa_5.all goodWord = true := by decide +kernel
theorem wg_6 : wa_6.all goodWord = true := by decide +kernel
theorem wg_7 : wa_7.all goodWord = true := by decide +kernel
theorem wg_8 : wa_8.all goodWord = true := by decide +kernel
theorem wg_9 : wa_9.all goodWord = true := by decide +kernel
theorem wg_10 : wa_10.all goodWord = true := by decide +kernel
theorem wg_11 : wa_11.all goodWord = true := by decide +kernel
theorem wg_12 : wa_12.all goodWord = true := by decide +kernel
theorem wg_13 : wa_13.all goodWord = true := by decide +kernel
theorem wg_14 : wa_14.all goodWord = true := by decide +kernel
theorem wg_15 : wa_15.all goodWord = true := by decide +kernel
theorem wg_16 : wa_16.all goodWord = true := by decide +kernel
theorem wh_0 : (wsX40).all goodWord = true := by decide +kernel
theorem wh_1 : (wsX50).all goodWord = true := by decide +kernel
theorem wh_2 : (wsJx4a65c0).all goodWord = true := by decide +kernel
theorem wh_3 : (wsX30).all goodWord = true := by decide +kernel
theorem wh_4 : (wsX10).all goodWord = true := by decide +kernel
theorem wh_5 : (wsX20).all goodWord = true := by decide +kernel
theorem wh_6 : (wsX00).all goodWord = true := by decide +kernel
theorem wh_7 : (((vx_atS RX4 41 "java/lang/IllegalStateException" ["java/lang/RuntimeException", "java/lang/Exception"]).filter goodWord)).all goodWord = true := List.all_eq_true.mpr (fun w h => (List.mem_filter.mp h).2)
theorem wh_8 : (((vx_atS RX4 187 "java/lang/IllegalArgumentException" ["java/lang/RuntimeException", "java/lang/Exception"]).filter goodWord)).all goodWord = true := List.all_eq_true.mpr (fun w h => (List.mem_filter.mp h).2)
theorem wh_9 : (((vx_atS RX4 192 "java/lang/IndexOutOfBoundsException" ["java/lang/RuntimeException", "java/lang/Exception"]).filter goodWord)).all goodWord = true := List.all_eq_true.mpr (fun w h => (List.mem_filter.mp h).2)
theorem WALL_good : ∀ w ∈ WALL, goodWord w = true := List.forall_mem_append.mpr ⟨(List.all_eq_true.mp wg_0), List.forall_mem_append.mpr ⟨(List.all_eq_true.mp wg_1), List.forall_mem_append.mpr ⟨(List.all_eq_true.mp wg_2), List.forall_mem_append.mpr ⟨(List.all_eq_true.mp wg_3), List.forall_mem_append.mpr ⟨(List.all_eq_true.mp wg_4), List.forall_mem_append.mpr ⟨(List.all_eq_true.mp wg_5), List.forall_mem_append.mpr ⟨(List.all_eq_true.mp wg_6), List.forall_mem_append.mpr ⟨(List.all_eq_true.mp wg_7), List.forall_mem_append.mpr ⟨(List.all_eq_true.mp wg_8), List.forall_mem_append.mpr ⟨(List.all_eq_true.mp wg_9), List.forall_mem_append.mpr ⟨(List.all_eq_true.mp wg_10), List.forall_mem_append.mpr ⟨(List.all_eq_true.mp wg_11), List.forall_mem_append.mpr ⟨(List.all_eq_true.mp wg_12), List.forall_mem_append.mpr ⟨(List.all_eq_true.mp wg_13), List.forall_mem_append.mpr ⟨(List.all_eq_true.mp wg_14), List.forall_mem_append.mpr ⟨(List.all_eq_true.mp wg_15), List.forall_mem_append.mpr ⟨(List.all_eq_true.mp wg_16), List.forall_mem_append.mpr ⟨(List.all_eq_true.mp wh_0), List.forall_mem_append.mpr ⟨(List.all_eq_true.mp wh_1), List.forall_mem_append.mpr ⟨(List.all_eq_true.mp wh_2), List.forall_mem_append.mpr ⟨(List.all_eq_true.mp wh_3), List.forall_mem_append.mpr ⟨(List.all_eq_true.mp wh_4), List.forall_mem_append.mpr ⟨(List.all_eq_true.mp wh_5), List.forall_mem_append.mpr ⟨(List.all_eq_true.mp wh_6), List.forall_mem_append.mpr ⟨(List.all_eq_true.mp wh_7), List.forall_mem_append.mpr ⟨(List.all_eq_true.mp wh_8), (List.all_eq_true.mp wh_9)⟩⟩⟩⟩⟩⟩⟩⟩⟩⟩⟩⟩⟩⟩⟩⟩⟩⟩⟩⟩⟩⟩⟩⟩⟩⟩
