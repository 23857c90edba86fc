def RX0 : String := "TavernDice$Dice"
def TX0 : u_T := fun k => match k with
  | 0 => ("TavernDice$Dice", "sums", "[I", true)
  | 1 => ("TavernDice$Dice", "faces", "[I", true)
  | 2 => ("TavernDice$Dice", "count", "I", false)
  | _ => ("TavernDice$Dice", "outcomes", "I", false)
def tyX0 : Nat → FieldType := fun k => match k with
  | 0 => .array .int
  | 1 => .array .int
  | 2 => .int
  | _ => .int
abbrev wsX00 : List Cond := u_ws RX0 TX0 4
theorem nmX0 : ∀ a, a < 4 → ∀ b, b < 4 → a ≠ b → (TX0 a).2.1 ≠ (TX0 b).2.1 := by decide +kernel
theorem tyX0_ok : ∀ k, k < 4 → parseFieldDescriptor (TX0 k).2.2.1 = some (tyX0 k) := by decide +kernel
abbrev cX0_init : ByteArray := prog_2_method_1_code
def yX0_init : MethodName := ⟨RX0, "<init>", "()V"⟩
abbrev cX0_layOut : ByteArray := prog_2_method_2_code
def yX0_layOut : MethodName := ⟨RX0, "layOut", "(III)V"⟩
abbrev cX0_addOutcome : ByteArray := prog_2_method_3_code
def yX0_addOutcome : MethodName := ⟨RX0, "addOutcome", "(III)V"⟩
abbrev cX0_bitOf : ByteArray := prog_2_method_4_code
def yX0_bitOf : MethodName := ⟨RX0, "bitOf", "(I)I"⟩
abbrev cX0_comes : ByteArray := prog_2_method_5_code
def yX0_comes : MethodName := ⟨RX0, "comes", "(III)Z"⟩
abbrev cX0_holds : ByteArray := prog_2_method_6_code
def yX0_holds : MethodName := ⟨RX0, "holds", "(III)Z"⟩
abbrev cX0_countWays : ByteArray := prog_2_method_7_code
def yX0_countWays : MethodName := ⟨RX0, "countWays", "(II)I"⟩
abbrev cX0_gainOver : ByteArray := prog_2_method_8_code
def yX0_gainOver : MethodName := ⟨RX0, "gainOver", "(III)I"⟩
def RX1 : String := "TavernDice$Wager"
def TX1 : u_T := fun k => match k with
  | 0 => ("TavernDice$Wager", "patron", "I", true)
  | 1 => ("TavernDice$Wager", "kind", "I", true)
  | 2 => ("TavernDice$Wager", "number", "I", true)
  | 3 => ("TavernDice$Wager", "stake", "I", true)
  | 4 => ("TavernDice$Wager", "brings", "I", true)
  | _ => ("TavernDice$Wager", "ways", "I", true)
def tyX1 : Nat → FieldType := fun k => match k with
  | 0 => .int
  | 1 => .int
  | 2 => .int
  | 3 => .int
  | 4 => .int
  | _ => .int
abbrev wsX10 : List Cond := u_ws RX1 TX1 6
theorem nmX1 : ∀ a, a < 6 → ∀ b, b < 6 → a ≠ b → (TX1 a).2.1 ≠ (TX1 b).2.1 := by decide +kernel
theorem tyX1_ok : ∀ k, k < 6 → parseFieldDescriptor (TX1 k).2.2.1 = some (tyX1 k) := by decide +kernel
abbrev cX1_init : ByteArray := prog_3_method_1_code
def yX1_init : MethodName := ⟨RX1, "<init>", "(IIIIII)V"⟩
def RX2 : String := "TavernDice"
def TX2 : u_T := fun k => match k with
  | 0 => ("TavernDice", "dice", "LTavernDice$Dice;", true)
  | 1 => ("TavernDice", "wagers", "Ljava/util/ArrayList;", true)
  | 2 => ("TavernDice", "purses", "[I", true)
  | 3 => ("TavernDice", "bank", "I", false)
  | _ => ("TavernDice", "rounds", "I", false)
def tyX2 : Nat → FieldType := fun k => match k with
  | 0 => .object "TavernDice$Dice"
  | 1 => .object "java/util/ArrayList"
  | 2 => .array .int
  | 3 => .int
  | _ => .int
abbrev wsX20 : List Cond := u_ws RX2 TX2 5
theorem nmX2 : ∀ a, a < 5 → ∀ b, b < 5 → a ≠ b → (TX2 a).2.1 ≠ (TX2 b).2.1 := by decide +kernel
theorem tyX2_ok : ∀ k, k < 5 → parseFieldDescriptor (TX2 k).2.2.1 = some (tyX2 k) := by decide +kernel
abbrev cX2_init : ByteArray := prog_1_method_1_code
def yX2_init : MethodName := ⟨RX2, "<init>", "()V"⟩
abbrev cX2_setDice : ByteArray := prog_1_method_2_code
def yX2_setDice : MethodName := ⟨RX2, "setDice", "(III)I"⟩
abbrev cX2_dice : ByteArray := prog_1_method_3_code
def yX2_dice : MethodName := ⟨RX2, "dice", "()I"⟩
abbrev cX2_outcomes : ByteArray := prog_1_method_4_code
def yX2_outcomes : MethodName := ⟨RX2, "outcomes", "()I"⟩
abbrev cX2_ways : ByteArray := prog_1_method_6_code
def yX2_ways : MethodName := ⟨RX2, "ways", "(II)I"⟩
abbrev cX2_lay : ByteArray := prog_1_method_8_code
def yX2_lay : MethodName := ⟨RX2, "lay", "(IIIIII)I"⟩
abbrev cX2_takeBack : ByteArray := prog_1_method_9_code
def yX2_takeBack : MethodName := ⟨RX2, "takeBack", "(I)I"⟩
abbrev cX2_settle : ByteArray := prog_1_method_10_code
def yX2_settle : MethodName := ⟨RX2, "settle", "(I)I"⟩
abbrev cX2_open : ByteArray := prog_1_method_11_code
def yX2_open : MethodName := ⟨RX2, "open", "()I"⟩
abbrev cX2_bank : ByteArray := prog_1_method_12_code
def yX2_bank : MethodName := ⟨RX2, "bank", "()I"⟩
abbrev cX2_rounds : ByteArray := prog_1_method_13_code
def yX2_rounds : MethodName := ⟨RX2, "rounds", "()I"⟩
abbrev cX2_purseOf : ByteArray := prog_1_method_14_code
def yX2_purseOf : MethodName := ⟨RX2, "purseOf", "(I)I"⟩
abbrev cX2_patronOf : ByteArray := prog_1_method_15_code
def yX2_patronOf : MethodName := ⟨RX2, "patronOf", "(I)I"⟩
abbrev cX2_stakeOf : ByteArray := prog_1_method_16_code
def yX2_stakeOf : MethodName := ⟨RX2, "stakeOf", "(I)I"⟩
abbrev cX2_bringsOf : ByteArray := prog_1_method_17_code
def yX2_bringsOf : MethodName := ⟨RX2, "bringsOf", "(I)I"⟩
abbrev cX2_staked : ByteArray := prog_1_method_18_code
def yX2_staked : MethodName := ⟨RX2, "staked", "()I"⟩
abbrev cX2_edgeTop : ByteArray := prog_1_method_19_code
def yX2_edgeTop : MethodName := ⟨RX2, "edgeTop", "(I)I"⟩
abbrev cX2_edgeBottom : ByteArray := prog_1_method_20_code
def yX2_edgeBottom : MethodName := ⟨RX2, "edgeBottom", "(I)I"⟩
abbrev cX2_allEdgesTop : ByteArray := prog_1_method_21_code
def yX2_allEdgesTop : MethodName := ⟨RX2, "allEdgesTop", "()I"⟩
abbrev cX2_allEdgesBottom : ByteArray := prog_1_method_22_code
def yX2_allEdgesBottom : MethodName := ⟨RX2, "allEdgesBottom", "()I"⟩
abbrev cX2_dearestWager : ByteArray := prog_1_method_23_code
def yX2_dearestWager : MethodName := ⟨RX2, "dearestWager", "()I"⟩
abbrev cX2_gainAt : ByteArray := prog_1_method_24_code
def yX2_gainAt : MethodName := ⟨RX2, "gainAt", "(I)I"⟩
abbrev cX2_worstGain : ByteArray := prog_1_method_25_code
def yX2_worstGain : MethodName := ⟨RX2, "worstGain", "()I"⟩
abbrev cX2_worstOutcome : ByteArray := prog_1_method_26_code
def yX2_worstOutcome : MethodName := ⟨RX2, "worstOutcome", "()I"⟩
abbrev cX2_purseAt : ByteArray := prog_1_method_27_code
def yX2_purseAt : MethodName := ⟨RX2, "purseAt", "(II)I"⟩
abbrev cX2_leastPurse : ByteArray := prog_1_method_28_code
def yX2_leastPurse : MethodName := ⟨RX2, "leastPurse", "(I)I"⟩
abbrev cX2_isHedged : ByteArray := prog_1_method_29_code
def yX2_isHedged : MethodName := ⟨RX2, "isHedged", "(I)Z"⟩
abbrev cX2_fairWin : ByteArray := prog_1_method_31_code
def yX2_fairWin : MethodName := ⟨RX2, "fairWin", "(III)I"⟩
abbrev cX2_digest : ByteArray := prog_1_method_32_code
def yX2_digest : MethodName := ⟨RX2, "digest", "()J"⟩
abbrev cX2_digestOfWagers : ByteArray := prog_1_method_33_code
def yX2_digestOfWagers : MethodName := ⟨RX2, "digestOfWagers", "(J)J"⟩
abbrev cX2_digestOfPatrons : ByteArray := prog_1_method_34_code
def yX2_digestOfPatrons : MethodName := ⟨RX2, "digestOfPatrons", "(J)J"⟩
abbrev cX2_digested : ByteArray := prog_1_method_35_code
def yX2_digested : MethodName := ⟨RX2, "digested", "(JJ)J"⟩
abbrev cX2_gainOfAll : ByteArray := prog_1_method_36_code
def yX2_gainOfAll : MethodName := ⟨RX2, "gainOfAll", "(I)I"⟩
abbrev cX2_purseBehind : ByteArray := prog_1_method_37_code
def yX2_purseBehind : MethodName := ⟨RX2, "purseBehind", "(II)I"⟩
abbrev cX2_gainOverOutcomes : ByteArray := prog_1_method_38_code
def yX2_gainOverOutcomes : MethodName := ⟨RX2, "gainOverOutcomes", "(LTavernDice$Wager;)I"⟩
abbrev cX2_gainOfAllOverOutcomes : ByteArray := prog_1_method_39_code
def yX2_gainOfAllOverOutcomes : MethodName := ⟨RX2, "gainOfAllOverOutcomes", "()I"⟩
abbrev cX2_lowestTop : ByteArray := prog_1_method_40_code
def yX2_lowestTop : MethodName := ⟨RX2, "lowestTop", "(I)I"⟩
abbrev cX2_lowestBottom : ByteArray := prog_1_method_41_code
def yX2_lowestBottom : MethodName := ⟨RX2, "lowestBottom", "(I)I"⟩
abbrev cX2_commonDivisor : ByteArray := prog_1_method_42_code
def yX2_commonDivisor : MethodName := ⟨RX2, "commonDivisor", "(II)I"⟩
abbrev cX2_broughtBy : ByteArray := prog_1_method_43_code
def yX2_broughtBy : MethodName := ⟨RX2, "broughtBy", "(III)I"⟩
abbrev cX2_isDie : ByteArray := prog_1_method_44_code
def yX2_isDie : MethodName := ⟨RX2, "isDie", "(I)Z"⟩
abbrev cX2_isDieOrNone : ByteArray := prog_1_method_45_code
def yX2_isDieOrNone : MethodName := ⟨RX2, "isDieOrNone", "(I)Z"⟩
abbrev cX2_checkOutcome : ByteArray := prog_1_method_46_code
def yX2_checkOutcome : MethodName := ⟨RX2, "checkOutcome", "(I)V"⟩
abbrev cX2_checkWager : ByteArray := prog_1_method_47_code
def yX2_checkWager : MethodName := ⟨RX2, "checkWager", "(I)V"⟩
abbrev cX2_checkPatron : ByteArray := prog_1_method_48_code
def yX2_checkPatron : MethodName := ⟨RX2, "checkPatron", "(I)V"⟩
abbrev cX2_checkEvent : ByteArray := prog_1_method_49_code
def yX2_checkEvent : MethodName := ⟨RX2, "checkEvent", "(II)V"⟩
abbrev cX2_checkWin : ByteArray := prog_1_method_50_code
def yX2_checkWin : MethodName := ⟨RX2, "checkWin", "(I)V"⟩
abbrev cX2_checkBase : ByteArray := prog_1_method_51_code
def yX2_checkBase : MethodName := ⟨RX2, "checkBase", "(I)V"⟩
def RX3 : String := "TavernDiceLaw$Sim"
def TX3 : u_T := fun k => match k with
  | 0 => ("TavernDiceLaw$Sim", "dice", "[I", false)
  | 1 => ("TavernDiceLaw$Sim", "shown", "[[I", false)
  | 2 => ("TavernDiceLaw$Sim", "purse", "[I", false)
  | 3 => ("TavernDiceLaw$Sim", "bank", "I", false)
  | 4 => ("TavernDiceLaw$Sim", "rounds", "I", false)
  | _ => ("TavernDiceLaw$Sim", "wagers", "[[I", false)
def tyX3 : Nat → FieldType := fun k => match k with
  | 0 => .array .int
  | 1 => .array (.array .int)
  | 2 => .array .int
  | 3 => .int
  | 4 => .int
  | _ => .array (.array .int)
abbrev wsX30 : List Cond := u_ws RX3 TX3 6
theorem nmX3 : ∀ a, a < 6 → ∀ b, b < 6 → a ≠ b → (TX3 a).2.1 ≠ (TX3 b).2.1 := by decide +kernel
theorem tyX3_ok : ∀ k, k < 6 → parseFieldDescriptor (TX3 k).2.2.1 = some (tyX3 k) := by decide +kernel
abbrev cX3_init : ByteArray := prog_5_method_1_code
def yX3_init : MethodName := ⟨RX3, "<init>", "()V"⟩
abbrev cX3_with : ByteArray := prog_5_method_2_code
def yX3_with : MethodName := ⟨RX3, "with", "([[I[I)[[I"⟩
abbrev cX3_all : ByteArray := prog_5_method_3_code
def yX3_all : MethodName := ⟨RX3, "all", "([I)[[I"⟩
abbrev cX3_comes : ByteArray := prog_5_method_4_code
def yX3_comes : MethodName := ⟨RX3, "comes", "(II[I)Z"⟩
abbrev cX3_gain : ByteArray := prog_5_method_6_code
def yX3_gain : MethodName := ⟨RX3, "gain", "([I[I)I"⟩
abbrev cX3_gain_ : ByteArray := prog_5_method_7_code
def yX3_gain_ : MethodName := ⟨RX3, "gain", "(I)I"⟩
abbrev cX3_purseAt : ByteArray := prog_5_method_8_code
def yX3_purseAt : MethodName := ⟨RX3, "purseAt", "(II)I"⟩
abbrev cX3_edge : ByteArray := prog_5_method_9_code
def yX3_edge : MethodName := ⟨RX3, "edge", "([I)I"⟩
abbrev cX3_settle : ByteArray := prog_5_method_10_code
def yX3_settle : MethodName := ⟨RX3, "settle", "(I)V"⟩
abbrev cX3_isEdge : ByteArray := prog_5_method_11_code
def yX3_isEdge : MethodName := ⟨RX3, "isEdge", "(III)Z"⟩
abbrev cX3_isSame : ByteArray := prog_5_method_12_code
def yX3_isSame : MethodName := ⟨RX3, "isSame", "(LTavernDice;)Z"⟩
def RX4 : String := "TavernDiceModel"
def TX4 : u_T := fun k => match k with
  | _ => ("", "", "", false)
def tyX4 : Nat → FieldType := fun k => match k with
  | _ => .int
abbrev wsX40 : List Cond := u_ws RX4 TX4 0
theorem nmX4 : ∀ a, a < 0 → ∀ b, b < 0 → a ≠ b → (TX4 a).2.1 ≠ (TX4 b).2.1 := by decide +kernel
theorem tyX4_ok : ∀ k, k < 0 → parseFieldDescriptor (TX4 k).2.2.1 = some (tyX4 k) := by decide +kernel
def RJx145de : String := "java/io/Serializable"
def TJx145de : u_T := fun k => match k with
  | _ => ("", "", "", false)
def tyJx145de : Nat → FieldType := fun k => match k with
  | _ => .int
abbrev wsJx145de0 : List Cond := u_ws RJx145de TJx145de 0
theorem nmJx145de : ∀ a, a < 0 → ∀ b, b < 0 → a ≠ b → (TJx145de a).2.1 ≠ (TJx145de b).2.1 := by decide +kernel
theorem tyJx145de_ok : ∀ k, k < 0 → parseFieldDescriptor (TJx145de k).2.2.1 = some (tyJx145de k) := by decide +kernel
def RJx8e188 : String := "java/lang/Cloneable"
def TJx8e188 : u_T := fun k => match k with
  | _ => ("", "", "", false)
def tyJx8e188 : Nat → FieldType := fun k => match k with
  | _ => .int
abbrev wsJx8e1880 : List Cond := u_ws RJx8e188 TJx8e188 0
theorem nmJx8e188 : ∀ a, a < 0 → ∀ b, b < 0 → a ≠ b → (TJx8e188 a).2.1 ≠ (TJx8e188 b).2.1 := by decide +kernel
theorem tyJx8e188_ok : ∀ k, k < 0 → parseFieldDescriptor (TJx8e188 k).2.2.1 = some (tyJx8e188 k) := by decide +kernel
def RJ6 : String := "java/lang/Integer"
def TJ6 : u_T := fun k => match k with
  | _ => ("", "", "", false)
def tyJ6 : Nat → FieldType := fun k => match k with
  | _ => .int
abbrev wsJ60 : List Cond := u_ws RJ6 TJ6 0
theorem nmJ6 : ∀ a, a < 0 → ∀ b, b < 0 → a ≠ b → (TJ6 a).2.1 ≠ (TJ6 b).2.1 := by decide +kernel
theorem tyJ6_ok : ∀ k, k < 0 → parseFieldDescriptor (TJ6 k).2.2.1 = some (tyJ6 k) := by decide +kernel
abbrev cJ6_bitCount_0f7a4 : ByteArray := prog_13_method_49_code
def yJ6_bitCount_0f7a4 : MethodName := ⟨RJ6, "bitCount", "(I)I"⟩
def RJxab1ab : String := "java/lang/Iterable"
def TJxab1ab : u_T := fun k => match k with
  | _ => ("", "", "", false)
def tyJxab1ab : Nat → FieldType := fun k => match k with
  | _ => .int
abbrev wsJxab1ab0 : List Cond := u_ws RJxab1ab TJxab1ab 0
theorem nmJxab1ab : ∀ a, a < 0 → ∀ b, b < 0 → a ≠ b → (TJxab1ab a).2.1 ≠ (TJxab1ab b).2.1 := by decide +kernel
theorem tyJxab1ab_ok : ∀ k, k < 0 → parseFieldDescriptor (TJxab1ab k).2.2.1 = some (tyJxab1ab k) := by decide +kernel
def RJ9 : String := "java/lang/Math"
def TJ9 : u_T := fun k => match k with
  | _ => ("", "", "", false)
def tyJ9 : Nat → FieldType := fun k => match k with
  | _ => .int
abbrev wsJ90 : List Cond := u_ws RJ9 TJ9 0
theorem nmJ9 : ∀ a, a < 0 → ∀ b, b < 0 → a ≠ b → (TJ9 a).2.1 ≠ (TJ9 b).2.1 := by decide +kernel
theorem tyJ9_ok : ∀ k, k < 0 → parseFieldDescriptor (TJ9 k).2.2.1 = some (tyJ9 k) := by decide +kernel
abbrev cJ9_abs_0f7a4 : ByteArray := prog_15_method_59_code
def yJ9_abs_0f7a4 : MethodName := ⟨RJ9, "abs", "(I)I"⟩
abbrev cJ9_max_7cf53 : ByteArray := prog_15_method_65_code
def yJ9_max_7cf53 : MethodName := ⟨RJ9, "max", "(II)I"⟩
abbrev cJ9_min_7cf53 : ByteArray := prog_15_method_69_code
def yJ9_min_7cf53 : MethodName := ⟨RJ9, "min", "(II)I"⟩
def RJ0 : String := "java/lang/String"
def TJ0 : u_T := fun k => match k with
  | _ => ("", "", "", false)
def tyJ0 : Nat → FieldType := fun k => match k with
  | _ => .int
abbrev wsJ00 : List Cond := u_ws RJ0 TJ0 0
theorem nmJ0 : ∀ a, a < 0 → ∀ b, b < 0 → a ≠ b → (TJ0 a).2.1 ≠ (TJ0 b).2.1 := by decide +kernel
theorem tyJ0_ok : ∀ k, k < 0 → parseFieldDescriptor (TJ0 k).2.2.1 = some (tyJ0 k) := by decide +kernel
def RJ10 : String := "java/lang/System"
def TJ10 : u_T := fun k => match k with
  | _ => ("", "", "", false)
def tyJ10 : Nat → FieldType := fun k => match k with
  | _ => .int
abbrev wsJ100 : List Cond := u_ws RJ10 TJ10 0
theorem nmJ10 : ∀ a, a < 0 → ∀ b, b < 0 → a ≠ b → (TJ10 a).2.1 ≠ (TJ10 b).2.1 := by decide +kernel
theorem tyJ10_ok : ∀ k, k < 0 → parseFieldDescriptor (TJ10 k).2.2.1 = some (tyJ10 k) := by decide +kernel
def RJxa1e45 : String := "java/util/AbstractCollection"
def TJxa1e45 : u_T := fun k => match k with
  | _ => ("", "", "", false)
def tyJxa1e45 : Nat → FieldType := fun k => match k with
  | _ => .int
abbrev wsJxa1e450 : List Cond := u_ws RJxa1e45 TJxa1e45 0
theorem nmJxa1e45 : ∀ a, a < 0 → ∀ b, b < 0 → a ≠ b → (TJxa1e45 a).2.1 ≠ (TJxa1e45 b).2.1 := by decide +kernel
theorem tyJxa1e45_ok : ∀ k, k < 0 → parseFieldDescriptor (TJxa1e45 k).2.2.1 = some (tyJxa1e45 k) := by decide +kernel
abbrev cJxa1e45_init_da8c8 : ByteArray := prog_20_method_1_code
def yJxa1e45_init_da8c8 : MethodName := ⟨RJxa1e45, "<init>", "()V"⟩
def RJxc12de : String := "java/util/AbstractList"
def TJxc12de : u_T := fun k => match k with
  | _ => ("", "", "", false)
def tyJxc12de : Nat → FieldType := fun k => match k with
  | _ => .int
abbrev wsJxc12de0 : List Cond := u_ws RJxc12de TJxc12de 0
theorem nmJxc12de : ∀ a, a < 0 → ∀ b, b < 0 → a ≠ b → (TJxc12de a).2.1 ≠ (TJxc12de b).2.1 := by decide +kernel
theorem tyJxc12de_ok : ∀ k, k < 0 → parseFieldDescriptor (TJxc12de k).2.2.1 = some (tyJxc12de k) := by decide +kernel
abbrev cJxc12de_init_da8c8 : ByteArray := prog_21_method_1_code
def yJxc12de_init_da8c8 : MethodName := ⟨RJxc12de, "<init>", "()V"⟩
def RJx4a65c : String := "java/util/ArrayList"
def TJx4a65c : u_T := fun k => match k with
  | 0 => ("java/util/AbstractList", "modCount", "I", false)
  | 1 => ("java/util/ArrayList", "elementData", "[Ljava/lang/Object;", false)
  | _ => ("java/util/ArrayList", "size", "I", false)
def tyJx4a65c : Nat → FieldType := fun k => match k with
  | 0 => .int
  | 1 => .array (.object "java/lang/Object")
  | _ => .int
abbrev wsJx4a65c0 : List Cond := u_ws RJx4a65c TJx4a65c 3
theorem nmJx4a65c : ∀ a, a < 3 → ∀ b, b < 3 → a ≠ b → (TJx4a65c a).2.1 ≠ (TJx4a65c b).2.1 := by decide +kernel
theorem tyJx4a65c_ok : ∀ k, k < 3 → parseFieldDescriptor (TJx4a65c k).2.2.1 = some (tyJx4a65c k) := by decide +kernel
abbrev cJx4a65c_init_da8c8 : ByteArray := prog_22_method_2_code
def yJx4a65c_init_da8c8 : MethodName := ⟨RJx4a65c, "<init>", "()V"⟩
abbrev cJx4a65c_grow_92f84 : ByteArray := prog_22_method_6_code
def yJx4a65c_grow_92f84 : MethodName := ⟨RJx4a65c, "grow", "(I)[Ljava/lang/Object;"⟩
abbrev cJx4a65c_grow_d5877 : ByteArray := prog_22_method_7_code
def yJx4a65c_grow_d5877 : MethodName := ⟨RJx4a65c, "grow", "()[Ljava/lang/Object;"⟩
abbrev cJx4a65c_size_8abf5 : ByteArray := prog_22_method_8_code
def yJx4a65c_size_8abf5 : MethodName := ⟨RJx4a65c, "size", "()I"⟩
abbrev cJx4a65c_isEmpty_aae02 : ByteArray := prog_22_method_9_code
def yJx4a65c_isEmpty_aae02 : MethodName := ⟨RJx4a65c, "isEmpty", "()Z"⟩
abbrev cJx4a65c_elementData_915e3 : ByteArray := prog_22_method_18_code
def yJx4a65c_elementData_915e3 : MethodName := ⟨RJx4a65c, "elementData", "(I)Ljava/lang/Object;"⟩
abbrev cJx4a65c_get_915e3 : ByteArray := prog_22_method_20_code
def yJx4a65c_get_915e3 : MethodName := ⟨RJx4a65c, "get", "(I)Ljava/lang/Object;"⟩
abbrev cJx4a65c_add_72be8 : ByteArray := prog_22_method_24_code
def yJx4a65c_add_72be8 : MethodName := ⟨RJx4a65c, "add", "(Ljava/lang/Object;[Ljava/lang/Object;I)V"⟩
abbrev cJx4a65c_add_9ea2d : ByteArray := prog_22_method_25_code
def yJx4a65c_add_9ea2d : MethodName := ⟨RJx4a65c, "add", "(Ljava/lang/Object;)Z"⟩
abbrev cJx4a65c_remove_915e3 : ByteArray := prog_22_method_29_code
def yJx4a65c_remove_915e3 : MethodName := ⟨RJx4a65c, "remove", "(I)Ljava/lang/Object;"⟩
abbrev cJx4a65c_fastRemove_b59b0 : ByteArray := prog_22_method_39_code
def yJx4a65c_fastRemove_b59b0 : MethodName := ⟨RJx4a65c, "fastRemove", "([Ljava/lang/Object;I)V"⟩
abbrev cJx4a65c_clear_da8c8 : ByteArray := prog_22_method_40_code
def yJx4a65c_clear_da8c8 : MethodName := ⟨RJx4a65c, "clear", "()V"⟩
def RJ7 : String := "java/util/Arrays"
def TJ7 : u_T := fun k => match k with
  | _ => ("", "", "", false)
def tyJ7 : Nat → FieldType := fun k => match k with
  | _ => .int
abbrev wsJ70 : List Cond := u_ws RJ7 TJ7 0
theorem nmJ7 : ∀ a, a < 0 → ∀ b, b < 0 → a ≠ b → (TJ7 a).2.1 ≠ (TJ7 b).2.1 := by decide +kernel
theorem tyJ7_ok : ∀ k, k < 0 → parseFieldDescriptor (TJ7 k).2.2.1 = some (tyJ7 k) := by decide +kernel
abbrev cJ7_copyOf_1904c : ByteArray := prog_23_method_119_code
def yJ7_copyOf_1904c : MethodName := ⟨RJ7, "copyOf", "([Ljava/lang/Object;I)[Ljava/lang/Object;"⟩
abbrev cJ7_copyOf_6403c : ByteArray := prog_23_method_120_code
def yJ7_copyOf_6403c : MethodName := ⟨RJ7, "copyOf", "([Ljava/lang/Object;ILjava/lang/Class;)[Ljava/lang/Object;"⟩
def RJx5ef63 : String := "java/util/Collection"
def TJx5ef63 : u_T := fun k => match k with
  | _ => ("", "", "", false)
def tyJx5ef63 : Nat → FieldType := fun k => match k with
  | _ => .int
abbrev wsJx5ef630 : List Cond := u_ws RJx5ef63 TJx5ef63 0
theorem nmJx5ef63 : ∀ a, a < 0 → ∀ b, b < 0 → a ≠ b → (TJx5ef63 a).2.1 ≠ (TJx5ef63 b).2.1 := by decide +kernel
theorem tyJx5ef63_ok : ∀ k, k < 0 → parseFieldDescriptor (TJx5ef63 k).2.2.1 = some (tyJx5ef63 k) := by decide +kernel
def RJxbd725 : String := "java/util/List"
def TJxbd725 : u_T := fun k => match k with
  | _ => ("", "", "", false)
def tyJxbd725 : Nat → FieldType := fun k => match k with
  | _ => .int
abbrev wsJxbd7250 : List Cond := u_ws RJxbd725 TJxbd725 0
theorem nmJxbd725 : ∀ a, a < 0 → ∀ b, b < 0 → a ≠ b → (TJxbd725 a).2.1 ≠ (TJxbd725 b).2.1 := by decide +kernel
theorem tyJxbd725_ok : ∀ k, k < 0 → parseFieldDescriptor (TJxbd725 k).2.2.1 = some (tyJxbd725 k) := by decide +kernel
def RJ15 : String := "java/util/Objects"
def TJ15 : u_T := fun k => match k with
  | _ => ("", "", "", false)
def tyJ15 : Nat → FieldType := fun k => match k with
  | _ => .int
abbrev wsJ150 : List Cond := u_ws RJ15 TJ15 0
theorem nmJ15 : ∀ a, a < 0 → ∀ b, b < 0 → a ≠ b → (TJ15 a).2.1 ≠ (TJ15 b).2.1 := by decide +kernel
theorem tyJ15_ok : ∀ k, k < 0 → parseFieldDescriptor (TJ15 k).2.2.1 = some (tyJ15 k) := by decide +kernel
abbrev cJ15_checkIndex_7cf53 : ByteArray := prog_26_method_17_code
def yJ15_checkIndex_7cf53 : MethodName := ⟨RJ15, "checkIndex", "(II)I"⟩
def RJxf0a74 : String := "java/util/RandomAccess"
def TJxf0a74 : u_T := fun k => match k with
  | _ => ("", "", "", false)
def tyJxf0a74 : Nat → FieldType := fun k => match k with
  | _ => .int
abbrev wsJxf0a740 : List Cond := u_ws RJxf0a74 TJxf0a74 0
theorem nmJxf0a74 : ∀ a, a < 0 → ∀ b, b < 0 → a ≠ b → (TJxf0a74 a).2.1 ≠ (TJxf0a74 b).2.1 := by decide +kernel
theorem tyJxf0a74_ok : ∀ k, k < 0 → parseFieldDescriptor (TJxf0a74 k).2.2.1 = some (tyJxf0a74 k) := by decide +kernel
def RJxa66e6 : String := "java/util/SequencedCollection"
def TJxa66e6 : u_T := fun k => match k with
  | _ => ("", "", "", false)
def tyJxa66e6 : Nat → FieldType := fun k => match k with
  | _ => .int
abbrev wsJxa66e60 : List Cond := u_ws RJxa66e6 TJxa66e6 0
theorem nmJxa66e6 : ∀ a, a < 0 → ∀ b, b < 0 → a ≠ b → (TJxa66e6 a).2.1 ≠ (TJxa66e6 b).2.1 := by decide +kernel
theorem tyJxa66e6_ok : ∀ k, k < 0 → parseFieldDescriptor (TJxa66e6 k).2.2.1 = some (tyJxa66e6 k) := by decide +kernel
def RJ8 : String := "jdk/internal/util/ArraysSupport"
def TJ8 : u_T := fun k => match k with
  | _ => ("", "", "", false)
def tyJ8 : Nat → FieldType := fun k => match k with
  | _ => .int
abbrev wsJ80 : List Cond := u_ws RJ8 TJ8 0
theorem nmJ8 : ∀ a, a < 0 → ∀ b, b < 0 → a ≠ b → (TJ8 a).2.1 ≠ (TJ8 b).2.1 := by decide +kernel
theorem tyJ8_ok : ∀ k, k < 0 → parseFieldDescriptor (TJ8 k).2.2.1 = some (tyJ8 k) := by decide +kernel
abbrev cJ8_newLength_cabcc : ByteArray := prog_29_method_27_code
def yJ8_newLength_cabcc : MethodName := ⟨RJ8, "newLength", "(III)I"⟩
abbrev cJ8_hugeLength_7cf53 : ByteArray := prog_29_method_28_code
def yJ8_hugeLength_7cf53 : MethodName := ⟨RJ8, "hugeLength", "(II)I"⟩
def RJ3 : String := "jdk/internal/util/Preconditions"
def TJ3 : u_T := fun k => match k with
  | _ => ("", "", "", false)
def tyJ3 : Nat → FieldType := fun k => match k with
  | _ => .int
abbrev wsJ30 : List Cond := u_ws RJ3 TJ3 0
theorem nmJ3 : ∀ a, a < 0 → ∀ b, b < 0 → a ≠ b → (TJ3 a).2.1 ≠ (TJ3 b).2.1 := by decide +kernel
theorem tyJ3_ok : ∀ k, k < 0 → parseFieldDescriptor (TJ3 k).2.2.1 = some (tyJ3 k) := by decide +kernel
abbrev cJ3_checkIndex_8e157 : ByteArray := prog_30_method_11_code
def yJ3_checkIndex_8e157 : MethodName := ⟨RJ3, "checkIndex", "(IILjava/util/function/BiFunction;)I"⟩
def RL : String := "TavernDiceLaw"
abbrev cL_below : ByteArray := method_2_code
def yL_below : MethodName := ⟨RL, "below", "(II)I"⟩
abbrev cL_cell : ByteArray := method_3_code
def yL_cell : MethodName := ⟨RL, "cell", "([II)I"⟩
abbrev cL_act : ByteArray := method_4_code
def yL_act : MethodName := ⟨RL, "act", "(LTavernDice;LTavernDiceLaw$Sim;I)Z"⟩
abbrev cL_build : ByteArray := method_5_code
def yL_build : MethodName := ⟨RL, "build", "(LTavernDice;[I)LTavernDiceLaw$Sim;"⟩
abbrev cL_law : ByteArray := code
def yL_law : MethodName := ⟨RL, "law", "([I)Z"⟩
def wsL_law0_r1 : List Cond := [Cond.classLink RL 33 RX2, Cond.instantiable RX2 5, Cond.initialized RX2, Cond.arrayClass .boolean, Cond.arrayClass .int, Cond.methodLink RL 75 yX2_init, Cond.instanceMethod yX2_init, Cond.code yX2_init cX2_init 2 none, Cond.methodLink RX2 3 objectInit, Cond.instanceMethod objectInit, Cond.code objectInit ⟨#[0xb1]⟩ 1 none, Cond.classLink RX2 9 RX0, Cond.instantiable RX0 4, Cond.initialized RX0, Cond.fieldLink RX2 12 "TavernDice" "dice" "LTavernDice$Dice;", Cond.classLink RX2 16 RJx4a65c, Cond.instantiable RJx4a65c 3, Cond.initialized RJx4a65c, Cond.fieldLink RX2 19 "TavernDice" "wagers" "Ljava/util/ArrayList;", Cond.fieldLink RX2 23 "TavernDice" "purses" "[I", Cond.fieldLink RX2 27 "TavernDice" "bank" "I", Cond.methodLink RX2 11 yX0_init, Cond.instanceMethod yX0_init, Cond.code yX0_init cX0_init 1 none]
def wsL_law0_r2 : List Cond := [Cond.methodLink RX0 3 objectInit, Cond.fieldLink RX0 9 "TavernDice$Dice" "sums" "[I", Cond.fieldLink RX0 15 "TavernDice$Dice" "faces" "[I", Cond.methodLink RX0 18 yX0_layOut, Cond.instanceMethod yX0_layOut, Cond.selects RX0 yX0_layOut yX0_layOut, Cond.code yX0_layOut cX0_layOut 7 none, Cond.fieldLink RX0 22 "TavernDice$Dice" "count" "I", Cond.fieldLink RX0 26 "TavernDice$Dice" "outcomes" "I", Cond.methodLink RX0 29 Lib.Math.min.name, Cond.static Lib.Math.min.name, Cond.initialized "java/lang/Math", Cond.code Lib.Math.min.name Lib.Math.min.code 2 (some .int), Cond.methodLink RX0 35 yX0_addOutcome, Cond.instanceMethod yX0_addOutcome, Cond.selects RX0 yX0_addOutcome yX0_addOutcome, Cond.code yX0_addOutcome cX0_addOutcome 4 none, Cond.methodLink RX0 38 yX0_bitOf, Cond.static yX0_bitOf, Cond.code yX0_bitOf cX0_bitOf 1 (some .int), Cond.methodLink RX2 18 yJx4a65c_init_da8c8, Cond.instanceMethod yJx4a65c_init_da8c8, Cond.code yJx4a65c_init_da8c8 cJx4a65c_init_da8c8 1 none, Cond.fieldLink RJx4a65c 39 "java/util/ArrayList" "DEFAULTCAPACITY_EMPTY_ELEMENTDATA" "[Ljava/lang/Object;"]
def wsL_law0_r3 : List Cond := [Cond.fieldLink RJx4a65c 9 "java/util/ArrayList" "elementData" "[Ljava/lang/Object;", Cond.methodLink RJx4a65c 1 yJxc12de_init_da8c8, Cond.instanceMethod yJxc12de_init_da8c8, Cond.initialized RJxc12de, Cond.code yJxc12de_init_da8c8 cJxc12de_init_da8c8 1 none, Cond.fieldLink RJxc12de 7 "java/util/AbstractList" "modCount" "I", Cond.methodLink RJxc12de 1 yJxa1e45_init_da8c8, Cond.instanceMethod yJxa1e45_init_da8c8, Cond.initialized RJxa1e45, Cond.code yJxa1e45_init_da8c8 cJxa1e45_init_da8c8 1 none, Cond.methodLink RJxa1e45 1 objectInit, Cond.methodLink RL 76 yL_build, Cond.static yL_build, Cond.initialized RL, Cond.code yL_build cL_build 4 (some (.object "TavernDiceLaw$Sim")), Cond.classLink RL 16 RX3, Cond.instantiable RX3 6, Cond.initialized RX3, Cond.constant RL 70 (16777215), Cond.instanceMethod yX3_init, Cond.code yX3_init cX3_init 1 none, Cond.methodLink RX3 1 objectInit, Cond.fieldLink RX3 7 "TavernDiceLaw$Sim" "dice" "[I", Cond.fieldLink RX3 17 "TavernDiceLaw$Sim" "shown" "[[I"]
def wsL_law0_r4 : List Cond := [Cond.fieldLink RX3 21 "TavernDiceLaw$Sim" "purse" "[I", Cond.fieldLink RX3 24 "TavernDiceLaw$Sim" "bank" "I", Cond.classLink RX3 28 "[I", Cond.fieldLink RX3 29 "TavernDiceLaw$Sim" "wagers" "[[I", Cond.methodLink RX3 13 yX3_all, Cond.static yX3_all, Cond.code yX3_all cX3_all 6 (some (.array (.array .int))), Cond.classLink RX3 32 "[[I", Cond.methodLink RL 66 yL_cell, Cond.static yL_cell, Cond.code yL_cell cL_cell 2 (some .int), Cond.constant RL 8 (790386105), Cond.methodLink RL 9 yL_below, Cond.static yL_below, Cond.code yL_below cL_below 2 (some .int), Cond.constant RL 7 (2147483647), Cond.methodLink RL 71 yL_act, Cond.static yL_act, Cond.codeWith yL_act cL_act 11 (some .boolean) [(507, 542, 543, 63)], Cond.classLink RL 63 "java/lang/IllegalStateException", Cond.fieldLink RL 15 "TavernDiceLaw$Sim" "wagers" "[[I", Cond.fieldLink RL 21 "TavernDiceLaw$Sim" "dice" "[I", Cond.fieldLink RL 29 "TavernDiceLaw$Sim" "shown" "[[I", Cond.classLink RL 38 "[I"]
def wsL_law0_r5 : List Cond := [Cond.fieldLink RL 43 "TavernDiceLaw$Sim" "purse" "[I", Cond.methodLink RL 25 yX3_all, Cond.methodLink RL 32 yX2_setDice, Cond.instanceMethod yX2_setDice, Cond.selects RX2 yX2_setDice yX2_setDice, Cond.code yX2_setDice cX2_setDice 4 (some .int), Cond.classLink RX2 38 "java/lang/IllegalArgumentException", Cond.initialized "java/lang/IllegalArgumentException", Cond.classLink RX2 49 "java/lang/IllegalStateException", Cond.initialized "java/lang/IllegalStateException", Cond.fieldLink RX2 58 "TavernDice$Dice" "outcomes" "I", Cond.methodLink RX2 31 yX2_isDie, Cond.static yX2_isDie, Cond.code yX2_isDie cX2_isDie 1 (some .boolean), Cond.methodLink RX2 35 yX2_isDieOrNone, Cond.static yX2_isDieOrNone, Cond.code yX2_isDieOrNone cX2_isDieOrNone 1 (some .boolean), Cond.methodLink RX2 45 yJx4a65c_isEmpty_aae02, Cond.instanceMethod yJx4a65c_isEmpty_aae02, Cond.selects RJx4a65c yJx4a65c_isEmpty_aae02 yJx4a65c_isEmpty_aae02, Cond.code yJx4a65c_isEmpty_aae02 cJx4a65c_isEmpty_aae02 1 (some .boolean), Cond.fieldLink RJx4a65c 48 "java/util/ArrayList" "size" "I", Cond.methodLink RX2 54 yX0_layOut, Cond.methodLink RL 39 yX3_with]
def wsL_law0_r6 : List Cond := [Cond.static yX3_with, Cond.code yX3_with cX3_with 4 (some (.array (.array .int))), Cond.methodLink RL 46 yX2_takeBack, Cond.instanceMethod yX2_takeBack, Cond.selects RX2 yX2_takeBack yX2_takeBack, Cond.code yX2_takeBack cX2_takeBack 3 (some .int), Cond.classLink RX2 98 "TavernDice$Wager", Cond.fieldLink RX2 118 "TavernDice$Wager" "patron" "I", Cond.fieldLink RX2 121 "TavernDice$Wager" "stake" "I", Cond.methodLink RX2 111 yX2_checkWager, Cond.instanceMethod yX2_checkWager, Cond.selects RX2 yX2_checkWager yX2_checkWager, Cond.code yX2_checkWager cX2_checkWager 2 none, Cond.classLink RX2 254 "java/lang/IndexOutOfBoundsException", Cond.initialized "java/lang/IndexOutOfBoundsException", Cond.methodLink RX2 90 yJx4a65c_size_8abf5, Cond.instanceMethod yJx4a65c_size_8abf5, Cond.selects RJx4a65c yJx4a65c_size_8abf5 yJx4a65c_size_8abf5, Cond.code yJx4a65c_size_8abf5 cJx4a65c_size_8abf5 1 (some .int), Cond.methodLink RX2 114 yJx4a65c_remove_915e3, Cond.instanceMethod yJx4a65c_remove_915e3, Cond.selects RJx4a65c yJx4a65c_remove_915e3 yJx4a65c_remove_915e3, Cond.code yJx4a65c_remove_915e3 cJx4a65c_remove_915e3 4 (some (.object "java/lang/Object")), Cond.methodLink RJx4a65c 118 yJ15_checkIndex_7cf53]
def wsL_law0_r7 : List Cond := [Cond.static yJ15_checkIndex_7cf53, Cond.initialized RJ15, Cond.code yJ15_checkIndex_7cf53 cJ15_checkIndex_7cf53 2 (some .int), Cond.methodLink RJ15 105 yJ3_checkIndex_8e157, Cond.static yJ3_checkIndex_8e157, Cond.initialized RJ3, Cond.code yJ3_checkIndex_8e157 cJ3_checkIndex_8e157 3 (some .int), Cond.methodLink RJx4a65c 144 yJx4a65c_fastRemove_b59b0, Cond.instanceMethod yJx4a65c_fastRemove_b59b0, Cond.selects RJx4a65c yJx4a65c_fastRemove_b59b0 yJx4a65c_fastRemove_b59b0, Cond.code yJx4a65c_fastRemove_b59b0 cJx4a65c_fastRemove_b59b0 4 none, Cond.fieldLink RJx4a65c 63 "java/util/ArrayList" "modCount" "I", Cond.sameField "java/util/ArrayList" "java/util/AbstractList" "modCount" "I", Cond.methodLink RJx4a65c 112 arraycopyName, Cond.native arraycopyName, Cond.static arraycopyName, Cond.initialized "java/lang/System", Cond.methodLink RL 50 yX3_gain_, Cond.instanceMethod yX3_gain_, Cond.selects RX3 yX3_gain_ yX3_gain_, Cond.code yX3_gain_ cX3_gain_ 7 (some .int), Cond.methodLink RX3 37 yX3_gain, Cond.static yX3_gain, Cond.code yX3_gain cX3_gain 2 (some .int)]
def wsL_law0_r8 : List Cond := [Cond.methodLink RX3 33 yX3_comes, Cond.static yX3_comes, Cond.code yX3_comes cX3_comes 10 (some .boolean), Cond.methodLink RL 53 yX3_settle, Cond.instanceMethod yX3_settle, Cond.selects RX3 yX3_settle yX3_settle, Cond.code yX3_settle cX3_settle 3 none, Cond.fieldLink RX3 48 "TavernDiceLaw$Sim" "rounds" "I", Cond.methodLink RX3 41 yX3_gain_, Cond.methodLink RX3 44 yX3_purseAt, Cond.instanceMethod yX3_purseAt, Cond.selects RX3 yX3_purseAt yX3_purseAt, Cond.code yX3_purseAt cX3_purseAt 8 (some .int), Cond.methodLink RL 57 yX2_settle, Cond.instanceMethod yX2_settle, Cond.selects RX2 yX2_settle yX2_settle, Cond.code yX2_settle cX2_settle 4 (some .int), Cond.fieldLink RX2 134 "TavernDice" "rounds" "I", Cond.methodLink RX2 64 yX2_checkOutcome, Cond.instanceMethod yX2_checkOutcome, Cond.selects RX2 yX2_checkOutcome yX2_checkOutcome, Cond.code yX2_checkOutcome cX2_checkOutcome 2 none, Cond.methodLink RX2 124 yX2_gainOfAll, Cond.instanceMethod yX2_gainOfAll]
def wsL_law0_r9 : List Cond := [Cond.selects RX2 yX2_gainOfAll yX2_gainOfAll, Cond.code yX2_gainOfAll cX2_gainOfAll 5 (some .int), Cond.fieldLink RX2 232 "TavernDice$Wager" "kind" "I", Cond.fieldLink RX2 235 "TavernDice$Wager" "number" "I", Cond.fieldLink RX2 140 "TavernDice$Wager" "brings" "I", Cond.methodLink RX2 137 yJx4a65c_get_915e3, Cond.instanceMethod yJx4a65c_get_915e3, Cond.selects RJx4a65c yJx4a65c_get_915e3 yJx4a65c_get_915e3, Cond.code yJx4a65c_get_915e3 cJx4a65c_get_915e3 2 (some (.object "java/lang/Object")), Cond.methodLink RJx4a65c 123 yJx4a65c_elementData_915e3, Cond.instanceMethod yJx4a65c_elementData_915e3, Cond.selects RJx4a65c yJx4a65c_elementData_915e3 yJx4a65c_elementData_915e3, Cond.code yJx4a65c_elementData_915e3 cJx4a65c_elementData_915e3 2 (some (.object "java/lang/Object")), Cond.methodLink RX2 238 yX0_comes, Cond.instanceMethod yX0_comes, Cond.selects RX0 yX0_comes yX0_comes, Cond.code yX0_comes cX0_comes 4 (some .boolean), Cond.methodLink RX0 42 yX0_holds, Cond.instanceMethod yX0_holds, Cond.selects RX0 yX0_holds yX0_holds, Cond.code yX0_holds cX0_holds 4 (some .boolean), Cond.methodLink RX0 46 yJ6_bitCount_0f7a4, Cond.static yJ6_bitCount_0f7a4, Cond.initialized RJ6]
def wsL_law0_r10 : List Cond := [Cond.code yJ6_bitCount_0f7a4 cJ6_bitCount_0f7a4 1 (some .int), Cond.constant RJ6 265 (1431655765), Cond.constant RJ6 266 (858993459), Cond.constant RJ6 267 (252645135), Cond.methodLink RX2 128 yX2_purseBehind, Cond.instanceMethod yX2_purseBehind, Cond.selects RX2 yX2_purseBehind yX2_purseBehind, Cond.code yX2_purseBehind cX2_purseBehind 6 (some .int), Cond.methodLink RX2 131 yJx4a65c_clear_da8c8, Cond.instanceMethod yJx4a65c_clear_da8c8, Cond.selects RJx4a65c yJx4a65c_clear_da8c8 yJx4a65c_clear_da8c8, Cond.code yJx4a65c_clear_da8c8 cJx4a65c_clear_da8c8 4 none, Cond.methodLink RL 59 yX2_lay, Cond.instanceMethod yX2_lay, Cond.selects RX2 yX2_lay yX2_lay, Cond.code yX2_lay cX2_lay 8 (some .int), Cond.classLink RX2 98 RX1, Cond.instantiable RX1 6, Cond.initialized RX1, Cond.methodLink RX2 79 yX2_checkPatron, Cond.static yX2_checkPatron, Cond.code yX2_checkPatron cX2_checkPatron 1 none, Cond.methodLink RX2 71 yX2_checkEvent, Cond.static yX2_checkEvent]
def wsL_law0_r11 : List Cond := [Cond.code yX2_checkEvent cX2_checkEvent 2 none, Cond.methodLink RX2 84 yX2_checkWin, Cond.static yX2_checkWin, Cond.code yX2_checkWin cX2_checkWin 1 none, Cond.methodLink RX2 87 yX2_checkBase, Cond.static yX2_checkBase, Cond.code yX2_checkBase cX2_checkBase 1 none, Cond.methodLink RX2 75 yX0_countWays, Cond.instanceMethod yX0_countWays, Cond.selects RX0 yX0_countWays yX0_countWays, Cond.code yX0_countWays cX0_countWays 5 (some .int), Cond.methodLink RX0 51 yX0_comes, Cond.methodLink RX2 100 yX2_broughtBy, Cond.static yX2_broughtBy, Cond.code yX2_broughtBy cX2_broughtBy 3 (some .int), Cond.methodLink RX2 104 yX1_init, Cond.instanceMethod yX1_init, Cond.code yX1_init cX1_init 7 none, Cond.methodLink RX1 1 objectInit, Cond.fieldLink RX1 7 "TavernDice$Wager" "patron" "I", Cond.fieldLink RX1 13 "TavernDice$Wager" "kind" "I", Cond.fieldLink RX1 16 "TavernDice$Wager" "number" "I", Cond.fieldLink RX1 19 "TavernDice$Wager" "stake" "I", Cond.fieldLink RX1 22 "TavernDice$Wager" "brings" "I"]
def wsL_law0_r12 : List Cond := [Cond.fieldLink RX1 25 "TavernDice$Wager" "ways" "I", Cond.methodLink RX2 107 yJx4a65c_add_9ea2d, Cond.instanceMethod yJx4a65c_add_9ea2d, Cond.selects RJx4a65c yJx4a65c_add_9ea2d yJx4a65c_add_9ea2d, Cond.code yJx4a65c_add_9ea2d cJx4a65c_add_9ea2d 2 (some .boolean), Cond.methodLink RJx4a65c 131 yJx4a65c_add_72be8, Cond.instanceMethod yJx4a65c_add_72be8, Cond.selects RJx4a65c yJx4a65c_add_72be8 yJx4a65c_add_72be8, Cond.code yJx4a65c_add_72be8 cJx4a65c_add_72be8 4 none, Cond.methodLink RJx4a65c 129 yJx4a65c_grow_d5877, Cond.instanceMethod yJx4a65c_grow_d5877, Cond.selects RJx4a65c yJx4a65c_grow_d5877 yJx4a65c_grow_d5877, Cond.code yJx4a65c_grow_d5877 cJx4a65c_grow_d5877 1 (some (.array (.object "java/lang/Object"))), Cond.methodLink RJx4a65c 69 yJx4a65c_grow_92f84, Cond.instanceMethod yJx4a65c_grow_92f84, Cond.selects RJx4a65c yJx4a65c_grow_92f84 yJx4a65c_grow_92f84, Cond.code yJx4a65c_grow_92f84 cJx4a65c_grow_92f84 4 (some (.array (.object "java/lang/Object"))), Cond.methodLink RJx4a65c 79 Lib.Math.max.name, Cond.static Lib.Math.max.name, Cond.code Lib.Math.max.name Lib.Math.max.code 2 (some .int), Cond.classLink RJx4a65c 7 "java/lang/Object", Cond.methodLink RJx4a65c 73 yJ8_newLength_cabcc, Cond.static yJ8_newLength_cabcc, Cond.initialized RJ8]
def wsL_law0_r13 : List Cond := [Cond.code yJ8_newLength_cabcc cJ8_newLength_cabcc 4 (some .int), Cond.methodLink RJ8 194 Lib.Math.max.name, Cond.constant RJ8 200 (2147483639), Cond.methodLink RJ8 201 yJ8_hugeLength_7cf53, Cond.static yJ8_hugeLength_7cf53, Cond.code yJ8_hugeLength_7cf53 cJ8_hugeLength_7cf53 3 (some .int), Cond.methodLink RJx4a65c 66 yJ7_copyOf_1904c, Cond.static yJ7_copyOf_1904c, Cond.initialized RJ7, Cond.code yJ7_copyOf_1904c cJ7_copyOf_1904c 2 (some (.array (.object "java/lang/Object"))), Cond.methodLink RJ7 86 ⟨"java/lang/Object", "getClass", "()Ljava/lang/Class;"⟩, Cond.selects "[Ljava/lang/Object;" ⟨"java/lang/Object", "getClass", "()Ljava/lang/Class;"⟩ ⟨"java/lang/Object", "getClass", "()Ljava/lang/Class;"⟩, Cond.instanceMethod ⟨"java/lang/Object", "getClass", "()Ljava/lang/Class;"⟩, Cond.native ⟨"java/lang/Object", "getClass", "()Ljava/lang/Class;"⟩, Cond.methodLink RJ7 300 yJ7_copyOf_6403c, Cond.static yJ7_copyOf_6403c, Cond.code yJ7_copyOf_6403c cJ7_copyOf_6403c 4 (some (.array (.object "java/lang/Object"))), Cond.classLink RJ7 110 "[Ljava/lang/Object;", Cond.classLink RJ7 2 "java/lang/Object", Cond.methodLink RJ7 304 Lib.Math.min.name, Cond.methodLink RJ7 150 arraycopyName, Cond.methodLink RL 80 yX2_digest, Cond.instanceMethod yX2_digest, Cond.selects RX2 yX2_digest yX2_digest]
def wsL_law0_r14 : List Cond := [Cond.code yX2_digest cX2_digest 4 (some .long), Cond.constantLong RX2 167 (2141), Cond.methodLink RX2 169 yX2_dice, Cond.instanceMethod yX2_dice, Cond.selects RX2 yX2_dice yX2_dice, Cond.code yX2_dice cX2_dice 1 (some .int), Cond.fieldLink RX2 61 "TavernDice$Dice" "count" "I", Cond.methodLink RX2 171 yX2_digested, Cond.static yX2_digested, Cond.code yX2_digested cX2_digested 4 (some .long), Cond.constantLong RX2 230 (31), Cond.methodLink RX2 175 yX2_outcomes, Cond.instanceMethod yX2_outcomes, Cond.selects RX2 yX2_outcomes yX2_outcomes, Cond.code yX2_outcomes cX2_outcomes 1 (some .int), Cond.methodLink RX2 177 yX2_open, Cond.instanceMethod yX2_open, Cond.selects RX2 yX2_open yX2_open, Cond.code yX2_open cX2_open 1 (some .int), Cond.methodLink RX2 180 yX2_bank, Cond.instanceMethod yX2_bank, Cond.selects RX2 yX2_bank yX2_bank, Cond.code yX2_bank cX2_bank 1 (some .int), Cond.methodLink RX2 182 yX2_rounds]
def wsL_law0_r15 : List Cond := [Cond.instanceMethod yX2_rounds, Cond.selects RX2 yX2_rounds yX2_rounds, Cond.code yX2_rounds cX2_rounds 1 (some .int), Cond.methodLink RX2 184 yX2_staked, Cond.instanceMethod yX2_staked, Cond.selects RX2 yX2_staked yX2_staked, Cond.code yX2_staked cX2_staked 3 (some .int), Cond.methodLink RX2 187 yX2_allEdgesTop, Cond.instanceMethod yX2_allEdgesTop, Cond.selects RX2 yX2_allEdgesTop yX2_allEdgesTop, Cond.code yX2_allEdgesTop cX2_allEdgesTop 1 (some .int), Cond.methodLink RX2 153 yX2_gainOfAllOverOutcomes, Cond.instanceMethod yX2_gainOfAllOverOutcomes, Cond.selects RX2 yX2_gainOfAllOverOutcomes yX2_gainOfAllOverOutcomes, Cond.code yX2_gainOfAllOverOutcomes cX2_gainOfAllOverOutcomes 3 (some .int), Cond.methodLink RX2 143 yX2_gainOverOutcomes, Cond.instanceMethod yX2_gainOverOutcomes, Cond.selects RX2 yX2_gainOverOutcomes yX2_gainOverOutcomes, Cond.code yX2_gainOverOutcomes cX2_gainOverOutcomes 2 (some .int), Cond.fieldLink RX2 242 "TavernDice$Wager" "ways" "I", Cond.methodLink RX2 164 yX0_gainOver, Cond.instanceMethod yX0_gainOver, Cond.selects RX0 yX0_gainOver yX0_gainOver, Cond.code yX0_gainOver cX0_gainOver 4 (some .int)]
def wsL_law0_r16 : List Cond := [Cond.methodLink RX2 147 yX2_lowestTop, Cond.instanceMethod yX2_lowestTop, Cond.selects RX2 yX2_lowestTop yX2_lowestTop, Cond.code yX2_lowestTop cX2_lowestTop 2 (some .int), Cond.methodLink RX2 245 yX2_commonDivisor, Cond.static yX2_commonDivisor, Cond.code yX2_commonDivisor cX2_commonDivisor 6 (some .int), Cond.methodLink RX2 248 Lib.Math.abs.name, Cond.static Lib.Math.abs.name, Cond.code Lib.Math.abs.name Lib.Math.abs.code 1 (some .int), Cond.methodLink RX2 251 Lib.Math.max.name, Cond.methodLink RX2 190 yX2_allEdgesBottom, Cond.instanceMethod yX2_allEdgesBottom, Cond.selects RX2 yX2_allEdgesBottom yX2_allEdgesBottom, Cond.code yX2_allEdgesBottom cX2_allEdgesBottom 1 (some .int), Cond.methodLink RX2 150 yX2_lowestBottom, Cond.instanceMethod yX2_lowestBottom, Cond.selects RX2 yX2_lowestBottom yX2_lowestBottom, Cond.code yX2_lowestBottom cX2_lowestBottom 2 (some .int), Cond.methodLink RX2 193 yX2_dearestWager, Cond.instanceMethod yX2_dearestWager, Cond.selects RX2 yX2_dearestWager yX2_dearestWager, Cond.code yX2_dearestWager cX2_dearestWager 10 (some .int), Cond.methodLink RX2 196 yX2_worstGain]
def wsL_law0_r17 : List Cond := [Cond.instanceMethod yX2_worstGain, Cond.selects RX2 yX2_worstGain yX2_worstGain, Cond.code yX2_worstGain cX2_worstGain 1 (some .int), Cond.methodLink RX2 156 yX2_worstOutcome, Cond.instanceMethod yX2_worstOutcome, Cond.selects RX2 yX2_worstOutcome yX2_worstOutcome, Cond.code yX2_worstOutcome cX2_worstOutcome 5 (some .int), Cond.methodLink RX2 199 yX2_digestOfWagers, Cond.instanceMethod yX2_digestOfWagers, Cond.selects RX2 yX2_digestOfWagers yX2_digestOfWagers, Cond.code yX2_digestOfWagers cX2_digestOfWagers 6 (some .long), Cond.methodLink RX2 206 yX2_patronOf, Cond.instanceMethod yX2_patronOf, Cond.selects RX2 yX2_patronOf yX2_patronOf, Cond.code yX2_patronOf cX2_patronOf 2 (some .int), Cond.methodLink RX2 209 yX2_stakeOf, Cond.instanceMethod yX2_stakeOf, Cond.selects RX2 yX2_stakeOf yX2_stakeOf, Cond.code yX2_stakeOf cX2_stakeOf 2 (some .int), Cond.methodLink RX2 212 yX2_bringsOf, Cond.instanceMethod yX2_bringsOf, Cond.selects RX2 yX2_bringsOf yX2_bringsOf, Cond.code yX2_bringsOf cX2_bringsOf 2 (some .int), Cond.methodLink RX2 215 yX2_edgeTop]
def wsL_law0_r18 : List Cond := [Cond.instanceMethod yX2_edgeTop, Cond.selects RX2 yX2_edgeTop yX2_edgeTop, Cond.code yX2_edgeTop cX2_edgeTop 2 (some .int), Cond.methodLink RX2 218 yX2_edgeBottom, Cond.instanceMethod yX2_edgeBottom, Cond.selects RX2 yX2_edgeBottom yX2_edgeBottom, Cond.code yX2_edgeBottom cX2_edgeBottom 2 (some .int), Cond.methodLink RX2 203 yX2_digestOfPatrons, Cond.instanceMethod yX2_digestOfPatrons, Cond.selects RX2 yX2_digestOfPatrons yX2_digestOfPatrons, Cond.code yX2_digestOfPatrons cX2_digestOfPatrons 6 (some .long), Cond.methodLink RX2 221 yX2_purseOf, Cond.instanceMethod yX2_purseOf, Cond.selects RX2 yX2_purseOf yX2_purseOf, Cond.code yX2_purseOf cX2_purseOf 2 (some .int), Cond.methodLink RX2 224 yX2_leastPurse, Cond.instanceMethod yX2_leastPurse, Cond.selects RX2 yX2_leastPurse yX2_leastPurse, Cond.code yX2_leastPurse cX2_leastPurse 4 (some .int), Cond.methodLink RX2 159 Lib.Math.min.name, Cond.methodLink RX2 227 yX2_isHedged, Cond.instanceMethod yX2_isHedged, Cond.selects RX2 yX2_isHedged yX2_isHedged, Cond.code yX2_isHedged cX2_isHedged 4 (some .boolean)]
def wsL_law0_r19 : List Cond := [Cond.methodLink RL 84 yX2_bank, Cond.methodLink RL 88 yX2_staked, Cond.methodLink RL 91 yX2_outcomes, Cond.methodLink RL 94 yX2_open, Cond.methodLink RL 97 yX2_patronOf, Cond.methodLink RL 100 yX2_purseOf, Cond.methodLink RL 103 yX2_leastPurse, Cond.methodLink RL 106 yX2_isHedged, Cond.methodLink RL 110 yX2_ways, Cond.instanceMethod yX2_ways, Cond.selects RX2 yX2_ways yX2_ways, Cond.code yX2_ways cX2_ways 3 (some .int), Cond.methodLink RL 113 yX2_gainAt, Cond.instanceMethod yX2_gainAt, Cond.selects RX2 yX2_gainAt yX2_gainAt, Cond.code yX2_gainAt cX2_gainAt 2 (some .int), Cond.methodLink RL 116 yX2_worstGain, Cond.methodLink RL 119 yX2_worstOutcome, Cond.methodLink RL 122 yX2_allEdgesBottom, Cond.methodLink RL 125 yX2_allEdgesTop, Cond.methodLink RL 128 yX2_dearestWager, Cond.methodLink RL 131 yX2_edgeTop, Cond.methodLink RL 134 yX2_edgeBottom, Cond.methodLink RL 137 yX2_stakeOf]
def wsL_law0_r20 : List Cond := [Cond.methodLink RL 140 yX2_bringsOf, Cond.methodLink RL 143 yX2_purseAt, Cond.instanceMethod yX2_purseAt, Cond.selects RX2 yX2_purseAt yX2_purseAt, Cond.code yX2_purseAt cX2_purseAt 3 (some .int), Cond.methodLink RL 146 yX2_fairWin, Cond.instanceMethod yX2_fairWin, Cond.selects RX2 yX2_fairWin yX2_fairWin, Cond.code yX2_fairWin cX2_fairWin 6 (some .int), Cond.methodLink RL 149 yX3_isSame, Cond.instanceMethod yX3_isSame, Cond.selects RX3 yX3_isSame yX3_isSame, Cond.code yX3_isSame cX3_isSame 8 (some .boolean), Cond.methodLink RX3 51 yX3_edge, Cond.instanceMethod yX3_edge, Cond.selects RX3 yX3_edge yX3_edge, Cond.code yX3_edge cX3_edge 7 (some .int), Cond.methodLink RX3 55 yX2_patronOf, Cond.methodLink RX3 60 yX2_stakeOf, Cond.methodLink RX3 63 yX2_bringsOf, Cond.methodLink RX3 66 yX2_edgeTop, Cond.methodLink RX3 69 yX2_edgeBottom, Cond.methodLink RX3 72 yX3_isEdge, Cond.instanceMethod yX3_isEdge]
def wsL_law0_r21 : List Cond := [Cond.selects RX3 yX3_isEdge yX3_isEdge, Cond.code yX3_isEdge cX3_isEdge 5 (some .boolean), Cond.methodLink RX3 76 yX2_purseOf, Cond.methodLink RX3 79 yX2_dice, Cond.methodLink RX3 82 yX2_outcomes, Cond.methodLink RX3 85 yX2_open, Cond.methodLink RX3 88 yX2_bank, Cond.methodLink RX3 90 yX2_rounds, Cond.methodLink RX3 92 yX2_staked, Cond.methodLink RX3 95 yX2_allEdgesTop, Cond.methodLink RX3 98 yX2_allEdgesBottom]
def wsL_law0 : List Cond := (wsL_law0_r1 ++ (wsL_law0_r2 ++ (wsL_law0_r3 ++ (wsL_law0_r4 ++ (wsL_law0_r5 ++ (wsL_law0_r6 ++ (wsL_law0_r7 ++ (wsL_law0_r8 ++ (wsL_law0_r9 ++ (wsL_law0_r10 ++ (wsL_law0_r11 ++ (wsL_law0_r12 ++ (wsL_law0_r13 ++ (wsL_law0_r14 ++ (wsL_law0_r15 ++ (wsL_law0_r16 ++ (wsL_law0_r17 ++ (wsL_law0_r18 ++ (wsL_law0_r19 ++ (wsL_law0_r20 ++ wsL_law0_r21)))))))))))))))))))) ++ wsX20 ++ wsX00 ++ wsJx4a65c0 ++ wsX30 ++ wsX10 ++ ([] : List Cond)
def wsL_law : List Cond := wsL_law0 ++ (vx_atS RX2 42 "java/lang/IllegalArgumentException" ["java/lang/RuntimeException", "java/lang/Exception"]).filter goodWord ++ (vx_atS RX2 53 "java/lang/IllegalStateException" ["java/lang/RuntimeException", "java/lang/Exception"]).filter goodWord ++ (vx_atS RX2 258 "java/lang/IndexOutOfBoundsException" ["java/lang/RuntimeException", "java/lang/Exception"]).filter goodWord
