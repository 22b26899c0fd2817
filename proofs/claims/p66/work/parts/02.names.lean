/-! ===== BEGIN printed: names, fields, word lists, decode rows ===== -/
def RX0 : String := "HopOast$Air"
def TX0 : u_T := fun k => match k with
  | 0 => ("HopOast$Air", "gear", "I", false)
  | 1 => ("HopOast$Air", "windDirection", "I", false)
  | 2 => ("HopOast$Air", "windStrength", "I", false)
  | _ => ("HopOast$Air", "vaneDirection", "I", false)
def tyX0 : Nat → FieldType := fun k => match k with
  | 0 => .int
  | 1 => .int
  | 2 => .int
  | _ => .int
abbrev wsX00 : List Cond := u_ws RX0 TX0 4
theorem nmX0 : ∀ a, a < 4 → ∀ b, b < 4 → a ≠ b → (TX0 a).2.1 ≠ (TX0 b).2.1 := by decide +kernel
theorem tyX0_ok : ∀ k, k < 4 → parseFieldDescriptor (TX0 k).2.2.1 = some (tyX0 k) := by decide +kernel
abbrev cX0_init : ByteArray := prog_2_method_1_code
def yX0_init : MethodName := ⟨RX0, "<init>", "()V"⟩
abbrev cX0_copyFrom : ByteArray := prog_2_method_2_code
def yX0_copyFrom : MethodName := ⟨RX0, "copyFrom", "(LHopOast$Air;)V"⟩
abbrev cX0_clockwiseSteps : ByteArray := prog_2_method_3_code
def yX0_clockwiseSteps : MethodName := ⟨RX0, "clockwiseSteps", "()I"⟩
abbrev cX0_offset : ByteArray := prog_2_method_4_code
def yX0_offset : MethodName := ⟨RX0, "offset", "()I"⟩
abbrev cX0_pull : ByteArray := prog_2_method_5_code
def yX0_pull : MethodName := ⟨RX0, "pull", "()I"⟩
abbrev cX0_turnVane : ByteArray := prog_2_method_6_code
def yX0_turnVane : MethodName := ⟨RX0, "turnVane", "()I"⟩
def RX1 : String := "HopOast$Floors"
def TX1 : u_T := fun k => match k with
  | 0 => ("HopOast$Floors", "count", "I", false)
  | 1 => ("HopOast$Floors", "limit", "[I", true)
  | 2 => ("HopOast$Floors", "mass", "[I", true)
  | 3 => ("HopOast$Floors", "moisture", "[I", true)
  | _ => ("HopOast$Floors", "scorch", "[I", true)
def tyX1 : Nat → FieldType := fun k => match k with
  | 0 => .int
  | 1 => .array .int
  | 2 => .array .int
  | 3 => .array .int
  | _ => .array .int
abbrev wsX10 : List Cond := u_ws RX1 TX1 5
theorem nmX1 : ∀ a, a < 5 → ∀ b, b < 5 → a ≠ b → (TX1 a).2.1 ≠ (TX1 b).2.1 := by decide +kernel
theorem tyX1_ok : ∀ k, k < 5 → parseFieldDescriptor (TX1 k).2.2.1 = some (tyX1 k) := by decide +kernel
abbrev cX1_init : ByteArray := prog_3_method_1_code
def yX1_init : MethodName := ⟨RX1, "<init>", "()V"⟩
abbrev cX1_copyFrom : ByteArray := prog_3_method_2_code
def yX1_copyFrom : MethodName := ⟨RX1, "copyFrom", "(LHopOast$Floors;)V"⟩
abbrev cX1_addFloor : ByteArray := prog_3_method_3_code
def yX1_addFloor : MethodName := ⟨RX1, "addFloor", "(I)V"⟩
abbrev cX1_exists : ByteArray := prog_3_method_4_code
def yX1_exists : MethodName := ⟨RX1, "exists", "(I)Z"⟩
abbrev cX1_isTaken : ByteArray := prog_3_method_5_code
def yX1_isTaken : MethodName := ⟨RX1, "isTaken", "(I)Z"⟩
abbrev cX1_holdsDryLoad : ByteArray := prog_3_method_6_code
def yX1_holdsDryLoad : MethodName := ⟨RX1, "holdsDryLoad", "(I)Z"⟩
abbrev cX1_place : ByteArray := prog_3_method_7_code
def yX1_place : MethodName := ⟨RX1, "place", "(III)V"⟩
abbrev cX1_moveDown : ByteArray := prog_3_method_8_code
def yX1_moveDown : MethodName := ⟨RX1, "moveDown", "(I)V"⟩
abbrev cX1_coolingBy : ByteArray := prog_3_method_9_code
def yX1_coolingBy : MethodName := ⟨RX1, "coolingBy", "(I)I"⟩
abbrev cX1_decrease : ByteArray := prog_3_method_10_code
def yX1_decrease : MethodName := ⟨RX1, "decrease", "(III)I"⟩
abbrev cX1_dryLoad : ByteArray := prog_3_method_11_code
def yX1_dryLoad : MethodName := ⟨RX1, "dryLoad", "(III)V"⟩
abbrev cX1_countTaken : ByteArray := prog_3_method_12_code
def yX1_countTaken : MethodName := ⟨RX1, "countTaken", "()I"⟩
abbrev cX1_sumOfMasses : ByteArray := prog_3_method_14_code
def yX1_sumOfMasses : MethodName := ⟨RX1, "sumOfMasses", "()I"⟩
def RX2 : String := "HopOast$History"
def TX2 : u_T := fun k => match k with
  | 0 => ("HopOast$History", "count", "I", false)
  | 1 => ("HopOast$History", "first", "I", false)
  | 2 => ("HopOast$History", "past", "[LHopOast$House;", true)
  | 3 => ("HopOast$History", "slots", "[LHopOast$House;", true)
  | _ => ("HopOast$History", "filled", "[Z", true)
def tyX2 : Nat → FieldType := fun k => match k with
  | 0 => .int
  | 1 => .int
  | 2 => .array (.object "HopOast$House")
  | 3 => .array (.object "HopOast$House")
  | _ => .array .boolean
abbrev wsX20 : List Cond := u_ws RX2 TX2 5
theorem nmX2 : ∀ a, a < 5 → ∀ b, b < 5 → a ≠ b → (TX2 a).2.1 ≠ (TX2 b).2.1 := by decide +kernel
theorem tyX2_ok : ∀ k, k < 5 → parseFieldDescriptor (TX2 k).2.2.1 = some (tyX2 k) := by decide +kernel
abbrev cX2_init : ByteArray := prog_4_method_1_code
def yX2_init : MethodName := ⟨RX2, "<init>", "()V"⟩
abbrev cX2_record : ByteArray := prog_4_method_2_code
def yX2_record : MethodName := ⟨RX2, "record", "(LHopOast$House;)V"⟩
abbrev cX2_forgetChanges : ByteArray := prog_4_method_4_code
def yX2_forgetChanges : MethodName := ⟨RX2, "forgetChanges", "()V"⟩
abbrev cX2_emptySlots : ByteArray := prog_4_method_7_code
def yX2_emptySlots : MethodName := ⟨RX2, "emptySlots", "()V"⟩
def RX3 : String := "HopOast$House"
def TX3 : u_T := fun k => match k with
  | 0 => ("HopOast$House", "minute", "I", false)
  | 1 => ("HopOast$House", "heat", "I", false)
  | 2 => ("HopOast$House", "loadedMass", "I", false)
  | 3 => ("HopOast$House", "dampedHeat", "I", false)
  | 4 => ("HopOast$House", "vaneSteps", "I", false)
  | 5 => ("HopOast$House", "air", "LHopOast$Air;", true)
  | 6 => ("HopOast$House", "floors", "LHopOast$Floors;", true)
  | 7 => ("HopOast$House", "sacks", "LHopOast$Sacks;", true)
  | _ => ("HopOast$House", "temperatures", "[I", true)
def tyX3 : Nat → FieldType := fun k => match k with
  | 0 => .int
  | 1 => .int
  | 2 => .int
  | 3 => .int
  | 4 => .int
  | 5 => .object "HopOast$Air"
  | 6 => .object "HopOast$Floors"
  | 7 => .object "HopOast$Sacks"
  | _ => .array .int
abbrev wsX30 : List Cond := u_ws RX3 TX3 9
theorem nmX3 : ∀ a, a < 9 → ∀ b, b < 9 → a ≠ b → (TX3 a).2.1 ≠ (TX3 b).2.1 := by decide +kernel
theorem tyX3_ok : ∀ k, k < 9 → parseFieldDescriptor (TX3 k).2.2.1 = some (tyX3 k) := by decide +kernel
abbrev cX3_init : ByteArray := prog_5_method_1_code
def yX3_init : MethodName := ⟨RX3, "<init>", "()V"⟩
abbrev cX3_copyFrom : ByteArray := prog_5_method_2_code
def yX3_copyFrom : MethodName := ⟨RX3, "copyFrom", "(LHopOast$House;)V"⟩
abbrev cX3_warmth : ByteArray := prog_5_method_3_code
def yX3_warmth : MethodName := ⟨RX3, "warmth", "(II)I"⟩
abbrev cX3_temperature : ByteArray := prog_5_method_4_code
def yX3_temperature : MethodName := ⟨RX3, "temperature", "(II)I"⟩
abbrev cX3_temperatureNow : ByteArray := prog_5_method_5_code
def yX3_temperatureNow : MethodName := ⟨RX3, "temperatureNow", "(I)I"⟩
abbrev cX3_dryingNow : ByteArray := prog_5_method_6_code
def yX3_dryingNow : MethodName := ⟨RX3, "dryingNow", "(I)I"⟩
abbrev cX3_countTooHot : ByteArray := prog_5_method_8_code
def yX3_countTooHot : MethodName := ⟨RX3, "countTooHot", "()I"⟩
abbrev cX3_countWarmthBreaks : ByteArray := prog_5_method_9_code
def yX3_countWarmthBreaks : MethodName := ⟨RX3, "countWarmthBreaks", "()I"⟩
abbrev cX3_damp : ByteArray := prog_5_method_10_code
def yX3_damp : MethodName := ⟨RX3, "damp", "()V"⟩
abbrev cX3_place : ByteArray := prog_5_method_11_code
def yX3_place : MethodName := ⟨RX3, "place", "(III)V"⟩
abbrev cX3_canPut : ByteArray := prog_5_method_12_code
def yX3_canPut : MethodName := ⟨RX3, "canPut", "()Z"⟩
abbrev cX3_putOnTop : ByteArray := prog_5_method_13_code
def yX3_putOnTop : MethodName := ⟨RX3, "putOnTop", "(II)V"⟩
abbrev cX3_obstacle : ByteArray := prog_5_method_14_code
def yX3_obstacle : MethodName := ⟨RX3, "obstacle", "(I)I"⟩
abbrev cX3_moveOrPack : ByteArray := prog_5_method_15_code
def yX3_moveOrPack : MethodName := ⟨RX3, "moveOrPack", "(I)V"⟩
abbrev cX3_lowerOne : ByteArray := prog_5_method_16_code
def yX3_lowerOne : MethodName := ⟨RX3, "lowerOne", "(I)V"⟩
abbrev cX3_lowerAll : ByteArray := prog_5_method_17_code
def yX3_lowerAll : MethodName := ⟨RX3, "lowerAll", "()I"⟩
abbrev cX3_stoke : ByteArray := prog_5_method_18_code
def yX3_stoke : MethodName := ⟨RX3, "stoke", "(I)V"⟩
abbrev cX3_shiftGear : ByteArray := prog_5_method_19_code
def yX3_shiftGear : MethodName := ⟨RX3, "shiftGear", "(I)V"⟩
abbrev cX3_changeWind : ByteArray := prog_5_method_20_code
def yX3_changeWind : MethodName := ⟨RX3, "changeWind", "(II)V"⟩
abbrev cX3_canWait : ByteArray := prog_5_method_21_code
def yX3_canWait : MethodName := ⟨RX3, "canWait", "(I)Z"⟩
abbrev cX3_passMinutes : ByteArray := prog_5_method_22_code
def yX3_passMinutes : MethodName := ⟨RX3, "passMinutes", "(I)I"⟩
abbrev cX3_dryLoads : ByteArray := prog_5_method_23_code
def yX3_dryLoads : MethodName := ⟨RX3, "dryLoads", "()V"⟩
def RX4 : String := "HopOast$Output"
def TX4 : u_T := fun k => match k with
  | 0 => ("HopOast$Output", "length", "I", false)
  | _ => ("HopOast$Output", "bytes", "[I", true)
def tyX4 : Nat → FieldType := fun k => match k with
  | 0 => .int
  | _ => .array .int
abbrev wsX40 : List Cond := u_ws RX4 TX4 2
theorem nmX4 : ∀ a, a < 2 → ∀ b, b < 2 → a ≠ b → (TX4 a).2.1 ≠ (TX4 b).2.1 := by decide +kernel
theorem tyX4_ok : ∀ k, k < 2 → parseFieldDescriptor (TX4 k).2.2.1 = some (tyX4 k) := by decide +kernel
abbrev cX4_init : ByteArray := prog_6_method_1_code
def yX4_init : MethodName := ⟨RX4, "<init>", "()V"⟩
def RX5 : String := "HopOast$Sacks"
def TX5 : u_T := fun k => match k with
  | 0 => ("HopOast$Sacks", "count", "I", false)
  | 1 => ("HopOast$Sacks", "soldMass", "I", false)
  | 2 => ("HopOast$Sacks", "burntMass", "I", false)
  | 3 => ("HopOast$Sacks", "income", "I", false)
  | 4 => ("HopOast$Sacks", "state", "[I", true)
  | 5 => ("HopOast$Sacks", "mass", "[I", true)
  | 6 => ("HopOast$Sacks", "moisture", "[I", true)
  | 7 => ("HopOast$Sacks", "scorch", "[I", true)
  | _ => ("HopOast$Sacks", "temperature", "[I", true)
def tyX5 : Nat → FieldType := fun k => match k with
  | 0 => .int
  | 1 => .int
  | 2 => .int
  | 3 => .int
  | 4 => .array .int
  | 5 => .array .int
  | 6 => .array .int
  | 7 => .array .int
  | _ => .array .int
abbrev wsX50 : List Cond := u_ws RX5 TX5 9
theorem nmX5 : ∀ a, a < 9 → ∀ b, b < 9 → a ≠ b → (TX5 a).2.1 ≠ (TX5 b).2.1 := by decide +kernel
theorem tyX5_ok : ∀ k, k < 9 → parseFieldDescriptor (TX5 k).2.2.1 = some (tyX5 k) := by decide +kernel
abbrev cX5_init : ByteArray := prog_7_method_1_code
def yX5_init : MethodName := ⟨RX5, "<init>", "()V"⟩
abbrev cX5_copyFrom : ByteArray := prog_7_method_2_code
def yX5_copyFrom : MethodName := ⟨RX5, "copyFrom", "(LHopOast$Sacks;)V"⟩
abbrev cX5_exists : ByteArray := prog_7_method_3_code
def yX5_exists : MethodName := ⟨RX5, "exists", "(I)Z"⟩
abbrev cX5_isStored : ByteArray := prog_7_method_4_code
def yX5_isStored : MethodName := ⟨RX5, "isStored", "(I)Z"⟩
abbrev cX5_smoulders : ByteArray := prog_7_method_5_code
def yX5_smoulders : MethodName := ⟨RX5, "smoulders", "(I)Z"⟩
abbrev cX5_canSell : ByteArray := prog_7_method_6_code
def yX5_canSell : MethodName := ⟨RX5, "canSell", "(I)Z"⟩
abbrev cX5_isFull : ByteArray := prog_7_method_7_code
def yX5_isFull : MethodName := ⟨RX5, "isFull", "()Z"⟩
abbrev cX5_pack : ByteArray := prog_7_method_8_code
def yX5_pack : MethodName := ⟨RX5, "pack", "(LHopOast$Floors;I)V"⟩
abbrev cX5_quality : ByteArray := prog_7_method_9_code
def yX5_quality : MethodName := ⟨RX5, "quality", "(I)I"⟩
abbrev cX5_price : ByteArray := prog_7_method_10_code
def yX5_price : MethodName := ⟨RX5, "price", "(I)I"⟩
abbrev cX5_giveAway : ByteArray := prog_7_method_11_code
def yX5_giveAway : MethodName := ⟨RX5, "giveAway", "(I)V"⟩
abbrev cX5_wet : ByteArray := prog_7_method_12_code
def yX5_wet : MethodName := ⟨RX5, "wet", "(I)V"⟩
abbrev cX5_glow : ByteArray := prog_7_method_13_code
def yX5_glow : MethodName := ⟨RX5, "glow", "()I"⟩
abbrev cX5_warmOrCool : ByteArray := prog_7_method_14_code
def yX5_warmOrCool : MethodName := ⟨RX5, "warmOrCool", "(I)V"⟩
abbrev cX5_burn : ByteArray := prog_7_method_15_code
def yX5_burn : MethodName := ⟨RX5, "burn", "(I)V"⟩
abbrev cX5_heatUp : ByteArray := prog_7_method_16_code
def yX5_heatUp : MethodName := ⟨RX5, "heatUp", "(I)V"⟩
abbrev cX5_sumOfMasses : ByteArray := prog_7_method_19_code
def yX5_sumOfMasses : MethodName := ⟨RX5, "sumOfMasses", "()I"⟩
abbrev cX5_sumOfMassesGone : ByteArray := prog_7_method_20_code
def yX5_sumOfMassesGone : MethodName := ⟨RX5, "sumOfMassesGone", "()I"⟩
def RX6 : String := "HopOast$Script"
def TX6 : u_T := fun k => match k with
  | 0 => ("HopOast$Script", "length", "I", false)
  | 1 => ("HopOast$Script", "verbs", "[I", true)
  | 2 => ("HopOast$Script", "firsts", "[I", true)
  | _ => ("HopOast$Script", "seconds", "[I", true)
def tyX6 : Nat → FieldType := fun k => match k with
  | 0 => .int
  | 1 => .array .int
  | 2 => .array .int
  | _ => .array .int
abbrev wsX60 : List Cond := u_ws RX6 TX6 4
theorem nmX6 : ∀ a, a < 4 → ∀ b, b < 4 → a ≠ b → (TX6 a).2.1 ≠ (TX6 b).2.1 := by decide +kernel
theorem tyX6_ok : ∀ k, k < 4 → parseFieldDescriptor (TX6 k).2.2.1 = some (tyX6 k) := by decide +kernel
abbrev cX6_init : ByteArray := prog_8_method_1_code
def yX6_init : MethodName := ⟨RX6, "<init>", "()V"⟩
def RX7 : String := "HopOast$ScriptReader"
def TX7 : u_T := fun k => match k with
  | 0 => ("HopOast$ScriptReader", "tokens", "LHopOast$Tokens;", true)
  | 1 => ("HopOast$ScriptReader", "script", "LHopOast$Script;", true)
  | 2 => ("HopOast$ScriptReader", "commands", "I", false)
  | 3 => ("HopOast$ScriptReader", "depth", "I", false)
  | 4 => ("HopOast$ScriptReader", "starts", "[I", true)
  | _ => ("HopOast$ScriptReader", "times", "[I", true)
def tyX7 : Nat → FieldType := fun k => match k with
  | 0 => .object "HopOast$Tokens"
  | 1 => .object "HopOast$Script"
  | 2 => .int
  | 3 => .int
  | 4 => .array .int
  | _ => .array .int
abbrev wsX70 : List Cond := u_ws RX7 TX7 6
theorem nmX7 : ∀ a, a < 6 → ∀ b, b < 6 → a ≠ b → (TX7 a).2.1 ≠ (TX7 b).2.1 := by decide +kernel
theorem tyX7_ok : ∀ k, k < 6 → parseFieldDescriptor (TX7 k).2.2.1 = some (tyX7 k) := by decide +kernel
abbrev cX7_init : ByteArray := prog_9_method_1_code
def yX7_init : MethodName := ⟨RX7, "<init>", "(LHopOast$Tokens;LHopOast$Script;)V"⟩
def RX8 : String := "HopOast$SetupReader"
def TX8 : u_T := fun k => match k with
  | 0 => ("HopOast$SetupReader", "tokens", "LHopOast$Tokens;", true)
  | _ => ("HopOast$SetupReader", "draft", "LHopOast$House;", true)
def tyX8 : Nat → FieldType := fun k => match k with
  | 0 => .object "HopOast$Tokens"
  | _ => .object "HopOast$House"
abbrev wsX80 : List Cond := u_ws RX8 TX8 2
theorem nmX8 : ∀ a, a < 2 → ∀ b, b < 2 → a ≠ b → (TX8 a).2.1 ≠ (TX8 b).2.1 := by decide +kernel
theorem tyX8_ok : ∀ k, k < 2 → parseFieldDescriptor (TX8 k).2.2.1 = some (tyX8 k) := by decide +kernel
abbrev cX8_init : ByteArray := prog_10_method_1_code
def yX8_init : MethodName := ⟨RX8, "<init>", "(LHopOast$Tokens;LHopOast$House;)V"⟩
abbrev cX8_read : ByteArray := prog_10_method_2_code
def yX8_read : MethodName := ⟨RX8, "read", "()V"⟩
abbrev cX8_readFireAndWind : ByteArray := prog_10_method_3_code
def yX8_readFireAndWind : MethodName := ⟨RX8, "readFireAndWind", "()V"⟩
abbrev cX8_readFloor : ByteArray := prog_10_method_4_code
def yX8_readFloor : MethodName := ⟨RX8, "readFloor", "()V"⟩
abbrev cX8_readLoad : ByteArray := prog_10_method_5_code
def yX8_readLoad : MethodName := ⟨RX8, "readLoad", "()V"⟩
def RX9 : String := "HopOast$Text"
def TX9 : u_T := fun k => match k with
  | 0 => ("HopOast$Text", "length", "I", false)
  | _ => ("HopOast$Text", "bytes", "[I", true)
def tyX9 : Nat → FieldType := fun k => match k with
  | 0 => .int
  | _ => .array .int
abbrev wsX90 : List Cond := u_ws RX9 TX9 2
theorem nmX9 : ∀ a, a < 2 → ∀ b, b < 2 → a ≠ b → (TX9 a).2.1 ≠ (TX9 b).2.1 := by decide +kernel
theorem tyX9_ok : ∀ k, k < 2 → parseFieldDescriptor (TX9 k).2.2.1 = some (tyX9 k) := by decide +kernel
abbrev cX9_init : ByteArray := prog_11_method_1_code
def yX9_init : MethodName := ⟨RX9, "<init>", "()V"⟩
abbrev cX9_add : ByteArray := prog_11_method_2_code
def yX9_add : MethodName := ⟨RX9, "add", "(I)V"⟩
abbrev cX9_addFour : ByteArray := prog_11_method_3_code
def yX9_addFour : MethodName := ⟨RX9, "addFour", "(I)V"⟩
abbrev cX9_at : ByteArray := prog_11_method_4_code
def yX9_at : MethodName := ⟨RX9, "at", "(I)I"⟩
def RX10 : String := "HopOast$Tokens"
def TX10 : u_T := fun k => match k with
  | 0 => ("HopOast$Tokens", "code", "I", false)
  | 1 => ("HopOast$Tokens", "position", "I", false)
  | 2 => ("HopOast$Tokens", "text", "LHopOast$Text;", true)
  | 3 => ("HopOast$Tokens", "kind", "I", false)
  | 4 => ("HopOast$Tokens", "start", "I", false)
  | _ => ("HopOast$Tokens", "end", "I", false)
def tyX10 : Nat → FieldType := fun k => match k with
  | 0 => .int
  | 1 => .int
  | 2 => .object "HopOast$Text"
  | 3 => .int
  | 4 => .int
  | _ => .int
abbrev wsX100 : List Cond := u_ws RX10 TX10 6
theorem nmX10 : ∀ a, a < 6 → ∀ b, b < 6 → a ≠ b → (TX10 a).2.1 ≠ (TX10 b).2.1 := by decide +kernel
theorem tyX10_ok : ∀ k, k < 6 → parseFieldDescriptor (TX10 k).2.2.1 = some (tyX10 k) := by decide +kernel
abbrev cX10_init : ByteArray := prog_12_method_1_code
def yX10_init : MethodName := ⟨RX10, "<init>", "(LHopOast$Text;)V"⟩
abbrev cX10_begin : ByteArray := prog_12_method_2_code
def yX10_begin : MethodName := ⟨RX10, "begin", "()V"⟩
abbrev cX10_sound : ByteArray := prog_12_method_3_code
def yX10_sound : MethodName := ⟨RX10, "sound", "()Z"⟩
abbrev cX10_fail : ByteArray := prog_12_method_4_code
def yX10_fail : MethodName := ⟨RX10, "fail", "(I)V"⟩
abbrev cX10_next : ByteArray := prog_12_method_5_code
def yX10_next : MethodName := ⟨RX10, "next", "()V"⟩
abbrev cX10_isBlank : ByteArray := prog_12_method_6_code
def yX10_isBlank : MethodName := ⟨RX10, "isBlank", "(I)Z"⟩
abbrev cX10_kindOf : ByteArray := prog_12_method_7_code
def yX10_kindOf : MethodName := ⟨RX10, "kindOf", "(I)I"⟩
abbrev cX10_isEnd : ByteArray := prog_12_method_8_code
def yX10_isEnd : MethodName := ⟨RX10, "isEnd", "()Z"⟩
abbrev cX10_isMark : ByteArray := prog_12_method_9_code
def yX10_isMark : MethodName := ⟨RX10, "isMark", "(C)Z"⟩
abbrev cX10_isWord : ByteArray := prog_12_method_10_code
def yX10_isWord : MethodName := ⟨RX10, "isWord", "(Ljava/lang/String;)Z"⟩
abbrev cX10_readMark : ByteArray := prog_12_method_11_code
def yX10_readMark : MethodName := ⟨RX10, "readMark", "(C)V"⟩
abbrev cX10_readWord : ByteArray := prog_12_method_12_code
def yX10_readWord : MethodName := ⟨RX10, "readWord", "(Ljava/lang/String;)V"⟩
abbrev cX10_readNumber : ByteArray := prog_12_method_13_code
def yX10_readNumber : MethodName := ⟨RX10, "readNumber", "(II)I"⟩
abbrev cX10_seeNumber : ByteArray := prog_12_method_14_code
def yX10_seeNumber : MethodName := ⟨RX10, "seeNumber", "(II)I"⟩
def RX11 : String := "HopOast"
def TX11 : u_T := fun k => match k with
  | 0 => ("HopOast", "house", "LHopOast$House;", true)
  | 1 => ("HopOast", "forecast", "LHopOast$House;", true)
  | 2 => ("HopOast", "draft", "LHopOast$House;", true)
  | 3 => ("HopOast", "history", "LHopOast$History;", true)
  | 4 => ("HopOast", "text", "LHopOast$Text;", true)
  | 5 => ("HopOast", "tokens", "LHopOast$Tokens;", true)
  | 6 => ("HopOast", "setupReader", "LHopOast$SetupReader;", true)
  | 7 => ("HopOast", "script", "LHopOast$Script;", true)
  | 8 => ("HopOast", "scriptReader", "LHopOast$ScriptReader;", true)
  | _ => ("HopOast", "output", "LHopOast$Output;", true)
def tyX11 : Nat → FieldType := fun k => match k with
  | 0 => .object "HopOast$House"
  | 1 => .object "HopOast$House"
  | 2 => .object "HopOast$House"
  | 3 => .object "HopOast$History"
  | 4 => .object "HopOast$Text"
  | 5 => .object "HopOast$Tokens"
  | 6 => .object "HopOast$SetupReader"
  | 7 => .object "HopOast$Script"
  | 8 => .object "HopOast$ScriptReader"
  | _ => .object "HopOast$Output"
abbrev wsX110 : List Cond := u_ws RX11 TX11 10
theorem nmX11 : ∀ a, a < 10 → ∀ b, b < 10 → a ≠ b → (TX11 a).2.1 ≠ (TX11 b).2.1 := by decide +kernel
theorem tyX11_ok : ∀ k, k < 10 → parseFieldDescriptor (TX11 k).2.2.1 = some (tyX11 k) := by decide +kernel
abbrev cX11_init : ByteArray := prog_1_method_1_code
def yX11_init : MethodName := ⟨RX11, "<init>", "()V"⟩
abbrev cX11_append : ByteArray := prog_1_method_2_code
def yX11_append : MethodName := ⟨RX11, "append", "(IIIII)I"⟩
abbrev cX11_truncate : ByteArray := prog_1_method_3_code
def yX11_truncate : MethodName := ⟨RX11, "truncate", "(I)I"⟩
abbrev cX11_load : ByteArray := prog_1_method_4_code
def yX11_load : MethodName := ⟨RX11, "load", "()I"⟩
abbrev cX11_errorCode : ByteArray := prog_1_method_6_code
def yX11_errorCode : MethodName := ⟨RX11, "errorCode", "()I"⟩
abbrev cX11_minute : ByteArray := prog_1_method_8_code
def yX11_minute : MethodName := ⟨RX11, "minute", "()I"⟩
abbrev cX11_heat : ByteArray := prog_1_method_9_code
def yX11_heat : MethodName := ⟨RX11, "heat", "()I"⟩
abbrev cX11_vaneDirection : ByteArray := prog_1_method_13_code
def yX11_vaneDirection : MethodName := ⟨RX11, "vaneDirection", "()I"⟩
abbrev cX11_deviation : ByteArray := prog_1_method_14_code
def yX11_deviation : MethodName := ⟨RX11, "deviation", "()I"⟩
abbrev cX11_draught : ByteArray := prog_1_method_15_code
def yX11_draught : MethodName := ⟨RX11, "draught", "()I"⟩
abbrev cX11_temperatureOf : ByteArray := prog_1_method_18_code
def yX11_temperatureOf : MethodName := ⟨RX11, "temperatureOf", "(I)I"⟩
abbrev cX11_hasLoad : ByteArray := prog_1_method_19_code
def yX11_hasLoad : MethodName := ⟨RX11, "hasLoad", "(I)Z"⟩
abbrev cX11_massOn : ByteArray := prog_1_method_20_code
def yX11_massOn : MethodName := ⟨RX11, "massOn", "(I)I"⟩
abbrev cX11_moistureOn : ByteArray := prog_1_method_21_code
def yX11_moistureOn : MethodName := ⟨RX11, "moistureOn", "(I)I"⟩
abbrev cX11_scorchOn : ByteArray := prog_1_method_22_code
def yX11_scorchOn : MethodName := ⟨RX11, "scorchOn", "(I)I"⟩
abbrev cX11_isDry : ByteArray := prog_1_method_23_code
def yX11_isDry : MethodName := ⟨RX11, "isDry", "(I)Z"⟩
abbrev cX11_dryingOn : ByteArray := prog_1_method_24_code
def yX11_dryingOn : MethodName := ⟨RX11, "dryingOn", "(I)I"⟩
abbrev cX11_obstacleToLower : ByteArray := prog_1_method_26_code
def yX11_obstacleToLower : MethodName := ⟨RX11, "obstacleToLower", "(I)I"⟩
abbrev cX11_sackCount : ByteArray := prog_1_method_27_code
def yX11_sackCount : MethodName := ⟨RX11, "sackCount", "()I"⟩
abbrev cX11_sackState : ByteArray := prog_1_method_28_code
def yX11_sackState : MethodName := ⟨RX11, "sackState", "(I)I"⟩
abbrev cX11_sackMass : ByteArray := prog_1_method_29_code
def yX11_sackMass : MethodName := ⟨RX11, "sackMass", "(I)I"⟩
abbrev cX11_sackMoisture : ByteArray := prog_1_method_30_code
def yX11_sackMoisture : MethodName := ⟨RX11, "sackMoisture", "(I)I"⟩
abbrev cX11_sackTemperature : ByteArray := prog_1_method_31_code
def yX11_sackTemperature : MethodName := ⟨RX11, "sackTemperature", "(I)I"⟩
abbrev cX11_isSmouldering : ByteArray := prog_1_method_32_code
def yX11_isSmouldering : MethodName := ⟨RX11, "isSmouldering", "(I)Z"⟩
abbrev cX11_qualityOf : ByteArray := prog_1_method_33_code
def yX11_qualityOf : MethodName := ⟨RX11, "qualityOf", "(I)I"⟩
abbrev cX11_priceOf : ByteArray := prog_1_method_34_code
def yX11_priceOf : MethodName := ⟨RX11, "priceOf", "(I)I"⟩
abbrev cX11_loadedMass : ByteArray := prog_1_method_37_code
def yX11_loadedMass : MethodName := ⟨RX11, "loadedMass", "()I"⟩
abbrev cX11_soldMass : ByteArray := prog_1_method_38_code
def yX11_soldMass : MethodName := ⟨RX11, "soldMass", "()I"⟩
abbrev cX11_burntMass : ByteArray := prog_1_method_39_code
def yX11_burntMass : MethodName := ⟨RX11, "burntMass", "()I"⟩
abbrev cX11_income : ByteArray := prog_1_method_40_code
def yX11_income : MethodName := ⟨RX11, "income", "()I"⟩
abbrev cX11_dampedHeat : ByteArray := prog_1_method_41_code
def yX11_dampedHeat : MethodName := ⟨RX11, "dampedHeat", "()I"⟩
abbrev cX11_vaneSteps : ByteArray := prog_1_method_42_code
def yX11_vaneSteps : MethodName := ⟨RX11, "vaneSteps", "()I"⟩
abbrev cX11_contradictions : ByteArray := prog_1_method_45_code
def yX11_contradictions : MethodName := ⟨RX11, "contradictions", "()I"⟩
abbrev cX11_putLoad : ByteArray := prog_1_method_49_code
def yX11_putLoad : MethodName := ⟨RX11, "putLoad", "(II)I"⟩
abbrev cX11_lower : ByteArray := prog_1_method_50_code
def yX11_lower : MethodName := ⟨RX11, "lower", "(I)I"⟩
abbrev cX11_rotate : ByteArray := prog_1_method_51_code
def yX11_rotate : MethodName := ⟨RX11, "rotate", "()I"⟩
abbrev cX11_setHeat : ByteArray := prog_1_method_52_code
def yX11_setHeat : MethodName := ⟨RX11, "setHeat", "(I)I"⟩
abbrev cX11_setGear : ByteArray := prog_1_method_53_code
def yX11_setGear : MethodName := ⟨RX11, "setGear", "(I)I"⟩
abbrev cX11_setWind : ByteArray := prog_1_method_54_code
def yX11_setWind : MethodName := ⟨RX11, "setWind", "(II)I"⟩
abbrev cX11_sell : ByteArray := prog_1_method_55_code
def yX11_sell : MethodName := ⟨RX11, "sell", "(I)I"⟩
abbrev cX11_quench : ByteArray := prog_1_method_56_code
def yX11_quench : MethodName := ⟨RX11, "quench", "(I)I"⟩
abbrev cX11_advance : ByteArray := prog_1_method_57_code
def yX11_advance : MethodName := ⟨RX11, "advance", "(I)I"⟩
abbrev cX11_requireFloor : ByteArray := prog_1_method_65_code
def yX11_requireFloor : MethodName := ⟨RX11, "requireFloor", "(I)V"⟩
abbrev cX11_requireLoad : ByteArray := prog_1_method_66_code
def yX11_requireLoad : MethodName := ⟨RX11, "requireLoad", "(I)V"⟩
abbrev cX11_requireSack : ByteArray := prog_1_method_67_code
def yX11_requireSack : MethodName := ⟨RX11, "requireSack", "(I)V"⟩
abbrev cX11_within : ByteArray := prog_1_method_69_code
def yX11_within : MethodName := ⟨RX11, "within", "(III)Z"⟩
abbrev cX11_visibleBytes : ByteArray := prog_1_method_70_code
def yX11_visibleBytes : MethodName := ⟨RX11, "visibleBytes", "(I)I"⟩
abbrev cX11_beginHouse : ByteArray := prog_1_method_71_code
def yX11_beginHouse : MethodName := ⟨RX11, "beginHouse", "()V"⟩
def RX12 : String := "HopOastLaw$Hops"
def TX12 : u_T := fun k => match k with
  | 0 => ("HopOastLaw$Hops", "mass", "I", true)
  | 1 => ("HopOastLaw$Hops", "moisture", "I", false)
  | 2 => ("HopOastLaw$Hops", "scorch", "I", false)
  | 3 => ("HopOastLaw$Hops", "state", "I", false)
  | _ => ("HopOastLaw$Hops", "heat", "I", false)
def tyX12 : Nat → FieldType := fun k => match k with
  | 0 => .int
  | 1 => .int
  | 2 => .int
  | 3 => .int
  | _ => .int
abbrev wsX120 : List Cond := u_ws RX12 TX12 5
theorem nmX12 : ∀ a, a < 5 → ∀ b, b < 5 → a ≠ b → (TX12 a).2.1 ≠ (TX12 b).2.1 := by decide +kernel
theorem tyX12_ok : ∀ k, k < 5 → parseFieldDescriptor (TX12 k).2.2.1 = some (tyX12 k) := by decide +kernel
abbrev cX12_init : ByteArray := prog_14_method_1_code
def yX12_init : MethodName := ⟨RX12, "<init>", "(II)V"⟩
abbrev cX12_quality : ByteArray := prog_14_method_2_code
def yX12_quality : MethodName := ⟨RX12, "quality", "()I"⟩
abbrev cX12_price : ByteArray := prog_14_method_3_code
def yX12_price : MethodName := ⟨RX12, "price", "()I"⟩
abbrev cX12_glows : ByteArray := prog_14_method_4_code
def yX12_glows : MethodName := ⟨RX12, "glows", "()Z"⟩
def RX13 : String := "HopOastModel"
def TX13 : u_T := fun k => match k with
  | _ => ("", "", "", false)
def tyX13 : Nat → FieldType := fun k => match k with
  | _ => .int
abbrev wsX130 : List Cond := u_ws RX13 TX13 0
theorem nmX13 : ∀ a, a < 0 → ∀ b, b < 0 → a ≠ b → (TX13 a).2.1 ≠ (TX13 b).2.1 := by decide +kernel
theorem tyX13_ok : ∀ k, k < 0 → parseFieldDescriptor (TX13 k).2.2.1 = some (tyX13 k) := by decide +kernel
def RJx145de : String := "java/io/Serializable"
def TJx145de : u_T := fun k => match k with
  | _ => ("", "", "", false)
def tyJx145de : Nat → FieldType := fun k => match k with
  | _ => .int
abbrev wsJx145de0 : List Cond := u_ws RJx145de TJx145de 0
theorem nmJx145de : ∀ a, a < 0 → ∀ b, b < 0 → a ≠ b → (TJx145de a).2.1 ≠ (TJx145de b).2.1 := by decide +kernel
theorem tyJx145de_ok : ∀ k, k < 0 → parseFieldDescriptor (TJx145de k).2.2.1 = some (tyJx145de k) := by decide +kernel
def RJ5 : String := "java/lang/AbstractStringBuilder"
def TJ5 : u_T := fun k => match k with
  | _ => ("", "", "", false)
def tyJ5 : Nat → FieldType := fun k => match k with
  | _ => .int
abbrev wsJ50 : List Cond := u_ws RJ5 TJ5 0
theorem nmJ5 : ∀ a, a < 0 → ∀ b, b < 0 → a ≠ b → (TJ5 a).2.1 ≠ (TJ5 b).2.1 := by decide +kernel
theorem tyJ5_ok : ∀ k, k < 0 → parseFieldDescriptor (TJ5 k).2.2.1 = some (tyJ5 k) := by decide +kernel
abbrev cJ5_init_a7421 : ByteArray := prog_17_method_3_code
def yJ5_init_a7421 : MethodName := ⟨RJ5, "<init>", "(Ljava/lang/String;)V"⟩
abbrev cJ5_length_8abf5 : ByteArray := prog_17_method_6_code
def yJ5_length_8abf5 : MethodName := ⟨RJ5, "length", "()I"⟩
abbrev cJ5_ensureCapacityInternal_d00df : ByteArray := prog_17_method_9_code
def yJ5_ensureCapacityInternal_d00df : MethodName := ⟨RJ5, "ensureCapacityInternal", "(I)V"⟩
abbrev cJ5_newCapacity_0f7a4 : ByteArray := prog_17_method_10_code
def yJ5_newCapacity_0f7a4 : MethodName := ⟨RJ5, "newCapacity", "(I)I"⟩
abbrev cJ5_inflate_da8c8 : ByteArray := prog_17_method_11_code
def yJ5_inflate_da8c8 : MethodName := ⟨RJ5, "inflate", "()V"⟩
abbrev cJ5_append_cf1ce : ByteArray := prog_17_method_22_code
def yJ5_append_cf1ce : MethodName := ⟨RJ5, "append", "(Ljava/lang/String;)Ljava/lang/AbstractStringBuilder;"⟩
abbrev cJ5_appendNull_278bc : ByteArray := prog_17_method_26_code
def yJ5_appendNull_278bc : MethodName := ⟨RJ5, "appendNull", "()Ljava/lang/AbstractStringBuilder;"⟩
abbrev cJ5_append_3fe6f : ByteArray := prog_17_method_31_code
def yJ5_append_3fe6f : MethodName := ⟨RJ5, "append", "(C)Ljava/lang/AbstractStringBuilder;"⟩
abbrev cJ5_append_c97b9 : ByteArray := prog_17_method_32_code
def yJ5_append_c97b9 : MethodName := ⟨RJ5, "append", "(I)Ljava/lang/AbstractStringBuilder;"⟩
abbrev cJ5_getValue_6d5f1 : ByteArray := prog_17_method_64_code
def yJ5_getValue_6d5f1 : MethodName := ⟨RJ5, "getValue", "()[B"⟩
abbrev cJ5_isLatin1_aae02 : ByteArray := prog_17_method_68_code
def yJ5_isLatin1_aae02 : MethodName := ⟨RJ5, "isLatin1", "()Z"⟩
abbrev cJ5_inflateIfNeededFor_a7421 : ByteArray := prog_17_method_71_code
def yJ5_inflateIfNeededFor_a7421 : MethodName := ⟨RJ5, "inflateIfNeededFor", "(Ljava/lang/String;)V"⟩
abbrev cJ5_putStringAt_47b60 : ByteArray := prog_17_method_73_code
def yJ5_putStringAt_47b60 : MethodName := ⟨RJ5, "putStringAt", "(ILjava/lang/String;)V"⟩
def RJx2cfe8 : String := "java/lang/Appendable"
def TJx2cfe8 : u_T := fun k => match k with
  | _ => ("", "", "", false)
def tyJx2cfe8 : Nat → FieldType := fun k => match k with
  | _ => .int
abbrev wsJx2cfe80 : List Cond := u_ws RJx2cfe8 TJx2cfe8 0
theorem nmJx2cfe8 : ∀ a, a < 0 → ∀ b, b < 0 → a ≠ b → (TJx2cfe8 a).2.1 ≠ (TJx2cfe8 b).2.1 := by decide +kernel
theorem tyJx2cfe8_ok : ∀ k, k < 0 → parseFieldDescriptor (TJx2cfe8 k).2.2.1 = some (tyJx2cfe8 k) := by decide +kernel
def RJx9f9b0 : String := "java/lang/CharSequence"
def TJx9f9b0 : u_T := fun k => match k with
  | _ => ("", "", "", false)
def tyJx9f9b0 : Nat → FieldType := fun k => match k with
  | _ => .int
abbrev wsJx9f9b00 : List Cond := u_ws RJx9f9b0 TJx9f9b0 0
theorem nmJx9f9b0 : ∀ a, a < 0 → ∀ b, b < 0 → a ≠ b → (TJx9f9b0 a).2.1 ≠ (TJx9f9b0 b).2.1 := by decide +kernel
theorem tyJx9f9b0_ok : ∀ k, k < 0 → parseFieldDescriptor (TJx9f9b0 k).2.2.1 = some (tyJx9f9b0 k) := by decide +kernel
def RJx8e188 : String := "java/lang/Cloneable"
def TJx8e188 : u_T := fun k => match k with
  | _ => ("", "", "", false)
def tyJx8e188 : Nat → FieldType := fun k => match k with
  | _ => .int
abbrev wsJx8e1880 : List Cond := u_ws RJx8e188 TJx8e188 0
theorem nmJx8e188 : ∀ a, a < 0 → ∀ b, b < 0 → a ≠ b → (TJx8e188 a).2.1 ≠ (TJx8e188 b).2.1 := by decide +kernel
theorem tyJx8e188_ok : ∀ k, k < 0 → parseFieldDescriptor (TJx8e188 k).2.2.1 = some (tyJx8e188 k) := by decide +kernel
def RJxb160c : String := "java/lang/Comparable"
def TJxb160c : u_T := fun k => match k with
  | _ => ("", "", "", false)
def tyJxb160c : Nat → FieldType := fun k => match k with
  | _ => .int
abbrev wsJxb160c0 : List Cond := u_ws RJxb160c TJxb160c 0
theorem nmJxb160c : ∀ a, a < 0 → ∀ b, b < 0 → a ≠ b → (TJxb160c a).2.1 ≠ (TJxb160c b).2.1 := by decide +kernel
theorem tyJxb160c_ok : ∀ k, k < 0 → parseFieldDescriptor (TJxb160c k).2.2.1 = some (tyJxb160c k) := by decide +kernel
def RJ6 : String := "java/lang/Integer"
def TJ6 : u_T := fun k => match k with
  | _ => ("", "", "", false)
def tyJ6 : Nat → FieldType := fun k => match k with
  | _ => .int
abbrev wsJ60 : List Cond := u_ws RJ6 TJ6 0
theorem nmJ6 : ∀ a, a < 0 → ∀ b, b < 0 → a ≠ b → (TJ6 a).2.1 ≠ (TJ6 b).2.1 := by decide +kernel
theorem tyJ6_ok : ∀ k, k < 0 → parseFieldDescriptor (TJ6 k).2.2.1 = some (tyJ6 k) := by decide +kernel
abbrev cJ6_getChars_ba4f3 : ByteArray := prog_26_method_12_code
def yJ6_getChars_ba4f3 : MethodName := ⟨RJ6, "getChars", "(II[B)I"⟩
abbrev cJ6_stringSize_0f7a4 : ByteArray := prog_26_method_13_code
def yJ6_stringSize_0f7a4 : MethodName := ⟨RJ6, "stringSize", "(I)I"⟩
def RJxab1ab : String := "java/lang/Iterable"
def TJxab1ab : u_T := fun k => match k with
  | _ => ("", "", "", false)
def tyJxab1ab : Nat → FieldType := fun k => match k with
  | _ => .int
abbrev wsJxab1ab0 : List Cond := u_ws RJxab1ab TJxab1ab 0
theorem nmJxab1ab : ∀ a, a < 0 → ∀ b, b < 0 → a ≠ b → (TJxab1ab a).2.1 ≠ (TJxab1ab b).2.1 := by decide +kernel
theorem tyJxab1ab_ok : ∀ k, k < 0 → parseFieldDescriptor (TJxab1ab k).2.2.1 = some (tyJxab1ab k) := by decide +kernel
def RJ9 : String := "java/lang/Math"
def TJ9 : u_T := fun k => match k with
  | _ => ("", "", "", false)
def tyJ9 : Nat → FieldType := fun k => match k with
  | _ => .int
abbrev wsJ90 : List Cond := u_ws RJ9 TJ9 0
theorem nmJ9 : ∀ a, a < 0 → ∀ b, b < 0 → a ≠ b → (TJ9 a).2.1 ≠ (TJ9 b).2.1 := by decide +kernel
theorem tyJ9_ok : ∀ k, k < 0 → parseFieldDescriptor (TJ9 k).2.2.1 = some (tyJ9 k) := by decide +kernel
abbrev cJ9_abs_0f7a4 : ByteArray := prog_28_method_59_code
def yJ9_abs_0f7a4 : MethodName := ⟨RJ9, "abs", "(I)I"⟩
abbrev cJ9_max_7cf53 : ByteArray := prog_28_method_65_code
def yJ9_max_7cf53 : MethodName := ⟨RJ9, "max", "(II)I"⟩
abbrev cJ9_min_7cf53 : ByteArray := prog_28_method_69_code
def yJ9_min_7cf53 : MethodName := ⟨RJ9, "min", "(II)I"⟩
def RJxd2413 : String := "java/lang/Number"
def TJxd2413 : u_T := fun k => match k with
  | _ => ("", "", "", false)
def tyJxd2413 : Nat → FieldType := fun k => match k with
  | _ => .int
abbrev wsJxd24130 : List Cond := u_ws RJxd2413 TJxd2413 0
theorem nmJxd2413 : ∀ a, a < 0 → ∀ b, b < 0 → a ≠ b → (TJxd2413 a).2.1 ≠ (TJxd2413 b).2.1 := by decide +kernel
theorem tyJxd2413_ok : ∀ k, k < 0 → parseFieldDescriptor (TJxd2413 k).2.2.1 = some (tyJxd2413 k) := by decide +kernel
def RJ0 : String := "java/lang/String"
def TJ0 : u_T := fun k => match k with
  | 0 => ("java/lang/String", "value", "[B", true)
  | 1 => ("java/lang/String", "coder", "B", true)
  | 2 => ("java/lang/String", "hash", "I", false)
  | _ => ("java/lang/String", "hashIsZero", "Z", false)
def tyJ0 : Nat → FieldType := fun k => match k with
  | 0 => .array .byte
  | 1 => .byte
  | 2 => .int
  | _ => .boolean
abbrev wsJ00 : List Cond := u_ws RJ0 TJ0 4
theorem nmJ0 : ∀ a, a < 4 → ∀ b, b < 4 → a ≠ b → (TJ0 a).2.1 ≠ (TJ0 b).2.1 := by decide +kernel
theorem tyJ0_ok : ∀ k, k < 4 → parseFieldDescriptor (TJ0 k).2.2.1 = some (tyJ0 k) := by decide +kernel
abbrev cJ0_init_81219 : ByteArray := prog_31_method_53_code
def yJ0_init_81219 : MethodName := ⟨RJ0, "<init>", "(Ljava/lang/StringBuilder;)V"⟩
abbrev cJ0_length_8abf5 : ByteArray := prog_31_method_54_code
def yJ0_length_8abf5 : MethodName := ⟨RJ0, "length", "()I"⟩
abbrev cJ0_charAt_5068e : ByteArray := prog_31_method_56_code
def yJ0_charAt_5068e : MethodName := ⟨RJ0, "charAt", "(I)C"⟩
abbrev cJ0_getBytes_840e7 : ByteArray := prog_31_method_147_code
def yJ0_getBytes_840e7 : MethodName := ⟨RJ0, "getBytes", "([BIB)V"⟩
abbrev cJ0_init_db425 : ByteArray := prog_31_method_150_code
def yJ0_init_db425 : MethodName := ⟨RJ0, "<init>", "(Ljava/lang/AbstractStringBuilder;Ljava/lang/Void;)V"⟩
abbrev cJ0_coder_7d493 : ByteArray := prog_31_method_152_code
def yJ0_coder_7d493 : MethodName := ⟨RJ0, "coder", "()B"⟩
abbrev cJ0_isLatin1_aae02 : ByteArray := prog_31_method_154_code
def yJ0_isLatin1_aae02 : MethodName := ⟨RJ0, "isLatin1", "()Z"⟩
abbrev cJ0_checkIndex_df160 : ByteArray := prog_31_method_155_code
def yJ0_checkIndex_df160 : MethodName := ⟨RJ0, "checkIndex", "(II)V"⟩
abbrev cJ0_checkBoundsOffCount_cabcc : ByteArray := prog_31_method_157_code
def yJ0_checkBoundsOffCount_cabcc : MethodName := ⟨RJ0, "checkBoundsOffCount", "(III)I"⟩
abbrev cJ0_checkBoundsBeginEnd_23922 : ByteArray := prog_31_method_158_code
def yJ0_checkBoundsBeginEnd_23922 : MethodName := ⟨RJ0, "checkBoundsBeginEnd", "(III)V"⟩
def RJ4 : String := "java/lang/StringBuilder"
def TJ4 : u_T := fun k => match k with
  | 0 => ("java/lang/AbstractStringBuilder", "value", "[B", false)
  | 1 => ("java/lang/AbstractStringBuilder", "coder", "B", false)
  | 2 => ("java/lang/AbstractStringBuilder", "maybeLatin1", "Z", false)
  | _ => ("java/lang/AbstractStringBuilder", "count", "I", false)
def tyJ4 : Nat → FieldType := fun k => match k with
  | 0 => .array .byte
  | 1 => .byte
  | 2 => .boolean
  | _ => .int
abbrev wsJ40 : List Cond := u_ws RJ4 TJ4 4
theorem nmJ4 : ∀ a, a < 4 → ∀ b, b < 4 → a ≠ b → (TJ4 a).2.1 ≠ (TJ4 b).2.1 := by decide +kernel
theorem tyJ4_ok : ∀ k, k < 4 → parseFieldDescriptor (TJ4 k).2.2.1 = some (tyJ4 k) := by decide +kernel
abbrev cJ4_init_a7421 : ByteArray := prog_32_method_3_code
def yJ4_init_a7421 : MethodName := ⟨RJ4, "<init>", "(Ljava/lang/String;)V"⟩
abbrev cJ4_append_15ec4 : ByteArray := prog_32_method_7_code
def yJ4_append_15ec4 : MethodName := ⟨RJ4, "append", "(Ljava/lang/String;)Ljava/lang/StringBuilder;"⟩
abbrev cJ4_append_cf468 : ByteArray := prog_32_method_14_code
def yJ4_append_cf468 : MethodName := ⟨RJ4, "append", "(C)Ljava/lang/StringBuilder;"⟩
abbrev cJ4_append_bf812 : ByteArray := prog_32_method_15_code
def yJ4_append_bf812 : MethodName := ⟨RJ4, "append", "(I)Ljava/lang/StringBuilder;"⟩
abbrev cJ4_toString_0e30d : ByteArray := prog_32_method_42_code
def yJ4_toString_0e30d : MethodName := ⟨RJ4, "toString", "()Ljava/lang/String;"⟩
abbrev cJ4_append_cf1ce : ByteArray := prog_32_method_80_code
def yJ4_append_cf1ce : MethodName := ⟨RJ4, "append", "(Ljava/lang/String;)Ljava/lang/AbstractStringBuilder;"⟩
abbrev cJ4_length_8abf5 : ByteArray := prog_32_method_93_code
def yJ4_length_8abf5 : MethodName := ⟨RJ4, "length", "()I"⟩
def RJ1 : String := "java/lang/StringLatin1"
def TJ1 : u_T := fun k => match k with
  | _ => ("", "", "", false)
def tyJ1 : Nat → FieldType := fun k => match k with
  | _ => .int
abbrev wsJ10 : List Cond := u_ws RJ1 TJ1 0
theorem nmJ1 : ∀ a, a < 0 → ∀ b, b < 0 → a ≠ b → (TJ1 a).2.1 ≠ (TJ1 b).2.1 := by decide +kernel
theorem tyJ1_ok : ∀ k, k < 0 → parseFieldDescriptor (TJ1 k).2.2.1 = some (tyJ1 k) := by decide +kernel
abbrev cJ1_charAt_3b067 : ByteArray := prog_33_method_2_code
def yJ1_charAt_3b067 : MethodName := ⟨RJ1, "charAt", "([BI)C"⟩
abbrev cJ1_canEncode_fc78d : ByteArray := prog_33_method_3_code
def yJ1_canEncode_fc78d : MethodName := ⟨RJ1, "canEncode", "(C)Z"⟩
abbrev cJ1_inflate_0e8fd : ByteArray := prog_33_method_50_code
def yJ1_inflate_0e8fd : MethodName := ⟨RJ1, "inflate", "([BI[BII)V"⟩
def RJ2 : String := "java/lang/StringUTF16"
def TJ2 : u_T := fun k => match k with
  | _ => ("", "", "", false)
def tyJ2 : Nat → FieldType := fun k => match k with
  | _ => .int
abbrev wsJ20 : List Cond := u_ws RJ2 TJ2 0
theorem nmJ2 : ∀ a, a < 0 → ∀ b, b < 0 → a ≠ b → (TJ2 a).2.1 ≠ (TJ2 b).2.1 := by decide +kernel
theorem tyJ2_ok : ∀ k, k < 0 → parseFieldDescriptor (TJ2 k).2.2.1 = some (tyJ2 k) := by decide +kernel
abbrev cJ2_newBytesFor_77867 : ByteArray := prog_34_method_2_code
def yJ2_newBytesFor_77867 : MethodName := ⟨RJ2, "newBytesFor", "(I)[B"⟩
abbrev cJ2_newBytesLength_0f7a4 : ByteArray := prog_34_method_3_code
def yJ2_newBytesLength_0f7a4 : MethodName := ⟨RJ2, "newBytesLength", "(I)I"⟩
abbrev cJ2_putChar_b72d1 : ByteArray := prog_34_method_4_code
def yJ2_putChar_b72d1 : MethodName := ⟨RJ2, "putChar", "([BII)V"⟩
abbrev cJ2_getChar_3b067 : ByteArray := prog_34_method_5_code
def yJ2_getChar_3b067 : MethodName := ⟨RJ2, "getChar", "([BI)C"⟩
abbrev cJ2_length_9d52b : ByteArray := prog_34_method_6_code
def yJ2_length_9d52b : MethodName := ⟨RJ2, "length", "([B)I"⟩
abbrev cJ2_coderFromArrayLen_85cad : ByteArray := prog_34_method_15_code
def yJ2_coderFromArrayLen_85cad : MethodName := ⟨RJ2, "coderFromArrayLen", "([BI)B"⟩
abbrev cJ2_compress_39247 : ByteArray := prog_34_method_17_code
def yJ2_compress_39247 : MethodName := ⟨RJ2, "compress", "([BII)[B"⟩
abbrev cJ2_compress_5af95 : ByteArray := prog_34_method_22_code
def yJ2_compress_5af95 : MethodName := ⟨RJ2, "compress", "([BI[BII)I"⟩
abbrev cJ2_putCharSB_b72d1 : ByteArray := prog_34_method_71_code
def yJ2_putCharSB_b72d1 : MethodName := ⟨RJ2, "putCharSB", "([BII)V"⟩
abbrev cJ2_getChars_46870 : ByteArray := prog_34_method_77_code
def yJ2_getChars_46870 : MethodName := ⟨RJ2, "getChars", "(III[B)I"⟩
abbrev cJ2_putCharsAt_cd4e5 : ByteArray := prog_34_method_81_code
def yJ2_putCharsAt_cd4e5 : MethodName := ⟨RJ2, "putCharsAt", "([BICCCC)I"⟩
abbrev cJ2_charAt_3b067 : ByteArray := prog_34_method_83_code
def yJ2_charAt_3b067 : MethodName := ⟨RJ2, "charAt", "([BI)C"⟩
abbrev cJ2_inflate_0e8fd : ByteArray := prog_34_method_86_code
def yJ2_inflate_0e8fd : MethodName := ⟨RJ2, "inflate", "([BI[BII)V"⟩
abbrev cJ2_getChars_ba4f3 : ByteArray := prog_34_method_89_code
def yJ2_getChars_ba4f3 : MethodName := ⟨RJ2, "getChars", "(II[B)I"⟩
abbrev cJ2_checkIndex_2214a : ByteArray := prog_34_method_91_code
def yJ2_checkIndex_2214a : MethodName := ⟨RJ2, "checkIndex", "(I[B)V"⟩
abbrev cJ2_checkBoundsBeginEnd_d044e : ByteArray := prog_34_method_93_code
def yJ2_checkBoundsBeginEnd_d044e : MethodName := ⟨RJ2, "checkBoundsBeginEnd", "(II[B)V"⟩
abbrev cJ2_checkBoundsOffCount_d044e : ByteArray := prog_34_method_94_code
def yJ2_checkBoundsOffCount_d044e : MethodName := ⟨RJ2, "checkBoundsOffCount", "(II[B)V"⟩
def RJ10 : String := "java/lang/System"
def TJ10 : u_T := fun k => match k with
  | _ => ("", "", "", false)
def tyJ10 : Nat → FieldType := fun k => match k with
  | _ => .int
abbrev wsJ100 : List Cond := u_ws RJ10 TJ10 0
theorem nmJ10 : ∀ a, a < 0 → ∀ b, b < 0 → a ≠ b → (TJ10 a).2.1 ≠ (TJ10 b).2.1 := by decide +kernel
theorem tyJ10_ok : ∀ k, k < 0 → parseFieldDescriptor (TJ10 k).2.2.1 = some (tyJ10 k) := by decide +kernel
def RJxfd54e : String := "java/lang/constant/Constable"
def TJxfd54e : u_T := fun k => match k with
  | _ => ("", "", "", false)
def tyJxfd54e : Nat → FieldType := fun k => match k with
  | _ => .int
abbrev wsJxfd54e0 : List Cond := u_ws RJxfd54e TJxfd54e 0
theorem nmJxfd54e : ∀ a, a < 0 → ∀ b, b < 0 → a ≠ b → (TJxfd54e a).2.1 ≠ (TJxfd54e b).2.1 := by decide +kernel
theorem tyJxfd54e_ok : ∀ k, k < 0 → parseFieldDescriptor (TJxfd54e k).2.2.1 = some (tyJxfd54e k) := by decide +kernel
def RJx3cf43 : String := "java/lang/constant/ConstantDesc"
def TJx3cf43 : u_T := fun k => match k with
  | _ => ("", "", "", false)
def tyJx3cf43 : Nat → FieldType := fun k => match k with
  | _ => .int
abbrev wsJx3cf430 : List Cond := u_ws RJx3cf43 TJx3cf43 0
theorem nmJx3cf43 : ∀ a, a < 0 → ∀ b, b < 0 → a ≠ b → (TJx3cf43 a).2.1 ≠ (TJx3cf43 b).2.1 := by decide +kernel
theorem tyJx3cf43_ok : ∀ k, k < 0 → parseFieldDescriptor (TJx3cf43 k).2.2.1 = some (tyJx3cf43 k) := by decide +kernel
def RJxa1e45 : String := "java/util/AbstractCollection"
def TJxa1e45 : u_T := fun k => match k with
  | _ => ("", "", "", false)
def tyJxa1e45 : Nat → FieldType := fun k => match k with
  | _ => .int
abbrev wsJxa1e450 : List Cond := u_ws RJxa1e45 TJxa1e45 0
theorem nmJxa1e45 : ∀ a, a < 0 → ∀ b, b < 0 → a ≠ b → (TJxa1e45 a).2.1 ≠ (TJxa1e45 b).2.1 := by decide +kernel
theorem tyJxa1e45_ok : ∀ k, k < 0 → parseFieldDescriptor (TJxa1e45 k).2.2.1 = some (tyJxa1e45 k) := by decide +kernel
abbrev cJxa1e45_init_da8c8 : ByteArray := prog_39_method_1_code
def yJxa1e45_init_da8c8 : MethodName := ⟨RJxa1e45, "<init>", "()V"⟩
def RJxc12de : String := "java/util/AbstractList"
def TJxc12de : u_T := fun k => match k with
  | _ => ("", "", "", false)
def tyJxc12de : Nat → FieldType := fun k => match k with
  | _ => .int
abbrev wsJxc12de0 : List Cond := u_ws RJxc12de TJxc12de 0
theorem nmJxc12de : ∀ a, a < 0 → ∀ b, b < 0 → a ≠ b → (TJxc12de a).2.1 ≠ (TJxc12de b).2.1 := by decide +kernel
theorem tyJxc12de_ok : ∀ k, k < 0 → parseFieldDescriptor (TJxc12de k).2.2.1 = some (tyJxc12de k) := by decide +kernel
abbrev cJxc12de_init_da8c8 : ByteArray := prog_40_method_1_code
def yJxc12de_init_da8c8 : MethodName := ⟨RJxc12de, "<init>", "()V"⟩
def RJx4a65c : String := "java/util/ArrayList"
def TJx4a65c : u_T := fun k => match k with
  | 0 => ("java/util/AbstractList", "modCount", "I", false)
  | 1 => ("java/util/ArrayList", "elementData", "[Ljava/lang/Object;", false)
  | _ => ("java/util/ArrayList", "size", "I", false)
def tyJx4a65c : Nat → FieldType := fun k => match k with
  | 0 => .int
  | 1 => .array (.object "java/lang/Object")
  | _ => .int
abbrev wsJx4a65c0 : List Cond := u_ws RJx4a65c TJx4a65c 3
theorem nmJx4a65c : ∀ a, a < 3 → ∀ b, b < 3 → a ≠ b → (TJx4a65c a).2.1 ≠ (TJx4a65c b).2.1 := by decide +kernel
theorem tyJx4a65c_ok : ∀ k, k < 3 → parseFieldDescriptor (TJx4a65c k).2.2.1 = some (tyJx4a65c k) := by decide +kernel
abbrev cJx4a65c_init_da8c8 : ByteArray := prog_41_method_2_code
def yJx4a65c_init_da8c8 : MethodName := ⟨RJx4a65c, "<init>", "()V"⟩
abbrev cJx4a65c_grow_92f84 : ByteArray := prog_41_method_6_code
def yJx4a65c_grow_92f84 : MethodName := ⟨RJx4a65c, "grow", "(I)[Ljava/lang/Object;"⟩
abbrev cJx4a65c_grow_d5877 : ByteArray := prog_41_method_7_code
def yJx4a65c_grow_d5877 : MethodName := ⟨RJx4a65c, "grow", "()[Ljava/lang/Object;"⟩
abbrev cJx4a65c_size_8abf5 : ByteArray := prog_41_method_8_code
def yJx4a65c_size_8abf5 : MethodName := ⟨RJx4a65c, "size", "()I"⟩
abbrev cJx4a65c_isEmpty_aae02 : ByteArray := prog_41_method_9_code
def yJx4a65c_isEmpty_aae02 : MethodName := ⟨RJx4a65c, "isEmpty", "()Z"⟩
abbrev cJx4a65c_elementData_915e3 : ByteArray := prog_41_method_18_code
def yJx4a65c_elementData_915e3 : MethodName := ⟨RJx4a65c, "elementData", "(I)Ljava/lang/Object;"⟩
abbrev cJx4a65c_get_915e3 : ByteArray := prog_41_method_20_code
def yJx4a65c_get_915e3 : MethodName := ⟨RJx4a65c, "get", "(I)Ljava/lang/Object;"⟩
abbrev cJx4a65c_add_72be8 : ByteArray := prog_41_method_24_code
def yJx4a65c_add_72be8 : MethodName := ⟨RJx4a65c, "add", "(Ljava/lang/Object;[Ljava/lang/Object;I)V"⟩
abbrev cJx4a65c_add_9ea2d : ByteArray := prog_41_method_25_code
def yJx4a65c_add_9ea2d : MethodName := ⟨RJx4a65c, "add", "(Ljava/lang/Object;)Z"⟩
def RJ7 : String := "java/util/Arrays"
def TJ7 : u_T := fun k => match k with
  | _ => ("", "", "", false)
def tyJ7 : Nat → FieldType := fun k => match k with
  | _ => .int
abbrev wsJ70 : List Cond := u_ws RJ7 TJ7 0
theorem nmJ7 : ∀ a, a < 0 → ∀ b, b < 0 → a ≠ b → (TJ7 a).2.1 ≠ (TJ7 b).2.1 := by decide +kernel
theorem tyJ7_ok : ∀ k, k < 0 → parseFieldDescriptor (TJ7 k).2.2.1 = some (tyJ7 k) := by decide +kernel
abbrev cJ7_copyOf_1904c : ByteArray := prog_42_method_119_code
def yJ7_copyOf_1904c : MethodName := ⟨RJ7, "copyOf", "([Ljava/lang/Object;I)[Ljava/lang/Object;"⟩
abbrev cJ7_copyOf_6403c : ByteArray := prog_42_method_120_code
def yJ7_copyOf_6403c : MethodName := ⟨RJ7, "copyOf", "([Ljava/lang/Object;ILjava/lang/Class;)[Ljava/lang/Object;"⟩
abbrev cJ7_copyOf_9075b : ByteArray := prog_42_method_121_code
def yJ7_copyOf_9075b : MethodName := ⟨RJ7, "copyOf", "([BI)[B"⟩
abbrev cJ7_checkLength_df160 : ByteArray := prog_42_method_131_code
def yJ7_checkLength_df160 : MethodName := ⟨RJ7, "checkLength", "(II)V"⟩
abbrev cJ7_copyOfRange_39247 : ByteArray := prog_42_method_132_code
def yJ7_copyOfRange_39247 : MethodName := ⟨RJ7, "copyOfRange", "([BII)[B"⟩
abbrev cJ7_copyOfRangeByte_39247 : ByteArray := prog_42_method_133_code
def yJ7_copyOfRangeByte_39247 : MethodName := ⟨RJ7, "copyOfRangeByte", "([BII)[B"⟩
def RJx5ef63 : String := "java/util/Collection"
def TJx5ef63 : u_T := fun k => match k with
  | _ => ("", "", "", false)
def tyJx5ef63 : Nat → FieldType := fun k => match k with
  | _ => .int
abbrev wsJx5ef630 : List Cond := u_ws RJx5ef63 TJx5ef63 0
theorem nmJx5ef63 : ∀ a, a < 0 → ∀ b, b < 0 → a ≠ b → (TJx5ef63 a).2.1 ≠ (TJx5ef63 b).2.1 := by decide +kernel
theorem tyJx5ef63_ok : ∀ k, k < 0 → parseFieldDescriptor (TJx5ef63 k).2.2.1 = some (tyJx5ef63 k) := by decide +kernel
def RJxbd725 : String := "java/util/List"
def TJxbd725 : u_T := fun k => match k with
  | _ => ("", "", "", false)
def tyJxbd725 : Nat → FieldType := fun k => match k with
  | _ => .int
abbrev wsJxbd7250 : List Cond := u_ws RJxbd725 TJxbd725 0
theorem nmJxbd725 : ∀ a, a < 0 → ∀ b, b < 0 → a ≠ b → (TJxbd725 a).2.1 ≠ (TJxbd725 b).2.1 := by decide +kernel
theorem tyJxbd725_ok : ∀ k, k < 0 → parseFieldDescriptor (TJxbd725 k).2.2.1 = some (tyJxbd725 k) := by decide +kernel
def RJ15 : String := "java/util/Objects"
def TJ15 : u_T := fun k => match k with
  | _ => ("", "", "", false)
def tyJ15 : Nat → FieldType := fun k => match k with
  | _ => .int
abbrev wsJ150 : List Cond := u_ws RJ15 TJ15 0
theorem nmJ15 : ∀ a, a < 0 → ∀ b, b < 0 → a ≠ b → (TJ15 a).2.1 ≠ (TJ15 b).2.1 := by decide +kernel
theorem tyJ15_ok : ∀ k, k < 0 → parseFieldDescriptor (TJ15 k).2.2.1 = some (tyJ15 k) := by decide +kernel
abbrev cJ15_checkIndex_7cf53 : ByteArray := prog_46_method_17_code
def yJ15_checkIndex_7cf53 : MethodName := ⟨RJ15, "checkIndex", "(II)I"⟩
def RJxf0a74 : String := "java/util/RandomAccess"
def TJxf0a74 : u_T := fun k => match k with
  | _ => ("", "", "", false)
def tyJxf0a74 : Nat → FieldType := fun k => match k with
  | _ => .int
abbrev wsJxf0a740 : List Cond := u_ws RJxf0a74 TJxf0a74 0
theorem nmJxf0a74 : ∀ a, a < 0 → ∀ b, b < 0 → a ≠ b → (TJxf0a74 a).2.1 ≠ (TJxf0a74 b).2.1 := by decide +kernel
theorem tyJxf0a74_ok : ∀ k, k < 0 → parseFieldDescriptor (TJxf0a74 k).2.2.1 = some (tyJxf0a74 k) := by decide +kernel
def RJxa66e6 : String := "java/util/SequencedCollection"
def TJxa66e6 : u_T := fun k => match k with
  | _ => ("", "", "", false)
def tyJxa66e6 : Nat → FieldType := fun k => match k with
  | _ => .int
abbrev wsJxa66e60 : List Cond := u_ws RJxa66e6 TJxa66e6 0
theorem nmJxa66e6 : ∀ a, a < 0 → ∀ b, b < 0 → a ≠ b → (TJxa66e6 a).2.1 ≠ (TJxa66e6 b).2.1 := by decide +kernel
theorem tyJxa66e6_ok : ∀ k, k < 0 → parseFieldDescriptor (TJxa66e6 k).2.2.1 = some (tyJxa66e6 k) := by decide +kernel
def RJ8 : String := "jdk/internal/util/ArraysSupport"
def TJ8 : u_T := fun k => match k with
  | _ => ("", "", "", false)
def tyJ8 : Nat → FieldType := fun k => match k with
  | _ => .int
abbrev wsJ80 : List Cond := u_ws RJ8 TJ8 0
theorem nmJ8 : ∀ a, a < 0 → ∀ b, b < 0 → a ≠ b → (TJ8 a).2.1 ≠ (TJ8 b).2.1 := by decide +kernel
theorem tyJ8_ok : ∀ k, k < 0 → parseFieldDescriptor (TJ8 k).2.2.1 = some (tyJ8 k) := by decide +kernel
abbrev cJ8_newLength_cabcc : ByteArray := prog_49_method_27_code
def yJ8_newLength_cabcc : MethodName := ⟨RJ8, "newLength", "(III)I"⟩
abbrev cJ8_hugeLength_7cf53 : ByteArray := prog_49_method_28_code
def yJ8_hugeLength_7cf53 : MethodName := ⟨RJ8, "hugeLength", "(II)I"⟩
def RJ3 : String := "jdk/internal/util/Preconditions"
def TJ3 : u_T := fun k => match k with
  | _ => ("", "", "", false)
def tyJ3 : Nat → FieldType := fun k => match k with
  | _ => .int
abbrev wsJ30 : List Cond := u_ws RJ3 TJ3 0
theorem nmJ3 : ∀ a, a < 0 → ∀ b, b < 0 → a ≠ b → (TJ3 a).2.1 ≠ (TJ3 b).2.1 := by decide +kernel
theorem tyJ3_ok : ∀ k, k < 0 → parseFieldDescriptor (TJ3 k).2.2.1 = some (tyJ3 k) := by decide +kernel
abbrev cJ3_checkIndex_8e157 : ByteArray := prog_50_method_11_code
def yJ3_checkIndex_8e157 : MethodName := ⟨RJ3, "checkIndex", "(IILjava/util/function/BiFunction;)I"⟩
abbrev cJ3_checkFromToIndex_8c36e : ByteArray := prog_50_method_12_code
def yJ3_checkFromToIndex_8c36e : MethodName := ⟨RJ3, "checkFromToIndex", "(IIILjava/util/function/BiFunction;)I"⟩
abbrev cJ3_checkFromIndexSize_8c36e : ByteArray := prog_50_method_13_code
def yJ3_checkFromIndexSize_8c36e : MethodName := ⟨RJ3, "checkFromIndexSize", "(IIILjava/util/function/BiFunction;)I"⟩
def RL : String := "HopOastLaw"
def TL : u_T := fun k => match k with
  | 0 => ("HopOastLaw", "sacks", "Ljava/util/List;", true)
  | 1 => ("HopOastLaw", "floors", "[LHopOastLaw$Hops;", false)
  | 2 => ("HopOastLaw", "limits", "[I", false)
  | 3 => ("HopOastLaw", "minute", "I", false)
  | 4 => ("HopOastLaw", "fire", "I", false)
  | 5 => ("HopOastLaw", "gear", "I", false)
  | 6 => ("HopOastLaw", "wind", "I", false)
  | 7 => ("HopOastLaw", "strength", "I", false)
  | 8 => ("HopOastLaw", "vane", "I", false)
  | 9 => ("HopOastLaw", "damped", "I", false)
  | 10 => ("HopOastLaw", "steps", "I", false)
  | 11 => ("HopOastLaw", "loaded", "I", false)
  | _ => ("HopOastLaw", "income", "I", false)
def tyL : Nat → FieldType := fun k => match k with
  | 0 => .object "java/util/List"
  | 1 => .array (.object "HopOastLaw$Hops")
  | 2 => .array .int
  | 3 => .int
  | 4 => .int
  | 5 => .int
  | 6 => .int
  | 7 => .int
  | 8 => .int
  | 9 => .int
  | 10 => .int
  | 11 => .int
  | _ => .int
abbrev wsL0 : List Cond := u_ws RL TL 13
theorem nmL : ∀ a, a < 13 → ∀ b, b < 13 → a ≠ b → (TL a).2.1 ≠ (TL b).2.1 := by decide +kernel
theorem tyL_ok : ∀ k, k < 13 → parseFieldDescriptor (TL k).2.2.1 = some (tyL k) := by decide +kernel
abbrev cL_init : ByteArray := method_1_code
def yL_init : MethodName := ⟨RL, "<init>", "()V"⟩
abbrev cL_feeds : ByteArray := method_2_code
def yL_feeds : MethodName := ⟨RL, "feeds", "(LHopOast;Ljava/lang/String;)Z"⟩
abbrev cL_draw : ByteArray := method_3_code
def yL_draw : MethodName := ⟨RL, "draw", "([II)I"⟩
abbrev cL_deviation : ByteArray := method_4_code
def yL_deviation : MethodName := ⟨RL, "deviation", "()I"⟩
abbrev cL_draught : ByteArray := method_5_code
def yL_draught : MethodName := ⟨RL, "draught", "()I"⟩
abbrev cL_degrees : ByteArray := method_6_code
def yL_degrees : MethodName := ⟨RL, "degrees", "(I)I"⟩
abbrev cL_damps : ByteArray := method_7_code
def yL_damps : MethodName := ⟨RL, "damps", "()V"⟩
abbrev cL_passes : ByteArray := method_8_code
def yL_passes : MethodName := ⟨RL, "passes", "()I"⟩
abbrev cL_why : ByteArray := method_9_code
def yL_why : MethodName := ⟨RL, "why", "(I)I"⟩
abbrev cL_lowers : ByteArray := method_10_code
def yL_lowers : MethodName := ⟨RL, "lowers", "(I)I"⟩
abbrev cL_law : ByteArray := code
def yL_law : MethodName := ⟨RL, "law", "([I)Z"⟩
abbrev cL_begins : ByteArray := method_12_code
def yL_begins : MethodName := ⟨RL, "begins", "(LHopOast;[I)LHopOastLaw;"⟩
abbrev cL_isFloor : ByteArray := method_13_code
def yL_isFloor : MethodName := ⟨RL, "isFloor", "(LHopOast;LHopOastLaw;I)Z"⟩
abbrev cL_still : ByteArray := method_14_code
def yL_still : MethodName := ⟨RL, "still", "(LHopOast;LHopOastLaw;)Z"⟩
abbrev cL_floors : ByteArray := method_15_code
def yL_floors : MethodName := ⟨RL, "floors", "(LHopOast;LHopOastLaw;I[I)Z"⟩
abbrev cL_act : ByteArray := method_16_code
def yL_act : MethodName := ⟨RL, "act", "(LHopOast;LHopOastLaw;[I)Z"⟩
abbrev vwCl : List vw_C := [(RX0, TX0, 4), (RX1, TX1, 5), (RX2, TX2, 5), (RX3, TX3, 9), (RX4, TX4, 2), (RX5, TX5, 9), (RX6, TX6, 4), (RX7, TX7, 6), (RX8, TX8, 2), (RX9, TX9, 2), (RX10, TX10, 6), (RX11, TX11, 10), (RX12, TX12, 5), (RL, TL, 13), (RJ0, TJ0, 4), (RJ4, TJ4, 4), (RJx4a65c, TJx4a65c, 3)]
