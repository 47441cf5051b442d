/-! ===== BEGIN printed: names, fields, word lists, decode rows ===== -/
def RX0 : String := "CandleDip$Frame"
def TX0 : u_T := fun k => match k with
  | 0 => ("CandleDip$Frame", "kind", "I", false)
  | 1 => ("CandleDip$Frame", "wicks", "I", false)
  | 2 => ("CandleDip$Frame", "thickness", "I", false)
  | 3 => ("CandleDip$Frame", "warmth", "I", false)
  | 4 => ("CandleDip$Frame", "cracked", "Z", false)
  | 5 => ("CandleDip$Frame", "place", "I", false)
  | _ => ("CandleDip$Frame", "dips", "I", false)
def tyX0 : Nat → FieldType := fun k => match k with
  | 0 => .int
  | 1 => .int
  | 2 => .int
  | 3 => .int
  | 4 => .boolean
  | 5 => .int
  | _ => .int
abbrev wsX00 : List Cond := u_ws RX0 TX0 7
theorem nmX0 : ∀ a, a < 7 → ∀ b, b < 7 → a ≠ b → (TX0 a).2.1 ≠ (TX0 b).2.1 := by decide +kernel
theorem tyX0_ok : ∀ k, k < 7 → parseFieldDescriptor (TX0 k).2.2.1 = some (tyX0 k) := by decide +kernel
abbrev cX0_init : ByteArray := prog_2_method_1_code
def yX0_init : MethodName := ⟨RX0, "<init>", "(II)V"⟩
abbrev cX0_hangs : ByteArray := prog_2_method_2_code
def yX0_hangs : MethodName := ⟨RX0, "hangs", "()Z"⟩
abbrev cX0_isBare : ByteArray := prog_2_method_3_code
def yX0_isBare : MethodName := ⟨RX0, "isBare", "()Z"⟩
abbrev cX0_isTooWarmToCut : ByteArray := prog_2_method_4_code
def yX0_isTooWarmToCut : MethodName := ⟨RX0, "isTooWarmToCut", "()Z"⟩
abbrev cX0_meltsWhenDipped : ByteArray := prog_2_method_5_code
def yX0_meltsWhenDipped : MethodName := ⟨RX0, "meltsWhenDipped", "()Z"⟩
abbrev cX0_waxOf : ByteArray := prog_2_method_6_code
def yX0_waxOf : MethodName := ⟨RX0, "waxOf", "(I)I"⟩
abbrev cX0_canBeDipped : ByteArray := prog_2_method_7_code
def yX0_canBeDipped : MethodName := ⟨RX0, "canBeDipped", "(LCandleDip$Vat;)Z"⟩
abbrev cX0_gain : ByteArray := prog_2_method_8_code
def yX0_gain : MethodName := ⟨RX0, "gain", "(I)I"⟩
abbrev cX0_immerse : ByteArray := prog_2_method_9_code
def yX0_immerse : MethodName := ⟨RX0, "immerse", "(LCandleDip$Vat;)V"⟩
abbrev cX0_meltOff : ByteArray := prog_2_method_10_code
def yX0_meltOff : MethodName := ⟨RX0, "meltOff", "(I)V"⟩
abbrev cX0_takeUp : ByteArray := prog_2_method_11_code
def yX0_takeUp : MethodName := ⟨RX0, "takeUp", "(LCandleDip$Vat;)V"⟩
abbrev cX0_cool : ByteArray := prog_2_method_12_code
def yX0_cool : MethodName := ⟨RX0, "cool", "()V"⟩
abbrev cX0_coolingOfPlace : ByteArray := prog_2_method_13_code
def yX0_coolingOfPlace : MethodName := ⟨RX0, "coolingOfPlace", "()I"⟩
abbrev cX0_size : ByteArray := prog_2_method_14_code
def yX0_size : MethodName := ⟨RX0, "size", "()I"⟩
abbrev cX0_renewWicks : ByteArray := prog_2_method_15_code
def yX0_renewWicks : MethodName := ⟨RX0, "renewWicks", "()V"⟩
abbrev cX0_copyFrom : ByteArray := prog_2_method_16_code
def yX0_copyFrom : MethodName := ⟨RX0, "copyFrom", "(LCandleDip$Frame;)V"⟩
def RX1 : String := "CandleDip$Order"
def TX1 : u_T := fun k => match k with
  | 0 => ("CandleDip$Order", "kind", "I", true)
  | 1 => ("CandleDip$Order", "leastSize", "I", true)
  | 2 => ("CandleDip$Order", "many", "I", true)
  | 3 => ("CandleDip$Order", "day", "I", true)
  | _ => ("CandleDip$Order", "state", "I", false)
def tyX1 : Nat → FieldType := fun k => match k with
  | 0 => .int
  | 1 => .int
  | 2 => .int
  | 3 => .int
  | _ => .int
abbrev wsX10 : List Cond := u_ws RX1 TX1 5
theorem nmX1 : ∀ a, a < 5 → ∀ b, b < 5 → a ≠ b → (TX1 a).2.1 ≠ (TX1 b).2.1 := by decide +kernel
theorem tyX1_ok : ∀ k, k < 5 → parseFieldDescriptor (TX1 k).2.2.1 = some (tyX1 k) := by decide +kernel
abbrev cX1_init : ByteArray := prog_3_method_1_code
def yX1_init : MethodName := ⟨RX1, "<init>", "(IIII)V"⟩
abbrev cX1_isOpenFor : ByteArray := prog_3_method_2_code
def yX1_isOpenFor : MethodName := ⟨RX1, "isOpenFor", "(II)Z"⟩
abbrev cX1_canBeFilled : ByteArray := prog_3_method_3_code
def yX1_canBeFilled : MethodName := ⟨RX1, "canBeFilled", "(LCandleDip$Store;)Z"⟩
def RX2 : String := "CandleDip$Store"
def TX2 : u_T := fun k => match k with
  | _ => ("CandleDip$Store", "shelves", "[I", true)
def tyX2 : Nat → FieldType := fun k => match k with
  | _ => .array .int
abbrev wsX20 : List Cond := u_ws RX2 TX2 1
theorem nmX2 : ∀ a, a < 1 → ∀ b, b < 1 → a ≠ b → (TX2 a).2.1 ≠ (TX2 b).2.1 := by decide +kernel
theorem tyX2_ok : ∀ k, k < 1 → parseFieldDescriptor (TX2 k).2.2.1 = some (tyX2 k) := by decide +kernel
abbrev cX2_init : ByteArray := prog_4_method_1_code
def yX2_init : MethodName := ⟨RX2, "<init>", "()V"⟩
abbrev cX2_hasShelf : ByteArray := prog_4_method_2_code
def yX2_hasShelf : MethodName := ⟨RX2, "hasShelf", "(II)Z"⟩
abbrev cX2_amount : ByteArray := prog_4_method_3_code
def yX2_amount : MethodName := ⟨RX2, "amount", "(II)I"⟩
abbrev cX2_amountFrom : ByteArray := prog_4_method_4_code
def yX2_amountFrom : MethodName := ⟨RX2, "amountFrom", "(II)I"⟩
abbrev cX2_total : ByteArray := prog_4_method_5_code
def yX2_total : MethodName := ⟨RX2, "total", "()I"⟩
abbrev cX2_put : ByteArray := prog_4_method_6_code
def yX2_put : MethodName := ⟨RX2, "put", "(III)V"⟩
abbrev cX2_take : ByteArray := prog_4_method_7_code
def yX2_take : MethodName := ⟨RX2, "take", "(III)V"⟩
def RX3 : String := "CandleDip$Trial"
def TX3 : u_T := fun k => match k with
  | 0 => ("CandleDip$Trial", "frame", "LCandleDip$Frame;", true)
  | _ => ("CandleDip$Trial", "vat", "LCandleDip$Vat;", true)
def tyX3 : Nat → FieldType := fun k => match k with
  | 0 => .object "CandleDip$Frame"
  | _ => .object "CandleDip$Vat"
abbrev wsX30 : List Cond := u_ws RX3 TX3 2
theorem nmX3 : ∀ a, a < 2 → ∀ b, b < 2 → a ≠ b → (TX3 a).2.1 ≠ (TX3 b).2.1 := by decide +kernel
theorem tyX3_ok : ∀ k, k < 2 → parseFieldDescriptor (TX3 k).2.2.1 = some (tyX3 k) := by decide +kernel
abbrev cX3_init : ByteArray := prog_5_method_1_code
def yX3_init : MethodName := ⟨RX3, "<init>", "()V"⟩
abbrev cX3_thicknessAfter : ByteArray := prog_5_method_2_code
def yX3_thicknessAfter : MethodName := ⟨RX3, "thicknessAfter", "(LCandleDip$Frame;LCandleDip$Vat;I)I"⟩
abbrev cX3_begin : ByteArray := prog_5_method_5_code
def yX3_begin : MethodName := ⟨RX3, "begin", "(LCandleDip$Frame;LCandleDip$Vat;)V"⟩
abbrev cX3_tryDip : ByteArray := prog_5_method_6_code
def yX3_tryDip : MethodName := ⟨RX3, "tryDip", "()Z"⟩
def RX4 : String := "CandleDip$Vat"
def TX4 : u_T := fun k => match k with
  | 0 => ("CandleDip$Vat", "wax", "I", false)
  | 1 => ("CandleDip$Vat", "heat", "I", false)
  | _ => ("CandleDip$Vat", "level", "I", false)
def tyX4 : Nat → FieldType := fun k => match k with
  | 0 => .int
  | 1 => .int
  | _ => .int
abbrev wsX40 : List Cond := u_ws RX4 TX4 3
theorem nmX4 : ∀ a, a < 3 → ∀ b, b < 3 → a ≠ b → (TX4 a).2.1 ≠ (TX4 b).2.1 := by decide +kernel
theorem tyX4_ok : ∀ k, k < 3 → parseFieldDescriptor (TX4 k).2.2.1 = some (tyX4 k) := by decide +kernel
abbrev cX4_init : ByteArray := prog_6_method_1_code
def yX4_init : MethodName := ⟨RX4, "<init>", "()V"⟩
abbrev cX4_isMelted : ByteArray := prog_6_method_2_code
def yX4_isMelted : MethodName := ⟨RX4, "isMelted", "()Z"⟩
abbrev cX4_throwIn : ByteArray := prog_6_method_3_code
def yX4_throwIn : MethodName := ⟨RX4, "throwIn", "(I)V"⟩
abbrev cX4_takeBack : ByteArray := prog_6_method_4_code
def yX4_takeBack : MethodName := ⟨RX4, "takeBack", "(I)V"⟩
abbrev cX4_burn : ByteArray := prog_6_method_5_code
def yX4_burn : MethodName := ⟨RX4, "burn", "()V"⟩
abbrev cX4_copyFrom : ByteArray := prog_6_method_6_code
def yX4_copyFrom : MethodName := ⟨RX4, "copyFrom", "(LCandleDip$Vat;)V"⟩
def RX5 : String := "CandleDip"
def TX5 : u_T := fun k => match k with
  | 0 => ("CandleDip", "vat", "LCandleDip$Vat;", true)
  | 1 => ("CandleDip", "frames", "[LCandleDip$Frame;", true)
  | 2 => ("CandleDip", "store", "LCandleDip$Store;", true)
  | 3 => ("CandleDip", "orders", "[LCandleDip$Order;", true)
  | 4 => ("CandleDip", "trial", "LCandleDip$Trial;", true)
  | 5 => ("CandleDip", "fewestCandles", "[I", true)
  | 6 => ("CandleDip", "quarter", "I", false)
  | 7 => ("CandleDip", "dipsInAll", "I", false)
  | _ => ("CandleDip", "thrownAway", "I", false)
def tyX5 : Nat → FieldType := fun k => match k with
  | 0 => .object "CandleDip$Vat"
  | 1 => .array (.object "CandleDip$Frame")
  | 2 => .object "CandleDip$Store"
  | 3 => .array (.object "CandleDip$Order")
  | 4 => .object "CandleDip$Trial"
  | 5 => .array .int
  | 6 => .int
  | 7 => .int
  | _ => .int
abbrev wsX50 : List Cond := u_ws RX5 TX5 9
theorem nmX5 : ∀ a, a < 9 → ∀ b, b < 9 → a ≠ b → (TX5 a).2.1 ≠ (TX5 b).2.1 := by decide +kernel
theorem tyX5_ok : ∀ k, k < 9 → parseFieldDescriptor (TX5 k).2.2.1 = some (tyX5 k) := by decide +kernel
abbrev cX5_init : ByteArray := prog_1_method_1_code
def yX5_init : MethodName := ⟨RX5, "<init>", "()V"⟩
abbrev cX5_melt : ByteArray := prog_1_method_2_code
def yX5_melt : MethodName := ⟨RX5, "melt", "(I)I"⟩
abbrev cX5_setFire : ByteArray := prog_1_method_3_code
def yX5_setFire : MethodName := ⟨RX5, "setFire", "(I)I"⟩
abbrev cX5_vat : ByteArray := prog_1_method_4_code
def yX5_vat : MethodName := ⟨RX5, "vat", "(I)I"⟩
abbrev cX5_addFrame : ByteArray := prog_1_method_5_code
def yX5_addFrame : MethodName := ⟨RX5, "addFrame", "(II)I"⟩
abbrev cX5_hang : ByteArray := prog_1_method_6_code
def yX5_hang : MethodName := ⟨RX5, "hang", "(II)I"⟩
abbrev cX5_layAside : ByteArray := prog_1_method_7_code
def yX5_layAside : MethodName := ⟨RX5, "layAside", "(I)I"⟩
abbrev cX5_dip : ByteArray := prog_1_method_8_code
def yX5_dip : MethodName := ⟨RX5, "dip", "(I)I"⟩
abbrev cX5_cutOff : ByteArray := prog_1_method_9_code
def yX5_cutOff : MethodName := ⟨RX5, "cutOff", "(I)I"⟩
abbrev cX5_frame : ByteArray := prog_1_method_10_code
def yX5_frame : MethodName := ⟨RX5, "frame", "(II)I"⟩
abbrev cX5_hook : ByteArray := prog_1_method_11_code
def yX5_hook : MethodName := ⟨RX5, "hook", "(I)I"⟩
abbrev cX5_store : ByteArray := prog_1_method_12_code
def yX5_store : MethodName := ⟨RX5, "store", "(II)I"⟩
abbrev cX5_addOrder : ByteArray := prog_1_method_13_code
def yX5_addOrder : MethodName := ⟨RX5, "addOrder", "(IIII)I"⟩
abbrev cX5_fill : ByteArray := prog_1_method_14_code
def yX5_fill : MethodName := ⟨RX5, "fill", "(I)I"⟩
abbrev cX5_pass : ByteArray := prog_1_method_16_code
def yX5_pass : MethodName := ⟨RX5, "pass", "(I)I"⟩
abbrev cX5_count : ByteArray := prog_1_method_17_code
def yX5_count : MethodName := ⟨RX5, "count", "(I)I"⟩
abbrev cX5_would : ByteArray := prog_1_method_18_code
def yX5_would : MethodName := ⟨RX5, "would", "(II)I"⟩
abbrev cX5_advise : ByteArray := prog_1_method_21_code
def yX5_advise : MethodName := ⟨RX5, "advise", "()I"⟩
abbrev cX5_possible : ByteArray := prog_1_method_22_code
def yX5_possible : MethodName := ⟨RX5, "possible", "()I"⟩
abbrev cX5_within : ByteArray := prog_1_method_25_code
def yX5_within : MethodName := ⟨RX5, "within", "(III)Z"⟩
abbrev cX5_frameAt : ByteArray := prog_1_method_26_code
def yX5_frameAt : MethodName := ⟨RX5, "frameAt", "(I)LCandleDip$Frame;"⟩
abbrev cX5_orderAt : ByteArray := prog_1_method_27_code
def yX5_orderAt : MethodName := ⟨RX5, "orderAt", "(I)LCandleDip$Order;"⟩
abbrev cX5_frameOn : ByteArray := prog_1_method_28_code
def yX5_frameOn : MethodName := ⟨RX5, "frameOn", "(I)I"⟩
abbrev cX5_framesMade : ByteArray := prog_1_method_29_code
def yX5_framesMade : MethodName := ⟨RX5, "framesMade", "()I"⟩
abbrev cX5_framesHanging : ByteArray := prog_1_method_30_code
def yX5_framesHanging : MethodName := ⟨RX5, "framesHanging", "()I"⟩
abbrev cX5_ordersTaken : ByteArray := prog_1_method_31_code
def yX5_ordersTaken : MethodName := ⟨RX5, "ordersTaken", "()I"⟩
abbrev cX5_ordersInState : ByteArray := prog_1_method_32_code
def yX5_ordersInState : MethodName := ⟨RX5, "ordersInState", "(I)I"⟩
abbrev cX5_letQuarterGo : ByteArray := prog_1_method_33_code
def yX5_letQuarterGo : MethodName := ⟨RX5, "letQuarterGo", "(LCandleDip$Frame;)V"⟩
abbrev cX5_endDay : ByteArray := prog_1_method_34_code
def yX5_endDay : MethodName := ⟨RX5, "endDay", "(I)V"⟩
abbrev cX5_possibleOfKind : ByteArray := prog_1_method_35_code
def yX5_possibleOfKind : MethodName := ⟨RX5, "possibleOfKind", "(I)I"⟩
abbrev cX5_planOneMore : ByteArray := prog_1_method_36_code
def yX5_planOneMore : MethodName := ⟨RX5, "planOneMore", "(III)I"⟩
def RX6 : String := "CandleDipLaw$Frame"
def TX6 : u_T := fun k => match k with
  | 0 => ("CandleDipLaw$Frame", "kind", "I", false)
  | 1 => ("CandleDipLaw$Frame", "wicks", "I", false)
  | 2 => ("CandleDipLaw$Frame", "thick", "I", false)
  | 3 => ("CandleDipLaw$Frame", "warm", "I", false)
  | 4 => ("CandleDipLaw$Frame", "isCracked", "Z", false)
  | 5 => ("CandleDipLaw$Frame", "hook", "I", false)
  | _ => ("CandleDipLaw$Frame", "dips", "I", false)
def tyX6 : Nat → FieldType := fun k => match k with
  | 0 => .int
  | 1 => .int
  | 2 => .int
  | 3 => .int
  | 4 => .boolean
  | 5 => .int
  | _ => .int
abbrev wsX60 : List Cond := u_ws RX6 TX6 7
theorem nmX6 : ∀ a, a < 7 → ∀ b, b < 7 → a ≠ b → (TX6 a).2.1 ≠ (TX6 b).2.1 := by decide +kernel
theorem tyX6_ok : ∀ k, k < 7 → parseFieldDescriptor (TX6 k).2.2.1 = some (tyX6 k) := by decide +kernel
abbrev cX6_init : ByteArray := prog_8_method_1_code
def yX6_init : MethodName := ⟨RX6, "<init>", "()V"⟩
abbrev cX6_size : ByteArray := prog_8_method_3_code
def yX6_size : MethodName := ⟨RX6, "size", "()I"⟩
def RX7 : String := "CandleDipLaw$Sim"
def TX7 : u_T := fun k => match k with
  | 0 => ("CandleDipLaw$Sim", "wax", "I", false)
  | 1 => ("CandleDipLaw$Sim", "heat", "I", false)
  | 2 => ("CandleDipLaw$Sim", "fire", "I", false)
  | 3 => ("CandleDipLaw$Sim", "frames", "[LCandleDipLaw$Frame;", false)
  | 4 => ("CandleDipLaw$Sim", "store", "[[I", false)
  | 5 => ("CandleDipLaw$Sim", "orders", "[[I", false)
  | 6 => ("CandleDipLaw$Sim", "quarter", "I", false)
  | 7 => ("CandleDipLaw$Sim", "dips", "I", false)
  | _ => ("CandleDipLaw$Sim", "away", "I", false)
def tyX7 : Nat → FieldType := fun k => match k with
  | 0 => .int
  | 1 => .int
  | 2 => .int
  | 3 => .array (.object "CandleDipLaw$Frame")
  | 4 => .array (.array .int)
  | 5 => .array (.array .int)
  | 6 => .int
  | 7 => .int
  | _ => .int
abbrev wsX70 : List Cond := u_ws RX7 TX7 9
theorem nmX7 : ∀ a, a < 9 → ∀ b, b < 9 → a ≠ b → (TX7 a).2.1 ≠ (TX7 b).2.1 := by decide +kernel
theorem tyX7_ok : ∀ k, k < 9 → parseFieldDescriptor (TX7 k).2.2.1 = some (tyX7 k) := by decide +kernel
abbrev cX7_init : ByteArray := prog_9_method_1_code
def yX7_init : MethodName := ⟨RX7, "<init>", "()V"⟩
abbrev cX7_frame : ByteArray := prog_9_method_3_code
def yX7_frame : MethodName := ⟨RX7, "frame", "(II)V"⟩
abbrev cX7_order : ByteArray := prog_9_method_4_code
def yX7_order : MethodName := ⟨RX7, "order", "(IIII)V"⟩
abbrev cX7_at : ByteArray := prog_9_method_5_code
def yX7_at : MethodName := ⟨RX7, "at", "(I)I"⟩
abbrev cX7_grows : ByteArray := prog_9_method_6_code
def yX7_grows : MethodName := ⟨RX7, "grows", "(LCandleDipLaw$Frame;)I"⟩
abbrev cX7_dip : ByteArray := prog_9_method_7_code
def yX7_dip : MethodName := ⟨RX7, "dip", "(LCandleDipLaw$Frame;)V"⟩
abbrev cX7_pass : ByteArray := prog_9_method_8_code
def yX7_pass : MethodName := ⟨RX7, "pass", "(LCandleDipLaw$Frame;)V"⟩
abbrev cX7_enough : ByteArray := prog_9_method_9_code
def yX7_enough : MethodName := ⟨RX7, "enough", "(II)I"⟩
abbrev cX7_all : ByteArray := prog_9_method_10_code
def yX7_all : MethodName := ⟨RX7, "all", "()I"⟩
def RX8 : String := "CandleDipModel"
def TX8 : u_T := fun k => match k with
  | _ => ("", "", "", false)
def tyX8 : Nat → FieldType := fun k => match k with
  | _ => .int
abbrev wsX80 : List Cond := u_ws RX8 TX8 0
theorem nmX8 : ∀ a, a < 0 → ∀ b, b < 0 → a ≠ b → (TX8 a).2.1 ≠ (TX8 b).2.1 := by decide +kernel
theorem tyX8_ok : ∀ k, k < 0 → parseFieldDescriptor (TX8 k).2.2.1 = some (tyX8 k) := by decide +kernel
def RJ9 : String := "java/lang/Math"
def TJ9 : u_T := fun k => match k with
  | _ => ("", "", "", false)
def tyJ9 : Nat → FieldType := fun k => match k with
  | _ => .int
abbrev wsJ90 : List Cond := u_ws RJ9 TJ9 0
theorem nmJ9 : ∀ a, a < 0 → ∀ b, b < 0 → a ≠ b → (TJ9 a).2.1 ≠ (TJ9 b).2.1 := by decide +kernel
theorem tyJ9_ok : ∀ k, k < 0 → parseFieldDescriptor (TJ9 k).2.2.1 = some (tyJ9 k) := by decide +kernel
abbrev cJ9_max_7cf53 : ByteArray := prog_15_method_65_code
def yJ9_max_7cf53 : MethodName := ⟨RJ9, "max", "(II)I"⟩
abbrev cJ9_min_7cf53 : ByteArray := prog_15_method_69_code
def yJ9_min_7cf53 : MethodName := ⟨RJ9, "min", "(II)I"⟩
def RJ0 : String := "java/lang/String"
def TJ0 : u_T := fun k => match k with
  | _ => ("", "", "", false)
def tyJ0 : Nat → FieldType := fun k => match k with
  | _ => .int
abbrev wsJ00 : List Cond := u_ws RJ0 TJ0 0
theorem nmJ0 : ∀ a, a < 0 → ∀ b, b < 0 → a ≠ b → (TJ0 a).2.1 ≠ (TJ0 b).2.1 := by decide +kernel
theorem tyJ0_ok : ∀ k, k < 0 → parseFieldDescriptor (TJ0 k).2.2.1 = some (tyJ0 k) := by decide +kernel
def RL : String := "CandleDipLaw"
abbrev cL_below : ByteArray := method_2_code
def yL_below : MethodName := ⟨RL, "below", "(II)I"⟩
abbrev cL_cell : ByteArray := method_3_code
def yL_cell : MethodName := ⟨RL, "cell", "([II)I"⟩
abbrev cL_build : ByteArray := method_4_code
def yL_build : MethodName := ⟨RL, "build", "(LCandleDip;[I)LCandleDipLaw$Sim;"⟩
abbrev cL_act : ByteArray := method_5_code
def yL_act : MethodName := ⟨RL, "act", "(LCandleDip;LCandleDipLaw$Sim;I)Z"⟩
abbrev cL_law : ByteArray := code
def yL_law : MethodName := ⟨RL, "law", "([I)Z"⟩
abbrev vwCl : List vw_C := [(RX0, TX0, 7), (RX1, TX1, 5), (RX2, TX2, 1), (RX3, TX3, 2), (RX4, TX4, 3), (RX5, TX5, 9), (RX6, TX6, 7), (RX7, TX7, 9)]
