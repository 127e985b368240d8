def RX0 : String := "BoatCradle$Berths"
def TX0 : u_T := fun k => match k with
  | 0 => ("BoatCradle$Berths", "weight", "[I", true)
  | 1 => ("BoatCradle$Berths", "length", "[I", true)
  | 2 => ("BoatCradle$Berths", "inFront", "[I", true)
  | 3 => ("BoatCradle$Berths", "boat", "[I", true)
  | _ => ("BoatCradle$Berths", "count", "I", false)
def tyX0 : Nat → FieldType := fun k => match k with
  | 0 => .array .int
  | 1 => .array .int
  | 2 => .array .int
  | 3 => .array .int
  | _ => .int
abbrev wsX00 : List Cond := u_ws RX0 TX0 5
theorem nmX0 : ∀ a, a < 5 → ∀ b, b < 5 → a ≠ b → (TX0 a).2.1 ≠ (TX0 b).2.1 := by decide +kernel
theorem tyX0_ok : ∀ k, k < 5 → parseFieldDescriptor (TX0 k).2.2.1 = some (tyX0 k) := by decide +kernel
abbrev cX0_init : ByteArray := prog_2_method_1_code
def yX0_init : MethodName := ⟨RX0, "<init>", "()V"⟩
abbrev cX0_has : ByteArray := prog_2_method_2_code
def yX0_has : MethodName := ⟨RX0, "has", "(I)Z"⟩
abbrev cX0_append : ByteArray := prog_2_method_3_code
def yX0_append : MethodName := ⟨RX0, "append", "(III)I"⟩
abbrev cX0_occupied : ByteArray := prog_2_method_4_code
def yX0_occupied : MethodName := ⟨RX0, "occupied", "()I"⟩
def RX1 : String := "BoatCradle$Boats"
def TX1 : u_T := fun k => match k with
  | 0 => ("BoatCradle$Boats", "draught", "[I", true)
  | 1 => ("BoatCradle$Boats", "weight", "[I", true)
  | 2 => ("BoatCradle$Boats", "length", "[I", true)
  | 3 => ("BoatCradle$Boats", "rank", "[I", true)
  | 4 => ("BoatCradle$Boats", "berth", "[I", true)
  | 5 => ("BoatCradle$Boats", "left", "[I", true)
  | 6 => ("BoatCradle$Boats", "coats", "[I", true)
  | _ => ("BoatCradle$Boats", "count", "I", false)
def tyX1 : Nat → FieldType := fun k => match k with
  | 0 => .array .int
  | 1 => .array .int
  | 2 => .array .int
  | 3 => .array .int
  | 4 => .array .int
  | 5 => .array .int
  | 6 => .array .int
  | _ => .int
abbrev wsX10 : List Cond := u_ws RX1 TX1 8
theorem nmX1 : ∀ a, a < 8 → ∀ b, b < 8 → a ≠ b → (TX1 a).2.1 ≠ (TX1 b).2.1 := by decide +kernel
theorem tyX1_ok : ∀ k, k < 8 → parseFieldDescriptor (TX1 k).2.2.1 = some (tyX1 k) := by decide +kernel
abbrev cX1_init : ByteArray := prog_3_method_1_code
def yX1_init : MethodName := ⟨RX1, "<init>", "()V"⟩
abbrev cX1_has : ByteArray := prog_3_method_2_code
def yX1_has : MethodName := ⟨RX1, "has", "(I)Z"⟩
abbrev cX1_append : ByteArray := prog_3_method_3_code
def yX1_append : MethodName := ⟨RX1, "append", "(IIII)I"⟩
abbrev cX1_dryOneHour : ByteArray := prog_3_method_4_code
def yX1_dryOneHour : MethodName := ⟨RX1, "dryOneHour", "()V"⟩
abbrev cX1_countWaiting : ByteArray := prog_3_method_5_code
def yX1_countWaiting : MethodName := ⟨RX1, "countWaiting", "()I"⟩
abbrev cX1_firstInLine : ByteArray := prog_3_method_7_code
def yX1_firstInLine : MethodName := ⟨RX1, "firstInLine", "()I"⟩
abbrev cX1_goesBefore : ByteArray := prog_3_method_8_code
def yX1_goesBefore : MethodName := ⟨RX1, "goesBefore", "(II)Z"⟩
def RX2 : String := "BoatCradle$Places"
def TX2 : u_T := fun k => match k with
  | 0 => ("BoatCradle$Places", "code", "[I", true)
  | 1 => ("BoatCradle$Places", "weight", "[I", true)
  | 2 => ("BoatCradle$Places", "list", "[I", true)
  | 3 => ("BoatCradle$Places", "listed", "I", false)
  | 4 => ("BoatCradle$Places", "berthed", "I", false)
  | _ => ("BoatCradle$Places", "berths", "I", false)
def tyX2 : Nat → FieldType := fun k => match k with
  | 0 => .array .int
  | 1 => .array .int
  | 2 => .array .int
  | 3 => .int
  | 4 => .int
  | _ => .int
abbrev wsX20 : List Cond := u_ws RX2 TX2 6
theorem nmX2 : ∀ a, a < 6 → ∀ b, b < 6 → a ≠ b → (TX2 a).2.1 ≠ (TX2 b).2.1 := by decide +kernel
theorem tyX2_ok : ∀ k, k < 6 → parseFieldDescriptor (TX2 k).2.2.1 = some (tyX2 k) := by decide +kernel
abbrev cX2_init : ByteArray := prog_4_method_1_code
def yX2_init : MethodName := ⟨RX2, "<init>", "()V"⟩
abbrev cX2_put : ByteArray := prog_4_method_2_code
def yX2_put : MethodName := ⟨RX2, "put", "(III)I"⟩
abbrev cX2_berthAt : ByteArray := prog_4_method_3_code
def yX2_berthAt : MethodName := ⟨RX2, "berthAt", "(II)I"⟩
abbrev cX2_clear : ByteArray := prog_4_method_4_code
def yX2_clear : MethodName := ⟨RX2, "clear", "(II)V"⟩
abbrev cX2_occupiedAt : ByteArray := prog_4_method_5_code
def yX2_occupiedAt : MethodName := ⟨RX2, "occupiedAt", "(I)I"⟩
abbrev cX2_numberOf : ByteArray := prog_4_method_6_code
def yX2_numberOf : MethodName := ⟨RX2, "numberOf", "(I)I"⟩
abbrev cX2_reach : ByteArray := prog_4_method_7_code
def yX2_reach : MethodName := ⟨RX2, "reach", "(II)Z"⟩
abbrev cX2_takeLeast : ByteArray := prog_4_method_8_code
def yX2_takeLeast : MethodName := ⟨RX2, "takeLeast", "()I"⟩
def RX3 : String := "BoatCradle$Tide"
def TX3 : u_T := fun k => match k with
  | 0 => ("BoatCradle$Tide", "base", "I", false)
  | 1 => ("BoatCradle$Tide", "first", "I", false)
  | _ => ("BoatCradle$Tide", "second", "I", false)
def tyX3 : Nat → FieldType := fun k => match k with
  | 0 => .int
  | 1 => .int
  | _ => .int
abbrev wsX30 : List Cond := u_ws RX3 TX3 3
theorem nmX3 : ∀ a, a < 3 → ∀ b, b < 3 → a ≠ b → (TX3 a).2.1 ≠ (TX3 b).2.1 := by decide +kernel
theorem tyX3_ok : ∀ k, k < 3 → parseFieldDescriptor (TX3 k).2.2.1 = some (tyX3 k) := by decide +kernel
abbrev cX3_init : ByteArray := prog_5_method_1_code
def yX3_init : MethodName := ⟨RX3, "<init>", "()V"⟩
abbrev cX3_levelAt : ByteArray := prog_5_method_2_code
def yX3_levelAt : MethodName := ⟨RX3, "levelAt", "(I)I"⟩
def RX4 : String := "BoatCradle$Weather"
def TX4 : u_T := fun k => match k with
  | 0 => ("BoatCradle$Weather", "from", "[I", true)
  | 1 => ("BoatCradle$Weather", "to", "[I", true)
  | _ => ("BoatCradle$Weather", "count", "I", false)
def tyX4 : Nat → FieldType := fun k => match k with
  | 0 => .array .int
  | 1 => .array .int
  | _ => .int
abbrev wsX40 : List Cond := u_ws RX4 TX4 3
theorem nmX4 : ∀ a, a < 3 → ∀ b, b < 3 → a ≠ b → (TX4 a).2.1 ≠ (TX4 b).2.1 := by decide +kernel
theorem tyX4_ok : ∀ k, k < 3 → parseFieldDescriptor (TX4 k).2.2.1 = some (tyX4 k) := by decide +kernel
abbrev cX4_init : ByteArray := prog_6_method_1_code
def yX4_init : MethodName := ⟨RX4, "<init>", "()V"⟩
abbrev cX4_append : ByteArray := prog_6_method_2_code
def yX4_append : MethodName := ⟨RX4, "append", "(II)I"⟩
abbrev cX4_keepFrom : ByteArray := prog_6_method_3_code
def yX4_keepFrom : MethodName := ⟨RX4, "keepFrom", "(I)I"⟩
abbrev cX4_badAt : ByteArray := prog_6_method_4_code
def yX4_badAt : MethodName := ⟨RX4, "badAt", "(I)Z"⟩
abbrev cX4_dryBySpans : ByteArray := prog_6_method_5_code
def yX4_dryBySpans : MethodName := ⟨RX4, "dryBySpans", "(II)I"⟩
abbrev cX4_nextGood : ByteArray := prog_6_method_6_code
def yX4_nextGood : MethodName := ⟨RX4, "nextGood", "(I)I"⟩
abbrev cX4_nextStart : ByteArray := prog_6_method_7_code
def yX4_nextStart : MethodName := ⟨RX4, "nextStart", "(I)I"⟩
abbrev cX4_dryHourByHour : ByteArray := prog_6_method_8_code
def yX4_dryHourByHour : MethodName := ⟨RX4, "dryHourByHour", "(II)I"⟩
def RX5 : String := "BoatCradle"
def TX5 : u_T := fun k => match k with
  | 0 => ("BoatCradle", "tide", "LBoatCradle$Tide;", true)
  | 1 => ("BoatCradle", "weather", "LBoatCradle$Weather;", true)
  | 2 => ("BoatCradle", "berths", "LBoatCradle$Berths;", true)
  | 3 => ("BoatCradle", "boats", "LBoatCradle$Boats;", true)
  | 4 => ("BoatCradle", "places", "LBoatCradle$Places;", true)
  | 5 => ("BoatCradle", "capacity", "I", false)
  | 6 => ("BoatCradle", "clearance", "I", false)
  | 7 => ("BoatCradle", "now", "I", false)
  | 8 => ("BoatCradle", "hourOfMove", "I", false)
  | 9 => ("BoatCradle", "moves", "I", false)
  | _ => ("BoatCradle", "weightMoved", "J", false)
def tyX5 : Nat → FieldType := fun k => match k with
  | 0 => .object "BoatCradle$Tide"
  | 1 => .object "BoatCradle$Weather"
  | 2 => .object "BoatCradle$Berths"
  | 3 => .object "BoatCradle$Boats"
  | 4 => .object "BoatCradle$Places"
  | 5 => .int
  | 6 => .int
  | 7 => .int
  | 8 => .int
  | 9 => .int
  | _ => .long
abbrev wsX50 : List Cond := u_ws RX5 TX5 11
theorem nmX5 : ∀ a, a < 11 → ∀ b, b < 11 → a ≠ b → (TX5 a).2.1 ≠ (TX5 b).2.1 := by decide +kernel
theorem tyX5_ok : ∀ k, k < 11 → parseFieldDescriptor (TX5 k).2.2.1 = some (tyX5 k) := by decide +kernel
abbrev cX5_init : ByteArray := prog_1_method_1_code
def yX5_init : MethodName := ⟨RX5, "<init>", "()V"⟩
abbrev cX5_addBerth : ByteArray := prog_1_method_2_code
def yX5_addBerth : MethodName := ⟨RX5, "addBerth", "(III)I"⟩
abbrev cX5_addBoat : ByteArray := prog_1_method_3_code
def yX5_addBoat : MethodName := ⟨RX5, "addBoat", "(IIII)I"⟩
abbrev cX5_setTide : ByteArray := prog_1_method_4_code
def yX5_setTide : MethodName := ⟨RX5, "setTide", "(III)I"⟩
abbrev cX5_setCradle : ByteArray := prog_1_method_5_code
def yX5_setCradle : MethodName := ⟨RX5, "setCradle", "(II)I"⟩
abbrev cX5_tellWeather : ByteArray := prog_1_method_6_code
def yX5_tellWeather : MethodName := ⟨RX5, "tellWeather", "(II)I"⟩
abbrev cX5_forgetWeather : ByteArray := prog_1_method_7_code
def yX5_forgetWeather : MethodName := ⟨RX5, "forgetWeather", "()I"⟩
abbrev cX5_level : ByteArray := prog_1_method_8_code
def yX5_level : MethodName := ⟨RX5, "level", "(I)I"⟩
abbrev cX5_isBad : ByteArray := prog_1_method_9_code
def yX5_isBad : MethodName := ⟨RX5, "isBad", "(I)Z"⟩
abbrev cX5_floodHours : ByteArray := prog_1_method_10_code
def yX5_floodHours : MethodName := ⟨RX5, "floodHours", "(II)I"⟩
abbrev cX5_floodByHours : ByteArray := prog_1_method_11_code
def yX5_floodByHours : MethodName := ⟨RX5, "floodByHours", "(II)I"⟩
abbrev cX5_nextFlood : ByteArray := prog_1_method_12_code
def yX5_nextFlood : MethodName := ⟨RX5, "nextFlood", "(I)I"⟩
abbrev cX5_lift : ByteArray := prog_1_method_13_code
def yX5_lift : MethodName := ⟨RX5, "lift", "(II)I"⟩
abbrev cX5_liftReason : ByteArray := prog_1_method_14_code
def yX5_liftReason : MethodName := ⟨RX5, "liftReason", "(II)C"⟩
abbrev cX5_launch : ByteArray := prog_1_method_15_code
def yX5_launch : MethodName := ⟨RX5, "launch", "(I)I"⟩
abbrev cX5_launchReason : ByteArray := prog_1_method_16_code
def yX5_launchReason : MethodName := ⟨RX5, "launchReason", "(I)C"⟩
abbrev cX5_shift : ByteArray := prog_1_method_17_code
def yX5_shift : MethodName := ⟨RX5, "shift", "(II)I"⟩
abbrev cX5_shiftReason : ByteArray := prog_1_method_18_code
def yX5_shiftReason : MethodName := ⟨RX5, "shiftReason", "(II)C"⟩
abbrev cX5_comeBack : ByteArray := prog_1_method_19_code
def yX5_comeBack : MethodName := ⟨RX5, "comeBack", "(I)I"⟩
abbrev cX5_nextWaiting : ByteArray := prog_1_method_20_code
def yX5_nextWaiting : MethodName := ⟨RX5, "nextWaiting", "()I"⟩
abbrev cX5_state : ByteArray := prog_1_method_21_code
def yX5_state : MethodName := ⟨RX5, "state", "(I)C"⟩
abbrev cX5_berthOf : ByteArray := prog_1_method_22_code
def yX5_berthOf : MethodName := ⟨RX5, "berthOf", "(I)I"⟩
abbrev cX5_boatIn : ByteArray := prog_1_method_23_code
def yX5_boatIn : MethodName := ⟨RX5, "boatIn", "(I)I"⟩
abbrev cX5_paint : ByteArray := prog_1_method_24_code
def yX5_paint : MethodName := ⟨RX5, "paint", "(II)I"⟩
abbrev cX5_dryLeft : ByteArray := prog_1_method_25_code
def yX5_dryLeft : MethodName := ⟨RX5, "dryLeft", "(I)I"⟩
abbrev cX5_dryAt : ByteArray := prog_1_method_26_code
def yX5_dryAt : MethodName := ⟨RX5, "dryAt", "(I)I"⟩
abbrev cX5_dryByHours : ByteArray := prog_1_method_27_code
def yX5_dryByHours : MethodName := ⟨RX5, "dryByHours", "(I)I"⟩
abbrev cX5_pass : ByteArray := prog_1_method_28_code
def yX5_pass : MethodName := ⟨RX5, "pass", "(I)I"⟩
abbrev cX5_time : ByteArray := prog_1_method_29_code
def yX5_time : MethodName := ⟨RX5, "time", "()I"⟩
abbrev cX5_leastShifted : ByteArray := prog_1_method_30_code
def yX5_leastShifted : MethodName := ⟨RX5, "leastShifted", "(I)I"⟩
abbrev cX5_leastByRounds : ByteArray := prog_1_method_31_code
def yX5_leastByRounds : MethodName := ⟨RX5, "leastByRounds", "(I)I"⟩
abbrev cX5_movedWeight : ByteArray := prog_1_method_32_code
def yX5_movedWeight : MethodName := ⟨RX5, "movedWeight", "()J"⟩
abbrev cX5_outside : ByteArray := prog_1_method_35_code
def yX5_outside : MethodName := ⟨RX5, "outside", "(III)Z"⟩
abbrev cX5_checkBoat : ByteArray := prog_1_method_36_code
def yX5_checkBoat : MethodName := ⟨RX5, "checkBoat", "(I)V"⟩
abbrev cX5_checkBerth : ByteArray := prog_1_method_37_code
def yX5_checkBerth : MethodName := ⟨RX5, "checkBerth", "(I)V"⟩
abbrev cX5_checkBoatAndBerth : ByteArray := prog_1_method_38_code
def yX5_checkBoatAndBerth : MethodName := ⟨RX5, "checkBoatAndBerth", "(II)V"⟩
abbrev cX5_checkBoatInBerth : ByteArray := prog_1_method_39_code
def yX5_checkBoatInBerth : MethodName := ⟨RX5, "checkBoatInBerth", "(I)V"⟩
abbrev cX5_checkHour : ByteArray := prog_1_method_40_code
def yX5_checkHour : MethodName := ⟨RX5, "checkHour", "(I)V"⟩
abbrev cX5_checkFlood : ByteArray := prog_1_method_41_code
def yX5_checkFlood : MethodName := ⟨RX5, "checkFlood", "(II)V"⟩
abbrev cX5_enoughWater : ByteArray := prog_1_method_42_code
def yX5_enoughWater : MethodName := ⟨RX5, "enoughWater", "(II)Z"⟩
abbrev cX5_countFlood : ByteArray := prog_1_method_43_code
def yX5_countFlood : MethodName := ⟨RX5, "countFlood", "(II)I"⟩
abbrev cX5_liftBar : ByteArray := prog_1_method_44_code
def yX5_liftBar : MethodName := ⟨RX5, "liftBar", "(II)C"⟩
abbrev cX5_launchBar : ByteArray := prog_1_method_45_code
def yX5_launchBar : MethodName := ⟨RX5, "launchBar", "(II)C"⟩
abbrev cX5_shiftBar : ByteArray := prog_1_method_46_code
def yX5_shiftBar : MethodName := ⟨RX5, "shiftBar", "(III)C"⟩
abbrev cX5_placeBar : ByteArray := prog_1_method_47_code
def yX5_placeBar : MethodName := ⟨RX5, "placeBar", "(IIII)C"⟩
abbrev cX5_loadBar : ByteArray := prog_1_method_48_code
def yX5_loadBar : MethodName := ⟨RX5, "loadBar", "(II)C"⟩
abbrev cX5_hourBar : ByteArray := prog_1_method_49_code
def yX5_hourBar : MethodName := ⟨RX5, "hourBar", "()C"⟩
abbrev cX5_countMove : ByteArray := prog_1_method_50_code
def yX5_countMove : MethodName := ⟨RX5, "countMove", "(I)I"⟩
abbrev cX5_holds : ByteArray := prog_1_method_51_code
def yX5_holds : MethodName := ⟨RX5, "holds", "(II)Z"⟩
abbrev cX5_hasClearWay : ByteArray := prog_1_method_52_code
def yX5_hasClearWay : MethodName := ⟨RX5, "hasClearWay", "(I)Z"⟩
abbrev cX5_leastFirst : ByteArray := prog_1_method_53_code
def yX5_leastFirst : MethodName := ⟨RX5, "leastFirst", "(I)I"⟩
abbrev cX5_leastOfRounds : ByteArray := prog_1_method_54_code
def yX5_leastOfRounds : MethodName := ⟨RX5, "leastOfRounds", "(I)I"⟩
abbrev cX5_leastClear : ByteArray := prog_1_method_55_code
def yX5_leastClear : MethodName := ⟨RX5, "leastClear", "(I)I"⟩
abbrev cX5_startFromNow : ByteArray := prog_1_method_56_code
def yX5_startFromNow : MethodName := ⟨RX5, "startFromNow", "()V"⟩
abbrev cX5_isClearAt : ByteArray := prog_1_method_57_code
def yX5_isClearAt : MethodName := ⟨RX5, "isClearAt", "(II)Z"⟩
abbrev cX5_goOnFrom : ByteArray := prog_1_method_58_code
def yX5_goOnFrom : MethodName := ⟨RX5, "goOnFrom", "(I)Z"⟩
abbrev cX5_fillFrom : ByteArray := prog_1_method_59_code
def yX5_fillFrom : MethodName := ⟨RX5, "fillFrom", "(III)Z"⟩
def RX6 : String := "BoatCradleModel"
def TX6 : u_T := fun k => match k with
  | _ => ("", "", "", false)
def tyX6 : Nat → FieldType := fun k => match k with
  | _ => .int
abbrev wsX60 : List Cond := u_ws RX6 TX6 0
theorem nmX6 : ∀ a, a < 0 → ∀ b, b < 0 → a ≠ b → (TX6 a).2.1 ≠ (TX6 b).2.1 := by decide +kernel
theorem tyX6_ok : ∀ k, k < 0 → parseFieldDescriptor (TX6 k).2.2.1 = some (tyX6 k) := by decide +kernel
def RJx145de : String := "java/io/Serializable"
def TJx145de : u_T := fun k => match k with
  | _ => ("", "", "", false)
def tyJx145de : Nat → FieldType := fun k => match k with
  | _ => .int
abbrev wsJx145de0 : List Cond := u_ws RJx145de TJx145de 0
theorem nmJx145de : ∀ a, a < 0 → ∀ b, b < 0 → a ≠ b → (TJx145de a).2.1 ≠ (TJx145de b).2.1 := by decide +kernel
theorem tyJx145de_ok : ∀ k, k < 0 → parseFieldDescriptor (TJx145de k).2.2.1 = some (tyJx145de k) := by decide +kernel
def RJx00060 : String := "java/lang/ArrayIndexOutOfBoundsException"
def TJx00060 : u_T := fun k => match k with
  | 0 => ("java/lang/Throwable", "backtrace", "Ljava/lang/Object;", false)
  | 1 => ("java/lang/Throwable", "detailMessage", "Ljava/lang/String;", false)
  | 2 => ("java/lang/Throwable", "cause", "Ljava/lang/Throwable;", false)
  | 3 => ("java/lang/Throwable", "stackTrace", "[Ljava/lang/StackTraceElement;", false)
  | 4 => ("java/lang/Throwable", "depth", "I", false)
  | _ => ("java/lang/Throwable", "suppressedExceptions", "Ljava/util/List;", false)
def tyJx00060 : Nat → FieldType := fun k => match k with
  | 0 => .object "java/lang/Object"
  | 1 => .object "java/lang/String"
  | 2 => .object "java/lang/Throwable"
  | 3 => .array (.object "java/lang/StackTraceElement")
  | 4 => .int
  | _ => .object "java/util/List"
abbrev wsJx000600 : List Cond := u_ws RJx00060 TJx00060 6
theorem nmJx00060 : ∀ a, a < 6 → ∀ b, b < 6 → a ≠ b → (TJx00060 a).2.1 ≠ (TJx00060 b).2.1 := by decide +kernel
theorem tyJx00060_ok : ∀ k, k < 6 → parseFieldDescriptor (TJx00060 k).2.2.1 = some (tyJx00060 k) := by decide +kernel
abbrev cJx00060_init_a7421 : ByteArray := prog_10_method_2_code
def yJx00060_init_a7421 : MethodName := ⟨RJx00060, "<init>", "(Ljava/lang/String;)V"⟩
def RJ6 : String := "java/lang/Integer"
def TJ6 : u_T := fun k => match k with
  | _ => ("", "", "", false)
def tyJ6 : Nat → FieldType := fun k => match k with
  | _ => .int
abbrev wsJ60 : List Cond := u_ws RJ6 TJ6 0
theorem nmJ6 : ∀ a, a < 0 → ∀ b, b < 0 → a ≠ b → (TJ6 a).2.1 ≠ (TJ6 b).2.1 := by decide +kernel
theorem tyJ6_ok : ∀ k, k < 0 → parseFieldDescriptor (TJ6 k).2.2.1 = some (tyJ6 k) := by decide +kernel
abbrev cJ6_bitCount_0f7a4 : ByteArray := prog_15_method_49_code
def yJ6_bitCount_0f7a4 : MethodName := ⟨RJ6, "bitCount", "(I)I"⟩
def RJ9 : String := "java/lang/Math"
def TJ9 : u_T := fun k => match k with
  | _ => ("", "", "", false)
def tyJ9 : Nat → FieldType := fun k => match k with
  | _ => .int
abbrev wsJ90 : List Cond := u_ws RJ9 TJ9 0
theorem nmJ9 : ∀ a, a < 0 → ∀ b, b < 0 → a ≠ b → (TJ9 a).2.1 ≠ (TJ9 b).2.1 := by decide +kernel
theorem tyJ9_ok : ∀ k, k < 0 → parseFieldDescriptor (TJ9 k).2.2.1 = some (tyJ9 k) := by decide +kernel
abbrev cJ9_abs_0f7a4 : ByteArray := prog_16_method_59_code
def yJ9_abs_0f7a4 : MethodName := ⟨RJ9, "abs", "(I)I"⟩
abbrev cJ9_min_7cf53 : ByteArray := prog_16_method_69_code
def yJ9_min_7cf53 : MethodName := ⟨RJ9, "min", "(II)I"⟩
def RJ0 : String := "java/lang/String"
def TJ0 : u_T := fun k => match k with
  | 0 => ("java/lang/String", "value", "[B", true)
  | _ => ("java/lang/String", "coder", "B", true)
def tyJ0 : Nat → FieldType := fun k => match k with
  | 0 => .array .byte
  | _ => .byte
abbrev wsJ00 : List Cond := u_ws RJ0 TJ0 2
theorem nmJ0 : ∀ a, a < 2 → ∀ b, b < 2 → a ≠ b → (TJ0 a).2.1 ≠ (TJ0 b).2.1 := by decide +kernel
theorem tyJ0_ok : ∀ k, k < 2 → parseFieldDescriptor (TJ0 k).2.2.1 = some (tyJ0 k) := by decide +kernel
def RJ7 : String := "java/util/Arrays"
def TJ7 : u_T := fun k => match k with
  | _ => ("", "", "", false)
def tyJ7 : Nat → FieldType := fun k => match k with
  | _ => .int
abbrev wsJ70 : List Cond := u_ws RJ7 TJ7 0
theorem nmJ7 : ∀ a, a < 0 → ∀ b, b < 0 → a ≠ b → (TJ7 a).2.1 ≠ (TJ7 b).2.1 := by decide +kernel
theorem tyJ7_ok : ∀ k, k < 0 → parseFieldDescriptor (TJ7 k).2.2.1 = some (tyJ7 k) := by decide +kernel
abbrev cJ7_fill_53178 : ByteArray := prog_20_method_103_code
def yJ7_fill_53178 : MethodName := ⟨RJ7, "fill", "([II)V"⟩
def RL : String := "BoatCradleLaw"
abbrev cL_cell : ByteArray := method_2_code
def yL_cell : MethodName := ⟨RL, "cell", "([II)I"⟩
abbrev cL_pick : ByteArray := method_3_code
def yL_pick : MethodName := ⟨RL, "pick", "([III)I"⟩
abbrev cL_addBerth : ByteArray := method_4_code
def yL_addBerth : MethodName := ⟨RL, "addBerth", "(LBoatCradle;III)I"⟩
abbrev cL_addBoat : ByteArray := method_5_code
def yL_addBoat : MethodName := ⟨RL, "addBoat", "(LBoatCradle;IIII)I"⟩
abbrev cL_setTide : ByteArray := method_6_code
def yL_setTide : MethodName := ⟨RL, "setTide", "(LBoatCradle;III)I"⟩
abbrev cL_setCradle : ByteArray := method_7_code
def yL_setCradle : MethodName := ⟨RL, "setCradle", "(LBoatCradle;II)I"⟩
abbrev cL_tellWeather : ByteArray := method_8_code
def yL_tellWeather : MethodName := ⟨RL, "tellWeather", "(LBoatCradle;II)I"⟩
abbrev cL_level : ByteArray := method_9_code
def yL_level : MethodName := ⟨RL, "level", "(LBoatCradle;I)I"⟩
abbrev cL_isBad : ByteArray := method_10_code
def yL_isBad : MethodName := ⟨RL, "isBad", "(LBoatCradle;I)I"⟩
abbrev cL_floodHours : ByteArray := method_11_code
def yL_floodHours : MethodName := ⟨RL, "floodHours", "(LBoatCradle;II)I"⟩
abbrev cL_floodByHours : ByteArray := method_12_code
def yL_floodByHours : MethodName := ⟨RL, "floodByHours", "(LBoatCradle;II)I"⟩
abbrev cL_nextFlood : ByteArray := method_13_code
def yL_nextFlood : MethodName := ⟨RL, "nextFlood", "(LBoatCradle;I)I"⟩
abbrev cL_lift : ByteArray := method_14_code
def yL_lift : MethodName := ⟨RL, "lift", "(LBoatCradle;II)I"⟩
abbrev cL_liftReason : ByteArray := method_15_code
def yL_liftReason : MethodName := ⟨RL, "liftReason", "(LBoatCradle;II)I"⟩
abbrev cL_launch : ByteArray := method_16_code
def yL_launch : MethodName := ⟨RL, "launch", "(LBoatCradle;I)I"⟩
abbrev cL_launchReason : ByteArray := method_17_code
def yL_launchReason : MethodName := ⟨RL, "launchReason", "(LBoatCradle;I)I"⟩
abbrev cL_shift : ByteArray := method_18_code
def yL_shift : MethodName := ⟨RL, "shift", "(LBoatCradle;II)I"⟩
abbrev cL_shiftReason : ByteArray := method_19_code
def yL_shiftReason : MethodName := ⟨RL, "shiftReason", "(LBoatCradle;II)I"⟩
abbrev cL_comeBack : ByteArray := method_20_code
def yL_comeBack : MethodName := ⟨RL, "comeBack", "(LBoatCradle;I)I"⟩
abbrev cL_nextWaiting : ByteArray := method_21_code
def yL_nextWaiting : MethodName := ⟨RL, "nextWaiting", "(LBoatCradle;)I"⟩
abbrev cL_state : ByteArray := method_22_code
def yL_state : MethodName := ⟨RL, "state", "(LBoatCradle;I)I"⟩
abbrev cL_berthOf : ByteArray := method_23_code
def yL_berthOf : MethodName := ⟨RL, "berthOf", "(LBoatCradle;I)I"⟩
abbrev cL_boatIn : ByteArray := method_24_code
def yL_boatIn : MethodName := ⟨RL, "boatIn", "(LBoatCradle;I)I"⟩
abbrev cL_paint : ByteArray := method_25_code
def yL_paint : MethodName := ⟨RL, "paint", "(LBoatCradle;II)I"⟩
abbrev cL_dryLeft : ByteArray := method_26_code
def yL_dryLeft : MethodName := ⟨RL, "dryLeft", "(LBoatCradle;I)I"⟩
abbrev cL_dryAt : ByteArray := method_27_code
def yL_dryAt : MethodName := ⟨RL, "dryAt", "(LBoatCradle;I)I"⟩
abbrev cL_dryByHours : ByteArray := method_28_code
def yL_dryByHours : MethodName := ⟨RL, "dryByHours", "(LBoatCradle;I)I"⟩
abbrev cL_pass : ByteArray := method_29_code
def yL_pass : MethodName := ⟨RL, "pass", "(LBoatCradle;I)I"⟩
abbrev cL_leastShifted : ByteArray := method_30_code
def yL_leastShifted : MethodName := ⟨RL, "leastShifted", "(LBoatCradle;I)I"⟩
abbrev cL_leastByRounds : ByteArray := method_31_code
def yL_leastByRounds : MethodName := ⟨RL, "leastByRounds", "(LBoatCradle;I)I"⟩
abbrev cL_builds : ByteArray := method_32_code
def yL_builds : MethodName := ⟨RL, "builds", "(LBoatCradle;[III)Z"⟩
abbrev cL_places : ByteArray := method_33_code
def yL_places : MethodName := ⟨RL, "places", "(LBoatCradle;II)Z"⟩
abbrev cL_launches : ByteArray := method_34_code
def yL_launches : MethodName := ⟨RL, "launches", "(LBoatCradle;I)Z"⟩
abbrev cL_lifts : ByteArray := method_35_code
def yL_lifts : MethodName := ⟨RL, "lifts", "(LBoatCradle;II)Z"⟩
abbrev cL_isReason : ByteArray := method_36_code
def yL_isReason : MethodName := ⟨RL, "isReason", "(ICC)Z"⟩
abbrev cL_shifts : ByteArray := method_37_code
def yL_shifts : MethodName := ⟨RL, "shifts", "(LBoatCradle;II)Z"⟩
abbrev cL_law : ByteArray := code
def yL_law : MethodName := ⟨RL, "law", "([I)Z"⟩
def wsL_law0_r1 : List Cond := [Cond.classLink RL 15 RX5, Cond.instantiable RX5 11, Cond.initialized RX5, Cond.methodLink RL 174 yX5_init, Cond.instanceMethod yX5_init, Cond.code yX5_init cX5_init 1 none, Cond.methodLink RX5 1 objectInit, Cond.instanceMethod objectInit, Cond.code objectInit ⟨#[0xb1]⟩ 1 none, Cond.classLink RX5 7 RX3, Cond.instantiable RX3 3, Cond.initialized RX3, Cond.fieldLink RX5 10 "BoatCradle" "tide" "LBoatCradle$Tide;", Cond.classLink RX5 16 RX4, Cond.instantiable RX4 3, Cond.initialized RX4, Cond.fieldLink RX5 19 "BoatCradle" "weather" "LBoatCradle$Weather;", Cond.classLink RX5 23 RX0, Cond.instantiable RX0 5, Cond.initialized RX0, Cond.fieldLink RX5 26 "BoatCradle" "berths" "LBoatCradle$Berths;", Cond.classLink RX5 30 RX1, Cond.instantiable RX1 8, Cond.initialized RX1]
def wsL_law0_r2 : List Cond := [Cond.fieldLink RX5 33 "BoatCradle" "boats" "LBoatCradle$Boats;", Cond.classLink RX5 37 RX2, Cond.instantiable RX2 6, Cond.initialized RX2, Cond.fieldLink RX5 40 "BoatCradle" "places" "LBoatCradle$Places;", Cond.fieldLink RX5 44 "BoatCradle" "capacity" "I", Cond.fieldLink RX5 48 "BoatCradle" "clearance" "I", Cond.fieldLink RX5 51 "BoatCradle" "now" "I", Cond.fieldLink RX5 54 "BoatCradle" "hourOfMove" "I", Cond.fieldLink RX5 57 "BoatCradle" "moves" "I", Cond.fieldLink RX5 60 "BoatCradle" "weightMoved" "J", Cond.instanceMethod yX3_init, Cond.code yX3_init cX3_init 1 none, Cond.methodLink RX3 1 objectInit, Cond.fieldLink RX3 7 "BoatCradle$Tide" "base" "I", Cond.fieldLink RX3 13 "BoatCradle$Tide" "first" "I", Cond.fieldLink RX3 16 "BoatCradle$Tide" "second" "I", Cond.instanceMethod yX4_init, Cond.code yX4_init cX4_init 1 none, Cond.methodLink RX4 3 objectInit, Cond.arrayClass .int, Cond.fieldLink RX4 9 "BoatCradle$Weather" "from" "[I", Cond.fieldLink RX4 15 "BoatCradle$Weather" "to" "[I", Cond.fieldLink RX4 18 "BoatCradle$Weather" "count" "I"]
def wsL_law0_r3 : List Cond := [Cond.instanceMethod yX0_init, Cond.code yX0_init cX0_init 1 none, Cond.methodLink RX0 3 objectInit, Cond.fieldLink RX0 9 "BoatCradle$Berths" "weight" "[I", Cond.fieldLink RX0 15 "BoatCradle$Berths" "length" "[I", Cond.fieldLink RX0 18 "BoatCradle$Berths" "inFront" "[I", Cond.fieldLink RX0 21 "BoatCradle$Berths" "boat" "[I", Cond.fieldLink RX0 24 "BoatCradle$Berths" "count" "I", Cond.instanceMethod yX1_init, Cond.code yX1_init cX1_init 1 none, Cond.methodLink RX1 3 objectInit, Cond.fieldLink RX1 9 "BoatCradle$Boats" "draught" "[I", Cond.fieldLink RX1 15 "BoatCradle$Boats" "weight" "[I", Cond.fieldLink RX1 18 "BoatCradle$Boats" "length" "[I", Cond.fieldLink RX1 21 "BoatCradle$Boats" "rank" "[I", Cond.fieldLink RX1 24 "BoatCradle$Boats" "berth" "[I", Cond.fieldLink RX1 27 "BoatCradle$Boats" "left" "[I", Cond.fieldLink RX1 30 "BoatCradle$Boats" "coats" "[I", Cond.fieldLink RX1 33 "BoatCradle$Boats" "count" "I", Cond.instanceMethod yX2_init, Cond.code yX2_init cX2_init 1 none, Cond.methodLink RX2 3 objectInit, Cond.fieldLink RX2 9 "BoatCradle$Places" "code" "[I", Cond.fieldLink RX2 15 "BoatCradle$Places" "weight" "[I"]
def wsL_law0_r4 : List Cond := [Cond.fieldLink RX2 18 "BoatCradle$Places" "list" "[I", Cond.fieldLink RX2 21 "BoatCradle$Places" "listed" "I", Cond.fieldLink RX2 25 "BoatCradle$Places" "berthed" "I", Cond.fieldLink RX2 28 "BoatCradle$Places" "berths" "I", Cond.methodLink RL 116 yL_pick, Cond.static yL_pick, Cond.initialized RL, Cond.code yL_pick cL_pick 3 (some .int), Cond.methodLink RL 8 yL_cell, Cond.static yL_cell, Cond.code yL_cell cL_cell 2 (some .int), Cond.constant RL 7 (40503), Cond.methodLink RL 175 yL_builds, Cond.static yL_builds, Cond.code yL_builds cL_builds 5 (some .boolean), Cond.methodLink RL 120 yL_addBerth, Cond.static yL_addBerth, Cond.codeWith yL_addBerth cL_addBerth 5 (some .int) [(0, 7, 8, 20), (0, 7, 14, 22), (0, 7, 20, 24)], Cond.classLink RL 20 "java/lang/IndexOutOfBoundsException", Cond.classLink RL 22 "java/lang/IllegalArgumentException", Cond.classLink RL 24 "java/lang/IllegalStateException", Cond.methodLink RL 14 yX5_addBerth, Cond.instanceMethod yX5_addBerth, Cond.selects RX5 yX5_addBerth yX5_addBerth]
def wsL_law0_r5 : List Cond := [Cond.code yX5_addBerth cX5_addBerth 4 (some .int), Cond.classLink RX5 68 "java/lang/IndexOutOfBoundsException", Cond.initialized "java/lang/IndexOutOfBoundsException", Cond.classLink RX5 79 "java/lang/IllegalArgumentException", Cond.initialized "java/lang/IllegalArgumentException", Cond.classLink RX5 87 "java/lang/IllegalStateException", Cond.initialized "java/lang/IllegalStateException", Cond.fieldLink RX5 84 "BoatCradle$Berths" "count" "I", Cond.methodLink RX5 64 yX0_has, Cond.instanceMethod yX0_has, Cond.selects RX0 yX0_has yX0_has, Cond.code yX0_has cX0_has 2 (some .boolean), Cond.methodLink RX5 75 yX5_outside, Cond.static yX5_outside, Cond.code yX5_outside cX5_outside 3 (some .boolean), Cond.methodLink RX5 92 yX0_append, Cond.instanceMethod yX0_append, Cond.selects RX0 yX0_append yX0_append, Cond.code yX0_append cX0_append 5 (some .int), Cond.methodLink RX0 28 yX0_has, Cond.methodLink RL 123 yL_addBoat, Cond.static yL_addBoat, Cond.codeWith yL_addBoat cL_addBoat 6 (some .int) [(0, 9, 10, 22), (0, 9, 16, 24)], Cond.methodLink RL 26 yX5_addBoat]
def wsL_law0_r6 : List Cond := [Cond.instanceMethod yX5_addBoat, Cond.selects RX5 yX5_addBoat yX5_addBoat, Cond.code yX5_addBoat cX5_addBoat 5 (some .int), Cond.fieldLink RX5 98 "BoatCradle$Boats" "count" "I", Cond.methodLink RX5 101 yX1_append, Cond.instanceMethod yX1_append, Cond.selects RX1 yX1_append yX1_append, Cond.code yX1_append cX1_append 6 (some .int), Cond.methodLink RL 126 yL_setTide, Cond.static yL_setTide, Cond.codeWith yL_setTide cL_setTide 5 (some .int) [(0, 7, 8, 22)], Cond.methodLink RL 30 yX5_setTide, Cond.instanceMethod yX5_setTide, Cond.selects RX5 yX5_setTide yX5_setTide, Cond.code yX5_setTide cX5_setTide 4 (some .int), Cond.fieldLink RX5 104 "BoatCradle$Tide" "base" "I", Cond.fieldLink RX5 107 "BoatCradle$Tide" "first" "I", Cond.fieldLink RX5 110 "BoatCradle$Tide" "second" "I", Cond.methodLink RX5 113 yX3_levelAt, Cond.instanceMethod yX3_levelAt, Cond.selects RX3 yX3_levelAt yX3_levelAt, Cond.code yX3_levelAt cX3_levelAt 2 (some .int), Cond.methodLink RX3 19 Lib.Math.abs.name, Cond.static Lib.Math.abs.name]
def wsL_law0_r7 : List Cond := [Cond.initialized "java/lang/Math", Cond.code Lib.Math.abs.name Lib.Math.abs.code 1 (some .int), Cond.methodLink RL 128 yL_level, Cond.static yL_level, Cond.codeWith yL_level cL_level 3 (some .int) [(0, 5, 6, 22)], Cond.methodLink RL 40 yX5_level, Cond.instanceMethod yX5_level, Cond.selects RX5 yX5_level yX5_level, Cond.code yX5_level cX5_level 2 (some .int), Cond.methodLink RX5 128 yX5_checkHour, Cond.instanceMethod yX5_checkHour, Cond.selects RX5 yX5_checkHour yX5_checkHour, Cond.code yX5_checkHour cX5_checkHour 2 none, Cond.methodLink RL 131 yL_setCradle, Cond.static yL_setCradle, Cond.codeWith yL_setCradle cL_setCradle 4 (some .int) [(0, 6, 7, 22)], Cond.methodLink RL 33 yX5_setCradle, Cond.instanceMethod yX5_setCradle, Cond.selects RX5 yX5_setCradle yX5_setCradle, Cond.code yX5_setCradle cX5_setCradle 4 (some .int), Cond.methodLink RL 179 yL_lifts, Cond.static yL_lifts, Cond.code yL_lifts cL_lifts 7 (some .boolean), Cond.methodLink RL 162 yL_liftReason]
def wsL_law0_r8 : List Cond := [Cond.static yL_liftReason, Cond.codeWith yL_liftReason cL_liftReason 4 (some .int) [(0, 6, 7, 20)], Cond.methodLink RL 62 yX5_liftReason, Cond.instanceMethod yX5_liftReason, Cond.selects RX5 yX5_liftReason yX5_liftReason, Cond.code yX5_liftReason cX5_liftReason 3 (some .char), Cond.methodLink RX5 154 yX5_checkBoatAndBerth, Cond.instanceMethod yX5_checkBoatAndBerth, Cond.selects RX5 yX5_checkBoatAndBerth yX5_checkBoatAndBerth, Cond.code yX5_checkBoatAndBerth cX5_checkBoatAndBerth 3 none, Cond.methodLink RX5 142 yX5_checkBoat, Cond.instanceMethod yX5_checkBoat, Cond.selects RX5 yX5_checkBoat yX5_checkBoat, Cond.code yX5_checkBoat cX5_checkBoat 2 none, Cond.methodLink RX5 193 yX1_has, Cond.instanceMethod yX1_has, Cond.selects RX1 yX1_has yX1_has, Cond.code yX1_has cX1_has 2 (some .boolean), Cond.methodLink RX5 198 yX5_checkBerth, Cond.instanceMethod yX5_checkBerth, Cond.selects RX5 yX5_checkBerth yX5_checkBerth, Cond.code yX5_checkBerth cX5_checkBerth 2 none, Cond.methodLink RX5 157 yX5_liftBar, Cond.instanceMethod yX5_liftBar]
def wsL_law0_r9 : List Cond := [Cond.selects RX5 yX5_liftBar yX5_liftBar, Cond.code yX5_liftBar cX5_liftBar 5 (some .char), Cond.fieldLink RX5 163 "BoatCradle$Boats" "berth" "[I", Cond.fieldLink RX5 264 "BoatCradle$Berths" "inFront" "[I", Cond.methodLink RX5 241 yX0_occupied, Cond.instanceMethod yX0_occupied, Cond.selects RX0 yX0_occupied yX0_occupied, Cond.code yX0_occupied cX0_occupied 3 (some .int), Cond.methodLink RX5 261 yX5_holds, Cond.static yX5_holds, Cond.code yX5_holds cX5_holds 2 (some .boolean), Cond.methodLink RX5 267 yX5_loadBar, Cond.instanceMethod yX5_loadBar, Cond.selects RX5 yX5_loadBar yX5_loadBar, Cond.code yX5_loadBar cX5_loadBar 3 (some .char), Cond.fieldLink RX5 274 "BoatCradle$Boats" "weight" "[I", Cond.fieldLink RX5 281 "BoatCradle$Berths" "weight" "[I", Cond.fieldLink RX5 282 "BoatCradle$Boats" "length" "[I", Cond.fieldLink RX5 285 "BoatCradle$Berths" "length" "[I", Cond.methodLink RX5 145 yX5_enoughWater, Cond.instanceMethod yX5_enoughWater, Cond.selects RX5 yX5_enoughWater yX5_enoughWater, Cond.code yX5_enoughWater cX5_enoughWater 3 (some .boolean), Cond.fieldLink RX5 258 "BoatCradle$Boats" "draught" "[I"]
def wsL_law0_r10 : List Cond := [Cond.methodLink RX5 270 yX5_hourBar, Cond.instanceMethod yX5_hourBar, Cond.selects RX5 yX5_hourBar yX5_hourBar, Cond.code yX5_hourBar cX5_hourBar 1 (some .char), Cond.methodLink RX5 132 yX4_badAt, Cond.instanceMethod yX4_badAt, Cond.selects RX4 yX4_badAt yX4_badAt, Cond.code yX4_badAt cX4_badAt 3 (some .boolean), Cond.methodLink RL 134 yL_state, Cond.static yL_state, Cond.codeWith yL_state cL_state 3 (some .int) [(0, 5, 6, 20)], Cond.methodLink RL 86 yX5_state, Cond.instanceMethod yX5_state, Cond.selects RX5 yX5_state yX5_state, Cond.code yX5_state cX5_state 2 (some .char), Cond.methodLink RL 138 yL_boatIn, Cond.static yL_boatIn, Cond.codeWith yL_boatIn cL_boatIn 3 (some .int) [(0, 5, 6, 20), (0, 5, 11, 57)], Cond.classLink RL 57 "java/util/NoSuchElementException", Cond.methodLink RL 92 yX5_boatIn, Cond.instanceMethod yX5_boatIn, Cond.selects RX5 yX5_boatIn yX5_boatIn, Cond.code yX5_boatIn cX5_boatIn 2 (some .int), Cond.classLink RX5 149 "java/util/NoSuchElementException"]
def wsL_law0_r11 : List Cond := [Cond.initialized "java/util/NoSuchElementException", Cond.fieldLink RX5 167 "BoatCradle$Berths" "boat" "[I", Cond.methodLink RL 164 yL_lift, Cond.static yL_lift, Cond.codeWith yL_lift cL_lift 4 (some .int) [(0, 6, 7, 20), (0, 6, 12, 24)], Cond.methodLink RL 59 yX5_lift, Cond.instanceMethod yX5_lift, Cond.selects RX5 yX5_lift yX5_lift, Cond.code yX5_lift cX5_lift 3 (some .int), Cond.methodLink RX5 170 yX5_countMove, Cond.instanceMethod yX5_countMove, Cond.selects RX5 yX5_countMove yX5_countMove, Cond.code yX5_countMove cX5_countMove 2 (some .int), Cond.methodLink RL 136 yL_berthOf, Cond.static yL_berthOf, Cond.codeWith yL_berthOf cL_berthOf 3 (some .int) [(0, 5, 6, 20), (0, 5, 11, 57)], Cond.methodLink RL 89 yX5_berthOf, Cond.instanceMethod yX5_berthOf, Cond.selects RX5 yX5_berthOf yX5_berthOf, Cond.code yX5_berthOf cX5_berthOf 2 (some .int), Cond.methodLink RL 140 yL_dryLeft, Cond.static yL_dryLeft, Cond.codeWith yL_dryLeft cL_dryLeft 3 (some .int) [(0, 5, 6, 20)], Cond.methodLink RL 98 yX5_dryLeft]
def wsL_law0_r12 : List Cond := [Cond.instanceMethod yX5_dryLeft, Cond.selects RX5 yX5_dryLeft yX5_dryLeft, Cond.code yX5_dryLeft cX5_dryLeft 2 (some .int), Cond.fieldLink RX5 205 "BoatCradle$Boats" "left" "[I", Cond.methodLink RL 149 yL_leastShifted, Cond.static yL_leastShifted, Cond.codeWith yL_leastShifted cL_leastShifted 3 (some .int) [(0, 5, 6, 20), (0, 5, 11, 24), (0, 5, 16, 57)], Cond.methodLink RL 110 yX5_leastShifted, Cond.instanceMethod yX5_leastShifted, Cond.selects RX5 yX5_leastShifted yX5_leastShifted, Cond.code yX5_leastShifted cX5_leastShifted 3 (some .int), Cond.methodLink RX5 222 yX5_checkBoatInBerth, Cond.instanceMethod yX5_checkBoatInBerth, Cond.selects RX5 yX5_checkBoatInBerth yX5_checkBoatInBerth, Cond.code yX5_checkBoatInBerth cX5_checkBoatInBerth 2 none, Cond.methodLink RX5 225 yX5_hasClearWay, Cond.instanceMethod yX5_hasClearWay, Cond.selects RX5 yX5_hasClearWay yX5_hasClearWay, Cond.code yX5_hasClearWay cX5_hasClearWay 3 (some .boolean), Cond.methodLink RX5 228 yX5_leastFirst, Cond.instanceMethod yX5_leastFirst, Cond.selects RX5 yX5_leastFirst yX5_leastFirst, Cond.code yX5_leastFirst cX5_leastFirst 4 (some .int), Cond.fieldLink RX5 289 "BoatCradle$Places" "listed" "I"]
def wsL_law0_r13 : List Cond := [Cond.fieldLink RX5 298 "BoatCradle$Places" "weight" "[I", Cond.methodLink RX5 286 yX5_startFromNow, Cond.instanceMethod yX5_startFromNow, Cond.selects RX5 yX5_startFromNow yX5_startFromNow, Cond.code yX5_startFromNow cX5_startFromNow 5 none, Cond.methodLink RX5 308 yX2_put, Cond.static yX2_put, Cond.code yX2_put cX2_put 3 (some .int), Cond.methodLink RX5 311 yX2_clear, Cond.instanceMethod yX2_clear, Cond.selects RX2 yX2_clear yX2_clear, Cond.code yX2_clear cX2_clear 3 none, Cond.constant RX2 31 (1000000), Cond.methodLink RX2 32 yJ7_fill_53178, Cond.static yJ7_fill_53178, Cond.initialized RJ7, Cond.code yJ7_fill_53178 cJ7_fill_53178 4 none, Cond.methodLink RX5 314 yX2_reach, Cond.instanceMethod yX2_reach, Cond.selects RX2 yX2_reach yX2_reach, Cond.code yX2_reach cX2_reach 4 (some .boolean), Cond.methodLink RX2 52 yX2_numberOf, Cond.instanceMethod yX2_numberOf, Cond.selects RX2 yX2_numberOf yX2_numberOf]
def wsL_law0_r14 : List Cond := [Cond.code yX2_numberOf cX2_numberOf 8 (some .int), Cond.methodLink RX2 42 yX2_berthAt, Cond.static yX2_berthAt, Cond.code yX2_berthAt cX2_berthAt 2 (some .int), Cond.methodLink RX2 46 yJ6_bitCount_0f7a4, Cond.static yJ6_bitCount_0f7a4, Cond.initialized RJ6, Cond.code yJ6_bitCount_0f7a4 cJ6_bitCount_0f7a4 1 (some .int), Cond.constant RJ6 265 (1431655765), Cond.constant RJ6 266 (858993459), Cond.constant RJ6 267 (252645135), Cond.methodLink RX5 292 yX2_takeLeast, Cond.instanceMethod yX2_takeLeast, Cond.selects RX2 yX2_takeLeast yX2_takeLeast, Cond.code yX2_takeLeast cX2_takeLeast 3 (some .int), Cond.methodLink RX5 295 yX5_isClearAt, Cond.instanceMethod yX5_isClearAt, Cond.selects RX5 yX5_isClearAt yX5_isClearAt, Cond.code yX5_isClearAt cX5_isClearAt 5 (some .boolean), Cond.fieldLink RX5 317 "BoatCradle$Places" "code" "[I", Cond.methodLink RX5 320 yX2_berthAt, Cond.methodLink RX5 323 yX2_occupiedAt, Cond.instanceMethod yX2_occupiedAt, Cond.selects RX2 yX2_occupiedAt yX2_occupiedAt]
def wsL_law0_r15 : List Cond := [Cond.code yX2_occupiedAt cX2_occupiedAt 4 (some .int), Cond.methodLink RX5 299 yX5_goOnFrom, Cond.instanceMethod yX5_goOnFrom, Cond.selects RX5 yX5_goOnFrom yX5_goOnFrom, Cond.code yX5_goOnFrom cX5_goOnFrom 5 (some .boolean), Cond.methodLink RX5 326 yX5_fillFrom, Cond.instanceMethod yX5_fillFrom, Cond.selects RX5 yX5_fillFrom yX5_fillFrom, Cond.code yX5_fillFrom cX5_fillFrom 9 (some .boolean), Cond.fieldLink RX5 329 "BoatCradle$Places" "berthed" "I", Cond.methodLink RX5 277 yX5_placeBar, Cond.instanceMethod yX5_placeBar, Cond.selects RX5 yX5_placeBar yX5_placeBar, Cond.code yX5_placeBar cX5_placeBar 6 (some .char), Cond.methodLink RL 155 yL_launch, Cond.static yL_launch, Cond.codeWith yL_launch cL_launch 3 (some .int) [(0, 5, 6, 20), (0, 5, 11, 24)], Cond.methodLink RL 66 yX5_launch, Cond.instanceMethod yX5_launch, Cond.selects RX5 yX5_launch yX5_launch, Cond.code yX5_launch cX5_launch 3 (some .int), Cond.methodLink RX5 173 yX5_launchBar, Cond.instanceMethod yX5_launchBar, Cond.selects RX5 yX5_launchBar yX5_launchBar]
def wsL_law0_r16 : List Cond := [Cond.code yX5_launchBar cX5_launchBar 3 (some .char), Cond.methodLink RL 153 yL_launchReason, Cond.static yL_launchReason, Cond.codeWith yL_launchReason cL_launchReason 3 (some .int) [(0, 5, 6, 20)], Cond.methodLink RL 69 yX5_launchReason, Cond.instanceMethod yX5_launchReason, Cond.selects RX5 yX5_launchReason yX5_launchReason, Cond.code yX5_launchReason cX5_launchReason 3 (some .char), Cond.methodLink RL 166 yL_isReason, Cond.static yL_isReason, Cond.code yL_isReason cL_isReason 3 (some .boolean), Cond.methodLink RL 183 yL_pass, Cond.static yL_pass, Cond.codeWith yL_pass cL_pass 3 (some .int) [(0, 5, 6, 22)], Cond.methodLink RL 107 yX5_pass, Cond.instanceMethod yX5_pass, Cond.selects RX5 yX5_pass yX5_pass, Cond.code yX5_pass cX5_pass 3 (some .int), Cond.methodLink RX5 219 yX1_dryOneHour, Cond.instanceMethod yX1_dryOneHour, Cond.selects RX1 yX1_dryOneHour yX1_dryOneHour, Cond.code yX1_dryOneHour cX1_dryOneHour 2 none, Cond.methodLink RL 185 yL_launches, Cond.static yL_launches]
def wsL_law0_r17 : List Cond := [Cond.code yL_launches cL_launches 5 (some .boolean), Cond.methodLink RL 157 yL_comeBack, Cond.static yL_comeBack, Cond.codeWith yL_comeBack cL_comeBack 3 (some .int) [(0, 5, 6, 20), (0, 5, 11, 24)], Cond.methodLink RL 79 yX5_comeBack, Cond.instanceMethod yX5_comeBack, Cond.selects RX5 yX5_comeBack yX5_comeBack, Cond.code yX5_comeBack cX5_comeBack 2 (some .int), Cond.methodLink RX5 186 yX1_countWaiting, Cond.instanceMethod yX1_countWaiting, Cond.selects RX1 yX1_countWaiting yX1_countWaiting, Cond.code yX1_countWaiting cX1_countWaiting 3 (some .int), Cond.methodLink RL 159 yL_nextWaiting, Cond.static yL_nextWaiting, Cond.codeWith yL_nextWaiting cL_nextWaiting 2 (some .int) [(0, 4, 5, 57)], Cond.methodLink RL 82 yX5_nextWaiting, Cond.instanceMethod yX5_nextWaiting, Cond.selects RX5 yX5_nextWaiting yX5_nextWaiting, Cond.code yX5_nextWaiting cX5_nextWaiting 2 (some .int), Cond.methodLink RX5 190 yX1_firstInLine, Cond.instanceMethod yX1_firstInLine, Cond.selects RX1 yX1_firstInLine yX1_firstInLine, Cond.code yX1_firstInLine cX1_firstInLine 3 (some .int), Cond.methodLink RX1 37 yX1_has]
def wsL_law0_r18 : List Cond := [Cond.methodLink RX1 41 yX1_goesBefore, Cond.instanceMethod yX1_goesBefore, Cond.selects RX1 yX1_goesBefore yX1_goesBefore, Cond.code yX1_goesBefore cX1_goesBefore 3 (some .boolean), Cond.methodLink RL 189 yL_shifts, Cond.static yL_shifts, Cond.code yL_shifts cL_shifts 7 (some .boolean), Cond.methodLink RL 170 yL_shiftReason, Cond.static yL_shiftReason, Cond.codeWith yL_shiftReason cL_shiftReason 4 (some .int) [(0, 6, 7, 20)], Cond.methodLink RL 76 yX5_shiftReason, Cond.instanceMethod yX5_shiftReason, Cond.selects RX5 yX5_shiftReason yX5_shiftReason, Cond.code yX5_shiftReason cX5_shiftReason 4 (some .char), Cond.methodLink RX5 178 yX5_shiftBar, Cond.instanceMethod yX5_shiftBar, Cond.selects RX5 yX5_shiftBar yX5_shiftBar, Cond.code yX5_shiftBar cX5_shiftBar 5 (some .char), Cond.methodLink RL 172 yL_shift, Cond.static yL_shift, Cond.codeWith yL_shift cL_shift 4 (some .int) [(0, 6, 7, 20), (0, 6, 12, 24)], Cond.methodLink RL 73 yX5_shift, Cond.instanceMethod yX5_shift, Cond.selects RX5 yX5_shift yX5_shift]
def wsL_law0_r19 : List Cond := [Cond.code yX5_shift cX5_shift 4 (some .int), Cond.methodLink RL 146 yX5_time, Cond.instanceMethod yX5_time, Cond.selects RX5 yX5_time yX5_time, Cond.code yX5_time cX5_time 1 (some .int), Cond.methodLink RL 192 yL_paint, Cond.static yL_paint, Cond.codeWith yL_paint cL_paint 4 (some .int) [(0, 6, 7, 20), (0, 6, 12, 22), (0, 6, 17, 24)], Cond.methodLink RL 95 yX5_paint, Cond.instanceMethod yX5_paint, Cond.selects RX5 yX5_paint yX5_paint, Cond.code yX5_paint cX5_paint 3 (some .int), Cond.fieldLink RX5 210 "BoatCradle$Boats" "coats" "[I", Cond.methodLink RL 194 yL_tellWeather, Cond.static yL_tellWeather, Cond.codeWith yL_tellWeather cL_tellWeather 4 (some .int) [(0, 6, 7, 22), (0, 6, 12, 24)], Cond.methodLink RL 37 yX5_tellWeather, Cond.instanceMethod yX5_tellWeather, Cond.selects RX5 yX5_tellWeather yX5_tellWeather, Cond.code yX5_tellWeather cX5_tellWeather 3 (some .int), Cond.fieldLink RX5 119 "BoatCradle$Weather" "count" "I", Cond.methodLink RX5 122 yX4_append, Cond.instanceMethod yX4_append, Cond.selects RX4 yX4_append yX4_append]
def wsL_law0_r20 : List Cond := [Cond.code yX4_append cX4_append 3 (some .int), Cond.methodLink RL 196 yL_isBad, Cond.static yL_isBad, Cond.codeWith yL_isBad cL_isBad 3 (some .int) [(0, 13, 14, 22)], Cond.methodLink RL 44 yX5_isBad, Cond.instanceMethod yX5_isBad, Cond.selects RX5 yX5_isBad yX5_isBad, Cond.code yX5_isBad cX5_isBad 2 (some .boolean), Cond.methodLink RL 198 yL_nextFlood, Cond.static yL_nextFlood, Cond.codeWith yL_nextFlood cL_nextFlood 3 (some .int) [(0, 5, 6, 20), (0, 5, 11, 57)], Cond.methodLink RL 54 yX5_nextFlood, Cond.instanceMethod yX5_nextFlood, Cond.selects RX5 yX5_nextFlood yX5_nextFlood, Cond.code yX5_nextFlood cX5_nextFlood 4 (some .int), Cond.methodLink RL 200 yL_floodHours, Cond.static yL_floodHours, Cond.codeWith yL_floodHours cL_floodHours 4 (some .int) [(0, 6, 7, 20), (0, 6, 12, 22)], Cond.methodLink RL 48 yX5_floodHours, Cond.instanceMethod yX5_floodHours, Cond.selects RX5 yX5_floodHours yX5_floodHours, Cond.code yX5_floodHours cX5_floodHours 5 (some .int), Cond.methodLink RX5 135 yX5_checkFlood, Cond.instanceMethod yX5_checkFlood]
def wsL_law0_r21 : List Cond := [Cond.selects RX5 yX5_checkFlood yX5_checkFlood, Cond.code yX5_checkFlood cX5_checkFlood 3 none, Cond.methodLink RX5 139 yX5_countFlood, Cond.instanceMethod yX5_countFlood, Cond.selects RX5 yX5_countFlood yX5_countFlood, Cond.code yX5_countFlood cX5_countFlood 5 (some .int), Cond.methodLink RL 202 yL_floodByHours, Cond.static yL_floodByHours, Cond.codeWith yL_floodByHours cL_floodByHours 4 (some .int) [(0, 6, 7, 20), (0, 6, 12, 22)], Cond.methodLink RL 51 yX5_floodByHours, Cond.instanceMethod yX5_floodByHours, Cond.selects RX5 yX5_floodByHours yX5_floodByHours, Cond.code yX5_floodByHours cX5_floodByHours 3 (some .int), Cond.methodLink RL 204 yL_places, Cond.static yL_places, Cond.code yL_places cL_places 8 (some .boolean), Cond.methodLink RL 142 yL_dryAt, Cond.static yL_dryAt, Cond.codeWith yL_dryAt cL_dryAt 3 (some .int) [(0, 5, 6, 20)], Cond.methodLink RL 101 yX5_dryAt, Cond.instanceMethod yX5_dryAt, Cond.selects RX5 yX5_dryAt yX5_dryAt, Cond.code yX5_dryAt cX5_dryAt 2 (some .int), Cond.methodLink RX5 213 yX4_dryBySpans]
def wsL_law0_r22 : List Cond := [Cond.instanceMethod yX4_dryBySpans, Cond.selects RX4 yX4_dryBySpans yX4_dryBySpans, Cond.code yX4_dryBySpans cX4_dryBySpans 7 (some .int), Cond.methodLink RX4 29 Lib.Math.min.name, Cond.static Lib.Math.min.name, Cond.code Lib.Math.min.name Lib.Math.min.code 2 (some .int), Cond.methodLink RX4 22 yX4_nextGood, Cond.instanceMethod yX4_nextGood, Cond.selects RX4 yX4_nextGood yX4_nextGood, Cond.code yX4_nextGood cX4_nextGood 5 (some .int), Cond.methodLink RX4 26 yX4_nextStart, Cond.instanceMethod yX4_nextStart, Cond.selects RX4 yX4_nextStart yX4_nextStart, Cond.code yX4_nextStart cX4_nextStart 4 (some .int), Cond.constant RX4 35 (1000000), Cond.methodLink RL 144 yL_dryByHours, Cond.static yL_dryByHours, Cond.codeWith yL_dryByHours cL_dryByHours 3 (some .int) [(0, 5, 6, 20)], Cond.methodLink RL 104 yX5_dryByHours, Cond.instanceMethod yX5_dryByHours, Cond.selects RX5 yX5_dryByHours yX5_dryByHours, Cond.code yX5_dryByHours cX5_dryByHours 2 (some .int), Cond.methodLink RX5 216 yX4_dryHourByHour, Cond.instanceMethod yX4_dryHourByHour]
def wsL_law0_r23 : List Cond := [Cond.selects RX4 yX4_dryHourByHour yX4_dryHourByHour, Cond.code yX4_dryHourByHour cX4_dryHourByHour 6 (some .int), Cond.methodLink RX4 36 yX4_badAt, Cond.methodLink RL 151 yL_leastByRounds, Cond.static yL_leastByRounds, Cond.codeWith yL_leastByRounds cL_leastByRounds 3 (some .int) [(0, 5, 6, 20), (0, 5, 11, 24), (0, 5, 16, 57)], Cond.methodLink RL 113 yX5_leastByRounds, Cond.instanceMethod yX5_leastByRounds, Cond.selects RX5 yX5_leastByRounds yX5_leastByRounds, Cond.code yX5_leastByRounds cX5_leastByRounds 3 (some .int), Cond.methodLink RX5 233 yX5_leastOfRounds, Cond.instanceMethod yX5_leastOfRounds, Cond.selects RX5 yX5_leastOfRounds yX5_leastOfRounds, Cond.code yX5_leastOfRounds cX5_leastOfRounds 5 (some .int), Cond.fieldLink RX5 302 "BoatCradle$Places" "list" "[I", Cond.methodLink RX5 305 yX5_leastClear, Cond.instanceMethod yX5_leastClear, Cond.selects RX5 yX5_leastClear yX5_leastClear, Cond.code yX5_leastClear cX5_leastClear 5 (some .int), Cond.methodLink RL 207 yX5_forgetWeather, Cond.instanceMethod yX5_forgetWeather, Cond.selects RX5 yX5_forgetWeather yX5_forgetWeather, Cond.code yX5_forgetWeather cX5_forgetWeather 1 (some .int), Cond.methodLink RX5 125 yX4_keepFrom]
def wsL_law0_r24 : List Cond := [Cond.instanceMethod yX4_keepFrom, Cond.selects RX4 yX4_keepFrom yX4_keepFrom, Cond.code yX4_keepFrom cX4_keepFrom 4 (some .int), Cond.methodLink RL 210 yX5_movedWeight, Cond.instanceMethod yX5_movedWeight, Cond.selects RX5 yX5_movedWeight yX5_movedWeight, Cond.code yX5_movedWeight cX5_movedWeight 1 (some .long)]
def wsL_law0 : List Cond := (wsL_law0_r1 ++ (wsL_law0_r2 ++ (wsL_law0_r3 ++ (wsL_law0_r4 ++ (wsL_law0_r5 ++ (wsL_law0_r6 ++ (wsL_law0_r7 ++ (wsL_law0_r8 ++ (wsL_law0_r9 ++ (wsL_law0_r10 ++ (wsL_law0_r11 ++ (wsL_law0_r12 ++ (wsL_law0_r13 ++ (wsL_law0_r14 ++ (wsL_law0_r15 ++ (wsL_law0_r16 ++ (wsL_law0_r17 ++ (wsL_law0_r18 ++ (wsL_law0_r19 ++ (wsL_law0_r20 ++ (wsL_law0_r21 ++ (wsL_law0_r22 ++ (wsL_law0_r23 ++ wsL_law0_r24))))))))))))))))))))))) ++ wsX50 ++ wsX30 ++ wsX40 ++ wsX00 ++ wsX10 ++ wsX20 ++ ([] : List Cond)
abbrev vwCl : List vw_C := [(RJ0, TJ0, 2), (RJx00060, TJx00060, 6), (RX0, TX0, 5), (RX1, TX1, 8), (RX2, TX2, 6), (RX3, TX3, 3), (RX4, TX4, 3), (RX5, TX5, 11)]
theorem tb1 : ∀ w ∈ tables_1_1, w ∈ lw_tbl := fun w h => List.mem_append_right _ (show w ∈ tables_1 from List.mem_append_left _ (h))
theorem tb2 : ∀ w ∈ tables_1_2, w ∈ lw_tbl := fun w h => List.mem_append_right _ (show w ∈ tables_1 from List.mem_append_right _ (List.mem_append_left _ (h)))
theorem tb3 : ∀ w ∈ tables_1_3, w ∈ lw_tbl := fun w h => List.mem_append_right _ (show w ∈ tables_1 from List.mem_append_right _ (List.mem_append_right _ (List.mem_append_left _ (h))))
theorem tb4 : ∀ w ∈ tables_1_4, w ∈ lw_tbl := fun w h => List.mem_append_right _ (show w ∈ tables_1 from List.mem_append_right _ (List.mem_append_right _ (List.mem_append_right _ (h))))
theorem ts1 : ∀ w ∈ k2_sels lw_privs_1, w ∈ lw_tbl := fun w h => List.mem_append_left _ (show w ∈ k2_sels lw_privs from (show w ∈ k2_sels (lw_privs_1 ++ lw_privs_2) from by simp only [k2_sels, List.map_append]; exact List.mem_append_left _ (h)))
theorem ts2 : ∀ w ∈ k2_sels lw_privs_2, w ∈ lw_tbl := fun w h => List.mem_append_left _ (show w ∈ k2_sels lw_privs from (show w ∈ k2_sels (lw_privs_1 ++ lw_privs_2) from by simp only [k2_sels, List.map_append]; exact List.mem_append_right _ (h)))
def WA : List Cond := wsL_law0 ++ (vx_atM "java/lang/ArrayIndexOutOfBoundsException" ["java/lang/IndexOutOfBoundsException", "java/lang/RuntimeException", "java/lang/Exception"]).filter goodWord ++ (vx_atS RX5 72 "java/lang/IndexOutOfBoundsException" ["java/lang/RuntimeException", "java/lang/Exception"]).filter goodWord ++ (vx_atS RX5 83 "java/lang/IllegalArgumentException" ["java/lang/RuntimeException", "java/lang/Exception"]).filter goodWord ++ (vx_atS RX5 91 "java/lang/IllegalStateException" ["java/lang/RuntimeException", "java/lang/Exception"]).filter goodWord ++ (zn_atS RX5 153 "java/util/NoSuchElementException" "java/lang/RuntimeException" 13 prog_21_method_4_code ["java/lang/Exception"]).filter goodWord
theorem wr1 : ∀ w ∈ wsL_law0_r1, w ∈ WA := fun w h => List.mem_append_left _ (List.mem_append_left _ (List.mem_append_left _ (List.mem_append_left _ (List.mem_append_left _ (List.mem_append_left _ (List.mem_append_left _ (List.mem_append_left _ (List.mem_append_left _ (List.mem_append_left _ (List.mem_append_left _ (List.mem_append_left _ (List.mem_append_left _ (h)))))))))))))
theorem wr2 : ∀ w ∈ wsL_law0_r2, w ∈ WA := fun w h => List.mem_append_left _ (List.mem_append_left _ (List.mem_append_left _ (List.mem_append_left _ (List.mem_append_left _ (List.mem_append_left _ (List.mem_append_left _ (List.mem_append_left _ (List.mem_append_left _ (List.mem_append_left _ (List.mem_append_left _ (List.mem_append_left _ (List.mem_append_right _ (List.mem_append_left _ (h))))))))))))))
theorem wr3 : ∀ w ∈ wsL_law0_r3, w ∈ WA := fun w h => List.mem_append_left _ (List.mem_append_left _ (List.mem_append_left _ (List.mem_append_left _ (List.mem_append_left _ (List.mem_append_left _ (List.mem_append_left _ (List.mem_append_left _ (List.mem_append_left _ (List.mem_append_left _ (List.mem_append_left _ (List.mem_append_left _ (List.mem_append_right _ (List.mem_append_right _ (List.mem_append_left _ (h)))))))))))))))
theorem wr4 : ∀ w ∈ wsL_law0_r4, w ∈ WA := fun w h => List.mem_append_left _ (List.mem_append_left _ (List.mem_append_left _ (List.mem_append_left _ (List.mem_append_left _ (List.mem_append_left _ (List.mem_append_left _ (List.mem_append_left _ (List.mem_append_left _ (List.mem_append_left _ (List.mem_append_left _ (List.mem_append_left _ (List.mem_append_right _ (List.mem_append_right _ (List.mem_append_right _ (List.mem_append_left _ (h))))))))))))))))
theorem wr5 : ∀ w ∈ wsL_law0_r5, w ∈ WA := fun w h => List.mem_append_left _ (List.mem_append_left _ (List.mem_append_left _ (List.mem_append_left _ (List.mem_append_left _ (List.mem_append_left _ (List.mem_append_left _ (List.mem_append_left _ (List.mem_append_left _ (List.mem_append_left _ (List.mem_append_left _ (List.mem_append_left _ (List.mem_append_right _ (List.mem_append_right _ (List.mem_append_right _ (List.mem_append_right _ (List.mem_append_left _ (h)))))))))))))))))
theorem wr6 : ∀ w ∈ wsL_law0_r6, w ∈ WA := fun w h => List.mem_append_left _ (List.mem_append_left _ (List.mem_append_left _ (List.mem_append_left _ (List.mem_append_left _ (List.mem_append_left _ (List.mem_append_left _ (List.mem_append_left _ (List.mem_append_left _ (List.mem_append_left _ (List.mem_append_left _ (List.mem_append_left _ (List.mem_append_right _ (List.mem_append_right _ (List.mem_append_right _ (List.mem_append_right _ (List.mem_append_right _ (List.mem_append_left _ (h))))))))))))))))))
theorem wr7 : ∀ w ∈ wsL_law0_r7, w ∈ WA := fun w h => List.mem_append_left _ (List.mem_append_left _ (List.mem_append_left _ (List.mem_append_left _ (List.mem_append_left _ (List.mem_append_left _ (List.mem_append_left _ (List.mem_append_left _ (List.mem_append_left _ (List.mem_append_left _ (List.mem_append_left _ (List.mem_append_left _ (List.mem_append_right _ (List.mem_append_right _ (List.mem_append_right _ (List.mem_append_right _ (List.mem_append_right _ (List.mem_append_right _ (List.mem_append_left _ (h)))))))))))))))))))
theorem wr8 : ∀ w ∈ wsL_law0_r8, w ∈ WA := fun w h => List.mem_append_left _ (List.mem_append_left _ (List.mem_append_left _ (List.mem_append_left _ (List.mem_append_left _ (List.mem_append_left _ (List.mem_append_left _ (List.mem_append_left _ (List.mem_append_left _ (List.mem_append_left _ (List.mem_append_left _ (List.mem_append_left _ (List.mem_append_right _ (List.mem_append_right _ (List.mem_append_right _ (List.mem_append_right _ (List.mem_append_right _ (List.mem_append_right _ (List.mem_append_right _ (List.mem_append_left _ (h))))))))))))))))))))
theorem wr9 : ∀ w ∈ wsL_law0_r9, w ∈ WA := fun w h => List.mem_append_left _ (List.mem_append_left _ (List.mem_append_left _ (List.mem_append_left _ (List.mem_append_left _ (List.mem_append_left _ (List.mem_append_left _ (List.mem_append_left _ (List.mem_append_left _ (List.mem_append_left _ (List.mem_append_left _ (List.mem_append_left _ (List.mem_append_right _ (List.mem_append_right _ (List.mem_append_right _ (List.mem_append_right _ (List.mem_append_right _ (List.mem_append_right _ (List.mem_append_right _ (List.mem_append_right _ (List.mem_append_left _ (h)))))))))))))))))))))
theorem wr10 : ∀ w ∈ wsL_law0_r10, w ∈ WA := fun w h => List.mem_append_left _ (List.mem_append_left _ (List.mem_append_left _ (List.mem_append_left _ (List.mem_append_left _ (List.mem_append_left _ (List.mem_append_left _ (List.mem_append_left _ (List.mem_append_left _ (List.mem_append_left _ (List.mem_append_left _ (List.mem_append_left _ (List.mem_append_right _ (List.mem_append_right _ (List.mem_append_right _ (List.mem_append_right _ (List.mem_append_right _ (List.mem_append_right _ (List.mem_append_right _ (List.mem_append_right _ (List.mem_append_right _ (List.mem_append_left _ (h))))))))))))))))))))))
theorem wr11 : ∀ w ∈ wsL_law0_r11, w ∈ WA := fun w h => List.mem_append_left _ (List.mem_append_left _ (List.mem_append_left _ (List.mem_append_left _ (List.mem_append_left _ (List.mem_append_left _ (List.mem_append_left _ (List.mem_append_left _ (List.mem_append_left _ (List.mem_append_left _ (List.mem_append_left _ (List.mem_append_left _ (List.mem_append_right _ (List.mem_append_right _ (List.mem_append_right _ (List.mem_append_right _ (List.mem_append_right _ (List.mem_append_right _ (List.mem_append_right _ (List.mem_append_right _ (List.mem_append_right _ (List.mem_append_right _ (List.mem_append_left _ (h)))))))))))))))))))))))
theorem wr12 : ∀ w ∈ wsL_law0_r12, w ∈ WA := fun w h => List.mem_append_left _ (List.mem_append_left _ (List.mem_append_left _ (List.mem_append_left _ (List.mem_append_left _ (List.mem_append_left _ (List.mem_append_left _ (List.mem_append_left _ (List.mem_append_left _ (List.mem_append_left _ (List.mem_append_left _ (List.mem_append_left _ (List.mem_append_right _ (List.mem_append_right _ (List.mem_append_right _ (List.mem_append_right _ (List.mem_append_right _ (List.mem_append_right _ (List.mem_append_right _ (List.mem_append_right _ (List.mem_append_right _ (List.mem_append_right _ (List.mem_append_right _ (List.mem_append_left _ (h))))))))))))))))))))))))
theorem wr13 : ∀ w ∈ wsL_law0_r13, w ∈ WA := fun w h => List.mem_append_left _ (List.mem_append_left _ (List.mem_append_left _ (List.mem_append_left _ (List.mem_append_left _ (List.mem_append_left _ (List.mem_append_left _ (List.mem_append_left _ (List.mem_append_left _ (List.mem_append_left _ (List.mem_append_left _ (List.mem_append_left _ (List.mem_append_right _ (List.mem_append_right _ (List.mem_append_right _ (List.mem_append_right _ (List.mem_append_right _ (List.mem_append_right _ (List.mem_append_right _ (List.mem_append_right _ (List.mem_append_right _ (List.mem_append_right _ (List.mem_append_right _ (List.mem_append_right _ (List.mem_append_left _ (h)))))))))))))))))))))))))
theorem wr14 : ∀ w ∈ wsL_law0_r14, w ∈ WA := fun w h => List.mem_append_left _ (List.mem_append_left _ (List.mem_append_left _ (List.mem_append_left _ (List.mem_append_left _ (List.mem_append_left _ (List.mem_append_left _ (List.mem_append_left _ (List.mem_append_left _ (List.mem_append_left _ (List.mem_append_left _ (List.mem_append_left _ (List.mem_append_right _ (List.mem_append_right _ (List.mem_append_right _ (List.mem_append_right _ (List.mem_append_right _ (List.mem_append_right _ (List.mem_append_right _ (List.mem_append_right _ (List.mem_append_right _ (List.mem_append_right _ (List.mem_append_right _ (List.mem_append_right _ (List.mem_append_right _ (List.mem_append_left _ (h))))))))))))))))))))))))))
theorem wr15 : ∀ w ∈ wsL_law0_r15, w ∈ WA := fun w h => List.mem_append_left _ (List.mem_append_left _ (List.mem_append_left _ (List.mem_append_left _ (List.mem_append_left _ (List.mem_append_left _ (List.mem_append_left _ (List.mem_append_left _ (List.mem_append_left _ (List.mem_append_left _ (List.mem_append_left _ (List.mem_append_left _ (List.mem_append_right _ (List.mem_append_right _ (List.mem_append_right _ (List.mem_append_right _ (List.mem_append_right _ (List.mem_append_right _ (List.mem_append_right _ (List.mem_append_right _ (List.mem_append_right _ (List.mem_append_right _ (List.mem_append_right _ (List.mem_append_right _ (List.mem_append_right _ (List.mem_append_right _ (List.mem_append_left _ (h)))))))))))))))))))))))))))
theorem wr16 : ∀ w ∈ wsL_law0_r16, w ∈ WA := fun w h => List.mem_append_left _ (List.mem_append_left _ (List.mem_append_left _ (List.mem_append_left _ (List.mem_append_left _ (List.mem_append_left _ (List.mem_append_left _ (List.mem_append_left _ (List.mem_append_left _ (List.mem_append_left _ (List.mem_append_left _ (List.mem_append_left _ (List.mem_append_right _ (List.mem_append_right _ (List.mem_append_right _ (List.mem_append_right _ (List.mem_append_right _ (List.mem_append_right _ (List.mem_append_right _ (List.mem_append_right _ (List.mem_append_right _ (List.mem_append_right _ (List.mem_append_right _ (List.mem_append_right _ (List.mem_append_right _ (List.mem_append_right _ (List.mem_append_right _ (List.mem_append_left _ (h))))))))))))))))))))))))))))
theorem wr17 : ∀ w ∈ wsL_law0_r17, w ∈ WA := fun w h => List.mem_append_left _ (List.mem_append_left _ (List.mem_append_left _ (List.mem_append_left _ (List.mem_append_left _ (List.mem_append_left _ (List.mem_append_left _ (List.mem_append_left _ (List.mem_append_left _ (List.mem_append_left _ (List.mem_append_left _ (List.mem_append_left _ (List.mem_append_right _ (List.mem_append_right _ (List.mem_append_right _ (List.mem_append_right _ (List.mem_append_right _ (List.mem_append_right _ (List.mem_append_right _ (List.mem_append_right _ (List.mem_append_right _ (List.mem_append_right _ (List.mem_append_right _ (List.mem_append_right _ (List.mem_append_right _ (List.mem_append_right _ (List.mem_append_right _ (List.mem_append_right _ (List.mem_append_left _ (h)))))))))))))))))))))))))))))
theorem wr18 : ∀ w ∈ wsL_law0_r18, w ∈ WA := fun w h => List.mem_append_left _ (List.mem_append_left _ (List.mem_append_left _ (List.mem_append_left _ (List.mem_append_left _ (List.mem_append_left _ (List.mem_append_left _ (List.mem_append_left _ (List.mem_append_left _ (List.mem_append_left _ (List.mem_append_left _ (List.mem_append_left _ (List.mem_append_right _ (List.mem_append_right _ (List.mem_append_right _ (List.mem_append_right _ (List.mem_append_right _ (List.mem_append_right _ (List.mem_append_right _ (List.mem_append_right _ (List.mem_append_right _ (List.mem_append_right _ (List.mem_append_right _ (List.mem_append_right _ (List.mem_append_right _ (List.mem_append_right _ (List.mem_append_right _ (List.mem_append_right _ (List.mem_append_right _ (List.mem_append_left _ (h))))))))))))))))))))))))))))))
theorem wr19 : ∀ w ∈ wsL_law0_r19, w ∈ WA := fun w h => List.mem_append_left _ (List.mem_append_left _ (List.mem_append_left _ (List.mem_append_left _ (List.mem_append_left _ (List.mem_append_left _ (List.mem_append_left _ (List.mem_append_left _ (List.mem_append_left _ (List.mem_append_left _ (List.mem_append_left _ (List.mem_append_left _ (List.mem_append_right _ (List.mem_append_right _ (List.mem_append_right _ (List.mem_append_right _ (List.mem_append_right _ (List.mem_append_right _ (List.mem_append_right _ (List.mem_append_right _ (List.mem_append_right _ (List.mem_append_right _ (List.mem_append_right _ (List.mem_append_right _ (List.mem_append_right _ (List.mem_append_right _ (List.mem_append_right _ (List.mem_append_right _ (List.mem_append_right _ (List.mem_append_right _ (List.mem_append_left _ (h)))))))))))))))))))))))))))))))
theorem wr20 : ∀ w ∈ wsL_law0_r20, w ∈ WA := fun w h => List.mem_append_left _ (List.mem_append_left _ (List.mem_append_left _ (List.mem_append_left _ (List.mem_append_left _ (List.mem_append_left _ (List.mem_append_left _ (List.mem_append_left _ (List.mem_append_left _ (List.mem_append_left _ (List.mem_append_left _ (List.mem_append_left _ (List.mem_append_right _ (List.mem_append_right _ (List.mem_append_right _ (List.mem_append_right _ (List.mem_append_right _ (List.mem_append_right _ (List.mem_append_right _ (List.mem_append_right _ (List.mem_append_right _ (List.mem_append_right _ (List.mem_append_right _ (List.mem_append_right _ (List.mem_append_right _ (List.mem_append_right _ (List.mem_append_right _ (List.mem_append_right _ (List.mem_append_right _ (List.mem_append_right _ (List.mem_append_right _ (List.mem_append_left _ (h))))))))))))))))))))))))))))))))
theorem wr21 : ∀ w ∈ wsL_law0_r21, w ∈ WA := fun w h => List.mem_append_left _ (List.mem_append_left _ (List.mem_append_left _ (List.mem_append_left _ (List.mem_append_left _ (List.mem_append_left _ (List.mem_append_left _ (List.mem_append_left _ (List.mem_append_left _ (List.mem_append_left _ (List.mem_append_left _ (List.mem_append_left _ (List.mem_append_right _ (List.mem_append_right _ (List.mem_append_right _ (List.mem_append_right _ (List.mem_append_right _ (List.mem_append_right _ (List.mem_append_right _ (List.mem_append_right _ (List.mem_append_right _ (List.mem_append_right _ (List.mem_append_right _ (List.mem_append_right _ (List.mem_append_right _ (List.mem_append_right _ (List.mem_append_right _ (List.mem_append_right _ (List.mem_append_right _ (List.mem_append_right _ (List.mem_append_right _ (List.mem_append_right _ (List.mem_append_left _ (h)))))))))))))))))))))))))))))))))
theorem wr22 : ∀ w ∈ wsL_law0_r22, w ∈ WA := fun w h => List.mem_append_left _ (List.mem_append_left _ (List.mem_append_left _ (List.mem_append_left _ (List.mem_append_left _ (List.mem_append_left _ (List.mem_append_left _ (List.mem_append_left _ (List.mem_append_left _ (List.mem_append_left _ (List.mem_append_left _ (List.mem_append_left _ (List.mem_append_right _ (List.mem_append_right _ (List.mem_append_right _ (List.mem_append_right _ (List.mem_append_right _ (List.mem_append_right _ (List.mem_append_right _ (List.mem_append_right _ (List.mem_append_right _ (List.mem_append_right _ (List.mem_append_right _ (List.mem_append_right _ (List.mem_append_right _ (List.mem_append_right _ (List.mem_append_right _ (List.mem_append_right _ (List.mem_append_right _ (List.mem_append_right _ (List.mem_append_right _ (List.mem_append_right _ (List.mem_append_right _ (List.mem_append_left _ (h))))))))))))))))))))))))))))))))))
theorem wr23 : ∀ w ∈ wsL_law0_r23, w ∈ WA := fun w h => List.mem_append_left _ (List.mem_append_left _ (List.mem_append_left _ (List.mem_append_left _ (List.mem_append_left _ (List.mem_append_left _ (List.mem_append_left _ (List.mem_append_left _ (List.mem_append_left _ (List.mem_append_left _ (List.mem_append_left _ (List.mem_append_left _ (List.mem_append_right _ (List.mem_append_right _ (List.mem_append_right _ (List.mem_append_right _ (List.mem_append_right _ (List.mem_append_right _ (List.mem_append_right _ (List.mem_append_right _ (List.mem_append_right _ (List.mem_append_right _ (List.mem_append_right _ (List.mem_append_right _ (List.mem_append_right _ (List.mem_append_right _ (List.mem_append_right _ (List.mem_append_right _ (List.mem_append_right _ (List.mem_append_right _ (List.mem_append_right _ (List.mem_append_right _ (List.mem_append_right _ (List.mem_append_right _ (List.mem_append_left _ (h)))))))))))))))))))))))))))))))))))
theorem wr24 : ∀ w ∈ wsL_law0_r24, w ∈ WA := fun w h => List.mem_append_left _ (List.mem_append_left _ (List.mem_append_left _ (List.mem_append_left _ (List.mem_append_left _ (List.mem_append_left _ (List.mem_append_left _ (List.mem_append_left _ (List.mem_append_left _ (List.mem_append_left _ (List.mem_append_left _ (List.mem_append_left _ (List.mem_append_right _ (List.mem_append_right _ (List.mem_append_right _ (List.mem_append_right _ (List.mem_append_right _ (List.mem_append_right _ (List.mem_append_right _ (List.mem_append_right _ (List.mem_append_right _ (List.mem_append_right _ (List.mem_append_right _ (List.mem_append_right _ (List.mem_append_right _ (List.mem_append_right _ (List.mem_append_right _ (List.mem_append_right _ (List.mem_append_right _ (List.mem_append_right _ (List.mem_append_right _ (List.mem_append_right _ (List.mem_append_right _ (List.mem_append_right _ (List.mem_append_right _ (h)))))))))))))))))))))))))))))))))))
theorem wd_1_0 : Cond.classLink RL 15 RX5 ∈ WA := wr1 _ (List.mem_of_getElem? (i := 0) rfl)
theorem wt_1_0 : Cond.classLink RL 15 RX5 ∈ lw_tbl := tb1 _ (List.mem_of_getElem? (i := 19) rfl)
theorem wd_1_1 : Cond.instantiable RX5 11 ∈ WA := wr1 _ (List.mem_of_getElem? (i := 1) rfl)
theorem wt_1_1 : Cond.instantiable RX5 11 ∈ lw_tbl := tb1 _ (List.mem_of_getElem? (i := 20) rfl)
theorem wd_1_2 : Cond.initialized RX5 ∈ WA := wr1 _ (List.mem_of_getElem? (i := 2) rfl)
theorem wt_1_2 : Cond.initialized RX5 ∈ lw_tbl := tb1 _ (List.mem_of_getElem? (i := 1) rfl)
theorem wd_1_3 : Cond.methodLink RL 174 yX5_init ∈ WA := wr1 _ (List.mem_of_getElem? (i := 3) rfl)
theorem wt_1_3 : Cond.methodLink RL 174 yX5_init ∈ lw_tbl := tb1 _ (List.mem_of_getElem? (i := 21) rfl)
theorem wd_1_4 : Cond.instanceMethod yX5_init ∈ WA := wr1 _ (List.mem_of_getElem? (i := 4) rfl)
theorem wt_1_4 : Cond.instanceMethod yX5_init ∈ lw_tbl := tb1 _ (List.mem_of_getElem? (i := 22) rfl)
theorem wd_1_5 : Cond.code yX5_init cX5_init 1 none ∈ WA := wr1 _ (List.mem_of_getElem? (i := 5) rfl)
theorem wt_1_5 : Cond.code yX5_init cX5_init 1 none ∈ lw_tbl := tb1 _ (List.mem_of_getElem? (i := 23) rfl)
theorem wd_1_6 : Cond.methodLink RX5 1 objectInit ∈ WA := wr1 _ (List.mem_of_getElem? (i := 6) rfl)
theorem wt_1_6 : Cond.methodLink RX5 1 objectInit ∈ lw_tbl := tb1 _ (List.mem_of_getElem? (i := 24) rfl)
theorem wd_1_7 : Cond.instanceMethod objectInit ∈ WA := wr1 _ (List.mem_of_getElem? (i := 7) rfl)
theorem wt_1_7 : Cond.instanceMethod objectInit ∈ lw_tbl := tb1 _ (List.mem_of_getElem? (i := 25) rfl)
theorem wd_1_8 : Cond.code objectInit ⟨#[0xb1]⟩ 1 none ∈ WA := wr1 _ (List.mem_of_getElem? (i := 8) rfl)
theorem wt_1_8 : Cond.code objectInit ⟨#[0xb1]⟩ 1 none ∈ lw_tbl := tb1 _ (List.mem_of_getElem? (i := 26) rfl)
theorem wd_1_9 : Cond.classLink RX5 7 RX3 ∈ WA := wr1 _ (List.mem_of_getElem? (i := 9) rfl)
theorem wt_1_9 : Cond.classLink RX5 7 RX3 ∈ lw_tbl := tb1 _ (List.mem_of_getElem? (i := 27) rfl)
theorem wd_1_10 : Cond.instantiable RX3 3 ∈ WA := wr1 _ (List.mem_of_getElem? (i := 10) rfl)
theorem wt_1_10 : Cond.instantiable RX3 3 ∈ lw_tbl := tb1 _ (List.mem_of_getElem? (i := 28) rfl)
theorem wd_1_11 : Cond.initialized RX3 ∈ WA := wr1 _ (List.mem_of_getElem? (i := 11) rfl)
theorem wt_1_11 : Cond.initialized RX3 ∈ lw_tbl := tb1 _ (List.mem_of_getElem? (i := 2) rfl)
theorem wd_1_12 : Cond.fieldLink RX5 10 "BoatCradle" "tide" "LBoatCradle$Tide;" ∈ WA := wr1 _ (List.mem_of_getElem? (i := 12) rfl)
theorem wt_1_12 : Cond.fieldLink RX5 10 "BoatCradle" "tide" "LBoatCradle$Tide;" ∈ lw_tbl := tb1 _ (List.mem_of_getElem? (i := 159) rfl)
theorem wd_1_13 : Cond.classLink RX5 16 RX4 ∈ WA := wr1 _ (List.mem_of_getElem? (i := 13) rfl)
theorem wt_1_13 : Cond.classLink RX5 16 RX4 ∈ lw_tbl := tb1 _ (List.mem_of_getElem? (i := 46) rfl)
theorem wd_1_14 : Cond.instantiable RX4 3 ∈ WA := wr1 _ (List.mem_of_getElem? (i := 14) rfl)
theorem wt_1_14 : Cond.instantiable RX4 3 ∈ lw_tbl := tb1 _ (List.mem_of_getElem? (i := 47) rfl)
theorem wd_1_15 : Cond.initialized RX4 ∈ WA := wr1 _ (List.mem_of_getElem? (i := 15) rfl)
theorem wt_1_15 : Cond.initialized RX4 ∈ lw_tbl := tb1 _ (List.mem_of_getElem? (i := 3) rfl)
theorem wd_1_16 : Cond.fieldLink RX5 19 "BoatCradle" "weather" "LBoatCradle$Weather;" ∈ WA := wr1 _ (List.mem_of_getElem? (i := 16) rfl)
theorem wt_1_16 : Cond.fieldLink RX5 19 "BoatCradle" "weather" "LBoatCradle$Weather;" ∈ lw_tbl := tb1 _ (List.mem_of_getElem? (i := 160) rfl)
theorem wd_1_17 : Cond.classLink RX5 23 RX0 ∈ WA := wr1 _ (List.mem_of_getElem? (i := 17) rfl)
theorem wt_1_17 : Cond.classLink RX5 23 RX0 ∈ lw_tbl := tb1 _ (List.mem_of_getElem? (i := 64) rfl)
theorem wd_1_18 : Cond.instantiable RX0 5 ∈ WA := wr1 _ (List.mem_of_getElem? (i := 18) rfl)
theorem wt_1_18 : Cond.instantiable RX0 5 ∈ lw_tbl := tb1 _ (List.mem_of_getElem? (i := 65) rfl)
theorem wd_1_19 : Cond.initialized RX0 ∈ WA := wr1 _ (List.mem_of_getElem? (i := 19) rfl)
theorem wt_1_19 : Cond.initialized RX0 ∈ lw_tbl := tb1 _ (List.mem_of_getElem? (i := 4) rfl)
theorem wd_1_20 : Cond.fieldLink RX5 26 "BoatCradle" "berths" "LBoatCradle$Berths;" ∈ WA := wr1 _ (List.mem_of_getElem? (i := 20) rfl)
theorem wt_1_20 : Cond.fieldLink RX5 26 "BoatCradle" "berths" "LBoatCradle$Berths;" ∈ lw_tbl := tb1 _ (List.mem_of_getElem? (i := 161) rfl)
theorem wd_1_21 : Cond.classLink RX5 30 RX1 ∈ WA := wr1 _ (List.mem_of_getElem? (i := 21) rfl)
theorem wt_1_21 : Cond.classLink RX5 30 RX1 ∈ lw_tbl := tb1 _ (List.mem_of_getElem? (i := 91) rfl)
theorem wd_1_22 : Cond.instantiable RX1 8 ∈ WA := wr1 _ (List.mem_of_getElem? (i := 22) rfl)
theorem wt_1_22 : Cond.instantiable RX1 8 ∈ lw_tbl := tb1 _ (List.mem_of_getElem? (i := 92) rfl)
theorem wd_1_23 : Cond.initialized RX1 ∈ WA := wr1 _ (List.mem_of_getElem? (i := 23) rfl)
theorem wt_1_23 : Cond.initialized RX1 ∈ lw_tbl := tb1 _ (List.mem_of_getElem? (i := 5) rfl)
theorem wc1 : ∀ w ∈ wsL_law0_r1, w ∈ lw_tbl := List.forall_mem_cons.mpr ⟨wt_1_0, List.forall_mem_cons.mpr ⟨wt_1_1, List.forall_mem_cons.mpr ⟨wt_1_2, List.forall_mem_cons.mpr ⟨wt_1_3, List.forall_mem_cons.mpr ⟨wt_1_4, List.forall_mem_cons.mpr ⟨wt_1_5, List.forall_mem_cons.mpr ⟨wt_1_6, List.forall_mem_cons.mpr ⟨wt_1_7, List.forall_mem_cons.mpr ⟨wt_1_8, List.forall_mem_cons.mpr ⟨wt_1_9, List.forall_mem_cons.mpr ⟨wt_1_10, List.forall_mem_cons.mpr ⟨wt_1_11, List.forall_mem_cons.mpr ⟨wt_1_12, List.forall_mem_cons.mpr ⟨wt_1_13, List.forall_mem_cons.mpr ⟨wt_1_14, List.forall_mem_cons.mpr ⟨wt_1_15, List.forall_mem_cons.mpr ⟨wt_1_16, List.forall_mem_cons.mpr ⟨wt_1_17, List.forall_mem_cons.mpr ⟨wt_1_18, List.forall_mem_cons.mpr ⟨wt_1_19, List.forall_mem_cons.mpr ⟨wt_1_20, List.forall_mem_cons.mpr ⟨wt_1_21, List.forall_mem_cons.mpr ⟨wt_1_22, List.forall_mem_cons.mpr ⟨wt_1_23, fun _ h => absurd h List.not_mem_nil⟩⟩⟩⟩⟩⟩⟩⟩⟩⟩⟩⟩⟩⟩⟩⟩⟩⟩⟩⟩⟩⟩⟩⟩
theorem wg1 : wsL_law0_r1.all goodWord = true := by decide +kernel
theorem wd_2_0 : Cond.fieldLink RX5 33 "BoatCradle" "boats" "LBoatCradle$Boats;" ∈ WA := wr2 _ (List.mem_of_getElem? (i := 0) rfl)
theorem wt_2_0 : Cond.fieldLink RX5 33 "BoatCradle" "boats" "LBoatCradle$Boats;" ∈ lw_tbl := tb1 _ (List.mem_of_getElem? (i := 162) rfl)
theorem wd_2_1 : Cond.classLink RX5 37 RX2 ∈ WA := wr2 _ (List.mem_of_getElem? (i := 1) rfl)
theorem wt_2_1 : Cond.classLink RX5 37 RX2 ∈ lw_tbl := tb1 _ (List.mem_of_getElem? (i := 129) rfl)
theorem wd_2_2 : Cond.instantiable RX2 6 ∈ WA := wr2 _ (List.mem_of_getElem? (i := 2) rfl)
theorem wt_2_2 : Cond.instantiable RX2 6 ∈ lw_tbl := tb1 _ (List.mem_of_getElem? (i := 130) rfl)
theorem wd_2_3 : Cond.initialized RX2 ∈ WA := wr2 _ (List.mem_of_getElem? (i := 3) rfl)
theorem wt_2_3 : Cond.initialized RX2 ∈ lw_tbl := tb1 _ (List.mem_of_getElem? (i := 6) rfl)
theorem wd_2_4 : Cond.fieldLink RX5 40 "BoatCradle" "places" "LBoatCradle$Places;" ∈ WA := wr2 _ (List.mem_of_getElem? (i := 4) rfl)
theorem wt_2_4 : Cond.fieldLink RX5 40 "BoatCradle" "places" "LBoatCradle$Places;" ∈ lw_tbl := tb1 _ (List.mem_of_getElem? (i := 163) rfl)
theorem wd_2_5 : Cond.fieldLink RX5 44 "BoatCradle" "capacity" "I" ∈ WA := wr2 _ (List.mem_of_getElem? (i := 5) rfl)
theorem wt_2_5 : Cond.fieldLink RX5 44 "BoatCradle" "capacity" "I" ∈ lw_tbl := tb1 _ (List.mem_of_getElem? (i := 164) rfl)
theorem wd_2_6 : Cond.fieldLink RX5 48 "BoatCradle" "clearance" "I" ∈ WA := wr2 _ (List.mem_of_getElem? (i := 6) rfl)
theorem wt_2_6 : Cond.fieldLink RX5 48 "BoatCradle" "clearance" "I" ∈ lw_tbl := tb1 _ (List.mem_of_getElem? (i := 165) rfl)
theorem wd_2_7 : Cond.fieldLink RX5 51 "BoatCradle" "now" "I" ∈ WA := wr2 _ (List.mem_of_getElem? (i := 7) rfl)
theorem wt_2_7 : Cond.fieldLink RX5 51 "BoatCradle" "now" "I" ∈ lw_tbl := tb1 _ (List.mem_of_getElem? (i := 166) rfl)
theorem wd_2_8 : Cond.fieldLink RX5 54 "BoatCradle" "hourOfMove" "I" ∈ WA := wr2 _ (List.mem_of_getElem? (i := 8) rfl)
theorem wt_2_8 : Cond.fieldLink RX5 54 "BoatCradle" "hourOfMove" "I" ∈ lw_tbl := tb1 _ (List.mem_of_getElem? (i := 167) rfl)
theorem wd_2_9 : Cond.fieldLink RX5 57 "BoatCradle" "moves" "I" ∈ WA := wr2 _ (List.mem_of_getElem? (i := 9) rfl)
theorem wt_2_9 : Cond.fieldLink RX5 57 "BoatCradle" "moves" "I" ∈ lw_tbl := tb1 _ (List.mem_of_getElem? (i := 168) rfl)
theorem wd_2_10 : Cond.fieldLink RX5 60 "BoatCradle" "weightMoved" "J" ∈ WA := wr2 _ (List.mem_of_getElem? (i := 10) rfl)
theorem wt_2_10 : Cond.fieldLink RX5 60 "BoatCradle" "weightMoved" "J" ∈ lw_tbl := tb1 _ (List.mem_of_getElem? (i := 169) rfl)
theorem wd_2_11 : Cond.instanceMethod yX3_init ∈ WA := wr2 _ (List.mem_of_getElem? (i := 11) rfl)
theorem wt_2_11 : Cond.instanceMethod yX3_init ∈ lw_tbl := tb1 _ (List.mem_of_getElem? (i := 30) rfl)
theorem wd_2_12 : Cond.code yX3_init cX3_init 1 none ∈ WA := wr2 _ (List.mem_of_getElem? (i := 12) rfl)
theorem wt_2_12 : Cond.code yX3_init cX3_init 1 none ∈ lw_tbl := tb1 _ (List.mem_of_getElem? (i := 31) rfl)
theorem wd_2_13 : Cond.methodLink RX3 1 objectInit ∈ WA := wr2 _ (List.mem_of_getElem? (i := 13) rfl)
theorem wt_2_13 : Cond.methodLink RX3 1 objectInit ∈ lw_tbl := tb1 _ (List.mem_of_getElem? (i := 32) rfl)
theorem wd_2_14 : Cond.fieldLink RX3 7 "BoatCradle$Tide" "base" "I" ∈ WA := wr2 _ (List.mem_of_getElem? (i := 14) rfl)
theorem wt_2_14 : Cond.fieldLink RX3 7 "BoatCradle$Tide" "base" "I" ∈ lw_tbl := tb1 _ (List.mem_of_getElem? (i := 33) rfl)
theorem wd_2_15 : Cond.fieldLink RX3 13 "BoatCradle$Tide" "first" "I" ∈ WA := wr2 _ (List.mem_of_getElem? (i := 15) rfl)
theorem wt_2_15 : Cond.fieldLink RX3 13 "BoatCradle$Tide" "first" "I" ∈ lw_tbl := tb1 _ (List.mem_of_getElem? (i := 35) rfl)
theorem wd_2_16 : Cond.fieldLink RX3 16 "BoatCradle$Tide" "second" "I" ∈ WA := wr2 _ (List.mem_of_getElem? (i := 16) rfl)
theorem wt_2_16 : Cond.fieldLink RX3 16 "BoatCradle$Tide" "second" "I" ∈ lw_tbl := tb1 _ (List.mem_of_getElem? (i := 37) rfl)
theorem wd_2_17 : Cond.instanceMethod yX4_init ∈ WA := wr2 _ (List.mem_of_getElem? (i := 17) rfl)
theorem wt_2_17 : Cond.instanceMethod yX4_init ∈ lw_tbl := tb1 _ (List.mem_of_getElem? (i := 49) rfl)
theorem wd_2_18 : Cond.code yX4_init cX4_init 1 none ∈ WA := wr2 _ (List.mem_of_getElem? (i := 18) rfl)
theorem wt_2_18 : Cond.code yX4_init cX4_init 1 none ∈ lw_tbl := tb1 _ (List.mem_of_getElem? (i := 50) rfl)
theorem wd_2_19 : Cond.methodLink RX4 3 objectInit ∈ WA := wr2 _ (List.mem_of_getElem? (i := 19) rfl)
theorem wt_2_19 : Cond.methodLink RX4 3 objectInit ∈ lw_tbl := tb1 _ (List.mem_of_getElem? (i := 51) rfl)
theorem wd_2_20 : Cond.arrayClass .int ∈ WA := wr2 _ (List.mem_of_getElem? (i := 20) rfl)
theorem wt_2_20 : Cond.arrayClass .int ∈ lw_tbl := tb1 _ (List.mem_of_getElem? (i := 63) rfl)
theorem wd_2_21 : Cond.fieldLink RX4 9 "BoatCradle$Weather" "from" "[I" ∈ WA := wr2 _ (List.mem_of_getElem? (i := 21) rfl)
theorem wt_2_21 : Cond.fieldLink RX4 9 "BoatCradle$Weather" "from" "[I" ∈ lw_tbl := tb1 _ (List.mem_of_getElem? (i := 52) rfl)
theorem wd_2_22 : Cond.fieldLink RX4 15 "BoatCradle$Weather" "to" "[I" ∈ WA := wr2 _ (List.mem_of_getElem? (i := 22) rfl)
theorem wt_2_22 : Cond.fieldLink RX4 15 "BoatCradle$Weather" "to" "[I" ∈ lw_tbl := tb1 _ (List.mem_of_getElem? (i := 53) rfl)
theorem wd_2_23 : Cond.fieldLink RX4 18 "BoatCradle$Weather" "count" "I" ∈ WA := wr2 _ (List.mem_of_getElem? (i := 23) rfl)
theorem wt_2_23 : Cond.fieldLink RX4 18 "BoatCradle$Weather" "count" "I" ∈ lw_tbl := tb1 _ (List.mem_of_getElem? (i := 54) rfl)
theorem wc2 : ∀ w ∈ wsL_law0_r2, w ∈ lw_tbl := List.forall_mem_cons.mpr ⟨wt_2_0, List.forall_mem_cons.mpr ⟨wt_2_1, List.forall_mem_cons.mpr ⟨wt_2_2, List.forall_mem_cons.mpr ⟨wt_2_3, List.forall_mem_cons.mpr ⟨wt_2_4, List.forall_mem_cons.mpr ⟨wt_2_5, List.forall_mem_cons.mpr ⟨wt_2_6, List.forall_mem_cons.mpr ⟨wt_2_7, List.forall_mem_cons.mpr ⟨wt_2_8, List.forall_mem_cons.mpr ⟨wt_2_9, List.forall_mem_cons.mpr ⟨wt_2_10, List.forall_mem_cons.mpr ⟨wt_2_11, List.forall_mem_cons.mpr ⟨wt_2_12, List.forall_mem_cons.mpr ⟨wt_2_13, List.forall_mem_cons.mpr ⟨wt_2_14, List.forall_mem_cons.mpr ⟨wt_2_15, List.forall_mem_cons.mpr ⟨wt_2_16, List.forall_mem_cons.mpr ⟨wt_2_17, List.forall_mem_cons.mpr ⟨wt_2_18, List.forall_mem_cons.mpr ⟨wt_2_19, List.forall_mem_cons.mpr ⟨wt_2_20, List.forall_mem_cons.mpr ⟨wt_2_21, List.forall_mem_cons.mpr ⟨wt_2_22, List.forall_mem_cons.mpr ⟨wt_2_23, fun _ h => absurd h List.not_mem_nil⟩⟩⟩⟩⟩⟩⟩⟩⟩⟩⟩⟩⟩⟩⟩⟩⟩⟩⟩⟩⟩⟩⟩⟩
theorem wg2 : wsL_law0_r2.all goodWord = true := by decide +kernel
theorem wd_3_0 : Cond.instanceMethod yX0_init ∈ WA := wr3 _ (List.mem_of_getElem? (i := 0) rfl)
theorem wt_3_0 : Cond.instanceMethod yX0_init ∈ lw_tbl := tb1 _ (List.mem_of_getElem? (i := 67) rfl)
theorem wd_3_1 : Cond.code yX0_init cX0_init 1 none ∈ WA := wr3 _ (List.mem_of_getElem? (i := 1) rfl)
theorem wt_3_1 : Cond.code yX0_init cX0_init 1 none ∈ lw_tbl := tb1 _ (List.mem_of_getElem? (i := 68) rfl)
theorem wd_3_2 : Cond.methodLink RX0 3 objectInit ∈ WA := wr3 _ (List.mem_of_getElem? (i := 2) rfl)
theorem wt_3_2 : Cond.methodLink RX0 3 objectInit ∈ lw_tbl := tb1 _ (List.mem_of_getElem? (i := 69) rfl)
theorem wd_3_3 : Cond.fieldLink RX0 9 "BoatCradle$Berths" "weight" "[I" ∈ WA := wr3 _ (List.mem_of_getElem? (i := 3) rfl)
theorem wt_3_3 : Cond.fieldLink RX0 9 "BoatCradle$Berths" "weight" "[I" ∈ lw_tbl := tb1 _ (List.mem_of_getElem? (i := 70) rfl)
theorem wd_3_4 : Cond.fieldLink RX0 15 "BoatCradle$Berths" "length" "[I" ∈ WA := wr3 _ (List.mem_of_getElem? (i := 4) rfl)
theorem wt_3_4 : Cond.fieldLink RX0 15 "BoatCradle$Berths" "length" "[I" ∈ lw_tbl := tb1 _ (List.mem_of_getElem? (i := 72) rfl)
theorem wd_3_5 : Cond.fieldLink RX0 18 "BoatCradle$Berths" "inFront" "[I" ∈ WA := wr3 _ (List.mem_of_getElem? (i := 5) rfl)
theorem wt_3_5 : Cond.fieldLink RX0 18 "BoatCradle$Berths" "inFront" "[I" ∈ lw_tbl := tb1 _ (List.mem_of_getElem? (i := 74) rfl)
theorem wd_3_6 : Cond.fieldLink RX0 21 "BoatCradle$Berths" "boat" "[I" ∈ WA := wr3 _ (List.mem_of_getElem? (i := 6) rfl)
theorem wt_3_6 : Cond.fieldLink RX0 21 "BoatCradle$Berths" "boat" "[I" ∈ lw_tbl := tb1 _ (List.mem_of_getElem? (i := 76) rfl)
theorem wd_3_7 : Cond.fieldLink RX0 24 "BoatCradle$Berths" "count" "I" ∈ WA := wr3 _ (List.mem_of_getElem? (i := 7) rfl)
theorem wt_3_7 : Cond.fieldLink RX0 24 "BoatCradle$Berths" "count" "I" ∈ lw_tbl := tb1 _ (List.mem_of_getElem? (i := 78) rfl)
theorem wd_3_8 : Cond.instanceMethod yX1_init ∈ WA := wr3 _ (List.mem_of_getElem? (i := 8) rfl)
theorem wt_3_8 : Cond.instanceMethod yX1_init ∈ lw_tbl := tb1 _ (List.mem_of_getElem? (i := 94) rfl)
theorem wd_3_9 : Cond.code yX1_init cX1_init 1 none ∈ WA := wr3 _ (List.mem_of_getElem? (i := 9) rfl)
theorem wt_3_9 : Cond.code yX1_init cX1_init 1 none ∈ lw_tbl := tb1 _ (List.mem_of_getElem? (i := 95) rfl)
theorem wd_3_10 : Cond.methodLink RX1 3 objectInit ∈ WA := wr3 _ (List.mem_of_getElem? (i := 10) rfl)
theorem wt_3_10 : Cond.methodLink RX1 3 objectInit ∈ lw_tbl := tb1 _ (List.mem_of_getElem? (i := 96) rfl)
theorem wd_3_11 : Cond.fieldLink RX1 9 "BoatCradle$Boats" "draught" "[I" ∈ WA := wr3 _ (List.mem_of_getElem? (i := 11) rfl)
theorem wt_3_11 : Cond.fieldLink RX1 9 "BoatCradle$Boats" "draught" "[I" ∈ lw_tbl := tb1 _ (List.mem_of_getElem? (i := 97) rfl)
theorem wd_3_12 : Cond.fieldLink RX1 15 "BoatCradle$Boats" "weight" "[I" ∈ WA := wr3 _ (List.mem_of_getElem? (i := 12) rfl)
theorem wt_3_12 : Cond.fieldLink RX1 15 "BoatCradle$Boats" "weight" "[I" ∈ lw_tbl := tb1 _ (List.mem_of_getElem? (i := 99) rfl)
theorem wd_3_13 : Cond.fieldLink RX1 18 "BoatCradle$Boats" "length" "[I" ∈ WA := wr3 _ (List.mem_of_getElem? (i := 13) rfl)
theorem wt_3_13 : Cond.fieldLink RX1 18 "BoatCradle$Boats" "length" "[I" ∈ lw_tbl := tb1 _ (List.mem_of_getElem? (i := 101) rfl)
theorem wd_3_14 : Cond.fieldLink RX1 21 "BoatCradle$Boats" "rank" "[I" ∈ WA := wr3 _ (List.mem_of_getElem? (i := 14) rfl)
theorem wt_3_14 : Cond.fieldLink RX1 21 "BoatCradle$Boats" "rank" "[I" ∈ lw_tbl := tb1 _ (List.mem_of_getElem? (i := 103) rfl)
theorem wd_3_15 : Cond.fieldLink RX1 24 "BoatCradle$Boats" "berth" "[I" ∈ WA := wr3 _ (List.mem_of_getElem? (i := 15) rfl)
theorem wt_3_15 : Cond.fieldLink RX1 24 "BoatCradle$Boats" "berth" "[I" ∈ lw_tbl := tb1 _ (List.mem_of_getElem? (i := 104) rfl)
theorem wd_3_16 : Cond.fieldLink RX1 27 "BoatCradle$Boats" "left" "[I" ∈ WA := wr3 _ (List.mem_of_getElem? (i := 16) rfl)
theorem wt_3_16 : Cond.fieldLink RX1 27 "BoatCradle$Boats" "left" "[I" ∈ lw_tbl := tb1 _ (List.mem_of_getElem? (i := 106) rfl)
theorem wd_3_17 : Cond.fieldLink RX1 30 "BoatCradle$Boats" "coats" "[I" ∈ WA := wr3 _ (List.mem_of_getElem? (i := 17) rfl)
theorem wt_3_17 : Cond.fieldLink RX1 30 "BoatCradle$Boats" "coats" "[I" ∈ lw_tbl := tb1 _ (List.mem_of_getElem? (i := 108) rfl)
theorem wd_3_18 : Cond.fieldLink RX1 33 "BoatCradle$Boats" "count" "I" ∈ WA := wr3 _ (List.mem_of_getElem? (i := 18) rfl)
theorem wt_3_18 : Cond.fieldLink RX1 33 "BoatCradle$Boats" "count" "I" ∈ lw_tbl := tb1 _ (List.mem_of_getElem? (i := 110) rfl)
theorem wd_3_19 : Cond.instanceMethod yX2_init ∈ WA := wr3 _ (List.mem_of_getElem? (i := 19) rfl)
theorem wt_3_19 : Cond.instanceMethod yX2_init ∈ lw_tbl := tb1 _ (List.mem_of_getElem? (i := 132) rfl)
theorem wd_3_20 : Cond.code yX2_init cX2_init 1 none ∈ WA := wr3 _ (List.mem_of_getElem? (i := 20) rfl)
theorem wt_3_20 : Cond.code yX2_init cX2_init 1 none ∈ lw_tbl := tb1 _ (List.mem_of_getElem? (i := 133) rfl)
theorem wd_3_21 : Cond.methodLink RX2 3 objectInit ∈ WA := wr3 _ (List.mem_of_getElem? (i := 21) rfl)
theorem wt_3_21 : Cond.methodLink RX2 3 objectInit ∈ lw_tbl := tb1 _ (List.mem_of_getElem? (i := 134) rfl)
theorem wd_3_22 : Cond.fieldLink RX2 9 "BoatCradle$Places" "code" "[I" ∈ WA := wr3 _ (List.mem_of_getElem? (i := 22) rfl)
theorem wt_3_22 : Cond.fieldLink RX2 9 "BoatCradle$Places" "code" "[I" ∈ lw_tbl := tb1 _ (List.mem_of_getElem? (i := 135) rfl)
theorem wd_3_23 : Cond.fieldLink RX2 15 "BoatCradle$Places" "weight" "[I" ∈ WA := wr3 _ (List.mem_of_getElem? (i := 23) rfl)
theorem wt_3_23 : Cond.fieldLink RX2 15 "BoatCradle$Places" "weight" "[I" ∈ lw_tbl := tb1 _ (List.mem_of_getElem? (i := 137) rfl)
theorem wc3 : ∀ w ∈ wsL_law0_r3, w ∈ lw_tbl := List.forall_mem_cons.mpr ⟨wt_3_0, List.forall_mem_cons.mpr ⟨wt_3_1, List.forall_mem_cons.mpr ⟨wt_3_2, List.forall_mem_cons.mpr ⟨wt_3_3, List.forall_mem_cons.mpr ⟨wt_3_4, List.forall_mem_cons.mpr ⟨wt_3_5, List.forall_mem_cons.mpr ⟨wt_3_6, List.forall_mem_cons.mpr ⟨wt_3_7, List.forall_mem_cons.mpr ⟨wt_3_8, List.forall_mem_cons.mpr ⟨wt_3_9, List.forall_mem_cons.mpr ⟨wt_3_10, List.forall_mem_cons.mpr ⟨wt_3_11, List.forall_mem_cons.mpr ⟨wt_3_12, List.forall_mem_cons.mpr ⟨wt_3_13, List.forall_mem_cons.mpr ⟨wt_3_14, List.forall_mem_cons.mpr ⟨wt_3_15, List.forall_mem_cons.mpr ⟨wt_3_16, List.forall_mem_cons.mpr ⟨wt_3_17, List.forall_mem_cons.mpr ⟨wt_3_18, List.forall_mem_cons.mpr ⟨wt_3_19, List.forall_mem_cons.mpr ⟨wt_3_20, List.forall_mem_cons.mpr ⟨wt_3_21, List.forall_mem_cons.mpr ⟨wt_3_22, List.forall_mem_cons.mpr ⟨wt_3_23, fun _ h => absurd h List.not_mem_nil⟩⟩⟩⟩⟩⟩⟩⟩⟩⟩⟩⟩⟩⟩⟩⟩⟩⟩⟩⟩⟩⟩⟩⟩
theorem wg3 : wsL_law0_r3.all goodWord = true := by decide +kernel
theorem wd_4_0 : Cond.fieldLink RX2 18 "BoatCradle$Places" "list" "[I" ∈ WA := wr4 _ (List.mem_of_getElem? (i := 0) rfl)
theorem wt_4_0 : Cond.fieldLink RX2 18 "BoatCradle$Places" "list" "[I" ∈ lw_tbl := tb1 _ (List.mem_of_getElem? (i := 139) rfl)
theorem wd_4_1 : Cond.fieldLink RX2 21 "BoatCradle$Places" "listed" "I" ∈ WA := wr4 _ (List.mem_of_getElem? (i := 1) rfl)
theorem wt_4_1 : Cond.fieldLink RX2 21 "BoatCradle$Places" "listed" "I" ∈ lw_tbl := tb1 _ (List.mem_of_getElem? (i := 141) rfl)
theorem wd_4_2 : Cond.fieldLink RX2 25 "BoatCradle$Places" "berthed" "I" ∈ WA := wr4 _ (List.mem_of_getElem? (i := 2) rfl)
theorem wt_4_2 : Cond.fieldLink RX2 25 "BoatCradle$Places" "berthed" "I" ∈ lw_tbl := tb1 _ (List.mem_of_getElem? (i := 143) rfl)
theorem wd_4_3 : Cond.fieldLink RX2 28 "BoatCradle$Places" "berths" "I" ∈ WA := wr4 _ (List.mem_of_getElem? (i := 3) rfl)
theorem wt_4_3 : Cond.fieldLink RX2 28 "BoatCradle$Places" "berths" "I" ∈ lw_tbl := tb1 _ (List.mem_of_getElem? (i := 145) rfl)
theorem wd_4_4 : Cond.methodLink RL 116 yL_pick ∈ WA := wr4 _ (List.mem_of_getElem? (i := 4) rfl)
theorem wt_4_4 : Cond.methodLink RL 116 yL_pick ∈ lw_tbl := tb1 _ (List.mem_of_getElem? (i := 213) rfl)
theorem wd_4_5 : Cond.static yL_pick ∈ WA := wr4 _ (List.mem_of_getElem? (i := 5) rfl)
theorem wt_4_5 : Cond.static yL_pick ∈ lw_tbl := tb1 _ (List.mem_of_getElem? (i := 214) rfl)
theorem wd_4_6 : Cond.initialized RL ∈ WA := wr4 _ (List.mem_of_getElem? (i := 6) rfl)
theorem wt_4_6 : Cond.initialized RL ∈ lw_tbl := tb1 _ (List.mem_of_getElem? (i := 0) rfl)
theorem wd_4_7 : Cond.code yL_pick cL_pick 3 (some .int) ∈ WA := wr4 _ (List.mem_of_getElem? (i := 7) rfl)
theorem wt_4_7 : Cond.code yL_pick cL_pick 3 (some .int) ∈ lw_tbl := tb1 _ (List.mem_of_getElem? (i := 215) rfl)
theorem wd_4_8 : Cond.methodLink RL 8 yL_cell ∈ WA := wr4 _ (List.mem_of_getElem? (i := 8) rfl)
theorem wt_4_8 : Cond.methodLink RL 8 yL_cell ∈ lw_tbl := tb1 _ (List.mem_of_getElem? (i := 209) rfl)
theorem wd_4_9 : Cond.static yL_cell ∈ WA := wr4 _ (List.mem_of_getElem? (i := 9) rfl)
theorem wt_4_9 : Cond.static yL_cell ∈ lw_tbl := tb1 _ (List.mem_of_getElem? (i := 210) rfl)
theorem wd_4_10 : Cond.code yL_cell cL_cell 2 (some .int) ∈ WA := wr4 _ (List.mem_of_getElem? (i := 10) rfl)
theorem wt_4_10 : Cond.code yL_cell cL_cell 2 (some .int) ∈ lw_tbl := tb1 _ (List.mem_of_getElem? (i := 211) rfl)
theorem wd_4_11 : Cond.constant RL 7 (40503) ∈ WA := wr4 _ (List.mem_of_getElem? (i := 11) rfl)
theorem wt_4_11 : Cond.constant RL 7 (40503) ∈ lw_tbl := tb1 _ (List.mem_of_getElem? (i := 212) rfl)
theorem wd_4_12 : Cond.methodLink RL 175 yL_builds ∈ WA := wr4 _ (List.mem_of_getElem? (i := 12) rfl)
theorem wt_4_12 : Cond.methodLink RL 175 yL_builds ∈ lw_tbl := tb3 _ (List.mem_of_getElem? (i := 6) rfl)
theorem wd_4_13 : Cond.static yL_builds ∈ WA := wr4 _ (List.mem_of_getElem? (i := 13) rfl)
theorem wt_4_13 : Cond.static yL_builds ∈ lw_tbl := tb3 _ (List.mem_of_getElem? (i := 7) rfl)
theorem wd_4_14 : Cond.code yL_builds cL_builds 5 (some .boolean) ∈ WA := wr4 _ (List.mem_of_getElem? (i := 14) rfl)
theorem wt_4_14 : Cond.code yL_builds cL_builds 5 (some .boolean) ∈ lw_tbl := tb3 _ (List.mem_of_getElem? (i := 8) rfl)
theorem wd_4_15 : Cond.methodLink RL 120 yL_addBerth ∈ WA := wr4 _ (List.mem_of_getElem? (i := 15) rfl)
theorem wt_4_15 : Cond.methodLink RL 120 yL_addBerth ∈ lw_tbl := tb3 _ (List.mem_of_getElem? (i := 9) rfl)
theorem wd_4_16 : Cond.static yL_addBerth ∈ WA := wr4 _ (List.mem_of_getElem? (i := 16) rfl)
theorem wt_4_16 : Cond.static yL_addBerth ∈ lw_tbl := tb3 _ (List.mem_of_getElem? (i := 10) rfl)
theorem wd_4_17 : Cond.codeWith yL_addBerth cL_addBerth 5 (some .int) [(0, 7, 8, 20), (0, 7, 14, 22), (0, 7, 20, 24)] ∈ WA := wr4 _ (List.mem_of_getElem? (i := 17) rfl)
theorem wt_4_17 : Cond.codeWith yL_addBerth cL_addBerth 5 (some .int) [(0, 7, 8, 20), (0, 7, 14, 22), (0, 7, 20, 24)] ∈ lw_tbl := tb3 _ (List.mem_of_getElem? (i := 11) rfl)
theorem wd_4_18 : Cond.classLink RL 20 "java/lang/IndexOutOfBoundsException" ∈ WA := wr4 _ (List.mem_of_getElem? (i := 18) rfl)
theorem wt_4_18 : Cond.classLink RL 20 "java/lang/IndexOutOfBoundsException" ∈ lw_tbl := tb2 _ (List.mem_of_getElem? (i := 97) rfl)
theorem wd_4_19 : Cond.classLink RL 22 "java/lang/IllegalArgumentException" ∈ WA := wr4 _ (List.mem_of_getElem? (i := 19) rfl)
theorem wt_4_19 : Cond.classLink RL 22 "java/lang/IllegalArgumentException" ∈ lw_tbl := tb1 _ (List.mem_of_getElem? (i := 219) rfl)
theorem wd_4_20 : Cond.classLink RL 24 "java/lang/IllegalStateException" ∈ WA := wr4 _ (List.mem_of_getElem? (i := 20) rfl)
theorem wt_4_20 : Cond.classLink RL 24 "java/lang/IllegalStateException" ∈ lw_tbl := tb1 _ (List.mem_of_getElem? (i := 220) rfl)
theorem wd_4_21 : Cond.methodLink RL 14 yX5_addBerth ∈ WA := wr4 _ (List.mem_of_getElem? (i := 21) rfl)
theorem wt_4_21 : Cond.methodLink RL 14 yX5_addBerth ∈ lw_tbl := tb3 _ (List.mem_of_getElem? (i := 12) rfl)
theorem wd_4_22 : Cond.instanceMethod yX5_addBerth ∈ WA := wr4 _ (List.mem_of_getElem? (i := 22) rfl)
theorem wt_4_22 : Cond.instanceMethod yX5_addBerth ∈ lw_tbl := tb3 _ (List.mem_of_getElem? (i := 13) rfl)
theorem wd_4_23 : Cond.selects RX5 yX5_addBerth yX5_addBerth ∈ WA := wr4 _ (List.mem_of_getElem? (i := 23) rfl)
theorem wt_4_23 : Cond.selects RX5 yX5_addBerth yX5_addBerth ∈ lw_tbl := tb3 _ (List.mem_of_getElem? (i := 14) rfl)
theorem wc4 : ∀ w ∈ wsL_law0_r4, w ∈ lw_tbl := List.forall_mem_cons.mpr ⟨wt_4_0, List.forall_mem_cons.mpr ⟨wt_4_1, List.forall_mem_cons.mpr ⟨wt_4_2, List.forall_mem_cons.mpr ⟨wt_4_3, List.forall_mem_cons.mpr ⟨wt_4_4, List.forall_mem_cons.mpr ⟨wt_4_5, List.forall_mem_cons.mpr ⟨wt_4_6, List.forall_mem_cons.mpr ⟨wt_4_7, List.forall_mem_cons.mpr ⟨wt_4_8, List.forall_mem_cons.mpr ⟨wt_4_9, List.forall_mem_cons.mpr ⟨wt_4_10, List.forall_mem_cons.mpr ⟨wt_4_11, List.forall_mem_cons.mpr ⟨wt_4_12, List.forall_mem_cons.mpr ⟨wt_4_13, List.forall_mem_cons.mpr ⟨wt_4_14, List.forall_mem_cons.mpr ⟨wt_4_15, List.forall_mem_cons.mpr ⟨wt_4_16, List.forall_mem_cons.mpr ⟨wt_4_17, List.forall_mem_cons.mpr ⟨wt_4_18, List.forall_mem_cons.mpr ⟨wt_4_19, List.forall_mem_cons.mpr ⟨wt_4_20, List.forall_mem_cons.mpr ⟨wt_4_21, List.forall_mem_cons.mpr ⟨wt_4_22, List.forall_mem_cons.mpr ⟨wt_4_23, fun _ h => absurd h List.not_mem_nil⟩⟩⟩⟩⟩⟩⟩⟩⟩⟩⟩⟩⟩⟩⟩⟩⟩⟩⟩⟩⟩⟩⟩⟩
theorem wg4 : wsL_law0_r4.all goodWord = true := by decide +kernel
theorem wd_5_0 : Cond.code yX5_addBerth cX5_addBerth 4 (some .int) ∈ WA := wr5 _ (List.mem_of_getElem? (i := 0) rfl)
theorem wt_5_0 : Cond.code yX5_addBerth cX5_addBerth 4 (some .int) ∈ lw_tbl := tb3 _ (List.mem_of_getElem? (i := 15) rfl)
theorem wd_5_1 : Cond.classLink RX5 68 "java/lang/IndexOutOfBoundsException" ∈ WA := wr5 _ (List.mem_of_getElem? (i := 1) rfl)
theorem wt_5_1 : Cond.classLink RX5 68 "java/lang/IndexOutOfBoundsException" ∈ lw_tbl := tb2 _ (List.mem_of_getElem? (i := 137) rfl)
theorem wd_5_2 : Cond.initialized "java/lang/IndexOutOfBoundsException" ∈ WA := wr5 _ (List.mem_of_getElem? (i := 2) rfl)
theorem wt_5_2 : Cond.initialized "java/lang/IndexOutOfBoundsException" ∈ lw_tbl := tb1 _ (List.mem_of_getElem? (i := 10) rfl)
theorem wd_5_3 : Cond.classLink RX5 79 "java/lang/IllegalArgumentException" ∈ WA := wr5 _ (List.mem_of_getElem? (i := 3) rfl)
theorem wt_5_3 : Cond.classLink RX5 79 "java/lang/IllegalArgumentException" ∈ lw_tbl := tb1 _ (List.mem_of_getElem? (i := 228) rfl)
theorem wd_5_4 : Cond.initialized "java/lang/IllegalArgumentException" ∈ WA := wr5 _ (List.mem_of_getElem? (i := 4) rfl)
theorem wt_5_4 : Cond.initialized "java/lang/IllegalArgumentException" ∈ lw_tbl := tb1 _ (List.mem_of_getElem? (i := 13) rfl)
theorem wd_5_5 : Cond.classLink RX5 87 "java/lang/IllegalStateException" ∈ WA := wr5 _ (List.mem_of_getElem? (i := 5) rfl)
theorem wt_5_5 : Cond.classLink RX5 87 "java/lang/IllegalStateException" ∈ lw_tbl := tb2 _ (List.mem_of_getElem? (i := 58) rfl)
theorem wd_5_6 : Cond.initialized "java/lang/IllegalStateException" ∈ WA := wr5 _ (List.mem_of_getElem? (i := 6) rfl)
theorem wt_5_6 : Cond.initialized "java/lang/IllegalStateException" ∈ lw_tbl := tb1 _ (List.mem_of_getElem? (i := 14) rfl)
theorem wd_5_7 : Cond.fieldLink RX5 84 "BoatCradle$Berths" "count" "I" ∈ WA := wr5 _ (List.mem_of_getElem? (i := 7) rfl)
theorem wt_5_7 : Cond.fieldLink RX5 84 "BoatCradle$Berths" "count" "I" ∈ lw_tbl := tb1 _ (List.mem_of_getElem? (i := 79) rfl)
theorem wd_5_8 : Cond.methodLink RX5 64 yX0_has ∈ WA := wr5 _ (List.mem_of_getElem? (i := 8) rfl)
theorem wt_5_8 : Cond.methodLink RX5 64 yX0_has ∈ lw_tbl := tb2 _ (List.mem_of_getElem? (i := 204) rfl)
theorem wd_5_9 : Cond.instanceMethod yX0_has ∈ WA := wr5 _ (List.mem_of_getElem? (i := 9) rfl)
theorem wt_5_9 : Cond.instanceMethod yX0_has ∈ lw_tbl := tb2 _ (List.mem_of_getElem? (i := 205) rfl)
theorem wd_5_10 : Cond.selects RX0 yX0_has yX0_has ∈ WA := wr5 _ (List.mem_of_getElem? (i := 10) rfl)
theorem wt_5_10 : Cond.selects RX0 yX0_has yX0_has ∈ lw_tbl := tb2 _ (List.mem_of_getElem? (i := 206) rfl)
theorem wd_5_11 : Cond.code yX0_has cX0_has 2 (some .boolean) ∈ WA := wr5 _ (List.mem_of_getElem? (i := 11) rfl)
theorem wt_5_11 : Cond.code yX0_has cX0_has 2 (some .boolean) ∈ lw_tbl := tb2 _ (List.mem_of_getElem? (i := 207) rfl)
theorem wd_5_12 : Cond.methodLink RX5 75 yX5_outside ∈ WA := wr5 _ (List.mem_of_getElem? (i := 12) rfl)
theorem wt_5_12 : Cond.methodLink RX5 75 yX5_outside ∈ lw_tbl := tb1 _ (List.mem_of_getElem? (i := 225) rfl)
theorem wd_5_13 : Cond.static yX5_outside ∈ WA := wr5 _ (List.mem_of_getElem? (i := 13) rfl)
theorem wt_5_13 : Cond.static yX5_outside ∈ lw_tbl := tb1 _ (List.mem_of_getElem? (i := 226) rfl)
theorem wd_5_14 : Cond.code yX5_outside cX5_outside 3 (some .boolean) ∈ WA := wr5 _ (List.mem_of_getElem? (i := 14) rfl)
theorem wt_5_14 : Cond.code yX5_outside cX5_outside 3 (some .boolean) ∈ lw_tbl := tb1 _ (List.mem_of_getElem? (i := 227) rfl)
theorem wd_5_15 : Cond.methodLink RX5 92 yX0_append ∈ WA := wr5 _ (List.mem_of_getElem? (i := 15) rfl)
theorem wt_5_15 : Cond.methodLink RX5 92 yX0_append ∈ lw_tbl := tb3 _ (List.mem_of_getElem? (i := 19) rfl)
theorem wd_5_16 : Cond.instanceMethod yX0_append ∈ WA := wr5 _ (List.mem_of_getElem? (i := 16) rfl)
theorem wt_5_16 : Cond.instanceMethod yX0_append ∈ lw_tbl := tb3 _ (List.mem_of_getElem? (i := 20) rfl)
theorem wd_5_17 : Cond.selects RX0 yX0_append yX0_append ∈ WA := wr5 _ (List.mem_of_getElem? (i := 17) rfl)
theorem wt_5_17 : Cond.selects RX0 yX0_append yX0_append ∈ lw_tbl := tb3 _ (List.mem_of_getElem? (i := 21) rfl)
theorem wd_5_18 : Cond.code yX0_append cX0_append 5 (some .int) ∈ WA := wr5 _ (List.mem_of_getElem? (i := 18) rfl)
theorem wt_5_18 : Cond.code yX0_append cX0_append 5 (some .int) ∈ lw_tbl := tb3 _ (List.mem_of_getElem? (i := 22) rfl)
theorem wd_5_19 : Cond.methodLink RX0 28 yX0_has ∈ WA := wr5 _ (List.mem_of_getElem? (i := 19) rfl)
theorem wt_5_19 : Cond.methodLink RX0 28 yX0_has ∈ lw_tbl := tb3 _ (List.mem_of_getElem? (i := 23) rfl)
theorem wd_5_20 : Cond.methodLink RL 123 yL_addBoat ∈ WA := wr5 _ (List.mem_of_getElem? (i := 20) rfl)
theorem wt_5_20 : Cond.methodLink RL 123 yL_addBoat ∈ lw_tbl := tb3 _ (List.mem_of_getElem? (i := 24) rfl)
theorem wd_5_21 : Cond.static yL_addBoat ∈ WA := wr5 _ (List.mem_of_getElem? (i := 21) rfl)
theorem wt_5_21 : Cond.static yL_addBoat ∈ lw_tbl := tb3 _ (List.mem_of_getElem? (i := 25) rfl)
theorem wd_5_22 : Cond.codeWith yL_addBoat cL_addBoat 6 (some .int) [(0, 9, 10, 22), (0, 9, 16, 24)] ∈ WA := wr5 _ (List.mem_of_getElem? (i := 22) rfl)
theorem wt_5_22 : Cond.codeWith yL_addBoat cL_addBoat 6 (some .int) [(0, 9, 10, 22), (0, 9, 16, 24)] ∈ lw_tbl := tb3 _ (List.mem_of_getElem? (i := 26) rfl)
theorem wd_5_23 : Cond.methodLink RL 26 yX5_addBoat ∈ WA := wr5 _ (List.mem_of_getElem? (i := 23) rfl)
theorem wt_5_23 : Cond.methodLink RL 26 yX5_addBoat ∈ lw_tbl := tb3 _ (List.mem_of_getElem? (i := 27) rfl)
theorem wc5 : ∀ w ∈ wsL_law0_r5, w ∈ lw_tbl := List.forall_mem_cons.mpr ⟨wt_5_0, List.forall_mem_cons.mpr ⟨wt_5_1, List.forall_mem_cons.mpr ⟨wt_5_2, List.forall_mem_cons.mpr ⟨wt_5_3, List.forall_mem_cons.mpr ⟨wt_5_4, List.forall_mem_cons.mpr ⟨wt_5_5, List.forall_mem_cons.mpr ⟨wt_5_6, List.forall_mem_cons.mpr ⟨wt_5_7, List.forall_mem_cons.mpr ⟨wt_5_8, List.forall_mem_cons.mpr ⟨wt_5_9, List.forall_mem_cons.mpr ⟨wt_5_10, List.forall_mem_cons.mpr ⟨wt_5_11, List.forall_mem_cons.mpr ⟨wt_5_12, List.forall_mem_cons.mpr ⟨wt_5_13, List.forall_mem_cons.mpr ⟨wt_5_14, List.forall_mem_cons.mpr ⟨wt_5_15, List.forall_mem_cons.mpr ⟨wt_5_16, List.forall_mem_cons.mpr ⟨wt_5_17, List.forall_mem_cons.mpr ⟨wt_5_18, List.forall_mem_cons.mpr ⟨wt_5_19, List.forall_mem_cons.mpr ⟨wt_5_20, List.forall_mem_cons.mpr ⟨wt_5_21, List.forall_mem_cons.mpr ⟨wt_5_22, List.forall_mem_cons.mpr ⟨wt_5_23, fun _ h => absurd h List.not_mem_nil⟩⟩⟩⟩⟩⟩⟩⟩⟩⟩⟩⟩⟩⟩⟩⟩⟩⟩⟩⟩⟩⟩⟩⟩
theorem wg5 : wsL_law0_r5.all goodWord = true := by decide +kernel
theorem wd_6_0 : Cond.instanceMethod yX5_addBoat ∈ WA := wr6 _ (List.mem_of_getElem? (i := 0) rfl)
theorem wt_6_0 : Cond.instanceMethod yX5_addBoat ∈ lw_tbl := tb3 _ (List.mem_of_getElem? (i := 28) rfl)
theorem wd_6_1 : Cond.selects RX5 yX5_addBoat yX5_addBoat ∈ WA := wr6 _ (List.mem_of_getElem? (i := 1) rfl)
theorem wt_6_1 : Cond.selects RX5 yX5_addBoat yX5_addBoat ∈ lw_tbl := tb3 _ (List.mem_of_getElem? (i := 29) rfl)
theorem wd_6_2 : Cond.code yX5_addBoat cX5_addBoat 5 (some .int) ∈ WA := wr6 _ (List.mem_of_getElem? (i := 2) rfl)
theorem wt_6_2 : Cond.code yX5_addBoat cX5_addBoat 5 (some .int) ∈ lw_tbl := tb3 _ (List.mem_of_getElem? (i := 30) rfl)
theorem wd_6_3 : Cond.fieldLink RX5 98 "BoatCradle$Boats" "count" "I" ∈ WA := wr6 _ (List.mem_of_getElem? (i := 3) rfl)
theorem wt_6_3 : Cond.fieldLink RX5 98 "BoatCradle$Boats" "count" "I" ∈ lw_tbl := tb1 _ (List.mem_of_getElem? (i := 111) rfl)
theorem wd_6_4 : Cond.methodLink RX5 101 yX1_append ∈ WA := wr6 _ (List.mem_of_getElem? (i := 4) rfl)
theorem wt_6_4 : Cond.methodLink RX5 101 yX1_append ∈ lw_tbl := tb3 _ (List.mem_of_getElem? (i := 33) rfl)
theorem wd_6_5 : Cond.instanceMethod yX1_append ∈ WA := wr6 _ (List.mem_of_getElem? (i := 5) rfl)
theorem wt_6_5 : Cond.instanceMethod yX1_append ∈ lw_tbl := tb3 _ (List.mem_of_getElem? (i := 34) rfl)
theorem wd_6_6 : Cond.selects RX1 yX1_append yX1_append ∈ WA := wr6 _ (List.mem_of_getElem? (i := 6) rfl)
theorem wt_6_6 : Cond.selects RX1 yX1_append yX1_append ∈ lw_tbl := tb3 _ (List.mem_of_getElem? (i := 35) rfl)
theorem wd_6_7 : Cond.code yX1_append cX1_append 6 (some .int) ∈ WA := wr6 _ (List.mem_of_getElem? (i := 7) rfl)
theorem wt_6_7 : Cond.code yX1_append cX1_append 6 (some .int) ∈ lw_tbl := tb3 _ (List.mem_of_getElem? (i := 36) rfl)
theorem wd_6_8 : Cond.methodLink RL 126 yL_setTide ∈ WA := wr6 _ (List.mem_of_getElem? (i := 8) rfl)
theorem wt_6_8 : Cond.methodLink RL 126 yL_setTide ∈ lw_tbl := tb3 _ (List.mem_of_getElem? (i := 37) rfl)
theorem wd_6_9 : Cond.static yL_setTide ∈ WA := wr6 _ (List.mem_of_getElem? (i := 9) rfl)
theorem wt_6_9 : Cond.static yL_setTide ∈ lw_tbl := tb3 _ (List.mem_of_getElem? (i := 38) rfl)
theorem wd_6_10 : Cond.codeWith yL_setTide cL_setTide 5 (some .int) [(0, 7, 8, 22)] ∈ WA := wr6 _ (List.mem_of_getElem? (i := 10) rfl)
theorem wt_6_10 : Cond.codeWith yL_setTide cL_setTide 5 (some .int) [(0, 7, 8, 22)] ∈ lw_tbl := tb3 _ (List.mem_of_getElem? (i := 39) rfl)
theorem wd_6_11 : Cond.methodLink RL 30 yX5_setTide ∈ WA := wr6 _ (List.mem_of_getElem? (i := 11) rfl)
theorem wt_6_11 : Cond.methodLink RL 30 yX5_setTide ∈ lw_tbl := tb3 _ (List.mem_of_getElem? (i := 40) rfl)
theorem wd_6_12 : Cond.instanceMethod yX5_setTide ∈ WA := wr6 _ (List.mem_of_getElem? (i := 12) rfl)
theorem wt_6_12 : Cond.instanceMethod yX5_setTide ∈ lw_tbl := tb3 _ (List.mem_of_getElem? (i := 41) rfl)
theorem wd_6_13 : Cond.selects RX5 yX5_setTide yX5_setTide ∈ WA := wr6 _ (List.mem_of_getElem? (i := 13) rfl)
theorem wt_6_13 : Cond.selects RX5 yX5_setTide yX5_setTide ∈ lw_tbl := tb3 _ (List.mem_of_getElem? (i := 42) rfl)
theorem wd_6_14 : Cond.code yX5_setTide cX5_setTide 4 (some .int) ∈ WA := wr6 _ (List.mem_of_getElem? (i := 14) rfl)
theorem wt_6_14 : Cond.code yX5_setTide cX5_setTide 4 (some .int) ∈ lw_tbl := tb3 _ (List.mem_of_getElem? (i := 43) rfl)
theorem wd_6_15 : Cond.fieldLink RX5 104 "BoatCradle$Tide" "base" "I" ∈ WA := wr6 _ (List.mem_of_getElem? (i := 15) rfl)
theorem wt_6_15 : Cond.fieldLink RX5 104 "BoatCradle$Tide" "base" "I" ∈ lw_tbl := tb1 _ (List.mem_of_getElem? (i := 34) rfl)
theorem wd_6_16 : Cond.fieldLink RX5 107 "BoatCradle$Tide" "first" "I" ∈ WA := wr6 _ (List.mem_of_getElem? (i := 16) rfl)
theorem wt_6_16 : Cond.fieldLink RX5 107 "BoatCradle$Tide" "first" "I" ∈ lw_tbl := tb1 _ (List.mem_of_getElem? (i := 36) rfl)
theorem wd_6_17 : Cond.fieldLink RX5 110 "BoatCradle$Tide" "second" "I" ∈ WA := wr6 _ (List.mem_of_getElem? (i := 17) rfl)
theorem wt_6_17 : Cond.fieldLink RX5 110 "BoatCradle$Tide" "second" "I" ∈ lw_tbl := tb1 _ (List.mem_of_getElem? (i := 38) rfl)
theorem wd_6_18 : Cond.methodLink RX5 113 yX3_levelAt ∈ WA := wr6 _ (List.mem_of_getElem? (i := 18) rfl)
theorem wt_6_18 : Cond.methodLink RX5 113 yX3_levelAt ∈ lw_tbl := tb2 _ (List.mem_of_getElem? (i := 159) rfl)
theorem wd_6_19 : Cond.instanceMethod yX3_levelAt ∈ WA := wr6 _ (List.mem_of_getElem? (i := 19) rfl)
theorem wt_6_19 : Cond.instanceMethod yX3_levelAt ∈ lw_tbl := tb2 _ (List.mem_of_getElem? (i := 160) rfl)
theorem wd_6_20 : Cond.selects RX3 yX3_levelAt yX3_levelAt ∈ WA := wr6 _ (List.mem_of_getElem? (i := 20) rfl)
theorem wt_6_20 : Cond.selects RX3 yX3_levelAt yX3_levelAt ∈ lw_tbl := tb2 _ (List.mem_of_getElem? (i := 161) rfl)
theorem wd_6_21 : Cond.code yX3_levelAt cX3_levelAt 2 (some .int) ∈ WA := wr6 _ (List.mem_of_getElem? (i := 21) rfl)
theorem wt_6_21 : Cond.code yX3_levelAt cX3_levelAt 2 (some .int) ∈ lw_tbl := tb2 _ (List.mem_of_getElem? (i := 162) rfl)
theorem wd_6_22 : Cond.methodLink RX3 19 Lib.Math.abs.name ∈ WA := wr6 _ (List.mem_of_getElem? (i := 22) rfl)
theorem wt_6_22 : Cond.methodLink RX3 19 Lib.Math.abs.name ∈ lw_tbl := tb2 _ (List.mem_of_getElem? (i := 163) rfl)
theorem wd_6_23 : Cond.static Lib.Math.abs.name ∈ WA := wr6 _ (List.mem_of_getElem? (i := 23) rfl)
theorem wt_6_23 : Cond.static Lib.Math.abs.name ∈ lw_tbl := tb2 _ (List.mem_of_getElem? (i := 164) rfl)
theorem wc6 : ∀ w ∈ wsL_law0_r6, w ∈ lw_tbl := List.forall_mem_cons.mpr ⟨wt_6_0, List.forall_mem_cons.mpr ⟨wt_6_1, List.forall_mem_cons.mpr ⟨wt_6_2, List.forall_mem_cons.mpr ⟨wt_6_3, List.forall_mem_cons.mpr ⟨wt_6_4, List.forall_mem_cons.mpr ⟨wt_6_5, List.forall_mem_cons.mpr ⟨wt_6_6, List.forall_mem_cons.mpr ⟨wt_6_7, List.forall_mem_cons.mpr ⟨wt_6_8, List.forall_mem_cons.mpr ⟨wt_6_9, List.forall_mem_cons.mpr ⟨wt_6_10, List.forall_mem_cons.mpr ⟨wt_6_11, List.forall_mem_cons.mpr ⟨wt_6_12, List.forall_mem_cons.mpr ⟨wt_6_13, List.forall_mem_cons.mpr ⟨wt_6_14, List.forall_mem_cons.mpr ⟨wt_6_15, List.forall_mem_cons.mpr ⟨wt_6_16, List.forall_mem_cons.mpr ⟨wt_6_17, List.forall_mem_cons.mpr ⟨wt_6_18, List.forall_mem_cons.mpr ⟨wt_6_19, List.forall_mem_cons.mpr ⟨wt_6_20, List.forall_mem_cons.mpr ⟨wt_6_21, List.forall_mem_cons.mpr ⟨wt_6_22, List.forall_mem_cons.mpr ⟨wt_6_23, fun _ h => absurd h List.not_mem_nil⟩⟩⟩⟩⟩⟩⟩⟩⟩⟩⟩⟩⟩⟩⟩⟩⟩⟩⟩⟩⟩⟩⟩⟩
theorem wg6 : wsL_law0_r6.all goodWord = true := by decide +kernel
theorem wd_7_0 : Cond.initialized "java/lang/Math" ∈ WA := wr7 _ (List.mem_of_getElem? (i := 0) rfl)
theorem wt_7_0 : Cond.initialized "java/lang/Math" ∈ lw_tbl := tb1 _ (List.mem_of_getElem? (i := 15) rfl)
theorem wd_7_1 : Cond.code Lib.Math.abs.name Lib.Math.abs.code 1 (some .int) ∈ WA := wr7 _ (List.mem_of_getElem? (i := 1) rfl)
theorem wt_7_1 : Cond.code Lib.Math.abs.name Lib.Math.abs.code 1 (some .int) ∈ lw_tbl := tb2 _ (List.mem_of_getElem? (i := 165) rfl)
theorem wd_7_2 : Cond.methodLink RL 128 yL_level ∈ WA := wr7 _ (List.mem_of_getElem? (i := 2) rfl)
theorem wt_7_2 : Cond.methodLink RL 128 yL_level ∈ lw_tbl := tb3 _ (List.mem_of_getElem? (i := 44) rfl)
theorem wd_7_3 : Cond.static yL_level ∈ WA := wr7 _ (List.mem_of_getElem? (i := 3) rfl)
theorem wt_7_3 : Cond.static yL_level ∈ lw_tbl := tb3 _ (List.mem_of_getElem? (i := 45) rfl)
theorem wd_7_4 : Cond.codeWith yL_level cL_level 3 (some .int) [(0, 5, 6, 22)] ∈ WA := wr7 _ (List.mem_of_getElem? (i := 4) rfl)
theorem wt_7_4 : Cond.codeWith yL_level cL_level 3 (some .int) [(0, 5, 6, 22)] ∈ lw_tbl := tb3 _ (List.mem_of_getElem? (i := 46) rfl)
theorem wd_7_5 : Cond.methodLink RL 40 yX5_level ∈ WA := wr7 _ (List.mem_of_getElem? (i := 5) rfl)
theorem wt_7_5 : Cond.methodLink RL 40 yX5_level ∈ lw_tbl := tb3 _ (List.mem_of_getElem? (i := 47) rfl)
theorem wd_7_6 : Cond.instanceMethod yX5_level ∈ WA := wr7 _ (List.mem_of_getElem? (i := 6) rfl)
theorem wt_7_6 : Cond.instanceMethod yX5_level ∈ lw_tbl := tb3 _ (List.mem_of_getElem? (i := 48) rfl)
theorem wd_7_7 : Cond.selects RX5 yX5_level yX5_level ∈ WA := wr7 _ (List.mem_of_getElem? (i := 7) rfl)
theorem wt_7_7 : Cond.selects RX5 yX5_level yX5_level ∈ lw_tbl := tb3 _ (List.mem_of_getElem? (i := 49) rfl)
theorem wd_7_8 : Cond.code yX5_level cX5_level 2 (some .int) ∈ WA := wr7 _ (List.mem_of_getElem? (i := 8) rfl)
theorem wt_7_8 : Cond.code yX5_level cX5_level 2 (some .int) ∈ lw_tbl := tb3 _ (List.mem_of_getElem? (i := 50) rfl)
theorem wd_7_9 : Cond.methodLink RX5 128 yX5_checkHour ∈ WA := wr7 _ (List.mem_of_getElem? (i := 9) rfl)
theorem wt_7_9 : Cond.methodLink RX5 128 yX5_checkHour ∈ lw_tbl := tb2 _ (List.mem_of_getElem? (i := 85) rfl)
theorem wd_7_10 : Cond.instanceMethod yX5_checkHour ∈ WA := wr7 _ (List.mem_of_getElem? (i := 10) rfl)
theorem wt_7_10 : Cond.instanceMethod yX5_checkHour ∈ lw_tbl := tb2 _ (List.mem_of_getElem? (i := 87) rfl)
theorem wd_7_11 : Cond.selects RX5 yX5_checkHour yX5_checkHour ∈ WA := wr7 _ (List.mem_of_getElem? (i := 11) rfl)
theorem wt_7_11 : Cond.selects RX5 yX5_checkHour yX5_checkHour ∈ lw_tbl := ts1 _ (List.mem_of_getElem? (i := 1) rfl)
theorem wd_7_12 : Cond.code yX5_checkHour cX5_checkHour 2 none ∈ WA := wr7 _ (List.mem_of_getElem? (i := 12) rfl)
theorem wt_7_12 : Cond.code yX5_checkHour cX5_checkHour 2 none ∈ lw_tbl := tb2 _ (List.mem_of_getElem? (i := 88) rfl)
theorem wd_7_13 : Cond.methodLink RL 131 yL_setCradle ∈ WA := wr7 _ (List.mem_of_getElem? (i := 13) rfl)
theorem wt_7_13 : Cond.methodLink RL 131 yL_setCradle ∈ lw_tbl := tb3 _ (List.mem_of_getElem? (i := 51) rfl)
theorem wd_7_14 : Cond.static yL_setCradle ∈ WA := wr7 _ (List.mem_of_getElem? (i := 14) rfl)
theorem wt_7_14 : Cond.static yL_setCradle ∈ lw_tbl := tb3 _ (List.mem_of_getElem? (i := 52) rfl)
theorem wd_7_15 : Cond.codeWith yL_setCradle cL_setCradle 4 (some .int) [(0, 6, 7, 22)] ∈ WA := wr7 _ (List.mem_of_getElem? (i := 15) rfl)
theorem wt_7_15 : Cond.codeWith yL_setCradle cL_setCradle 4 (some .int) [(0, 6, 7, 22)] ∈ lw_tbl := tb3 _ (List.mem_of_getElem? (i := 53) rfl)
theorem wd_7_16 : Cond.methodLink RL 33 yX5_setCradle ∈ WA := wr7 _ (List.mem_of_getElem? (i := 16) rfl)
theorem wt_7_16 : Cond.methodLink RL 33 yX5_setCradle ∈ lw_tbl := tb3 _ (List.mem_of_getElem? (i := 54) rfl)
theorem wd_7_17 : Cond.instanceMethod yX5_setCradle ∈ WA := wr7 _ (List.mem_of_getElem? (i := 17) rfl)
theorem wt_7_17 : Cond.instanceMethod yX5_setCradle ∈ lw_tbl := tb3 _ (List.mem_of_getElem? (i := 55) rfl)
theorem wd_7_18 : Cond.selects RX5 yX5_setCradle yX5_setCradle ∈ WA := wr7 _ (List.mem_of_getElem? (i := 18) rfl)
theorem wt_7_18 : Cond.selects RX5 yX5_setCradle yX5_setCradle ∈ lw_tbl := tb3 _ (List.mem_of_getElem? (i := 56) rfl)
theorem wd_7_19 : Cond.code yX5_setCradle cX5_setCradle 4 (some .int) ∈ WA := wr7 _ (List.mem_of_getElem? (i := 19) rfl)
theorem wt_7_19 : Cond.code yX5_setCradle cX5_setCradle 4 (some .int) ∈ lw_tbl := tb3 _ (List.mem_of_getElem? (i := 57) rfl)
theorem wd_7_20 : Cond.methodLink RL 179 yL_lifts ∈ WA := wr7 _ (List.mem_of_getElem? (i := 20) rfl)
theorem wt_7_20 : Cond.methodLink RL 179 yL_lifts ∈ lw_tbl := tb4 _ (List.mem_of_getElem? (i := 28) rfl)
theorem wd_7_21 : Cond.static yL_lifts ∈ WA := wr7 _ (List.mem_of_getElem? (i := 21) rfl)
theorem wt_7_21 : Cond.static yL_lifts ∈ lw_tbl := tb4 _ (List.mem_of_getElem? (i := 29) rfl)
theorem wd_7_22 : Cond.code yL_lifts cL_lifts 7 (some .boolean) ∈ WA := wr7 _ (List.mem_of_getElem? (i := 22) rfl)
theorem wt_7_22 : Cond.code yL_lifts cL_lifts 7 (some .boolean) ∈ lw_tbl := tb4 _ (List.mem_of_getElem? (i := 30) rfl)
theorem wd_7_23 : Cond.methodLink RL 162 yL_liftReason ∈ WA := wr7 _ (List.mem_of_getElem? (i := 23) rfl)
theorem wt_7_23 : Cond.methodLink RL 162 yL_liftReason ∈ lw_tbl := tb4 _ (List.mem_of_getElem? (i := 31) rfl)
theorem wc7 : ∀ w ∈ wsL_law0_r7, w ∈ lw_tbl := List.forall_mem_cons.mpr ⟨wt_7_0, List.forall_mem_cons.mpr ⟨wt_7_1, List.forall_mem_cons.mpr ⟨wt_7_2, List.forall_mem_cons.mpr ⟨wt_7_3, List.forall_mem_cons.mpr ⟨wt_7_4, List.forall_mem_cons.mpr ⟨wt_7_5, List.forall_mem_cons.mpr ⟨wt_7_6, List.forall_mem_cons.mpr ⟨wt_7_7, List.forall_mem_cons.mpr ⟨wt_7_8, List.forall_mem_cons.mpr ⟨wt_7_9, List.forall_mem_cons.mpr ⟨wt_7_10, List.forall_mem_cons.mpr ⟨wt_7_11, List.forall_mem_cons.mpr ⟨wt_7_12, List.forall_mem_cons.mpr ⟨wt_7_13, List.forall_mem_cons.mpr ⟨wt_7_14, List.forall_mem_cons.mpr ⟨wt_7_15, List.forall_mem_cons.mpr ⟨wt_7_16, List.forall_mem_cons.mpr ⟨wt_7_17, List.forall_mem_cons.mpr ⟨wt_7_18, List.forall_mem_cons.mpr ⟨wt_7_19, List.forall_mem_cons.mpr ⟨wt_7_20, List.forall_mem_cons.mpr ⟨wt_7_21, List.forall_mem_cons.mpr ⟨wt_7_22, List.forall_mem_cons.mpr ⟨wt_7_23, fun _ h => absurd h List.not_mem_nil⟩⟩⟩⟩⟩⟩⟩⟩⟩⟩⟩⟩⟩⟩⟩⟩⟩⟩⟩⟩⟩⟩⟩⟩
theorem wg7 : wsL_law0_r7.all goodWord = true := by decide +kernel
theorem wd_8_0 : Cond.static yL_liftReason ∈ WA := wr8 _ (List.mem_of_getElem? (i := 0) rfl)
theorem wt_8_0 : Cond.static yL_liftReason ∈ lw_tbl := tb4 _ (List.mem_of_getElem? (i := 32) rfl)
theorem wd_8_1 : Cond.codeWith yL_liftReason cL_liftReason 4 (some .int) [(0, 6, 7, 20)] ∈ WA := wr8 _ (List.mem_of_getElem? (i := 1) rfl)
theorem wt_8_1 : Cond.codeWith yL_liftReason cL_liftReason 4 (some .int) [(0, 6, 7, 20)] ∈ lw_tbl := tb4 _ (List.mem_of_getElem? (i := 33) rfl)
theorem wd_8_2 : Cond.methodLink RL 62 yX5_liftReason ∈ WA := wr8 _ (List.mem_of_getElem? (i := 2) rfl)
theorem wt_8_2 : Cond.methodLink RL 62 yX5_liftReason ∈ lw_tbl := tb4 _ (List.mem_of_getElem? (i := 34) rfl)
theorem wd_8_3 : Cond.instanceMethod yX5_liftReason ∈ WA := wr8 _ (List.mem_of_getElem? (i := 3) rfl)
theorem wt_8_3 : Cond.instanceMethod yX5_liftReason ∈ lw_tbl := tb4 _ (List.mem_of_getElem? (i := 35) rfl)
theorem wd_8_4 : Cond.selects RX5 yX5_liftReason yX5_liftReason ∈ WA := wr8 _ (List.mem_of_getElem? (i := 4) rfl)
theorem wt_8_4 : Cond.selects RX5 yX5_liftReason yX5_liftReason ∈ lw_tbl := tb4 _ (List.mem_of_getElem? (i := 36) rfl)
theorem wd_8_5 : Cond.code yX5_liftReason cX5_liftReason 3 (some .char) ∈ WA := wr8 _ (List.mem_of_getElem? (i := 5) rfl)
theorem wt_8_5 : Cond.code yX5_liftReason cX5_liftReason 3 (some .char) ∈ lw_tbl := tb4 _ (List.mem_of_getElem? (i := 37) rfl)
theorem wd_8_6 : Cond.methodLink RX5 154 yX5_checkBoatAndBerth ∈ WA := wr8 _ (List.mem_of_getElem? (i := 6) rfl)
theorem wt_8_6 : Cond.methodLink RX5 154 yX5_checkBoatAndBerth ∈ lw_tbl := tb4 _ (List.mem_of_getElem? (i := 38) rfl)
theorem wd_8_7 : Cond.instanceMethod yX5_checkBoatAndBerth ∈ WA := wr8 _ (List.mem_of_getElem? (i := 7) rfl)
theorem wt_8_7 : Cond.instanceMethod yX5_checkBoatAndBerth ∈ lw_tbl := tb4 _ (List.mem_of_getElem? (i := 40) rfl)
theorem wd_8_8 : Cond.selects RX5 yX5_checkBoatAndBerth yX5_checkBoatAndBerth ∈ WA := wr8 _ (List.mem_of_getElem? (i := 8) rfl)
theorem wt_8_8 : Cond.selects RX5 yX5_checkBoatAndBerth yX5_checkBoatAndBerth ∈ lw_tbl := ts2 _ (List.mem_of_getElem? (i := 9) rfl)
theorem wd_8_9 : Cond.code yX5_checkBoatAndBerth cX5_checkBoatAndBerth 3 none ∈ WA := wr8 _ (List.mem_of_getElem? (i := 9) rfl)
theorem wt_8_9 : Cond.code yX5_checkBoatAndBerth cX5_checkBoatAndBerth 3 none ∈ lw_tbl := tb4 _ (List.mem_of_getElem? (i := 41) rfl)
theorem wd_8_10 : Cond.methodLink RX5 142 yX5_checkBoat ∈ WA := wr8 _ (List.mem_of_getElem? (i := 10) rfl)
theorem wt_8_10 : Cond.methodLink RX5 142 yX5_checkBoat ∈ lw_tbl := tb2 _ (List.mem_of_getElem? (i := 129) rfl)
theorem wd_8_11 : Cond.instanceMethod yX5_checkBoat ∈ WA := wr8 _ (List.mem_of_getElem? (i := 11) rfl)
theorem wt_8_11 : Cond.instanceMethod yX5_checkBoat ∈ lw_tbl := tb2 _ (List.mem_of_getElem? (i := 131) rfl)
theorem wd_8_12 : Cond.selects RX5 yX5_checkBoat yX5_checkBoat ∈ WA := wr8 _ (List.mem_of_getElem? (i := 12) rfl)
theorem wt_8_12 : Cond.selects RX5 yX5_checkBoat yX5_checkBoat ∈ lw_tbl := ts1 _ (List.mem_of_getElem? (i := 3) rfl)
theorem wd_8_13 : Cond.code yX5_checkBoat cX5_checkBoat 2 none ∈ WA := wr8 _ (List.mem_of_getElem? (i := 13) rfl)
theorem wt_8_13 : Cond.code yX5_checkBoat cX5_checkBoat 2 none ∈ lw_tbl := tb2 _ (List.mem_of_getElem? (i := 132) rfl)
theorem wd_8_14 : Cond.methodLink RX5 193 yX1_has ∈ WA := wr8 _ (List.mem_of_getElem? (i := 14) rfl)
theorem wt_8_14 : Cond.methodLink RX5 193 yX1_has ∈ lw_tbl := tb2 _ (List.mem_of_getElem? (i := 133) rfl)
theorem wd_8_15 : Cond.instanceMethod yX1_has ∈ WA := wr8 _ (List.mem_of_getElem? (i := 15) rfl)
theorem wt_8_15 : Cond.instanceMethod yX1_has ∈ lw_tbl := tb2 _ (List.mem_of_getElem? (i := 134) rfl)
theorem wd_8_16 : Cond.selects RX1 yX1_has yX1_has ∈ WA := wr8 _ (List.mem_of_getElem? (i := 16) rfl)
theorem wt_8_16 : Cond.selects RX1 yX1_has yX1_has ∈ lw_tbl := tb2 _ (List.mem_of_getElem? (i := 135) rfl)
theorem wd_8_17 : Cond.code yX1_has cX1_has 2 (some .boolean) ∈ WA := wr8 _ (List.mem_of_getElem? (i := 17) rfl)
theorem wt_8_17 : Cond.code yX1_has cX1_has 2 (some .boolean) ∈ lw_tbl := tb2 _ (List.mem_of_getElem? (i := 136) rfl)
theorem wd_8_18 : Cond.methodLink RX5 198 yX5_checkBerth ∈ WA := wr8 _ (List.mem_of_getElem? (i := 18) rfl)
theorem wt_8_18 : Cond.methodLink RX5 198 yX5_checkBerth ∈ lw_tbl := tb3 _ (List.mem_of_getElem? (i := 83) rfl)
theorem wd_8_19 : Cond.instanceMethod yX5_checkBerth ∈ WA := wr8 _ (List.mem_of_getElem? (i := 19) rfl)
theorem wt_8_19 : Cond.instanceMethod yX5_checkBerth ∈ lw_tbl := tb3 _ (List.mem_of_getElem? (i := 85) rfl)
theorem wd_8_20 : Cond.selects RX5 yX5_checkBerth yX5_checkBerth ∈ WA := wr8 _ (List.mem_of_getElem? (i := 20) rfl)
theorem wt_8_20 : Cond.selects RX5 yX5_checkBerth yX5_checkBerth ∈ lw_tbl := ts1 _ (List.mem_of_getElem? (i := 8) rfl)
theorem wd_8_21 : Cond.code yX5_checkBerth cX5_checkBerth 2 none ∈ WA := wr8 _ (List.mem_of_getElem? (i := 21) rfl)
theorem wt_8_21 : Cond.code yX5_checkBerth cX5_checkBerth 2 none ∈ lw_tbl := tb3 _ (List.mem_of_getElem? (i := 86) rfl)
theorem wd_8_22 : Cond.methodLink RX5 157 yX5_liftBar ∈ WA := wr8 _ (List.mem_of_getElem? (i := 22) rfl)
theorem wt_8_22 : Cond.methodLink RX5 157 yX5_liftBar ∈ lw_tbl := tb4 _ (List.mem_of_getElem? (i := 42) rfl)
theorem wd_8_23 : Cond.instanceMethod yX5_liftBar ∈ WA := wr8 _ (List.mem_of_getElem? (i := 23) rfl)
theorem wt_8_23 : Cond.instanceMethod yX5_liftBar ∈ lw_tbl := tb4 _ (List.mem_of_getElem? (i := 44) rfl)
theorem wc8 : ∀ w ∈ wsL_law0_r8, w ∈ lw_tbl := List.forall_mem_cons.mpr ⟨wt_8_0, List.forall_mem_cons.mpr ⟨wt_8_1, List.forall_mem_cons.mpr ⟨wt_8_2, List.forall_mem_cons.mpr ⟨wt_8_3, List.forall_mem_cons.mpr ⟨wt_8_4, List.forall_mem_cons.mpr ⟨wt_8_5, List.forall_mem_cons.mpr ⟨wt_8_6, List.forall_mem_cons.mpr ⟨wt_8_7, List.forall_mem_cons.mpr ⟨wt_8_8, List.forall_mem_cons.mpr ⟨wt_8_9, List.forall_mem_cons.mpr ⟨wt_8_10, List.forall_mem_cons.mpr ⟨wt_8_11, List.forall_mem_cons.mpr ⟨wt_8_12, List.forall_mem_cons.mpr ⟨wt_8_13, List.forall_mem_cons.mpr ⟨wt_8_14, List.forall_mem_cons.mpr ⟨wt_8_15, List.forall_mem_cons.mpr ⟨wt_8_16, List.forall_mem_cons.mpr ⟨wt_8_17, List.forall_mem_cons.mpr ⟨wt_8_18, List.forall_mem_cons.mpr ⟨wt_8_19, List.forall_mem_cons.mpr ⟨wt_8_20, List.forall_mem_cons.mpr ⟨wt_8_21, List.forall_mem_cons.mpr ⟨wt_8_22, List.forall_mem_cons.mpr ⟨wt_8_23, fun _ h => absurd h List.not_mem_nil⟩⟩⟩⟩⟩⟩⟩⟩⟩⟩⟩⟩⟩⟩⟩⟩⟩⟩⟩⟩⟩⟩⟩⟩
theorem wg8 : wsL_law0_r8.all goodWord = true := by decide +kernel
theorem wd_9_0 : Cond.selects RX5 yX5_liftBar yX5_liftBar ∈ WA := wr9 _ (List.mem_of_getElem? (i := 0) rfl)
theorem wt_9_0 : Cond.selects RX5 yX5_liftBar yX5_liftBar ∈ lw_tbl := ts2 _ (List.mem_of_getElem? (i := 10) rfl)
theorem wd_9_1 : Cond.code yX5_liftBar cX5_liftBar 5 (some .char) ∈ WA := wr9 _ (List.mem_of_getElem? (i := 1) rfl)
theorem wt_9_1 : Cond.code yX5_liftBar cX5_liftBar 5 (some .char) ∈ lw_tbl := tb4 _ (List.mem_of_getElem? (i := 45) rfl)
theorem wd_9_2 : Cond.fieldLink RX5 163 "BoatCradle$Boats" "berth" "[I" ∈ WA := wr9 _ (List.mem_of_getElem? (i := 2) rfl)
theorem wt_9_2 : Cond.fieldLink RX5 163 "BoatCradle$Boats" "berth" "[I" ∈ lw_tbl := tb1 _ (List.mem_of_getElem? (i := 105) rfl)
theorem wd_9_3 : Cond.fieldLink RX5 264 "BoatCradle$Berths" "inFront" "[I" ∈ WA := wr9 _ (List.mem_of_getElem? (i := 3) rfl)
theorem wt_9_3 : Cond.fieldLink RX5 264 "BoatCradle$Berths" "inFront" "[I" ∈ lw_tbl := tb1 _ (List.mem_of_getElem? (i := 75) rfl)
theorem wd_9_4 : Cond.methodLink RX5 241 yX0_occupied ∈ WA := wr9 _ (List.mem_of_getElem? (i := 4) rfl)
theorem wt_9_4 : Cond.methodLink RX5 241 yX0_occupied ∈ lw_tbl := tb2 _ (List.mem_of_getElem? (i := 212) rfl)
theorem wd_9_5 : Cond.instanceMethod yX0_occupied ∈ WA := wr9 _ (List.mem_of_getElem? (i := 5) rfl)
theorem wt_9_5 : Cond.instanceMethod yX0_occupied ∈ lw_tbl := tb2 _ (List.mem_of_getElem? (i := 213) rfl)
theorem wd_9_6 : Cond.selects RX0 yX0_occupied yX0_occupied ∈ WA := wr9 _ (List.mem_of_getElem? (i := 6) rfl)
theorem wt_9_6 : Cond.selects RX0 yX0_occupied yX0_occupied ∈ lw_tbl := tb2 _ (List.mem_of_getElem? (i := 214) rfl)
theorem wd_9_7 : Cond.code yX0_occupied cX0_occupied 3 (some .int) ∈ WA := wr9 _ (List.mem_of_getElem? (i := 7) rfl)
theorem wt_9_7 : Cond.code yX0_occupied cX0_occupied 3 (some .int) ∈ lw_tbl := tb2 _ (List.mem_of_getElem? (i := 215) rfl)
theorem wd_9_8 : Cond.methodLink RX5 261 yX5_holds ∈ WA := wr9 _ (List.mem_of_getElem? (i := 8) rfl)
theorem wt_9_8 : Cond.methodLink RX5 261 yX5_holds ∈ lw_tbl := tb3 _ (List.mem_of_getElem? (i := 195) rfl)
theorem wd_9_9 : Cond.static yX5_holds ∈ WA := wr9 _ (List.mem_of_getElem? (i := 9) rfl)
theorem wt_9_9 : Cond.static yX5_holds ∈ lw_tbl := tb3 _ (List.mem_of_getElem? (i := 167) rfl)
theorem wd_9_10 : Cond.code yX5_holds cX5_holds 2 (some .boolean) ∈ WA := wr9 _ (List.mem_of_getElem? (i := 10) rfl)
theorem wt_9_10 : Cond.code yX5_holds cX5_holds 2 (some .boolean) ∈ lw_tbl := tb3 _ (List.mem_of_getElem? (i := 168) rfl)
theorem wd_9_11 : Cond.methodLink RX5 267 yX5_loadBar ∈ WA := wr9 _ (List.mem_of_getElem? (i := 11) rfl)
theorem wt_9_11 : Cond.methodLink RX5 267 yX5_loadBar ∈ lw_tbl := tb3 _ (List.mem_of_getElem? (i := 204) rfl)
theorem wd_9_12 : Cond.instanceMethod yX5_loadBar ∈ WA := wr9 _ (List.mem_of_getElem? (i := 12) rfl)
theorem wt_9_12 : Cond.instanceMethod yX5_loadBar ∈ lw_tbl := tb3 _ (List.mem_of_getElem? (i := 206) rfl)
theorem wd_9_13 : Cond.selects RX5 yX5_loadBar yX5_loadBar ∈ WA := wr9 _ (List.mem_of_getElem? (i := 13) rfl)
theorem wt_9_13 : Cond.selects RX5 yX5_loadBar yX5_loadBar ∈ lw_tbl := ts2 _ (List.mem_of_getElem? (i := 4) rfl)
theorem wd_9_14 : Cond.code yX5_loadBar cX5_loadBar 3 (some .char) ∈ WA := wr9 _ (List.mem_of_getElem? (i := 14) rfl)
theorem wt_9_14 : Cond.code yX5_loadBar cX5_loadBar 3 (some .char) ∈ lw_tbl := tb3 _ (List.mem_of_getElem? (i := 207) rfl)
theorem wd_9_15 : Cond.fieldLink RX5 274 "BoatCradle$Boats" "weight" "[I" ∈ WA := wr9 _ (List.mem_of_getElem? (i := 15) rfl)
theorem wt_9_15 : Cond.fieldLink RX5 274 "BoatCradle$Boats" "weight" "[I" ∈ lw_tbl := tb1 _ (List.mem_of_getElem? (i := 100) rfl)
theorem wd_9_16 : Cond.fieldLink RX5 281 "BoatCradle$Berths" "weight" "[I" ∈ WA := wr9 _ (List.mem_of_getElem? (i := 16) rfl)
theorem wt_9_16 : Cond.fieldLink RX5 281 "BoatCradle$Berths" "weight" "[I" ∈ lw_tbl := tb1 _ (List.mem_of_getElem? (i := 71) rfl)
theorem wd_9_17 : Cond.fieldLink RX5 282 "BoatCradle$Boats" "length" "[I" ∈ WA := wr9 _ (List.mem_of_getElem? (i := 17) rfl)
theorem wt_9_17 : Cond.fieldLink RX5 282 "BoatCradle$Boats" "length" "[I" ∈ lw_tbl := tb1 _ (List.mem_of_getElem? (i := 102) rfl)
theorem wd_9_18 : Cond.fieldLink RX5 285 "BoatCradle$Berths" "length" "[I" ∈ WA := wr9 _ (List.mem_of_getElem? (i := 18) rfl)
theorem wt_9_18 : Cond.fieldLink RX5 285 "BoatCradle$Berths" "length" "[I" ∈ lw_tbl := tb1 _ (List.mem_of_getElem? (i := 73) rfl)
theorem wd_9_19 : Cond.methodLink RX5 145 yX5_enoughWater ∈ WA := wr9 _ (List.mem_of_getElem? (i := 19) rfl)
theorem wt_9_19 : Cond.methodLink RX5 145 yX5_enoughWater ∈ lw_tbl := tb2 _ (List.mem_of_getElem? (i := 155) rfl)
theorem wd_9_20 : Cond.instanceMethod yX5_enoughWater ∈ WA := wr9 _ (List.mem_of_getElem? (i := 20) rfl)
theorem wt_9_20 : Cond.instanceMethod yX5_enoughWater ∈ lw_tbl := tb2 _ (List.mem_of_getElem? (i := 157) rfl)
theorem wd_9_21 : Cond.selects RX5 yX5_enoughWater yX5_enoughWater ∈ WA := wr9 _ (List.mem_of_getElem? (i := 21) rfl)
theorem wt_9_21 : Cond.selects RX5 yX5_enoughWater yX5_enoughWater ∈ lw_tbl := ts1 _ (List.mem_of_getElem? (i := 5) rfl)
theorem wd_9_22 : Cond.code yX5_enoughWater cX5_enoughWater 3 (some .boolean) ∈ WA := wr9 _ (List.mem_of_getElem? (i := 22) rfl)
theorem wt_9_22 : Cond.code yX5_enoughWater cX5_enoughWater 3 (some .boolean) ∈ lw_tbl := tb2 _ (List.mem_of_getElem? (i := 158) rfl)
theorem wd_9_23 : Cond.fieldLink RX5 258 "BoatCradle$Boats" "draught" "[I" ∈ WA := wr9 _ (List.mem_of_getElem? (i := 23) rfl)
theorem wt_9_23 : Cond.fieldLink RX5 258 "BoatCradle$Boats" "draught" "[I" ∈ lw_tbl := tb1 _ (List.mem_of_getElem? (i := 98) rfl)
theorem wc9 : ∀ w ∈ wsL_law0_r9, w ∈ lw_tbl := List.forall_mem_cons.mpr ⟨wt_9_0, List.forall_mem_cons.mpr ⟨wt_9_1, List.forall_mem_cons.mpr ⟨wt_9_2, List.forall_mem_cons.mpr ⟨wt_9_3, List.forall_mem_cons.mpr ⟨wt_9_4, List.forall_mem_cons.mpr ⟨wt_9_5, List.forall_mem_cons.mpr ⟨wt_9_6, List.forall_mem_cons.mpr ⟨wt_9_7, List.forall_mem_cons.mpr ⟨wt_9_8, List.forall_mem_cons.mpr ⟨wt_9_9, List.forall_mem_cons.mpr ⟨wt_9_10, List.forall_mem_cons.mpr ⟨wt_9_11, List.forall_mem_cons.mpr ⟨wt_9_12, List.forall_mem_cons.mpr ⟨wt_9_13, List.forall_mem_cons.mpr ⟨wt_9_14, List.forall_mem_cons.mpr ⟨wt_9_15, List.forall_mem_cons.mpr ⟨wt_9_16, List.forall_mem_cons.mpr ⟨wt_9_17, List.forall_mem_cons.mpr ⟨wt_9_18, List.forall_mem_cons.mpr ⟨wt_9_19, List.forall_mem_cons.mpr ⟨wt_9_20, List.forall_mem_cons.mpr ⟨wt_9_21, List.forall_mem_cons.mpr ⟨wt_9_22, List.forall_mem_cons.mpr ⟨wt_9_23, fun _ h => absurd h List.not_mem_nil⟩⟩⟩⟩⟩⟩⟩⟩⟩⟩⟩⟩⟩⟩⟩⟩⟩⟩⟩⟩⟩⟩⟩⟩
theorem wg9 : wsL_law0_r9.all goodWord = true := by decide +kernel
theorem wd_10_0 : Cond.methodLink RX5 270 yX5_hourBar ∈ WA := wr10 _ (List.mem_of_getElem? (i := 0) rfl)
theorem wt_10_0 : Cond.methodLink RX5 270 yX5_hourBar ∈ lw_tbl := tb2 _ (List.mem_of_getElem? (i := 216) rfl)
theorem wd_10_1 : Cond.instanceMethod yX5_hourBar ∈ WA := wr10 _ (List.mem_of_getElem? (i := 1) rfl)
theorem wt_10_1 : Cond.instanceMethod yX5_hourBar ∈ lw_tbl := tb2 _ (List.mem_of_getElem? (i := 218) rfl)
theorem wd_10_2 : Cond.selects RX5 yX5_hourBar yX5_hourBar ∈ WA := wr10 _ (List.mem_of_getElem? (i := 2) rfl)
theorem wt_10_2 : Cond.selects RX5 yX5_hourBar yX5_hourBar ∈ lw_tbl := ts1 _ (List.mem_of_getElem? (i := 7) rfl)
theorem wd_10_3 : Cond.code yX5_hourBar cX5_hourBar 1 (some .char) ∈ WA := wr10 _ (List.mem_of_getElem? (i := 3) rfl)
theorem wt_10_3 : Cond.code yX5_hourBar cX5_hourBar 1 (some .char) ∈ lw_tbl := tb2 _ (List.mem_of_getElem? (i := 219) rfl)
theorem wd_10_4 : Cond.methodLink RX5 132 yX4_badAt ∈ WA := wr10 _ (List.mem_of_getElem? (i := 4) rfl)
theorem wt_10_4 : Cond.methodLink RX5 132 yX4_badAt ∈ lw_tbl := tb2 _ (List.mem_of_getElem? (i := 90) rfl)
theorem wd_10_5 : Cond.instanceMethod yX4_badAt ∈ WA := wr10 _ (List.mem_of_getElem? (i := 5) rfl)
theorem wt_10_5 : Cond.instanceMethod yX4_badAt ∈ lw_tbl := tb2 _ (List.mem_of_getElem? (i := 91) rfl)
theorem wd_10_6 : Cond.selects RX4 yX4_badAt yX4_badAt ∈ WA := wr10 _ (List.mem_of_getElem? (i := 6) rfl)
theorem wt_10_6 : Cond.selects RX4 yX4_badAt yX4_badAt ∈ lw_tbl := tb2 _ (List.mem_of_getElem? (i := 92) rfl)
theorem wd_10_7 : Cond.code yX4_badAt cX4_badAt 3 (some .boolean) ∈ WA := wr10 _ (List.mem_of_getElem? (i := 7) rfl)
theorem wt_10_7 : Cond.code yX4_badAt cX4_badAt 3 (some .boolean) ∈ lw_tbl := tb2 _ (List.mem_of_getElem? (i := 93) rfl)
theorem wd_10_8 : Cond.methodLink RL 134 yL_state ∈ WA := wr10 _ (List.mem_of_getElem? (i := 8) rfl)
theorem wt_10_8 : Cond.methodLink RL 134 yL_state ∈ lw_tbl := tb3 _ (List.mem_of_getElem? (i := 61) rfl)
theorem wd_10_9 : Cond.static yL_state ∈ WA := wr10 _ (List.mem_of_getElem? (i := 9) rfl)
theorem wt_10_9 : Cond.static yL_state ∈ lw_tbl := tb3 _ (List.mem_of_getElem? (i := 62) rfl)
theorem wd_10_10 : Cond.codeWith yL_state cL_state 3 (some .int) [(0, 5, 6, 20)] ∈ WA := wr10 _ (List.mem_of_getElem? (i := 10) rfl)
theorem wt_10_10 : Cond.codeWith yL_state cL_state 3 (some .int) [(0, 5, 6, 20)] ∈ lw_tbl := tb3 _ (List.mem_of_getElem? (i := 63) rfl)
theorem wd_10_11 : Cond.methodLink RL 86 yX5_state ∈ WA := wr10 _ (List.mem_of_getElem? (i := 11) rfl)
theorem wt_10_11 : Cond.methodLink RL 86 yX5_state ∈ lw_tbl := tb3 _ (List.mem_of_getElem? (i := 64) rfl)
theorem wd_10_12 : Cond.instanceMethod yX5_state ∈ WA := wr10 _ (List.mem_of_getElem? (i := 12) rfl)
theorem wt_10_12 : Cond.instanceMethod yX5_state ∈ lw_tbl := tb3 _ (List.mem_of_getElem? (i := 65) rfl)
theorem wd_10_13 : Cond.selects RX5 yX5_state yX5_state ∈ WA := wr10 _ (List.mem_of_getElem? (i := 13) rfl)
theorem wt_10_13 : Cond.selects RX5 yX5_state yX5_state ∈ lw_tbl := tb3 _ (List.mem_of_getElem? (i := 66) rfl)
theorem wd_10_14 : Cond.code yX5_state cX5_state 2 (some .char) ∈ WA := wr10 _ (List.mem_of_getElem? (i := 14) rfl)
theorem wt_10_14 : Cond.code yX5_state cX5_state 2 (some .char) ∈ lw_tbl := tb3 _ (List.mem_of_getElem? (i := 67) rfl)
theorem wd_10_15 : Cond.methodLink RL 138 yL_boatIn ∈ WA := wr10 _ (List.mem_of_getElem? (i := 15) rfl)
theorem wt_10_15 : Cond.methodLink RL 138 yL_boatIn ∈ lw_tbl := tb3 _ (List.mem_of_getElem? (i := 76) rfl)
theorem wd_10_16 : Cond.static yL_boatIn ∈ WA := wr10 _ (List.mem_of_getElem? (i := 16) rfl)
theorem wt_10_16 : Cond.static yL_boatIn ∈ lw_tbl := tb3 _ (List.mem_of_getElem? (i := 77) rfl)
theorem wd_10_17 : Cond.codeWith yL_boatIn cL_boatIn 3 (some .int) [(0, 5, 6, 20), (0, 5, 11, 57)] ∈ WA := wr10 _ (List.mem_of_getElem? (i := 17) rfl)
theorem wt_10_17 : Cond.codeWith yL_boatIn cL_boatIn 3 (some .int) [(0, 5, 6, 20), (0, 5, 11, 57)] ∈ lw_tbl := tb3 _ (List.mem_of_getElem? (i := 78) rfl)
theorem wd_10_18 : Cond.classLink RL 57 "java/util/NoSuchElementException" ∈ WA := wr10 _ (List.mem_of_getElem? (i := 18) rfl)
theorem wt_10_18 : Cond.classLink RL 57 "java/util/NoSuchElementException" ∈ lw_tbl := tb2 _ (List.mem_of_getElem? (i := 176) rfl)
theorem wd_10_19 : Cond.methodLink RL 92 yX5_boatIn ∈ WA := wr10 _ (List.mem_of_getElem? (i := 19) rfl)
theorem wt_10_19 : Cond.methodLink RL 92 yX5_boatIn ∈ lw_tbl := tb3 _ (List.mem_of_getElem? (i := 79) rfl)
theorem wd_10_20 : Cond.instanceMethod yX5_boatIn ∈ WA := wr10 _ (List.mem_of_getElem? (i := 20) rfl)
theorem wt_10_20 : Cond.instanceMethod yX5_boatIn ∈ lw_tbl := tb3 _ (List.mem_of_getElem? (i := 80) rfl)
theorem wd_10_21 : Cond.selects RX5 yX5_boatIn yX5_boatIn ∈ WA := wr10 _ (List.mem_of_getElem? (i := 21) rfl)
theorem wt_10_21 : Cond.selects RX5 yX5_boatIn yX5_boatIn ∈ lw_tbl := tb3 _ (List.mem_of_getElem? (i := 81) rfl)
theorem wd_10_22 : Cond.code yX5_boatIn cX5_boatIn 2 (some .int) ∈ WA := wr10 _ (List.mem_of_getElem? (i := 22) rfl)
theorem wt_10_22 : Cond.code yX5_boatIn cX5_boatIn 2 (some .int) ∈ lw_tbl := tb3 _ (List.mem_of_getElem? (i := 82) rfl)
theorem wd_10_23 : Cond.classLink RX5 149 "java/util/NoSuchElementException" ∈ WA := wr10 _ (List.mem_of_getElem? (i := 23) rfl)
theorem wt_10_23 : Cond.classLink RX5 149 "java/util/NoSuchElementException" ∈ lw_tbl := tb2 _ (List.mem_of_getElem? (i := 181) rfl)
theorem wc10 : ∀ w ∈ wsL_law0_r10, w ∈ lw_tbl := List.forall_mem_cons.mpr ⟨wt_10_0, List.forall_mem_cons.mpr ⟨wt_10_1, List.forall_mem_cons.mpr ⟨wt_10_2, List.forall_mem_cons.mpr ⟨wt_10_3, List.forall_mem_cons.mpr ⟨wt_10_4, List.forall_mem_cons.mpr ⟨wt_10_5, List.forall_mem_cons.mpr ⟨wt_10_6, List.forall_mem_cons.mpr ⟨wt_10_7, List.forall_mem_cons.mpr ⟨wt_10_8, List.forall_mem_cons.mpr ⟨wt_10_9, List.forall_mem_cons.mpr ⟨wt_10_10, List.forall_mem_cons.mpr ⟨wt_10_11, List.forall_mem_cons.mpr ⟨wt_10_12, List.forall_mem_cons.mpr ⟨wt_10_13, List.forall_mem_cons.mpr ⟨wt_10_14, List.forall_mem_cons.mpr ⟨wt_10_15, List.forall_mem_cons.mpr ⟨wt_10_16, List.forall_mem_cons.mpr ⟨wt_10_17, List.forall_mem_cons.mpr ⟨wt_10_18, List.forall_mem_cons.mpr ⟨wt_10_19, List.forall_mem_cons.mpr ⟨wt_10_20, List.forall_mem_cons.mpr ⟨wt_10_21, List.forall_mem_cons.mpr ⟨wt_10_22, List.forall_mem_cons.mpr ⟨wt_10_23, fun _ h => absurd h List.not_mem_nil⟩⟩⟩⟩⟩⟩⟩⟩⟩⟩⟩⟩⟩⟩⟩⟩⟩⟩⟩⟩⟩⟩⟩⟩
theorem wg10 : wsL_law0_r10.all goodWord = true := by decide +kernel
theorem wd_11_0 : Cond.initialized "java/util/NoSuchElementException" ∈ WA := wr11 _ (List.mem_of_getElem? (i := 0) rfl)
theorem wt_11_0 : Cond.initialized "java/util/NoSuchElementException" ∈ lw_tbl := tb1 _ (List.mem_of_getElem? (i := 16) rfl)
theorem wd_11_1 : Cond.fieldLink RX5 167 "BoatCradle$Berths" "boat" "[I" ∈ WA := wr11 _ (List.mem_of_getElem? (i := 1) rfl)
theorem wt_11_1 : Cond.fieldLink RX5 167 "BoatCradle$Berths" "boat" "[I" ∈ lw_tbl := tb1 _ (List.mem_of_getElem? (i := 77) rfl)
theorem wd_11_2 : Cond.methodLink RL 164 yL_lift ∈ WA := wr11 _ (List.mem_of_getElem? (i := 2) rfl)
theorem wt_11_2 : Cond.methodLink RL 164 yL_lift ∈ lw_tbl := tb4 _ (List.mem_of_getElem? (i := 46) rfl)
theorem wd_11_3 : Cond.static yL_lift ∈ WA := wr11 _ (List.mem_of_getElem? (i := 3) rfl)
theorem wt_11_3 : Cond.static yL_lift ∈ lw_tbl := tb4 _ (List.mem_of_getElem? (i := 47) rfl)
theorem wd_11_4 : Cond.codeWith yL_lift cL_lift 4 (some .int) [(0, 6, 7, 20), (0, 6, 12, 24)] ∈ WA := wr11 _ (List.mem_of_getElem? (i := 4) rfl)
theorem wt_11_4 : Cond.codeWith yL_lift cL_lift 4 (some .int) [(0, 6, 7, 20), (0, 6, 12, 24)] ∈ lw_tbl := tb4 _ (List.mem_of_getElem? (i := 48) rfl)
theorem wd_11_5 : Cond.methodLink RL 59 yX5_lift ∈ WA := wr11 _ (List.mem_of_getElem? (i := 5) rfl)
theorem wt_11_5 : Cond.methodLink RL 59 yX5_lift ∈ lw_tbl := tb4 _ (List.mem_of_getElem? (i := 49) rfl)
theorem wd_11_6 : Cond.instanceMethod yX5_lift ∈ WA := wr11 _ (List.mem_of_getElem? (i := 6) rfl)
theorem wt_11_6 : Cond.instanceMethod yX5_lift ∈ lw_tbl := tb4 _ (List.mem_of_getElem? (i := 50) rfl)
theorem wd_11_7 : Cond.selects RX5 yX5_lift yX5_lift ∈ WA := wr11 _ (List.mem_of_getElem? (i := 7) rfl)
theorem wt_11_7 : Cond.selects RX5 yX5_lift yX5_lift ∈ lw_tbl := tb4 _ (List.mem_of_getElem? (i := 51) rfl)
theorem wd_11_8 : Cond.code yX5_lift cX5_lift 3 (some .int) ∈ WA := wr11 _ (List.mem_of_getElem? (i := 8) rfl)
theorem wt_11_8 : Cond.code yX5_lift cX5_lift 3 (some .int) ∈ lw_tbl := tb4 _ (List.mem_of_getElem? (i := 52) rfl)
theorem wd_11_9 : Cond.methodLink RX5 170 yX5_countMove ∈ WA := wr11 _ (List.mem_of_getElem? (i := 9) rfl)
theorem wt_11_9 : Cond.methodLink RX5 170 yX5_countMove ∈ lw_tbl := tb3 _ (List.mem_of_getElem? (i := 235) rfl)
theorem wd_11_10 : Cond.instanceMethod yX5_countMove ∈ WA := wr11 _ (List.mem_of_getElem? (i := 10) rfl)
theorem wt_11_10 : Cond.instanceMethod yX5_countMove ∈ lw_tbl := tb3 _ (List.mem_of_getElem? (i := 237) rfl)
theorem wd_11_11 : Cond.selects RX5 yX5_countMove yX5_countMove ∈ WA := wr11 _ (List.mem_of_getElem? (i := 11) rfl)
theorem wt_11_11 : Cond.selects RX5 yX5_countMove yX5_countMove ∈ lw_tbl := ts2 _ (List.mem_of_getElem? (i := 7) rfl)
theorem wd_11_12 : Cond.code yX5_countMove cX5_countMove 2 (some .int) ∈ WA := wr11 _ (List.mem_of_getElem? (i := 12) rfl)
theorem wt_11_12 : Cond.code yX5_countMove cX5_countMove 2 (some .int) ∈ lw_tbl := tb3 _ (List.mem_of_getElem? (i := 238) rfl)
theorem wd_11_13 : Cond.methodLink RL 136 yL_berthOf ∈ WA := wr11 _ (List.mem_of_getElem? (i := 13) rfl)
theorem wt_11_13 : Cond.methodLink RL 136 yL_berthOf ∈ lw_tbl := tb3 _ (List.mem_of_getElem? (i := 68) rfl)
theorem wd_11_14 : Cond.static yL_berthOf ∈ WA := wr11 _ (List.mem_of_getElem? (i := 14) rfl)
theorem wt_11_14 : Cond.static yL_berthOf ∈ lw_tbl := tb3 _ (List.mem_of_getElem? (i := 69) rfl)
theorem wd_11_15 : Cond.codeWith yL_berthOf cL_berthOf 3 (some .int) [(0, 5, 6, 20), (0, 5, 11, 57)] ∈ WA := wr11 _ (List.mem_of_getElem? (i := 15) rfl)
theorem wt_11_15 : Cond.codeWith yL_berthOf cL_berthOf 3 (some .int) [(0, 5, 6, 20), (0, 5, 11, 57)] ∈ lw_tbl := tb3 _ (List.mem_of_getElem? (i := 70) rfl)
theorem wd_11_16 : Cond.methodLink RL 89 yX5_berthOf ∈ WA := wr11 _ (List.mem_of_getElem? (i := 16) rfl)
theorem wt_11_16 : Cond.methodLink RL 89 yX5_berthOf ∈ lw_tbl := tb3 _ (List.mem_of_getElem? (i := 71) rfl)
theorem wd_11_17 : Cond.instanceMethod yX5_berthOf ∈ WA := wr11 _ (List.mem_of_getElem? (i := 17) rfl)
theorem wt_11_17 : Cond.instanceMethod yX5_berthOf ∈ lw_tbl := tb3 _ (List.mem_of_getElem? (i := 72) rfl)
theorem wd_11_18 : Cond.selects RX5 yX5_berthOf yX5_berthOf ∈ WA := wr11 _ (List.mem_of_getElem? (i := 18) rfl)
theorem wt_11_18 : Cond.selects RX5 yX5_berthOf yX5_berthOf ∈ lw_tbl := tb3 _ (List.mem_of_getElem? (i := 73) rfl)
theorem wd_11_19 : Cond.code yX5_berthOf cX5_berthOf 2 (some .int) ∈ WA := wr11 _ (List.mem_of_getElem? (i := 19) rfl)
theorem wt_11_19 : Cond.code yX5_berthOf cX5_berthOf 2 (some .int) ∈ lw_tbl := tb3 _ (List.mem_of_getElem? (i := 74) rfl)
theorem wd_11_20 : Cond.methodLink RL 140 yL_dryLeft ∈ WA := wr11 _ (List.mem_of_getElem? (i := 20) rfl)
theorem wt_11_20 : Cond.methodLink RL 140 yL_dryLeft ∈ lw_tbl := tb2 _ (List.mem_of_getElem? (i := 228) rfl)
theorem wd_11_21 : Cond.static yL_dryLeft ∈ WA := wr11 _ (List.mem_of_getElem? (i := 21) rfl)
theorem wt_11_21 : Cond.static yL_dryLeft ∈ lw_tbl := tb2 _ (List.mem_of_getElem? (i := 229) rfl)
theorem wd_11_22 : Cond.codeWith yL_dryLeft cL_dryLeft 3 (some .int) [(0, 5, 6, 20)] ∈ WA := wr11 _ (List.mem_of_getElem? (i := 22) rfl)
theorem wt_11_22 : Cond.codeWith yL_dryLeft cL_dryLeft 3 (some .int) [(0, 5, 6, 20)] ∈ lw_tbl := tb2 _ (List.mem_of_getElem? (i := 230) rfl)
theorem wd_11_23 : Cond.methodLink RL 98 yX5_dryLeft ∈ WA := wr11 _ (List.mem_of_getElem? (i := 23) rfl)
theorem wt_11_23 : Cond.methodLink RL 98 yX5_dryLeft ∈ lw_tbl := tb2 _ (List.mem_of_getElem? (i := 231) rfl)
theorem wc11 : ∀ w ∈ wsL_law0_r11, w ∈ lw_tbl := List.forall_mem_cons.mpr ⟨wt_11_0, List.forall_mem_cons.mpr ⟨wt_11_1, List.forall_mem_cons.mpr ⟨wt_11_2, List.forall_mem_cons.mpr ⟨wt_11_3, List.forall_mem_cons.mpr ⟨wt_11_4, List.forall_mem_cons.mpr ⟨wt_11_5, List.forall_mem_cons.mpr ⟨wt_11_6, List.forall_mem_cons.mpr ⟨wt_11_7, List.forall_mem_cons.mpr ⟨wt_11_8, List.forall_mem_cons.mpr ⟨wt_11_9, List.forall_mem_cons.mpr ⟨wt_11_10, List.forall_mem_cons.mpr ⟨wt_11_11, List.forall_mem_cons.mpr ⟨wt_11_12, List.forall_mem_cons.mpr ⟨wt_11_13, List.forall_mem_cons.mpr ⟨wt_11_14, List.forall_mem_cons.mpr ⟨wt_11_15, List.forall_mem_cons.mpr ⟨wt_11_16, List.forall_mem_cons.mpr ⟨wt_11_17, List.forall_mem_cons.mpr ⟨wt_11_18, List.forall_mem_cons.mpr ⟨wt_11_19, List.forall_mem_cons.mpr ⟨wt_11_20, List.forall_mem_cons.mpr ⟨wt_11_21, List.forall_mem_cons.mpr ⟨wt_11_22, List.forall_mem_cons.mpr ⟨wt_11_23, fun _ h => absurd h List.not_mem_nil⟩⟩⟩⟩⟩⟩⟩⟩⟩⟩⟩⟩⟩⟩⟩⟩⟩⟩⟩⟩⟩⟩⟩⟩
theorem wg11 : wsL_law0_r11.all goodWord = true := by decide +kernel
theorem wd_12_0 : Cond.instanceMethod yX5_dryLeft ∈ WA := wr12 _ (List.mem_of_getElem? (i := 0) rfl)
theorem wt_12_0 : Cond.instanceMethod yX5_dryLeft ∈ lw_tbl := tb2 _ (List.mem_of_getElem? (i := 232) rfl)
theorem wd_12_1 : Cond.selects RX5 yX5_dryLeft yX5_dryLeft ∈ WA := wr12 _ (List.mem_of_getElem? (i := 1) rfl)
theorem wt_12_1 : Cond.selects RX5 yX5_dryLeft yX5_dryLeft ∈ lw_tbl := tb2 _ (List.mem_of_getElem? (i := 233) rfl)
theorem wd_12_2 : Cond.code yX5_dryLeft cX5_dryLeft 2 (some .int) ∈ WA := wr12 _ (List.mem_of_getElem? (i := 2) rfl)
theorem wt_12_2 : Cond.code yX5_dryLeft cX5_dryLeft 2 (some .int) ∈ lw_tbl := tb2 _ (List.mem_of_getElem? (i := 234) rfl)
theorem wd_12_3 : Cond.fieldLink RX5 205 "BoatCradle$Boats" "left" "[I" ∈ WA := wr12 _ (List.mem_of_getElem? (i := 3) rfl)
theorem wt_12_3 : Cond.fieldLink RX5 205 "BoatCradle$Boats" "left" "[I" ∈ lw_tbl := tb1 _ (List.mem_of_getElem? (i := 107) rfl)
theorem wd_12_4 : Cond.methodLink RL 149 yL_leastShifted ∈ WA := wr12 _ (List.mem_of_getElem? (i := 4) rfl)
theorem wt_12_4 : Cond.methodLink RL 149 yL_leastShifted ∈ lw_tbl := tb3 _ (List.mem_of_getElem? (i := 124) rfl)
theorem wd_12_5 : Cond.static yL_leastShifted ∈ WA := wr12 _ (List.mem_of_getElem? (i := 5) rfl)
theorem wt_12_5 : Cond.static yL_leastShifted ∈ lw_tbl := tb3 _ (List.mem_of_getElem? (i := 125) rfl)
theorem wd_12_6 : Cond.codeWith yL_leastShifted cL_leastShifted 3 (some .int) [(0, 5, 6, 20), (0, 5, 11, 24), (0, 5, 16, 57)] ∈ WA := wr12 _ (List.mem_of_getElem? (i := 6) rfl)
theorem wt_12_6 : Cond.codeWith yL_leastShifted cL_leastShifted 3 (some .int) [(0, 5, 6, 20), (0, 5, 11, 24), (0, 5, 16, 57)] ∈ lw_tbl := tb3 _ (List.mem_of_getElem? (i := 126) rfl)
theorem wd_12_7 : Cond.methodLink RL 110 yX5_leastShifted ∈ WA := wr12 _ (List.mem_of_getElem? (i := 7) rfl)
theorem wt_12_7 : Cond.methodLink RL 110 yX5_leastShifted ∈ lw_tbl := tb3 _ (List.mem_of_getElem? (i := 127) rfl)
theorem wd_12_8 : Cond.instanceMethod yX5_leastShifted ∈ WA := wr12 _ (List.mem_of_getElem? (i := 8) rfl)
theorem wt_12_8 : Cond.instanceMethod yX5_leastShifted ∈ lw_tbl := tb3 _ (List.mem_of_getElem? (i := 128) rfl)
theorem wd_12_9 : Cond.selects RX5 yX5_leastShifted yX5_leastShifted ∈ WA := wr12 _ (List.mem_of_getElem? (i := 9) rfl)
theorem wt_12_9 : Cond.selects RX5 yX5_leastShifted yX5_leastShifted ∈ lw_tbl := tb3 _ (List.mem_of_getElem? (i := 129) rfl)
theorem wd_12_10 : Cond.code yX5_leastShifted cX5_leastShifted 3 (some .int) ∈ WA := wr12 _ (List.mem_of_getElem? (i := 10) rfl)
theorem wt_12_10 : Cond.code yX5_leastShifted cX5_leastShifted 3 (some .int) ∈ lw_tbl := tb3 _ (List.mem_of_getElem? (i := 130) rfl)
theorem wd_12_11 : Cond.methodLink RX5 222 yX5_checkBoatInBerth ∈ WA := wr12 _ (List.mem_of_getElem? (i := 11) rfl)
theorem wt_12_11 : Cond.methodLink RX5 222 yX5_checkBoatInBerth ∈ lw_tbl := tb3 _ (List.mem_of_getElem? (i := 131) rfl)
theorem wd_12_12 : Cond.instanceMethod yX5_checkBoatInBerth ∈ WA := wr12 _ (List.mem_of_getElem? (i := 12) rfl)
theorem wt_12_12 : Cond.instanceMethod yX5_checkBoatInBerth ∈ lw_tbl := tb3 _ (List.mem_of_getElem? (i := 133) rfl)
theorem wd_12_13 : Cond.selects RX5 yX5_checkBoatInBerth yX5_checkBoatInBerth ∈ WA := wr12 _ (List.mem_of_getElem? (i := 13) rfl)
theorem wt_12_13 : Cond.selects RX5 yX5_checkBoatInBerth yX5_checkBoatInBerth ∈ lw_tbl := ts1 _ (List.mem_of_getElem? (i := 11) rfl)
theorem wd_12_14 : Cond.code yX5_checkBoatInBerth cX5_checkBoatInBerth 2 none ∈ WA := wr12 _ (List.mem_of_getElem? (i := 14) rfl)
theorem wt_12_14 : Cond.code yX5_checkBoatInBerth cX5_checkBoatInBerth 2 none ∈ lw_tbl := tb3 _ (List.mem_of_getElem? (i := 134) rfl)
theorem wd_12_15 : Cond.methodLink RX5 225 yX5_hasClearWay ∈ WA := wr12 _ (List.mem_of_getElem? (i := 15) rfl)
theorem wt_12_15 : Cond.methodLink RX5 225 yX5_hasClearWay ∈ lw_tbl := tb3 _ (List.mem_of_getElem? (i := 135) rfl)
theorem wd_12_16 : Cond.instanceMethod yX5_hasClearWay ∈ WA := wr12 _ (List.mem_of_getElem? (i := 16) rfl)
theorem wt_12_16 : Cond.instanceMethod yX5_hasClearWay ∈ lw_tbl := tb3 _ (List.mem_of_getElem? (i := 137) rfl)
theorem wd_12_17 : Cond.selects RX5 yX5_hasClearWay yX5_hasClearWay ∈ WA := wr12 _ (List.mem_of_getElem? (i := 17) rfl)
theorem wt_12_17 : Cond.selects RX5 yX5_hasClearWay yX5_hasClearWay ∈ lw_tbl := ts1 _ (List.mem_of_getElem? (i := 12) rfl)
theorem wd_12_18 : Cond.code yX5_hasClearWay cX5_hasClearWay 3 (some .boolean) ∈ WA := wr12 _ (List.mem_of_getElem? (i := 18) rfl)
theorem wt_12_18 : Cond.code yX5_hasClearWay cX5_hasClearWay 3 (some .boolean) ∈ lw_tbl := tb3 _ (List.mem_of_getElem? (i := 138) rfl)
theorem wd_12_19 : Cond.methodLink RX5 228 yX5_leastFirst ∈ WA := wr12 _ (List.mem_of_getElem? (i := 19) rfl)
theorem wt_12_19 : Cond.methodLink RX5 228 yX5_leastFirst ∈ lw_tbl := tb3 _ (List.mem_of_getElem? (i := 139) rfl)
theorem wd_12_20 : Cond.instanceMethod yX5_leastFirst ∈ WA := wr12 _ (List.mem_of_getElem? (i := 20) rfl)
theorem wt_12_20 : Cond.instanceMethod yX5_leastFirst ∈ lw_tbl := tb3 _ (List.mem_of_getElem? (i := 141) rfl)
theorem wd_12_21 : Cond.selects RX5 yX5_leastFirst yX5_leastFirst ∈ WA := wr12 _ (List.mem_of_getElem? (i := 21) rfl)
theorem wt_12_21 : Cond.selects RX5 yX5_leastFirst yX5_leastFirst ∈ lw_tbl := ts1 _ (List.mem_of_getElem? (i := 13) rfl)
theorem wd_12_22 : Cond.code yX5_leastFirst cX5_leastFirst 4 (some .int) ∈ WA := wr12 _ (List.mem_of_getElem? (i := 22) rfl)
theorem wt_12_22 : Cond.code yX5_leastFirst cX5_leastFirst 4 (some .int) ∈ lw_tbl := tb3 _ (List.mem_of_getElem? (i := 142) rfl)
theorem wd_12_23 : Cond.fieldLink RX5 289 "BoatCradle$Places" "listed" "I" ∈ WA := wr12 _ (List.mem_of_getElem? (i := 23) rfl)
theorem wt_12_23 : Cond.fieldLink RX5 289 "BoatCradle$Places" "listed" "I" ∈ lw_tbl := tb1 _ (List.mem_of_getElem? (i := 142) rfl)
theorem wc12 : ∀ w ∈ wsL_law0_r12, w ∈ lw_tbl := List.forall_mem_cons.mpr ⟨wt_12_0, List.forall_mem_cons.mpr ⟨wt_12_1, List.forall_mem_cons.mpr ⟨wt_12_2, List.forall_mem_cons.mpr ⟨wt_12_3, List.forall_mem_cons.mpr ⟨wt_12_4, List.forall_mem_cons.mpr ⟨wt_12_5, List.forall_mem_cons.mpr ⟨wt_12_6, List.forall_mem_cons.mpr ⟨wt_12_7, List.forall_mem_cons.mpr ⟨wt_12_8, List.forall_mem_cons.mpr ⟨wt_12_9, List.forall_mem_cons.mpr ⟨wt_12_10, List.forall_mem_cons.mpr ⟨wt_12_11, List.forall_mem_cons.mpr ⟨wt_12_12, List.forall_mem_cons.mpr ⟨wt_12_13, List.forall_mem_cons.mpr ⟨wt_12_14, List.forall_mem_cons.mpr ⟨wt_12_15, List.forall_mem_cons.mpr ⟨wt_12_16, List.forall_mem_cons.mpr ⟨wt_12_17, List.forall_mem_cons.mpr ⟨wt_12_18, List.forall_mem_cons.mpr ⟨wt_12_19, List.forall_mem_cons.mpr ⟨wt_12_20, List.forall_mem_cons.mpr ⟨wt_12_21, List.forall_mem_cons.mpr ⟨wt_12_22, List.forall_mem_cons.mpr ⟨wt_12_23, fun _ h => absurd h List.not_mem_nil⟩⟩⟩⟩⟩⟩⟩⟩⟩⟩⟩⟩⟩⟩⟩⟩⟩⟩⟩⟩⟩⟩⟩⟩
theorem wg12 : wsL_law0_r12.all goodWord = true := by decide +kernel
theorem wd_13_0 : Cond.fieldLink RX5 298 "BoatCradle$Places" "weight" "[I" ∈ WA := wr13 _ (List.mem_of_getElem? (i := 0) rfl)
theorem wt_13_0 : Cond.fieldLink RX5 298 "BoatCradle$Places" "weight" "[I" ∈ lw_tbl := tb1 _ (List.mem_of_getElem? (i := 138) rfl)
theorem wd_13_1 : Cond.methodLink RX5 286 yX5_startFromNow ∈ WA := wr13 _ (List.mem_of_getElem? (i := 1) rfl)
theorem wt_13_1 : Cond.methodLink RX5 286 yX5_startFromNow ∈ lw_tbl := tb3 _ (List.mem_of_getElem? (i := 143) rfl)
theorem wd_13_2 : Cond.instanceMethod yX5_startFromNow ∈ WA := wr13 _ (List.mem_of_getElem? (i := 2) rfl)
theorem wt_13_2 : Cond.instanceMethod yX5_startFromNow ∈ lw_tbl := tb3 _ (List.mem_of_getElem? (i := 145) rfl)
theorem wd_13_3 : Cond.selects RX5 yX5_startFromNow yX5_startFromNow ∈ WA := wr13 _ (List.mem_of_getElem? (i := 3) rfl)
theorem wt_13_3 : Cond.selects RX5 yX5_startFromNow yX5_startFromNow ∈ lw_tbl := ts1 _ (List.mem_of_getElem? (i := 14) rfl)
theorem wd_13_4 : Cond.code yX5_startFromNow cX5_startFromNow 5 none ∈ WA := wr13 _ (List.mem_of_getElem? (i := 4) rfl)
theorem wt_13_4 : Cond.code yX5_startFromNow cX5_startFromNow 5 none ∈ lw_tbl := tb3 _ (List.mem_of_getElem? (i := 146) rfl)
theorem wd_13_5 : Cond.methodLink RX5 308 yX2_put ∈ WA := wr13 _ (List.mem_of_getElem? (i := 5) rfl)
theorem wt_13_5 : Cond.methodLink RX5 308 yX2_put ∈ lw_tbl := tb3 _ (List.mem_of_getElem? (i := 147) rfl)
theorem wd_13_6 : Cond.static yX2_put ∈ WA := wr13 _ (List.mem_of_getElem? (i := 6) rfl)
theorem wt_13_6 : Cond.static yX2_put ∈ lw_tbl := tb3 _ (List.mem_of_getElem? (i := 148) rfl)
theorem wd_13_7 : Cond.code yX2_put cX2_put 3 (some .int) ∈ WA := wr13 _ (List.mem_of_getElem? (i := 7) rfl)
theorem wt_13_7 : Cond.code yX2_put cX2_put 3 (some .int) ∈ lw_tbl := tb3 _ (List.mem_of_getElem? (i := 149) rfl)
theorem wd_13_8 : Cond.methodLink RX5 311 yX2_clear ∈ WA := wr13 _ (List.mem_of_getElem? (i := 8) rfl)
theorem wt_13_8 : Cond.methodLink RX5 311 yX2_clear ∈ lw_tbl := tb3 _ (List.mem_of_getElem? (i := 150) rfl)
theorem wd_13_9 : Cond.instanceMethod yX2_clear ∈ WA := wr13 _ (List.mem_of_getElem? (i := 9) rfl)
theorem wt_13_9 : Cond.instanceMethod yX2_clear ∈ lw_tbl := tb3 _ (List.mem_of_getElem? (i := 151) rfl)
theorem wd_13_10 : Cond.selects RX2 yX2_clear yX2_clear ∈ WA := wr13 _ (List.mem_of_getElem? (i := 10) rfl)
theorem wt_13_10 : Cond.selects RX2 yX2_clear yX2_clear ∈ lw_tbl := tb3 _ (List.mem_of_getElem? (i := 152) rfl)
theorem wd_13_11 : Cond.code yX2_clear cX2_clear 3 none ∈ WA := wr13 _ (List.mem_of_getElem? (i := 11) rfl)
theorem wt_13_11 : Cond.code yX2_clear cX2_clear 3 none ∈ lw_tbl := tb3 _ (List.mem_of_getElem? (i := 153) rfl)
theorem wd_13_12 : Cond.constant RX2 31 (1000000) ∈ WA := wr13 _ (List.mem_of_getElem? (i := 12) rfl)
theorem wt_13_12 : Cond.constant RX2 31 (1000000) ∈ lw_tbl := tb3 _ (List.mem_of_getElem? (i := 154) rfl)
theorem wd_13_13 : Cond.methodLink RX2 32 yJ7_fill_53178 ∈ WA := wr13 _ (List.mem_of_getElem? (i := 13) rfl)
theorem wt_13_13 : Cond.methodLink RX2 32 yJ7_fill_53178 ∈ lw_tbl := tb3 _ (List.mem_of_getElem? (i := 155) rfl)
theorem wd_13_14 : Cond.static yJ7_fill_53178 ∈ WA := wr13 _ (List.mem_of_getElem? (i := 14) rfl)
theorem wt_13_14 : Cond.static yJ7_fill_53178 ∈ lw_tbl := tb3 _ (List.mem_of_getElem? (i := 156) rfl)
theorem wd_13_15 : Cond.initialized RJ7 ∈ WA := wr13 _ (List.mem_of_getElem? (i := 15) rfl)
theorem wt_13_15 : Cond.initialized RJ7 ∈ lw_tbl := tb1 _ (List.mem_of_getElem? (i := 17) rfl)
theorem wd_13_16 : Cond.code yJ7_fill_53178 cJ7_fill_53178 4 none ∈ WA := wr13 _ (List.mem_of_getElem? (i := 16) rfl)
theorem wt_13_16 : Cond.code yJ7_fill_53178 cJ7_fill_53178 4 none ∈ lw_tbl := tb3 _ (List.mem_of_getElem? (i := 157) rfl)
theorem wd_13_17 : Cond.methodLink RX5 314 yX2_reach ∈ WA := wr13 _ (List.mem_of_getElem? (i := 17) rfl)
theorem wt_13_17 : Cond.methodLink RX5 314 yX2_reach ∈ lw_tbl := tb3 _ (List.mem_of_getElem? (i := 158) rfl)
theorem wd_13_18 : Cond.instanceMethod yX2_reach ∈ WA := wr13 _ (List.mem_of_getElem? (i := 18) rfl)
theorem wt_13_18 : Cond.instanceMethod yX2_reach ∈ lw_tbl := tb3 _ (List.mem_of_getElem? (i := 159) rfl)
theorem wd_13_19 : Cond.selects RX2 yX2_reach yX2_reach ∈ WA := wr13 _ (List.mem_of_getElem? (i := 19) rfl)
theorem wt_13_19 : Cond.selects RX2 yX2_reach yX2_reach ∈ lw_tbl := tb3 _ (List.mem_of_getElem? (i := 160) rfl)
theorem wd_13_20 : Cond.code yX2_reach cX2_reach 4 (some .boolean) ∈ WA := wr13 _ (List.mem_of_getElem? (i := 20) rfl)
theorem wt_13_20 : Cond.code yX2_reach cX2_reach 4 (some .boolean) ∈ lw_tbl := tb3 _ (List.mem_of_getElem? (i := 161) rfl)
theorem wd_13_21 : Cond.methodLink RX2 52 yX2_numberOf ∈ WA := wr13 _ (List.mem_of_getElem? (i := 21) rfl)
theorem wt_13_21 : Cond.methodLink RX2 52 yX2_numberOf ∈ lw_tbl := tb3 _ (List.mem_of_getElem? (i := 162) rfl)
theorem wd_13_22 : Cond.instanceMethod yX2_numberOf ∈ WA := wr13 _ (List.mem_of_getElem? (i := 22) rfl)
theorem wt_13_22 : Cond.instanceMethod yX2_numberOf ∈ lw_tbl := tb3 _ (List.mem_of_getElem? (i := 164) rfl)
theorem wd_13_23 : Cond.selects RX2 yX2_numberOf yX2_numberOf ∈ WA := wr13 _ (List.mem_of_getElem? (i := 23) rfl)
theorem wt_13_23 : Cond.selects RX2 yX2_numberOf yX2_numberOf ∈ lw_tbl := ts1 _ (List.mem_of_getElem? (i := 15) rfl)
theorem wc13 : ∀ w ∈ wsL_law0_r13, w ∈ lw_tbl := List.forall_mem_cons.mpr ⟨wt_13_0, List.forall_mem_cons.mpr ⟨wt_13_1, List.forall_mem_cons.mpr ⟨wt_13_2, List.forall_mem_cons.mpr ⟨wt_13_3, List.forall_mem_cons.mpr ⟨wt_13_4, List.forall_mem_cons.mpr ⟨wt_13_5, List.forall_mem_cons.mpr ⟨wt_13_6, List.forall_mem_cons.mpr ⟨wt_13_7, List.forall_mem_cons.mpr ⟨wt_13_8, List.forall_mem_cons.mpr ⟨wt_13_9, List.forall_mem_cons.mpr ⟨wt_13_10, List.forall_mem_cons.mpr ⟨wt_13_11, List.forall_mem_cons.mpr ⟨wt_13_12, List.forall_mem_cons.mpr ⟨wt_13_13, List.forall_mem_cons.mpr ⟨wt_13_14, List.forall_mem_cons.mpr ⟨wt_13_15, List.forall_mem_cons.mpr ⟨wt_13_16, List.forall_mem_cons.mpr ⟨wt_13_17, List.forall_mem_cons.mpr ⟨wt_13_18, List.forall_mem_cons.mpr ⟨wt_13_19, List.forall_mem_cons.mpr ⟨wt_13_20, List.forall_mem_cons.mpr ⟨wt_13_21, List.forall_mem_cons.mpr ⟨wt_13_22, List.forall_mem_cons.mpr ⟨wt_13_23, fun _ h => absurd h List.not_mem_nil⟩⟩⟩⟩⟩⟩⟩⟩⟩⟩⟩⟩⟩⟩⟩⟩⟩⟩⟩⟩⟩⟩⟩⟩
theorem wg13 : wsL_law0_r13.all goodWord = true := by decide +kernel
theorem wd_14_0 : Cond.code yX2_numberOf cX2_numberOf 8 (some .int) ∈ WA := wr14 _ (List.mem_of_getElem? (i := 0) rfl)
theorem wt_14_0 : Cond.code yX2_numberOf cX2_numberOf 8 (some .int) ∈ lw_tbl := tb3 _ (List.mem_of_getElem? (i := 165) rfl)
theorem wd_14_1 : Cond.methodLink RX2 42 yX2_berthAt ∈ WA := wr14 _ (List.mem_of_getElem? (i := 1) rfl)
theorem wt_14_1 : Cond.methodLink RX2 42 yX2_berthAt ∈ lw_tbl := tb3 _ (List.mem_of_getElem? (i := 169) rfl)
theorem wd_14_2 : Cond.static yX2_berthAt ∈ WA := wr14 _ (List.mem_of_getElem? (i := 2) rfl)
theorem wt_14_2 : Cond.static yX2_berthAt ∈ lw_tbl := tb3 _ (List.mem_of_getElem? (i := 170) rfl)
theorem wd_14_3 : Cond.code yX2_berthAt cX2_berthAt 2 (some .int) ∈ WA := wr14 _ (List.mem_of_getElem? (i := 3) rfl)
theorem wt_14_3 : Cond.code yX2_berthAt cX2_berthAt 2 (some .int) ∈ lw_tbl := tb3 _ (List.mem_of_getElem? (i := 171) rfl)
theorem wd_14_4 : Cond.methodLink RX2 46 yJ6_bitCount_0f7a4 ∈ WA := wr14 _ (List.mem_of_getElem? (i := 4) rfl)
theorem wt_14_4 : Cond.methodLink RX2 46 yJ6_bitCount_0f7a4 ∈ lw_tbl := tb3 _ (List.mem_of_getElem? (i := 172) rfl)
theorem wd_14_5 : Cond.static yJ6_bitCount_0f7a4 ∈ WA := wr14 _ (List.mem_of_getElem? (i := 5) rfl)
theorem wt_14_5 : Cond.static yJ6_bitCount_0f7a4 ∈ lw_tbl := tb3 _ (List.mem_of_getElem? (i := 173) rfl)
theorem wd_14_6 : Cond.initialized RJ6 ∈ WA := wr14 _ (List.mem_of_getElem? (i := 6) rfl)
theorem wt_14_6 : Cond.initialized RJ6 ∈ lw_tbl := tb1 _ (List.mem_of_getElem? (i := 18) rfl)
theorem wd_14_7 : Cond.code yJ6_bitCount_0f7a4 cJ6_bitCount_0f7a4 1 (some .int) ∈ WA := wr14 _ (List.mem_of_getElem? (i := 7) rfl)
theorem wt_14_7 : Cond.code yJ6_bitCount_0f7a4 cJ6_bitCount_0f7a4 1 (some .int) ∈ lw_tbl := tb3 _ (List.mem_of_getElem? (i := 174) rfl)
theorem wd_14_8 : Cond.constant RJ6 265 (1431655765) ∈ WA := wr14 _ (List.mem_of_getElem? (i := 8) rfl)
theorem wt_14_8 : Cond.constant RJ6 265 (1431655765) ∈ lw_tbl := tb3 _ (List.mem_of_getElem? (i := 175) rfl)
theorem wd_14_9 : Cond.constant RJ6 266 (858993459) ∈ WA := wr14 _ (List.mem_of_getElem? (i := 9) rfl)
theorem wt_14_9 : Cond.constant RJ6 266 (858993459) ∈ lw_tbl := tb3 _ (List.mem_of_getElem? (i := 176) rfl)
theorem wd_14_10 : Cond.constant RJ6 267 (252645135) ∈ WA := wr14 _ (List.mem_of_getElem? (i := 10) rfl)
theorem wt_14_10 : Cond.constant RJ6 267 (252645135) ∈ lw_tbl := tb3 _ (List.mem_of_getElem? (i := 177) rfl)
theorem wd_14_11 : Cond.methodLink RX5 292 yX2_takeLeast ∈ WA := wr14 _ (List.mem_of_getElem? (i := 11) rfl)
theorem wt_14_11 : Cond.methodLink RX5 292 yX2_takeLeast ∈ lw_tbl := tb3 _ (List.mem_of_getElem? (i := 178) rfl)
theorem wd_14_12 : Cond.instanceMethod yX2_takeLeast ∈ WA := wr14 _ (List.mem_of_getElem? (i := 12) rfl)
theorem wt_14_12 : Cond.instanceMethod yX2_takeLeast ∈ lw_tbl := tb3 _ (List.mem_of_getElem? (i := 179) rfl)
theorem wd_14_13 : Cond.selects RX2 yX2_takeLeast yX2_takeLeast ∈ WA := wr14 _ (List.mem_of_getElem? (i := 13) rfl)
theorem wt_14_13 : Cond.selects RX2 yX2_takeLeast yX2_takeLeast ∈ lw_tbl := tb3 _ (List.mem_of_getElem? (i := 180) rfl)
theorem wd_14_14 : Cond.code yX2_takeLeast cX2_takeLeast 3 (some .int) ∈ WA := wr14 _ (List.mem_of_getElem? (i := 14) rfl)
theorem wt_14_14 : Cond.code yX2_takeLeast cX2_takeLeast 3 (some .int) ∈ lw_tbl := tb3 _ (List.mem_of_getElem? (i := 181) rfl)
theorem wd_14_15 : Cond.methodLink RX5 295 yX5_isClearAt ∈ WA := wr14 _ (List.mem_of_getElem? (i := 15) rfl)
theorem wt_14_15 : Cond.methodLink RX5 295 yX5_isClearAt ∈ lw_tbl := tb3 _ (List.mem_of_getElem? (i := 182) rfl)
theorem wd_14_16 : Cond.instanceMethod yX5_isClearAt ∈ WA := wr14 _ (List.mem_of_getElem? (i := 16) rfl)
theorem wt_14_16 : Cond.instanceMethod yX5_isClearAt ∈ lw_tbl := tb3 _ (List.mem_of_getElem? (i := 184) rfl)
theorem wd_14_17 : Cond.selects RX5 yX5_isClearAt yX5_isClearAt ∈ WA := wr14 _ (List.mem_of_getElem? (i := 17) rfl)
theorem wt_14_17 : Cond.selects RX5 yX5_isClearAt yX5_isClearAt ∈ lw_tbl := ts2 _ (List.mem_of_getElem? (i := 0) rfl)
theorem wd_14_18 : Cond.code yX5_isClearAt cX5_isClearAt 5 (some .boolean) ∈ WA := wr14 _ (List.mem_of_getElem? (i := 18) rfl)
theorem wt_14_18 : Cond.code yX5_isClearAt cX5_isClearAt 5 (some .boolean) ∈ lw_tbl := tb3 _ (List.mem_of_getElem? (i := 185) rfl)
theorem wd_14_19 : Cond.fieldLink RX5 317 "BoatCradle$Places" "code" "[I" ∈ WA := wr14 _ (List.mem_of_getElem? (i := 19) rfl)
theorem wt_14_19 : Cond.fieldLink RX5 317 "BoatCradle$Places" "code" "[I" ∈ lw_tbl := tb1 _ (List.mem_of_getElem? (i := 136) rfl)
theorem wd_14_20 : Cond.methodLink RX5 320 yX2_berthAt ∈ WA := wr14 _ (List.mem_of_getElem? (i := 20) rfl)
theorem wt_14_20 : Cond.methodLink RX5 320 yX2_berthAt ∈ lw_tbl := tb3 _ (List.mem_of_getElem? (i := 186) rfl)
theorem wd_14_21 : Cond.methodLink RX5 323 yX2_occupiedAt ∈ WA := wr14 _ (List.mem_of_getElem? (i := 21) rfl)
theorem wt_14_21 : Cond.methodLink RX5 323 yX2_occupiedAt ∈ lw_tbl := tb3 _ (List.mem_of_getElem? (i := 187) rfl)
theorem wd_14_22 : Cond.instanceMethod yX2_occupiedAt ∈ WA := wr14 _ (List.mem_of_getElem? (i := 22) rfl)
theorem wt_14_22 : Cond.instanceMethod yX2_occupiedAt ∈ lw_tbl := tb3 _ (List.mem_of_getElem? (i := 188) rfl)
theorem wd_14_23 : Cond.selects RX2 yX2_occupiedAt yX2_occupiedAt ∈ WA := wr14 _ (List.mem_of_getElem? (i := 23) rfl)
theorem wt_14_23 : Cond.selects RX2 yX2_occupiedAt yX2_occupiedAt ∈ lw_tbl := tb3 _ (List.mem_of_getElem? (i := 189) rfl)
theorem wc14 : ∀ w ∈ wsL_law0_r14, w ∈ lw_tbl := List.forall_mem_cons.mpr ⟨wt_14_0, List.forall_mem_cons.mpr ⟨wt_14_1, List.forall_mem_cons.mpr ⟨wt_14_2, List.forall_mem_cons.mpr ⟨wt_14_3, List.forall_mem_cons.mpr ⟨wt_14_4, List.forall_mem_cons.mpr ⟨wt_14_5, List.forall_mem_cons.mpr ⟨wt_14_6, List.forall_mem_cons.mpr ⟨wt_14_7, List.forall_mem_cons.mpr ⟨wt_14_8, List.forall_mem_cons.mpr ⟨wt_14_9, List.forall_mem_cons.mpr ⟨wt_14_10, List.forall_mem_cons.mpr ⟨wt_14_11, List.forall_mem_cons.mpr ⟨wt_14_12, List.forall_mem_cons.mpr ⟨wt_14_13, List.forall_mem_cons.mpr ⟨wt_14_14, List.forall_mem_cons.mpr ⟨wt_14_15, List.forall_mem_cons.mpr ⟨wt_14_16, List.forall_mem_cons.mpr ⟨wt_14_17, List.forall_mem_cons.mpr ⟨wt_14_18, List.forall_mem_cons.mpr ⟨wt_14_19, List.forall_mem_cons.mpr ⟨wt_14_20, List.forall_mem_cons.mpr ⟨wt_14_21, List.forall_mem_cons.mpr ⟨wt_14_22, List.forall_mem_cons.mpr ⟨wt_14_23, fun _ h => absurd h List.not_mem_nil⟩⟩⟩⟩⟩⟩⟩⟩⟩⟩⟩⟩⟩⟩⟩⟩⟩⟩⟩⟩⟩⟩⟩⟩
theorem wg14 : wsL_law0_r14.all goodWord = true := by decide +kernel
theorem wd_15_0 : Cond.code yX2_occupiedAt cX2_occupiedAt 4 (some .int) ∈ WA := wr15 _ (List.mem_of_getElem? (i := 0) rfl)
theorem wt_15_0 : Cond.code yX2_occupiedAt cX2_occupiedAt 4 (some .int) ∈ lw_tbl := tb3 _ (List.mem_of_getElem? (i := 190) rfl)
theorem wd_15_1 : Cond.methodLink RX5 299 yX5_goOnFrom ∈ WA := wr15 _ (List.mem_of_getElem? (i := 1) rfl)
theorem wt_15_1 : Cond.methodLink RX5 299 yX5_goOnFrom ∈ lw_tbl := tb3 _ (List.mem_of_getElem? (i := 191) rfl)
theorem wd_15_2 : Cond.instanceMethod yX5_goOnFrom ∈ WA := wr15 _ (List.mem_of_getElem? (i := 2) rfl)
theorem wt_15_2 : Cond.instanceMethod yX5_goOnFrom ∈ lw_tbl := tb3 _ (List.mem_of_getElem? (i := 193) rfl)
theorem wd_15_3 : Cond.selects RX5 yX5_goOnFrom yX5_goOnFrom ∈ WA := wr15 _ (List.mem_of_getElem? (i := 3) rfl)
theorem wt_15_3 : Cond.selects RX5 yX5_goOnFrom yX5_goOnFrom ∈ lw_tbl := ts2 _ (List.mem_of_getElem? (i := 1) rfl)
theorem wd_15_4 : Cond.code yX5_goOnFrom cX5_goOnFrom 5 (some .boolean) ∈ WA := wr15 _ (List.mem_of_getElem? (i := 4) rfl)
theorem wt_15_4 : Cond.code yX5_goOnFrom cX5_goOnFrom 5 (some .boolean) ∈ lw_tbl := tb3 _ (List.mem_of_getElem? (i := 194) rfl)
theorem wd_15_5 : Cond.methodLink RX5 326 yX5_fillFrom ∈ WA := wr15 _ (List.mem_of_getElem? (i := 5) rfl)
theorem wt_15_5 : Cond.methodLink RX5 326 yX5_fillFrom ∈ lw_tbl := tb3 _ (List.mem_of_getElem? (i := 196) rfl)
theorem wd_15_6 : Cond.instanceMethod yX5_fillFrom ∈ WA := wr15 _ (List.mem_of_getElem? (i := 6) rfl)
theorem wt_15_6 : Cond.instanceMethod yX5_fillFrom ∈ lw_tbl := tb3 _ (List.mem_of_getElem? (i := 198) rfl)
theorem wd_15_7 : Cond.selects RX5 yX5_fillFrom yX5_fillFrom ∈ WA := wr15 _ (List.mem_of_getElem? (i := 7) rfl)
theorem wt_15_7 : Cond.selects RX5 yX5_fillFrom yX5_fillFrom ∈ lw_tbl := ts2 _ (List.mem_of_getElem? (i := 2) rfl)
theorem wd_15_8 : Cond.code yX5_fillFrom cX5_fillFrom 9 (some .boolean) ∈ WA := wr15 _ (List.mem_of_getElem? (i := 8) rfl)
theorem wt_15_8 : Cond.code yX5_fillFrom cX5_fillFrom 9 (some .boolean) ∈ lw_tbl := tb3 _ (List.mem_of_getElem? (i := 199) rfl)
theorem wd_15_9 : Cond.fieldLink RX5 329 "BoatCradle$Places" "berthed" "I" ∈ WA := wr15 _ (List.mem_of_getElem? (i := 9) rfl)
theorem wt_15_9 : Cond.fieldLink RX5 329 "BoatCradle$Places" "berthed" "I" ∈ lw_tbl := tb1 _ (List.mem_of_getElem? (i := 144) rfl)
theorem wd_15_10 : Cond.methodLink RX5 277 yX5_placeBar ∈ WA := wr15 _ (List.mem_of_getElem? (i := 10) rfl)
theorem wt_15_10 : Cond.methodLink RX5 277 yX5_placeBar ∈ lw_tbl := tb3 _ (List.mem_of_getElem? (i := 200) rfl)
theorem wd_15_11 : Cond.instanceMethod yX5_placeBar ∈ WA := wr15 _ (List.mem_of_getElem? (i := 11) rfl)
theorem wt_15_11 : Cond.instanceMethod yX5_placeBar ∈ lw_tbl := tb3 _ (List.mem_of_getElem? (i := 202) rfl)
theorem wd_15_12 : Cond.selects RX5 yX5_placeBar yX5_placeBar ∈ WA := wr15 _ (List.mem_of_getElem? (i := 12) rfl)
theorem wt_15_12 : Cond.selects RX5 yX5_placeBar yX5_placeBar ∈ lw_tbl := ts2 _ (List.mem_of_getElem? (i := 3) rfl)
theorem wd_15_13 : Cond.code yX5_placeBar cX5_placeBar 6 (some .char) ∈ WA := wr15 _ (List.mem_of_getElem? (i := 13) rfl)
theorem wt_15_13 : Cond.code yX5_placeBar cX5_placeBar 6 (some .char) ∈ lw_tbl := tb3 _ (List.mem_of_getElem? (i := 203) rfl)
theorem wd_15_14 : Cond.methodLink RL 155 yL_launch ∈ WA := wr15 _ (List.mem_of_getElem? (i := 14) rfl)
theorem wt_15_14 : Cond.methodLink RL 155 yL_launch ∈ lw_tbl := tb3 _ (List.mem_of_getElem? (i := 227) rfl)
theorem wd_15_15 : Cond.static yL_launch ∈ WA := wr15 _ (List.mem_of_getElem? (i := 15) rfl)
theorem wt_15_15 : Cond.static yL_launch ∈ lw_tbl := tb3 _ (List.mem_of_getElem? (i := 228) rfl)
theorem wd_15_16 : Cond.codeWith yL_launch cL_launch 3 (some .int) [(0, 5, 6, 20), (0, 5, 11, 24)] ∈ WA := wr15 _ (List.mem_of_getElem? (i := 16) rfl)
theorem wt_15_16 : Cond.codeWith yL_launch cL_launch 3 (some .int) [(0, 5, 6, 20), (0, 5, 11, 24)] ∈ lw_tbl := tb3 _ (List.mem_of_getElem? (i := 229) rfl)
theorem wd_15_17 : Cond.methodLink RL 66 yX5_launch ∈ WA := wr15 _ (List.mem_of_getElem? (i := 17) rfl)
theorem wt_15_17 : Cond.methodLink RL 66 yX5_launch ∈ lw_tbl := tb3 _ (List.mem_of_getElem? (i := 230) rfl)
theorem wd_15_18 : Cond.instanceMethod yX5_launch ∈ WA := wr15 _ (List.mem_of_getElem? (i := 18) rfl)
theorem wt_15_18 : Cond.instanceMethod yX5_launch ∈ lw_tbl := tb3 _ (List.mem_of_getElem? (i := 231) rfl)
theorem wd_15_19 : Cond.selects RX5 yX5_launch yX5_launch ∈ WA := wr15 _ (List.mem_of_getElem? (i := 19) rfl)
theorem wt_15_19 : Cond.selects RX5 yX5_launch yX5_launch ∈ lw_tbl := tb3 _ (List.mem_of_getElem? (i := 232) rfl)
theorem wd_15_20 : Cond.code yX5_launch cX5_launch 3 (some .int) ∈ WA := wr15 _ (List.mem_of_getElem? (i := 20) rfl)
theorem wt_15_20 : Cond.code yX5_launch cX5_launch 3 (some .int) ∈ lw_tbl := tb3 _ (List.mem_of_getElem? (i := 233) rfl)
theorem wd_15_21 : Cond.methodLink RX5 173 yX5_launchBar ∈ WA := wr15 _ (List.mem_of_getElem? (i := 21) rfl)
theorem wt_15_21 : Cond.methodLink RX5 173 yX5_launchBar ∈ lw_tbl := tb2 _ (List.mem_of_getElem? (i := 208) rfl)
theorem wd_15_22 : Cond.instanceMethod yX5_launchBar ∈ WA := wr15 _ (List.mem_of_getElem? (i := 22) rfl)
theorem wt_15_22 : Cond.instanceMethod yX5_launchBar ∈ lw_tbl := tb2 _ (List.mem_of_getElem? (i := 210) rfl)
theorem wd_15_23 : Cond.selects RX5 yX5_launchBar yX5_launchBar ∈ WA := wr15 _ (List.mem_of_getElem? (i := 23) rfl)
theorem wt_15_23 : Cond.selects RX5 yX5_launchBar yX5_launchBar ∈ lw_tbl := ts1 _ (List.mem_of_getElem? (i := 6) rfl)
theorem wc15 : ∀ w ∈ wsL_law0_r15, w ∈ lw_tbl := List.forall_mem_cons.mpr ⟨wt_15_0, List.forall_mem_cons.mpr ⟨wt_15_1, List.forall_mem_cons.mpr ⟨wt_15_2, List.forall_mem_cons.mpr ⟨wt_15_3, List.forall_mem_cons.mpr ⟨wt_15_4, List.forall_mem_cons.mpr ⟨wt_15_5, List.forall_mem_cons.mpr ⟨wt_15_6, List.forall_mem_cons.mpr ⟨wt_15_7, List.forall_mem_cons.mpr ⟨wt_15_8, List.forall_mem_cons.mpr ⟨wt_15_9, List.forall_mem_cons.mpr ⟨wt_15_10, List.forall_mem_cons.mpr ⟨wt_15_11, List.forall_mem_cons.mpr ⟨wt_15_12, List.forall_mem_cons.mpr ⟨wt_15_13, List.forall_mem_cons.mpr ⟨wt_15_14, List.forall_mem_cons.mpr ⟨wt_15_15, List.forall_mem_cons.mpr ⟨wt_15_16, List.forall_mem_cons.mpr ⟨wt_15_17, List.forall_mem_cons.mpr ⟨wt_15_18, List.forall_mem_cons.mpr ⟨wt_15_19, List.forall_mem_cons.mpr ⟨wt_15_20, List.forall_mem_cons.mpr ⟨wt_15_21, List.forall_mem_cons.mpr ⟨wt_15_22, List.forall_mem_cons.mpr ⟨wt_15_23, fun _ h => absurd h List.not_mem_nil⟩⟩⟩⟩⟩⟩⟩⟩⟩⟩⟩⟩⟩⟩⟩⟩⟩⟩⟩⟩⟩⟩⟩⟩
theorem wg15 : wsL_law0_r15.all goodWord = true := by decide +kernel
theorem wd_16_0 : Cond.code yX5_launchBar cX5_launchBar 3 (some .char) ∈ WA := wr16 _ (List.mem_of_getElem? (i := 0) rfl)
theorem wt_16_0 : Cond.code yX5_launchBar cX5_launchBar 3 (some .char) ∈ lw_tbl := tb2 _ (List.mem_of_getElem? (i := 211) rfl)
theorem wd_16_1 : Cond.methodLink RL 153 yL_launchReason ∈ WA := wr16 _ (List.mem_of_getElem? (i := 1) rfl)
theorem wt_16_1 : Cond.methodLink RL 153 yL_launchReason ∈ lw_tbl := tb2 _ (List.mem_of_getElem? (i := 197) rfl)
theorem wd_16_2 : Cond.static yL_launchReason ∈ WA := wr16 _ (List.mem_of_getElem? (i := 2) rfl)
theorem wt_16_2 : Cond.static yL_launchReason ∈ lw_tbl := tb2 _ (List.mem_of_getElem? (i := 198) rfl)
theorem wd_16_3 : Cond.codeWith yL_launchReason cL_launchReason 3 (some .int) [(0, 5, 6, 20)] ∈ WA := wr16 _ (List.mem_of_getElem? (i := 3) rfl)
theorem wt_16_3 : Cond.codeWith yL_launchReason cL_launchReason 3 (some .int) [(0, 5, 6, 20)] ∈ lw_tbl := tb2 _ (List.mem_of_getElem? (i := 199) rfl)
theorem wd_16_4 : Cond.methodLink RL 69 yX5_launchReason ∈ WA := wr16 _ (List.mem_of_getElem? (i := 4) rfl)
theorem wt_16_4 : Cond.methodLink RL 69 yX5_launchReason ∈ lw_tbl := tb2 _ (List.mem_of_getElem? (i := 200) rfl)
theorem wd_16_5 : Cond.instanceMethod yX5_launchReason ∈ WA := wr16 _ (List.mem_of_getElem? (i := 5) rfl)
theorem wt_16_5 : Cond.instanceMethod yX5_launchReason ∈ lw_tbl := tb2 _ (List.mem_of_getElem? (i := 201) rfl)
theorem wd_16_6 : Cond.selects RX5 yX5_launchReason yX5_launchReason ∈ WA := wr16 _ (List.mem_of_getElem? (i := 6) rfl)
theorem wt_16_6 : Cond.selects RX5 yX5_launchReason yX5_launchReason ∈ lw_tbl := tb2 _ (List.mem_of_getElem? (i := 202) rfl)
theorem wd_16_7 : Cond.code yX5_launchReason cX5_launchReason 3 (some .char) ∈ WA := wr16 _ (List.mem_of_getElem? (i := 7) rfl)
theorem wt_16_7 : Cond.code yX5_launchReason cX5_launchReason 3 (some .char) ∈ lw_tbl := tb2 _ (List.mem_of_getElem? (i := 203) rfl)
theorem wd_16_8 : Cond.methodLink RL 166 yL_isReason ∈ WA := wr16 _ (List.mem_of_getElem? (i := 8) rfl)
theorem wt_16_8 : Cond.methodLink RL 166 yL_isReason ∈ lw_tbl := tb4 _ (List.mem_of_getElem? (i := 54) rfl)
theorem wd_16_9 : Cond.static yL_isReason ∈ WA := wr16 _ (List.mem_of_getElem? (i := 9) rfl)
theorem wt_16_9 : Cond.static yL_isReason ∈ lw_tbl := tb4 _ (List.mem_of_getElem? (i := 55) rfl)
theorem wd_16_10 : Cond.code yL_isReason cL_isReason 3 (some .boolean) ∈ WA := wr16 _ (List.mem_of_getElem? (i := 10) rfl)
theorem wt_16_10 : Cond.code yL_isReason cL_isReason 3 (some .boolean) ∈ lw_tbl := tb4 _ (List.mem_of_getElem? (i := 56) rfl)
theorem wd_16_11 : Cond.methodLink RL 183 yL_pass ∈ WA := wr16 _ (List.mem_of_getElem? (i := 11) rfl)
theorem wt_16_11 : Cond.methodLink RL 183 yL_pass ∈ lw_tbl := tb2 _ (List.mem_of_getElem? (i := 235) rfl)
theorem wd_16_12 : Cond.static yL_pass ∈ WA := wr16 _ (List.mem_of_getElem? (i := 12) rfl)
theorem wt_16_12 : Cond.static yL_pass ∈ lw_tbl := tb2 _ (List.mem_of_getElem? (i := 236) rfl)
theorem wd_16_13 : Cond.codeWith yL_pass cL_pass 3 (some .int) [(0, 5, 6, 22)] ∈ WA := wr16 _ (List.mem_of_getElem? (i := 13) rfl)
theorem wt_16_13 : Cond.codeWith yL_pass cL_pass 3 (some .int) [(0, 5, 6, 22)] ∈ lw_tbl := tb2 _ (List.mem_of_getElem? (i := 237) rfl)
theorem wd_16_14 : Cond.methodLink RL 107 yX5_pass ∈ WA := wr16 _ (List.mem_of_getElem? (i := 14) rfl)
theorem wt_16_14 : Cond.methodLink RL 107 yX5_pass ∈ lw_tbl := tb2 _ (List.mem_of_getElem? (i := 238) rfl)
theorem wd_16_15 : Cond.instanceMethod yX5_pass ∈ WA := wr16 _ (List.mem_of_getElem? (i := 15) rfl)
theorem wt_16_15 : Cond.instanceMethod yX5_pass ∈ lw_tbl := tb2 _ (List.mem_of_getElem? (i := 239) rfl)
theorem wd_16_16 : Cond.selects RX5 yX5_pass yX5_pass ∈ WA := wr16 _ (List.mem_of_getElem? (i := 16) rfl)
theorem wt_16_16 : Cond.selects RX5 yX5_pass yX5_pass ∈ lw_tbl := tb3 _ (List.mem_of_getElem? (i := 0) rfl)
theorem wd_16_17 : Cond.code yX5_pass cX5_pass 3 (some .int) ∈ WA := wr16 _ (List.mem_of_getElem? (i := 17) rfl)
theorem wt_16_17 : Cond.code yX5_pass cX5_pass 3 (some .int) ∈ lw_tbl := tb3 _ (List.mem_of_getElem? (i := 1) rfl)
theorem wd_16_18 : Cond.methodLink RX5 219 yX1_dryOneHour ∈ WA := wr16 _ (List.mem_of_getElem? (i := 18) rfl)
theorem wt_16_18 : Cond.methodLink RX5 219 yX1_dryOneHour ∈ lw_tbl := tb3 _ (List.mem_of_getElem? (i := 2) rfl)
theorem wd_16_19 : Cond.instanceMethod yX1_dryOneHour ∈ WA := wr16 _ (List.mem_of_getElem? (i := 19) rfl)
theorem wt_16_19 : Cond.instanceMethod yX1_dryOneHour ∈ lw_tbl := tb3 _ (List.mem_of_getElem? (i := 3) rfl)
theorem wd_16_20 : Cond.selects RX1 yX1_dryOneHour yX1_dryOneHour ∈ WA := wr16 _ (List.mem_of_getElem? (i := 20) rfl)
theorem wt_16_20 : Cond.selects RX1 yX1_dryOneHour yX1_dryOneHour ∈ lw_tbl := tb3 _ (List.mem_of_getElem? (i := 4) rfl)
theorem wd_16_21 : Cond.code yX1_dryOneHour cX1_dryOneHour 2 none ∈ WA := wr16 _ (List.mem_of_getElem? (i := 21) rfl)
theorem wt_16_21 : Cond.code yX1_dryOneHour cX1_dryOneHour 2 none ∈ lw_tbl := tb3 _ (List.mem_of_getElem? (i := 5) rfl)
theorem wd_16_22 : Cond.methodLink RL 185 yL_launches ∈ WA := wr16 _ (List.mem_of_getElem? (i := 22) rfl)
theorem wt_16_22 : Cond.methodLink RL 185 yL_launches ∈ lw_tbl := tb3 _ (List.mem_of_getElem? (i := 224) rfl)
theorem wd_16_23 : Cond.static yL_launches ∈ WA := wr16 _ (List.mem_of_getElem? (i := 23) rfl)
theorem wt_16_23 : Cond.static yL_launches ∈ lw_tbl := tb3 _ (List.mem_of_getElem? (i := 225) rfl)
theorem wc16 : ∀ w ∈ wsL_law0_r16, w ∈ lw_tbl := List.forall_mem_cons.mpr ⟨wt_16_0, List.forall_mem_cons.mpr ⟨wt_16_1, List.forall_mem_cons.mpr ⟨wt_16_2, List.forall_mem_cons.mpr ⟨wt_16_3, List.forall_mem_cons.mpr ⟨wt_16_4, List.forall_mem_cons.mpr ⟨wt_16_5, List.forall_mem_cons.mpr ⟨wt_16_6, List.forall_mem_cons.mpr ⟨wt_16_7, List.forall_mem_cons.mpr ⟨wt_16_8, List.forall_mem_cons.mpr ⟨wt_16_9, List.forall_mem_cons.mpr ⟨wt_16_10, List.forall_mem_cons.mpr ⟨wt_16_11, List.forall_mem_cons.mpr ⟨wt_16_12, List.forall_mem_cons.mpr ⟨wt_16_13, List.forall_mem_cons.mpr ⟨wt_16_14, List.forall_mem_cons.mpr ⟨wt_16_15, List.forall_mem_cons.mpr ⟨wt_16_16, List.forall_mem_cons.mpr ⟨wt_16_17, List.forall_mem_cons.mpr ⟨wt_16_18, List.forall_mem_cons.mpr ⟨wt_16_19, List.forall_mem_cons.mpr ⟨wt_16_20, List.forall_mem_cons.mpr ⟨wt_16_21, List.forall_mem_cons.mpr ⟨wt_16_22, List.forall_mem_cons.mpr ⟨wt_16_23, fun _ h => absurd h List.not_mem_nil⟩⟩⟩⟩⟩⟩⟩⟩⟩⟩⟩⟩⟩⟩⟩⟩⟩⟩⟩⟩⟩⟩⟩⟩
theorem wg16 : wsL_law0_r16.all goodWord = true := by decide +kernel
theorem wd_17_0 : Cond.code yL_launches cL_launches 5 (some .boolean) ∈ WA := wr17 _ (List.mem_of_getElem? (i := 0) rfl)
theorem wt_17_0 : Cond.code yL_launches cL_launches 5 (some .boolean) ∈ lw_tbl := tb3 _ (List.mem_of_getElem? (i := 226) rfl)
theorem wd_17_1 : Cond.methodLink RL 157 yL_comeBack ∈ WA := wr17 _ (List.mem_of_getElem? (i := 1) rfl)
theorem wt_17_1 : Cond.methodLink RL 157 yL_comeBack ∈ lw_tbl := tb3 _ (List.mem_of_getElem? (i := 239) rfl)
theorem wd_17_2 : Cond.static yL_comeBack ∈ WA := wr17 _ (List.mem_of_getElem? (i := 2) rfl)
theorem wt_17_2 : Cond.static yL_comeBack ∈ lw_tbl := tb4 _ (List.mem_of_getElem? (i := 0) rfl)
theorem wd_17_3 : Cond.codeWith yL_comeBack cL_comeBack 3 (some .int) [(0, 5, 6, 20), (0, 5, 11, 24)] ∈ WA := wr17 _ (List.mem_of_getElem? (i := 3) rfl)
theorem wt_17_3 : Cond.codeWith yL_comeBack cL_comeBack 3 (some .int) [(0, 5, 6, 20), (0, 5, 11, 24)] ∈ lw_tbl := tb4 _ (List.mem_of_getElem? (i := 1) rfl)
theorem wd_17_4 : Cond.methodLink RL 79 yX5_comeBack ∈ WA := wr17 _ (List.mem_of_getElem? (i := 4) rfl)
theorem wt_17_4 : Cond.methodLink RL 79 yX5_comeBack ∈ lw_tbl := tb4 _ (List.mem_of_getElem? (i := 2) rfl)
theorem wd_17_5 : Cond.instanceMethod yX5_comeBack ∈ WA := wr17 _ (List.mem_of_getElem? (i := 5) rfl)
theorem wt_17_5 : Cond.instanceMethod yX5_comeBack ∈ lw_tbl := tb4 _ (List.mem_of_getElem? (i := 3) rfl)
theorem wd_17_6 : Cond.selects RX5 yX5_comeBack yX5_comeBack ∈ WA := wr17 _ (List.mem_of_getElem? (i := 6) rfl)
theorem wt_17_6 : Cond.selects RX5 yX5_comeBack yX5_comeBack ∈ lw_tbl := tb4 _ (List.mem_of_getElem? (i := 4) rfl)
theorem wd_17_7 : Cond.code yX5_comeBack cX5_comeBack 2 (some .int) ∈ WA := wr17 _ (List.mem_of_getElem? (i := 7) rfl)
theorem wt_17_7 : Cond.code yX5_comeBack cX5_comeBack 2 (some .int) ∈ lw_tbl := tb4 _ (List.mem_of_getElem? (i := 5) rfl)
theorem wd_17_8 : Cond.methodLink RX5 186 yX1_countWaiting ∈ WA := wr17 _ (List.mem_of_getElem? (i := 8) rfl)
theorem wt_17_8 : Cond.methodLink RX5 186 yX1_countWaiting ∈ lw_tbl := tb4 _ (List.mem_of_getElem? (i := 7) rfl)
theorem wd_17_9 : Cond.instanceMethod yX1_countWaiting ∈ WA := wr17 _ (List.mem_of_getElem? (i := 9) rfl)
theorem wt_17_9 : Cond.instanceMethod yX1_countWaiting ∈ lw_tbl := tb4 _ (List.mem_of_getElem? (i := 8) rfl)
theorem wd_17_10 : Cond.selects RX1 yX1_countWaiting yX1_countWaiting ∈ WA := wr17 _ (List.mem_of_getElem? (i := 10) rfl)
theorem wt_17_10 : Cond.selects RX1 yX1_countWaiting yX1_countWaiting ∈ lw_tbl := tb4 _ (List.mem_of_getElem? (i := 9) rfl)
theorem wd_17_11 : Cond.code yX1_countWaiting cX1_countWaiting 3 (some .int) ∈ WA := wr17 _ (List.mem_of_getElem? (i := 11) rfl)
theorem wt_17_11 : Cond.code yX1_countWaiting cX1_countWaiting 3 (some .int) ∈ lw_tbl := tb4 _ (List.mem_of_getElem? (i := 10) rfl)
theorem wd_17_12 : Cond.methodLink RL 159 yL_nextWaiting ∈ WA := wr17 _ (List.mem_of_getElem? (i := 12) rfl)
theorem wt_17_12 : Cond.methodLink RL 159 yL_nextWaiting ∈ lw_tbl := tb4 _ (List.mem_of_getElem? (i := 11) rfl)
theorem wd_17_13 : Cond.static yL_nextWaiting ∈ WA := wr17 _ (List.mem_of_getElem? (i := 13) rfl)
theorem wt_17_13 : Cond.static yL_nextWaiting ∈ lw_tbl := tb4 _ (List.mem_of_getElem? (i := 12) rfl)
theorem wd_17_14 : Cond.codeWith yL_nextWaiting cL_nextWaiting 2 (some .int) [(0, 4, 5, 57)] ∈ WA := wr17 _ (List.mem_of_getElem? (i := 14) rfl)
theorem wt_17_14 : Cond.codeWith yL_nextWaiting cL_nextWaiting 2 (some .int) [(0, 4, 5, 57)] ∈ lw_tbl := tb4 _ (List.mem_of_getElem? (i := 13) rfl)
theorem wd_17_15 : Cond.methodLink RL 82 yX5_nextWaiting ∈ WA := wr17 _ (List.mem_of_getElem? (i := 15) rfl)
theorem wt_17_15 : Cond.methodLink RL 82 yX5_nextWaiting ∈ lw_tbl := tb4 _ (List.mem_of_getElem? (i := 14) rfl)
theorem wd_17_16 : Cond.instanceMethod yX5_nextWaiting ∈ WA := wr17 _ (List.mem_of_getElem? (i := 16) rfl)
theorem wt_17_16 : Cond.instanceMethod yX5_nextWaiting ∈ lw_tbl := tb4 _ (List.mem_of_getElem? (i := 15) rfl)
theorem wd_17_17 : Cond.selects RX5 yX5_nextWaiting yX5_nextWaiting ∈ WA := wr17 _ (List.mem_of_getElem? (i := 17) rfl)
theorem wt_17_17 : Cond.selects RX5 yX5_nextWaiting yX5_nextWaiting ∈ lw_tbl := tb4 _ (List.mem_of_getElem? (i := 16) rfl)
theorem wd_17_18 : Cond.code yX5_nextWaiting cX5_nextWaiting 2 (some .int) ∈ WA := wr17 _ (List.mem_of_getElem? (i := 18) rfl)
theorem wt_17_18 : Cond.code yX5_nextWaiting cX5_nextWaiting 2 (some .int) ∈ lw_tbl := tb4 _ (List.mem_of_getElem? (i := 17) rfl)
theorem wd_17_19 : Cond.methodLink RX5 190 yX1_firstInLine ∈ WA := wr17 _ (List.mem_of_getElem? (i := 19) rfl)
theorem wt_17_19 : Cond.methodLink RX5 190 yX1_firstInLine ∈ lw_tbl := tb4 _ (List.mem_of_getElem? (i := 18) rfl)
theorem wd_17_20 : Cond.instanceMethod yX1_firstInLine ∈ WA := wr17 _ (List.mem_of_getElem? (i := 20) rfl)
theorem wt_17_20 : Cond.instanceMethod yX1_firstInLine ∈ lw_tbl := tb4 _ (List.mem_of_getElem? (i := 19) rfl)
theorem wd_17_21 : Cond.selects RX1 yX1_firstInLine yX1_firstInLine ∈ WA := wr17 _ (List.mem_of_getElem? (i := 21) rfl)
theorem wt_17_21 : Cond.selects RX1 yX1_firstInLine yX1_firstInLine ∈ lw_tbl := tb4 _ (List.mem_of_getElem? (i := 20) rfl)
theorem wd_17_22 : Cond.code yX1_firstInLine cX1_firstInLine 3 (some .int) ∈ WA := wr17 _ (List.mem_of_getElem? (i := 22) rfl)
theorem wt_17_22 : Cond.code yX1_firstInLine cX1_firstInLine 3 (some .int) ∈ lw_tbl := tb4 _ (List.mem_of_getElem? (i := 21) rfl)
theorem wd_17_23 : Cond.methodLink RX1 37 yX1_has ∈ WA := wr17 _ (List.mem_of_getElem? (i := 23) rfl)
theorem wt_17_23 : Cond.methodLink RX1 37 yX1_has ∈ lw_tbl := tb4 _ (List.mem_of_getElem? (i := 22) rfl)
theorem wc17 : ∀ w ∈ wsL_law0_r17, w ∈ lw_tbl := List.forall_mem_cons.mpr ⟨wt_17_0, List.forall_mem_cons.mpr ⟨wt_17_1, List.forall_mem_cons.mpr ⟨wt_17_2, List.forall_mem_cons.mpr ⟨wt_17_3, List.forall_mem_cons.mpr ⟨wt_17_4, List.forall_mem_cons.mpr ⟨wt_17_5, List.forall_mem_cons.mpr ⟨wt_17_6, List.forall_mem_cons.mpr ⟨wt_17_7, List.forall_mem_cons.mpr ⟨wt_17_8, List.forall_mem_cons.mpr ⟨wt_17_9, List.forall_mem_cons.mpr ⟨wt_17_10, List.forall_mem_cons.mpr ⟨wt_17_11, List.forall_mem_cons.mpr ⟨wt_17_12, List.forall_mem_cons.mpr ⟨wt_17_13, List.forall_mem_cons.mpr ⟨wt_17_14, List.forall_mem_cons.mpr ⟨wt_17_15, List.forall_mem_cons.mpr ⟨wt_17_16, List.forall_mem_cons.mpr ⟨wt_17_17, List.forall_mem_cons.mpr ⟨wt_17_18, List.forall_mem_cons.mpr ⟨wt_17_19, List.forall_mem_cons.mpr ⟨wt_17_20, List.forall_mem_cons.mpr ⟨wt_17_21, List.forall_mem_cons.mpr ⟨wt_17_22, List.forall_mem_cons.mpr ⟨wt_17_23, fun _ h => absurd h List.not_mem_nil⟩⟩⟩⟩⟩⟩⟩⟩⟩⟩⟩⟩⟩⟩⟩⟩⟩⟩⟩⟩⟩⟩⟩⟩
theorem wg17 : wsL_law0_r17.all goodWord = true := by decide +kernel
theorem wd_18_0 : Cond.methodLink RX1 41 yX1_goesBefore ∈ WA := wr18 _ (List.mem_of_getElem? (i := 0) rfl)
theorem wt_18_0 : Cond.methodLink RX1 41 yX1_goesBefore ∈ lw_tbl := tb4 _ (List.mem_of_getElem? (i := 23) rfl)
theorem wd_18_1 : Cond.instanceMethod yX1_goesBefore ∈ WA := wr18 _ (List.mem_of_getElem? (i := 1) rfl)
theorem wt_18_1 : Cond.instanceMethod yX1_goesBefore ∈ lw_tbl := tb4 _ (List.mem_of_getElem? (i := 25) rfl)
theorem wd_18_2 : Cond.selects RX1 yX1_goesBefore yX1_goesBefore ∈ WA := wr18 _ (List.mem_of_getElem? (i := 2) rfl)
theorem wt_18_2 : Cond.selects RX1 yX1_goesBefore yX1_goesBefore ∈ lw_tbl := ts2 _ (List.mem_of_getElem? (i := 8) rfl)
theorem wd_18_3 : Cond.code yX1_goesBefore cX1_goesBefore 3 (some .boolean) ∈ WA := wr18 _ (List.mem_of_getElem? (i := 3) rfl)
theorem wt_18_3 : Cond.code yX1_goesBefore cX1_goesBefore 3 (some .boolean) ∈ lw_tbl := tb4 _ (List.mem_of_getElem? (i := 26) rfl)
theorem wd_18_4 : Cond.methodLink RL 189 yL_shifts ∈ WA := wr18 _ (List.mem_of_getElem? (i := 4) rfl)
theorem wt_18_4 : Cond.methodLink RL 189 yL_shifts ∈ lw_tbl := tb4 _ (List.mem_of_getElem? (i := 57) rfl)
theorem wd_18_5 : Cond.static yL_shifts ∈ WA := wr18 _ (List.mem_of_getElem? (i := 5) rfl)
theorem wt_18_5 : Cond.static yL_shifts ∈ lw_tbl := tb4 _ (List.mem_of_getElem? (i := 58) rfl)
theorem wd_18_6 : Cond.code yL_shifts cL_shifts 7 (some .boolean) ∈ WA := wr18 _ (List.mem_of_getElem? (i := 6) rfl)
theorem wt_18_6 : Cond.code yL_shifts cL_shifts 7 (some .boolean) ∈ lw_tbl := tb4 _ (List.mem_of_getElem? (i := 59) rfl)
theorem wd_18_7 : Cond.methodLink RL 170 yL_shiftReason ∈ WA := wr18 _ (List.mem_of_getElem? (i := 7) rfl)
theorem wt_18_7 : Cond.methodLink RL 170 yL_shiftReason ∈ lw_tbl := tb4 _ (List.mem_of_getElem? (i := 60) rfl)
theorem wd_18_8 : Cond.static yL_shiftReason ∈ WA := wr18 _ (List.mem_of_getElem? (i := 8) rfl)
theorem wt_18_8 : Cond.static yL_shiftReason ∈ lw_tbl := tb4 _ (List.mem_of_getElem? (i := 61) rfl)
theorem wd_18_9 : Cond.codeWith yL_shiftReason cL_shiftReason 4 (some .int) [(0, 6, 7, 20)] ∈ WA := wr18 _ (List.mem_of_getElem? (i := 9) rfl)
theorem wt_18_9 : Cond.codeWith yL_shiftReason cL_shiftReason 4 (some .int) [(0, 6, 7, 20)] ∈ lw_tbl := tb4 _ (List.mem_of_getElem? (i := 62) rfl)
theorem wd_18_10 : Cond.methodLink RL 76 yX5_shiftReason ∈ WA := wr18 _ (List.mem_of_getElem? (i := 10) rfl)
theorem wt_18_10 : Cond.methodLink RL 76 yX5_shiftReason ∈ lw_tbl := tb4 _ (List.mem_of_getElem? (i := 63) rfl)
theorem wd_18_11 : Cond.instanceMethod yX5_shiftReason ∈ WA := wr18 _ (List.mem_of_getElem? (i := 11) rfl)
theorem wt_18_11 : Cond.instanceMethod yX5_shiftReason ∈ lw_tbl := tb4 _ (List.mem_of_getElem? (i := 64) rfl)
theorem wd_18_12 : Cond.selects RX5 yX5_shiftReason yX5_shiftReason ∈ WA := wr18 _ (List.mem_of_getElem? (i := 12) rfl)
theorem wt_18_12 : Cond.selects RX5 yX5_shiftReason yX5_shiftReason ∈ lw_tbl := tb4 _ (List.mem_of_getElem? (i := 65) rfl)
theorem wd_18_13 : Cond.code yX5_shiftReason cX5_shiftReason 4 (some .char) ∈ WA := wr18 _ (List.mem_of_getElem? (i := 13) rfl)
theorem wt_18_13 : Cond.code yX5_shiftReason cX5_shiftReason 4 (some .char) ∈ lw_tbl := tb4 _ (List.mem_of_getElem? (i := 66) rfl)
theorem wd_18_14 : Cond.methodLink RX5 178 yX5_shiftBar ∈ WA := wr18 _ (List.mem_of_getElem? (i := 14) rfl)
theorem wt_18_14 : Cond.methodLink RX5 178 yX5_shiftBar ∈ lw_tbl := tb4 _ (List.mem_of_getElem? (i := 67) rfl)
theorem wd_18_15 : Cond.instanceMethod yX5_shiftBar ∈ WA := wr18 _ (List.mem_of_getElem? (i := 15) rfl)
theorem wt_18_15 : Cond.instanceMethod yX5_shiftBar ∈ lw_tbl := tb4 _ (List.mem_of_getElem? (i := 69) rfl)
theorem wd_18_16 : Cond.selects RX5 yX5_shiftBar yX5_shiftBar ∈ WA := wr18 _ (List.mem_of_getElem? (i := 16) rfl)
theorem wt_18_16 : Cond.selects RX5 yX5_shiftBar yX5_shiftBar ∈ lw_tbl := ts2 _ (List.mem_of_getElem? (i := 11) rfl)
theorem wd_18_17 : Cond.code yX5_shiftBar cX5_shiftBar 5 (some .char) ∈ WA := wr18 _ (List.mem_of_getElem? (i := 17) rfl)
theorem wt_18_17 : Cond.code yX5_shiftBar cX5_shiftBar 5 (some .char) ∈ lw_tbl := tb4 _ (List.mem_of_getElem? (i := 70) rfl)
theorem wd_18_18 : Cond.methodLink RL 172 yL_shift ∈ WA := wr18 _ (List.mem_of_getElem? (i := 18) rfl)
theorem wt_18_18 : Cond.methodLink RL 172 yL_shift ∈ lw_tbl := tb4 _ (List.mem_of_getElem? (i := 71) rfl)
theorem wd_18_19 : Cond.static yL_shift ∈ WA := wr18 _ (List.mem_of_getElem? (i := 19) rfl)
theorem wt_18_19 : Cond.static yL_shift ∈ lw_tbl := tb4 _ (List.mem_of_getElem? (i := 72) rfl)
theorem wd_18_20 : Cond.codeWith yL_shift cL_shift 4 (some .int) [(0, 6, 7, 20), (0, 6, 12, 24)] ∈ WA := wr18 _ (List.mem_of_getElem? (i := 20) rfl)
theorem wt_18_20 : Cond.codeWith yL_shift cL_shift 4 (some .int) [(0, 6, 7, 20), (0, 6, 12, 24)] ∈ lw_tbl := tb4 _ (List.mem_of_getElem? (i := 73) rfl)
theorem wd_18_21 : Cond.methodLink RL 73 yX5_shift ∈ WA := wr18 _ (List.mem_of_getElem? (i := 21) rfl)
theorem wt_18_21 : Cond.methodLink RL 73 yX5_shift ∈ lw_tbl := tb4 _ (List.mem_of_getElem? (i := 74) rfl)
theorem wd_18_22 : Cond.instanceMethod yX5_shift ∈ WA := wr18 _ (List.mem_of_getElem? (i := 22) rfl)
theorem wt_18_22 : Cond.instanceMethod yX5_shift ∈ lw_tbl := tb4 _ (List.mem_of_getElem? (i := 75) rfl)
theorem wd_18_23 : Cond.selects RX5 yX5_shift yX5_shift ∈ WA := wr18 _ (List.mem_of_getElem? (i := 23) rfl)
theorem wt_18_23 : Cond.selects RX5 yX5_shift yX5_shift ∈ lw_tbl := tb4 _ (List.mem_of_getElem? (i := 76) rfl)
theorem wc18 : ∀ w ∈ wsL_law0_r18, w ∈ lw_tbl := List.forall_mem_cons.mpr ⟨wt_18_0, List.forall_mem_cons.mpr ⟨wt_18_1, List.forall_mem_cons.mpr ⟨wt_18_2, List.forall_mem_cons.mpr ⟨wt_18_3, List.forall_mem_cons.mpr ⟨wt_18_4, List.forall_mem_cons.mpr ⟨wt_18_5, List.forall_mem_cons.mpr ⟨wt_18_6, List.forall_mem_cons.mpr ⟨wt_18_7, List.forall_mem_cons.mpr ⟨wt_18_8, List.forall_mem_cons.mpr ⟨wt_18_9, List.forall_mem_cons.mpr ⟨wt_18_10, List.forall_mem_cons.mpr ⟨wt_18_11, List.forall_mem_cons.mpr ⟨wt_18_12, List.forall_mem_cons.mpr ⟨wt_18_13, List.forall_mem_cons.mpr ⟨wt_18_14, List.forall_mem_cons.mpr ⟨wt_18_15, List.forall_mem_cons.mpr ⟨wt_18_16, List.forall_mem_cons.mpr ⟨wt_18_17, List.forall_mem_cons.mpr ⟨wt_18_18, List.forall_mem_cons.mpr ⟨wt_18_19, List.forall_mem_cons.mpr ⟨wt_18_20, List.forall_mem_cons.mpr ⟨wt_18_21, List.forall_mem_cons.mpr ⟨wt_18_22, List.forall_mem_cons.mpr ⟨wt_18_23, fun _ h => absurd h List.not_mem_nil⟩⟩⟩⟩⟩⟩⟩⟩⟩⟩⟩⟩⟩⟩⟩⟩⟩⟩⟩⟩⟩⟩⟩⟩
theorem wg18 : wsL_law0_r18.all goodWord = true := by decide +kernel
theorem wd_19_0 : Cond.code yX5_shift cX5_shift 4 (some .int) ∈ WA := wr19 _ (List.mem_of_getElem? (i := 0) rfl)
theorem wt_19_0 : Cond.code yX5_shift cX5_shift 4 (some .int) ∈ lw_tbl := tb4 _ (List.mem_of_getElem? (i := 77) rfl)
theorem wd_19_1 : Cond.methodLink RL 146 yX5_time ∈ WA := wr19 _ (List.mem_of_getElem? (i := 1) rfl)
theorem wt_19_1 : Cond.methodLink RL 146 yX5_time ∈ lw_tbl := tb1 _ (List.mem_of_getElem? (i := 201) rfl)
theorem wd_19_2 : Cond.instanceMethod yX5_time ∈ WA := wr19 _ (List.mem_of_getElem? (i := 2) rfl)
theorem wt_19_2 : Cond.instanceMethod yX5_time ∈ lw_tbl := tb1 _ (List.mem_of_getElem? (i := 202) rfl)
theorem wd_19_3 : Cond.selects RX5 yX5_time yX5_time ∈ WA := wr19 _ (List.mem_of_getElem? (i := 3) rfl)
theorem wt_19_3 : Cond.selects RX5 yX5_time yX5_time ∈ lw_tbl := tb1 _ (List.mem_of_getElem? (i := 203) rfl)
theorem wd_19_4 : Cond.code yX5_time cX5_time 1 (some .int) ∈ WA := wr19 _ (List.mem_of_getElem? (i := 4) rfl)
theorem wt_19_4 : Cond.code yX5_time cX5_time 1 (some .int) ∈ lw_tbl := tb1 _ (List.mem_of_getElem? (i := 204) rfl)
theorem wd_19_5 : Cond.methodLink RL 192 yL_paint ∈ WA := wr19 _ (List.mem_of_getElem? (i := 5) rfl)
theorem wt_19_5 : Cond.methodLink RL 192 yL_paint ∈ lw_tbl := tb2 _ (List.mem_of_getElem? (i := 220) rfl)
theorem wd_19_6 : Cond.static yL_paint ∈ WA := wr19 _ (List.mem_of_getElem? (i := 6) rfl)
theorem wt_19_6 : Cond.static yL_paint ∈ lw_tbl := tb2 _ (List.mem_of_getElem? (i := 221) rfl)
theorem wd_19_7 : Cond.codeWith yL_paint cL_paint 4 (some .int) [(0, 6, 7, 20), (0, 6, 12, 22), (0, 6, 17, 24)] ∈ WA := wr19 _ (List.mem_of_getElem? (i := 7) rfl)
theorem wt_19_7 : Cond.codeWith yL_paint cL_paint 4 (some .int) [(0, 6, 7, 20), (0, 6, 12, 22), (0, 6, 17, 24)] ∈ lw_tbl := tb2 _ (List.mem_of_getElem? (i := 222) rfl)
theorem wd_19_8 : Cond.methodLink RL 95 yX5_paint ∈ WA := wr19 _ (List.mem_of_getElem? (i := 8) rfl)
theorem wt_19_8 : Cond.methodLink RL 95 yX5_paint ∈ lw_tbl := tb2 _ (List.mem_of_getElem? (i := 223) rfl)
theorem wd_19_9 : Cond.instanceMethod yX5_paint ∈ WA := wr19 _ (List.mem_of_getElem? (i := 9) rfl)
theorem wt_19_9 : Cond.instanceMethod yX5_paint ∈ lw_tbl := tb2 _ (List.mem_of_getElem? (i := 224) rfl)
theorem wd_19_10 : Cond.selects RX5 yX5_paint yX5_paint ∈ WA := wr19 _ (List.mem_of_getElem? (i := 10) rfl)
theorem wt_19_10 : Cond.selects RX5 yX5_paint yX5_paint ∈ lw_tbl := tb2 _ (List.mem_of_getElem? (i := 225) rfl)
theorem wd_19_11 : Cond.code yX5_paint cX5_paint 3 (some .int) ∈ WA := wr19 _ (List.mem_of_getElem? (i := 11) rfl)
theorem wt_19_11 : Cond.code yX5_paint cX5_paint 3 (some .int) ∈ lw_tbl := tb2 _ (List.mem_of_getElem? (i := 226) rfl)
theorem wd_19_12 : Cond.fieldLink RX5 210 "BoatCradle$Boats" "coats" "[I" ∈ WA := wr19 _ (List.mem_of_getElem? (i := 12) rfl)
theorem wt_19_12 : Cond.fieldLink RX5 210 "BoatCradle$Boats" "coats" "[I" ∈ lw_tbl := tb1 _ (List.mem_of_getElem? (i := 109) rfl)
theorem wd_19_13 : Cond.methodLink RL 194 yL_tellWeather ∈ WA := wr19 _ (List.mem_of_getElem? (i := 13) rfl)
theorem wt_19_13 : Cond.methodLink RL 194 yL_tellWeather ∈ lw_tbl := tb1 _ (List.mem_of_getElem? (i := 216) rfl)
theorem wd_19_14 : Cond.static yL_tellWeather ∈ WA := wr19 _ (List.mem_of_getElem? (i := 14) rfl)
theorem wt_19_14 : Cond.static yL_tellWeather ∈ lw_tbl := tb1 _ (List.mem_of_getElem? (i := 217) rfl)
theorem wd_19_15 : Cond.codeWith yL_tellWeather cL_tellWeather 4 (some .int) [(0, 6, 7, 22), (0, 6, 12, 24)] ∈ WA := wr19 _ (List.mem_of_getElem? (i := 15) rfl)
theorem wt_19_15 : Cond.codeWith yL_tellWeather cL_tellWeather 4 (some .int) [(0, 6, 7, 22), (0, 6, 12, 24)] ∈ lw_tbl := tb1 _ (List.mem_of_getElem? (i := 218) rfl)
theorem wd_19_16 : Cond.methodLink RL 37 yX5_tellWeather ∈ WA := wr19 _ (List.mem_of_getElem? (i := 16) rfl)
theorem wt_19_16 : Cond.methodLink RL 37 yX5_tellWeather ∈ lw_tbl := tb1 _ (List.mem_of_getElem? (i := 221) rfl)
theorem wd_19_17 : Cond.instanceMethod yX5_tellWeather ∈ WA := wr19 _ (List.mem_of_getElem? (i := 17) rfl)
theorem wt_19_17 : Cond.instanceMethod yX5_tellWeather ∈ lw_tbl := tb1 _ (List.mem_of_getElem? (i := 222) rfl)
theorem wd_19_18 : Cond.selects RX5 yX5_tellWeather yX5_tellWeather ∈ WA := wr19 _ (List.mem_of_getElem? (i := 18) rfl)
theorem wt_19_18 : Cond.selects RX5 yX5_tellWeather yX5_tellWeather ∈ lw_tbl := tb1 _ (List.mem_of_getElem? (i := 223) rfl)
theorem wd_19_19 : Cond.code yX5_tellWeather cX5_tellWeather 3 (some .int) ∈ WA := wr19 _ (List.mem_of_getElem? (i := 19) rfl)
theorem wt_19_19 : Cond.code yX5_tellWeather cX5_tellWeather 3 (some .int) ∈ lw_tbl := tb1 _ (List.mem_of_getElem? (i := 224) rfl)
theorem wd_19_20 : Cond.fieldLink RX5 119 "BoatCradle$Weather" "count" "I" ∈ WA := wr19 _ (List.mem_of_getElem? (i := 20) rfl)
theorem wt_19_20 : Cond.fieldLink RX5 119 "BoatCradle$Weather" "count" "I" ∈ lw_tbl := tb1 _ (List.mem_of_getElem? (i := 55) rfl)
theorem wd_19_21 : Cond.methodLink RX5 122 yX4_append ∈ WA := wr19 _ (List.mem_of_getElem? (i := 21) rfl)
theorem wt_19_21 : Cond.methodLink RX5 122 yX4_append ∈ lw_tbl := tb2 _ (List.mem_of_getElem? (i := 74) rfl)
theorem wd_19_22 : Cond.instanceMethod yX4_append ∈ WA := wr19 _ (List.mem_of_getElem? (i := 22) rfl)
theorem wt_19_22 : Cond.instanceMethod yX4_append ∈ lw_tbl := tb2 _ (List.mem_of_getElem? (i := 75) rfl)
theorem wd_19_23 : Cond.selects RX4 yX4_append yX4_append ∈ WA := wr19 _ (List.mem_of_getElem? (i := 23) rfl)
theorem wt_19_23 : Cond.selects RX4 yX4_append yX4_append ∈ lw_tbl := tb2 _ (List.mem_of_getElem? (i := 76) rfl)
theorem wc19 : ∀ w ∈ wsL_law0_r19, w ∈ lw_tbl := List.forall_mem_cons.mpr ⟨wt_19_0, List.forall_mem_cons.mpr ⟨wt_19_1, List.forall_mem_cons.mpr ⟨wt_19_2, List.forall_mem_cons.mpr ⟨wt_19_3, List.forall_mem_cons.mpr ⟨wt_19_4, List.forall_mem_cons.mpr ⟨wt_19_5, List.forall_mem_cons.mpr ⟨wt_19_6, List.forall_mem_cons.mpr ⟨wt_19_7, List.forall_mem_cons.mpr ⟨wt_19_8, List.forall_mem_cons.mpr ⟨wt_19_9, List.forall_mem_cons.mpr ⟨wt_19_10, List.forall_mem_cons.mpr ⟨wt_19_11, List.forall_mem_cons.mpr ⟨wt_19_12, List.forall_mem_cons.mpr ⟨wt_19_13, List.forall_mem_cons.mpr ⟨wt_19_14, List.forall_mem_cons.mpr ⟨wt_19_15, List.forall_mem_cons.mpr ⟨wt_19_16, List.forall_mem_cons.mpr ⟨wt_19_17, List.forall_mem_cons.mpr ⟨wt_19_18, List.forall_mem_cons.mpr ⟨wt_19_19, List.forall_mem_cons.mpr ⟨wt_19_20, List.forall_mem_cons.mpr ⟨wt_19_21, List.forall_mem_cons.mpr ⟨wt_19_22, List.forall_mem_cons.mpr ⟨wt_19_23, fun _ h => absurd h List.not_mem_nil⟩⟩⟩⟩⟩⟩⟩⟩⟩⟩⟩⟩⟩⟩⟩⟩⟩⟩⟩⟩⟩⟩⟩⟩
theorem wg19 : wsL_law0_r19.all goodWord = true := by decide +kernel
theorem wd_20_0 : Cond.code yX4_append cX4_append 3 (some .int) ∈ WA := wr20 _ (List.mem_of_getElem? (i := 0) rfl)
theorem wt_20_0 : Cond.code yX4_append cX4_append 3 (some .int) ∈ lw_tbl := tb2 _ (List.mem_of_getElem? (i := 77) rfl)
theorem wd_20_1 : Cond.methodLink RL 196 yL_isBad ∈ WA := wr20 _ (List.mem_of_getElem? (i := 1) rfl)
theorem wt_20_1 : Cond.methodLink RL 196 yL_isBad ∈ lw_tbl := tb2 _ (List.mem_of_getElem? (i := 78) rfl)
theorem wd_20_2 : Cond.static yL_isBad ∈ WA := wr20 _ (List.mem_of_getElem? (i := 2) rfl)
theorem wt_20_2 : Cond.static yL_isBad ∈ lw_tbl := tb2 _ (List.mem_of_getElem? (i := 79) rfl)
theorem wd_20_3 : Cond.codeWith yL_isBad cL_isBad 3 (some .int) [(0, 13, 14, 22)] ∈ WA := wr20 _ (List.mem_of_getElem? (i := 3) rfl)
theorem wt_20_3 : Cond.codeWith yL_isBad cL_isBad 3 (some .int) [(0, 13, 14, 22)] ∈ lw_tbl := tb2 _ (List.mem_of_getElem? (i := 80) rfl)
theorem wd_20_4 : Cond.methodLink RL 44 yX5_isBad ∈ WA := wr20 _ (List.mem_of_getElem? (i := 4) rfl)
theorem wt_20_4 : Cond.methodLink RL 44 yX5_isBad ∈ lw_tbl := tb2 _ (List.mem_of_getElem? (i := 81) rfl)
theorem wd_20_5 : Cond.instanceMethod yX5_isBad ∈ WA := wr20 _ (List.mem_of_getElem? (i := 5) rfl)
theorem wt_20_5 : Cond.instanceMethod yX5_isBad ∈ lw_tbl := tb2 _ (List.mem_of_getElem? (i := 82) rfl)
theorem wd_20_6 : Cond.selects RX5 yX5_isBad yX5_isBad ∈ WA := wr20 _ (List.mem_of_getElem? (i := 6) rfl)
theorem wt_20_6 : Cond.selects RX5 yX5_isBad yX5_isBad ∈ lw_tbl := tb2 _ (List.mem_of_getElem? (i := 83) rfl)
theorem wd_20_7 : Cond.code yX5_isBad cX5_isBad 2 (some .boolean) ∈ WA := wr20 _ (List.mem_of_getElem? (i := 7) rfl)
theorem wt_20_7 : Cond.code yX5_isBad cX5_isBad 2 (some .boolean) ∈ lw_tbl := tb2 _ (List.mem_of_getElem? (i := 84) rfl)
theorem wd_20_8 : Cond.methodLink RL 198 yL_nextFlood ∈ WA := wr20 _ (List.mem_of_getElem? (i := 8) rfl)
theorem wt_20_8 : Cond.methodLink RL 198 yL_nextFlood ∈ lw_tbl := tb2 _ (List.mem_of_getElem? (i := 173) rfl)
theorem wd_20_9 : Cond.static yL_nextFlood ∈ WA := wr20 _ (List.mem_of_getElem? (i := 9) rfl)
theorem wt_20_9 : Cond.static yL_nextFlood ∈ lw_tbl := tb2 _ (List.mem_of_getElem? (i := 174) rfl)
theorem wd_20_10 : Cond.codeWith yL_nextFlood cL_nextFlood 3 (some .int) [(0, 5, 6, 20), (0, 5, 11, 57)] ∈ WA := wr20 _ (List.mem_of_getElem? (i := 10) rfl)
theorem wt_20_10 : Cond.codeWith yL_nextFlood cL_nextFlood 3 (some .int) [(0, 5, 6, 20), (0, 5, 11, 57)] ∈ lw_tbl := tb2 _ (List.mem_of_getElem? (i := 175) rfl)
theorem wd_20_11 : Cond.methodLink RL 54 yX5_nextFlood ∈ WA := wr20 _ (List.mem_of_getElem? (i := 11) rfl)
theorem wt_20_11 : Cond.methodLink RL 54 yX5_nextFlood ∈ lw_tbl := tb2 _ (List.mem_of_getElem? (i := 177) rfl)
theorem wd_20_12 : Cond.instanceMethod yX5_nextFlood ∈ WA := wr20 _ (List.mem_of_getElem? (i := 12) rfl)
theorem wt_20_12 : Cond.instanceMethod yX5_nextFlood ∈ lw_tbl := tb2 _ (List.mem_of_getElem? (i := 178) rfl)
theorem wd_20_13 : Cond.selects RX5 yX5_nextFlood yX5_nextFlood ∈ WA := wr20 _ (List.mem_of_getElem? (i := 13) rfl)
theorem wt_20_13 : Cond.selects RX5 yX5_nextFlood yX5_nextFlood ∈ lw_tbl := tb2 _ (List.mem_of_getElem? (i := 179) rfl)
theorem wd_20_14 : Cond.code yX5_nextFlood cX5_nextFlood 4 (some .int) ∈ WA := wr20 _ (List.mem_of_getElem? (i := 14) rfl)
theorem wt_20_14 : Cond.code yX5_nextFlood cX5_nextFlood 4 (some .int) ∈ lw_tbl := tb2 _ (List.mem_of_getElem? (i := 180) rfl)
theorem wd_20_15 : Cond.methodLink RL 200 yL_floodHours ∈ WA := wr20 _ (List.mem_of_getElem? (i := 15) rfl)
theorem wt_20_15 : Cond.methodLink RL 200 yL_floodHours ∈ lw_tbl := tb2 _ (List.mem_of_getElem? (i := 94) rfl)
theorem wd_20_16 : Cond.static yL_floodHours ∈ WA := wr20 _ (List.mem_of_getElem? (i := 16) rfl)
theorem wt_20_16 : Cond.static yL_floodHours ∈ lw_tbl := tb2 _ (List.mem_of_getElem? (i := 95) rfl)
theorem wd_20_17 : Cond.codeWith yL_floodHours cL_floodHours 4 (some .int) [(0, 6, 7, 20), (0, 6, 12, 22)] ∈ WA := wr20 _ (List.mem_of_getElem? (i := 17) rfl)
theorem wt_20_17 : Cond.codeWith yL_floodHours cL_floodHours 4 (some .int) [(0, 6, 7, 20), (0, 6, 12, 22)] ∈ lw_tbl := tb2 _ (List.mem_of_getElem? (i := 96) rfl)
theorem wd_20_18 : Cond.methodLink RL 48 yX5_floodHours ∈ WA := wr20 _ (List.mem_of_getElem? (i := 18) rfl)
theorem wt_20_18 : Cond.methodLink RL 48 yX5_floodHours ∈ lw_tbl := tb2 _ (List.mem_of_getElem? (i := 121) rfl)
theorem wd_20_19 : Cond.instanceMethod yX5_floodHours ∈ WA := wr20 _ (List.mem_of_getElem? (i := 19) rfl)
theorem wt_20_19 : Cond.instanceMethod yX5_floodHours ∈ lw_tbl := tb2 _ (List.mem_of_getElem? (i := 122) rfl)
theorem wd_20_20 : Cond.selects RX5 yX5_floodHours yX5_floodHours ∈ WA := wr20 _ (List.mem_of_getElem? (i := 20) rfl)
theorem wt_20_20 : Cond.selects RX5 yX5_floodHours yX5_floodHours ∈ lw_tbl := tb2 _ (List.mem_of_getElem? (i := 123) rfl)
theorem wd_20_21 : Cond.code yX5_floodHours cX5_floodHours 5 (some .int) ∈ WA := wr20 _ (List.mem_of_getElem? (i := 21) rfl)
theorem wt_20_21 : Cond.code yX5_floodHours cX5_floodHours 5 (some .int) ∈ lw_tbl := tb2 _ (List.mem_of_getElem? (i := 124) rfl)
theorem wd_20_22 : Cond.methodLink RX5 135 yX5_checkFlood ∈ WA := wr20 _ (List.mem_of_getElem? (i := 22) rfl)
theorem wt_20_22 : Cond.methodLink RX5 135 yX5_checkFlood ∈ lw_tbl := tb2 _ (List.mem_of_getElem? (i := 125) rfl)
theorem wd_20_23 : Cond.instanceMethod yX5_checkFlood ∈ WA := wr20 _ (List.mem_of_getElem? (i := 23) rfl)
theorem wt_20_23 : Cond.instanceMethod yX5_checkFlood ∈ lw_tbl := tb2 _ (List.mem_of_getElem? (i := 127) rfl)
theorem wc20 : ∀ w ∈ wsL_law0_r20, w ∈ lw_tbl := List.forall_mem_cons.mpr ⟨wt_20_0, List.forall_mem_cons.mpr ⟨wt_20_1, List.forall_mem_cons.mpr ⟨wt_20_2, List.forall_mem_cons.mpr ⟨wt_20_3, List.forall_mem_cons.mpr ⟨wt_20_4, List.forall_mem_cons.mpr ⟨wt_20_5, List.forall_mem_cons.mpr ⟨wt_20_6, List.forall_mem_cons.mpr ⟨wt_20_7, List.forall_mem_cons.mpr ⟨wt_20_8, List.forall_mem_cons.mpr ⟨wt_20_9, List.forall_mem_cons.mpr ⟨wt_20_10, List.forall_mem_cons.mpr ⟨wt_20_11, List.forall_mem_cons.mpr ⟨wt_20_12, List.forall_mem_cons.mpr ⟨wt_20_13, List.forall_mem_cons.mpr ⟨wt_20_14, List.forall_mem_cons.mpr ⟨wt_20_15, List.forall_mem_cons.mpr ⟨wt_20_16, List.forall_mem_cons.mpr ⟨wt_20_17, List.forall_mem_cons.mpr ⟨wt_20_18, List.forall_mem_cons.mpr ⟨wt_20_19, List.forall_mem_cons.mpr ⟨wt_20_20, List.forall_mem_cons.mpr ⟨wt_20_21, List.forall_mem_cons.mpr ⟨wt_20_22, List.forall_mem_cons.mpr ⟨wt_20_23, fun _ h => absurd h List.not_mem_nil⟩⟩⟩⟩⟩⟩⟩⟩⟩⟩⟩⟩⟩⟩⟩⟩⟩⟩⟩⟩⟩⟩⟩⟩
theorem wg20 : wsL_law0_r20.all goodWord = true := by decide +kernel
theorem wd_21_0 : Cond.selects RX5 yX5_checkFlood yX5_checkFlood ∈ WA := wr21 _ (List.mem_of_getElem? (i := 0) rfl)
theorem wt_21_0 : Cond.selects RX5 yX5_checkFlood yX5_checkFlood ∈ lw_tbl := ts1 _ (List.mem_of_getElem? (i := 2) rfl)
theorem wd_21_1 : Cond.code yX5_checkFlood cX5_checkFlood 3 none ∈ WA := wr21 _ (List.mem_of_getElem? (i := 1) rfl)
theorem wt_21_1 : Cond.code yX5_checkFlood cX5_checkFlood 3 none ∈ lw_tbl := tb2 _ (List.mem_of_getElem? (i := 128) rfl)
theorem wd_21_2 : Cond.methodLink RX5 139 yX5_countFlood ∈ WA := wr21 _ (List.mem_of_getElem? (i := 2) rfl)
theorem wt_21_2 : Cond.methodLink RX5 139 yX5_countFlood ∈ lw_tbl := tb2 _ (List.mem_of_getElem? (i := 151) rfl)
theorem wd_21_3 : Cond.instanceMethod yX5_countFlood ∈ WA := wr21 _ (List.mem_of_getElem? (i := 3) rfl)
theorem wt_21_3 : Cond.instanceMethod yX5_countFlood ∈ lw_tbl := tb2 _ (List.mem_of_getElem? (i := 153) rfl)
theorem wd_21_4 : Cond.selects RX5 yX5_countFlood yX5_countFlood ∈ WA := wr21 _ (List.mem_of_getElem? (i := 4) rfl)
theorem wt_21_4 : Cond.selects RX5 yX5_countFlood yX5_countFlood ∈ lw_tbl := ts1 _ (List.mem_of_getElem? (i := 4) rfl)
theorem wd_21_5 : Cond.code yX5_countFlood cX5_countFlood 5 (some .int) ∈ WA := wr21 _ (List.mem_of_getElem? (i := 5) rfl)
theorem wt_21_5 : Cond.code yX5_countFlood cX5_countFlood 5 (some .int) ∈ lw_tbl := tb2 _ (List.mem_of_getElem? (i := 154) rfl)
theorem wd_21_6 : Cond.methodLink RL 202 yL_floodByHours ∈ WA := wr21 _ (List.mem_of_getElem? (i := 6) rfl)
theorem wt_21_6 : Cond.methodLink RL 202 yL_floodByHours ∈ lw_tbl := tb2 _ (List.mem_of_getElem? (i := 166) rfl)
theorem wd_21_7 : Cond.static yL_floodByHours ∈ WA := wr21 _ (List.mem_of_getElem? (i := 7) rfl)
theorem wt_21_7 : Cond.static yL_floodByHours ∈ lw_tbl := tb2 _ (List.mem_of_getElem? (i := 167) rfl)
theorem wd_21_8 : Cond.codeWith yL_floodByHours cL_floodByHours 4 (some .int) [(0, 6, 7, 20), (0, 6, 12, 22)] ∈ WA := wr21 _ (List.mem_of_getElem? (i := 8) rfl)
theorem wt_21_8 : Cond.codeWith yL_floodByHours cL_floodByHours 4 (some .int) [(0, 6, 7, 20), (0, 6, 12, 22)] ∈ lw_tbl := tb2 _ (List.mem_of_getElem? (i := 168) rfl)
theorem wd_21_9 : Cond.methodLink RL 51 yX5_floodByHours ∈ WA := wr21 _ (List.mem_of_getElem? (i := 9) rfl)
theorem wt_21_9 : Cond.methodLink RL 51 yX5_floodByHours ∈ lw_tbl := tb2 _ (List.mem_of_getElem? (i := 169) rfl)
theorem wd_21_10 : Cond.instanceMethod yX5_floodByHours ∈ WA := wr21 _ (List.mem_of_getElem? (i := 10) rfl)
theorem wt_21_10 : Cond.instanceMethod yX5_floodByHours ∈ lw_tbl := tb2 _ (List.mem_of_getElem? (i := 170) rfl)
theorem wd_21_11 : Cond.selects RX5 yX5_floodByHours yX5_floodByHours ∈ WA := wr21 _ (List.mem_of_getElem? (i := 11) rfl)
theorem wt_21_11 : Cond.selects RX5 yX5_floodByHours yX5_floodByHours ∈ lw_tbl := tb2 _ (List.mem_of_getElem? (i := 171) rfl)
theorem wd_21_12 : Cond.code yX5_floodByHours cX5_floodByHours 3 (some .int) ∈ WA := wr21 _ (List.mem_of_getElem? (i := 12) rfl)
theorem wt_21_12 : Cond.code yX5_floodByHours cX5_floodByHours 3 (some .int) ∈ lw_tbl := tb2 _ (List.mem_of_getElem? (i := 172) rfl)
theorem wd_21_13 : Cond.methodLink RL 204 yL_places ∈ WA := wr21 _ (List.mem_of_getElem? (i := 13) rfl)
theorem wt_21_13 : Cond.methodLink RL 204 yL_places ∈ lw_tbl := tb3 _ (List.mem_of_getElem? (i := 58) rfl)
theorem wd_21_14 : Cond.static yL_places ∈ WA := wr21 _ (List.mem_of_getElem? (i := 14) rfl)
theorem wt_21_14 : Cond.static yL_places ∈ lw_tbl := tb3 _ (List.mem_of_getElem? (i := 59) rfl)
theorem wd_21_15 : Cond.code yL_places cL_places 8 (some .boolean) ∈ WA := wr21 _ (List.mem_of_getElem? (i := 15) rfl)
theorem wt_21_15 : Cond.code yL_places cL_places 8 (some .boolean) ∈ lw_tbl := tb3 _ (List.mem_of_getElem? (i := 60) rfl)
theorem wd_21_16 : Cond.methodLink RL 142 yL_dryAt ∈ WA := wr21 _ (List.mem_of_getElem? (i := 16) rfl)
theorem wt_21_16 : Cond.methodLink RL 142 yL_dryAt ∈ lw_tbl := tb3 _ (List.mem_of_getElem? (i := 89) rfl)
theorem wd_21_17 : Cond.static yL_dryAt ∈ WA := wr21 _ (List.mem_of_getElem? (i := 17) rfl)
theorem wt_21_17 : Cond.static yL_dryAt ∈ lw_tbl := tb3 _ (List.mem_of_getElem? (i := 90) rfl)
theorem wd_21_18 : Cond.codeWith yL_dryAt cL_dryAt 3 (some .int) [(0, 5, 6, 20)] ∈ WA := wr21 _ (List.mem_of_getElem? (i := 18) rfl)
theorem wt_21_18 : Cond.codeWith yL_dryAt cL_dryAt 3 (some .int) [(0, 5, 6, 20)] ∈ lw_tbl := tb3 _ (List.mem_of_getElem? (i := 91) rfl)
theorem wd_21_19 : Cond.methodLink RL 101 yX5_dryAt ∈ WA := wr21 _ (List.mem_of_getElem? (i := 19) rfl)
theorem wt_21_19 : Cond.methodLink RL 101 yX5_dryAt ∈ lw_tbl := tb3 _ (List.mem_of_getElem? (i := 92) rfl)
theorem wd_21_20 : Cond.instanceMethod yX5_dryAt ∈ WA := wr21 _ (List.mem_of_getElem? (i := 20) rfl)
theorem wt_21_20 : Cond.instanceMethod yX5_dryAt ∈ lw_tbl := tb3 _ (List.mem_of_getElem? (i := 93) rfl)
theorem wd_21_21 : Cond.selects RX5 yX5_dryAt yX5_dryAt ∈ WA := wr21 _ (List.mem_of_getElem? (i := 21) rfl)
theorem wt_21_21 : Cond.selects RX5 yX5_dryAt yX5_dryAt ∈ lw_tbl := tb3 _ (List.mem_of_getElem? (i := 94) rfl)
theorem wd_21_22 : Cond.code yX5_dryAt cX5_dryAt 2 (some .int) ∈ WA := wr21 _ (List.mem_of_getElem? (i := 22) rfl)
theorem wt_21_22 : Cond.code yX5_dryAt cX5_dryAt 2 (some .int) ∈ lw_tbl := tb3 _ (List.mem_of_getElem? (i := 95) rfl)
theorem wd_21_23 : Cond.methodLink RX5 213 yX4_dryBySpans ∈ WA := wr21 _ (List.mem_of_getElem? (i := 23) rfl)
theorem wt_21_23 : Cond.methodLink RX5 213 yX4_dryBySpans ∈ lw_tbl := tb3 _ (List.mem_of_getElem? (i := 96) rfl)
theorem wc21 : ∀ w ∈ wsL_law0_r21, w ∈ lw_tbl := List.forall_mem_cons.mpr ⟨wt_21_0, List.forall_mem_cons.mpr ⟨wt_21_1, List.forall_mem_cons.mpr ⟨wt_21_2, List.forall_mem_cons.mpr ⟨wt_21_3, List.forall_mem_cons.mpr ⟨wt_21_4, List.forall_mem_cons.mpr ⟨wt_21_5, List.forall_mem_cons.mpr ⟨wt_21_6, List.forall_mem_cons.mpr ⟨wt_21_7, List.forall_mem_cons.mpr ⟨wt_21_8, List.forall_mem_cons.mpr ⟨wt_21_9, List.forall_mem_cons.mpr ⟨wt_21_10, List.forall_mem_cons.mpr ⟨wt_21_11, List.forall_mem_cons.mpr ⟨wt_21_12, List.forall_mem_cons.mpr ⟨wt_21_13, List.forall_mem_cons.mpr ⟨wt_21_14, List.forall_mem_cons.mpr ⟨wt_21_15, List.forall_mem_cons.mpr ⟨wt_21_16, List.forall_mem_cons.mpr ⟨wt_21_17, List.forall_mem_cons.mpr ⟨wt_21_18, List.forall_mem_cons.mpr ⟨wt_21_19, List.forall_mem_cons.mpr ⟨wt_21_20, List.forall_mem_cons.mpr ⟨wt_21_21, List.forall_mem_cons.mpr ⟨wt_21_22, List.forall_mem_cons.mpr ⟨wt_21_23, fun _ h => absurd h List.not_mem_nil⟩⟩⟩⟩⟩⟩⟩⟩⟩⟩⟩⟩⟩⟩⟩⟩⟩⟩⟩⟩⟩⟩⟩⟩
theorem wg21 : wsL_law0_r21.all goodWord = true := by decide +kernel
theorem wd_22_0 : Cond.instanceMethod yX4_dryBySpans ∈ WA := wr22 _ (List.mem_of_getElem? (i := 0) rfl)
theorem wt_22_0 : Cond.instanceMethod yX4_dryBySpans ∈ lw_tbl := tb3 _ (List.mem_of_getElem? (i := 97) rfl)
theorem wd_22_1 : Cond.selects RX4 yX4_dryBySpans yX4_dryBySpans ∈ WA := wr22 _ (List.mem_of_getElem? (i := 1) rfl)
theorem wt_22_1 : Cond.selects RX4 yX4_dryBySpans yX4_dryBySpans ∈ lw_tbl := tb3 _ (List.mem_of_getElem? (i := 98) rfl)
theorem wd_22_2 : Cond.code yX4_dryBySpans cX4_dryBySpans 7 (some .int) ∈ WA := wr22 _ (List.mem_of_getElem? (i := 2) rfl)
theorem wt_22_2 : Cond.code yX4_dryBySpans cX4_dryBySpans 7 (some .int) ∈ lw_tbl := tb3 _ (List.mem_of_getElem? (i := 99) rfl)
theorem wd_22_3 : Cond.methodLink RX4 29 Lib.Math.min.name ∈ WA := wr22 _ (List.mem_of_getElem? (i := 3) rfl)
theorem wt_22_3 : Cond.methodLink RX4 29 Lib.Math.min.name ∈ lw_tbl := tb3 _ (List.mem_of_getElem? (i := 109) rfl)
theorem wd_22_4 : Cond.static Lib.Math.min.name ∈ WA := wr22 _ (List.mem_of_getElem? (i := 4) rfl)
theorem wt_22_4 : Cond.static Lib.Math.min.name ∈ lw_tbl := tb3 _ (List.mem_of_getElem? (i := 110) rfl)
theorem wd_22_5 : Cond.code Lib.Math.min.name Lib.Math.min.code 2 (some .int) ∈ WA := wr22 _ (List.mem_of_getElem? (i := 5) rfl)
theorem wt_22_5 : Cond.code Lib.Math.min.name Lib.Math.min.code 2 (some .int) ∈ lw_tbl := tb3 _ (List.mem_of_getElem? (i := 111) rfl)
theorem wd_22_6 : Cond.methodLink RX4 22 yX4_nextGood ∈ WA := wr22 _ (List.mem_of_getElem? (i := 6) rfl)
theorem wt_22_6 : Cond.methodLink RX4 22 yX4_nextGood ∈ lw_tbl := tb3 _ (List.mem_of_getElem? (i := 100) rfl)
theorem wd_22_7 : Cond.instanceMethod yX4_nextGood ∈ WA := wr22 _ (List.mem_of_getElem? (i := 7) rfl)
theorem wt_22_7 : Cond.instanceMethod yX4_nextGood ∈ lw_tbl := tb3 _ (List.mem_of_getElem? (i := 102) rfl)
theorem wd_22_8 : Cond.selects RX4 yX4_nextGood yX4_nextGood ∈ WA := wr22 _ (List.mem_of_getElem? (i := 8) rfl)
theorem wt_22_8 : Cond.selects RX4 yX4_nextGood yX4_nextGood ∈ lw_tbl := ts1 _ (List.mem_of_getElem? (i := 9) rfl)
theorem wd_22_9 : Cond.code yX4_nextGood cX4_nextGood 5 (some .int) ∈ WA := wr22 _ (List.mem_of_getElem? (i := 9) rfl)
theorem wt_22_9 : Cond.code yX4_nextGood cX4_nextGood 5 (some .int) ∈ lw_tbl := tb3 _ (List.mem_of_getElem? (i := 103) rfl)
theorem wd_22_10 : Cond.methodLink RX4 26 yX4_nextStart ∈ WA := wr22 _ (List.mem_of_getElem? (i := 10) rfl)
theorem wt_22_10 : Cond.methodLink RX4 26 yX4_nextStart ∈ lw_tbl := tb3 _ (List.mem_of_getElem? (i := 104) rfl)
theorem wd_22_11 : Cond.instanceMethod yX4_nextStart ∈ WA := wr22 _ (List.mem_of_getElem? (i := 11) rfl)
theorem wt_22_11 : Cond.instanceMethod yX4_nextStart ∈ lw_tbl := tb3 _ (List.mem_of_getElem? (i := 106) rfl)
theorem wd_22_12 : Cond.selects RX4 yX4_nextStart yX4_nextStart ∈ WA := wr22 _ (List.mem_of_getElem? (i := 12) rfl)
theorem wt_22_12 : Cond.selects RX4 yX4_nextStart yX4_nextStart ∈ lw_tbl := ts1 _ (List.mem_of_getElem? (i := 10) rfl)
theorem wd_22_13 : Cond.code yX4_nextStart cX4_nextStart 4 (some .int) ∈ WA := wr22 _ (List.mem_of_getElem? (i := 13) rfl)
theorem wt_22_13 : Cond.code yX4_nextStart cX4_nextStart 4 (some .int) ∈ lw_tbl := tb3 _ (List.mem_of_getElem? (i := 107) rfl)
theorem wd_22_14 : Cond.constant RX4 35 (1000000) ∈ WA := wr22 _ (List.mem_of_getElem? (i := 14) rfl)
theorem wt_22_14 : Cond.constant RX4 35 (1000000) ∈ lw_tbl := tb3 _ (List.mem_of_getElem? (i := 108) rfl)
theorem wd_22_15 : Cond.methodLink RL 144 yL_dryByHours ∈ WA := wr22 _ (List.mem_of_getElem? (i := 15) rfl)
theorem wt_22_15 : Cond.methodLink RL 144 yL_dryByHours ∈ lw_tbl := tb3 _ (List.mem_of_getElem? (i := 112) rfl)
theorem wd_22_16 : Cond.static yL_dryByHours ∈ WA := wr22 _ (List.mem_of_getElem? (i := 16) rfl)
theorem wt_22_16 : Cond.static yL_dryByHours ∈ lw_tbl := tb3 _ (List.mem_of_getElem? (i := 113) rfl)
theorem wd_22_17 : Cond.codeWith yL_dryByHours cL_dryByHours 3 (some .int) [(0, 5, 6, 20)] ∈ WA := wr22 _ (List.mem_of_getElem? (i := 17) rfl)
theorem wt_22_17 : Cond.codeWith yL_dryByHours cL_dryByHours 3 (some .int) [(0, 5, 6, 20)] ∈ lw_tbl := tb3 _ (List.mem_of_getElem? (i := 114) rfl)
theorem wd_22_18 : Cond.methodLink RL 104 yX5_dryByHours ∈ WA := wr22 _ (List.mem_of_getElem? (i := 18) rfl)
theorem wt_22_18 : Cond.methodLink RL 104 yX5_dryByHours ∈ lw_tbl := tb3 _ (List.mem_of_getElem? (i := 115) rfl)
theorem wd_22_19 : Cond.instanceMethod yX5_dryByHours ∈ WA := wr22 _ (List.mem_of_getElem? (i := 19) rfl)
theorem wt_22_19 : Cond.instanceMethod yX5_dryByHours ∈ lw_tbl := tb3 _ (List.mem_of_getElem? (i := 116) rfl)
theorem wd_22_20 : Cond.selects RX5 yX5_dryByHours yX5_dryByHours ∈ WA := wr22 _ (List.mem_of_getElem? (i := 20) rfl)
theorem wt_22_20 : Cond.selects RX5 yX5_dryByHours yX5_dryByHours ∈ lw_tbl := tb3 _ (List.mem_of_getElem? (i := 117) rfl)
theorem wd_22_21 : Cond.code yX5_dryByHours cX5_dryByHours 2 (some .int) ∈ WA := wr22 _ (List.mem_of_getElem? (i := 21) rfl)
theorem wt_22_21 : Cond.code yX5_dryByHours cX5_dryByHours 2 (some .int) ∈ lw_tbl := tb3 _ (List.mem_of_getElem? (i := 118) rfl)
theorem wd_22_22 : Cond.methodLink RX5 216 yX4_dryHourByHour ∈ WA := wr22 _ (List.mem_of_getElem? (i := 22) rfl)
theorem wt_22_22 : Cond.methodLink RX5 216 yX4_dryHourByHour ∈ lw_tbl := tb3 _ (List.mem_of_getElem? (i := 119) rfl)
theorem wd_22_23 : Cond.instanceMethod yX4_dryHourByHour ∈ WA := wr22 _ (List.mem_of_getElem? (i := 23) rfl)
theorem wt_22_23 : Cond.instanceMethod yX4_dryHourByHour ∈ lw_tbl := tb3 _ (List.mem_of_getElem? (i := 120) rfl)
theorem wc22 : ∀ w ∈ wsL_law0_r22, w ∈ lw_tbl := List.forall_mem_cons.mpr ⟨wt_22_0, List.forall_mem_cons.mpr ⟨wt_22_1, List.forall_mem_cons.mpr ⟨wt_22_2, List.forall_mem_cons.mpr ⟨wt_22_3, List.forall_mem_cons.mpr ⟨wt_22_4, List.forall_mem_cons.mpr ⟨wt_22_5, List.forall_mem_cons.mpr ⟨wt_22_6, List.forall_mem_cons.mpr ⟨wt_22_7, List.forall_mem_cons.mpr ⟨wt_22_8, List.forall_mem_cons.mpr ⟨wt_22_9, List.forall_mem_cons.mpr ⟨wt_22_10, List.forall_mem_cons.mpr ⟨wt_22_11, List.forall_mem_cons.mpr ⟨wt_22_12, List.forall_mem_cons.mpr ⟨wt_22_13, List.forall_mem_cons.mpr ⟨wt_22_14, List.forall_mem_cons.mpr ⟨wt_22_15, List.forall_mem_cons.mpr ⟨wt_22_16, List.forall_mem_cons.mpr ⟨wt_22_17, List.forall_mem_cons.mpr ⟨wt_22_18, List.forall_mem_cons.mpr ⟨wt_22_19, List.forall_mem_cons.mpr ⟨wt_22_20, List.forall_mem_cons.mpr ⟨wt_22_21, List.forall_mem_cons.mpr ⟨wt_22_22, List.forall_mem_cons.mpr ⟨wt_22_23, fun _ h => absurd h List.not_mem_nil⟩⟩⟩⟩⟩⟩⟩⟩⟩⟩⟩⟩⟩⟩⟩⟩⟩⟩⟩⟩⟩⟩⟩⟩
theorem wg22 : wsL_law0_r22.all goodWord = true := by decide +kernel
theorem wd_23_0 : Cond.selects RX4 yX4_dryHourByHour yX4_dryHourByHour ∈ WA := wr23 _ (List.mem_of_getElem? (i := 0) rfl)
theorem wt_23_0 : Cond.selects RX4 yX4_dryHourByHour yX4_dryHourByHour ∈ lw_tbl := tb3 _ (List.mem_of_getElem? (i := 121) rfl)
theorem wd_23_1 : Cond.code yX4_dryHourByHour cX4_dryHourByHour 6 (some .int) ∈ WA := wr23 _ (List.mem_of_getElem? (i := 1) rfl)
theorem wt_23_1 : Cond.code yX4_dryHourByHour cX4_dryHourByHour 6 (some .int) ∈ lw_tbl := tb3 _ (List.mem_of_getElem? (i := 122) rfl)
theorem wd_23_2 : Cond.methodLink RX4 36 yX4_badAt ∈ WA := wr23 _ (List.mem_of_getElem? (i := 2) rfl)
theorem wt_23_2 : Cond.methodLink RX4 36 yX4_badAt ∈ lw_tbl := tb3 _ (List.mem_of_getElem? (i := 123) rfl)
theorem wd_23_3 : Cond.methodLink RL 151 yL_leastByRounds ∈ WA := wr23 _ (List.mem_of_getElem? (i := 3) rfl)
theorem wt_23_3 : Cond.methodLink RL 151 yL_leastByRounds ∈ lw_tbl := tb3 _ (List.mem_of_getElem? (i := 209) rfl)
theorem wd_23_4 : Cond.static yL_leastByRounds ∈ WA := wr23 _ (List.mem_of_getElem? (i := 4) rfl)
theorem wt_23_4 : Cond.static yL_leastByRounds ∈ lw_tbl := tb3 _ (List.mem_of_getElem? (i := 210) rfl)
theorem wd_23_5 : Cond.codeWith yL_leastByRounds cL_leastByRounds 3 (some .int) [(0, 5, 6, 20), (0, 5, 11, 24), (0, 5, 16, 57)] ∈ WA := wr23 _ (List.mem_of_getElem? (i := 5) rfl)
theorem wt_23_5 : Cond.codeWith yL_leastByRounds cL_leastByRounds 3 (some .int) [(0, 5, 6, 20), (0, 5, 11, 24), (0, 5, 16, 57)] ∈ lw_tbl := tb3 _ (List.mem_of_getElem? (i := 211) rfl)
theorem wd_23_6 : Cond.methodLink RL 113 yX5_leastByRounds ∈ WA := wr23 _ (List.mem_of_getElem? (i := 6) rfl)
theorem wt_23_6 : Cond.methodLink RL 113 yX5_leastByRounds ∈ lw_tbl := tb3 _ (List.mem_of_getElem? (i := 212) rfl)
theorem wd_23_7 : Cond.instanceMethod yX5_leastByRounds ∈ WA := wr23 _ (List.mem_of_getElem? (i := 7) rfl)
theorem wt_23_7 : Cond.instanceMethod yX5_leastByRounds ∈ lw_tbl := tb3 _ (List.mem_of_getElem? (i := 213) rfl)
theorem wd_23_8 : Cond.selects RX5 yX5_leastByRounds yX5_leastByRounds ∈ WA := wr23 _ (List.mem_of_getElem? (i := 8) rfl)
theorem wt_23_8 : Cond.selects RX5 yX5_leastByRounds yX5_leastByRounds ∈ lw_tbl := tb3 _ (List.mem_of_getElem? (i := 214) rfl)
theorem wd_23_9 : Cond.code yX5_leastByRounds cX5_leastByRounds 3 (some .int) ∈ WA := wr23 _ (List.mem_of_getElem? (i := 9) rfl)
theorem wt_23_9 : Cond.code yX5_leastByRounds cX5_leastByRounds 3 (some .int) ∈ lw_tbl := tb3 _ (List.mem_of_getElem? (i := 215) rfl)
theorem wd_23_10 : Cond.methodLink RX5 233 yX5_leastOfRounds ∈ WA := wr23 _ (List.mem_of_getElem? (i := 10) rfl)
theorem wt_23_10 : Cond.methodLink RX5 233 yX5_leastOfRounds ∈ lw_tbl := tb3 _ (List.mem_of_getElem? (i := 216) rfl)
theorem wd_23_11 : Cond.instanceMethod yX5_leastOfRounds ∈ WA := wr23 _ (List.mem_of_getElem? (i := 11) rfl)
theorem wt_23_11 : Cond.instanceMethod yX5_leastOfRounds ∈ lw_tbl := tb3 _ (List.mem_of_getElem? (i := 218) rfl)
theorem wd_23_12 : Cond.selects RX5 yX5_leastOfRounds yX5_leastOfRounds ∈ WA := wr23 _ (List.mem_of_getElem? (i := 12) rfl)
theorem wt_23_12 : Cond.selects RX5 yX5_leastOfRounds yX5_leastOfRounds ∈ lw_tbl := ts2 _ (List.mem_of_getElem? (i := 5) rfl)
theorem wd_23_13 : Cond.code yX5_leastOfRounds cX5_leastOfRounds 5 (some .int) ∈ WA := wr23 _ (List.mem_of_getElem? (i := 13) rfl)
theorem wt_23_13 : Cond.code yX5_leastOfRounds cX5_leastOfRounds 5 (some .int) ∈ lw_tbl := tb3 _ (List.mem_of_getElem? (i := 219) rfl)
theorem wd_23_14 : Cond.fieldLink RX5 302 "BoatCradle$Places" "list" "[I" ∈ WA := wr23 _ (List.mem_of_getElem? (i := 14) rfl)
theorem wt_23_14 : Cond.fieldLink RX5 302 "BoatCradle$Places" "list" "[I" ∈ lw_tbl := tb1 _ (List.mem_of_getElem? (i := 140) rfl)
theorem wd_23_15 : Cond.methodLink RX5 305 yX5_leastClear ∈ WA := wr23 _ (List.mem_of_getElem? (i := 15) rfl)
theorem wt_23_15 : Cond.methodLink RX5 305 yX5_leastClear ∈ lw_tbl := tb3 _ (List.mem_of_getElem? (i := 220) rfl)
theorem wd_23_16 : Cond.instanceMethod yX5_leastClear ∈ WA := wr23 _ (List.mem_of_getElem? (i := 16) rfl)
theorem wt_23_16 : Cond.instanceMethod yX5_leastClear ∈ lw_tbl := tb3 _ (List.mem_of_getElem? (i := 222) rfl)
theorem wd_23_17 : Cond.selects RX5 yX5_leastClear yX5_leastClear ∈ WA := wr23 _ (List.mem_of_getElem? (i := 17) rfl)
theorem wt_23_17 : Cond.selects RX5 yX5_leastClear yX5_leastClear ∈ lw_tbl := ts2 _ (List.mem_of_getElem? (i := 6) rfl)
theorem wd_23_18 : Cond.code yX5_leastClear cX5_leastClear 5 (some .int) ∈ WA := wr23 _ (List.mem_of_getElem? (i := 18) rfl)
theorem wt_23_18 : Cond.code yX5_leastClear cX5_leastClear 5 (some .int) ∈ lw_tbl := tb3 _ (List.mem_of_getElem? (i := 223) rfl)
theorem wd_23_19 : Cond.methodLink RL 207 yX5_forgetWeather ∈ WA := wr23 _ (List.mem_of_getElem? (i := 19) rfl)
theorem wt_23_19 : Cond.methodLink RL 207 yX5_forgetWeather ∈ lw_tbl := tb1 _ (List.mem_of_getElem? (i := 193) rfl)
theorem wd_23_20 : Cond.instanceMethod yX5_forgetWeather ∈ WA := wr23 _ (List.mem_of_getElem? (i := 20) rfl)
theorem wt_23_20 : Cond.instanceMethod yX5_forgetWeather ∈ lw_tbl := tb1 _ (List.mem_of_getElem? (i := 194) rfl)
theorem wd_23_21 : Cond.selects RX5 yX5_forgetWeather yX5_forgetWeather ∈ WA := wr23 _ (List.mem_of_getElem? (i := 21) rfl)
theorem wt_23_21 : Cond.selects RX5 yX5_forgetWeather yX5_forgetWeather ∈ lw_tbl := tb1 _ (List.mem_of_getElem? (i := 195) rfl)
theorem wd_23_22 : Cond.code yX5_forgetWeather cX5_forgetWeather 1 (some .int) ∈ WA := wr23 _ (List.mem_of_getElem? (i := 22) rfl)
theorem wt_23_22 : Cond.code yX5_forgetWeather cX5_forgetWeather 1 (some .int) ∈ lw_tbl := tb1 _ (List.mem_of_getElem? (i := 196) rfl)
theorem wd_23_23 : Cond.methodLink RX5 125 yX4_keepFrom ∈ WA := wr23 _ (List.mem_of_getElem? (i := 23) rfl)
theorem wt_23_23 : Cond.methodLink RX5 125 yX4_keepFrom ∈ lw_tbl := tb1 _ (List.mem_of_getElem? (i := 197) rfl)
theorem wc23 : ∀ w ∈ wsL_law0_r23, w ∈ lw_tbl := List.forall_mem_cons.mpr ⟨wt_23_0, List.forall_mem_cons.mpr ⟨wt_23_1, List.forall_mem_cons.mpr ⟨wt_23_2, List.forall_mem_cons.mpr ⟨wt_23_3, List.forall_mem_cons.mpr ⟨wt_23_4, List.forall_mem_cons.mpr ⟨wt_23_5, List.forall_mem_cons.mpr ⟨wt_23_6, List.forall_mem_cons.mpr ⟨wt_23_7, List.forall_mem_cons.mpr ⟨wt_23_8, List.forall_mem_cons.mpr ⟨wt_23_9, List.forall_mem_cons.mpr ⟨wt_23_10, List.forall_mem_cons.mpr ⟨wt_23_11, List.forall_mem_cons.mpr ⟨wt_23_12, List.forall_mem_cons.mpr ⟨wt_23_13, List.forall_mem_cons.mpr ⟨wt_23_14, List.forall_mem_cons.mpr ⟨wt_23_15, List.forall_mem_cons.mpr ⟨wt_23_16, List.forall_mem_cons.mpr ⟨wt_23_17, List.forall_mem_cons.mpr ⟨wt_23_18, List.forall_mem_cons.mpr ⟨wt_23_19, List.forall_mem_cons.mpr ⟨wt_23_20, List.forall_mem_cons.mpr ⟨wt_23_21, List.forall_mem_cons.mpr ⟨wt_23_22, List.forall_mem_cons.mpr ⟨wt_23_23, fun _ h => absurd h List.not_mem_nil⟩⟩⟩⟩⟩⟩⟩⟩⟩⟩⟩⟩⟩⟩⟩⟩⟩⟩⟩⟩⟩⟩⟩⟩
theorem wg23 : wsL_law0_r23.all goodWord = true := by decide +kernel
theorem wd_24_0 : Cond.instanceMethod yX4_keepFrom ∈ WA := wr24 _ (List.mem_of_getElem? (i := 0) rfl)
theorem wt_24_0 : Cond.instanceMethod yX4_keepFrom ∈ lw_tbl := tb1 _ (List.mem_of_getElem? (i := 198) rfl)
theorem wd_24_1 : Cond.selects RX4 yX4_keepFrom yX4_keepFrom ∈ WA := wr24 _ (List.mem_of_getElem? (i := 1) rfl)
theorem wt_24_1 : Cond.selects RX4 yX4_keepFrom yX4_keepFrom ∈ lw_tbl := tb1 _ (List.mem_of_getElem? (i := 199) rfl)
theorem wd_24_2 : Cond.code yX4_keepFrom cX4_keepFrom 4 (some .int) ∈ WA := wr24 _ (List.mem_of_getElem? (i := 2) rfl)
theorem wt_24_2 : Cond.code yX4_keepFrom cX4_keepFrom 4 (some .int) ∈ lw_tbl := tb1 _ (List.mem_of_getElem? (i := 200) rfl)
theorem wd_24_3 : Cond.methodLink RL 210 yX5_movedWeight ∈ WA := wr24 _ (List.mem_of_getElem? (i := 3) rfl)
theorem wt_24_3 : Cond.methodLink RL 210 yX5_movedWeight ∈ lw_tbl := tb1 _ (List.mem_of_getElem? (i := 205) rfl)
theorem wd_24_4 : Cond.instanceMethod yX5_movedWeight ∈ WA := wr24 _ (List.mem_of_getElem? (i := 4) rfl)
theorem wt_24_4 : Cond.instanceMethod yX5_movedWeight ∈ lw_tbl := tb1 _ (List.mem_of_getElem? (i := 206) rfl)
theorem wd_24_5 : Cond.selects RX5 yX5_movedWeight yX5_movedWeight ∈ WA := wr24 _ (List.mem_of_getElem? (i := 5) rfl)
theorem wt_24_5 : Cond.selects RX5 yX5_movedWeight yX5_movedWeight ∈ lw_tbl := tb1 _ (List.mem_of_getElem? (i := 207) rfl)
theorem wd_24_6 : Cond.code yX5_movedWeight cX5_movedWeight 1 (some .long) ∈ WA := wr24 _ (List.mem_of_getElem? (i := 6) rfl)
theorem wt_24_6 : Cond.code yX5_movedWeight cX5_movedWeight 1 (some .long) ∈ lw_tbl := tb1 _ (List.mem_of_getElem? (i := 208) rfl)
theorem wc24 : ∀ w ∈ wsL_law0_r24, w ∈ lw_tbl := List.forall_mem_cons.mpr ⟨wt_24_0, List.forall_mem_cons.mpr ⟨wt_24_1, List.forall_mem_cons.mpr ⟨wt_24_2, List.forall_mem_cons.mpr ⟨wt_24_3, List.forall_mem_cons.mpr ⟨wt_24_4, List.forall_mem_cons.mpr ⟨wt_24_5, List.forall_mem_cons.mpr ⟨wt_24_6, fun _ h => absurd h List.not_mem_nil⟩⟩⟩⟩⟩⟩⟩
theorem wg24 : wsL_law0_r24.all goodWord = true := by decide +kernel
theorem wf0_0 : u_lay RX0 TX0 0 ∈ lw_tbl := tb1 _ (List.mem_of_getElem? (i := 80) rfl)
theorem wf0_1 : u_lay RX0 TX0 1 ∈ lw_tbl := tb1 _ (List.mem_of_getElem? (i := 82) rfl)
theorem wf0_2 : u_lay RX0 TX0 2 ∈ lw_tbl := tb1 _ (List.mem_of_getElem? (i := 84) rfl)
theorem wf0_3 : u_lay RX0 TX0 3 ∈ lw_tbl := tb1 _ (List.mem_of_getElem? (i := 86) rfl)
theorem wf0_4 : u_lay RX0 TX0 4 ∈ lw_tbl := tb1 _ (List.mem_of_getElem? (i := 88) rfl)
theorem inX0 : ∀ w ∈ wsX00, w ∈ lw_tbl := (List.forall_mem_cons.mpr ⟨wf0_0, List.forall_mem_cons.mpr ⟨wf0_1, List.forall_mem_cons.mpr ⟨wf0_2, List.forall_mem_cons.mpr ⟨wf0_3, List.forall_mem_cons.mpr ⟨wf0_4, fun _ h => absurd h List.not_mem_nil⟩⟩⟩⟩⟩ : ∀ w ∈ [u_lay RX0 TX0 0, u_lay RX0 TX0 1, u_lay RX0 TX0 2, u_lay RX0 TX0 3, u_lay RX0 TX0 4], w ∈ lw_tbl)
theorem inlX0 : ∀ w ∈ wsX00, w ∈ WA := fun w h => List.mem_append_left _ (List.mem_append_left _ (List.mem_append_left _ (List.mem_append_left _ (List.mem_append_left _ (List.mem_append_left _ (List.mem_append_left _ (List.mem_append_left _ (List.mem_append_right _ h))))))))
theorem wgX0 : wsX00.all goodWord = true := by decide +kernel
theorem wf1_0 : u_lay RX1 TX1 0 ∈ lw_tbl := tb1 _ (List.mem_of_getElem? (i := 112) rfl)
theorem wf1_1 : u_lay RX1 TX1 1 ∈ lw_tbl := tb1 _ (List.mem_of_getElem? (i := 114) rfl)
theorem wf1_2 : u_lay RX1 TX1 2 ∈ lw_tbl := tb1 _ (List.mem_of_getElem? (i := 116) rfl)
theorem wf1_3 : u_lay RX1 TX1 3 ∈ lw_tbl := tb1 _ (List.mem_of_getElem? (i := 118) rfl)
theorem wf1_4 : u_lay RX1 TX1 4 ∈ lw_tbl := tb1 _ (List.mem_of_getElem? (i := 120) rfl)
theorem wf1_5 : u_lay RX1 TX1 5 ∈ lw_tbl := tb1 _ (List.mem_of_getElem? (i := 122) rfl)
theorem wf1_6 : u_lay RX1 TX1 6 ∈ lw_tbl := tb1 _ (List.mem_of_getElem? (i := 124) rfl)
theorem wf1_7 : u_lay RX1 TX1 7 ∈ lw_tbl := tb1 _ (List.mem_of_getElem? (i := 126) rfl)
theorem inX1 : ∀ w ∈ wsX10, w ∈ lw_tbl := (List.forall_mem_cons.mpr ⟨wf1_0, List.forall_mem_cons.mpr ⟨wf1_1, List.forall_mem_cons.mpr ⟨wf1_2, List.forall_mem_cons.mpr ⟨wf1_3, List.forall_mem_cons.mpr ⟨wf1_4, List.forall_mem_cons.mpr ⟨wf1_5, List.forall_mem_cons.mpr ⟨wf1_6, List.forall_mem_cons.mpr ⟨wf1_7, fun _ h => absurd h List.not_mem_nil⟩⟩⟩⟩⟩⟩⟩⟩ : ∀ w ∈ [u_lay RX1 TX1 0, u_lay RX1 TX1 1, u_lay RX1 TX1 2, u_lay RX1 TX1 3, u_lay RX1 TX1 4, u_lay RX1 TX1 5, u_lay RX1 TX1 6, u_lay RX1 TX1 7], w ∈ lw_tbl)
theorem inlX1 : ∀ w ∈ wsX10, w ∈ WA := fun w h => List.mem_append_left _ (List.mem_append_left _ (List.mem_append_left _ (List.mem_append_left _ (List.mem_append_left _ (List.mem_append_left _ (List.mem_append_left _ (List.mem_append_right _ h)))))))
theorem wgX1 : wsX10.all goodWord = true := by decide +kernel
theorem wf2_0 : u_lay RX2 TX2 0 ∈ lw_tbl := tb1 _ (List.mem_of_getElem? (i := 146) rfl)
theorem wf2_1 : u_lay RX2 TX2 1 ∈ lw_tbl := tb1 _ (List.mem_of_getElem? (i := 148) rfl)
theorem wf2_2 : u_lay RX2 TX2 2 ∈ lw_tbl := tb1 _ (List.mem_of_getElem? (i := 150) rfl)
theorem wf2_3 : u_lay RX2 TX2 3 ∈ lw_tbl := tb1 _ (List.mem_of_getElem? (i := 152) rfl)
theorem wf2_4 : u_lay RX2 TX2 4 ∈ lw_tbl := tb1 _ (List.mem_of_getElem? (i := 154) rfl)
theorem wf2_5 : u_lay RX2 TX2 5 ∈ lw_tbl := tb1 _ (List.mem_of_getElem? (i := 156) rfl)
theorem inX2 : ∀ w ∈ wsX20, w ∈ lw_tbl := (List.forall_mem_cons.mpr ⟨wf2_0, List.forall_mem_cons.mpr ⟨wf2_1, List.forall_mem_cons.mpr ⟨wf2_2, List.forall_mem_cons.mpr ⟨wf2_3, List.forall_mem_cons.mpr ⟨wf2_4, List.forall_mem_cons.mpr ⟨wf2_5, fun _ h => absurd h List.not_mem_nil⟩⟩⟩⟩⟩⟩ : ∀ w ∈ [u_lay RX2 TX2 0, u_lay RX2 TX2 1, u_lay RX2 TX2 2, u_lay RX2 TX2 3, u_lay RX2 TX2 4, u_lay RX2 TX2 5], w ∈ lw_tbl)
theorem inlX2 : ∀ w ∈ wsX20, w ∈ WA := fun w h => List.mem_append_left _ (List.mem_append_left _ (List.mem_append_left _ (List.mem_append_left _ (List.mem_append_left _ (List.mem_append_left _ (List.mem_append_right _ h))))))
theorem wgX2 : wsX20.all goodWord = true := by decide +kernel
theorem wf3_0 : u_lay RX3 TX3 0 ∈ lw_tbl := tb1 _ (List.mem_of_getElem? (i := 39) rfl)
theorem wf3_1 : u_lay RX3 TX3 1 ∈ lw_tbl := tb1 _ (List.mem_of_getElem? (i := 41) rfl)
theorem wf3_2 : u_lay RX3 TX3 2 ∈ lw_tbl := tb1 _ (List.mem_of_getElem? (i := 43) rfl)
theorem inX3 : ∀ w ∈ wsX30, w ∈ lw_tbl := (List.forall_mem_cons.mpr ⟨wf3_0, List.forall_mem_cons.mpr ⟨wf3_1, List.forall_mem_cons.mpr ⟨wf3_2, fun _ h => absurd h List.not_mem_nil⟩⟩⟩ : ∀ w ∈ [u_lay RX3 TX3 0, u_lay RX3 TX3 1, u_lay RX3 TX3 2], w ∈ lw_tbl)
theorem inlX3 : ∀ w ∈ wsX30, w ∈ WA := fun w h => List.mem_append_left _ (List.mem_append_left _ (List.mem_append_left _ (List.mem_append_left _ (List.mem_append_left _ (List.mem_append_left _ (List.mem_append_left _ (List.mem_append_left _ (List.mem_append_left _ (List.mem_append_left _ (List.mem_append_right _ h))))))))))
theorem wgX3 : wsX30.all goodWord = true := by decide +kernel
theorem wf4_0 : u_lay RX4 TX4 0 ∈ lw_tbl := tb1 _ (List.mem_of_getElem? (i := 56) rfl)
theorem wf4_1 : u_lay RX4 TX4 1 ∈ lw_tbl := tb1 _ (List.mem_of_getElem? (i := 58) rfl)
theorem wf4_2 : u_lay RX4 TX4 2 ∈ lw_tbl := tb1 _ (List.mem_of_getElem? (i := 60) rfl)
theorem inX4 : ∀ w ∈ wsX40, w ∈ lw_tbl := (List.forall_mem_cons.mpr ⟨wf4_0, List.forall_mem_cons.mpr ⟨wf4_1, List.forall_mem_cons.mpr ⟨wf4_2, fun _ h => absurd h List.not_mem_nil⟩⟩⟩ : ∀ w ∈ [u_lay RX4 TX4 0, u_lay RX4 TX4 1, u_lay RX4 TX4 2], w ∈ lw_tbl)
theorem inlX4 : ∀ w ∈ wsX40, w ∈ WA := fun w h => List.mem_append_left _ (List.mem_append_left _ (List.mem_append_left _ (List.mem_append_left _ (List.mem_append_left _ (List.mem_append_left _ (List.mem_append_left _ (List.mem_append_left _ (List.mem_append_left _ (List.mem_append_right _ h)))))))))
theorem wgX4 : wsX40.all goodWord = true := by decide +kernel
theorem wf5_0 : u_lay RX5 TX5 0 ∈ lw_tbl := tb1 _ (List.mem_of_getElem? (i := 170) rfl)
theorem wf5_1 : u_lay RX5 TX5 1 ∈ lw_tbl := tb1 _ (List.mem_of_getElem? (i := 172) rfl)
theorem wf5_2 : u_lay RX5 TX5 2 ∈ lw_tbl := tb1 _ (List.mem_of_getElem? (i := 174) rfl)
theorem wf5_3 : u_lay RX5 TX5 3 ∈ lw_tbl := tb1 _ (List.mem_of_getElem? (i := 176) rfl)
theorem wf5_4 : u_lay RX5 TX5 4 ∈ lw_tbl := tb1 _ (List.mem_of_getElem? (i := 178) rfl)
theorem wf5_5 : u_lay RX5 TX5 5 ∈ lw_tbl := tb1 _ (List.mem_of_getElem? (i := 180) rfl)
theorem wf5_6 : u_lay RX5 TX5 6 ∈ lw_tbl := tb1 _ (List.mem_of_getElem? (i := 182) rfl)
theorem wf5_7 : u_lay RX5 TX5 7 ∈ lw_tbl := tb1 _ (List.mem_of_getElem? (i := 184) rfl)
theorem wf5_8 : u_lay RX5 TX5 8 ∈ lw_tbl := tb1 _ (List.mem_of_getElem? (i := 186) rfl)
theorem wf5_9 : u_lay RX5 TX5 9 ∈ lw_tbl := tb1 _ (List.mem_of_getElem? (i := 188) rfl)
theorem wf5_10 : u_lay RX5 TX5 10 ∈ lw_tbl := tb1 _ (List.mem_of_getElem? (i := 190) rfl)
theorem inX5 : ∀ w ∈ wsX50, w ∈ lw_tbl := (List.forall_mem_cons.mpr ⟨wf5_0, List.forall_mem_cons.mpr ⟨wf5_1, List.forall_mem_cons.mpr ⟨wf5_2, List.forall_mem_cons.mpr ⟨wf5_3, List.forall_mem_cons.mpr ⟨wf5_4, List.forall_mem_cons.mpr ⟨wf5_5, List.forall_mem_cons.mpr ⟨wf5_6, List.forall_mem_cons.mpr ⟨wf5_7, List.forall_mem_cons.mpr ⟨wf5_8, List.forall_mem_cons.mpr ⟨wf5_9, List.forall_mem_cons.mpr ⟨wf5_10, fun _ h => absurd h List.not_mem_nil⟩⟩⟩⟩⟩⟩⟩⟩⟩⟩⟩ : ∀ w ∈ [u_lay RX5 TX5 0, u_lay RX5 TX5 1, u_lay RX5 TX5 2, u_lay RX5 TX5 3, u_lay RX5 TX5 4, u_lay RX5 TX5 5, u_lay RX5 TX5 6, u_lay RX5 TX5 7, u_lay RX5 TX5 8, u_lay RX5 TX5 9, u_lay RX5 TX5 10], w ∈ lw_tbl)
theorem inlX5 : ∀ w ∈ wsX50, w ∈ WA := fun w h => List.mem_append_left _ (List.mem_append_left _ (List.mem_append_left _ (List.mem_append_left _ (List.mem_append_left _ (List.mem_append_left _ (List.mem_append_left _ (List.mem_append_left _ (List.mem_append_left _ (List.mem_append_left _ (List.mem_append_left _ (List.mem_append_right _ h)))))))))))
theorem wgX5 : wsX50.all goodWord = true := by decide +kernel
theorem wx0 : ∀ w ∈ (vx_atM "java/lang/ArrayIndexOutOfBoundsException" ["java/lang/IndexOutOfBoundsException", "java/lang/RuntimeException", "java/lang/Exception"]).filter goodWord, w ∈ lw_tbl := by decide +kernel
theorem wy0 : ∀ w ∈ (vx_atM "java/lang/ArrayIndexOutOfBoundsException" ["java/lang/IndexOutOfBoundsException", "java/lang/RuntimeException", "java/lang/Exception"]).filter goodWord, w ∈ WA := fun w h => List.mem_append_left _ (List.mem_append_left _ (List.mem_append_left _ (List.mem_append_left _ (List.mem_append_right _ h))))
theorem wx1 : ∀ w ∈ (vx_atS RX5 72 "java/lang/IndexOutOfBoundsException" ["java/lang/RuntimeException", "java/lang/Exception"]).filter goodWord, w ∈ lw_tbl := by decide +kernel
theorem wy1 : ∀ w ∈ (vx_atS RX5 72 "java/lang/IndexOutOfBoundsException" ["java/lang/RuntimeException", "java/lang/Exception"]).filter goodWord, w ∈ WA := fun w h => List.mem_append_left _ (List.mem_append_left _ (List.mem_append_left _ (List.mem_append_right _ h)))
theorem wx2 : ∀ w ∈ (vx_atS RX5 83 "java/lang/IllegalArgumentException" ["java/lang/RuntimeException", "java/lang/Exception"]).filter goodWord, w ∈ lw_tbl := by decide +kernel
theorem wy2 : ∀ w ∈ (vx_atS RX5 83 "java/lang/IllegalArgumentException" ["java/lang/RuntimeException", "java/lang/Exception"]).filter goodWord, w ∈ WA := fun w h => List.mem_append_left _ (List.mem_append_left _ (List.mem_append_right _ h))
theorem wx3 : ∀ w ∈ (vx_atS RX5 91 "java/lang/IllegalStateException" ["java/lang/RuntimeException", "java/lang/Exception"]).filter goodWord, w ∈ lw_tbl := by decide +kernel
theorem wy3 : ∀ w ∈ (vx_atS RX5 91 "java/lang/IllegalStateException" ["java/lang/RuntimeException", "java/lang/Exception"]).filter goodWord, w ∈ WA := fun w h => List.mem_append_left _ (List.mem_append_right _ h)
theorem wx4 : ∀ w ∈ (zn_atS RX5 153 "java/util/NoSuchElementException" "java/lang/RuntimeException" 13 prog_21_method_4_code ["java/lang/Exception"]).filter goodWord, w ∈ lw_tbl := by decide +kernel
theorem wy4 : ∀ w ∈ (zn_atS RX5 153 "java/util/NoSuchElementException" "java/lang/RuntimeException" 13 prog_21_method_4_code ["java/lang/Exception"]).filter goodWord, w ∈ WA := fun w h => List.mem_append_right _ h
theorem wa_in : ∀ w ∈ WA, w ∈ lw_tbl := List.forall_mem_append.mpr ⟨List.forall_mem_append.mpr ⟨List.forall_mem_append.mpr ⟨List.forall_mem_append.mpr ⟨List.forall_mem_append.mpr ⟨List.forall_mem_append.mpr ⟨List.forall_mem_append.mpr ⟨List.forall_mem_append.mpr ⟨List.forall_mem_append.mpr ⟨List.forall_mem_append.mpr ⟨List.forall_mem_append.mpr ⟨List.forall_mem_append.mpr ⟨List.forall_mem_append.mpr ⟨wc1, List.forall_mem_append.mpr ⟨wc2, List.forall_mem_append.mpr ⟨wc3, List.forall_mem_append.mpr ⟨wc4, List.forall_mem_append.mpr ⟨wc5, List.forall_mem_append.mpr ⟨wc6, List.forall_mem_append.mpr ⟨wc7, List.forall_mem_append.mpr ⟨wc8, List.forall_mem_append.mpr ⟨wc9, List.forall_mem_append.mpr ⟨wc10, List.forall_mem_append.mpr ⟨wc11, List.forall_mem_append.mpr ⟨wc12, List.forall_mem_append.mpr ⟨wc13, List.forall_mem_append.mpr ⟨wc14, List.forall_mem_append.mpr ⟨wc15, List.forall_mem_append.mpr ⟨wc16, List.forall_mem_append.mpr ⟨wc17, List.forall_mem_append.mpr ⟨wc18, List.forall_mem_append.mpr ⟨wc19, List.forall_mem_append.mpr ⟨wc20, List.forall_mem_append.mpr ⟨wc21, List.forall_mem_append.mpr ⟨wc22, List.forall_mem_append.mpr ⟨wc23, wc24⟩⟩⟩⟩⟩⟩⟩⟩⟩⟩⟩⟩⟩⟩⟩⟩⟩⟩⟩⟩⟩⟩⟩, inX5⟩, inX3⟩, inX4⟩, inX0⟩, inX1⟩, inX2⟩, fun _ h => absurd h List.not_mem_nil⟩, wx0⟩, wx1⟩, wx2⟩, wx3⟩, wx4⟩
theorem wa_al {L : List Cond} (h : L.all goodWord = true) : ∀ w ∈ L, goodWord w = true := fun w hw => List.all_eq_true.mp h w hw
theorem wa_fl {L : List Cond} : ∀ w ∈ L.filter goodWord, goodWord w = true := fun w hw => (List.mem_filter.mp hw).2
theorem wa_good : ∀ w ∈ WA, goodWord w = true := List.forall_mem_append.mpr ⟨List.forall_mem_append.mpr ⟨List.forall_mem_append.mpr ⟨List.forall_mem_append.mpr ⟨List.forall_mem_append.mpr ⟨List.forall_mem_append.mpr ⟨List.forall_mem_append.mpr ⟨List.forall_mem_append.mpr ⟨List.forall_mem_append.mpr ⟨List.forall_mem_append.mpr ⟨List.forall_mem_append.mpr ⟨List.forall_mem_append.mpr ⟨List.forall_mem_append.mpr ⟨wa_al wg1, List.forall_mem_append.mpr ⟨wa_al wg2, List.forall_mem_append.mpr ⟨wa_al wg3, List.forall_mem_append.mpr ⟨wa_al wg4, List.forall_mem_append.mpr ⟨wa_al wg5, List.forall_mem_append.mpr ⟨wa_al wg6, List.forall_mem_append.mpr ⟨wa_al wg7, List.forall_mem_append.mpr ⟨wa_al wg8, List.forall_mem_append.mpr ⟨wa_al wg9, List.forall_mem_append.mpr ⟨wa_al wg10, List.forall_mem_append.mpr ⟨wa_al wg11, List.forall_mem_append.mpr ⟨wa_al wg12, List.forall_mem_append.mpr ⟨wa_al wg13, List.forall_mem_append.mpr ⟨wa_al wg14, List.forall_mem_append.mpr ⟨wa_al wg15, List.forall_mem_append.mpr ⟨wa_al wg16, List.forall_mem_append.mpr ⟨wa_al wg17, List.forall_mem_append.mpr ⟨wa_al wg18, List.forall_mem_append.mpr ⟨wa_al wg19, List.forall_mem_append.mpr ⟨wa_al wg20, List.forall_mem_append.mpr ⟨wa_al wg21, List.forall_mem_append.mpr ⟨wa_al wg22, List.forall_mem_append.mpr ⟨wa_al wg23, wa_al wg24⟩⟩⟩⟩⟩⟩⟩⟩⟩⟩⟩⟩⟩⟩⟩⟩⟩⟩⟩⟩⟩⟩⟩, wa_al wgX5⟩, wa_al wgX3⟩, wa_al wgX4⟩, wa_al wgX0⟩, wa_al wgX1⟩, wa_al wgX2⟩, fun _ h => absurd h List.not_mem_nil⟩, wa_fl⟩, wa_fl⟩, wa_fl⟩, wa_fl⟩, wa_fl⟩
