def RX0 : String := "SailCourses$Bits"
def TX0 : u_T := fun k => match k with
  | _ => ("", "", "", false)
def tyX0 : Nat → FieldType := fun k => match k with
  | _ => .int
abbrev wsX00 : List Cond := u_ws RX0 TX0 0
theorem nmX0 : ∀ a, a < 0 → ∀ b, b < 0 → a ≠ b → (TX0 a).2.1 ≠ (TX0 b).2.1 := by decide +kernel
theorem tyX0_ok : ∀ k, k < 0 → parseFieldDescriptor (TX0 k).2.2.1 = some (tyX0 k) := by decide +kernel
abbrev cX0_ofDouble : ByteArray := prog_2_method_2_code
def yX0_ofDouble : MethodName := ⟨RX0, "ofDouble", "(D)J"⟩
abbrev cX0_ofFloat : ByteArray := prog_2_method_3_code
def yX0_ofFloat : MethodName := ⟨RX0, "ofFloat", "(F)J"⟩
abbrev cX0_ofMagnitude : ByteArray := prog_2_method_4_code
def yX0_ofMagnitude : MethodName := ⟨RX0, "ofMagnitude", "(DII)J"⟩
abbrev cX0_greatestDivisor : ByteArray := prog_2_method_5_code
def yX0_greatestDivisor : MethodName := ⟨RX0, "greatestDivisor", "(JJ)J"⟩
def RX1 : String := "SailCourses$Chart"
def TX1 : u_T := fun k => match k with
  | 0 => ("SailCourses$Chart", "sea", "LSailCourses$Sea;", true)
  | 1 => ("SailCourses$Chart", "legs", "LSailCourses$Legs;", true)
  | 2 => ("SailCourses$Chart", "least", "[I", true)
  | 3 => ("SailCourses$Chart", "open", "[I", true)
  | 4 => ("SailCourses$Chart", "openCount", "I", false)
  | 5 => ("SailCourses$Chart", "lastLegs", "[I", true)
  | 6 => ("SailCourses$Chart", "courseBack", "[I", true)
  | 7 => ("SailCourses$Chart", "courseCount", "I", false)
  | _ => ("SailCourses$Chart", "version", "I", false)
def tyX1 : Nat → FieldType := fun k => match k with
  | 0 => .object "SailCourses$Sea"
  | 1 => .object "SailCourses$Legs"
  | 2 => .array .int
  | 3 => .array .int
  | 4 => .int
  | 5 => .array .int
  | 6 => .array .int
  | 7 => .int
  | _ => .int
abbrev wsX10 : List Cond := u_ws RX1 TX1 9
theorem nmX1 : ∀ a, a < 9 → ∀ b, b < 9 → a ≠ b → (TX1 a).2.1 ≠ (TX1 b).2.1 := by decide +kernel
theorem tyX1_ok : ∀ k, k < 9 → parseFieldDescriptor (TX1 k).2.2.1 = some (tyX1 k) := by decide +kernel
abbrev cX1_init : ByteArray := prog_3_method_1_code
def yX1_init : MethodName := ⟨RX1, "<init>", "(LSailCourses$Sea;)V"⟩
abbrev cX1_freshLegs : ByteArray := prog_3_method_2_code
def yX1_freshLegs : MethodName := ⟨RX1, "freshLegs", "()LSailCourses$Legs;"⟩
abbrev cX1_freshen : ByteArray := prog_3_method_3_code
def yX1_freshen : MethodName := ⟨RX1, "freshen", "()V"⟩
abbrev cX1_startSpot : ByteArray := prog_3_method_4_code
def yX1_startSpot : MethodName := ⟨RX1, "startSpot", "()I"⟩
abbrev cX1_reach : ByteArray := prog_3_method_5_code
def yX1_reach : MethodName := ⟨RX1, "reach", "(II)V"⟩
abbrev cX1_settleAll : ByteArray := prog_3_method_6_code
def yX1_settleAll : MethodName := ⟨RX1, "settleAll", "()V"⟩
abbrev cX1_takeNearest : ByteArray := prog_3_method_7_code
def yX1_takeNearest : MethodName := ⟨RX1, "takeNearest", "()I"⟩
abbrev cX1_sailOn : ByteArray := prog_3_method_8_code
def yX1_sailOn : MethodName := ⟨RX1, "sailOn", "(II)V"⟩
abbrev cX1_leastWith : ByteArray := prog_3_method_9_code
def yX1_leastWith : MethodName := ⟨RX1, "leastWith", "(II)I"⟩
abbrev cX1_leastOf : ByteArray := prog_3_method_10_code
def yX1_leastOf : MethodName := ⟨RX1, "leastOf", "(I)I"⟩
abbrev cX1_squaresReached : ByteArray := prog_3_method_11_code
def yX1_squaresReached : MethodName := ⟨RX1, "squaresReached", "()I"⟩
abbrev cX1_leastTogether : ByteArray := prog_3_method_12_code
def yX1_leastTogether : MethodName := ⟨RX1, "leastTogether", "()I"⟩
abbrev cX1_farthestSquare : ByteArray := prog_3_method_13_code
def yX1_farthestSquare : MethodName := ⟨RX1, "farthestSquare", "()I"⟩
abbrev cX1_lastOf : ByteArray := prog_3_method_14_code
def yX1_lastOf : MethodName := ⟨RX1, "lastOf", "(II)I"⟩
abbrev cX1_seekLast : ByteArray := prog_3_method_15_code
def yX1_seekLast : MethodName := ⟨RX1, "seekLast", "(II)I"⟩
abbrev cX1_endsAtLeast : ByteArray := prog_3_method_16_code
def yX1_endsAtLeast : MethodName := ⟨RX1, "endsAtLeast", "(III)Z"⟩
abbrev cX1_layCourse : ByteArray := prog_3_method_17_code
def yX1_layCourse : MethodName := ⟨RX1, "layCourse", "(I)I"⟩
abbrev cX1_courseHeading : ByteArray := prog_3_method_18_code
def yX1_courseHeading : MethodName := ⟨RX1, "courseHeading", "(I)I"⟩
abbrev cX1_courseLength : ByteArray := prog_3_method_19_code
def yX1_courseLength : MethodName := ⟨RX1, "courseLength", "()I"⟩
def RX2 : String := "SailCourses$Compass"
def TX2 : u_T := fun k => match k with
  | _ => ("", "", "", false)
def tyX2 : Nat → FieldType := fun k => match k with
  | _ => .int
abbrev wsX20 : List Cond := u_ws RX2 TX2 0
theorem nmX2 : ∀ a, a < 0 → ∀ b, b < 0 → a ≠ b → (TX2 a).2.1 ≠ (TX2 b).2.1 := by decide +kernel
theorem tyX2_ok : ∀ k, k < 0 → parseFieldDescriptor (TX2 k).2.2.1 = some (tyX2 k) := by decide +kernel
abbrev cX2_turnBetween : ByteArray := prog_4_method_2_code
def yX2_turnBetween : MethodName := ⟨RX2, "turnBetween", "(II)I"⟩
abbrev cX2_squareBeside : ByteArray := prog_4_method_3_code
def yX2_squareBeside : MethodName := ⟨RX2, "squareBeside", "(II)I"⟩
abbrev cX2_zoneOf : ByteArray := prog_4_method_4_code
def yX2_zoneOf : MethodName := ⟨RX2, "zoneOf", "(I)I"⟩
abbrev cX2_spanOf : ByteArray := prog_4_method_5_code
def yX2_spanOf : MethodName := ⟨RX2, "spanOf", "(I)I"⟩
abbrev cX2_lengthOf : ByteArray := prog_4_method_6_code
def yX2_lengthOf : MethodName := ⟨RX2, "lengthOf", "(I)I"⟩
abbrev cX2_sine : ByteArray := prog_4_method_7_code
def yX2_sine : MethodName := ⟨RX2, "sine", "(I)D"⟩
abbrev cX2_cosine : ByteArray := prog_4_method_8_code
def yX2_cosine : MethodName := ⟨RX2, "cosine", "(I)D"⟩
def RX3 : String := "SailCourses$Hand"
def TX3 : u_T := fun k => match k with
  | 0 => ("SailCourses$Hand", "headings", "LSailCourses$Rows;", true)
  | 1 => ("SailCourses$Hand", "seen", "LSailCourses$Rows;", true)
  | 2 => ("SailCourses$Hand", "events", "LSailCourses$Rows;", true)
  | _ => ("SailCourses$Hand", "book", "LSailCourses$Rows;", true)
def tyX3 : Nat → FieldType := fun k => match k with
  | 0 => .object "SailCourses$Rows"
  | 1 => .object "SailCourses$Rows"
  | 2 => .object "SailCourses$Rows"
  | _ => .object "SailCourses$Rows"
abbrev wsX30 : List Cond := u_ws RX3 TX3 4
theorem nmX3 : ∀ a, a < 4 → ∀ b, b < 4 → a ≠ b → (TX3 a).2.1 ≠ (TX3 b).2.1 := by decide +kernel
theorem tyX3_ok : ∀ k, k < 4 → parseFieldDescriptor (TX3 k).2.2.1 = some (tyX3 k) := by decide +kernel
abbrev cX3_init : ByteArray := prog_5_method_1_code
def yX3_init : MethodName := ⟨RX3, "<init>", "()V"⟩
abbrev cX3_becomeLike : ByteArray := prog_5_method_2_code
def yX3_becomeLike : MethodName := ⟨RX3, "becomeLike", "(LSailCourses$Hand;)V"⟩
def RX4 : String := "SailCourses$Legs"
def TX4 : u_T := fun k => match k with
  | 0 => ("SailCourses$Legs", "sea", "LSailCourses$Sea;", true)
  | 1 => ("SailCourses$Legs", "minutes", "[I", true)
  | 2 => ("SailCourses$Legs", "becomes", "[I", true)
  | 3 => ("SailCourses$Legs", "turningCost", "[I", true)
  | _ => ("SailCourses$Legs", "version", "I", false)
def tyX4 : Nat → FieldType := fun k => match k with
  | 0 => .object "SailCourses$Sea"
  | 1 => .array .int
  | 2 => .array .int
  | 3 => .array .int
  | _ => .int
abbrev wsX40 : List Cond := u_ws RX4 TX4 5
theorem nmX4 : ∀ a, a < 5 → ∀ b, b < 5 → a ≠ b → (TX4 a).2.1 ≠ (TX4 b).2.1 := by decide +kernel
theorem tyX4_ok : ∀ k, k < 5 → parseFieldDescriptor (TX4 k).2.2.1 = some (tyX4 k) := by decide +kernel
abbrev cX4_init : ByteArray := prog_6_method_1_code
def yX4_init : MethodName := ⟨RX4, "<init>", "(LSailCourses$Sea;)V"⟩
abbrev cX4_freshen : ByteArray := prog_6_method_2_code
def yX4_freshen : MethodName := ⟨RX4, "freshen", "()V"⟩
abbrev cX4_workOut : ByteArray := prog_6_method_3_code
def yX4_workOut : MethodName := ⟨RX4, "workOut", "(I)V"⟩
abbrev cX4_kindOf : ByteArray := prog_6_method_4_code
def yX4_kindOf : MethodName := ⟨RX4, "kindOf", "(III)I"⟩
abbrev cX4_targetOf : ByteArray := prog_6_method_5_code
def yX4_targetOf : MethodName := ⟨RX4, "targetOf", "(II)I"⟩
abbrev cX4_departure : ByteArray := prog_6_method_6_code
def yX4_departure : MethodName := ⟨RX4, "departure", "(II)I"⟩
abbrev cX4_arrival : ByteArray := prog_6_method_7_code
def yX4_arrival : MethodName := ⟨RX4, "arrival", "(III)I"⟩
abbrev cX4_sideThen : ByteArray := prog_6_method_8_code
def yX4_sideThen : MethodName := ⟨RX4, "sideThen", "(II)I"⟩
abbrev cX4_soonestDeparture : ByteArray := prog_6_method_9_code
def yX4_soonestDeparture : MethodName := ⟨RX4, "soonestDeparture", "(IIII)I"⟩
def RX5 : String := "SailCourses$Rows"
def TX5 : u_T := fun k => match k with
  | 0 => ("SailCourses$Rows", "firsts", "[I", true)
  | 1 => ("SailCourses$Rows", "seconds", "[I", true)
  | _ => ("SailCourses$Rows", "size", "I", false)
def tyX5 : Nat → FieldType := fun k => match k with
  | 0 => .array .int
  | 1 => .array .int
  | _ => .int
abbrev wsX50 : List Cond := u_ws RX5 TX5 3
theorem nmX5 : ∀ a, a < 3 → ∀ b, b < 3 → a ≠ b → (TX5 a).2.1 ≠ (TX5 b).2.1 := by decide +kernel
theorem tyX5_ok : ∀ k, k < 3 → parseFieldDescriptor (TX5 k).2.2.1 = some (tyX5 k) := by decide +kernel
abbrev cX5_init : ByteArray := prog_7_method_1_code
def yX5_init : MethodName := ⟨RX5, "<init>", "(I)V"⟩
abbrev cX5_size : ByteArray := prog_7_method_2_code
def yX5_size : MethodName := ⟨RX5, "size", "()I"⟩
abbrev cX5_first : ByteArray := prog_7_method_3_code
def yX5_first : MethodName := ⟨RX5, "first", "(I)I"⟩
abbrev cX5_second : ByteArray := prog_7_method_4_code
def yX5_second : MethodName := ⟨RX5, "second", "(I)I"⟩
abbrev cX5_add : ByteArray := prog_7_method_5_code
def yX5_add : MethodName := ⟨RX5, "add", "(II)I"⟩
abbrev cX5_clear : ByteArray := prog_7_method_6_code
def yX5_clear : MethodName := ⟨RX5, "clear", "()I"⟩
abbrev cX5_becomeLike : ByteArray := prog_7_method_7_code
def yX5_becomeLike : MethodName := ⟨RX5, "becomeLike", "(LSailCourses$Rows;)V"⟩
def RX6 : String := "SailCourses$Sea"
def TX6 : u_T := fun k => match k with
  | 0 => ("SailCourses$Sea", "from", "[I", true)
  | 1 => ("SailCourses$Sea", "force", "[I", true)
  | 2 => ("SailCourses$Sea", "to", "[I", true)
  | 3 => ("SailCourses$Sea", "rate", "[I", true)
  | 4 => ("SailCourses$Sea", "speeds", "[I", true)
  | 5 => ("SailCourses$Sea", "losses", "[I", true)
  | 6 => ("SailCourses$Sea", "landBits", "J", false)
  | 7 => ("SailCourses$Sea", "startSquare", "I", false)
  | 8 => ("SailCourses$Sea", "startSide", "I", false)
  | 9 => ("SailCourses$Sea", "startMinute", "I", false)
  | _ => ("SailCourses$Sea", "version", "I", false)
def tyX6 : Nat → FieldType := fun k => match k with
  | 0 => .array .int
  | 1 => .array .int
  | 2 => .array .int
  | 3 => .array .int
  | 4 => .array .int
  | 5 => .array .int
  | 6 => .long
  | 7 => .int
  | 8 => .int
  | 9 => .int
  | _ => .int
abbrev wsX60 : List Cond := u_ws RX6 TX6 11
theorem nmX6 : ∀ a, a < 11 → ∀ b, b < 11 → a ≠ b → (TX6 a).2.1 ≠ (TX6 b).2.1 := by decide +kernel
theorem tyX6_ok : ∀ k, k < 11 → parseFieldDescriptor (TX6 k).2.2.1 = some (tyX6 k) := by decide +kernel
abbrev cX6_init : ByteArray := prog_8_method_1_code
def yX6_init : MethodName := ⟨RX6, "<init>", "()V"⟩
abbrev cX6_becomeLike : ByteArray := prog_8_method_2_code
def yX6_becomeLike : MethodName := ⟨RX6, "becomeLike", "(LSailCourses$Sea;)V"⟩
abbrev cX6_fromIn : ByteArray := prog_8_method_3_code
def yX6_fromIn : MethodName := ⟨RX6, "fromIn", "(II)I"⟩
abbrev cX6_forceIn : ByteArray := prog_8_method_4_code
def yX6_forceIn : MethodName := ⟨RX6, "forceIn", "(II)I"⟩
abbrev cX6_putWind : ByteArray := prog_8_method_5_code
def yX6_putWind : MethodName := ⟨RX6, "putWind", "(IIII)V"⟩
abbrev cX6_toIn : ByteArray := prog_8_method_6_code
def yX6_toIn : MethodName := ⟨RX6, "toIn", "(I)I"⟩
abbrev cX6_rateIn : ByteArray := prog_8_method_7_code
def yX6_rateIn : MethodName := ⟨RX6, "rateIn", "(I)I"⟩
abbrev cX6_putCurrent : ByteArray := prog_8_method_8_code
def yX6_putCurrent : MethodName := ⟨RX6, "putCurrent", "(III)V"⟩
abbrev cX6_speedBy : ByteArray := prog_8_method_9_code
def yX6_speedBy : MethodName := ⟨RX6, "speedBy", "(II)I"⟩
abbrev cX6_putSpeed : ByteArray := prog_8_method_10_code
def yX6_putSpeed : MethodName := ⟨RX6, "putSpeed", "(III)V"⟩
abbrev cX6_lossBy : ByteArray := prog_8_method_11_code
def yX6_lossBy : MethodName := ⟨RX6, "lossBy", "(I)I"⟩
abbrev cX6_putLoss : ByteArray := prog_8_method_12_code
def yX6_putLoss : MethodName := ⟨RX6, "putLoss", "(II)V"⟩
abbrev cX6_isLand : ByteArray := prog_8_method_13_code
def yX6_isLand : MethodName := ⟨RX6, "isLand", "(I)Z"⟩
abbrev cX6_landCount : ByteArray := prog_8_method_14_code
def yX6_landCount : MethodName := ⟨RX6, "landCount", "()I"⟩
abbrev cX6_putLand : ByteArray := prog_8_method_15_code
def yX6_putLand : MethodName := ⟨RX6, "putLand", "(IZ)V"⟩
abbrev cX6_putStart : ByteArray := prog_8_method_16_code
def yX6_putStart : MethodName := ⟨RX6, "putStart", "(III)V"⟩
abbrev cX6_paceBy : ByteArray := prog_8_method_17_code
def yX6_paceBy : MethodName := ⟨RX6, "paceBy", "(III)I"⟩
abbrev cX6_driftBy : ByteArray := prog_8_method_18_code
def yX6_driftBy : MethodName := ⟨RX6, "driftBy", "(II)I"⟩
abbrev cX6_undergo : ByteArray := prog_8_method_19_code
def yX6_undergo : MethodName := ⟨RX6, "undergo", "(II)V"⟩
def RX7 : String := "SailCourses$SetUp"
def TX7 : u_T := fun k => match k with
  | 0 => ("SailCourses$SetUp", "signs", "[I", true)
  | 1 => ("SailCourses$SetUp", "length", "I", false)
  | 2 => ("SailCourses$SetUp", "kinds", "[I", true)
  | 3 => ("SailCourses$SetUp", "numbers", "[I", true)
  | 4 => ("SailCourses$SetUp", "clauses", "I", false)
  | 5 => ("SailCourses$SetUp", "numbersHere", "I", false)
  | _ => ("SailCourses$SetUp", "at", "I", false)
def tyX7 : Nat → FieldType := fun k => match k with
  | 0 => .array .int
  | 1 => .int
  | 2 => .array .int
  | 3 => .array .int
  | 4 => .int
  | 5 => .int
  | _ => .int
abbrev wsX70 : List Cond := u_ws RX7 TX7 7
theorem nmX7 : ∀ a, a < 7 → ∀ b, b < 7 → a ≠ b → (TX7 a).2.1 ≠ (TX7 b).2.1 := by decide +kernel
theorem tyX7_ok : ∀ k, k < 7 → parseFieldDescriptor (TX7 k).2.2.1 = some (tyX7 k) := by decide +kernel
abbrev cX7_init : ByteArray := prog_9_method_1_code
def yX7_init : MethodName := ⟨RX7, "<init>", "()V"⟩
abbrev cX7_length : ByteArray := prog_9_method_2_code
def yX7_length : MethodName := ⟨RX7, "length", "()I"⟩
abbrev cX7_append : ByteArray := prog_9_method_3_code
def yX7_append : MethodName := ⟨RX7, "append", "(I)I"⟩
abbrev cX7_clear : ByteArray := prog_9_method_4_code
def yX7_clear : MethodName := ⟨RX7, "clear", "()V"⟩
abbrev cX7_clauseCount : ByteArray := prog_9_method_5_code
def yX7_clauseCount : MethodName := ⟨RX7, "clauseCount", "()I"⟩
abbrev cX7_kind : ByteArray := prog_9_method_6_code
def yX7_kind : MethodName := ⟨RX7, "kind", "(I)I"⟩
abbrev cX7_number : ByteArray := prog_9_method_7_code
def yX7_number : MethodName := ⟨RX7, "number", "(II)I"⟩
abbrev cX7_parse : ByteArray := prog_9_method_8_code
def yX7_parse : MethodName := ⟨RX7, "parse", "()I"⟩
abbrev cX7_isNext : ByteArray := prog_9_method_9_code
def yX7_isNext : MethodName := ⟨RX7, "isNext", "(II)Z"⟩
abbrev cX7_take : ByteArray := prog_9_method_10_code
def yX7_take : MethodName := ⟨RX7, "take", "(C)Z"⟩
abbrev cX7_takeClause : ByteArray := prog_9_method_11_code
def yX7_takeClause : MethodName := ⟨RX7, "takeClause", "()Z"⟩
abbrev cX7_formOf : ByteArray := prog_9_method_12_code
def yX7_formOf : MethodName := ⟨RX7, "formOf", "(I)Ljava/lang/String;"⟩
abbrev cX7_takeField : ByteArray := prog_9_method_13_code
def yX7_takeField : MethodName := ⟨RX7, "takeField", "(C)Z"⟩
abbrev cX7_takeNumber : ByteArray := prog_9_method_14_code
def yX7_takeNumber : MethodName := ⟨RX7, "takeNumber", "(II)Z"⟩
def RX8 : String := "SailCourses$Surmise"
def TX8 : u_T := fun k => match k with
  | 0 => ("SailCourses$Surmise", "tried", "LSailCourses$Sea;", true)
  | 1 => ("SailCourses$Surmise", "triedChart", "LSailCourses$Chart;", true)
  | 2 => ("SailCourses$Surmise", "leastByFrom", "[I", true)
  | 3 => ("SailCourses$Surmise", "zone", "I", false)
  | 4 => ("SailCourses$Surmise", "span", "I", false)
  | _ => ("SailCourses$Surmise", "version", "I", false)
def tyX8 : Nat → FieldType := fun k => match k with
  | 0 => .object "SailCourses$Sea"
  | 1 => .object "SailCourses$Chart"
  | 2 => .array .int
  | 3 => .int
  | 4 => .int
  | _ => .int
abbrev wsX80 : List Cond := u_ws RX8 TX8 6
theorem nmX8 : ∀ a, a < 6 → ∀ b, b < 6 → a ≠ b → (TX8 a).2.1 ≠ (TX8 b).2.1 := by decide +kernel
theorem tyX8_ok : ∀ k, k < 6 → parseFieldDescriptor (TX8 k).2.2.1 = some (tyX8 k) := by decide +kernel
abbrev cX8_init : ByteArray := prog_10_method_1_code
def yX8_init : MethodName := ⟨RX8, "<init>", "()V"⟩
abbrev cX8_turnWind : ByteArray := prog_10_method_2_code
def yX8_turnWind : MethodName := ⟨RX8, "turnWind", "(LSailCourses$Sea;II)V"⟩
abbrev cX8_leastWhenFrom : ByteArray := prog_10_method_3_code
def yX8_leastWhenFrom : MethodName := ⟨RX8, "leastWhenFrom", "(II)I"⟩
abbrev cX8_allSeenInTime : ByteArray := prog_10_method_4_code
def yX8_allSeenInTime : MethodName := ⟨RX8, "allSeenInTime", "(ILSailCourses$Rows;)Z"⟩
abbrev cX8_undergo : ByteArray := prog_10_method_5_code
def yX8_undergo : MethodName := ⟨RX8, "undergo", "(LSailCourses$Sea;LSailCourses$Rows;)LSailCourses$Chart;"⟩
def RX9 : String := "SailCourses$Tape"
def TX9 : u_T := fun k => match k with
  | 0 => ("SailCourses$Tape", "items", "[J", true)
  | 1 => ("SailCourses$Tape", "sort", "I", false)
  | _ => ("SailCourses$Tape", "length", "I", false)
def tyX9 : Nat → FieldType := fun k => match k with
  | 0 => .array .long
  | 1 => .int
  | _ => .int
abbrev wsX90 : List Cond := u_ws RX9 TX9 3
theorem nmX9 : ∀ a, a < 3 → ∀ b, b < 3 → a ≠ b → (TX9 a).2.1 ≠ (TX9 b).2.1 := by decide +kernel
theorem tyX9_ok : ∀ k, k < 3 → parseFieldDescriptor (TX9 k).2.2.1 = some (tyX9 k) := by decide +kernel
abbrev cX9_init : ByteArray := prog_11_method_1_code
def yX9_init : MethodName := ⟨RX9, "<init>", "()V"⟩
abbrev cX9_sort : ByteArray := prog_11_method_2_code
def yX9_sort : MethodName := ⟨RX9, "sort", "()I"⟩
abbrev cX9_length : ByteArray := prog_11_method_3_code
def yX9_length : MethodName := ⟨RX9, "length", "()I"⟩
abbrev cX9_holdsNothing : ByteArray := prog_11_method_4_code
def yX9_holdsNothing : MethodName := ⟨RX9, "holdsNothing", "()Z"⟩
abbrev cX9_become : ByteArray := prog_11_method_5_code
def yX9_become : MethodName := ⟨RX9, "become", "(II)V"⟩
abbrev cX9_get : ByteArray := prog_11_method_6_code
def yX9_get : MethodName := ⟨RX9, "get", "(I)J"⟩
abbrev cX9_put : ByteArray := prog_11_method_7_code
def yX9_put : MethodName := ⟨RX9, "put", "(IJ)V"⟩
abbrev cX9_fitted : ByteArray := prog_11_method_8_code
def yX9_fitted : MethodName := ⟨RX9, "fitted", "(J)J"⟩
abbrev cX9_has : ByteArray := prog_11_method_9_code
def yX9_has : MethodName := ⟨RX9, "has", "(II)Z"⟩
abbrev cX9_take : ByteArray := prog_11_method_10_code
def yX9_take : MethodName := ⟨RX9, "take", "(LSailCourses$Tape;III)V"⟩
def RX10 : String := "SailCourses"
def TX10 : u_T := fun k => match k with
  | 0 => ("SailCourses", "sea", "LSailCourses$Sea;", true)
  | 1 => ("SailCourses", "hand", "LSailCourses$Hand;", true)
  | 2 => ("SailCourses", "chart", "LSailCourses$Chart;", true)
  | 3 => ("SailCourses", "surmise", "LSailCourses$Surmise;", true)
  | 4 => ("SailCourses", "text", "LSailCourses$SetUp;", true)
  | 5 => ("SailCourses", "tapes", "[LSailCourses$Tape;", true)
  | 6 => ("SailCourses", "imageSea", "LSailCourses$Sea;", true)
  | 7 => ("SailCourses", "imageHand", "LSailCourses$Hand;", true)
  | _ => ("SailCourses", "imageTaken", "Z", false)
def tyX10 : Nat → FieldType := fun k => match k with
  | 0 => .object "SailCourses$Sea"
  | 1 => .object "SailCourses$Hand"
  | 2 => .object "SailCourses$Chart"
  | 3 => .object "SailCourses$Surmise"
  | 4 => .object "SailCourses$SetUp"
  | 5 => .array (.object "SailCourses$Tape")
  | 6 => .object "SailCourses$Sea"
  | 7 => .object "SailCourses$Hand"
  | _ => .boolean
abbrev wsX100 : List Cond := u_ws RX10 TX10 9
theorem nmX10 : ∀ a, a < 9 → ∀ b, b < 9 → a ≠ b → (TX10 a).2.1 ≠ (TX10 b).2.1 := by decide +kernel
theorem tyX10_ok : ∀ k, k < 9 → parseFieldDescriptor (TX10 k).2.2.1 = some (tyX10 k) := by decide +kernel
abbrev cX10_init : ByteArray := prog_1_method_1_code
def yX10_init : MethodName := ⟨RX10, "<init>", "()V"⟩
abbrev cX10_wind : ByteArray := prog_1_method_2_code
def yX10_wind : MethodName := ⟨RX10, "wind", "(IIII)I"⟩
abbrev cX10_current : ByteArray := prog_1_method_3_code
def yX10_current : MethodName := ⟨RX10, "current", "(III)I"⟩
abbrev cX10_table : ByteArray := prog_1_method_4_code
def yX10_table : MethodName := ⟨RX10, "table", "(III)I"⟩
abbrev cX10_land : ByteArray := prog_1_method_5_code
def yX10_land : MethodName := ⟨RX10, "land", "(IZ)I"⟩
abbrev cX10_start : ByteArray := prog_1_method_6_code
def yX10_start : MethodName := ⟨RX10, "start", "(III)I"⟩
abbrev cX10_loss : ByteArray := prog_1_method_7_code
def yX10_loss : MethodName := ⟨RX10, "loss", "(II)I"⟩
abbrev cX10_steer : ByteArray := prog_1_method_8_code
def yX10_steer : MethodName := ⟨RX10, "steer", "(I)I"⟩
abbrev cX10_feed : ByteArray := prog_1_method_9_code
def yX10_feed : MethodName := ⟨RX10, "feed", "(I)I"⟩
abbrev cX10_read : ByteArray := prog_1_method_10_code
def yX10_read : MethodName := ⟨RX10, "read", "()I"⟩
abbrev cX10_of : ByteArray := prog_1_method_11_code
def yX10_of : MethodName := ⟨RX10, "of", "(III)I"⟩
abbrev cX10_speed : ByteArray := prog_1_method_12_code
def yX10_speed : MethodName := ⟨RX10, "speed", "(II)I"⟩
abbrev cX10_told : ByteArray := prog_1_method_13_code
def yX10_told : MethodName := ⟨RX10, "told", "(I)I"⟩
abbrev cX10_pace : ByteArray := prog_1_method_14_code
def yX10_pace : MethodName := ⟨RX10, "pace", "(III)I"⟩
abbrev cX10_leg : ByteArray := prog_1_method_15_code
def yX10_leg : MethodName := ⟨RX10, "leg", "(IIIII)I"⟩
abbrev cX10_least : ByteArray := prog_1_method_16_code
def yX10_least : MethodName := ⟨RX10, "least", "(II)I"⟩
abbrev cX10_last : ByteArray := prog_1_method_17_code
def yX10_last : MethodName := ⟨RX10, "last", "(II)I"⟩
abbrev cX10_course : ByteArray := prog_1_method_18_code
def yX10_course : MethodName := ⟨RX10, "course", "(II)I"⟩
abbrev cX10_reckon : ByteArray := prog_1_method_19_code
def yX10_reckon : MethodName := ⟨RX10, "reckon", "(II)J"⟩
abbrev cX10_meanPace : ByteArray := prog_1_method_20_code
def yX10_meanPace : MethodName := ⟨RX10, "meanPace", "(I)J"⟩
abbrev cX10_see : ByteArray := prog_1_method_21_code
def yX10_see : MethodName := ⟨RX10, "see", "(II)I"⟩
abbrev cX10_fits : ByteArray := prog_1_method_22_code
def yX10_fits : MethodName := ⟨RX10, "fits", "(III)I"⟩
abbrev cX10_odds : ByteArray := prog_1_method_23_code
def yX10_odds : MethodName := ⟨RX10, "odds", "(IIIII)J"⟩
abbrev cX10_mean : ByteArray := prog_1_method_24_code
def yX10_mean : MethodName := ⟨RX10, "mean", "(I)J"⟩
abbrev cX10_event : ByteArray := prog_1_method_25_code
def yX10_event : MethodName := ⟨RX10, "event", "(II)I"⟩
abbrev cX10_after : ByteArray := prog_1_method_26_code
def yX10_after : MethodName := ⟨RX10, "after", "(I)I"⟩
abbrev cX10_book : ByteArray := prog_1_method_27_code
def yX10_book : MethodName := ⟨RX10, "book", "(II)I"⟩
abbrev cX10_looked : ByteArray := prog_1_method_28_code
def yX10_looked : MethodName := ⟨RX10, "looked", "()I"⟩
abbrev cX10_judge : ByteArray := prog_1_method_29_code
def yX10_judge : MethodName := ⟨RX10, "judge", "(II)I"⟩
abbrev cX10_image : ByteArray := prog_1_method_30_code
def yX10_image : MethodName := ⟨RX10, "image", "()I"⟩
abbrev cX10_undo : ByteArray := prog_1_method_31_code
def yX10_undo : MethodName := ⟨RX10, "undo", "()I"⟩
abbrev cX10_count : ByteArray := prog_1_method_32_code
def yX10_count : MethodName := ⟨RX10, "count", "(I)I"⟩
abbrev cX10_tape : ByteArray := prog_1_method_33_code
def yX10_tape : MethodName := ⟨RX10, "tape", "(III)I"⟩
abbrev cX10_item : ByteArray := prog_1_method_34_code
def yX10_item : MethodName := ⟨RX10, "item", "(IIJ)I"⟩
abbrev cX10_peek : ByteArray := prog_1_method_35_code
def yX10_peek : MethodName := ⟨RX10, "peek", "(II)J"⟩
abbrev cX10_shift : ByteArray := prog_1_method_36_code
def yX10_shift : MethodName := ⟨RX10, "shift", "(IIIII)I"⟩
abbrev cX10_below : ByteArray := prog_1_method_37_code
def yX10_below : MethodName := ⟨RX10, "below", "(II)Z"⟩
abbrev cX10_freshChart : ByteArray := prog_1_method_38_code
def yX10_freshChart : MethodName := ⟨RX10, "freshChart", "()LSailCourses$Chart;"⟩
abbrev cX10_tapeAt : ByteArray := prog_1_method_39_code
def yX10_tapeAt : MethodName := ⟨RX10, "tapeAt", "(I)LSailCourses$Tape;"⟩
abbrev cX10_refusalOfStart : ByteArray := prog_1_method_40_code
def yX10_refusalOfStart : MethodName := ⟨RX10, "refusalOfStart", "(III)I"⟩
abbrev cX10_tellSquareAndMinute : ByteArray := prog_1_method_41_code
def yX10_tellSquareAndMinute : MethodName := ⟨RX10, "tellSquareAndMinute", "(LSailCourses$Rows;II)I"⟩
abbrev cX10_fractionPart : ByteArray := prog_1_method_42_code
def yX10_fractionPart : MethodName := ⟨RX10, "fractionPart", "(JJI)J"⟩
abbrev cX10_reckoned : ByteArray := prog_1_method_43_code
def yX10_reckoned : MethodName := ⟨RX10, "reckoned", "(Z)D"⟩
abbrev cX10_doClause : ByteArray := prog_1_method_44_code
def yX10_doClause : MethodName := ⟨RX10, "doClause", "(I)Z"⟩
abbrev cX10_doTable : ByteArray := prog_1_method_45_code
def yX10_doTable : MethodName := ⟨RX10, "doTable", "(II)Z"⟩
abbrev cX10_doStart : ByteArray := prog_1_method_46_code
def yX10_doStart : MethodName := ⟨RX10, "doStart", "(III)Z"⟩
abbrev cX10_doLosses : ByteArray := prog_1_method_47_code
def yX10_doLosses : MethodName := ⟨RX10, "doLosses", "(II)Z"⟩
def RX11 : String := "SailCoursesModel"
def TX11 : u_T := fun k => match k with
  | 0 => ("SailCoursesModel", "land", "[I", true)
  | 1 => ("SailCoursesModel", "from", "[I", true)
  | 2 => ("SailCoursesModel", "force", "[I", true)
  | 3 => ("SailCoursesModel", "table", "[I", true)
  | 4 => ("SailCoursesModel", "to", "[I", true)
  | 5 => ("SailCoursesModel", "rate", "[I", true)
  | 6 => ("SailCoursesModel", "loss", "[I", true)
  | 7 => ("SailCoursesModel", "startSquare", "I", false)
  | 8 => ("SailCoursesModel", "startSide", "I", false)
  | 9 => ("SailCoursesModel", "startMinute", "I", false)
  | 10 => ("SailCoursesModel", "steered", "I", false)
  | 11 => ("SailCoursesModel", "steer", "[I", true)
  | 12 => ("SailCoursesModel", "seen", "I", false)
  | 13 => ("SailCoursesModel", "seenSquare", "[I", true)
  | 14 => ("SailCoursesModel", "seenMinute", "[I", true)
  | 15 => ("SailCoursesModel", "events", "I", false)
  | 16 => ("SailCoursesModel", "eventWhat", "[I", true)
  | 17 => ("SailCoursesModel", "eventZone", "[I", true)
  | 18 => ("SailCoursesModel", "rows", "I", false)
  | 19 => ("SailCoursesModel", "rowSquare", "[I", true)
  | 20 => ("SailCoursesModel", "rowMinute", "[I", true)
  | 21 => ("SailCoursesModel", "imaged", "[I", true)
  | 22 => ("SailCoursesModel", "before", "[I", true)
  | 23 => ("SailCoursesModel", "hasImage", "Z", false)
  | 24 => ("SailCoursesModel", "text", "[I", true)
  | 25 => ("SailCoursesModel", "signs", "I", false)
  | 26 => ("SailCoursesModel", "at", "I", false)
  | 27 => ("SailCoursesModel", "number", "[I", true)
  | 28 => ("SailCoursesModel", "latestForce", "I", false)
  | 29 => ("SailCoursesModel", "arrives", "I", false)
  | 30 => ("SailCoursesModel", "departs", "I", false)
  | 31 => ("SailCoursesModel", "sideThen", "I", false)
  | 32 => ("SailCoursesModel", "there", "I", false)
  | 33 => ("SailCoursesModel", "least", "[I", true)
  | 34 => ("SailCoursesModel", "headings", "[I", true)
  | 35 => ("SailCoursesModel", "legMany", "I", false)
  | 36 => ("SailCoursesModel", "sort", "[I", true)
  | 37 => ("SailCoursesModel", "size", "[I", true)
  | 38 => ("SailCoursesModel", "item", "[J", true)
  | _ => ("SailCoursesModel", "between", "[J", true)
def tyX11 : Nat → FieldType := fun k => match k with
  | 0 => .array .int
  | 1 => .array .int
  | 2 => .array .int
  | 3 => .array .int
  | 4 => .array .int
  | 5 => .array .int
  | 6 => .array .int
  | 7 => .int
  | 8 => .int
  | 9 => .int
  | 10 => .int
  | 11 => .array .int
  | 12 => .int
  | 13 => .array .int
  | 14 => .array .int
  | 15 => .int
  | 16 => .array .int
  | 17 => .array .int
  | 18 => .int
  | 19 => .array .int
  | 20 => .array .int
  | 21 => .array .int
  | 22 => .array .int
  | 23 => .boolean
  | 24 => .array .int
  | 25 => .int
  | 26 => .int
  | 27 => .array .int
  | 28 => .int
  | 29 => .int
  | 30 => .int
  | 31 => .int
  | 32 => .int
  | 33 => .array .int
  | 34 => .array .int
  | 35 => .int
  | 36 => .array .int
  | 37 => .array .int
  | 38 => .array .long
  | _ => .array .long
abbrev wsX110 : List Cond := u_ws RX11 TX11 40
theorem nmX11 : ∀ a, a < 40 → ∀ b, b < 40 → a ≠ b → (TX11 a).2.1 ≠ (TX11 b).2.1 := by decide +kernel
theorem tyX11_ok : ∀ k, k < 40 → parseFieldDescriptor (TX11 k).2.2.1 = some (tyX11 k) := by decide +kernel
abbrev cX11_init : ByteArray := prog_13_method_1_code
def yX11_init : MethodName := ⟨RX11, "<init>", "()V"⟩
abbrev cX11_in : ByteArray := prog_13_method_2_code
def yX11_in : MethodName := ⟨RX11, "in", "(III)Z"⟩
abbrev cX11_isSquare : ByteArray := prog_13_method_3_code
def yX11_isSquare : MethodName := ⟨RX11, "isSquare", "(I)Z"⟩
abbrev cX11_isZone : ByteArray := prog_13_method_4_code
def yX11_isZone : MethodName := ⟨RX11, "isZone", "(I)Z"⟩
abbrev cX11_isSpan : ByteArray := prog_13_method_5_code
def yX11_isSpan : MethodName := ⟨RX11, "isSpan", "(I)Z"⟩
abbrev cX11_isSide : ByteArray := prog_13_method_6_code
def yX11_isSide : MethodName := ⟨RX11, "isSide", "(I)Z"⟩
abbrev cX11_isHeading : ByteArray := prog_13_method_7_code
def yX11_isHeading : MethodName := ⟨RX11, "isHeading", "(I)Z"⟩
abbrev cX11_isForce : ByteArray := prog_13_method_8_code
def yX11_isForce : MethodName := ⟨RX11, "isForce", "(I)Z"⟩
abbrev cX11_isPart : ByteArray := prog_13_method_9_code
def yX11_isPart : MethodName := ⟨RX11, "isPart", "(I)Z"⟩
abbrev cX11_zoneOf : ByteArray := prog_13_method_10_code
def yX11_zoneOf : MethodName := ⟨RX11, "zoneOf", "(I)I"⟩
abbrev cX11_spanOf : ByteArray := prog_13_method_11_code
def yX11_spanOf : MethodName := ⟨RX11, "spanOf", "(I)I"⟩
abbrev cX11_turn : ByteArray := prog_13_method_12_code
def yX11_turn : MethodName := ⟨RX11, "turn", "(II)I"⟩
abbrev cX11_wind : ByteArray := prog_13_method_13_code
def yX11_wind : MethodName := ⟨RX11, "wind", "(IIII)I"⟩
abbrev cX11_current : ByteArray := prog_13_method_14_code
def yX11_current : MethodName := ⟨RX11, "current", "(III)I"⟩
abbrev cX11_isEntry : ByteArray := prog_13_method_15_code
def yX11_isEntry : MethodName := ⟨RX11, "isEntry", "(II)Z"⟩
abbrev cX11_table : ByteArray := prog_13_method_16_code
def yX11_table : MethodName := ⟨RX11, "table", "(III)I"⟩
abbrev cX11_land : ByteArray := prog_13_method_17_code
def yX11_land : MethodName := ⟨RX11, "land", "(IZ)I"⟩
abbrev cX11_notStart : ByteArray := prog_13_method_18_code
def yX11_notStart : MethodName := ⟨RX11, "notStart", "(III)I"⟩
abbrev cX11_begins : ByteArray := prog_13_method_19_code
def yX11_begins : MethodName := ⟨RX11, "begins", "(III)V"⟩
abbrev cX11_start : ByteArray := prog_13_method_20_code
def yX11_start : MethodName := ⟨RX11, "start", "(III)I"⟩
abbrev cX11_loss : ByteArray := prog_13_method_21_code
def yX11_loss : MethodName := ⟨RX11, "loss", "(II)I"⟩
abbrev cX11_steer : ByteArray := prog_13_method_22_code
def yX11_steer : MethodName := ⟨RX11, "steer", "(I)I"⟩
abbrev cX11_feed : ByteArray := prog_13_method_23_code
def yX11_feed : MethodName := ⟨RX11, "feed", "(I)I"⟩
abbrev cX11_here : ByteArray := prog_13_method_24_code
def yX11_here : MethodName := ⟨RX11, "here", "()I"⟩
abbrev cX11_digits : ByteArray := prog_13_method_25_code
def yX11_digits : MethodName := ⟨RX11, "digits", "(III)Z"⟩
abbrev cX11_ones : ByteArray := prog_13_method_26_code
def yX11_ones : MethodName := ⟨RX11, "ones", "(I)Z"⟩
abbrev cX11_tables : ByteArray := prog_13_method_27_code
def yX11_tables : MethodName := ⟨RX11, "tables", "()Z"⟩
abbrev cX11_losses : ByteArray := prog_13_method_28_code
def yX11_losses : MethodName := ⟨RX11, "losses", "()Z"⟩
abbrev cX11_clause : ByteArray := prog_13_method_29_code
def yX11_clause : MethodName := ⟨RX11, "clause", "()I"⟩
abbrev cX11_isTabled : ByteArray := prog_13_method_30_code
def yX11_isTabled : MethodName := ⟨RX11, "isTabled", "()Z"⟩
abbrev cX11_isBegun : ByteArray := prog_13_method_31_code
def yX11_isBegun : MethodName := ⟨RX11, "isBegun", "()Z"⟩
abbrev cX11_isLost : ByteArray := prog_13_method_32_code
def yX11_isLost : MethodName := ⟨RX11, "isLost", "()Z"⟩
abbrev cX11_isDone : ByteArray := prog_13_method_33_code
def yX11_isDone : MethodName := ⟨RX11, "isDone", "(I)Z"⟩
abbrev cX11_clauses : ByteArray := prog_13_method_34_code
def yX11_clauses : MethodName := ⟨RX11, "clauses", "(Z)I"⟩
abbrev cX11_read : ByteArray := prog_13_method_35_code
def yX11_read : MethodName := ⟨RX11, "read", "()I"⟩
abbrev cX11_of : ByteArray := prog_13_method_36_code
def yX11_of : MethodName := ⟨RX11, "of", "(III)I"⟩
abbrev cX11_speed : ByteArray := prog_13_method_37_code
def yX11_speed : MethodName := ⟨RX11, "speed", "(II)I"⟩
abbrev cX11_lands : ByteArray := prog_13_method_38_code
def yX11_lands : MethodName := ⟨RX11, "lands", "()I"⟩
abbrev cX11_paceOf : ByteArray := prog_13_method_39_code
def yX11_paceOf : MethodName := ⟨RX11, "paceOf", "(III)I"⟩
abbrev cX11_pace : ByteArray := prog_13_method_40_code
def yX11_pace : MethodName := ⟨RX11, "pace", "(III)I"⟩
abbrev cX11_beside : ByteArray := prog_13_method_41_code
def yX11_beside : MethodName := ⟨RX11, "beside", "(II)I"⟩
abbrev cX11_length : ByteArray := prog_13_method_42_code
def yX11_length : MethodName := ⟨RX11, "length", "(I)I"⟩
abbrev cX11_minuteOf : ByteArray := prog_13_method_43_code
def yX11_minuteOf : MethodName := ⟨RX11, "minuteOf", "(II)I"⟩
abbrev cX11_goes : ByteArray := prog_13_method_44_code
def yX11_goes : MethodName := ⟨RX11, "goes", "(IIII)V"⟩
abbrev cX11_soonest : ByteArray := prog_13_method_45_code
def yX11_soonest : MethodName := ⟨RX11, "soonest", "(IIII)V"⟩
abbrev cX11_leg : ByteArray := prog_13_method_46_code
def yX11_leg : MethodName := ⟨RX11, "leg", "(IIIII)I"⟩
abbrev cX11_seeks : ByteArray := prog_13_method_47_code
def yX11_seeks : MethodName := ⟨RX11, "seeks", "()V"⟩
abbrev cX11_leastOf : ByteArray := prog_13_method_48_code
def yX11_leastOf : MethodName := ⟨RX11, "leastOf", "(I)I"⟩
abbrev cX11_reached : ByteArray := prog_13_method_49_code
def yX11_reached : MethodName := ⟨RX11, "reached", "()I"⟩
abbrev cX11_farthest : ByteArray := prog_13_method_50_code
def yX11_farthest : MethodName := ⟨RX11, "farthest", "()I"⟩
abbrev cX11_least : ByteArray := prog_13_method_51_code
def yX11_least : MethodName := ⟨RX11, "least", "(II)I"⟩
abbrev cX11_lastOf : ByteArray := prog_13_method_52_code
def yX11_lastOf : MethodName := ⟨RX11, "lastOf", "(I)I"⟩
abbrev cX11_last : ByteArray := prog_13_method_53_code
def yX11_last : MethodName := ⟨RX11, "last", "(II)I"⟩
abbrev cX11_courseTo : ByteArray := prog_13_method_54_code
def yX11_courseTo : MethodName := ⟨RX11, "courseTo", "(I)V"⟩
abbrev cX11_course : ByteArray := prog_13_method_55_code
def yX11_course : MethodName := ⟨RX11, "course", "(II)I"⟩
abbrev cX11_told : ByteArray := prog_13_method_56_code
def yX11_told : MethodName := ⟨RX11, "told", "(I)I"⟩
abbrev cX11_sine : ByteArray := prog_13_method_57_code
def yX11_sine : MethodName := ⟨RX11, "sine", "(I)D"⟩
abbrev cX11_cosine : ByteArray := prog_13_method_58_code
def yX11_cosine : MethodName := ⟨RX11, "cosine", "(I)D"⟩
abbrev cX11_reckon : ByteArray := prog_13_method_59_code
def yX11_reckon : MethodName := ⟨RX11, "reckon", "(II)J"⟩
abbrev cX11_meanPace : ByteArray := prog_13_method_60_code
def yX11_meanPace : MethodName := ⟨RX11, "meanPace", "(I)J"⟩
abbrev cX11_see : ByteArray := prog_13_method_61_code
def yX11_see : MethodName := ⟨RX11, "see", "(II)I"⟩
abbrev cX11_isBy : ByteArray := prog_13_method_62_code
def yX11_isBy : MethodName := ⟨RX11, "isBy", "(II)Z"⟩
abbrev cX11_allSeen : ByteArray := prog_13_method_63_code
def yX11_allSeen : MethodName := ⟨RX11, "allSeen", "()Z"⟩
abbrev cX11_fits : ByteArray := prog_13_method_64_code
def yX11_fits : MethodName := ⟨RX11, "fits", "(III)I"⟩
abbrev cX11_divisor : ByteArray := prog_13_method_65_code
def yX11_divisor : MethodName := ⟨RX11, "divisor", "(JJ)J"⟩
abbrev cX11_part : ByteArray := prog_13_method_66_code
def yX11_part : MethodName := ⟨RX11, "part", "(JJI)J"⟩
abbrev cX11_odds : ByteArray := prog_13_method_67_code
def yX11_odds : MethodName := ⟨RX11, "odds", "(IIIII)J"⟩
abbrev cX11_allLeast : ByteArray := prog_13_method_68_code
def yX11_allLeast : MethodName := ⟨RX11, "allLeast", "()I"⟩
abbrev cX11_mean : ByteArray := prog_13_method_69_code
def yX11_mean : MethodName := ⟨RX11, "mean", "(I)J"⟩
abbrev cX11_event : ByteArray := prog_13_method_70_code
def yX11_event : MethodName := ⟨RX11, "event", "(II)I"⟩
abbrev cX11_happens : ByteArray := prog_13_method_71_code
def yX11_happens : MethodName := ⟨RX11, "happens", "(II)V"⟩
abbrev cX11_after : ByteArray := prog_13_method_72_code
def yX11_after : MethodName := ⟨RX11, "after", "(I)I"⟩
abbrev cX11_book : ByteArray := prog_13_method_73_code
def yX11_book : MethodName := ⟨RX11, "book", "(II)I"⟩
abbrev cX11_looked : ByteArray := prog_13_method_74_code
def yX11_looked : MethodName := ⟨RX11, "looked", "()I"⟩
abbrev cX11_keeps : ByteArray := prog_13_method_75_code
def yX11_keeps : MethodName := ⟨RX11, "keeps", "([I)V"⟩
abbrev cX11_again : ByteArray := prog_13_method_76_code
def yX11_again : MethodName := ⟨RX11, "again", "([I)V"⟩
abbrev cX11_image : ByteArray := prog_13_method_77_code
def yX11_image : MethodName := ⟨RX11, "image", "()I"⟩
abbrev cX11_undo : ByteArray := prog_13_method_78_code
def yX11_undo : MethodName := ⟨RX11, "undo", "()I"⟩
abbrev cX11_count : ByteArray := prog_13_method_79_code
def yX11_count : MethodName := ⟨RX11, "count", "(I)I"⟩
abbrev cX11_isTape : ByteArray := prog_13_method_80_code
def yX11_isTape : MethodName := ⟨RX11, "isTape", "(I)Z"⟩
abbrev cX11_judge : ByteArray := prog_13_method_81_code
def yX11_judge : MethodName := ⟨RX11, "judge", "(II)I"⟩
abbrev cX11_tape : ByteArray := prog_13_method_82_code
def yX11_tape : MethodName := ⟨RX11, "tape", "(III)I"⟩
abbrev cX11_narrowed : ByteArray := prog_13_method_83_code
def yX11_narrowed : MethodName := ⟨RX11, "narrowed", "(IJ)J"⟩
abbrev cX11_item : ByteArray := prog_13_method_84_code
def yX11_item : MethodName := ⟨RX11, "item", "(IIJ)I"⟩
abbrev cX11_peek : ByteArray := prog_13_method_85_code
def yX11_peek : MethodName := ⟨RX11, "peek", "(II)J"⟩
abbrev cX11_shift : ByteArray := prog_13_method_86_code
def yX11_shift : MethodName := ⟨RX11, "shift", "(IIIII)I"⟩
def RJx145de : String := "java/io/Serializable"
def TJx145de : u_T := fun k => match k with
  | _ => ("", "", "", false)
def tyJx145de : Nat → FieldType := fun k => match k with
  | _ => .int
abbrev wsJx145de0 : List Cond := u_ws RJx145de TJx145de 0
theorem nmJx145de : ∀ a, a < 0 → ∀ b, b < 0 → a ≠ b → (TJx145de a).2.1 ≠ (TJx145de b).2.1 := by decide +kernel
theorem tyJx145de_ok : ∀ k, k < 0 → parseFieldDescriptor (TJx145de k).2.2.1 = some (tyJx145de k) := by decide +kernel
def RJx9f9b0 : String := "java/lang/CharSequence"
def TJx9f9b0 : u_T := fun k => match k with
  | _ => ("", "", "", false)
def tyJx9f9b0 : Nat → FieldType := fun k => match k with
  | _ => .int
abbrev wsJx9f9b00 : List Cond := u_ws RJx9f9b0 TJx9f9b0 0
theorem nmJx9f9b0 : ∀ a, a < 0 → ∀ b, b < 0 → a ≠ b → (TJx9f9b0 a).2.1 ≠ (TJx9f9b0 b).2.1 := by decide +kernel
theorem tyJx9f9b0_ok : ∀ k, k < 0 → parseFieldDescriptor (TJx9f9b0 k).2.2.1 = some (tyJx9f9b0 k) := by decide +kernel
def RJxb160c : String := "java/lang/Comparable"
def TJxb160c : u_T := fun k => match k with
  | _ => ("", "", "", false)
def tyJxb160c : Nat → FieldType := fun k => match k with
  | _ => .int
abbrev wsJxb160c0 : List Cond := u_ws RJxb160c TJxb160c 0
theorem nmJxb160c : ∀ a, a < 0 → ∀ b, b < 0 → a ≠ b → (TJxb160c a).2.1 ≠ (TJxb160c b).2.1 := by decide +kernel
theorem tyJxb160c_ok : ∀ k, k < 0 → parseFieldDescriptor (TJxb160c k).2.2.1 = some (tyJxb160c k) := by decide +kernel
def RJxe99ae : String := "java/lang/Double"
def TJxe99ae : u_T := fun k => match k with
  | _ => ("", "", "", false)
def tyJxe99ae : Nat → FieldType := fun k => match k with
  | _ => .int
abbrev wsJxe99ae0 : List Cond := u_ws RJxe99ae TJxe99ae 0
theorem nmJxe99ae : ∀ a, a < 0 → ∀ b, b < 0 → a ≠ b → (TJxe99ae a).2.1 ≠ (TJxe99ae b).2.1 := by decide +kernel
theorem tyJxe99ae_ok : ∀ k, k < 0 → parseFieldDescriptor (TJxe99ae k).2.2.1 = some (tyJxe99ae k) := by decide +kernel
abbrev cJxe99ae_isNaN_b9ae7 : ByteArray := prog_14_method_6_code
def yJxe99ae_isNaN_b9ae7 : MethodName := ⟨RJxe99ae, "isNaN", "(D)Z"⟩
abbrev cJxe99ae_doubleToLongBits_ccdee : ByteArray := prog_14_method_23_code
def yJxe99ae_doubleToLongBits_ccdee : MethodName := ⟨RJxe99ae, "doubleToLongBits", "(D)J"⟩
def RJxf58ca : String := "java/lang/Float"
def TJxf58ca : u_T := fun k => match k with
  | _ => ("", "", "", false)
def tyJxf58ca : Nat → FieldType := fun k => match k with
  | _ => .int
abbrev wsJxf58ca0 : List Cond := u_ws RJxf58ca TJxf58ca 0
theorem nmJxf58ca : ∀ a, a < 0 → ∀ b, b < 0 → a ≠ b → (TJxf58ca a).2.1 ≠ (TJxf58ca b).2.1 := by decide +kernel
theorem tyJxf58ca_ok : ∀ k, k < 0 → parseFieldDescriptor (TJxf58ca k).2.2.1 = some (tyJxf58ca k) := by decide +kernel
abbrev cJxf58ca_isNaN_12338 : ByteArray := prog_15_method_6_code
def yJxf58ca_isNaN_12338 : MethodName := ⟨RJxf58ca, "isNaN", "(F)Z"⟩
abbrev cJxf58ca_floatToIntBits_5c35a : ByteArray := prog_15_method_24_code
def yJxf58ca_floatToIntBits_5c35a : MethodName := ⟨RJxf58ca, "floatToIntBits", "(F)I"⟩
def RJ13 : String := "java/lang/Long"
def TJ13 : u_T := fun k => match k with
  | _ => ("", "", "", false)
def tyJ13 : Nat → FieldType := fun k => match k with
  | _ => .int
abbrev wsJ130 : List Cond := u_ws RJ13 TJ13 0
theorem nmJ13 : ∀ a, a < 0 → ∀ b, b < 0 → a ≠ b → (TJ13 a).2.1 ≠ (TJ13 b).2.1 := by decide +kernel
theorem tyJ13_ok : ∀ k, k < 0 → parseFieldDescriptor (TJ13 k).2.2.1 = some (tyJ13 k) := by decide +kernel
abbrev cJ13_bitCount_95d88 : ByteArray := prog_16_method_50_code
def yJ13_bitCount_95d88 : MethodName := ⟨RJ13, "bitCount", "(J)I"⟩
def RJ9 : String := "java/lang/Math"
def TJ9 : u_T := fun k => match k with
  | _ => ("", "", "", false)
def tyJ9 : Nat → FieldType := fun k => match k with
  | _ => .int
abbrev wsJ90 : List Cond := u_ws RJ9 TJ9 0
theorem nmJ9 : ∀ a, a < 0 → ∀ b, b < 0 → a ≠ b → (TJ9 a).2.1 ≠ (TJ9 b).2.1 := by decide +kernel
theorem tyJ9_ok : ∀ k, k < 0 → parseFieldDescriptor (TJ9 k).2.2.1 = some (tyJ9 k) := by decide +kernel
abbrev cJ9_max_7cf53 : ByteArray := prog_17_method_65_code
def yJ9_max_7cf53 : MethodName := ⟨RJ9, "max", "(II)I"⟩
abbrev cJ9_min_7cf53 : ByteArray := prog_17_method_69_code
def yJ9_min_7cf53 : MethodName := ⟨RJ9, "min", "(II)I"⟩
def RJxd2413 : String := "java/lang/Number"
def TJxd2413 : u_T := fun k => match k with
  | _ => ("", "", "", false)
def tyJxd2413 : Nat → FieldType := fun k => match k with
  | _ => .int
abbrev wsJxd24130 : List Cond := u_ws RJxd2413 TJxd2413 0
theorem nmJxd2413 : ∀ a, a < 0 → ∀ b, b < 0 → a ≠ b → (TJxd2413 a).2.1 ≠ (TJxd2413 b).2.1 := by decide +kernel
theorem tyJxd2413_ok : ∀ k, k < 0 → parseFieldDescriptor (TJxd2413 k).2.2.1 = some (tyJxd2413 k) := by decide +kernel
def RJ0 : String := "java/lang/String"
def TJ0 : u_T := fun k => match k with
  | _ => ("", "", "", false)
def tyJ0 : Nat → FieldType := fun k => match k with
  | _ => .int
abbrev wsJ00 : List Cond := u_ws RJ0 TJ0 0
theorem nmJ0 : ∀ a, a < 0 → ∀ b, b < 0 → a ≠ b → (TJ0 a).2.1 ≠ (TJ0 b).2.1 := by decide +kernel
theorem tyJ0_ok : ∀ k, k < 0 → parseFieldDescriptor (TJ0 k).2.2.1 = some (tyJ0 k) := by decide +kernel
abbrev cJ0_length_8abf5 : ByteArray := prog_19_method_54_code
def yJ0_length_8abf5 : MethodName := ⟨RJ0, "length", "()I"⟩
abbrev cJ0_isEmpty_aae02 : ByteArray := prog_19_method_55_code
def yJ0_isEmpty_aae02 : MethodName := ⟨RJ0, "isEmpty", "()Z"⟩
abbrev cJ0_charAt_5068e : ByteArray := prog_19_method_56_code
def yJ0_charAt_5068e : MethodName := ⟨RJ0, "charAt", "(I)C"⟩
abbrev cJ0_coder_7d493 : ByteArray := prog_19_method_152_code
def yJ0_coder_7d493 : MethodName := ⟨RJ0, "coder", "()B"⟩
abbrev cJ0_isLatin1_aae02 : ByteArray := prog_19_method_154_code
def yJ0_isLatin1_aae02 : MethodName := ⟨RJ0, "isLatin1", "()Z"⟩
abbrev cJ0_checkIndex_df160 : ByteArray := prog_19_method_155_code
def yJ0_checkIndex_df160 : MethodName := ⟨RJ0, "checkIndex", "(II)V"⟩
def RJ1 : String := "java/lang/StringLatin1"
def TJ1 : u_T := fun k => match k with
  | _ => ("", "", "", false)
def tyJ1 : Nat → FieldType := fun k => match k with
  | _ => .int
abbrev wsJ10 : List Cond := u_ws RJ1 TJ1 0
theorem nmJ1 : ∀ a, a < 0 → ∀ b, b < 0 → a ≠ b → (TJ1 a).2.1 ≠ (TJ1 b).2.1 := by decide +kernel
theorem tyJ1_ok : ∀ k, k < 0 → parseFieldDescriptor (TJ1 k).2.2.1 = some (tyJ1 k) := by decide +kernel
abbrev cJ1_charAt_3b067 : ByteArray := prog_20_method_2_code
def yJ1_charAt_3b067 : MethodName := ⟨RJ1, "charAt", "([BI)C"⟩
def RJ2 : String := "java/lang/StringUTF16"
def TJ2 : u_T := fun k => match k with
  | _ => ("", "", "", false)
def tyJ2 : Nat → FieldType := fun k => match k with
  | _ => .int
abbrev wsJ20 : List Cond := u_ws RJ2 TJ2 0
theorem nmJ2 : ∀ a, a < 0 → ∀ b, b < 0 → a ≠ b → (TJ2 a).2.1 ≠ (TJ2 b).2.1 := by decide +kernel
theorem tyJ2_ok : ∀ k, k < 0 → parseFieldDescriptor (TJ2 k).2.2.1 = some (tyJ2 k) := by decide +kernel
abbrev cJ2_getChar_3b067 : ByteArray := prog_21_method_5_code
def yJ2_getChar_3b067 : MethodName := ⟨RJ2, "getChar", "([BI)C"⟩
abbrev cJ2_length_9d52b : ByteArray := prog_21_method_6_code
def yJ2_length_9d52b : MethodName := ⟨RJ2, "length", "([B)I"⟩
abbrev cJ2_charAt_3b067 : ByteArray := prog_21_method_83_code
def yJ2_charAt_3b067 : MethodName := ⟨RJ2, "charAt", "([BI)C"⟩
abbrev cJ2_checkIndex_2214a : ByteArray := prog_21_method_91_code
def yJ2_checkIndex_2214a : MethodName := ⟨RJ2, "checkIndex", "(I[B)V"⟩
def RJ10 : String := "java/lang/System"
def TJ10 : u_T := fun k => match k with
  | _ => ("", "", "", false)
def tyJ10 : Nat → FieldType := fun k => match k with
  | _ => .int
abbrev wsJ100 : List Cond := u_ws RJ10 TJ10 0
theorem nmJ10 : ∀ a, a < 0 → ∀ b, b < 0 → a ≠ b → (TJ10 a).2.1 ≠ (TJ10 b).2.1 := by decide +kernel
theorem tyJ10_ok : ∀ k, k < 0 → parseFieldDescriptor (TJ10 k).2.2.1 = some (tyJ10 k) := by decide +kernel
def RJxfd54e : String := "java/lang/constant/Constable"
def TJxfd54e : u_T := fun k => match k with
  | _ => ("", "", "", false)
def tyJxfd54e : Nat → FieldType := fun k => match k with
  | _ => .int
abbrev wsJxfd54e0 : List Cond := u_ws RJxfd54e TJxfd54e 0
theorem nmJxfd54e : ∀ a, a < 0 → ∀ b, b < 0 → a ≠ b → (TJxfd54e a).2.1 ≠ (TJxfd54e b).2.1 := by decide +kernel
theorem tyJxfd54e_ok : ∀ k, k < 0 → parseFieldDescriptor (TJxfd54e k).2.2.1 = some (tyJxfd54e k) := by decide +kernel
def RJx3cf43 : String := "java/lang/constant/ConstantDesc"
def TJx3cf43 : u_T := fun k => match k with
  | _ => ("", "", "", false)
def tyJx3cf43 : Nat → FieldType := fun k => match k with
  | _ => .int
abbrev wsJx3cf430 : List Cond := u_ws RJx3cf43 TJx3cf43 0
theorem nmJx3cf43 : ∀ a, a < 0 → ∀ b, b < 0 → a ≠ b → (TJx3cf43 a).2.1 ≠ (TJx3cf43 b).2.1 := by decide +kernel
theorem tyJx3cf43_ok : ∀ k, k < 0 → parseFieldDescriptor (TJx3cf43 k).2.2.1 = some (tyJx3cf43 k) := by decide +kernel
def RJ7 : String := "java/util/Arrays"
def TJ7 : u_T := fun k => match k with
  | _ => ("", "", "", false)
def tyJ7 : Nat → FieldType := fun k => match k with
  | _ => .int
abbrev wsJ70 : List Cond := u_ws RJ7 TJ7 0
theorem nmJ7 : ∀ a, a < 0 → ∀ b, b < 0 → a ≠ b → (TJ7 a).2.1 ≠ (TJ7 b).2.1 := by decide +kernel
theorem tyJ7_ok : ∀ k, k < 0 → parseFieldDescriptor (TJ7 k).2.2.1 = some (tyJ7 k) := by decide +kernel
abbrev cJ7_rangeCheck_23922 : ByteArray := prog_23_method_30_code
def yJ7_rangeCheck_23922 : MethodName := ⟨RJ7, "rangeCheck", "(III)V"⟩
abbrev cJ7_fill_d0a16 : ByteArray := prog_23_method_101_code
def yJ7_fill_d0a16 : MethodName := ⟨RJ7, "fill", "([JJ)V"⟩
abbrev cJ7_fill_53178 : ByteArray := prog_23_method_103_code
def yJ7_fill_53178 : MethodName := ⟨RJ7, "fill", "([II)V"⟩
abbrev cJ7_fill_fda19 : ByteArray := prog_23_method_104_code
def yJ7_fill_fda19 : MethodName := ⟨RJ7, "fill", "([IIII)V"⟩
def RJ3 : String := "jdk/internal/util/Preconditions"
def TJ3 : u_T := fun k => match k with
  | _ => ("", "", "", false)
def tyJ3 : Nat → FieldType := fun k => match k with
  | _ => .int
abbrev wsJ30 : List Cond := u_ws RJ3 TJ3 0
theorem nmJ3 : ∀ a, a < 0 → ∀ b, b < 0 → a ≠ b → (TJ3 a).2.1 ≠ (TJ3 b).2.1 := by decide +kernel
theorem tyJ3_ok : ∀ k, k < 0 → parseFieldDescriptor (TJ3 k).2.2.1 = some (tyJ3 k) := by decide +kernel
abbrev cJ3_checkIndex_8e157 : ByteArray := prog_24_method_11_code
def yJ3_checkIndex_8e157 : MethodName := ⟨RJ3, "checkIndex", "(IILjava/util/function/BiFunction;)I"⟩
def RL : String := "SailCoursesLaw"
abbrev cL_law : ByteArray := code
def yL_law : MethodName := ⟨RL, "law", "([I)Z"⟩
abbrev vwCl : List vw_C := [(RX1, TX1, 9), (RX3, TX3, 4), (RX4, TX4, 5), (RX5, TX5, 3), (RX6, TX6, 11), (RX7, TX7, 7), (RX8, TX8, 6), (RX9, TX9, 3), (RX10, TX10, 9), (RX11, TX11, 40)]
def wsL_law : List Cond := lw_tbl.filter goodWord
theorem wsL_law_in : ∀ w ∈ wsL_law, w ∈ lw_tbl := fun _ h => (List.mem_filter.mp h).1
theorem gz {c1 : Cond} (h : c1 ∈ wsL_law) : GoodIn wsL_law (c1 :: wsL_law) := fun w hw => (List.mem_cons.mp hw).elim (fun e => by subst e; exact ⟨h, good_of_word (List.mem_filter.mp h).2⟩) (fun h2 => ⟨h2, good_of_word (List.mem_filter.mp h2).2⟩)
theorem wq_1 {w : Cond} (i : Nat) (h : tables_1_1[i]? = some w) (g : goodWord w = true) : w ∈ wsL_law := List.mem_filter.mpr ⟨List.mem_append_right _ (List.mem_append_left _ (List.mem_of_getElem? h)), g⟩
theorem wq_2 {w : Cond} (i : Nat) (h : tables_1_2[i]? = some w) (g : goodWord w = true) : w ∈ wsL_law := List.mem_filter.mpr ⟨List.mem_append_right _ (List.mem_append_right _ (List.mem_append_left _ (List.mem_of_getElem? h))), g⟩
theorem wq_3 {w : Cond} (i : Nat) (h : tables_1_3[i]? = some w) (g : goodWord w = true) : w ∈ wsL_law := List.mem_filter.mpr ⟨List.mem_append_right _ (List.mem_append_right _ (List.mem_append_right _ (List.mem_append_left _ (List.mem_of_getElem? h)))), g⟩
theorem wq_4 {w : Cond} (i : Nat) (h : tables_1_4[i]? = some w) (g : goodWord w = true) : w ∈ wsL_law := List.mem_filter.mpr ⟨List.mem_append_right _ (List.mem_append_right _ (List.mem_append_right _ (List.mem_append_right _ (List.mem_append_left _ (List.mem_of_getElem? h))))), g⟩
theorem wq_5 {w : Cond} (i : Nat) (h : tables_1_5[i]? = some w) (g : goodWord w = true) : w ∈ wsL_law := List.mem_filter.mpr ⟨List.mem_append_right _ (List.mem_append_right _ (List.mem_append_right _ (List.mem_append_right _ (List.mem_append_right _ (List.mem_append_left _ (List.mem_of_getElem? h)))))), g⟩
theorem wq_6 {w : Cond} (i : Nat) (h : tables_1_6[i]? = some w) (g : goodWord w = true) : w ∈ wsL_law := List.mem_filter.mpr ⟨List.mem_append_right _ (List.mem_append_right _ (List.mem_append_right _ (List.mem_append_right _ (List.mem_append_right _ (List.mem_append_right _ (List.mem_of_getElem? h)))))), g⟩
theorem wp_1 {y : MethodName} {n : Nat} (i : Nat) (h : lw_privs_1[i]? = some (y, n)) : Cond.selects y.cls y y ∈ wsL_law := List.mem_filter.mpr ⟨List.mem_append_left _ (List.mem_map.mpr ⟨(y, n), List.mem_append_left _ (List.mem_of_getElem? h), rfl⟩), rfl⟩
theorem wp_2 {y : MethodName} {n : Nat} (i : Nat) (h : lw_privs_2[i]? = some (y, n)) : Cond.selects y.cls y y ∈ wsL_law := List.mem_filter.mpr ⟨List.mem_append_left _ (List.mem_map.mpr ⟨(y, n), List.mem_append_right _ (List.mem_append_left _ (List.mem_of_getElem? h)), rfl⟩), rfl⟩
theorem wp_3 {y : MethodName} {n : Nat} (i : Nat) (h : lw_privs_3[i]? = some (y, n)) : Cond.selects y.cls y y ∈ wsL_law := List.mem_filter.mpr ⟨List.mem_append_left _ (List.mem_map.mpr ⟨(y, n), List.mem_append_right _ (List.mem_append_right _ (List.mem_append_left _ (List.mem_of_getElem? h))), rfl⟩), rfl⟩
theorem wp_4 {y : MethodName} {n : Nat} (i : Nat) (h : lw_privs_4[i]? = some (y, n)) : Cond.selects y.cls y y ∈ wsL_law := List.mem_filter.mpr ⟨List.mem_append_left _ (List.mem_map.mpr ⟨(y, n), List.mem_append_right _ (List.mem_append_right _ (List.mem_append_right _ (List.mem_of_getElem? h))), rfl⟩), rfl⟩
set_option maxRecDepth 20000 in
theorem inlX1 : ∀ w ∈ wsX10, w ∈ wsL_law := show ∀ w ∈ ([u_lay RX1 TX1 0, u_lay RX1 TX1 1, u_lay RX1 TX1 2, u_lay RX1 TX1 3, u_lay RX1 TX1 4, u_lay RX1 TX1 5, u_lay RX1 TX1 6, u_lay RX1 TX1 7, u_lay RX1 TX1 8] : List Cond), w ∈ wsL_law from List.forall_mem_cons.mpr ⟨wq_1 166 rfl rfl, List.forall_mem_cons.mpr ⟨wq_1 168 rfl rfl, List.forall_mem_cons.mpr ⟨wq_1 170 rfl rfl, List.forall_mem_cons.mpr ⟨wq_1 172 rfl rfl, List.forall_mem_cons.mpr ⟨wq_1 174 rfl rfl, List.forall_mem_cons.mpr ⟨wq_1 176 rfl rfl, List.forall_mem_cons.mpr ⟨wq_1 178 rfl rfl, List.forall_mem_cons.mpr ⟨wq_1 180 rfl rfl, List.forall_mem_cons.mpr ⟨wq_1 182 rfl rfl, fun _ h => absurd h List.not_mem_nil⟩⟩⟩⟩⟩⟩⟩⟩⟩
set_option maxRecDepth 20000 in
theorem inlX3 : ∀ w ∈ wsX30, w ∈ wsL_law := show ∀ w ∈ ([u_lay RX3 TX3 0, u_lay RX3 TX3 1, u_lay RX3 TX3 2, u_lay RX3 TX3 3] : List Cond), w ∈ wsL_law from List.forall_mem_cons.mpr ⟨wq_1 120 rfl rfl, List.forall_mem_cons.mpr ⟨wq_1 122 rfl rfl, List.forall_mem_cons.mpr ⟨wq_1 124 rfl rfl, List.forall_mem_cons.mpr ⟨wq_1 126 rfl rfl, fun _ h => absurd h List.not_mem_nil⟩⟩⟩⟩
set_option maxRecDepth 20000 in
theorem inlX4 : ∀ w ∈ wsX40, w ∈ wsL_law := show ∀ w ∈ ([u_lay RX4 TX4 0, u_lay RX4 TX4 1, u_lay RX4 TX4 2, u_lay RX4 TX4 3, u_lay RX4 TX4 4] : List Cond), w ∈ wsL_law from List.forall_mem_cons.mpr ⟨wq_1 146 rfl rfl, List.forall_mem_cons.mpr ⟨wq_1 148 rfl rfl, List.forall_mem_cons.mpr ⟨wq_1 150 rfl rfl, List.forall_mem_cons.mpr ⟨wq_1 152 rfl rfl, List.forall_mem_cons.mpr ⟨wq_1 154 rfl rfl, fun _ h => absurd h List.not_mem_nil⟩⟩⟩⟩⟩
set_option maxRecDepth 20000 in
theorem inlX5 : ∀ w ∈ wsX50, w ∈ wsL_law := show ∀ w ∈ ([u_lay RX5 TX5 0, u_lay RX5 TX5 1, u_lay RX5 TX5 2] : List Cond), w ∈ wsL_law from List.forall_mem_cons.mpr ⟨wq_1 105 rfl rfl, List.forall_mem_cons.mpr ⟨wq_1 107 rfl rfl, List.forall_mem_cons.mpr ⟨wq_1 109 rfl rfl, fun _ h => absurd h List.not_mem_nil⟩⟩⟩
set_option maxRecDepth 20000 in
theorem inlX6 : ∀ w ∈ wsX60, w ∈ wsL_law := show ∀ w ∈ ([u_lay RX6 TX6 0, u_lay RX6 TX6 1, u_lay RX6 TX6 2, u_lay RX6 TX6 3, u_lay RX6 TX6 4, u_lay RX6 TX6 5, u_lay RX6 TX6 6, u_lay RX6 TX6 7, u_lay RX6 TX6 8, u_lay RX6 TX6 9, u_lay RX6 TX6 10] : List Cond), w ∈ wsL_law from List.forall_mem_cons.mpr ⟨wq_1 66 rfl rfl, List.forall_mem_cons.mpr ⟨wq_1 68 rfl rfl, List.forall_mem_cons.mpr ⟨wq_1 70 rfl rfl, List.forall_mem_cons.mpr ⟨wq_1 72 rfl rfl, List.forall_mem_cons.mpr ⟨wq_1 74 rfl rfl, List.forall_mem_cons.mpr ⟨wq_1 76 rfl rfl, List.forall_mem_cons.mpr ⟨wq_1 78 rfl rfl, List.forall_mem_cons.mpr ⟨wq_1 80 rfl rfl, List.forall_mem_cons.mpr ⟨wq_1 82 rfl rfl, List.forall_mem_cons.mpr ⟨wq_1 84 rfl rfl, List.forall_mem_cons.mpr ⟨wq_1 86 rfl rfl, fun _ h => absurd h List.not_mem_nil⟩⟩⟩⟩⟩⟩⟩⟩⟩⟩⟩
set_option maxRecDepth 20000 in
theorem inlX7 : ∀ w ∈ wsX70, w ∈ wsL_law := show ∀ w ∈ ([u_lay RX7 TX7 0, u_lay RX7 TX7 1, u_lay RX7 TX7 2, u_lay RX7 TX7 3, u_lay RX7 TX7 4, u_lay RX7 TX7 5, u_lay RX7 TX7 6] : List Cond), w ∈ wsL_law from List.forall_mem_cons.mpr ⟨wq_1 227 rfl rfl, List.forall_mem_cons.mpr ⟨wq_1 229 rfl rfl, List.forall_mem_cons.mpr ⟨wq_1 231 rfl rfl, List.forall_mem_cons.mpr ⟨wq_1 233 rfl rfl, List.forall_mem_cons.mpr ⟨wq_1 235 rfl rfl, List.forall_mem_cons.mpr ⟨wq_1 237 rfl rfl, List.forall_mem_cons.mpr ⟨wq_1 239 rfl rfl, fun _ h => absurd h List.not_mem_nil⟩⟩⟩⟩⟩⟩⟩
set_option maxRecDepth 20000 in
theorem inlX8 : ∀ w ∈ wsX80, w ∈ wsL_law := show ∀ w ∈ ([u_lay RX8 TX8 0, u_lay RX8 TX8 1, u_lay RX8 TX8 2, u_lay RX8 TX8 3, u_lay RX8 TX8 4, u_lay RX8 TX8 5] : List Cond), w ∈ wsL_law from List.forall_mem_cons.mpr ⟨wq_1 201 rfl rfl, List.forall_mem_cons.mpr ⟨wq_1 203 rfl rfl, List.forall_mem_cons.mpr ⟨wq_1 205 rfl rfl, List.forall_mem_cons.mpr ⟨wq_1 207 rfl rfl, List.forall_mem_cons.mpr ⟨wq_1 209 rfl rfl, List.forall_mem_cons.mpr ⟨wq_1 211 rfl rfl, fun _ h => absurd h List.not_mem_nil⟩⟩⟩⟩⟩⟩
set_option maxRecDepth 20000 in
theorem inlX9 : ∀ w ∈ wsX90, w ∈ wsL_law := show ∀ w ∈ ([u_lay RX9 TX9 0, u_lay RX9 TX9 1, u_lay RX9 TX9 2] : List Cond), w ∈ wsL_law from List.forall_mem_cons.mpr ⟨wq_2 12 rfl rfl, List.forall_mem_cons.mpr ⟨wq_2 14 rfl rfl, List.forall_mem_cons.mpr ⟨wq_2 16 rfl rfl, fun _ h => absurd h List.not_mem_nil⟩⟩⟩
set_option maxRecDepth 20000 in
theorem inlX10 : ∀ w ∈ wsX100, w ∈ wsL_law := show ∀ w ∈ ([u_lay RX10 TX10 0, u_lay RX10 TX10 1, u_lay RX10 TX10 2, u_lay RX10 TX10 3, u_lay RX10 TX10 4, u_lay RX10 TX10 5, u_lay RX10 TX10 6, u_lay RX10 TX10 7, u_lay RX10 TX10 8] : List Cond), w ∈ wsL_law from List.forall_mem_cons.mpr ⟨wq_2 29 rfl rfl, List.forall_mem_cons.mpr ⟨wq_2 31 rfl rfl, List.forall_mem_cons.mpr ⟨wq_2 33 rfl rfl, List.forall_mem_cons.mpr ⟨wq_2 35 rfl rfl, List.forall_mem_cons.mpr ⟨wq_2 37 rfl rfl, List.forall_mem_cons.mpr ⟨wq_2 39 rfl rfl, List.forall_mem_cons.mpr ⟨wq_2 41 rfl rfl, List.forall_mem_cons.mpr ⟨wq_2 43 rfl rfl, List.forall_mem_cons.mpr ⟨wq_2 45 rfl rfl, fun _ h => absurd h List.not_mem_nil⟩⟩⟩⟩⟩⟩⟩⟩⟩
set_option maxRecDepth 20000 in
theorem inlX11 : ∀ w ∈ wsX110, w ∈ wsL_law := show ∀ w ∈ ([u_lay RX11 TX11 0, u_lay RX11 TX11 1, u_lay RX11 TX11 2, u_lay RX11 TX11 3, u_lay RX11 TX11 4, u_lay RX11 TX11 5, u_lay RX11 TX11 6, u_lay RX11 TX11 7, u_lay RX11 TX11 8, u_lay RX11 TX11 9, u_lay RX11 TX11 10, u_lay RX11 TX11 11, u_lay RX11 TX11 12, u_lay RX11 TX11 13, u_lay RX11 TX11 14, u_lay RX11 TX11 15, u_lay RX11 TX11 16, u_lay RX11 TX11 17, u_lay RX11 TX11 18, u_lay RX11 TX11 19, u_lay RX11 TX11 20, u_lay RX11 TX11 21, u_lay RX11 TX11 22, u_lay RX11 TX11 23, u_lay RX11 TX11 24, u_lay RX11 TX11 25, u_lay RX11 TX11 26, u_lay RX11 TX11 27, u_lay RX11 TX11 28, u_lay RX11 TX11 29, u_lay RX11 TX11 30, u_lay RX11 TX11 31, u_lay RX11 TX11 32, u_lay RX11 TX11 33, u_lay RX11 TX11 34, u_lay RX11 TX11 35, u_lay RX11 TX11 36, u_lay RX11 TX11 37, u_lay RX11 TX11 38, u_lay RX11 TX11 39] : List Cond), w ∈ wsL_law from List.forall_mem_cons.mpr ⟨wq_5 40 rfl rfl, List.forall_mem_cons.mpr ⟨wq_5 42 rfl rfl, List.forall_mem_cons.mpr ⟨wq_5 44 rfl rfl, List.forall_mem_cons.mpr ⟨wq_5 46 rfl rfl, List.forall_mem_cons.mpr ⟨wq_5 48 rfl rfl, List.forall_mem_cons.mpr ⟨wq_5 50 rfl rfl, List.forall_mem_cons.mpr ⟨wq_5 52 rfl rfl, List.forall_mem_cons.mpr ⟨wq_5 54 rfl rfl, List.forall_mem_cons.mpr ⟨wq_5 56 rfl rfl, List.forall_mem_cons.mpr ⟨wq_5 58 rfl rfl, List.forall_mem_cons.mpr ⟨wq_5 60 rfl rfl, List.forall_mem_cons.mpr ⟨wq_5 62 rfl rfl, List.forall_mem_cons.mpr ⟨wq_5 64 rfl rfl, List.forall_mem_cons.mpr ⟨wq_5 66 rfl rfl, List.forall_mem_cons.mpr ⟨wq_5 68 rfl rfl, List.forall_mem_cons.mpr ⟨wq_5 70 rfl rfl, List.forall_mem_cons.mpr ⟨wq_5 72 rfl rfl, List.forall_mem_cons.mpr ⟨wq_5 74 rfl rfl, List.forall_mem_cons.mpr ⟨wq_5 76 rfl rfl, List.forall_mem_cons.mpr ⟨wq_5 78 rfl rfl, List.forall_mem_cons.mpr ⟨wq_5 80 rfl rfl, List.forall_mem_cons.mpr ⟨wq_5 82 rfl rfl, List.forall_mem_cons.mpr ⟨wq_5 84 rfl rfl, List.forall_mem_cons.mpr ⟨wq_5 86 rfl rfl, List.forall_mem_cons.mpr ⟨wq_5 88 rfl rfl, List.forall_mem_cons.mpr ⟨wq_5 90 rfl rfl, List.forall_mem_cons.mpr ⟨wq_5 92 rfl rfl, List.forall_mem_cons.mpr ⟨wq_5 94 rfl rfl, List.forall_mem_cons.mpr ⟨wq_5 96 rfl rfl, List.forall_mem_cons.mpr ⟨wq_5 98 rfl rfl, List.forall_mem_cons.mpr ⟨wq_5 100 rfl rfl, List.forall_mem_cons.mpr ⟨wq_5 102 rfl rfl, List.forall_mem_cons.mpr ⟨wq_5 104 rfl rfl, List.forall_mem_cons.mpr ⟨wq_5 106 rfl rfl, List.forall_mem_cons.mpr ⟨wq_5 108 rfl rfl, List.forall_mem_cons.mpr ⟨wq_5 110 rfl rfl, List.forall_mem_cons.mpr ⟨wq_5 112 rfl rfl, List.forall_mem_cons.mpr ⟨wq_5 114 rfl rfl, List.forall_mem_cons.mpr ⟨wq_5 116 rfl rfl, List.forall_mem_cons.mpr ⟨wq_5 118 rfl rfl, fun _ h => absurd h List.not_mem_nil⟩⟩⟩⟩⟩⟩⟩⟩⟩⟩⟩⟩⟩⟩⟩⟩⟩⟩⟩⟩⟩⟩⟩⟩⟩⟩⟩⟩⟩⟩⟩⟩⟩⟩⟩⟩⟩⟩⟩⟩
set_option maxRecDepth 20000 in
theorem q_1_0 : Cond.classLink RL 7 RX10 ∈ wsL_law := wq_1 24 rfl rfl
set_option maxRecDepth 20000 in
theorem q_1_1 : Cond.instantiable RX10 9 ∈ wsL_law := wq_1 25 rfl rfl
set_option maxRecDepth 20000 in
theorem q_1_2 : Cond.initialized RX10 ∈ wsL_law := wq_1 1 rfl rfl
set_option maxRecDepth 20000 in
theorem q_1_3 : Cond.classLink RL 10 RX11 ∈ wsL_law := wq_4 234 rfl rfl
set_option maxRecDepth 20000 in
theorem q_1_4 : Cond.instantiable RX11 40 ∈ wsL_law := wq_4 235 rfl rfl
set_option maxRecDepth 20000 in
theorem q_1_5 : Cond.initialized RX11 ∈ wsL_law := wq_1 12 rfl rfl
set_option maxRecDepth 20000 in
theorem q_1_6 : Cond.constantLong RL 151 (4294967295) ∈ wsL_law := wq_6 234 rfl rfl
set_option maxRecDepth 20000 in
theorem q_1_7 : Cond.methodLink RL 9 yX10_init ∈ wsL_law := wq_1 26 rfl rfl
set_option maxRecDepth 20000 in
theorem q_1_8 : Cond.instanceMethod yX10_init ∈ wsL_law := wq_1 27 rfl rfl
set_option maxRecDepth 20000 in
theorem q_1_9 : Cond.code yX10_init cX10_init 2 none ∈ wsL_law := wq_1 28 rfl rfl
set_option maxRecDepth 20000 in
theorem q_1_10 : Cond.methodLink RX10 3 objectInit ∈ wsL_law := wq_1 29 rfl rfl
set_option maxRecDepth 20000 in
theorem q_1_11 : Cond.instanceMethod objectInit ∈ wsL_law := wq_1 30 rfl rfl
set_option maxRecDepth 20000 in
theorem q_1_12 : Cond.code objectInit ⟨#[0xb1]⟩ 1 none ∈ wsL_law := wq_1 31 rfl rfl
set_option maxRecDepth 20000 in
theorem q_1_13 : Cond.classLink RX10 9 RX6 ∈ wsL_law := wq_1 32 rfl rfl
set_option maxRecDepth 20000 in
theorem q_1_14 : Cond.instantiable RX6 11 ∈ wsL_law := wq_1 33 rfl rfl
set_option maxRecDepth 20000 in
theorem q_1_15 : Cond.initialized RX6 ∈ wsL_law := wq_1 2 rfl rfl
set_option maxRecDepth 20000 in
theorem q_1_16 : Cond.fieldLink RX10 12 "SailCourses" "sea" "LSailCourses$Sea;" ∈ wsL_law := wq_2 20 rfl rfl
set_option maxRecDepth 20000 in
theorem q_1_17 : Cond.classLink RX10 18 RX3 ∈ wsL_law := wq_1 90 rfl rfl
set_option maxRecDepth 20000 in
theorem q_1_18 : Cond.instantiable RX3 4 ∈ wsL_law := wq_1 91 rfl rfl
set_option maxRecDepth 20000 in
theorem q_1_19 : Cond.initialized RX3 ∈ wsL_law := wq_1 5 rfl rfl
set_option maxRecDepth 20000 in
theorem q_1_20 : Cond.fieldLink RX10 21 "SailCourses" "hand" "LSailCourses$Hand;" ∈ wsL_law := wq_2 21 rfl rfl
set_option maxRecDepth 20000 in
theorem q_1_21 : Cond.classLink RX10 25 RX1 ∈ wsL_law := wq_1 129 rfl rfl
set_option maxRecDepth 20000 in
theorem q_1_22 : Cond.instantiable RX1 9 ∈ wsL_law := wq_1 130 rfl rfl
set_option maxRecDepth 20000 in
theorem q_1_23 : Cond.initialized RX1 ∈ wsL_law := wq_1 7 rfl rfl
set_option maxRecDepth 20000 in
theorem q_2_0 : Cond.fieldLink RX10 30 "SailCourses" "chart" "LSailCourses$Chart;" ∈ wsL_law := wq_2 22 rfl rfl
set_option maxRecDepth 20000 in
theorem q_2_1 : Cond.classLink RX10 34 RX8 ∈ wsL_law := wq_1 185 rfl rfl
set_option maxRecDepth 20000 in
theorem q_2_2 : Cond.instantiable RX8 6 ∈ wsL_law := wq_1 186 rfl rfl
set_option maxRecDepth 20000 in
theorem q_2_3 : Cond.initialized RX8 ∈ wsL_law := wq_1 9 rfl rfl
set_option maxRecDepth 20000 in
theorem q_2_4 : Cond.fieldLink RX10 37 "SailCourses" "surmise" "LSailCourses$Surmise;" ∈ wsL_law := wq_2 23 rfl rfl
set_option maxRecDepth 20000 in
theorem q_2_5 : Cond.classLink RX10 41 RX7 ∈ wsL_law := wq_1 214 rfl rfl
set_option maxRecDepth 20000 in
theorem q_2_6 : Cond.instantiable RX7 7 ∈ wsL_law := wq_1 215 rfl rfl
set_option maxRecDepth 20000 in
theorem q_2_7 : Cond.initialized RX7 ∈ wsL_law := wq_1 10 rfl rfl
set_option maxRecDepth 20000 in
theorem q_2_8 : Cond.fieldLink RX10 44 "SailCourses" "text" "LSailCourses$SetUp;" ∈ wsL_law := wq_2 24 rfl rfl
set_option maxRecDepth 20000 in
theorem q_2_9 : Cond.classLink RX10 48 RX9 ∈ wsL_law := wq_2 2 rfl rfl
set_option maxRecDepth 20000 in
theorem q_2_10 : Cond.fieldLink RX10 50 "SailCourses" "tapes" "[LSailCourses$Tape;" ∈ wsL_law := wq_2 25 rfl rfl
set_option maxRecDepth 20000 in
theorem q_2_11 : Cond.fieldLink RX10 54 "SailCourses" "imageSea" "LSailCourses$Sea;" ∈ wsL_law := wq_2 26 rfl rfl
set_option maxRecDepth 20000 in
theorem q_2_12 : Cond.fieldLink RX10 57 "SailCourses" "imageHand" "LSailCourses$Hand;" ∈ wsL_law := wq_2 27 rfl rfl
set_option maxRecDepth 20000 in
theorem q_2_13 : Cond.fieldLink RX10 60 "SailCourses" "imageTaken" "Z" ∈ wsL_law := wq_2 28 rfl rfl
set_option maxRecDepth 20000 in
theorem q_2_14 : Cond.instantiable RX9 3 ∈ wsL_law := wq_2 4 rfl rfl
set_option maxRecDepth 20000 in
theorem q_2_15 : Cond.initialized RX9 ∈ wsL_law := wq_1 11 rfl rfl
set_option maxRecDepth 20000 in
theorem q_2_16 : Cond.methodLink RX10 11 yX6_init ∈ wsL_law := wq_1 34 rfl rfl
set_option maxRecDepth 20000 in
theorem q_2_17 : Cond.instanceMethod yX6_init ∈ wsL_law := wq_1 35 rfl rfl
set_option maxRecDepth 20000 in
theorem q_2_18 : Cond.code yX6_init cX6_init 1 none ∈ wsL_law := wq_1 36 rfl rfl
set_option maxRecDepth 20000 in
theorem q_2_19 : Cond.methodLink RX6 3 objectInit ∈ wsL_law := wq_1 37 rfl rfl
set_option maxRecDepth 20000 in
theorem q_2_20 : Cond.arrayClass .int ∈ wsL_law := wq_1 89 rfl rfl
set_option maxRecDepth 20000 in
theorem q_2_21 : Cond.fieldLink RX6 9 "SailCourses$Sea" "from" "[I" ∈ wsL_law := wq_1 46 rfl rfl
set_option maxRecDepth 20000 in
theorem q_2_22 : Cond.fieldLink RX6 15 "SailCourses$Sea" "force" "[I" ∈ wsL_law := wq_1 47 rfl rfl
set_option maxRecDepth 20000 in
theorem q_2_23 : Cond.fieldLink RX6 18 "SailCourses$Sea" "to" "[I" ∈ wsL_law := wq_1 48 rfl rfl
set_option maxRecDepth 20000 in
theorem q_3_0 : Cond.fieldLink RX6 21 "SailCourses$Sea" "rate" "[I" ∈ wsL_law := wq_1 49 rfl rfl
set_option maxRecDepth 20000 in
theorem q_3_1 : Cond.fieldLink RX6 24 "SailCourses$Sea" "FIRST_TABLE" "[I" ∈ wsL_law := wq_1 38 rfl rfl
set_option maxRecDepth 20000 in
theorem q_3_2 : Cond.fieldLink RX6 27 "SailCourses$Sea" "speeds" "[I" ∈ wsL_law := wq_1 50 rfl rfl
set_option maxRecDepth 20000 in
theorem q_3_3 : Cond.fieldLink RX6 30 "SailCourses$Sea" "losses" "[I" ∈ wsL_law := wq_1 51 rfl rfl
set_option maxRecDepth 20000 in
theorem q_3_4 : Cond.fieldLink RX6 33 "SailCourses$Sea" "landBits" "J" ∈ wsL_law := wq_1 52 rfl rfl
set_option maxRecDepth 20000 in
theorem q_3_5 : Cond.fieldLink RX6 37 "SailCourses$Sea" "startSquare" "I" ∈ wsL_law := wq_1 53 rfl rfl
set_option maxRecDepth 20000 in
theorem q_3_6 : Cond.fieldLink RX6 41 "SailCourses$Sea" "startSide" "I" ∈ wsL_law := wq_1 56 rfl rfl
set_option maxRecDepth 20000 in
theorem q_3_7 : Cond.fieldLink RX6 44 "SailCourses$Sea" "startMinute" "I" ∈ wsL_law := wq_1 59 rfl rfl
set_option maxRecDepth 20000 in
theorem q_3_8 : Cond.fieldLink RX6 47 "SailCourses$Sea" "version" "I" ∈ wsL_law := wq_1 62 rfl rfl
set_option maxRecDepth 20000 in
theorem q_3_9 : Cond.methodLink RX6 56 arraycopyName ∈ wsL_law := wq_1 43 rfl rfl
set_option maxRecDepth 20000 in
theorem q_3_10 : Cond.native arraycopyName ∈ wsL_law := wq_1 45 rfl rfl
set_option maxRecDepth 20000 in
theorem q_3_11 : Cond.static arraycopyName ∈ wsL_law := wq_1 44 rfl rfl
set_option maxRecDepth 20000 in
theorem q_3_12 : Cond.initialized "java/lang/System" ∈ wsL_law := wq_1 4 rfl rfl
set_option maxRecDepth 20000 in
theorem q_3_13 : Cond.methodLink RX6 50 yJ7_fill_53178 ∈ wsL_law := wq_1 40 rfl rfl
set_option maxRecDepth 20000 in
theorem q_3_14 : Cond.static yJ7_fill_53178 ∈ wsL_law := wq_1 41 rfl rfl
set_option maxRecDepth 20000 in
theorem q_3_15 : Cond.initialized RJ7 ∈ wsL_law := wq_1 3 rfl rfl
set_option maxRecDepth 20000 in
theorem q_3_16 : Cond.code yJ7_fill_53178 cJ7_fill_53178 4 none ∈ wsL_law := wq_1 42 rfl rfl
set_option maxRecDepth 20000 in
theorem q_3_17 : Cond.instanceMethod yX3_init ∈ wsL_law := wq_1 93 rfl rfl
set_option maxRecDepth 20000 in
theorem q_3_18 : Cond.code yX3_init cX3_init 1 none ∈ wsL_law := wq_1 94 rfl rfl
set_option maxRecDepth 20000 in
theorem q_3_19 : Cond.methodLink RX3 1 objectInit ∈ wsL_law := wq_1 95 rfl rfl
set_option maxRecDepth 20000 in
theorem q_3_20 : Cond.classLink RX3 7 RX5 ∈ wsL_law := wq_1 96 rfl rfl
set_option maxRecDepth 20000 in
theorem q_3_21 : Cond.instantiable RX5 3 ∈ wsL_law := wq_1 97 rfl rfl
set_option maxRecDepth 20000 in
theorem q_3_22 : Cond.initialized RX5 ∈ wsL_law := wq_1 6 rfl rfl
set_option maxRecDepth 20000 in
theorem q_3_23 : Cond.fieldLink RX3 12 "SailCourses$Hand" "headings" "LSailCourses$Rows;" ∈ wsL_law := wq_1 112 rfl rfl
set_option maxRecDepth 20000 in
theorem q_4_0 : Cond.fieldLink RX3 18 "SailCourses$Hand" "seen" "LSailCourses$Rows;" ∈ wsL_law := wq_1 114 rfl rfl
set_option maxRecDepth 20000 in
theorem q_4_1 : Cond.fieldLink RX3 21 "SailCourses$Hand" "events" "LSailCourses$Rows;" ∈ wsL_law := wq_1 116 rfl rfl
set_option maxRecDepth 20000 in
theorem q_4_2 : Cond.fieldLink RX3 24 "SailCourses$Hand" "book" "LSailCourses$Rows;" ∈ wsL_law := wq_1 118 rfl rfl
set_option maxRecDepth 20000 in
theorem q_4_3 : Cond.methodLink RX3 9 yX5_init ∈ wsL_law := wq_1 98 rfl rfl
set_option maxRecDepth 20000 in
theorem q_4_4 : Cond.instanceMethod yX5_init ∈ wsL_law := wq_1 99 rfl rfl
set_option maxRecDepth 20000 in
theorem q_4_5 : Cond.code yX5_init cX5_init 2 none ∈ wsL_law := wq_1 100 rfl rfl
set_option maxRecDepth 20000 in
theorem q_4_6 : Cond.methodLink RX5 3 objectInit ∈ wsL_law := wq_1 101 rfl rfl
set_option maxRecDepth 20000 in
theorem q_4_7 : Cond.fieldLink RX5 9 "SailCourses$Rows" "size" "I" ∈ wsL_law := wq_1 104 rfl rfl
set_option maxRecDepth 20000 in
theorem q_4_8 : Cond.fieldLink RX5 15 "SailCourses$Rows" "firsts" "[I" ∈ wsL_law := wq_1 102 rfl rfl
set_option maxRecDepth 20000 in
theorem q_4_9 : Cond.fieldLink RX5 19 "SailCourses$Rows" "seconds" "[I" ∈ wsL_law := wq_1 103 rfl rfl
set_option maxRecDepth 20000 in
theorem q_4_10 : Cond.methodLink RX10 27 yX1_init ∈ wsL_law := wq_1 131 rfl rfl
set_option maxRecDepth 20000 in
theorem q_4_11 : Cond.instanceMethod yX1_init ∈ wsL_law := wq_1 132 rfl rfl
set_option maxRecDepth 20000 in
theorem q_4_12 : Cond.code yX1_init cX1_init 2 none ∈ wsL_law := wq_1 133 rfl rfl
set_option maxRecDepth 20000 in
theorem q_4_13 : Cond.methodLink RX1 3 objectInit ∈ wsL_law := wq_1 134 rfl rfl
set_option maxRecDepth 20000 in
theorem q_4_14 : Cond.fieldLink RX1 11 "SailCourses$Chart" "least" "[I" ∈ wsL_law := wq_1 159 rfl rfl
set_option maxRecDepth 20000 in
theorem q_4_15 : Cond.fieldLink RX1 15 "SailCourses$Chart" "open" "[I" ∈ wsL_law := wq_1 160 rfl rfl
set_option maxRecDepth 20000 in
theorem q_4_16 : Cond.fieldLink RX1 18 "SailCourses$Chart" "openCount" "I" ∈ wsL_law := wq_1 161 rfl rfl
set_option maxRecDepth 20000 in
theorem q_4_17 : Cond.fieldLink RX1 22 "SailCourses$Chart" "lastLegs" "[I" ∈ wsL_law := wq_1 162 rfl rfl
set_option maxRecDepth 20000 in
theorem q_4_18 : Cond.fieldLink RX1 25 "SailCourses$Chart" "courseBack" "[I" ∈ wsL_law := wq_1 163 rfl rfl
set_option maxRecDepth 20000 in
theorem q_4_19 : Cond.fieldLink RX1 28 "SailCourses$Chart" "courseCount" "I" ∈ wsL_law := wq_1 164 rfl rfl
set_option maxRecDepth 20000 in
theorem q_4_20 : Cond.fieldLink RX1 31 "SailCourses$Chart" "version" "I" ∈ wsL_law := wq_1 165 rfl rfl
set_option maxRecDepth 20000 in
theorem q_4_21 : Cond.fieldLink RX1 34 "SailCourses$Chart" "sea" "LSailCourses$Sea;" ∈ wsL_law := wq_1 157 rfl rfl
set_option maxRecDepth 20000 in
theorem q_4_22 : Cond.classLink RX1 38 RX4 ∈ wsL_law := wq_1 135 rfl rfl
set_option maxRecDepth 20000 in
theorem q_4_23 : Cond.instantiable RX4 5 ∈ wsL_law := wq_1 136 rfl rfl
set_option maxRecDepth 20000 in
theorem q_5_0 : Cond.initialized RX4 ∈ wsL_law := wq_1 8 rfl rfl
set_option maxRecDepth 20000 in
theorem q_5_1 : Cond.fieldLink RX1 43 "SailCourses$Chart" "legs" "LSailCourses$Legs;" ∈ wsL_law := wq_1 158 rfl rfl
set_option maxRecDepth 20000 in
theorem q_5_2 : Cond.methodLink RX1 40 yX4_init ∈ wsL_law := wq_1 137 rfl rfl
set_option maxRecDepth 20000 in
theorem q_5_3 : Cond.instanceMethod yX4_init ∈ wsL_law := wq_1 138 rfl rfl
set_option maxRecDepth 20000 in
theorem q_5_4 : Cond.code yX4_init cX4_init 2 none ∈ wsL_law := wq_1 139 rfl rfl
set_option maxRecDepth 20000 in
theorem q_5_5 : Cond.methodLink RX4 3 objectInit ∈ wsL_law := wq_1 140 rfl rfl
set_option maxRecDepth 20000 in
theorem q_5_6 : Cond.fieldLink RX4 11 "SailCourses$Legs" "minutes" "[I" ∈ wsL_law := wq_1 142 rfl rfl
set_option maxRecDepth 20000 in
theorem q_5_7 : Cond.fieldLink RX4 15 "SailCourses$Legs" "becomes" "[I" ∈ wsL_law := wq_1 143 rfl rfl
set_option maxRecDepth 20000 in
theorem q_5_8 : Cond.fieldLink RX4 18 "SailCourses$Legs" "turningCost" "[I" ∈ wsL_law := wq_1 144 rfl rfl
set_option maxRecDepth 20000 in
theorem q_5_9 : Cond.fieldLink RX4 21 "SailCourses$Legs" "version" "I" ∈ wsL_law := wq_1 145 rfl rfl
set_option maxRecDepth 20000 in
theorem q_5_10 : Cond.fieldLink RX4 25 "SailCourses$Legs" "sea" "LSailCourses$Sea;" ∈ wsL_law := wq_1 141 rfl rfl
set_option maxRecDepth 20000 in
theorem q_5_11 : Cond.instanceMethod yX8_init ∈ wsL_law := wq_1 188 rfl rfl
set_option maxRecDepth 20000 in
theorem q_5_12 : Cond.code yX8_init cX8_init 1 none ∈ wsL_law := wq_1 189 rfl rfl
set_option maxRecDepth 20000 in
theorem q_5_13 : Cond.methodLink RX8 3 objectInit ∈ wsL_law := wq_1 190 rfl rfl
set_option maxRecDepth 20000 in
theorem q_5_14 : Cond.classLink RX8 9 RX6 ∈ wsL_law := wq_1 191 rfl rfl
set_option maxRecDepth 20000 in
theorem q_5_15 : Cond.fieldLink RX8 12 "SailCourses$Surmise" "tried" "LSailCourses$Sea;" ∈ wsL_law := wq_1 195 rfl rfl
set_option maxRecDepth 20000 in
theorem q_5_16 : Cond.classLink RX8 18 RX1 ∈ wsL_law := wq_1 193 rfl rfl
set_option maxRecDepth 20000 in
theorem q_5_17 : Cond.fieldLink RX8 23 "SailCourses$Surmise" "triedChart" "LSailCourses$Chart;" ∈ wsL_law := wq_1 196 rfl rfl
set_option maxRecDepth 20000 in
theorem q_5_18 : Cond.fieldLink RX8 27 "SailCourses$Surmise" "leastByFrom" "[I" ∈ wsL_law := wq_1 197 rfl rfl
set_option maxRecDepth 20000 in
theorem q_5_19 : Cond.fieldLink RX8 31 "SailCourses$Surmise" "zone" "I" ∈ wsL_law := wq_1 198 rfl rfl
set_option maxRecDepth 20000 in
theorem q_5_20 : Cond.fieldLink RX8 35 "SailCourses$Surmise" "span" "I" ∈ wsL_law := wq_1 199 rfl rfl
set_option maxRecDepth 20000 in
theorem q_5_21 : Cond.fieldLink RX8 38 "SailCourses$Surmise" "version" "I" ∈ wsL_law := wq_1 200 rfl rfl
set_option maxRecDepth 20000 in
theorem q_5_22 : Cond.methodLink RX8 11 yX6_init ∈ wsL_law := wq_1 192 rfl rfl
set_option maxRecDepth 20000 in
theorem q_5_23 : Cond.methodLink RX8 20 yX1_init ∈ wsL_law := wq_1 194 rfl rfl
set_option maxRecDepth 20000 in
theorem q_6_0 : Cond.instanceMethod yX7_init ∈ wsL_law := wq_1 217 rfl rfl
set_option maxRecDepth 20000 in
theorem q_6_1 : Cond.code yX7_init cX7_init 1 none ∈ wsL_law := wq_1 218 rfl rfl
set_option maxRecDepth 20000 in
theorem q_6_2 : Cond.methodLink RX7 3 objectInit ∈ wsL_law := wq_1 219 rfl rfl
set_option maxRecDepth 20000 in
theorem q_6_3 : Cond.fieldLink RX7 11 "SailCourses$SetUp" "signs" "[I" ∈ wsL_law := wq_1 220 rfl rfl
set_option maxRecDepth 20000 in
theorem q_6_4 : Cond.fieldLink RX7 15 "SailCourses$SetUp" "length" "I" ∈ wsL_law := wq_1 221 rfl rfl
set_option maxRecDepth 20000 in
theorem q_6_5 : Cond.fieldLink RX7 19 "SailCourses$SetUp" "kinds" "[I" ∈ wsL_law := wq_1 222 rfl rfl
set_option maxRecDepth 20000 in
theorem q_6_6 : Cond.fieldLink RX7 22 "SailCourses$SetUp" "numbers" "[I" ∈ wsL_law := wq_1 223 rfl rfl
set_option maxRecDepth 20000 in
theorem q_6_7 : Cond.fieldLink RX7 25 "SailCourses$SetUp" "clauses" "I" ∈ wsL_law := wq_1 224 rfl rfl
set_option maxRecDepth 20000 in
theorem q_6_8 : Cond.fieldLink RX7 28 "SailCourses$SetUp" "numbersHere" "I" ∈ wsL_law := wq_1 225 rfl rfl
set_option maxRecDepth 20000 in
theorem q_6_9 : Cond.fieldLink RX7 31 "SailCourses$SetUp" "at" "I" ∈ wsL_law := wq_1 226 rfl rfl
set_option maxRecDepth 20000 in
theorem q_6_10 : Cond.instanceMethod yX9_init ∈ wsL_law := wq_2 6 rfl rfl
set_option maxRecDepth 20000 in
theorem q_6_11 : Cond.code yX9_init cX9_init 1 none ∈ wsL_law := wq_2 7 rfl rfl
set_option maxRecDepth 20000 in
theorem q_6_12 : Cond.methodLink RX9 3 objectInit ∈ wsL_law := wq_2 8 rfl rfl
set_option maxRecDepth 20000 in
theorem q_6_13 : Cond.arrayClass .long ∈ wsL_law := wq_2 19 rfl rfl
set_option maxRecDepth 20000 in
theorem q_6_14 : Cond.fieldLink RX9 11 "SailCourses$Tape" "items" "[J" ∈ wsL_law := wq_2 9 rfl rfl
set_option maxRecDepth 20000 in
theorem q_6_15 : Cond.fieldLink RX9 15 "SailCourses$Tape" "sort" "I" ∈ wsL_law := wq_2 10 rfl rfl
set_option maxRecDepth 20000 in
theorem q_6_16 : Cond.fieldLink RX9 19 "SailCourses$Tape" "length" "I" ∈ wsL_law := wq_2 11 rfl rfl
set_option maxRecDepth 20000 in
theorem q_6_17 : Cond.methodLink RL 12 yX11_init ∈ wsL_law := wq_4 236 rfl rfl
set_option maxRecDepth 20000 in
theorem q_6_18 : Cond.instanceMethod yX11_init ∈ wsL_law := wq_4 237 rfl rfl
set_option maxRecDepth 20000 in
theorem q_6_19 : Cond.code yX11_init cX11_init 1 none ∈ wsL_law := wq_4 238 rfl rfl
set_option maxRecDepth 20000 in
theorem q_6_20 : Cond.methodLink RX11 3 objectInit ∈ wsL_law := wq_4 239 rfl rfl
set_option maxRecDepth 20000 in
theorem q_6_21 : Cond.fieldLink RX11 9 "SailCoursesModel" "land" "[I" ∈ wsL_law := wq_5 0 rfl rfl
set_option maxRecDepth 20000 in
theorem q_6_22 : Cond.fieldLink RX11 15 "SailCoursesModel" "from" "[I" ∈ wsL_law := wq_5 1 rfl rfl
set_option maxRecDepth 20000 in
theorem q_6_23 : Cond.fieldLink RX11 18 "SailCoursesModel" "force" "[I" ∈ wsL_law := wq_5 2 rfl rfl
set_option maxRecDepth 20000 in
theorem q_7_0 : Cond.fieldLink RX11 21 "SailCoursesModel" "table" "[I" ∈ wsL_law := wq_5 3 rfl rfl
set_option maxRecDepth 20000 in
theorem q_7_1 : Cond.fieldLink RX11 24 "SailCoursesModel" "to" "[I" ∈ wsL_law := wq_5 4 rfl rfl
set_option maxRecDepth 20000 in
theorem q_7_2 : Cond.fieldLink RX11 27 "SailCoursesModel" "rate" "[I" ∈ wsL_law := wq_5 5 rfl rfl
set_option maxRecDepth 20000 in
theorem q_7_3 : Cond.fieldLink RX11 30 "SailCoursesModel" "loss" "[I" ∈ wsL_law := wq_5 6 rfl rfl
set_option maxRecDepth 20000 in
theorem q_7_4 : Cond.fieldLink RX11 33 "SailCoursesModel" "steer" "[I" ∈ wsL_law := wq_5 11 rfl rfl
set_option maxRecDepth 20000 in
theorem q_7_5 : Cond.fieldLink RX11 36 "SailCoursesModel" "seenSquare" "[I" ∈ wsL_law := wq_5 13 rfl rfl
set_option maxRecDepth 20000 in
theorem q_7_6 : Cond.fieldLink RX11 39 "SailCoursesModel" "seenMinute" "[I" ∈ wsL_law := wq_5 14 rfl rfl
set_option maxRecDepth 20000 in
theorem q_7_7 : Cond.fieldLink RX11 42 "SailCoursesModel" "eventWhat" "[I" ∈ wsL_law := wq_5 16 rfl rfl
set_option maxRecDepth 20000 in
theorem q_7_8 : Cond.fieldLink RX11 45 "SailCoursesModel" "eventZone" "[I" ∈ wsL_law := wq_5 17 rfl rfl
set_option maxRecDepth 20000 in
theorem q_7_9 : Cond.fieldLink RX11 48 "SailCoursesModel" "rowSquare" "[I" ∈ wsL_law := wq_5 19 rfl rfl
set_option maxRecDepth 20000 in
theorem q_7_10 : Cond.fieldLink RX11 51 "SailCoursesModel" "rowMinute" "[I" ∈ wsL_law := wq_5 20 rfl rfl
set_option maxRecDepth 20000 in
theorem q_7_11 : Cond.fieldLink RX11 54 "SailCoursesModel" "imaged" "[I" ∈ wsL_law := wq_5 21 rfl rfl
set_option maxRecDepth 20000 in
theorem q_7_12 : Cond.fieldLink RX11 57 "SailCoursesModel" "before" "[I" ∈ wsL_law := wq_5 22 rfl rfl
set_option maxRecDepth 20000 in
theorem q_7_13 : Cond.fieldLink RX11 60 "SailCoursesModel" "text" "[I" ∈ wsL_law := wq_5 24 rfl rfl
set_option maxRecDepth 20000 in
theorem q_7_14 : Cond.fieldLink RX11 63 "SailCoursesModel" "number" "[I" ∈ wsL_law := wq_5 27 rfl rfl
set_option maxRecDepth 20000 in
theorem q_7_15 : Cond.fieldLink RX11 66 "SailCoursesModel" "least" "[I" ∈ wsL_law := wq_5 33 rfl rfl
set_option maxRecDepth 20000 in
theorem q_7_16 : Cond.fieldLink RX11 69 "SailCoursesModel" "headings" "[I" ∈ wsL_law := wq_5 34 rfl rfl
set_option maxRecDepth 20000 in
theorem q_7_17 : Cond.fieldLink RX11 72 "SailCoursesModel" "sort" "[I" ∈ wsL_law := wq_5 36 rfl rfl
set_option maxRecDepth 20000 in
theorem q_7_18 : Cond.fieldLink RX11 75 "SailCoursesModel" "size" "[I" ∈ wsL_law := wq_5 37 rfl rfl
set_option maxRecDepth 20000 in
theorem q_7_19 : Cond.fieldLink RX11 78 "SailCoursesModel" "item" "[J" ∈ wsL_law := wq_5 38 rfl rfl
set_option maxRecDepth 20000 in
theorem q_7_20 : Cond.fieldLink RX11 82 "SailCoursesModel" "between" "[J" ∈ wsL_law := wq_5 39 rfl rfl
set_option maxRecDepth 20000 in
theorem q_7_21 : Cond.methodLink RL 13 yX10_wind ∈ wsL_law := wq_2 48 rfl rfl
set_option maxRecDepth 20000 in
theorem q_7_22 : Cond.instanceMethod yX10_wind ∈ wsL_law := wq_2 49 rfl rfl
set_option maxRecDepth 20000 in
theorem q_7_23 : Cond.selects RX10 yX10_wind yX10_wind ∈ wsL_law := wq_2 50 rfl rfl
set_option maxRecDepth 20000 in
theorem q_8_0 : Cond.code yX10_wind cX10_wind 6 (some .int) ∈ wsL_law := wq_2 51 rfl rfl
set_option maxRecDepth 20000 in
theorem q_8_1 : Cond.methodLink RX10 65 yX10_below ∈ wsL_law := wq_2 52 rfl rfl
set_option maxRecDepth 20000 in
theorem q_8_2 : Cond.static yX10_below ∈ wsL_law := wq_2 53 rfl rfl
set_option maxRecDepth 20000 in
theorem q_8_3 : Cond.code yX10_below cX10_below 2 (some .boolean) ∈ wsL_law := wq_2 54 rfl rfl
set_option maxRecDepth 20000 in
theorem q_8_4 : Cond.methodLink RX10 69 yX6_fromIn ∈ wsL_law := wq_2 55 rfl rfl
set_option maxRecDepth 20000 in
theorem q_8_5 : Cond.instanceMethod yX6_fromIn ∈ wsL_law := wq_2 56 rfl rfl
set_option maxRecDepth 20000 in
theorem q_8_6 : Cond.selects RX6 yX6_fromIn yX6_fromIn ∈ wsL_law := wq_2 57 rfl rfl
set_option maxRecDepth 20000 in
theorem q_8_7 : Cond.code yX6_fromIn cX6_fromIn 3 (some .int) ∈ wsL_law := wq_2 58 rfl rfl
set_option maxRecDepth 20000 in
theorem q_8_8 : Cond.methodLink RX10 73 yX6_forceIn ∈ wsL_law := wq_2 59 rfl rfl
set_option maxRecDepth 20000 in
theorem q_8_9 : Cond.instanceMethod yX6_forceIn ∈ wsL_law := wq_2 60 rfl rfl
set_option maxRecDepth 20000 in
theorem q_8_10 : Cond.selects RX6 yX6_forceIn yX6_forceIn ∈ wsL_law := wq_2 61 rfl rfl
set_option maxRecDepth 20000 in
theorem q_8_11 : Cond.code yX6_forceIn cX6_forceIn 3 (some .int) ∈ wsL_law := wq_2 62 rfl rfl
set_option maxRecDepth 20000 in
theorem q_8_12 : Cond.methodLink RX10 76 yX6_putWind ∈ wsL_law := wq_2 63 rfl rfl
set_option maxRecDepth 20000 in
theorem q_8_13 : Cond.instanceMethod yX6_putWind ∈ wsL_law := wq_2 64 rfl rfl
set_option maxRecDepth 20000 in
theorem q_8_14 : Cond.selects RX6 yX6_putWind yX6_putWind ∈ wsL_law := wq_2 65 rfl rfl
set_option maxRecDepth 20000 in
theorem q_8_15 : Cond.code yX6_putWind cX6_putWind 5 none ∈ wsL_law := wq_2 66 rfl rfl
set_option maxRecDepth 20000 in
theorem q_8_16 : Cond.methodLink RL 17 yX11_wind ∈ wsL_law := wq_5 121 rfl rfl
set_option maxRecDepth 20000 in
theorem q_8_17 : Cond.instanceMethod yX11_wind ∈ wsL_law := wq_5 122 rfl rfl
set_option maxRecDepth 20000 in
theorem q_8_18 : Cond.selects RX11 yX11_wind yX11_wind ∈ wsL_law := wq_5 123 rfl rfl
set_option maxRecDepth 20000 in
theorem q_8_19 : Cond.code yX11_wind cX11_wind 7 (some .int) ∈ wsL_law := wq_5 124 rfl rfl
set_option maxRecDepth 20000 in
theorem q_8_20 : Cond.methodLink RX11 95 yX11_isZone ∈ wsL_law := wq_5 125 rfl rfl
set_option maxRecDepth 20000 in
theorem q_8_21 : Cond.static yX11_isZone ∈ wsL_law := wq_5 126 rfl rfl
set_option maxRecDepth 20000 in
theorem q_8_22 : Cond.code yX11_isZone cX11_isZone 1 (some .boolean) ∈ wsL_law := wq_5 127 rfl rfl
set_option maxRecDepth 20000 in
theorem q_8_23 : Cond.methodLink RX11 85 yX11_in ∈ wsL_law := wq_5 128 rfl rfl
set_option maxRecDepth 20000 in
theorem q_9_0 : Cond.static yX11_in ∈ wsL_law := wq_5 129 rfl rfl
set_option maxRecDepth 20000 in
theorem q_9_1 : Cond.code yX11_in cX11_in 3 (some .boolean) ∈ wsL_law := wq_5 130 rfl rfl
set_option maxRecDepth 20000 in
theorem q_9_2 : Cond.methodLink RX11 99 yX11_isSpan ∈ wsL_law := wq_5 131 rfl rfl
set_option maxRecDepth 20000 in
theorem q_9_3 : Cond.static yX11_isSpan ∈ wsL_law := wq_5 132 rfl rfl
set_option maxRecDepth 20000 in
theorem q_9_4 : Cond.code yX11_isSpan cX11_isSpan 1 (some .boolean) ∈ wsL_law := wq_5 133 rfl rfl
set_option maxRecDepth 20000 in
theorem q_9_5 : Cond.methodLink RX11 102 yX11_isHeading ∈ wsL_law := wq_5 134 rfl rfl
set_option maxRecDepth 20000 in
theorem q_9_6 : Cond.static yX11_isHeading ∈ wsL_law := wq_5 135 rfl rfl
set_option maxRecDepth 20000 in
theorem q_9_7 : Cond.code yX11_isHeading cX11_isHeading 1 (some .boolean) ∈ wsL_law := wq_5 136 rfl rfl
set_option maxRecDepth 20000 in
theorem q_9_8 : Cond.methodLink RX11 105 yX11_isForce ∈ wsL_law := wq_5 137 rfl rfl
set_option maxRecDepth 20000 in
theorem q_9_9 : Cond.static yX11_isForce ∈ wsL_law := wq_5 138 rfl rfl
set_option maxRecDepth 20000 in
theorem q_9_10 : Cond.code yX11_isForce cX11_isForce 1 (some .boolean) ∈ wsL_law := wq_5 139 rfl rfl
set_option maxRecDepth 20000 in
theorem q_9_11 : Cond.methodLink RL 18 yX10_current ∈ wsL_law := wq_2 67 rfl rfl
set_option maxRecDepth 20000 in
theorem q_9_12 : Cond.instanceMethod yX10_current ∈ wsL_law := wq_2 68 rfl rfl
set_option maxRecDepth 20000 in
theorem q_9_13 : Cond.selects RX10 yX10_current yX10_current ∈ wsL_law := wq_2 69 rfl rfl
set_option maxRecDepth 20000 in
theorem q_9_14 : Cond.code yX10_current cX10_current 5 (some .int) ∈ wsL_law := wq_2 70 rfl rfl
set_option maxRecDepth 20000 in
theorem q_9_15 : Cond.methodLink RX10 80 yX6_toIn ∈ wsL_law := wq_2 71 rfl rfl
set_option maxRecDepth 20000 in
theorem q_9_16 : Cond.instanceMethod yX6_toIn ∈ wsL_law := wq_2 72 rfl rfl
set_option maxRecDepth 20000 in
theorem q_9_17 : Cond.selects RX6 yX6_toIn yX6_toIn ∈ wsL_law := wq_2 73 rfl rfl
set_option maxRecDepth 20000 in
theorem q_9_18 : Cond.code yX6_toIn cX6_toIn 2 (some .int) ∈ wsL_law := wq_2 74 rfl rfl
set_option maxRecDepth 20000 in
theorem q_9_19 : Cond.methodLink RX10 84 yX6_rateIn ∈ wsL_law := wq_2 75 rfl rfl
set_option maxRecDepth 20000 in
theorem q_9_20 : Cond.instanceMethod yX6_rateIn ∈ wsL_law := wq_2 76 rfl rfl
set_option maxRecDepth 20000 in
theorem q_9_21 : Cond.selects RX6 yX6_rateIn yX6_rateIn ∈ wsL_law := wq_2 77 rfl rfl
set_option maxRecDepth 20000 in
theorem q_9_22 : Cond.code yX6_rateIn cX6_rateIn 2 (some .int) ∈ wsL_law := wq_2 78 rfl rfl
set_option maxRecDepth 20000 in
theorem q_9_23 : Cond.methodLink RX10 87 yX6_putCurrent ∈ wsL_law := wq_2 79 rfl rfl
set_option maxRecDepth 20000 in
theorem q_10_0 : Cond.instanceMethod yX6_putCurrent ∈ wsL_law := wq_2 80 rfl rfl
set_option maxRecDepth 20000 in
theorem q_10_1 : Cond.selects RX6 yX6_putCurrent yX6_putCurrent ∈ wsL_law := wq_2 81 rfl rfl
set_option maxRecDepth 20000 in
theorem q_10_2 : Cond.code yX6_putCurrent cX6_putCurrent 4 none ∈ wsL_law := wq_2 82 rfl rfl
set_option maxRecDepth 20000 in
theorem q_10_3 : Cond.methodLink RL 22 yX11_current ∈ wsL_law := wq_5 140 rfl rfl
set_option maxRecDepth 20000 in
theorem q_10_4 : Cond.instanceMethod yX11_current ∈ wsL_law := wq_5 141 rfl rfl
set_option maxRecDepth 20000 in
theorem q_10_5 : Cond.selects RX11 yX11_current yX11_current ∈ wsL_law := wq_5 142 rfl rfl
set_option maxRecDepth 20000 in
theorem q_10_6 : Cond.code yX11_current cX11_current 5 (some .int) ∈ wsL_law := wq_5 143 rfl rfl
set_option maxRecDepth 20000 in
theorem q_10_7 : Cond.methodLink RL 23 yX10_table ∈ wsL_law := wq_2 83 rfl rfl
set_option maxRecDepth 20000 in
theorem q_10_8 : Cond.instanceMethod yX10_table ∈ wsL_law := wq_2 84 rfl rfl
set_option maxRecDepth 20000 in
theorem q_10_9 : Cond.selects RX10 yX10_table yX10_table ∈ wsL_law := wq_2 85 rfl rfl
set_option maxRecDepth 20000 in
theorem q_10_10 : Cond.code yX10_table cX10_table 5 (some .int) ∈ wsL_law := wq_2 86 rfl rfl
set_option maxRecDepth 20000 in
theorem q_10_11 : Cond.methodLink RX10 91 yX6_speedBy ∈ wsL_law := wq_2 87 rfl rfl
set_option maxRecDepth 20000 in
theorem q_10_12 : Cond.instanceMethod yX6_speedBy ∈ wsL_law := wq_2 88 rfl rfl
set_option maxRecDepth 20000 in
theorem q_10_13 : Cond.selects RX6 yX6_speedBy yX6_speedBy ∈ wsL_law := wq_2 89 rfl rfl
set_option maxRecDepth 20000 in
theorem q_10_14 : Cond.code yX6_speedBy cX6_speedBy 3 (some .int) ∈ wsL_law := wq_2 90 rfl rfl
set_option maxRecDepth 20000 in
theorem q_10_15 : Cond.methodLink RX10 94 yX6_putSpeed ∈ wsL_law := wq_2 91 rfl rfl
set_option maxRecDepth 20000 in
theorem q_10_16 : Cond.instanceMethod yX6_putSpeed ∈ wsL_law := wq_2 92 rfl rfl
set_option maxRecDepth 20000 in
theorem q_10_17 : Cond.selects RX6 yX6_putSpeed yX6_putSpeed ∈ wsL_law := wq_2 93 rfl rfl
set_option maxRecDepth 20000 in
theorem q_10_18 : Cond.code yX6_putSpeed cX6_putSpeed 4 none ∈ wsL_law := wq_2 94 rfl rfl
set_option maxRecDepth 20000 in
theorem q_10_19 : Cond.methodLink RL 26 yX11_table ∈ wsL_law := wq_5 144 rfl rfl
set_option maxRecDepth 20000 in
theorem q_10_20 : Cond.instanceMethod yX11_table ∈ wsL_law := wq_5 145 rfl rfl
set_option maxRecDepth 20000 in
theorem q_10_21 : Cond.selects RX11 yX11_table yX11_table ∈ wsL_law := wq_5 146 rfl rfl
set_option maxRecDepth 20000 in
theorem q_10_22 : Cond.code yX11_table cX11_table 5 (some .int) ∈ wsL_law := wq_5 147 rfl rfl
set_option maxRecDepth 20000 in
theorem q_10_23 : Cond.methodLink RX11 108 yX11_isEntry ∈ wsL_law := wq_5 148 rfl rfl
set_option maxRecDepth 20000 in
theorem q_11_0 : Cond.static yX11_isEntry ∈ wsL_law := wq_5 149 rfl rfl
set_option maxRecDepth 20000 in
theorem q_11_1 : Cond.code yX11_isEntry cX11_isEntry 2 (some .boolean) ∈ wsL_law := wq_5 150 rfl rfl
set_option maxRecDepth 20000 in
theorem q_11_2 : Cond.methodLink RL 27 yX10_land ∈ wsL_law := wq_2 95 rfl rfl
set_option maxRecDepth 20000 in
theorem q_11_3 : Cond.instanceMethod yX10_land ∈ wsL_law := wq_2 96 rfl rfl
set_option maxRecDepth 20000 in
theorem q_11_4 : Cond.selects RX10 yX10_land yX10_land ∈ wsL_law := wq_2 97 rfl rfl
set_option maxRecDepth 20000 in
theorem q_11_5 : Cond.code yX10_land cX10_land 4 (some .int) ∈ wsL_law := wq_2 98 rfl rfl
set_option maxRecDepth 20000 in
theorem q_11_6 : Cond.fieldLink RX10 97 "SailCourses$Sea" "startSquare" "I" ∈ wsL_law := wq_1 55 rfl rfl
set_option maxRecDepth 20000 in
theorem q_11_7 : Cond.methodLink RX10 101 yX6_isLand ∈ wsL_law := wq_2 99 rfl rfl
set_option maxRecDepth 20000 in
theorem q_11_8 : Cond.instanceMethod yX6_isLand ∈ wsL_law := wq_2 100 rfl rfl
set_option maxRecDepth 20000 in
theorem q_11_9 : Cond.selects RX6 yX6_isLand yX6_isLand ∈ wsL_law := wq_2 101 rfl rfl
set_option maxRecDepth 20000 in
theorem q_11_10 : Cond.code yX6_isLand cX6_isLand 2 (some .boolean) ∈ wsL_law := wq_2 102 rfl rfl
set_option maxRecDepth 20000 in
theorem q_11_11 : Cond.methodLink RX10 105 yX6_putLand ∈ wsL_law := wq_2 103 rfl rfl
set_option maxRecDepth 20000 in
theorem q_11_12 : Cond.instanceMethod yX6_putLand ∈ wsL_law := wq_2 104 rfl rfl
set_option maxRecDepth 20000 in
theorem q_11_13 : Cond.selects RX6 yX6_putLand yX6_putLand ∈ wsL_law := wq_2 105 rfl rfl
set_option maxRecDepth 20000 in
theorem q_11_14 : Cond.code yX6_putLand cX6_putLand 5 none ∈ wsL_law := wq_2 106 rfl rfl
set_option maxRecDepth 20000 in
theorem q_11_15 : Cond.constantLong RX6 68 (-1) ∈ wsL_law := wq_2 107 rfl rfl
set_option maxRecDepth 20000 in
theorem q_11_16 : Cond.methodLink RL 31 yX11_land ∈ wsL_law := wq_5 151 rfl rfl
set_option maxRecDepth 20000 in
theorem q_11_17 : Cond.instanceMethod yX11_land ∈ wsL_law := wq_5 152 rfl rfl
set_option maxRecDepth 20000 in
theorem q_11_18 : Cond.selects RX11 yX11_land yX11_land ∈ wsL_law := wq_5 153 rfl rfl
set_option maxRecDepth 20000 in
theorem q_11_19 : Cond.code yX11_land cX11_land 4 (some .int) ∈ wsL_law := wq_5 154 rfl rfl
set_option maxRecDepth 20000 in
theorem q_11_20 : Cond.fieldLink RX11 115 "SailCoursesModel" "startSquare" "I" ∈ wsL_law := wq_5 7 rfl rfl
set_option maxRecDepth 20000 in
theorem q_11_21 : Cond.methodLink RX11 112 yX11_isSquare ∈ wsL_law := wq_5 155 rfl rfl
set_option maxRecDepth 20000 in
theorem q_11_22 : Cond.static yX11_isSquare ∈ wsL_law := wq_5 156 rfl rfl
set_option maxRecDepth 20000 in
theorem q_11_23 : Cond.code yX11_isSquare cX11_isSquare 1 (some .boolean) ∈ wsL_law := wq_5 157 rfl rfl
set_option maxRecDepth 20000 in
theorem q_12_0 : Cond.methodLink RL 32 yX10_start ∈ wsL_law := wq_2 108 rfl rfl
set_option maxRecDepth 20000 in
theorem q_12_1 : Cond.instanceMethod yX10_start ∈ wsL_law := wq_2 109 rfl rfl
set_option maxRecDepth 20000 in
theorem q_12_2 : Cond.selects RX10 yX10_start yX10_start ∈ wsL_law := wq_2 110 rfl rfl
set_option maxRecDepth 20000 in
theorem q_12_3 : Cond.code yX10_start cX10_start 5 (some .int) ∈ wsL_law := wq_2 111 rfl rfl
set_option maxRecDepth 20000 in
theorem q_12_4 : Cond.methodLink RX10 109 yX10_refusalOfStart ∈ wsL_law := wq_2 112 rfl rfl
set_option maxRecDepth 20000 in
theorem q_12_5 : Cond.instanceMethod yX10_refusalOfStart ∈ wsL_law := wq_2 114 rfl rfl
set_option maxRecDepth 20000 in
theorem q_12_6 : Cond.selects RX10 yX10_refusalOfStart yX10_refusalOfStart ∈ wsL_law := wp_1 0 rfl
set_option maxRecDepth 20000 in
theorem q_12_7 : Cond.code yX10_refusalOfStart cX10_refusalOfStart 4 (some .int) ∈ wsL_law := wq_2 115 rfl rfl
set_option maxRecDepth 20000 in
theorem q_12_8 : Cond.methodLink RX10 113 yX6_putStart ∈ wsL_law := wq_2 116 rfl rfl
set_option maxRecDepth 20000 in
theorem q_12_9 : Cond.instanceMethod yX6_putStart ∈ wsL_law := wq_2 117 rfl rfl
set_option maxRecDepth 20000 in
theorem q_12_10 : Cond.selects RX6 yX6_putStart yX6_putStart ∈ wsL_law := wq_2 118 rfl rfl
set_option maxRecDepth 20000 in
theorem q_12_11 : Cond.code yX6_putStart cX6_putStart 4 none ∈ wsL_law := wq_2 119 rfl rfl
set_option maxRecDepth 20000 in
theorem q_12_12 : Cond.methodLink RX10 116 yX10_freshChart ∈ wsL_law := wq_2 120 rfl rfl
set_option maxRecDepth 20000 in
theorem q_12_13 : Cond.instanceMethod yX10_freshChart ∈ wsL_law := wq_2 122 rfl rfl
set_option maxRecDepth 20000 in
theorem q_12_14 : Cond.selects RX10 yX10_freshChart yX10_freshChart ∈ wsL_law := wp_1 1 rfl
set_option maxRecDepth 20000 in
theorem q_12_15 : Cond.code yX10_freshChart cX10_freshChart 1 (some (.object "SailCourses$Chart")) ∈ wsL_law := wq_2 123 rfl rfl
set_option maxRecDepth 20000 in
theorem q_12_16 : Cond.methodLink RX10 322 yX1_freshen ∈ wsL_law := wq_2 124 rfl rfl
set_option maxRecDepth 20000 in
theorem q_12_17 : Cond.instanceMethod yX1_freshen ∈ wsL_law := wq_2 125 rfl rfl
set_option maxRecDepth 20000 in
theorem q_12_18 : Cond.selects RX1 yX1_freshen yX1_freshen ∈ wsL_law := wq_2 126 rfl rfl
set_option maxRecDepth 20000 in
theorem q_12_19 : Cond.code yX1_freshen cX1_freshen 1 none ∈ wsL_law := wq_2 127 rfl rfl
set_option maxRecDepth 20000 in
theorem q_12_20 : Cond.fieldLink RX1 50 "SailCourses$Sea" "version" "I" ∈ wsL_law := wq_1 65 rfl rfl
set_option maxRecDepth 20000 in
theorem q_12_21 : Cond.constant RX1 53 (1000000000) ∈ wsL_law := wq_2 163 rfl rfl
set_option maxRecDepth 20000 in
theorem q_12_22 : Cond.fieldLink RX1 64 "SailCourses$Sea" "startMinute" "I" ∈ wsL_law := wq_1 60 rfl rfl
set_option maxRecDepth 20000 in
theorem q_12_23 : Cond.methodLink RX1 47 yX4_freshen ∈ wsL_law := wq_2 128 rfl rfl
set_option maxRecDepth 20000 in
theorem q_13_0 : Cond.instanceMethod yX4_freshen ∈ wsL_law := wq_2 129 rfl rfl
set_option maxRecDepth 20000 in
theorem q_13_1 : Cond.selects RX4 yX4_freshen yX4_freshen ∈ wsL_law := wq_2 130 rfl rfl
set_option maxRecDepth 20000 in
theorem q_13_2 : Cond.code yX4_freshen cX4_freshen 2 none ∈ wsL_law := wq_2 131 rfl rfl
set_option maxRecDepth 20000 in
theorem q_13_3 : Cond.fieldLink RX4 29 "SailCourses$Sea" "version" "I" ∈ wsL_law := wq_1 63 rfl rfl
set_option maxRecDepth 20000 in
theorem q_13_4 : Cond.methodLink RX4 32 yX4_workOut ∈ wsL_law := wq_2 132 rfl rfl
set_option maxRecDepth 20000 in
theorem q_13_5 : Cond.instanceMethod yX4_workOut ∈ wsL_law := wq_2 134 rfl rfl
set_option maxRecDepth 20000 in
theorem q_13_6 : Cond.selects RX4 yX4_workOut yX4_workOut ∈ wsL_law := wp_1 2 rfl
set_option maxRecDepth 20000 in
theorem q_13_7 : Cond.code yX4_workOut cX4_workOut 8 none ∈ wsL_law := wq_2 135 rfl rfl
set_option maxRecDepth 20000 in
theorem q_13_8 : Cond.methodLink RX4 36 yX6_fromIn ∈ wsL_law := wq_2 136 rfl rfl
set_option maxRecDepth 20000 in
theorem q_13_9 : Cond.methodLink RX4 40 yX6_paceBy ∈ wsL_law := wq_2 137 rfl rfl
set_option maxRecDepth 20000 in
theorem q_13_10 : Cond.instanceMethod yX6_paceBy ∈ wsL_law := wq_2 138 rfl rfl
set_option maxRecDepth 20000 in
theorem q_13_11 : Cond.selects RX6 yX6_paceBy yX6_paceBy ∈ wsL_law := wq_2 139 rfl rfl
set_option maxRecDepth 20000 in
theorem q_13_12 : Cond.code yX6_paceBy cX6_paceBy 6 (some .int) ∈ wsL_law := wq_2 140 rfl rfl
set_option maxRecDepth 20000 in
theorem q_13_13 : Cond.methodLink RX6 95 Lib.Math.max.name ∈ wsL_law := wq_2 152 rfl rfl
set_option maxRecDepth 20000 in
theorem q_13_14 : Cond.static Lib.Math.max.name ∈ wsL_law := wq_2 153 rfl rfl
set_option maxRecDepth 20000 in
theorem q_13_15 : Cond.initialized "java/lang/Math" ∈ wsL_law := wq_1 14 rfl rfl
set_option maxRecDepth 20000 in
theorem q_13_16 : Cond.code Lib.Math.max.name Lib.Math.max.code 2 (some .int) ∈ wsL_law := wq_2 154 rfl rfl
set_option maxRecDepth 20000 in
theorem q_13_17 : Cond.methodLink RX6 70 yX6_fromIn ∈ wsL_law := wq_2 141 rfl rfl
set_option maxRecDepth 20000 in
theorem q_13_18 : Cond.methodLink RX6 74 yX2_turnBetween ∈ wsL_law := wq_2 142 rfl rfl
set_option maxRecDepth 20000 in
theorem q_13_19 : Cond.static yX2_turnBetween ∈ wsL_law := wq_2 143 rfl rfl
set_option maxRecDepth 20000 in
theorem q_13_20 : Cond.initialized RX2 ∈ wsL_law := wq_1 13 rfl rfl
set_option maxRecDepth 20000 in
theorem q_13_21 : Cond.code yX2_turnBetween cX2_turnBetween 3 (some .int) ∈ wsL_law := wq_2 144 rfl rfl
set_option maxRecDepth 20000 in
theorem q_13_22 : Cond.methodLink RX6 79 yX6_rateIn ∈ wsL_law := wq_2 145 rfl rfl
set_option maxRecDepth 20000 in
theorem q_13_23 : Cond.methodLink RX6 83 yX6_toIn ∈ wsL_law := wq_2 146 rfl rfl
set_option maxRecDepth 20000 in
theorem q_14_0 : Cond.methodLink RX6 86 yX6_driftBy ∈ wsL_law := wq_2 147 rfl rfl
set_option maxRecDepth 20000 in
theorem q_14_1 : Cond.static yX6_driftBy ∈ wsL_law := wq_2 148 rfl rfl
set_option maxRecDepth 20000 in
theorem q_14_2 : Cond.code yX6_driftBy cX6_driftBy 2 (some .int) ∈ wsL_law := wq_2 149 rfl rfl
set_option maxRecDepth 20000 in
theorem q_14_3 : Cond.methodLink RX6 89 yX6_forceIn ∈ wsL_law := wq_2 150 rfl rfl
set_option maxRecDepth 20000 in
theorem q_14_4 : Cond.methodLink RX6 92 yX6_speedBy ∈ wsL_law := wq_2 151 rfl rfl
set_option maxRecDepth 20000 in
theorem q_14_5 : Cond.methodLink RX4 44 yX2_lengthOf ∈ wsL_law := wq_2 155 rfl rfl
set_option maxRecDepth 20000 in
theorem q_14_6 : Cond.static yX2_lengthOf ∈ wsL_law := wq_2 156 rfl rfl
set_option maxRecDepth 20000 in
theorem q_14_7 : Cond.code yX2_lengthOf cX2_lengthOf 1 (some .int) ∈ wsL_law := wq_2 157 rfl rfl
set_option maxRecDepth 20000 in
theorem q_14_8 : Cond.methodLink RX4 50 yX2_turnBetween ∈ wsL_law := wq_2 158 rfl rfl
set_option maxRecDepth 20000 in
theorem q_14_9 : Cond.methodLink RX4 53 yX6_lossBy ∈ wsL_law := wq_2 159 rfl rfl
set_option maxRecDepth 20000 in
theorem q_14_10 : Cond.instanceMethod yX6_lossBy ∈ wsL_law := wq_2 160 rfl rfl
set_option maxRecDepth 20000 in
theorem q_14_11 : Cond.selects RX6 yX6_lossBy yX6_lossBy ∈ wsL_law := wq_2 161 rfl rfl
set_option maxRecDepth 20000 in
theorem q_14_12 : Cond.code yX6_lossBy cX6_lossBy 2 (some .int) ∈ wsL_law := wq_2 162 rfl rfl
set_option maxRecDepth 20000 in
theorem q_14_13 : Cond.methodLink RX1 54 yJ7_fill_53178 ∈ wsL_law := wq_2 164 rfl rfl
set_option maxRecDepth 20000 in
theorem q_14_14 : Cond.methodLink RX1 60 yX1_startSpot ∈ wsL_law := wq_2 165 rfl rfl
set_option maxRecDepth 20000 in
theorem q_14_15 : Cond.instanceMethod yX1_startSpot ∈ wsL_law := wq_2 167 rfl rfl
set_option maxRecDepth 20000 in
theorem q_14_16 : Cond.selects RX1 yX1_startSpot yX1_startSpot ∈ wsL_law := wp_1 3 rfl
set_option maxRecDepth 20000 in
theorem q_14_17 : Cond.code yX1_startSpot cX1_startSpot 1 (some .int) ∈ wsL_law := wq_2 168 rfl rfl
set_option maxRecDepth 20000 in
theorem q_14_18 : Cond.fieldLink RX1 74 "SailCourses$Sea" "startSquare" "I" ∈ wsL_law := wq_1 54 rfl rfl
set_option maxRecDepth 20000 in
theorem q_14_19 : Cond.fieldLink RX1 77 "SailCourses$Sea" "startSide" "I" ∈ wsL_law := wq_1 57 rfl rfl
set_option maxRecDepth 20000 in
theorem q_14_20 : Cond.methodLink RX1 67 yX1_reach ∈ wsL_law := wq_2 169 rfl rfl
set_option maxRecDepth 20000 in
theorem q_14_21 : Cond.instanceMethod yX1_reach ∈ wsL_law := wq_2 171 rfl rfl
set_option maxRecDepth 20000 in
theorem q_14_22 : Cond.selects RX1 yX1_reach yX1_reach ∈ wsL_law := wp_1 4 rfl
set_option maxRecDepth 20000 in
theorem q_14_23 : Cond.code yX1_reach cX1_reach 3 none ∈ wsL_law := wq_2 172 rfl rfl
set_option maxRecDepth 20000 in
theorem q_15_0 : Cond.methodLink RX1 71 yX1_settleAll ∈ wsL_law := wq_2 173 rfl rfl
set_option maxRecDepth 20000 in
theorem q_15_1 : Cond.instanceMethod yX1_settleAll ∈ wsL_law := wq_2 175 rfl rfl
set_option maxRecDepth 20000 in
theorem q_15_2 : Cond.selects RX1 yX1_settleAll yX1_settleAll ∈ wsL_law := wp_1 5 rfl
set_option maxRecDepth 20000 in
theorem q_15_3 : Cond.code yX1_settleAll cX1_settleAll 4 none ∈ wsL_law := wq_2 176 rfl rfl
set_option maxRecDepth 20000 in
theorem q_15_4 : Cond.methodLink RX1 80 yX1_takeNearest ∈ wsL_law := wq_2 177 rfl rfl
set_option maxRecDepth 20000 in
theorem q_15_5 : Cond.instanceMethod yX1_takeNearest ∈ wsL_law := wq_2 179 rfl rfl
set_option maxRecDepth 20000 in
theorem q_15_6 : Cond.selects RX1 yX1_takeNearest yX1_takeNearest ∈ wsL_law := wp_1 6 rfl
set_option maxRecDepth 20000 in
theorem q_15_7 : Cond.code yX1_takeNearest cX1_takeNearest 3 (some .int) ∈ wsL_law := wq_2 180 rfl rfl
set_option maxRecDepth 20000 in
theorem q_15_8 : Cond.methodLink RX1 83 yX1_sailOn ∈ wsL_law := wq_2 181 rfl rfl
set_option maxRecDepth 20000 in
theorem q_15_9 : Cond.instanceMethod yX1_sailOn ∈ wsL_law := wq_2 183 rfl rfl
set_option maxRecDepth 20000 in
theorem q_15_10 : Cond.selects RX1 yX1_sailOn yX1_sailOn ∈ wsL_law := wp_1 7 rfl
set_option maxRecDepth 20000 in
theorem q_15_11 : Cond.code yX1_sailOn cX1_sailOn 11 none ∈ wsL_law := wq_2 184 rfl rfl
set_option maxRecDepth 20000 in
theorem q_15_12 : Cond.methodLink RX1 86 yX4_targetOf ∈ wsL_law := wq_2 185 rfl rfl
set_option maxRecDepth 20000 in
theorem q_15_13 : Cond.instanceMethod yX4_targetOf ∈ wsL_law := wq_2 186 rfl rfl
set_option maxRecDepth 20000 in
theorem q_15_14 : Cond.selects RX4 yX4_targetOf yX4_targetOf ∈ wsL_law := wq_2 187 rfl rfl
set_option maxRecDepth 20000 in
theorem q_15_15 : Cond.code yX4_targetOf cX4_targetOf 4 (some .int) ∈ wsL_law := wq_2 188 rfl rfl
set_option maxRecDepth 20000 in
theorem q_15_16 : Cond.methodLink RX4 62 yX2_squareBeside ∈ wsL_law := wq_2 189 rfl rfl
set_option maxRecDepth 20000 in
theorem q_15_17 : Cond.static yX2_squareBeside ∈ wsL_law := wq_2 190 rfl rfl
set_option maxRecDepth 20000 in
theorem q_15_18 : Cond.code yX2_squareBeside cX2_squareBeside 4 (some .int) ∈ wsL_law := wq_2 191 rfl rfl
set_option maxRecDepth 20000 in
theorem q_15_19 : Cond.fieldLink RX2 9 "SailCourses$Compass" "SOUTHWARD" "[I" ∈ wsL_law := wq_2 192 rfl rfl
set_option maxRecDepth 20000 in
theorem q_15_20 : Cond.fieldLink RX2 15 "SailCourses$Compass" "EASTWARD" "[I" ∈ wsL_law := wq_2 194 rfl rfl
set_option maxRecDepth 20000 in
theorem q_15_21 : Cond.methodLink RX4 65 yX6_isLand ∈ wsL_law := wq_2 196 rfl rfl
set_option maxRecDepth 20000 in
theorem q_15_22 : Cond.methodLink RX1 92 yX4_departure ∈ wsL_law := wq_2 197 rfl rfl
set_option maxRecDepth 20000 in
theorem q_15_23 : Cond.static yX4_departure ∈ wsL_law := wq_2 198 rfl rfl
set_option maxRecDepth 20000 in
theorem q_16_0 : Cond.code yX4_departure cX4_departure 2 (some .int) ∈ wsL_law := wq_2 199 rfl rfl
set_option maxRecDepth 20000 in
theorem q_16_1 : Cond.methodLink RX1 95 yX4_kindOf ∈ wsL_law := wq_2 200 rfl rfl
set_option maxRecDepth 20000 in
theorem q_16_2 : Cond.static yX4_kindOf ∈ wsL_law := wq_2 201 rfl rfl
set_option maxRecDepth 20000 in
theorem q_16_3 : Cond.code yX4_kindOf cX4_kindOf 4 (some .int) ∈ wsL_law := wq_2 202 rfl rfl
set_option maxRecDepth 20000 in
theorem q_16_4 : Cond.methodLink RX4 56 yX2_zoneOf ∈ wsL_law := wq_2 203 rfl rfl
set_option maxRecDepth 20000 in
theorem q_16_5 : Cond.static yX2_zoneOf ∈ wsL_law := wq_2 204 rfl rfl
set_option maxRecDepth 20000 in
theorem q_16_6 : Cond.code yX2_zoneOf cX2_zoneOf 1 (some .int) ∈ wsL_law := wq_2 205 rfl rfl
set_option maxRecDepth 20000 in
theorem q_16_7 : Cond.methodLink RX4 59 yX2_spanOf ∈ wsL_law := wq_2 206 rfl rfl
set_option maxRecDepth 20000 in
theorem q_16_8 : Cond.static yX2_spanOf ∈ wsL_law := wq_2 207 rfl rfl
set_option maxRecDepth 20000 in
theorem q_16_9 : Cond.code yX2_spanOf cX2_spanOf 1 (some .int) ∈ wsL_law := wq_2 208 rfl rfl
set_option maxRecDepth 20000 in
theorem q_16_10 : Cond.methodLink RX1 99 yX4_sideThen ∈ wsL_law := wq_2 209 rfl rfl
set_option maxRecDepth 20000 in
theorem q_16_11 : Cond.instanceMethod yX4_sideThen ∈ wsL_law := wq_2 210 rfl rfl
set_option maxRecDepth 20000 in
theorem q_16_12 : Cond.selects RX4 yX4_sideThen yX4_sideThen ∈ wsL_law := wq_2 211 rfl rfl
set_option maxRecDepth 20000 in
theorem q_16_13 : Cond.code yX4_sideThen cX4_sideThen 3 (some .int) ∈ wsL_law := wq_2 212 rfl rfl
set_option maxRecDepth 20000 in
theorem q_16_14 : Cond.methodLink RX1 102 yX4_arrival ∈ wsL_law := wq_2 213 rfl rfl
set_option maxRecDepth 20000 in
theorem q_16_15 : Cond.instanceMethod yX4_arrival ∈ wsL_law := wq_2 214 rfl rfl
set_option maxRecDepth 20000 in
theorem q_16_16 : Cond.selects RX4 yX4_arrival yX4_arrival ∈ wsL_law := wq_2 215 rfl rfl
set_option maxRecDepth 20000 in
theorem q_16_17 : Cond.code yX4_arrival cX4_arrival 5 (some .int) ∈ wsL_law := wq_2 216 rfl rfl
set_option maxRecDepth 20000 in
theorem q_16_18 : Cond.constant RX4 69 (1000000000) ∈ wsL_law := wq_2 217 rfl rfl
set_option maxRecDepth 20000 in
theorem q_16_19 : Cond.methodLink RX10 120 yX1_squaresReached ∈ wsL_law := wq_2 218 rfl rfl
set_option maxRecDepth 20000 in
theorem q_16_20 : Cond.instanceMethod yX1_squaresReached ∈ wsL_law := wq_2 219 rfl rfl
set_option maxRecDepth 20000 in
theorem q_16_21 : Cond.selects RX1 yX1_squaresReached yX1_squaresReached ∈ wsL_law := wq_2 220 rfl rfl
set_option maxRecDepth 20000 in
theorem q_16_22 : Cond.code yX1_squaresReached cX1_squaresReached 3 (some .int) ∈ wsL_law := wq_2 221 rfl rfl
set_option maxRecDepth 20000 in
theorem q_16_23 : Cond.methodLink RX1 110 yX1_leastOf ∈ wsL_law := wq_2 222 rfl rfl
set_option maxRecDepth 20000 in
theorem q_17_0 : Cond.instanceMethod yX1_leastOf ∈ wsL_law := wq_2 223 rfl rfl
set_option maxRecDepth 20000 in
theorem q_17_1 : Cond.selects RX1 yX1_leastOf yX1_leastOf ∈ wsL_law := wq_2 224 rfl rfl
set_option maxRecDepth 20000 in
theorem q_17_2 : Cond.code yX1_leastOf cX1_leastOf 2 (some .int) ∈ wsL_law := wq_2 225 rfl rfl
set_option maxRecDepth 20000 in
theorem q_17_3 : Cond.methodLink RX1 105 Lib.Math.min.name ∈ wsL_law := wq_2 226 rfl rfl
set_option maxRecDepth 20000 in
theorem q_17_4 : Cond.static Lib.Math.min.name ∈ wsL_law := wq_2 227 rfl rfl
set_option maxRecDepth 20000 in
theorem q_17_5 : Cond.code Lib.Math.min.name Lib.Math.min.code 2 (some .int) ∈ wsL_law := wq_2 228 rfl rfl
set_option maxRecDepth 20000 in
theorem q_17_6 : Cond.methodLink RL 35 yX11_start ∈ wsL_law := wq_5 158 rfl rfl
set_option maxRecDepth 20000 in
theorem q_17_7 : Cond.instanceMethod yX11_start ∈ wsL_law := wq_5 159 rfl rfl
set_option maxRecDepth 20000 in
theorem q_17_8 : Cond.selects RX11 yX11_start yX11_start ∈ wsL_law := wq_5 160 rfl rfl
set_option maxRecDepth 20000 in
theorem q_17_9 : Cond.code yX11_start cX11_start 5 (some .int) ∈ wsL_law := wq_5 161 rfl rfl
set_option maxRecDepth 20000 in
theorem q_17_10 : Cond.methodLink RX11 128 yX11_notStart ∈ wsL_law := wq_5 162 rfl rfl
set_option maxRecDepth 20000 in
theorem q_17_11 : Cond.instanceMethod yX11_notStart ∈ wsL_law := wq_5 164 rfl rfl
set_option maxRecDepth 20000 in
theorem q_17_12 : Cond.selects RX11 yX11_notStart yX11_notStart ∈ wsL_law := wp_2 6 rfl
set_option maxRecDepth 20000 in
theorem q_17_13 : Cond.code yX11_notStart cX11_notStart 4 (some .int) ∈ wsL_law := wq_5 165 rfl rfl
set_option maxRecDepth 20000 in
theorem q_17_14 : Cond.methodLink RX11 119 yX11_isSide ∈ wsL_law := wq_5 166 rfl rfl
set_option maxRecDepth 20000 in
theorem q_17_15 : Cond.static yX11_isSide ∈ wsL_law := wq_5 167 rfl rfl
set_option maxRecDepth 20000 in
theorem q_17_16 : Cond.code yX11_isSide cX11_isSide 1 (some .boolean) ∈ wsL_law := wq_5 168 rfl rfl
set_option maxRecDepth 20000 in
theorem q_17_17 : Cond.methodLink RX11 132 yX11_begins ∈ wsL_law := wq_5 169 rfl rfl
set_option maxRecDepth 20000 in
theorem q_17_18 : Cond.instanceMethod yX11_begins ∈ wsL_law := wq_5 171 rfl rfl
set_option maxRecDepth 20000 in
theorem q_17_19 : Cond.selects RX11 yX11_begins yX11_begins ∈ wsL_law := wp_2 7 rfl
set_option maxRecDepth 20000 in
theorem q_17_20 : Cond.code yX11_begins cX11_begins 4 none ∈ wsL_law := wq_5 172 rfl rfl
set_option maxRecDepth 20000 in
theorem q_17_21 : Cond.fieldLink RX11 122 "SailCoursesModel" "startSide" "I" ∈ wsL_law := wq_5 8 rfl rfl
set_option maxRecDepth 20000 in
theorem q_17_22 : Cond.fieldLink RX11 125 "SailCoursesModel" "startMinute" "I" ∈ wsL_law := wq_5 9 rfl rfl
set_option maxRecDepth 20000 in
theorem q_17_23 : Cond.methodLink RX11 136 yX11_seeks ∈ wsL_law := wq_5 173 rfl rfl
set_option maxRecDepth 20000 in
theorem q_18_0 : Cond.instanceMethod yX11_seeks ∈ wsL_law := wq_5 175 rfl rfl
set_option maxRecDepth 20000 in
theorem q_18_1 : Cond.selects RX11 yX11_seeks yX11_seeks ∈ wsL_law := wp_2 8 rfl
set_option maxRecDepth 20000 in
theorem q_18_2 : Cond.code yX11_seeks cX11_seeks 5 none ∈ wsL_law := wq_5 176 rfl rfl
set_option maxRecDepth 20000 in
theorem q_18_3 : Cond.fieldLink RX11 222 "SailCoursesModel" "there" "I" ∈ wsL_law := wq_5 32 rfl rfl
set_option maxRecDepth 20000 in
theorem q_18_4 : Cond.fieldLink RX11 231 "SailCoursesModel" "sideThen" "I" ∈ wsL_law := wq_5 31 rfl rfl
set_option maxRecDepth 20000 in
theorem q_18_5 : Cond.fieldLink RX11 216 "SailCoursesModel" "arrives" "I" ∈ wsL_law := wq_5 29 rfl rfl
set_option maxRecDepth 20000 in
theorem q_18_6 : Cond.methodLink RX11 234 yX11_minuteOf ∈ wsL_law := wq_5 177 rfl rfl
set_option maxRecDepth 20000 in
theorem q_18_7 : Cond.static yX11_minuteOf ∈ wsL_law := wq_5 178 rfl rfl
set_option maxRecDepth 20000 in
theorem q_18_8 : Cond.code yX11_minuteOf cX11_minuteOf 2 (some .int) ∈ wsL_law := wq_5 179 rfl rfl
set_option maxRecDepth 20000 in
theorem q_18_9 : Cond.methodLink RX11 237 yX11_goes ∈ wsL_law := wq_5 180 rfl rfl
set_option maxRecDepth 20000 in
theorem q_18_10 : Cond.instanceMethod yX11_goes ∈ wsL_law := wq_5 182 rfl rfl
set_option maxRecDepth 20000 in
theorem q_18_11 : Cond.selects RX11 yX11_goes yX11_goes ∈ wsL_law := wp_2 9 rfl
set_option maxRecDepth 20000 in
theorem q_18_12 : Cond.code yX11_goes cX11_goes 10 none ∈ wsL_law := wq_5 183 rfl rfl
set_option maxRecDepth 20000 in
theorem q_18_13 : Cond.fieldLink RX11 228 "SailCoursesModel" "departs" "I" ∈ wsL_law := wq_5 30 rfl rfl
set_option maxRecDepth 20000 in
theorem q_18_14 : Cond.methodLink RX11 219 yX11_beside ∈ wsL_law := wq_5 184 rfl rfl
set_option maxRecDepth 20000 in
theorem q_18_15 : Cond.instanceMethod yX11_beside ∈ wsL_law := wq_5 186 rfl rfl
set_option maxRecDepth 20000 in
theorem q_18_16 : Cond.selects RX11 yX11_beside yX11_beside ∈ wsL_law := wp_2 10 rfl
set_option maxRecDepth 20000 in
theorem q_18_17 : Cond.code yX11_beside cX11_beside 7 (some .int) ∈ wsL_law := wq_5 187 rfl rfl
set_option maxRecDepth 20000 in
theorem q_18_18 : Cond.methodLink RX11 213 yX11_paceOf ∈ wsL_law := wq_5 188 rfl rfl
set_option maxRecDepth 20000 in
theorem q_18_19 : Cond.instanceMethod yX11_paceOf ∈ wsL_law := wq_5 190 rfl rfl
set_option maxRecDepth 20000 in
theorem q_18_20 : Cond.selects RX11 yX11_paceOf yX11_paceOf ∈ wsL_law := wp_2 11 rfl
set_option maxRecDepth 20000 in
theorem q_18_21 : Cond.code yX11_paceOf cX11_paceOf 7 (some .int) ∈ wsL_law := wq_5 191 rfl rfl
set_option maxRecDepth 20000 in
theorem q_18_22 : Cond.methodLink RX11 210 Lib.Math.max.name ∈ wsL_law := wq_5 202 rfl rfl
set_option maxRecDepth 20000 in
theorem q_18_23 : Cond.methodLink RX11 200 yX11_zoneOf ∈ wsL_law := wq_5 192 rfl rfl
set_option maxRecDepth 20000 in
theorem q_19_0 : Cond.static yX11_zoneOf ∈ wsL_law := wq_5 193 rfl rfl
set_option maxRecDepth 20000 in
theorem q_19_1 : Cond.code yX11_zoneOf cX11_zoneOf 1 (some .int) ∈ wsL_law := wq_5 194 rfl rfl
set_option maxRecDepth 20000 in
theorem q_19_2 : Cond.methodLink RX11 204 yX11_spanOf ∈ wsL_law := wq_5 195 rfl rfl
set_option maxRecDepth 20000 in
theorem q_19_3 : Cond.static yX11_spanOf ∈ wsL_law := wq_5 196 rfl rfl
set_option maxRecDepth 20000 in
theorem q_19_4 : Cond.code yX11_spanOf cX11_spanOf 1 (some .int) ∈ wsL_law := wq_5 197 rfl rfl
set_option maxRecDepth 20000 in
theorem q_19_5 : Cond.methodLink RX11 207 yX11_turn ∈ wsL_law := wq_5 198 rfl rfl
set_option maxRecDepth 20000 in
theorem q_19_6 : Cond.static yX11_turn ∈ wsL_law := wq_5 199 rfl rfl
set_option maxRecDepth 20000 in
theorem q_19_7 : Cond.code yX11_turn cX11_turn 3 (some .int) ∈ wsL_law := wq_5 200 rfl rfl
set_option maxRecDepth 20000 in
theorem q_19_8 : Cond.methodLink RX11 89 Lib.Math.min.name ∈ wsL_law := wq_5 201 rfl rfl
set_option maxRecDepth 20000 in
theorem q_19_9 : Cond.methodLink RX11 225 yX11_length ∈ wsL_law := wq_5 203 rfl rfl
set_option maxRecDepth 20000 in
theorem q_19_10 : Cond.static yX11_length ∈ wsL_law := wq_5 204 rfl rfl
set_option maxRecDepth 20000 in
theorem q_19_11 : Cond.code yX11_length cX11_length 1 (some .int) ∈ wsL_law := wq_5 205 rfl rfl
set_option maxRecDepth 20000 in
theorem q_19_12 : Cond.methodLink RX11 139 yX11_reached ∈ wsL_law := wq_5 206 rfl rfl
set_option maxRecDepth 20000 in
theorem q_19_13 : Cond.instanceMethod yX11_reached ∈ wsL_law := wq_5 208 rfl rfl
set_option maxRecDepth 20000 in
theorem q_19_14 : Cond.selects RX11 yX11_reached yX11_reached ∈ wsL_law := wp_2 12 rfl
set_option maxRecDepth 20000 in
theorem q_19_15 : Cond.code yX11_reached cX11_reached 3 (some .int) ∈ wsL_law := wq_5 209 rfl rfl
set_option maxRecDepth 20000 in
theorem q_19_16 : Cond.methodLink RX11 244 yX11_leastOf ∈ wsL_law := wq_5 210 rfl rfl
set_option maxRecDepth 20000 in
theorem q_19_17 : Cond.instanceMethod yX11_leastOf ∈ wsL_law := wq_5 212 rfl rfl
set_option maxRecDepth 20000 in
theorem q_19_18 : Cond.selects RX11 yX11_leastOf yX11_leastOf ∈ wsL_law := wp_2 13 rfl
set_option maxRecDepth 20000 in
theorem q_19_19 : Cond.code yX11_leastOf cX11_leastOf 4 (some .int) ∈ wsL_law := wq_5 213 rfl rfl
set_option maxRecDepth 20000 in
theorem q_19_20 : Cond.methodLink RL 36 yX10_loss ∈ wsL_law := wq_2 229 rfl rfl
set_option maxRecDepth 20000 in
theorem q_19_21 : Cond.instanceMethod yX10_loss ∈ wsL_law := wq_2 230 rfl rfl
set_option maxRecDepth 20000 in
theorem q_19_22 : Cond.selects RX10 yX10_loss yX10_loss ∈ wsL_law := wq_2 231 rfl rfl
set_option maxRecDepth 20000 in
theorem q_19_23 : Cond.code yX10_loss cX10_loss 4 (some .int) ∈ wsL_law := wq_2 232 rfl rfl
set_option maxRecDepth 20000 in
theorem q_20_0 : Cond.methodLink RX10 124 yX6_lossBy ∈ wsL_law := wq_2 233 rfl rfl
set_option maxRecDepth 20000 in
theorem q_20_1 : Cond.methodLink RX10 127 yX6_putLoss ∈ wsL_law := wq_2 234 rfl rfl
set_option maxRecDepth 20000 in
theorem q_20_2 : Cond.instanceMethod yX6_putLoss ∈ wsL_law := wq_2 235 rfl rfl
set_option maxRecDepth 20000 in
theorem q_20_3 : Cond.selects RX6 yX6_putLoss yX6_putLoss ∈ wsL_law := wq_2 236 rfl rfl
set_option maxRecDepth 20000 in
theorem q_20_4 : Cond.code yX6_putLoss cX6_putLoss 3 none ∈ wsL_law := wq_2 237 rfl rfl
set_option maxRecDepth 20000 in
theorem q_20_5 : Cond.methodLink RL 40 yX11_loss ∈ wsL_law := wq_5 214 rfl rfl
set_option maxRecDepth 20000 in
theorem q_20_6 : Cond.instanceMethod yX11_loss ∈ wsL_law := wq_5 215 rfl rfl
set_option maxRecDepth 20000 in
theorem q_20_7 : Cond.selects RX11 yX11_loss yX11_loss ∈ wsL_law := wq_5 216 rfl rfl
set_option maxRecDepth 20000 in
theorem q_20_8 : Cond.code yX11_loss cX11_loss 4 (some .int) ∈ wsL_law := wq_5 217 rfl rfl
set_option maxRecDepth 20000 in
theorem q_20_9 : Cond.methodLink RL 41 yX10_steer ∈ wsL_law := wq_2 238 rfl rfl
set_option maxRecDepth 20000 in
theorem q_20_10 : Cond.instanceMethod yX10_steer ∈ wsL_law := wq_2 239 rfl rfl
set_option maxRecDepth 20000 in
theorem q_20_11 : Cond.selects RX10 yX10_steer yX10_steer ∈ wsL_law := wq_3 0 rfl rfl
set_option maxRecDepth 20000 in
theorem q_20_12 : Cond.code yX10_steer cX10_steer 2 (some .int) ∈ wsL_law := wq_3 1 rfl rfl
set_option maxRecDepth 20000 in
theorem q_20_13 : Cond.fieldLink RX10 131 "SailCourses$Hand" "headings" "LSailCourses$Rows;" ∈ wsL_law := wq_1 113 rfl rfl
set_option maxRecDepth 20000 in
theorem q_20_14 : Cond.methodLink RX10 135 yX5_clear ∈ wsL_law := wq_3 2 rfl rfl
set_option maxRecDepth 20000 in
theorem q_20_15 : Cond.instanceMethod yX5_clear ∈ wsL_law := wq_3 3 rfl rfl
set_option maxRecDepth 20000 in
theorem q_20_16 : Cond.selects RX5 yX5_clear yX5_clear ∈ wsL_law := wq_3 4 rfl rfl
set_option maxRecDepth 20000 in
theorem q_20_17 : Cond.code yX5_clear cX5_clear 1 (some .int) ∈ wsL_law := wq_3 5 rfl rfl
set_option maxRecDepth 20000 in
theorem q_20_18 : Cond.methodLink RX10 140 yX5_add ∈ wsL_law := wq_3 6 rfl rfl
set_option maxRecDepth 20000 in
theorem q_20_19 : Cond.instanceMethod yX5_add ∈ wsL_law := wq_3 7 rfl rfl
set_option maxRecDepth 20000 in
theorem q_20_20 : Cond.selects RX5 yX5_add yX5_add ∈ wsL_law := wq_3 8 rfl rfl
set_option maxRecDepth 20000 in
theorem q_20_21 : Cond.code yX5_add cX5_add 3 (some .int) ∈ wsL_law := wq_3 9 rfl rfl
set_option maxRecDepth 20000 in
theorem q_20_22 : Cond.methodLink RL 45 yX11_steer ∈ wsL_law := wq_5 218 rfl rfl
set_option maxRecDepth 20000 in
theorem q_20_23 : Cond.instanceMethod yX11_steer ∈ wsL_law := wq_5 219 rfl rfl
set_option maxRecDepth 20000 in
theorem q_21_0 : Cond.selects RX11 yX11_steer yX11_steer ∈ wsL_law := wq_5 220 rfl rfl
set_option maxRecDepth 20000 in
theorem q_21_1 : Cond.code yX11_steer cX11_steer 2 (some .int) ∈ wsL_law := wq_5 221 rfl rfl
set_option maxRecDepth 20000 in
theorem q_21_2 : Cond.fieldLink RX11 143 "SailCoursesModel" "steered" "I" ∈ wsL_law := wq_5 10 rfl rfl
set_option maxRecDepth 20000 in
theorem q_21_3 : Cond.methodLink RL 46 yX10_feed ∈ wsL_law := wq_3 10 rfl rfl
set_option maxRecDepth 20000 in
theorem q_21_4 : Cond.instanceMethod yX10_feed ∈ wsL_law := wq_3 11 rfl rfl
set_option maxRecDepth 20000 in
theorem q_21_5 : Cond.selects RX10 yX10_feed yX10_feed ∈ wsL_law := wq_3 12 rfl rfl
set_option maxRecDepth 20000 in
theorem q_21_6 : Cond.code yX10_feed cX10_feed 2 (some .int) ∈ wsL_law := wq_3 13 rfl rfl
set_option maxRecDepth 20000 in
theorem q_21_7 : Cond.methodLink RX10 143 yX7_append ∈ wsL_law := wq_3 14 rfl rfl
set_option maxRecDepth 20000 in
theorem q_21_8 : Cond.instanceMethod yX7_append ∈ wsL_law := wq_3 15 rfl rfl
set_option maxRecDepth 20000 in
theorem q_21_9 : Cond.selects RX7 yX7_append yX7_append ∈ wsL_law := wq_3 16 rfl rfl
set_option maxRecDepth 20000 in
theorem q_21_10 : Cond.code yX7_append cX7_append 2 (some .int) ∈ wsL_law := wq_3 17 rfl rfl
set_option maxRecDepth 20000 in
theorem q_21_11 : Cond.methodLink RL 49 yX11_feed ∈ wsL_law := wq_5 222 rfl rfl
set_option maxRecDepth 20000 in
theorem q_21_12 : Cond.instanceMethod yX11_feed ∈ wsL_law := wq_5 223 rfl rfl
set_option maxRecDepth 20000 in
theorem q_21_13 : Cond.selects RX11 yX11_feed yX11_feed ∈ wsL_law := wq_5 224 rfl rfl
set_option maxRecDepth 20000 in
theorem q_21_14 : Cond.code yX11_feed cX11_feed 2 (some .int) ∈ wsL_law := wq_5 225 rfl rfl
set_option maxRecDepth 20000 in
theorem q_21_15 : Cond.fieldLink RX11 146 "SailCoursesModel" "signs" "I" ∈ wsL_law := wq_5 25 rfl rfl
set_option maxRecDepth 20000 in
theorem q_21_16 : Cond.methodLink RL 50 yX10_read ∈ wsL_law := wq_3 18 rfl rfl
set_option maxRecDepth 20000 in
theorem q_21_17 : Cond.instanceMethod yX10_read ∈ wsL_law := wq_3 19 rfl rfl
set_option maxRecDepth 20000 in
theorem q_21_18 : Cond.selects RX10 yX10_read yX10_read ∈ wsL_law := wq_3 20 rfl rfl
set_option maxRecDepth 20000 in
theorem q_21_19 : Cond.code yX10_read cX10_read 4 (some .int) ∈ wsL_law := wq_3 21 rfl rfl
set_option maxRecDepth 20000 in
theorem q_21_20 : Cond.methodLink RX10 146 yX7_parse ∈ wsL_law := wq_3 22 rfl rfl
set_option maxRecDepth 20000 in
theorem q_21_21 : Cond.instanceMethod yX7_parse ∈ wsL_law := wq_3 23 rfl rfl
set_option maxRecDepth 20000 in
theorem q_21_22 : Cond.selects RX7 yX7_parse yX7_parse ∈ wsL_law := wq_3 24 rfl rfl
set_option maxRecDepth 20000 in
theorem q_21_23 : Cond.code yX7_parse cX7_parse 2 (some .int) ∈ wsL_law := wq_3 25 rfl rfl
set_option maxRecDepth 20000 in
theorem q_22_0 : Cond.methodLink RX7 38 yX7_takeClause ∈ wsL_law := wq_3 26 rfl rfl
set_option maxRecDepth 20000 in
theorem q_22_1 : Cond.instanceMethod yX7_takeClause ∈ wsL_law := wq_3 28 rfl rfl
set_option maxRecDepth 20000 in
theorem q_22_2 : Cond.selects RX7 yX7_takeClause yX7_takeClause ∈ wsL_law := wp_1 8 rfl
set_option maxRecDepth 20000 in
theorem q_22_3 : Cond.code yX7_takeClause cX7_takeClause 3 (some .boolean) ∈ wsL_law := wq_3 29 rfl rfl
set_option maxRecDepth 20000 in
theorem q_22_4 : Cond.methodLink RX7 49 yX7_formOf ∈ wsL_law := wq_3 30 rfl rfl
set_option maxRecDepth 20000 in
theorem q_22_5 : Cond.static yX7_formOf ∈ wsL_law := wq_3 31 rfl rfl
set_option maxRecDepth 20000 in
theorem q_22_6 : Cond.code yX7_formOf cX7_formOf 1 (some (.object "java/lang/String")) ∈ wsL_law := wq_3 32 rfl rfl
set_option maxRecDepth 20000 in
theorem q_22_7 : Cond.methodLink RX7 53 yJ0_isEmpty_aae02 ∈ wsL_law := wq_3 40 rfl rfl
set_option maxRecDepth 20000 in
theorem q_22_8 : Cond.instanceMethod yJ0_isEmpty_aae02 ∈ wsL_law := wq_3 41 rfl rfl
set_option maxRecDepth 20000 in
theorem q_22_9 : Cond.selects RJ0 yJ0_isEmpty_aae02 yJ0_isEmpty_aae02 ∈ wsL_law := wq_3 42 rfl rfl
set_option maxRecDepth 20000 in
theorem q_22_10 : Cond.initialized RJ0 ∈ wsL_law := wq_1 15 rfl rfl
set_option maxRecDepth 20000 in
theorem q_22_11 : Cond.code yJ0_isEmpty_aae02 cJ0_isEmpty_aae02 1 (some .boolean) ∈ wsL_law := wq_3 43 rfl rfl
set_option maxRecDepth 20000 in
theorem q_22_12 : Cond.fieldLink RJ0 9 "java/lang/String" "value" "[B" ∈ wsL_law := wq_6 235 rfl rfl
set_option maxRecDepth 20000 in
theorem q_22_13 : Cond.methodLink RX7 58 yJ0_length_8abf5 ∈ wsL_law := wq_3 44 rfl rfl
set_option maxRecDepth 20000 in
theorem q_22_14 : Cond.instanceMethod yJ0_length_8abf5 ∈ wsL_law := wq_3 45 rfl rfl
set_option maxRecDepth 20000 in
theorem q_22_15 : Cond.selects RJ0 yJ0_length_8abf5 yJ0_length_8abf5 ∈ wsL_law := wq_3 46 rfl rfl
set_option maxRecDepth 20000 in
theorem q_22_16 : Cond.code yJ0_length_8abf5 cJ0_length_8abf5 1 (some .int) ∈ wsL_law := wq_3 47 rfl rfl
set_option maxRecDepth 20000 in
theorem q_22_17 : Cond.methodLink RJ0 335 yJ0_coder_7d493 ∈ wsL_law := wq_3 48 rfl rfl
set_option maxRecDepth 20000 in
theorem q_22_18 : Cond.instanceMethod yJ0_coder_7d493 ∈ wsL_law := wq_3 49 rfl rfl
set_option maxRecDepth 20000 in
theorem q_22_19 : Cond.selects RJ0 yJ0_coder_7d493 yJ0_coder_7d493 ∈ wsL_law := wq_3 50 rfl rfl
set_option maxRecDepth 20000 in
theorem q_22_20 : Cond.code yJ0_coder_7d493 cJ0_coder_7d493 1 (some .byte) ∈ wsL_law := wq_3 51 rfl rfl
set_option maxRecDepth 20000 in
theorem q_22_21 : Cond.fieldLink RJ0 38 "java/lang/String" "COMPACT_STRINGS" "Z" ∈ wsL_law := wq_3 52 rfl rfl
set_option maxRecDepth 20000 in
theorem q_22_22 : Cond.fieldLink RJ0 15 "java/lang/String" "coder" "B" ∈ wsL_law := wq_6 236 rfl rfl
set_option maxRecDepth 20000 in
theorem q_22_23 : Cond.methodLink RX7 61 yJ0_charAt_5068e ∈ wsL_law := wq_3 54 rfl rfl
set_option maxRecDepth 20000 in
theorem q_23_0 : Cond.instanceMethod yJ0_charAt_5068e ∈ wsL_law := wq_3 55 rfl rfl
set_option maxRecDepth 20000 in
theorem q_23_1 : Cond.selects RJ0 yJ0_charAt_5068e yJ0_charAt_5068e ∈ wsL_law := wq_3 56 rfl rfl
set_option maxRecDepth 20000 in
theorem q_23_2 : Cond.code yJ0_charAt_5068e cJ0_charAt_5068e 2 (some .char) ∈ wsL_law := wq_3 57 rfl rfl
set_option maxRecDepth 20000 in
theorem q_23_3 : Cond.methodLink RJ0 492 yJ0_isLatin1_aae02 ∈ wsL_law := wq_3 58 rfl rfl
set_option maxRecDepth 20000 in
theorem q_23_4 : Cond.instanceMethod yJ0_isLatin1_aae02 ∈ wsL_law := wq_3 59 rfl rfl
set_option maxRecDepth 20000 in
theorem q_23_5 : Cond.selects RJ0 yJ0_isLatin1_aae02 yJ0_isLatin1_aae02 ∈ wsL_law := wq_3 60 rfl rfl
set_option maxRecDepth 20000 in
theorem q_23_6 : Cond.code yJ0_isLatin1_aae02 cJ0_isLatin1_aae02 1 (some .boolean) ∈ wsL_law := wq_3 61 rfl rfl
set_option maxRecDepth 20000 in
theorem q_23_7 : Cond.methodLink RJ0 495 yJ1_charAt_3b067 ∈ wsL_law := wq_3 62 rfl rfl
set_option maxRecDepth 20000 in
theorem q_23_8 : Cond.static yJ1_charAt_3b067 ∈ wsL_law := wq_3 63 rfl rfl
set_option maxRecDepth 20000 in
theorem q_23_9 : Cond.initialized RJ1 ∈ wsL_law := wq_1 16 rfl rfl
set_option maxRecDepth 20000 in
theorem q_23_10 : Cond.code yJ1_charAt_3b067 cJ1_charAt_3b067 2 (some .char) ∈ wsL_law := wq_3 64 rfl rfl
set_option maxRecDepth 20000 in
theorem q_23_11 : Cond.methodLink RJ1 9 yJ0_checkIndex_df160 ∈ wsL_law := wq_3 65 rfl rfl
set_option maxRecDepth 20000 in
theorem q_23_12 : Cond.static yJ0_checkIndex_df160 ∈ wsL_law := wq_3 66 rfl rfl
set_option maxRecDepth 20000 in
theorem q_23_13 : Cond.code yJ0_checkIndex_df160 cJ0_checkIndex_df160 2 none ∈ wsL_law := wq_3 67 rfl rfl
set_option maxRecDepth 20000 in
theorem q_23_14 : Cond.fieldLink RJ0 1053 "jdk/internal/util/Preconditions" "SIOOBE_FORMATTER" "Ljava/util/function/BiFunction;" ∈ wsL_law := wq_3 68 rfl rfl
set_option maxRecDepth 20000 in
theorem q_23_15 : Cond.methodLink RJ0 1059 yJ3_checkIndex_8e157 ∈ wsL_law := wq_3 70 rfl rfl
set_option maxRecDepth 20000 in
theorem q_23_16 : Cond.static yJ3_checkIndex_8e157 ∈ wsL_law := wq_3 71 rfl rfl
set_option maxRecDepth 20000 in
theorem q_23_17 : Cond.initialized RJ3 ∈ wsL_law := wq_1 17 rfl rfl
set_option maxRecDepth 20000 in
theorem q_23_18 : Cond.code yJ3_checkIndex_8e157 cJ3_checkIndex_8e157 3 (some .int) ∈ wsL_law := wq_3 72 rfl rfl
set_option maxRecDepth 20000 in
theorem q_23_19 : Cond.methodLink RJ0 498 yJ2_charAt_3b067 ∈ wsL_law := wq_3 73 rfl rfl
set_option maxRecDepth 20000 in
theorem q_23_20 : Cond.static yJ2_charAt_3b067 ∈ wsL_law := wq_3 74 rfl rfl
set_option maxRecDepth 20000 in
theorem q_23_21 : Cond.initialized RJ2 ∈ wsL_law := wq_1 18 rfl rfl
set_option maxRecDepth 20000 in
theorem q_23_22 : Cond.code yJ2_charAt_3b067 cJ2_charAt_3b067 2 (some .char) ∈ wsL_law := wq_3 75 rfl rfl
set_option maxRecDepth 20000 in
theorem q_23_23 : Cond.methodLink RJ2 67 yJ2_checkIndex_2214a ∈ wsL_law := wq_3 76 rfl rfl
set_option maxRecDepth 20000 in
theorem q_24_0 : Cond.static yJ2_checkIndex_2214a ∈ wsL_law := wq_3 77 rfl rfl
set_option maxRecDepth 20000 in
theorem q_24_1 : Cond.code yJ2_checkIndex_2214a cJ2_checkIndex_2214a 2 none ∈ wsL_law := wq_3 78 rfl rfl
set_option maxRecDepth 20000 in
theorem q_24_2 : Cond.methodLink RJ2 48 yJ2_length_9d52b ∈ wsL_law := wq_3 79 rfl rfl
set_option maxRecDepth 20000 in
theorem q_24_3 : Cond.static yJ2_length_9d52b ∈ wsL_law := wq_3 80 rfl rfl
set_option maxRecDepth 20000 in
theorem q_24_4 : Cond.code yJ2_length_9d52b cJ2_length_9d52b 1 (some .int) ∈ wsL_law := wq_3 81 rfl rfl
set_option maxRecDepth 20000 in
theorem q_24_5 : Cond.methodLink RJ2 414 yJ0_checkIndex_df160 ∈ wsL_law := wq_3 82 rfl rfl
set_option maxRecDepth 20000 in
theorem q_24_6 : Cond.methodLink RJ2 71 yJ2_getChar_3b067 ∈ wsL_law := wq_3 83 rfl rfl
set_option maxRecDepth 20000 in
theorem q_24_7 : Cond.static yJ2_getChar_3b067 ∈ wsL_law := wq_3 84 rfl rfl
set_option maxRecDepth 20000 in
theorem q_24_8 : Cond.code yJ2_getChar_3b067 cJ2_getChar_3b067 2 (some .char) ∈ wsL_law := wq_3 85 rfl rfl
set_option maxRecDepth 20000 in
theorem q_24_9 : Cond.fieldLink RJ2 44 "java/lang/StringUTF16" "$assertionsDisabled" "Z" ∈ wsL_law := wq_3 86 rfl rfl
set_option maxRecDepth 20000 in
theorem q_24_10 : Cond.fieldLink RJ2 59 "java/lang/StringUTF16" "HI_BYTE_SHIFT" "I" ∈ wsL_law := wq_3 88 rfl rfl
set_option maxRecDepth 20000 in
theorem q_24_11 : Cond.fieldLink RJ2 63 "java/lang/StringUTF16" "LO_BYTE_SHIFT" "I" ∈ wsL_law := wq_3 90 rfl rfl
set_option maxRecDepth 20000 in
theorem q_24_12 : Cond.methodLink RX7 65 yX7_takeField ∈ wsL_law := wq_3 92 rfl rfl
set_option maxRecDepth 20000 in
theorem q_24_13 : Cond.instanceMethod yX7_takeField ∈ wsL_law := wq_3 94 rfl rfl
set_option maxRecDepth 20000 in
theorem q_24_14 : Cond.selects RX7 yX7_takeField yX7_takeField ∈ wsL_law := wp_1 9 rfl
set_option maxRecDepth 20000 in
theorem q_24_15 : Cond.code yX7_takeField cX7_takeField 2 (some .boolean) ∈ wsL_law := wq_3 95 rfl rfl
set_option maxRecDepth 20000 in
theorem q_24_16 : Cond.methodLink RX7 82 yX7_takeNumber ∈ wsL_law := wq_3 96 rfl rfl
set_option maxRecDepth 20000 in
theorem q_24_17 : Cond.instanceMethod yX7_takeNumber ∈ wsL_law := wq_3 98 rfl rfl
set_option maxRecDepth 20000 in
theorem q_24_18 : Cond.selects RX7 yX7_takeNumber yX7_takeNumber ∈ wsL_law := wp_1 10 rfl
set_option maxRecDepth 20000 in
theorem q_24_19 : Cond.code yX7_takeNumber cX7_takeNumber 5 (some .boolean) ∈ wsL_law := wq_3 99 rfl rfl
set_option maxRecDepth 20000 in
theorem q_24_20 : Cond.methodLink RX7 46 yX7_isNext ∈ wsL_law := wq_3 100 rfl rfl
set_option maxRecDepth 20000 in
theorem q_24_21 : Cond.instanceMethod yX7_isNext ∈ wsL_law := wq_3 102 rfl rfl
set_option maxRecDepth 20000 in
theorem q_24_22 : Cond.selects RX7 yX7_isNext yX7_isNext ∈ wsL_law := wp_1 11 rfl
set_option maxRecDepth 20000 in
theorem q_24_23 : Cond.code yX7_isNext cX7_isNext 3 (some .boolean) ∈ wsL_law := wq_3 103 rfl rfl
set_option maxRecDepth 20000 in
theorem q_25_0 : Cond.methodLink RX7 42 yX7_take ∈ wsL_law := wq_3 104 rfl rfl
set_option maxRecDepth 20000 in
theorem q_25_1 : Cond.instanceMethod yX7_take ∈ wsL_law := wq_3 106 rfl rfl
set_option maxRecDepth 20000 in
theorem q_25_2 : Cond.selects RX7 yX7_take yX7_take ∈ wsL_law := wp_1 12 rfl
set_option maxRecDepth 20000 in
theorem q_25_3 : Cond.code yX7_take cX7_take 2 (some .boolean) ∈ wsL_law := wq_3 107 rfl rfl
set_option maxRecDepth 20000 in
theorem q_25_4 : Cond.methodLink RX10 149 yX7_clear ∈ wsL_law := wq_3 108 rfl rfl
set_option maxRecDepth 20000 in
theorem q_25_5 : Cond.instanceMethod yX7_clear ∈ wsL_law := wq_3 109 rfl rfl
set_option maxRecDepth 20000 in
theorem q_25_6 : Cond.selects RX7 yX7_clear yX7_clear ∈ wsL_law := wq_3 110 rfl rfl
set_option maxRecDepth 20000 in
theorem q_25_7 : Cond.code yX7_clear cX7_clear 1 none ∈ wsL_law := wq_3 111 rfl rfl
set_option maxRecDepth 20000 in
theorem q_25_8 : Cond.methodLink RX10 151 yX7_clauseCount ∈ wsL_law := wq_3 112 rfl rfl
set_option maxRecDepth 20000 in
theorem q_25_9 : Cond.instanceMethod yX7_clauseCount ∈ wsL_law := wq_3 113 rfl rfl
set_option maxRecDepth 20000 in
theorem q_25_10 : Cond.selects RX7 yX7_clauseCount yX7_clauseCount ∈ wsL_law := wq_3 114 rfl rfl
set_option maxRecDepth 20000 in
theorem q_25_11 : Cond.code yX7_clauseCount cX7_clauseCount 1 (some .int) ∈ wsL_law := wq_3 115 rfl rfl
set_option maxRecDepth 20000 in
theorem q_25_12 : Cond.methodLink RX10 154 yX10_doClause ∈ wsL_law := wq_3 116 rfl rfl
set_option maxRecDepth 20000 in
theorem q_25_13 : Cond.instanceMethod yX10_doClause ∈ wsL_law := wq_3 118 rfl rfl
set_option maxRecDepth 20000 in
theorem q_25_14 : Cond.selects RX10 yX10_doClause yX10_doClause ∈ wsL_law := wp_1 13 rfl
set_option maxRecDepth 20000 in
theorem q_25_15 : Cond.code yX10_doClause cX10_doClause 5 (some .boolean) ∈ wsL_law := wq_3 119 rfl rfl
set_option maxRecDepth 20000 in
theorem q_25_16 : Cond.methodLink RX10 337 yX7_number ∈ wsL_law := wq_3 120 rfl rfl
set_option maxRecDepth 20000 in
theorem q_25_17 : Cond.instanceMethod yX7_number ∈ wsL_law := wq_3 121 rfl rfl
set_option maxRecDepth 20000 in
theorem q_25_18 : Cond.selects RX7 yX7_number yX7_number ∈ wsL_law := wq_3 122 rfl rfl
set_option maxRecDepth 20000 in
theorem q_25_19 : Cond.code yX7_number cX7_number 3 (some .int) ∈ wsL_law := wq_3 123 rfl rfl
set_option maxRecDepth 20000 in
theorem q_25_20 : Cond.methodLink RX10 340 yX7_kind ∈ wsL_law := wq_3 125 rfl rfl
set_option maxRecDepth 20000 in
theorem q_25_21 : Cond.instanceMethod yX7_kind ∈ wsL_law := wq_3 126 rfl rfl
set_option maxRecDepth 20000 in
theorem q_25_22 : Cond.selects RX7 yX7_kind yX7_kind ∈ wsL_law := wq_3 127 rfl rfl
set_option maxRecDepth 20000 in
theorem q_25_23 : Cond.code yX7_kind cX7_kind 2 (some .int) ∈ wsL_law := wq_3 128 rfl rfl
set_option maxRecDepth 20000 in
theorem q_26_0 : Cond.methodLink RX10 343 yX10_wind ∈ wsL_law := wq_3 129 rfl rfl
set_option maxRecDepth 20000 in
theorem q_26_1 : Cond.methodLink RX10 346 yX10_current ∈ wsL_law := wq_3 130 rfl rfl
set_option maxRecDepth 20000 in
theorem q_26_2 : Cond.methodLink RX10 349 yX10_doTable ∈ wsL_law := wq_3 131 rfl rfl
set_option maxRecDepth 20000 in
theorem q_26_3 : Cond.instanceMethod yX10_doTable ∈ wsL_law := wq_3 133 rfl rfl
set_option maxRecDepth 20000 in
theorem q_26_4 : Cond.selects RX10 yX10_doTable yX10_doTable ∈ wsL_law := wp_1 14 rfl
set_option maxRecDepth 20000 in
theorem q_26_5 : Cond.code yX10_doTable cX10_doTable 4 (some .boolean) ∈ wsL_law := wq_3 134 rfl rfl
set_option maxRecDepth 20000 in
theorem q_26_6 : Cond.methodLink RX10 352 yX10_land ∈ wsL_law := wq_3 135 rfl rfl
set_option maxRecDepth 20000 in
theorem q_26_7 : Cond.methodLink RX10 356 yX10_doStart ∈ wsL_law := wq_3 136 rfl rfl
set_option maxRecDepth 20000 in
theorem q_26_8 : Cond.instanceMethod yX10_doStart ∈ wsL_law := wq_3 138 rfl rfl
set_option maxRecDepth 20000 in
theorem q_26_9 : Cond.selects RX10 yX10_doStart yX10_doStart ∈ wsL_law := wp_1 15 rfl
set_option maxRecDepth 20000 in
theorem q_26_10 : Cond.code yX10_doStart cX10_doStart 4 (some .boolean) ∈ wsL_law := wq_3 139 rfl rfl
set_option maxRecDepth 20000 in
theorem q_26_11 : Cond.methodLink RX10 360 yX10_doLosses ∈ wsL_law := wq_3 140 rfl rfl
set_option maxRecDepth 20000 in
theorem q_26_12 : Cond.instanceMethod yX10_doLosses ∈ wsL_law := wq_3 142 rfl rfl
set_option maxRecDepth 20000 in
theorem q_26_13 : Cond.selects RX10 yX10_doLosses yX10_doLosses ∈ wsL_law := wp_2 0 rfl
set_option maxRecDepth 20000 in
theorem q_26_14 : Cond.code yX10_doLosses cX10_doLosses 3 (some .boolean) ∈ wsL_law := wq_3 143 rfl rfl
set_option maxRecDepth 20000 in
theorem q_26_15 : Cond.methodLink RL 54 yX11_read ∈ wsL_law := wq_5 226 rfl rfl
set_option maxRecDepth 20000 in
theorem q_26_16 : Cond.instanceMethod yX11_read ∈ wsL_law := wq_5 227 rfl rfl
set_option maxRecDepth 20000 in
theorem q_26_17 : Cond.selects RX11 yX11_read yX11_read ∈ wsL_law := wq_5 228 rfl rfl
set_option maxRecDepth 20000 in
theorem q_26_18 : Cond.code yX11_read cX11_read 2 (some .int) ∈ wsL_law := wq_5 229 rfl rfl
set_option maxRecDepth 20000 in
theorem q_26_19 : Cond.fieldLink RX11 149 "SailCoursesModel" "at" "I" ∈ wsL_law := wq_5 26 rfl rfl
set_option maxRecDepth 20000 in
theorem q_26_20 : Cond.methodLink RX11 196 yX11_clauses ∈ wsL_law := wq_5 230 rfl rfl
set_option maxRecDepth 20000 in
theorem q_26_21 : Cond.instanceMethod yX11_clauses ∈ wsL_law := wq_5 232 rfl rfl
set_option maxRecDepth 20000 in
theorem q_26_22 : Cond.selects RX11 yX11_clauses yX11_clauses ∈ wsL_law := wp_2 14 rfl
set_option maxRecDepth 20000 in
theorem q_26_23 : Cond.code yX11_clauses cX11_clauses 5 (some .int) ∈ wsL_law := wq_5 233 rfl rfl
set_option maxRecDepth 20000 in
theorem q_27_0 : Cond.methodLink RX11 190 yX11_clause ∈ wsL_law := wq_5 234 rfl rfl
set_option maxRecDepth 20000 in
theorem q_27_1 : Cond.instanceMethod yX11_clause ∈ wsL_law := wq_5 236 rfl rfl
set_option maxRecDepth 20000 in
theorem q_27_2 : Cond.selects RX11 yX11_clause yX11_clause ∈ wsL_law := wp_2 15 rfl
set_option maxRecDepth 20000 in
theorem q_27_3 : Cond.code yX11_clause cX11_clause 3 (some .int) ∈ wsL_law := wq_5 237 rfl rfl
set_option maxRecDepth 20000 in
theorem q_27_4 : Cond.methodLink RX11 152 yX11_here ∈ wsL_law := wq_5 238 rfl rfl
set_option maxRecDepth 20000 in
theorem q_27_5 : Cond.instanceMethod yX11_here ∈ wsL_law := wq_6 0 rfl rfl
set_option maxRecDepth 20000 in
theorem q_27_6 : Cond.selects RX11 yX11_here yX11_here ∈ wsL_law := wp_3 0 rfl
set_option maxRecDepth 20000 in
theorem q_27_7 : Cond.code yX11_here cX11_here 1 (some .int) ∈ wsL_law := wq_6 1 rfl rfl
set_option maxRecDepth 20000 in
theorem q_27_8 : Cond.methodLink RX11 161 yX11_ones ∈ wsL_law := wq_6 2 rfl rfl
set_option maxRecDepth 20000 in
theorem q_27_9 : Cond.instanceMethod yX11_ones ∈ wsL_law := wq_6 4 rfl rfl
set_option maxRecDepth 20000 in
theorem q_27_10 : Cond.selects RX11 yX11_ones yX11_ones ∈ wsL_law := wp_3 1 rfl
set_option maxRecDepth 20000 in
theorem q_27_11 : Cond.code yX11_ones cX11_ones 3 (some .boolean) ∈ wsL_law := wq_6 5 rfl rfl
set_option maxRecDepth 20000 in
theorem q_27_12 : Cond.methodLink RX11 155 yX11_digits ∈ wsL_law := wq_6 6 rfl rfl
set_option maxRecDepth 20000 in
theorem q_27_13 : Cond.instanceMethod yX11_digits ∈ wsL_law := wq_6 8 rfl rfl
set_option maxRecDepth 20000 in
theorem q_27_14 : Cond.selects RX11 yX11_digits yX11_digits ∈ wsL_law := wp_3 2 rfl
set_option maxRecDepth 20000 in
theorem q_27_15 : Cond.code yX11_digits cX11_digits 5 (some .boolean) ∈ wsL_law := wq_6 9 rfl rfl
set_option maxRecDepth 20000 in
theorem q_27_16 : Cond.methodLink RX11 164 yX11_tables ∈ wsL_law := wq_6 10 rfl rfl
set_option maxRecDepth 20000 in
theorem q_27_17 : Cond.instanceMethod yX11_tables ∈ wsL_law := wq_6 12 rfl rfl
set_option maxRecDepth 20000 in
theorem q_27_18 : Cond.selects RX11 yX11_tables yX11_tables ∈ wsL_law := wp_3 3 rfl
set_option maxRecDepth 20000 in
theorem q_27_19 : Cond.code yX11_tables cX11_tables 1 (some .boolean) ∈ wsL_law := wq_6 13 rfl rfl
set_option maxRecDepth 20000 in
theorem q_27_20 : Cond.fieldLink RX11 158 "SailCoursesModel" "latestForce" "I" ∈ wsL_law := wq_5 28 rfl rfl
set_option maxRecDepth 20000 in
theorem q_27_21 : Cond.methodLink RX11 168 yX11_losses ∈ wsL_law := wq_6 14 rfl rfl
set_option maxRecDepth 20000 in
theorem q_27_22 : Cond.instanceMethod yX11_losses ∈ wsL_law := wq_6 16 rfl rfl
set_option maxRecDepth 20000 in
theorem q_27_23 : Cond.selects RX11 yX11_losses yX11_losses ∈ wsL_law := wp_3 4 rfl
set_option maxRecDepth 20000 in
theorem q_28_0 : Cond.code yX11_losses cX11_losses 1 (some .boolean) ∈ wsL_law := wq_6 17 rfl rfl
set_option maxRecDepth 20000 in
theorem q_28_1 : Cond.methodLink RX11 193 yX11_isDone ∈ wsL_law := wq_6 18 rfl rfl
set_option maxRecDepth 20000 in
theorem q_28_2 : Cond.instanceMethod yX11_isDone ∈ wsL_law := wq_6 20 rfl rfl
set_option maxRecDepth 20000 in
theorem q_28_3 : Cond.selects RX11 yX11_isDone yX11_isDone ∈ wsL_law := wp_3 5 rfl
set_option maxRecDepth 20000 in
theorem q_28_4 : Cond.code yX11_isDone cX11_isDone 2 (some .boolean) ∈ wsL_law := wq_6 21 rfl rfl
set_option maxRecDepth 20000 in
theorem q_28_5 : Cond.methodLink RX11 171 yX11_wind ∈ wsL_law := wq_6 22 rfl rfl
set_option maxRecDepth 20000 in
theorem q_28_6 : Cond.methodLink RX11 175 yX11_current ∈ wsL_law := wq_6 23 rfl rfl
set_option maxRecDepth 20000 in
theorem q_28_7 : Cond.methodLink RX11 178 yX11_isTabled ∈ wsL_law := wq_6 24 rfl rfl
set_option maxRecDepth 20000 in
theorem q_28_8 : Cond.instanceMethod yX11_isTabled ∈ wsL_law := wq_6 26 rfl rfl
set_option maxRecDepth 20000 in
theorem q_28_9 : Cond.selects RX11 yX11_isTabled yX11_isTabled ∈ wsL_law := wp_3 6 rfl
set_option maxRecDepth 20000 in
theorem q_28_10 : Cond.code yX11_isTabled cX11_isTabled 2 (some .boolean) ∈ wsL_law := wq_6 27 rfl rfl
set_option maxRecDepth 20000 in
theorem q_28_11 : Cond.methodLink RX11 181 yX11_land ∈ wsL_law := wq_6 28 rfl rfl
set_option maxRecDepth 20000 in
theorem q_28_12 : Cond.methodLink RX11 184 yX11_isBegun ∈ wsL_law := wq_6 29 rfl rfl
set_option maxRecDepth 20000 in
theorem q_28_13 : Cond.instanceMethod yX11_isBegun ∈ wsL_law := wq_6 31 rfl rfl
set_option maxRecDepth 20000 in
theorem q_28_14 : Cond.selects RX11 yX11_isBegun yX11_isBegun ∈ wsL_law := wp_3 7 rfl
set_option maxRecDepth 20000 in
theorem q_28_15 : Cond.code yX11_isBegun cX11_isBegun 1 (some .boolean) ∈ wsL_law := wq_6 32 rfl rfl
set_option maxRecDepth 20000 in
theorem q_28_16 : Cond.methodLink RX11 187 yX11_isLost ∈ wsL_law := wq_6 33 rfl rfl
set_option maxRecDepth 20000 in
theorem q_28_17 : Cond.instanceMethod yX11_isLost ∈ wsL_law := wq_6 35 rfl rfl
set_option maxRecDepth 20000 in
theorem q_28_18 : Cond.selects RX11 yX11_isLost yX11_isLost ∈ wsL_law := wp_3 8 rfl
set_option maxRecDepth 20000 in
theorem q_28_19 : Cond.code yX11_isLost cX11_isLost 1 (some .boolean) ∈ wsL_law := wq_6 36 rfl rfl
set_option maxRecDepth 20000 in
theorem q_28_20 : Cond.methodLink RL 55 yX10_of ∈ wsL_law := wq_3 145 rfl rfl
set_option maxRecDepth 20000 in
theorem q_28_21 : Cond.instanceMethod yX10_of ∈ wsL_law := wq_3 146 rfl rfl
set_option maxRecDepth 20000 in
theorem q_28_22 : Cond.selects RX10 yX10_of yX10_of ∈ wsL_law := wq_3 147 rfl rfl
set_option maxRecDepth 20000 in
theorem q_28_23 : Cond.code yX10_of cX10_of 4 (some .int) ∈ wsL_law := wq_3 148 rfl rfl
set_option maxRecDepth 20000 in
theorem q_29_0 : Cond.methodLink RL 58 yX11_of ∈ wsL_law := wq_6 37 rfl rfl
set_option maxRecDepth 20000 in
theorem q_29_1 : Cond.instanceMethod yX11_of ∈ wsL_law := wq_6 38 rfl rfl
set_option maxRecDepth 20000 in
theorem q_29_2 : Cond.selects RX11 yX11_of yX11_of ∈ wsL_law := wq_6 39 rfl rfl
set_option maxRecDepth 20000 in
theorem q_29_3 : Cond.code yX11_of cX11_of 4 (some .int) ∈ wsL_law := wq_6 40 rfl rfl
set_option maxRecDepth 20000 in
theorem q_29_4 : Cond.methodLink RL 59 yX10_speed ∈ wsL_law := wq_3 149 rfl rfl
set_option maxRecDepth 20000 in
theorem q_29_5 : Cond.instanceMethod yX10_speed ∈ wsL_law := wq_3 150 rfl rfl
set_option maxRecDepth 20000 in
theorem q_29_6 : Cond.selects RX10 yX10_speed yX10_speed ∈ wsL_law := wq_3 151 rfl rfl
set_option maxRecDepth 20000 in
theorem q_29_7 : Cond.code yX10_speed cX10_speed 3 (some .int) ∈ wsL_law := wq_3 152 rfl rfl
set_option maxRecDepth 20000 in
theorem q_29_8 : Cond.methodLink RL 62 yX11_speed ∈ wsL_law := wq_6 41 rfl rfl
set_option maxRecDepth 20000 in
theorem q_29_9 : Cond.instanceMethod yX11_speed ∈ wsL_law := wq_6 42 rfl rfl
set_option maxRecDepth 20000 in
theorem q_29_10 : Cond.selects RX11 yX11_speed yX11_speed ∈ wsL_law := wq_6 43 rfl rfl
set_option maxRecDepth 20000 in
theorem q_29_11 : Cond.code yX11_speed cX11_speed 3 (some .int) ∈ wsL_law := wq_6 44 rfl rfl
set_option maxRecDepth 20000 in
theorem q_29_12 : Cond.methodLink RL 63 yX10_told ∈ wsL_law := wq_3 153 rfl rfl
set_option maxRecDepth 20000 in
theorem q_29_13 : Cond.instanceMethod yX10_told ∈ wsL_law := wq_3 154 rfl rfl
set_option maxRecDepth 20000 in
theorem q_29_14 : Cond.selects RX10 yX10_told yX10_told ∈ wsL_law := wq_3 155 rfl rfl
set_option maxRecDepth 20000 in
theorem q_29_15 : Cond.code yX10_told cX10_told 2 (some .int) ∈ wsL_law := wq_3 156 rfl rfl
set_option maxRecDepth 20000 in
theorem q_29_16 : Cond.fieldLink RX10 157 "SailCourses$Sea" "startSide" "I" ∈ wsL_law := wq_1 58 rfl rfl
set_option maxRecDepth 20000 in
theorem q_29_17 : Cond.fieldLink RX10 160 "SailCourses$Sea" "startMinute" "I" ∈ wsL_law := wq_1 61 rfl rfl
set_option maxRecDepth 20000 in
theorem q_29_18 : Cond.methodLink RX10 163 yX6_landCount ∈ wsL_law := wq_3 157 rfl rfl
set_option maxRecDepth 20000 in
theorem q_29_19 : Cond.instanceMethod yX6_landCount ∈ wsL_law := wq_3 158 rfl rfl
set_option maxRecDepth 20000 in
theorem q_29_20 : Cond.selects RX6 yX6_landCount yX6_landCount ∈ wsL_law := wq_3 159 rfl rfl
set_option maxRecDepth 20000 in
theorem q_29_21 : Cond.code yX6_landCount cX6_landCount 1 (some .int) ∈ wsL_law := wq_3 160 rfl rfl
set_option maxRecDepth 20000 in
theorem q_29_22 : Cond.methodLink RX6 62 yJ13_bitCount_95d88 ∈ wsL_law := wq_3 161 rfl rfl
set_option maxRecDepth 20000 in
theorem q_29_23 : Cond.static yJ13_bitCount_95d88 ∈ wsL_law := wq_3 162 rfl rfl
set_option maxRecDepth 20000 in
theorem q_30_0 : Cond.initialized RJ13 ∈ wsL_law := wq_1 20 rfl rfl
set_option maxRecDepth 20000 in
theorem q_30_1 : Cond.code yJ13_bitCount_95d88 cJ13_bitCount_95d88 2 (some .int) ∈ wsL_law := wq_3 163 rfl rfl
set_option maxRecDepth 20000 in
theorem q_30_2 : Cond.constantLong RJ13 314 (6148914691236517205) ∈ wsL_law := wq_3 164 rfl rfl
set_option maxRecDepth 20000 in
theorem q_30_3 : Cond.constantLong RJ13 316 (3689348814741910323) ∈ wsL_law := wq_3 165 rfl rfl
set_option maxRecDepth 20000 in
theorem q_30_4 : Cond.constantLong RJ13 318 (1085102592571150095) ∈ wsL_law := wq_3 166 rfl rfl
set_option maxRecDepth 20000 in
theorem q_30_5 : Cond.methodLink RX10 166 yX1_farthestSquare ∈ wsL_law := wq_3 167 rfl rfl
set_option maxRecDepth 20000 in
theorem q_30_6 : Cond.instanceMethod yX1_farthestSquare ∈ wsL_law := wq_3 168 rfl rfl
set_option maxRecDepth 20000 in
theorem q_30_7 : Cond.selects RX1 yX1_farthestSquare yX1_farthestSquare ∈ wsL_law := wq_3 169 rfl rfl
set_option maxRecDepth 20000 in
theorem q_30_8 : Cond.code yX1_farthestSquare cX1_farthestSquare 3 (some .int) ∈ wsL_law := wq_3 170 rfl rfl
set_option maxRecDepth 20000 in
theorem q_30_9 : Cond.methodLink RX10 169 yX1_leastOf ∈ wsL_law := wq_3 171 rfl rfl
set_option maxRecDepth 20000 in
theorem q_30_10 : Cond.methodLink RL 66 yX11_told ∈ wsL_law := wq_6 77 rfl rfl
set_option maxRecDepth 20000 in
theorem q_30_11 : Cond.instanceMethod yX11_told ∈ wsL_law := wq_6 78 rfl rfl
set_option maxRecDepth 20000 in
theorem q_30_12 : Cond.selects RX11 yX11_told yX11_told ∈ wsL_law := wq_6 79 rfl rfl
set_option maxRecDepth 20000 in
theorem q_30_13 : Cond.code yX11_told cX11_told 2 (some .int) ∈ wsL_law := wq_6 80 rfl rfl
set_option maxRecDepth 20000 in
theorem q_30_14 : Cond.methodLink RX11 257 yX11_lands ∈ wsL_law := wq_6 81 rfl rfl
set_option maxRecDepth 20000 in
theorem q_30_15 : Cond.instanceMethod yX11_lands ∈ wsL_law := wq_6 83 rfl rfl
set_option maxRecDepth 20000 in
theorem q_30_16 : Cond.selects RX11 yX11_lands yX11_lands ∈ wsL_law := wp_3 12 rfl
set_option maxRecDepth 20000 in
theorem q_30_17 : Cond.code yX11_lands cX11_lands 3 (some .int) ∈ wsL_law := wq_6 84 rfl rfl
set_option maxRecDepth 20000 in
theorem q_30_18 : Cond.methodLink RX11 260 yX11_farthest ∈ wsL_law := wq_6 85 rfl rfl
set_option maxRecDepth 20000 in
theorem q_30_19 : Cond.instanceMethod yX11_farthest ∈ wsL_law := wq_6 87 rfl rfl
set_option maxRecDepth 20000 in
theorem q_30_20 : Cond.selects RX11 yX11_farthest yX11_farthest ∈ wsL_law := wp_3 13 rfl
set_option maxRecDepth 20000 in
theorem q_30_21 : Cond.code yX11_farthest cX11_farthest 3 (some .int) ∈ wsL_law := wq_6 88 rfl rfl
set_option maxRecDepth 20000 in
theorem q_30_22 : Cond.methodLink RL 67 yX10_pace ∈ wsL_law := wq_3 172 rfl rfl
set_option maxRecDepth 20000 in
theorem q_30_23 : Cond.instanceMethod yX10_pace ∈ wsL_law := wq_3 173 rfl rfl
set_option maxRecDepth 20000 in
theorem q_31_0 : Cond.selects RX10 yX10_pace yX10_pace ∈ wsL_law := wq_3 174 rfl rfl
set_option maxRecDepth 20000 in
theorem q_31_1 : Cond.code yX10_pace cX10_pace 4 (some .int) ∈ wsL_law := wq_3 175 rfl rfl
set_option maxRecDepth 20000 in
theorem q_31_2 : Cond.methodLink RX10 172 yX2_zoneOf ∈ wsL_law := wq_3 176 rfl rfl
set_option maxRecDepth 20000 in
theorem q_31_3 : Cond.methodLink RX10 177 yX2_spanOf ∈ wsL_law := wq_3 177 rfl rfl
set_option maxRecDepth 20000 in
theorem q_31_4 : Cond.methodLink RX10 180 yX6_paceBy ∈ wsL_law := wq_3 178 rfl rfl
set_option maxRecDepth 20000 in
theorem q_31_5 : Cond.methodLink RL 70 yX11_pace ∈ wsL_law := wq_6 45 rfl rfl
set_option maxRecDepth 20000 in
theorem q_31_6 : Cond.instanceMethod yX11_pace ∈ wsL_law := wq_6 46 rfl rfl
set_option maxRecDepth 20000 in
theorem q_31_7 : Cond.selects RX11 yX11_pace yX11_pace ∈ wsL_law := wq_6 47 rfl rfl
set_option maxRecDepth 20000 in
theorem q_31_8 : Cond.code yX11_pace cX11_pace 4 (some .int) ∈ wsL_law := wq_6 48 rfl rfl
set_option maxRecDepth 20000 in
theorem q_31_9 : Cond.methodLink RL 71 yX10_leg ∈ wsL_law := wq_3 179 rfl rfl
set_option maxRecDepth 20000 in
theorem q_31_10 : Cond.instanceMethod yX10_leg ∈ wsL_law := wq_3 180 rfl rfl
set_option maxRecDepth 20000 in
theorem q_31_11 : Cond.selects RX10 yX10_leg yX10_leg ∈ wsL_law := wq_3 181 rfl rfl
set_option maxRecDepth 20000 in
theorem q_31_12 : Cond.code yX10_leg cX10_leg 9 (some .int) ∈ wsL_law := wq_3 182 rfl rfl
set_option maxRecDepth 20000 in
theorem q_31_13 : Cond.constant RX10 193 (1000000000) ∈ wsL_law := wq_3 195 rfl rfl
set_option maxRecDepth 20000 in
theorem q_31_14 : Cond.methodLink RX10 183 yX1_freshLegs ∈ wsL_law := wq_3 183 rfl rfl
set_option maxRecDepth 20000 in
theorem q_31_15 : Cond.instanceMethod yX1_freshLegs ∈ wsL_law := wq_3 184 rfl rfl
set_option maxRecDepth 20000 in
theorem q_31_16 : Cond.selects RX1 yX1_freshLegs yX1_freshLegs ∈ wsL_law := wq_3 185 rfl rfl
set_option maxRecDepth 20000 in
theorem q_31_17 : Cond.code yX1_freshLegs cX1_freshLegs 1 (some (.object "SailCourses$Legs")) ∈ wsL_law := wq_3 186 rfl rfl
set_option maxRecDepth 20000 in
theorem q_31_18 : Cond.methodLink RX10 187 yX4_soonestDeparture ∈ wsL_law := wq_3 187 rfl rfl
set_option maxRecDepth 20000 in
theorem q_31_19 : Cond.instanceMethod yX4_soonestDeparture ∈ wsL_law := wq_3 188 rfl rfl
set_option maxRecDepth 20000 in
theorem q_31_20 : Cond.selects RX4 yX4_soonestDeparture yX4_soonestDeparture ∈ wsL_law := wq_3 189 rfl rfl
set_option maxRecDepth 20000 in
theorem q_31_21 : Cond.code yX4_soonestDeparture cX4_soonestDeparture 10 (some .int) ∈ wsL_law := wq_3 190 rfl rfl
set_option maxRecDepth 20000 in
theorem q_31_22 : Cond.methodLink RX4 70 yX4_targetOf ∈ wsL_law := wq_3 191 rfl rfl
set_option maxRecDepth 20000 in
theorem q_31_23 : Cond.methodLink RX4 73 yX4_departure ∈ wsL_law := wq_3 192 rfl rfl
set_option maxRecDepth 20000 in
theorem q_32_0 : Cond.methodLink RX4 76 yX4_kindOf ∈ wsL_law := wq_3 193 rfl rfl
set_option maxRecDepth 20000 in
theorem q_32_1 : Cond.methodLink RX4 79 yX4_arrival ∈ wsL_law := wq_3 194 rfl rfl
set_option maxRecDepth 20000 in
theorem q_32_2 : Cond.methodLink RX10 194 yX4_kindOf ∈ wsL_law := wq_3 196 rfl rfl
set_option maxRecDepth 20000 in
theorem q_32_3 : Cond.methodLink RX10 197 yX4_arrival ∈ wsL_law := wq_3 197 rfl rfl
set_option maxRecDepth 20000 in
theorem q_32_4 : Cond.methodLink RX10 200 yX4_sideThen ∈ wsL_law := wq_3 198 rfl rfl
set_option maxRecDepth 20000 in
theorem q_32_5 : Cond.methodLink RL 75 yX11_leg ∈ wsL_law := wq_6 49 rfl rfl
set_option maxRecDepth 20000 in
theorem q_32_6 : Cond.instanceMethod yX11_leg ∈ wsL_law := wq_6 50 rfl rfl
set_option maxRecDepth 20000 in
theorem q_32_7 : Cond.selects RX11 yX11_leg yX11_leg ∈ wsL_law := wq_6 51 rfl rfl
set_option maxRecDepth 20000 in
theorem q_32_8 : Cond.code yX11_leg cX11_leg 6 (some .int) ∈ wsL_law := wq_6 52 rfl rfl
set_option maxRecDepth 20000 in
theorem q_32_9 : Cond.methodLink RX11 241 yX11_soonest ∈ wsL_law := wq_6 53 rfl rfl
set_option maxRecDepth 20000 in
theorem q_32_10 : Cond.instanceMethod yX11_soonest ∈ wsL_law := wq_6 55 rfl rfl
set_option maxRecDepth 20000 in
theorem q_32_11 : Cond.selects RX11 yX11_soonest yX11_soonest ∈ wsL_law := wp_3 9 rfl
set_option maxRecDepth 20000 in
theorem q_32_12 : Cond.code yX11_soonest cX11_soonest 8 none ∈ wsL_law := wq_6 56 rfl rfl
set_option maxRecDepth 20000 in
theorem q_32_13 : Cond.methodLink RL 76 yX10_least ∈ wsL_law := wq_3 199 rfl rfl
set_option maxRecDepth 20000 in
theorem q_32_14 : Cond.instanceMethod yX10_least ∈ wsL_law := wq_3 200 rfl rfl
set_option maxRecDepth 20000 in
theorem q_32_15 : Cond.selects RX10 yX10_least yX10_least ∈ wsL_law := wq_3 201 rfl rfl
set_option maxRecDepth 20000 in
theorem q_32_16 : Cond.code yX10_least cX10_least 4 (some .int) ∈ wsL_law := wq_3 202 rfl rfl
set_option maxRecDepth 20000 in
theorem q_32_17 : Cond.methodLink RX10 203 yX1_leastWith ∈ wsL_law := wq_3 203 rfl rfl
set_option maxRecDepth 20000 in
theorem q_32_18 : Cond.instanceMethod yX1_leastWith ∈ wsL_law := wq_3 204 rfl rfl
set_option maxRecDepth 20000 in
theorem q_32_19 : Cond.selects RX1 yX1_leastWith yX1_leastWith ∈ wsL_law := wq_3 205 rfl rfl
set_option maxRecDepth 20000 in
theorem q_32_20 : Cond.code yX1_leastWith cX1_leastWith 3 (some .int) ∈ wsL_law := wq_3 206 rfl rfl
set_option maxRecDepth 20000 in
theorem q_32_21 : Cond.methodLink RL 79 yX11_least ∈ wsL_law := wq_6 57 rfl rfl
set_option maxRecDepth 20000 in
theorem q_32_22 : Cond.instanceMethod yX11_least ∈ wsL_law := wq_6 58 rfl rfl
set_option maxRecDepth 20000 in
theorem q_32_23 : Cond.selects RX11 yX11_least yX11_least ∈ wsL_law := wq_6 59 rfl rfl
set_option maxRecDepth 20000 in
theorem q_33_0 : Cond.code yX11_least cX11_least 4 (some .int) ∈ wsL_law := wq_6 60 rfl rfl
set_option maxRecDepth 20000 in
theorem q_33_1 : Cond.methodLink RL 80 yX10_last ∈ wsL_law := wq_3 207 rfl rfl
set_option maxRecDepth 20000 in
theorem q_33_2 : Cond.instanceMethod yX10_last ∈ wsL_law := wq_3 208 rfl rfl
set_option maxRecDepth 20000 in
theorem q_33_3 : Cond.selects RX10 yX10_last yX10_last ∈ wsL_law := wq_3 209 rfl rfl
set_option maxRecDepth 20000 in
theorem q_33_4 : Cond.code yX10_last cX10_last 3 (some .int) ∈ wsL_law := wq_3 210 rfl rfl
set_option maxRecDepth 20000 in
theorem q_33_5 : Cond.methodLink RX10 206 yX1_lastOf ∈ wsL_law := wq_3 211 rfl rfl
set_option maxRecDepth 20000 in
theorem q_33_6 : Cond.instanceMethod yX1_lastOf ∈ wsL_law := wq_3 212 rfl rfl
set_option maxRecDepth 20000 in
theorem q_33_7 : Cond.selects RX1 yX1_lastOf yX1_lastOf ∈ wsL_law := wq_3 213 rfl rfl
set_option maxRecDepth 20000 in
theorem q_33_8 : Cond.code yX1_lastOf cX1_lastOf 5 (some .int) ∈ wsL_law := wq_3 214 rfl rfl
set_option maxRecDepth 20000 in
theorem q_33_9 : Cond.methodLink RX1 114 yX1_seekLast ∈ wsL_law := wq_3 215 rfl rfl
set_option maxRecDepth 20000 in
theorem q_33_10 : Cond.instanceMethod yX1_seekLast ∈ wsL_law := wq_3 217 rfl rfl
set_option maxRecDepth 20000 in
theorem q_33_11 : Cond.selects RX1 yX1_seekLast yX1_seekLast ∈ wsL_law := wp_2 1 rfl
set_option maxRecDepth 20000 in
theorem q_33_12 : Cond.code yX1_seekLast cX1_seekLast 7 (some .int) ∈ wsL_law := wq_3 218 rfl rfl
set_option maxRecDepth 20000 in
theorem q_33_13 : Cond.fieldLink RX1 117 "SailCourses$Chart" "HEADINGS_INTO" "[I" ∈ wsL_law := wq_3 219 rfl rfl
set_option maxRecDepth 20000 in
theorem q_33_14 : Cond.methodLink RX1 120 yX2_squareBeside ∈ wsL_law := wq_3 221 rfl rfl
set_option maxRecDepth 20000 in
theorem q_33_15 : Cond.methodLink RX1 123 yX1_endsAtLeast ∈ wsL_law := wq_3 222 rfl rfl
set_option maxRecDepth 20000 in
theorem q_33_16 : Cond.instanceMethod yX1_endsAtLeast ∈ wsL_law := wq_3 224 rfl rfl
set_option maxRecDepth 20000 in
theorem q_33_17 : Cond.selects RX1 yX1_endsAtLeast yX1_endsAtLeast ∈ wsL_law := wp_2 2 rfl
set_option maxRecDepth 20000 in
theorem q_33_18 : Cond.code yX1_endsAtLeast cX1_endsAtLeast 8 (some .boolean) ∈ wsL_law := wq_3 225 rfl rfl
set_option maxRecDepth 20000 in
theorem q_33_19 : Cond.methodLink RL 83 yX11_last ∈ wsL_law := wq_6 61 rfl rfl
set_option maxRecDepth 20000 in
theorem q_33_20 : Cond.instanceMethod yX11_last ∈ wsL_law := wq_6 62 rfl rfl
set_option maxRecDepth 20000 in
theorem q_33_21 : Cond.selects RX11 yX11_last yX11_last ∈ wsL_law := wq_6 63 rfl rfl
set_option maxRecDepth 20000 in
theorem q_33_22 : Cond.code yX11_last cX11_last 3 (some .int) ∈ wsL_law := wq_6 64 rfl rfl
set_option maxRecDepth 20000 in
theorem q_33_23 : Cond.methodLink RX11 247 yX11_lastOf ∈ wsL_law := wq_6 65 rfl rfl
set_option maxRecDepth 20000 in
theorem q_34_0 : Cond.instanceMethod yX11_lastOf ∈ wsL_law := wq_6 67 rfl rfl
set_option maxRecDepth 20000 in
theorem q_34_1 : Cond.selects RX11 yX11_lastOf yX11_lastOf ∈ wsL_law := wp_3 10 rfl
set_option maxRecDepth 20000 in
theorem q_34_2 : Cond.code yX11_lastOf cX11_lastOf 4 (some .int) ∈ wsL_law := wq_6 68 rfl rfl
set_option maxRecDepth 20000 in
theorem q_34_3 : Cond.methodLink RL 84 yX10_course ∈ wsL_law := wq_3 226 rfl rfl
set_option maxRecDepth 20000 in
theorem q_34_4 : Cond.instanceMethod yX10_course ∈ wsL_law := wq_3 227 rfl rfl
set_option maxRecDepth 20000 in
theorem q_34_5 : Cond.selects RX10 yX10_course yX10_course ∈ wsL_law := wq_3 228 rfl rfl
set_option maxRecDepth 20000 in
theorem q_34_6 : Cond.code yX10_course cX10_course 4 (some .int) ∈ wsL_law := wq_3 229 rfl rfl
set_option maxRecDepth 20000 in
theorem q_34_7 : Cond.methodLink RX10 209 yX1_layCourse ∈ wsL_law := wq_3 230 rfl rfl
set_option maxRecDepth 20000 in
theorem q_34_8 : Cond.instanceMethod yX1_layCourse ∈ wsL_law := wq_3 231 rfl rfl
set_option maxRecDepth 20000 in
theorem q_34_9 : Cond.selects RX1 yX1_layCourse yX1_layCourse ∈ wsL_law := wq_3 232 rfl rfl
set_option maxRecDepth 20000 in
theorem q_34_10 : Cond.code yX1_layCourse cX1_layCourse 5 (some .int) ∈ wsL_law := wq_3 233 rfl rfl
set_option maxRecDepth 20000 in
theorem q_34_11 : Cond.methodLink RX1 127 yX1_lastOf ∈ wsL_law := wq_3 234 rfl rfl
set_option maxRecDepth 20000 in
theorem q_34_12 : Cond.methodLink RX10 212 yX1_courseHeading ∈ wsL_law := wq_3 235 rfl rfl
set_option maxRecDepth 20000 in
theorem q_34_13 : Cond.instanceMethod yX1_courseHeading ∈ wsL_law := wq_3 236 rfl rfl
set_option maxRecDepth 20000 in
theorem q_34_14 : Cond.selects RX1 yX1_courseHeading yX1_courseHeading ∈ wsL_law := wq_3 237 rfl rfl
set_option maxRecDepth 20000 in
theorem q_34_15 : Cond.code yX1_courseHeading cX1_courseHeading 2 (some .int) ∈ wsL_law := wq_3 238 rfl rfl
set_option maxRecDepth 20000 in
theorem q_34_16 : Cond.methodLink RL 87 yX11_course ∈ wsL_law := wq_6 69 rfl rfl
set_option maxRecDepth 20000 in
theorem q_34_17 : Cond.instanceMethod yX11_course ∈ wsL_law := wq_6 70 rfl rfl
set_option maxRecDepth 20000 in
theorem q_34_18 : Cond.selects RX11 yX11_course yX11_course ∈ wsL_law := wq_6 71 rfl rfl
set_option maxRecDepth 20000 in
theorem q_34_19 : Cond.code yX11_course cX11_course 3 (some .int) ∈ wsL_law := wq_6 72 rfl rfl
set_option maxRecDepth 20000 in
theorem q_34_20 : Cond.fieldLink RX11 250 "SailCoursesModel" "legMany" "I" ∈ wsL_law := wq_5 35 rfl rfl
set_option maxRecDepth 20000 in
theorem q_34_21 : Cond.methodLink RX11 253 yX11_courseTo ∈ wsL_law := wq_6 73 rfl rfl
set_option maxRecDepth 20000 in
theorem q_34_22 : Cond.instanceMethod yX11_courseTo ∈ wsL_law := wq_6 75 rfl rfl
set_option maxRecDepth 20000 in
theorem q_34_23 : Cond.selects RX11 yX11_courseTo yX11_courseTo ∈ wsL_law := wp_3 11 rfl
set_option maxRecDepth 20000 in
theorem q_35_0 : Cond.code yX11_courseTo cX11_courseTo 4 none ∈ wsL_law := wq_6 76 rfl rfl
set_option maxRecDepth 20000 in
theorem q_35_1 : Cond.methodLink RL 88 yX10_reckon ∈ wsL_law := wq_4 0 rfl rfl
set_option maxRecDepth 20000 in
theorem q_35_2 : Cond.instanceMethod yX10_reckon ∈ wsL_law := wq_4 1 rfl rfl
set_option maxRecDepth 20000 in
theorem q_35_3 : Cond.selects RX10 yX10_reckon yX10_reckon ∈ wsL_law := wq_4 2 rfl rfl
set_option maxRecDepth 20000 in
theorem q_35_4 : Cond.code yX10_reckon cX10_reckon 5 (some .long) ∈ wsL_law := wq_4 3 rfl rfl
set_option maxRecDepth 20000 in
theorem q_35_5 : Cond.constantLong RX10 215 (-9223372036854775808) ∈ wsL_law := wq_4 4 rfl rfl
set_option maxRecDepth 20000 in
theorem q_35_6 : Cond.constantLong RX10 227 (4294967295) ∈ wsL_law := wq_4 37 rfl rfl
set_option maxRecDepth 20000 in
theorem q_35_7 : Cond.methodLink RX10 217 yX10_reckoned ∈ wsL_law := wq_4 5 rfl rfl
set_option maxRecDepth 20000 in
theorem q_35_8 : Cond.instanceMethod yX10_reckoned ∈ wsL_law := wq_4 7 rfl rfl
set_option maxRecDepth 20000 in
theorem q_35_9 : Cond.selects RX10 yX10_reckoned yX10_reckoned ∈ wsL_law := wp_2 3 rfl
set_option maxRecDepth 20000 in
theorem q_35_10 : Cond.code yX10_reckoned cX10_reckoned 11 (some .double) ∈ wsL_law := wq_4 8 rfl rfl
set_option maxRecDepth 20000 in
theorem q_35_11 : Cond.constantFloat RX10 329 (1086324736) ∈ wsL_law := wq_4 18 rfl rfl
set_option maxRecDepth 20000 in
theorem q_35_12 : Cond.methodLink RX10 274 yX5_size ∈ wsL_law := wq_4 9 rfl rfl
set_option maxRecDepth 20000 in
theorem q_35_13 : Cond.instanceMethod yX5_size ∈ wsL_law := wq_4 10 rfl rfl
set_option maxRecDepth 20000 in
theorem q_35_14 : Cond.selects RX5 yX5_size yX5_size ∈ wsL_law := wq_4 11 rfl rfl
set_option maxRecDepth 20000 in
theorem q_35_15 : Cond.code yX5_size cX5_size 1 (some .int) ∈ wsL_law := wq_4 12 rfl rfl
set_option maxRecDepth 20000 in
theorem q_35_16 : Cond.methodLink RX10 277 yX5_first ∈ wsL_law := wq_4 13 rfl rfl
set_option maxRecDepth 20000 in
theorem q_35_17 : Cond.instanceMethod yX5_first ∈ wsL_law := wq_4 14 rfl rfl
set_option maxRecDepth 20000 in
theorem q_35_18 : Cond.selects RX5 yX5_first yX5_first ∈ wsL_law := wq_4 15 rfl rfl
set_option maxRecDepth 20000 in
theorem q_35_19 : Cond.code yX5_first cX5_first 2 (some .int) ∈ wsL_law := wq_4 16 rfl rfl
set_option maxRecDepth 20000 in
theorem q_35_20 : Cond.methodLink RX10 330 yX2_sine ∈ wsL_law := wq_4 19 rfl rfl
set_option maxRecDepth 20000 in
theorem q_35_21 : Cond.static yX2_sine ∈ wsL_law := wq_4 20 rfl rfl
set_option maxRecDepth 20000 in
theorem q_35_22 : Cond.code yX2_sine cX2_sine 1 (some .double) ∈ wsL_law := wq_4 21 rfl rfl
set_option maxRecDepth 20000 in
theorem q_35_23 : Cond.constantDouble RX2 18 (4604544271217802189) ∈ wsL_law := wq_4 22 rfl rfl
set_option maxRecDepth 20000 in
theorem q_36_0 : Cond.constantDouble RX2 20 (13827916308072577997) ∈ wsL_law := wq_4 23 rfl rfl
set_option maxRecDepth 20000 in
theorem q_36_1 : Cond.constantDouble RX2 22 (13830554455654793216) ∈ wsL_law := wq_4 24 rfl rfl
set_option maxRecDepth 20000 in
theorem q_36_2 : Cond.methodLink RX10 334 yX2_cosine ∈ wsL_law := wq_4 25 rfl rfl
set_option maxRecDepth 20000 in
theorem q_36_3 : Cond.static yX2_cosine ∈ wsL_law := wq_4 26 rfl rfl
set_option maxRecDepth 20000 in
theorem q_36_4 : Cond.code yX2_cosine cX2_cosine 1 (some .double) ∈ wsL_law := wq_4 27 rfl rfl
set_option maxRecDepth 20000 in
theorem q_36_5 : Cond.methodLink RX2 24 yX2_sine ∈ wsL_law := wq_4 28 rfl rfl
set_option maxRecDepth 20000 in
theorem q_36_6 : Cond.methodLink RX10 221 yX0_ofDouble ∈ wsL_law := wq_4 29 rfl rfl
set_option maxRecDepth 20000 in
theorem q_36_7 : Cond.static yX0_ofDouble ∈ wsL_law := wq_4 30 rfl rfl
set_option maxRecDepth 20000 in
theorem q_36_8 : Cond.initialized RX0 ∈ wsL_law := wq_1 21 rfl rfl
set_option maxRecDepth 20000 in
theorem q_36_9 : Cond.code yX0_ofDouble cX0_ofDouble 2 (some .long) ∈ wsL_law := wq_4 31 rfl rfl
set_option maxRecDepth 20000 in
theorem q_36_10 : Cond.constantLong RX0 13 (-9223372036854775808) ∈ wsL_law := wq_4 36 rfl rfl
set_option maxRecDepth 20000 in
theorem q_36_11 : Cond.methodLink RX0 7 yX0_ofMagnitude ∈ wsL_law := wq_4 32 rfl rfl
set_option maxRecDepth 20000 in
theorem q_36_12 : Cond.static yX0_ofMagnitude ∈ wsL_law := wq_4 33 rfl rfl
set_option maxRecDepth 20000 in
theorem q_36_13 : Cond.code yX0_ofMagnitude cX0_ofMagnitude 9 (some .long) ∈ wsL_law := wq_4 34 rfl rfl
set_option maxRecDepth 20000 in
theorem q_36_14 : Cond.constantDouble RX0 15 (4611686018427387904) ∈ wsL_law := wq_4 35 rfl rfl
set_option maxRecDepth 20000 in
theorem q_36_15 : Cond.methodLink RL 92 yX11_reckon ∈ wsL_law := wq_6 89 rfl rfl
set_option maxRecDepth 20000 in
theorem q_36_16 : Cond.instanceMethod yX11_reckon ∈ wsL_law := wq_6 90 rfl rfl
set_option maxRecDepth 20000 in
theorem q_36_17 : Cond.selects RX11 yX11_reckon yX11_reckon ∈ wsL_law := wq_6 91 rfl rfl
set_option maxRecDepth 20000 in
theorem q_36_18 : Cond.code yX11_reckon cX11_reckon 10 (some .long) ∈ wsL_law := wq_6 92 rfl rfl
set_option maxRecDepth 20000 in
theorem q_36_19 : Cond.constantLong RX11 276 (-9223372036854775808) ∈ wsL_law := wq_6 96 rfl rfl
set_option maxRecDepth 20000 in
theorem q_36_20 : Cond.constantFloat RX11 278 (1086324736) ∈ wsL_law := wq_6 97 rfl rfl
set_option maxRecDepth 20000 in
theorem q_36_21 : Cond.constantLong RX11 288 (4294967295) ∈ wsL_law := wq_6 117 rfl rfl
set_option maxRecDepth 20000 in
theorem q_36_22 : Cond.methodLink RX11 273 yX11_isPart ∈ wsL_law := wq_6 93 rfl rfl
set_option maxRecDepth 20000 in
theorem q_36_23 : Cond.static yX11_isPart ∈ wsL_law := wq_6 94 rfl rfl
set_option maxRecDepth 20000 in
theorem q_37_0 : Cond.code yX11_isPart cX11_isPart 1 (some .boolean) ∈ wsL_law := wq_6 95 rfl rfl
set_option maxRecDepth 20000 in
theorem q_37_1 : Cond.methodLink RX11 269 yX11_sine ∈ wsL_law := wq_6 98 rfl rfl
set_option maxRecDepth 20000 in
theorem q_37_2 : Cond.static yX11_sine ∈ wsL_law := wq_6 99 rfl rfl
set_option maxRecDepth 20000 in
theorem q_37_3 : Cond.code yX11_sine cX11_sine 1 (some .double) ∈ wsL_law := wq_6 100 rfl rfl
set_option maxRecDepth 20000 in
theorem q_37_4 : Cond.constantDouble RX11 263 (13830554455654793216) ∈ wsL_law := wq_6 101 rfl rfl
set_option maxRecDepth 20000 in
theorem q_37_5 : Cond.constantDouble RX11 265 (4604544271217802189) ∈ wsL_law := wq_6 102 rfl rfl
set_option maxRecDepth 20000 in
theorem q_37_6 : Cond.constantDouble RX11 267 (13827916308072577997) ∈ wsL_law := wq_6 103 rfl rfl
set_option maxRecDepth 20000 in
theorem q_37_7 : Cond.methodLink RX11 279 yX11_cosine ∈ wsL_law := wq_6 104 rfl rfl
set_option maxRecDepth 20000 in
theorem q_37_8 : Cond.static yX11_cosine ∈ wsL_law := wq_6 105 rfl rfl
set_option maxRecDepth 20000 in
theorem q_37_9 : Cond.code yX11_cosine cX11_cosine 1 (some .double) ∈ wsL_law := wq_6 106 rfl rfl
set_option maxRecDepth 20000 in
theorem q_37_10 : Cond.methodLink RX11 282 yJxe99ae_doubleToLongBits_ccdee ∈ wsL_law := wq_6 107 rfl rfl
set_option maxRecDepth 20000 in
theorem q_37_11 : Cond.static yJxe99ae_doubleToLongBits_ccdee ∈ wsL_law := wq_6 108 rfl rfl
set_option maxRecDepth 20000 in
theorem q_37_12 : Cond.initialized RJxe99ae ∈ wsL_law := wq_1 22 rfl rfl
set_option maxRecDepth 20000 in
theorem q_37_13 : Cond.code yJxe99ae_doubleToLongBits_ccdee cJxe99ae_doubleToLongBits_ccdee 2 (some .long) ∈ wsL_law := wq_6 109 rfl rfl
set_option maxRecDepth 20000 in
theorem q_37_14 : Cond.methodLink RJxe99ae 134 ⟨"java/lang/Double", "doubleToRawLongBits", "(D)J"⟩ ∈ wsL_law := wq_6 113 rfl rfl
set_option maxRecDepth 20000 in
theorem q_37_15 : Cond.native ⟨"java/lang/Double", "doubleToRawLongBits", "(D)J"⟩ ∈ wsL_law := wq_6 115 rfl rfl
set_option maxRecDepth 20000 in
theorem q_37_16 : Cond.static ⟨"java/lang/Double", "doubleToRawLongBits", "(D)J"⟩ ∈ wsL_law := wq_6 114 rfl rfl
set_option maxRecDepth 20000 in
theorem q_37_17 : Cond.initialized "java/lang/Double" ∈ wsL_law := wq_1 22 rfl rfl
set_option maxRecDepth 20000 in
theorem q_37_18 : Cond.constantLong RJxe99ae 137 (9221120237041090560) ∈ wsL_law := wq_6 116 rfl rfl
set_option maxRecDepth 20000 in
theorem q_37_19 : Cond.methodLink RJxe99ae 122 yJxe99ae_isNaN_b9ae7 ∈ wsL_law := wq_6 110 rfl rfl
set_option maxRecDepth 20000 in
theorem q_37_20 : Cond.static yJxe99ae_isNaN_b9ae7 ∈ wsL_law := wq_6 111 rfl rfl
set_option maxRecDepth 20000 in
theorem q_37_21 : Cond.code yJxe99ae_isNaN_b9ae7 cJxe99ae_isNaN_b9ae7 2 (some .boolean) ∈ wsL_law := wq_6 112 rfl rfl
set_option maxRecDepth 20000 in
theorem q_37_22 : Cond.methodLink RL 93 yX10_meanPace ∈ wsL_law := wq_4 38 rfl rfl
set_option maxRecDepth 20000 in
theorem q_37_23 : Cond.instanceMethod yX10_meanPace ∈ wsL_law := wq_4 39 rfl rfl
set_option maxRecDepth 20000 in
theorem q_38_0 : Cond.selects RX10 yX10_meanPace yX10_meanPace ∈ wsL_law := wq_4 40 rfl rfl
set_option maxRecDepth 20000 in
theorem q_38_1 : Cond.code yX10_meanPace cX10_meanPace 4 (some .long) ∈ wsL_law := wq_4 41 rfl rfl
set_option maxRecDepth 20000 in
theorem q_38_2 : Cond.methodLink RX10 229 yX1_courseLength ∈ wsL_law := wq_4 42 rfl rfl
set_option maxRecDepth 20000 in
theorem q_38_3 : Cond.instanceMethod yX1_courseLength ∈ wsL_law := wq_4 43 rfl rfl
set_option maxRecDepth 20000 in
theorem q_38_4 : Cond.selects RX1 yX1_courseLength yX1_courseLength ∈ wsL_law := wq_4 44 rfl rfl
set_option maxRecDepth 20000 in
theorem q_38_5 : Cond.code yX1_courseLength cX1_courseLength 3 (some .int) ∈ wsL_law := wq_4 45 rfl rfl
set_option maxRecDepth 20000 in
theorem q_38_6 : Cond.methodLink RX1 134 yX2_lengthOf ∈ wsL_law := wq_4 46 rfl rfl
set_option maxRecDepth 20000 in
theorem q_38_7 : Cond.methodLink RX10 232 yX0_ofFloat ∈ wsL_law := wq_4 47 rfl rfl
set_option maxRecDepth 20000 in
theorem q_38_8 : Cond.static yX0_ofFloat ∈ wsL_law := wq_4 48 rfl rfl
set_option maxRecDepth 20000 in
theorem q_38_9 : Cond.code yX0_ofFloat cX0_ofFloat 1 (some .long) ∈ wsL_law := wq_4 49 rfl rfl
set_option maxRecDepth 20000 in
theorem q_38_10 : Cond.methodLink RL 97 yX11_meanPace ∈ wsL_law := wq_6 118 rfl rfl
set_option maxRecDepth 20000 in
theorem q_38_11 : Cond.instanceMethod yX11_meanPace ∈ wsL_law := wq_6 119 rfl rfl
set_option maxRecDepth 20000 in
theorem q_38_12 : Cond.selects RX11 yX11_meanPace yX11_meanPace ∈ wsL_law := wq_6 120 rfl rfl
set_option maxRecDepth 20000 in
theorem q_38_13 : Cond.code yX11_meanPace cX11_meanPace 5 (some .long) ∈ wsL_law := wq_6 121 rfl rfl
set_option maxRecDepth 20000 in
theorem q_38_14 : Cond.methodLink RX11 290 yJxf58ca_floatToIntBits_5c35a ∈ wsL_law := wq_6 122 rfl rfl
set_option maxRecDepth 20000 in
theorem q_38_15 : Cond.static yJxf58ca_floatToIntBits_5c35a ∈ wsL_law := wq_6 123 rfl rfl
set_option maxRecDepth 20000 in
theorem q_38_16 : Cond.initialized RJxf58ca ∈ wsL_law := wq_1 23 rfl rfl
set_option maxRecDepth 20000 in
theorem q_38_17 : Cond.code yJxf58ca_floatToIntBits_5c35a cJxf58ca_floatToIntBits_5c35a 1 (some .int) ∈ wsL_law := wq_6 124 rfl rfl
set_option maxRecDepth 20000 in
theorem q_38_18 : Cond.methodLink RJxf58ca 74 ⟨"java/lang/Float", "floatToRawIntBits", "(F)I"⟩ ∈ wsL_law := wq_6 128 rfl rfl
set_option maxRecDepth 20000 in
theorem q_38_19 : Cond.native ⟨"java/lang/Float", "floatToRawIntBits", "(F)I"⟩ ∈ wsL_law := wq_6 130 rfl rfl
set_option maxRecDepth 20000 in
theorem q_38_20 : Cond.static ⟨"java/lang/Float", "floatToRawIntBits", "(F)I"⟩ ∈ wsL_law := wq_6 129 rfl rfl
set_option maxRecDepth 20000 in
theorem q_38_21 : Cond.initialized "java/lang/Float" ∈ wsL_law := wq_1 23 rfl rfl
set_option maxRecDepth 20000 in
theorem q_38_22 : Cond.constant RJxf58ca 77 (2143289344) ∈ wsL_law := wq_6 131 rfl rfl
set_option maxRecDepth 20000 in
theorem q_38_23 : Cond.methodLink RJxf58ca 59 yJxf58ca_isNaN_12338 ∈ wsL_law := wq_6 125 rfl rfl
set_option maxRecDepth 20000 in
theorem q_39_0 : Cond.static yJxf58ca_isNaN_12338 ∈ wsL_law := wq_6 126 rfl rfl
set_option maxRecDepth 20000 in
theorem q_39_1 : Cond.code yJxf58ca_isNaN_12338 cJxf58ca_isNaN_12338 1 (some .boolean) ∈ wsL_law := wq_6 127 rfl rfl
set_option maxRecDepth 20000 in
theorem q_39_2 : Cond.methodLink RL 98 yX10_see ∈ wsL_law := wq_4 50 rfl rfl
set_option maxRecDepth 20000 in
theorem q_39_3 : Cond.instanceMethod yX10_see ∈ wsL_law := wq_4 51 rfl rfl
set_option maxRecDepth 20000 in
theorem q_39_4 : Cond.selects RX10 yX10_see yX10_see ∈ wsL_law := wq_4 52 rfl rfl
set_option maxRecDepth 20000 in
theorem q_39_5 : Cond.code yX10_see cX10_see 3 (some .int) ∈ wsL_law := wq_4 53 rfl rfl
set_option maxRecDepth 20000 in
theorem q_39_6 : Cond.fieldLink RX10 236 "SailCourses$Hand" "seen" "LSailCourses$Rows;" ∈ wsL_law := wq_1 115 rfl rfl
set_option maxRecDepth 20000 in
theorem q_39_7 : Cond.methodLink RX10 239 yX10_tellSquareAndMinute ∈ wsL_law := wq_4 54 rfl rfl
set_option maxRecDepth 20000 in
theorem q_39_8 : Cond.static yX10_tellSquareAndMinute ∈ wsL_law := wq_4 55 rfl rfl
set_option maxRecDepth 20000 in
theorem q_39_9 : Cond.code yX10_tellSquareAndMinute cX10_tellSquareAndMinute 3 (some .int) ∈ wsL_law := wq_4 56 rfl rfl
set_option maxRecDepth 20000 in
theorem q_39_10 : Cond.constant RX10 251 (99999) ∈ wsL_law := wq_4 57 rfl rfl
set_option maxRecDepth 20000 in
theorem q_39_11 : Cond.methodLink RL 101 yX11_see ∈ wsL_law := wq_6 132 rfl rfl
set_option maxRecDepth 20000 in
theorem q_39_12 : Cond.instanceMethod yX11_see ∈ wsL_law := wq_6 133 rfl rfl
set_option maxRecDepth 20000 in
theorem q_39_13 : Cond.selects RX11 yX11_see yX11_see ∈ wsL_law := wq_6 134 rfl rfl
set_option maxRecDepth 20000 in
theorem q_39_14 : Cond.code yX11_see cX11_see 3 (some .int) ∈ wsL_law := wq_6 135 rfl rfl
set_option maxRecDepth 20000 in
theorem q_39_15 : Cond.fieldLink RX11 296 "SailCoursesModel" "seen" "I" ∈ wsL_law := wq_5 12 rfl rfl
set_option maxRecDepth 20000 in
theorem q_39_16 : Cond.constant RX11 299 (99999) ∈ wsL_law := wq_6 136 rfl rfl
set_option maxRecDepth 20000 in
theorem q_39_17 : Cond.methodLink RL 102 yX10_fits ∈ wsL_law := wq_4 58 rfl rfl
set_option maxRecDepth 20000 in
theorem q_39_18 : Cond.instanceMethod yX10_fits ∈ wsL_law := wq_4 59 rfl rfl
set_option maxRecDepth 20000 in
theorem q_39_19 : Cond.selects RX10 yX10_fits yX10_fits ∈ wsL_law := wq_4 60 rfl rfl
set_option maxRecDepth 20000 in
theorem q_39_20 : Cond.code yX10_fits cX10_fits 7 (some .int) ∈ wsL_law := wq_4 61 rfl rfl
set_option maxRecDepth 20000 in
theorem q_39_21 : Cond.methodLink RX10 243 yX8_turnWind ∈ wsL_law := wq_4 62 rfl rfl
set_option maxRecDepth 20000 in
theorem q_39_22 : Cond.instanceMethod yX8_turnWind ∈ wsL_law := wq_4 63 rfl rfl
set_option maxRecDepth 20000 in
theorem q_39_23 : Cond.selects RX8 yX8_turnWind yX8_turnWind ∈ wsL_law := wq_4 64 rfl rfl
set_option maxRecDepth 20000 in
theorem q_40_0 : Cond.code yX8_turnWind cX8_turnWind 6 none ∈ wsL_law := wq_4 65 rfl rfl
set_option maxRecDepth 20000 in
theorem q_40_1 : Cond.fieldLink RX8 41 "SailCourses$Sea" "version" "I" ∈ wsL_law := wq_1 64 rfl rfl
set_option maxRecDepth 20000 in
theorem q_40_2 : Cond.methodLink RX8 42 yX6_becomeLike ∈ wsL_law := wq_4 66 rfl rfl
set_option maxRecDepth 20000 in
theorem q_40_3 : Cond.instanceMethod yX6_becomeLike ∈ wsL_law := wq_4 67 rfl rfl
set_option maxRecDepth 20000 in
theorem q_40_4 : Cond.selects RX6 yX6_becomeLike yX6_becomeLike ∈ wsL_law := wq_4 68 rfl rfl
set_option maxRecDepth 20000 in
theorem q_40_5 : Cond.code yX6_becomeLike cX6_becomeLike 2 none ∈ wsL_law := wq_4 69 rfl rfl
set_option maxRecDepth 20000 in
theorem q_40_6 : Cond.methodLink RX8 45 yX6_forceIn ∈ wsL_law := wq_4 70 rfl rfl
set_option maxRecDepth 20000 in
theorem q_40_7 : Cond.methodLink RX8 49 yX6_putWind ∈ wsL_law := wq_4 71 rfl rfl
set_option maxRecDepth 20000 in
theorem q_40_8 : Cond.methodLink RX8 53 yX1_freshen ∈ wsL_law := wq_4 72 rfl rfl
set_option maxRecDepth 20000 in
theorem q_40_9 : Cond.methodLink RX8 56 yX1_leastOf ∈ wsL_law := wq_4 73 rfl rfl
set_option maxRecDepth 20000 in
theorem q_40_10 : Cond.methodLink RX10 247 yX8_allSeenInTime ∈ wsL_law := wq_4 74 rfl rfl
set_option maxRecDepth 20000 in
theorem q_40_11 : Cond.instanceMethod yX8_allSeenInTime ∈ wsL_law := wq_4 75 rfl rfl
set_option maxRecDepth 20000 in
theorem q_40_12 : Cond.selects RX8 yX8_allSeenInTime yX8_allSeenInTime ∈ wsL_law := wq_4 76 rfl rfl
set_option maxRecDepth 20000 in
theorem q_40_13 : Cond.code yX8_allSeenInTime cX8_allSeenInTime 4 (some .boolean) ∈ wsL_law := wq_4 77 rfl rfl
set_option maxRecDepth 20000 in
theorem q_40_14 : Cond.methodLink RX8 60 yX5_size ∈ wsL_law := wq_4 78 rfl rfl
set_option maxRecDepth 20000 in
theorem q_40_15 : Cond.methodLink RX8 66 yX5_first ∈ wsL_law := wq_4 79 rfl rfl
set_option maxRecDepth 20000 in
theorem q_40_16 : Cond.methodLink RX8 69 yX8_leastWhenFrom ∈ wsL_law := wq_4 80 rfl rfl
set_option maxRecDepth 20000 in
theorem q_40_17 : Cond.instanceMethod yX8_leastWhenFrom ∈ wsL_law := wq_4 81 rfl rfl
set_option maxRecDepth 20000 in
theorem q_40_18 : Cond.selects RX8 yX8_leastWhenFrom yX8_leastWhenFrom ∈ wsL_law := wq_4 82 rfl rfl
set_option maxRecDepth 20000 in
theorem q_40_19 : Cond.code yX8_leastWhenFrom cX8_leastWhenFrom 3 (some .int) ∈ wsL_law := wq_4 83 rfl rfl
set_option maxRecDepth 20000 in
theorem q_40_20 : Cond.methodLink RX8 72 yX5_second ∈ wsL_law := wq_4 84 rfl rfl
set_option maxRecDepth 20000 in
theorem q_40_21 : Cond.instanceMethod yX5_second ∈ wsL_law := wq_4 85 rfl rfl
set_option maxRecDepth 20000 in
theorem q_40_22 : Cond.selects RX5 yX5_second yX5_second ∈ wsL_law := wq_4 86 rfl rfl
set_option maxRecDepth 20000 in
theorem q_40_23 : Cond.code yX5_second cX5_second 2 (some .int) ∈ wsL_law := wq_4 87 rfl rfl
set_option maxRecDepth 20000 in
theorem q_41_0 : Cond.methodLink RL 105 yX11_fits ∈ wsL_law := wq_6 137 rfl rfl
set_option maxRecDepth 20000 in
theorem q_41_1 : Cond.instanceMethod yX11_fits ∈ wsL_law := wq_6 138 rfl rfl
set_option maxRecDepth 20000 in
theorem q_41_2 : Cond.selects RX11 yX11_fits yX11_fits ∈ wsL_law := wq_6 139 rfl rfl
set_option maxRecDepth 20000 in
theorem q_41_3 : Cond.code yX11_fits cX11_fits 8 (some .int) ∈ wsL_law := wq_6 140 rfl rfl
set_option maxRecDepth 20000 in
theorem q_41_4 : Cond.methodLink RX11 303 yX11_allSeen ∈ wsL_law := wq_6 141 rfl rfl
set_option maxRecDepth 20000 in
theorem q_41_5 : Cond.instanceMethod yX11_allSeen ∈ wsL_law := wq_6 143 rfl rfl
set_option maxRecDepth 20000 in
theorem q_41_6 : Cond.selects RX11 yX11_allSeen yX11_allSeen ∈ wsL_law := wp_3 14 rfl
set_option maxRecDepth 20000 in
theorem q_41_7 : Cond.code yX11_allSeen cX11_allSeen 2 (some .boolean) ∈ wsL_law := wq_6 144 rfl rfl
set_option maxRecDepth 20000 in
theorem q_41_8 : Cond.methodLink RX11 300 yX11_isBy ∈ wsL_law := wq_6 145 rfl rfl
set_option maxRecDepth 20000 in
theorem q_41_9 : Cond.instanceMethod yX11_isBy ∈ wsL_law := wq_6 147 rfl rfl
set_option maxRecDepth 20000 in
theorem q_41_10 : Cond.selects RX11 yX11_isBy yX11_isBy ∈ wsL_law := wp_3 15 rfl
set_option maxRecDepth 20000 in
theorem q_41_11 : Cond.code yX11_isBy cX11_isBy 3 (some .boolean) ∈ wsL_law := wq_6 148 rfl rfl
set_option maxRecDepth 20000 in
theorem q_41_12 : Cond.methodLink RL 106 yX10_odds ∈ wsL_law := wq_4 88 rfl rfl
set_option maxRecDepth 20000 in
theorem q_41_13 : Cond.instanceMethod yX10_odds ∈ wsL_law := wq_4 89 rfl rfl
set_option maxRecDepth 20000 in
theorem q_41_14 : Cond.selects RX10 yX10_odds yX10_odds ∈ wsL_law := wq_4 90 rfl rfl
set_option maxRecDepth 20000 in
theorem q_41_15 : Cond.code yX10_odds cX10_odds 8 (some .long) ∈ wsL_law := wq_4 91 rfl rfl
set_option maxRecDepth 20000 in
theorem q_41_16 : Cond.constantLong RX10 255 (8) ∈ wsL_law := wq_4 93 rfl rfl
set_option maxRecDepth 20000 in
theorem q_41_17 : Cond.methodLink RX10 252 yX8_leastWhenFrom ∈ wsL_law := wq_4 92 rfl rfl
set_option maxRecDepth 20000 in
theorem q_41_18 : Cond.methodLink RX10 257 yX10_fractionPart ∈ wsL_law := wq_4 94 rfl rfl
set_option maxRecDepth 20000 in
theorem q_41_19 : Cond.static yX10_fractionPart ∈ wsL_law := wq_4 95 rfl rfl
set_option maxRecDepth 20000 in
theorem q_41_20 : Cond.code yX10_fractionPart cX10_fractionPart 7 (some .long) ∈ wsL_law := wq_4 96 rfl rfl
set_option maxRecDepth 20000 in
theorem q_41_21 : Cond.methodLink RX10 325 yX0_greatestDivisor ∈ wsL_law := wq_4 97 rfl rfl
set_option maxRecDepth 20000 in
theorem q_41_22 : Cond.static yX0_greatestDivisor ∈ wsL_law := wq_4 98 rfl rfl
set_option maxRecDepth 20000 in
theorem q_41_23 : Cond.code yX0_greatestDivisor cX0_greatestDivisor 11 (some .long) ∈ wsL_law := wq_4 99 rfl rfl
set_option maxRecDepth 20000 in
theorem q_42_0 : Cond.methodLink RL 110 yX11_odds ∈ wsL_law := wq_6 149 rfl rfl
set_option maxRecDepth 20000 in
theorem q_42_1 : Cond.instanceMethod yX11_odds ∈ wsL_law := wq_6 150 rfl rfl
set_option maxRecDepth 20000 in
theorem q_42_2 : Cond.selects RX11 yX11_odds yX11_odds ∈ wsL_law := wq_6 151 rfl rfl
set_option maxRecDepth 20000 in
theorem q_42_3 : Cond.code yX11_odds cX11_odds 9 (some .long) ∈ wsL_law := wq_6 152 rfl rfl
set_option maxRecDepth 20000 in
theorem q_42_4 : Cond.constantLong RX11 310 (8) ∈ wsL_law := wq_6 153 rfl rfl
set_option maxRecDepth 20000 in
theorem q_42_5 : Cond.methodLink RX11 312 yX11_part ∈ wsL_law := wq_6 154 rfl rfl
set_option maxRecDepth 20000 in
theorem q_42_6 : Cond.static yX11_part ∈ wsL_law := wq_6 155 rfl rfl
set_option maxRecDepth 20000 in
theorem q_42_7 : Cond.code yX11_part cX11_part 5 (some .long) ∈ wsL_law := wq_6 156 rfl rfl
set_option maxRecDepth 20000 in
theorem q_42_8 : Cond.methodLink RX11 306 yX11_divisor ∈ wsL_law := wq_6 157 rfl rfl
set_option maxRecDepth 20000 in
theorem q_42_9 : Cond.static yX11_divisor ∈ wsL_law := wq_6 158 rfl rfl
set_option maxRecDepth 20000 in
theorem q_42_10 : Cond.code yX11_divisor cX11_divisor 10 (some .long) ∈ wsL_law := wq_6 159 rfl rfl
set_option maxRecDepth 20000 in
theorem q_42_11 : Cond.methodLink RL 111 yX10_mean ∈ wsL_law := wq_4 100 rfl rfl
set_option maxRecDepth 20000 in
theorem q_42_12 : Cond.instanceMethod yX10_mean ∈ wsL_law := wq_4 101 rfl rfl
set_option maxRecDepth 20000 in
theorem q_42_13 : Cond.selects RX10 yX10_mean yX10_mean ∈ wsL_law := wq_4 102 rfl rfl
set_option maxRecDepth 20000 in
theorem q_42_14 : Cond.code yX10_mean cX10_mean 5 (some .long) ∈ wsL_law := wq_4 103 rfl rfl
set_option maxRecDepth 20000 in
theorem q_42_15 : Cond.methodLink RX10 261 yX1_leastTogether ∈ wsL_law := wq_4 104 rfl rfl
set_option maxRecDepth 20000 in
theorem q_42_16 : Cond.instanceMethod yX1_leastTogether ∈ wsL_law := wq_4 105 rfl rfl
set_option maxRecDepth 20000 in
theorem q_42_17 : Cond.selects RX1 yX1_leastTogether yX1_leastTogether ∈ wsL_law := wq_4 106 rfl rfl
set_option maxRecDepth 20000 in
theorem q_42_18 : Cond.code yX1_leastTogether cX1_leastTogether 3 (some .int) ∈ wsL_law := wq_4 107 rfl rfl
set_option maxRecDepth 20000 in
theorem q_42_19 : Cond.methodLink RL 114 yX11_mean ∈ wsL_law := wq_6 160 rfl rfl
set_option maxRecDepth 20000 in
theorem q_42_20 : Cond.instanceMethod yX11_mean ∈ wsL_law := wq_6 161 rfl rfl
set_option maxRecDepth 20000 in
theorem q_42_21 : Cond.selects RX11 yX11_mean yX11_mean ∈ wsL_law := wq_6 162 rfl rfl
set_option maxRecDepth 20000 in
theorem q_42_22 : Cond.code yX11_mean cX11_mean 2 (some .long) ∈ wsL_law := wq_6 163 rfl rfl
set_option maxRecDepth 20000 in
theorem q_42_23 : Cond.methodLink RX11 316 yX11_allLeast ∈ wsL_law := wq_6 164 rfl rfl
set_option maxRecDepth 20000 in
theorem q_43_0 : Cond.instanceMethod yX11_allLeast ∈ wsL_law := wq_6 166 rfl rfl
set_option maxRecDepth 20000 in
theorem q_43_1 : Cond.selects RX11 yX11_allLeast yX11_allLeast ∈ wsL_law := wp_4 0 rfl
set_option maxRecDepth 20000 in
theorem q_43_2 : Cond.code yX11_allLeast cX11_allLeast 3 (some .int) ∈ wsL_law := wq_6 167 rfl rfl
set_option maxRecDepth 20000 in
theorem q_43_3 : Cond.methodLink RL 115 yX10_event ∈ wsL_law := wq_4 108 rfl rfl
set_option maxRecDepth 20000 in
theorem q_43_4 : Cond.instanceMethod yX10_event ∈ wsL_law := wq_4 109 rfl rfl
set_option maxRecDepth 20000 in
theorem q_43_5 : Cond.selects RX10 yX10_event yX10_event ∈ wsL_law := wq_4 110 rfl rfl
set_option maxRecDepth 20000 in
theorem q_43_6 : Cond.code yX10_event cX10_event 3 (some .int) ∈ wsL_law := wq_4 111 rfl rfl
set_option maxRecDepth 20000 in
theorem q_43_7 : Cond.fieldLink RX10 264 "SailCourses$Hand" "events" "LSailCourses$Rows;" ∈ wsL_law := wq_1 117 rfl rfl
set_option maxRecDepth 20000 in
theorem q_43_8 : Cond.methodLink RL 118 yX11_event ∈ wsL_law := wq_6 168 rfl rfl
set_option maxRecDepth 20000 in
theorem q_43_9 : Cond.instanceMethod yX11_event ∈ wsL_law := wq_6 169 rfl rfl
set_option maxRecDepth 20000 in
theorem q_43_10 : Cond.selects RX11 yX11_event yX11_event ∈ wsL_law := wq_6 170 rfl rfl
set_option maxRecDepth 20000 in
theorem q_43_11 : Cond.code yX11_event cX11_event 3 (some .int) ∈ wsL_law := wq_6 171 rfl rfl
set_option maxRecDepth 20000 in
theorem q_43_12 : Cond.fieldLink RX11 319 "SailCoursesModel" "events" "I" ∈ wsL_law := wq_5 15 rfl rfl
set_option maxRecDepth 20000 in
theorem q_43_13 : Cond.methodLink RL 119 yX10_after ∈ wsL_law := wq_4 112 rfl rfl
set_option maxRecDepth 20000 in
theorem q_43_14 : Cond.instanceMethod yX10_after ∈ wsL_law := wq_4 113 rfl rfl
set_option maxRecDepth 20000 in
theorem q_43_15 : Cond.selects RX10 yX10_after yX10_after ∈ wsL_law := wq_4 114 rfl rfl
set_option maxRecDepth 20000 in
theorem q_43_16 : Cond.code yX10_after cX10_after 4 (some .int) ∈ wsL_law := wq_4 115 rfl rfl
set_option maxRecDepth 20000 in
theorem q_43_17 : Cond.methodLink RX10 267 yX8_undergo ∈ wsL_law := wq_4 116 rfl rfl
set_option maxRecDepth 20000 in
theorem q_43_18 : Cond.instanceMethod yX8_undergo ∈ wsL_law := wq_4 117 rfl rfl
set_option maxRecDepth 20000 in
theorem q_43_19 : Cond.selects RX8 yX8_undergo yX8_undergo ∈ wsL_law := wq_4 118 rfl rfl
set_option maxRecDepth 20000 in
theorem q_43_20 : Cond.code yX8_undergo cX8_undergo 4 (some (.object "SailCourses$Chart")) ∈ wsL_law := wq_4 119 rfl rfl
set_option maxRecDepth 20000 in
theorem q_43_21 : Cond.methodLink RX8 75 yX6_undergo ∈ wsL_law := wq_4 120 rfl rfl
set_option maxRecDepth 20000 in
theorem q_43_22 : Cond.instanceMethod yX6_undergo ∈ wsL_law := wq_4 121 rfl rfl
set_option maxRecDepth 20000 in
theorem q_43_23 : Cond.selects RX6 yX6_undergo yX6_undergo ∈ wsL_law := wq_4 122 rfl rfl
set_option maxRecDepth 20000 in
theorem q_44_0 : Cond.code yX6_undergo cX6_undergo 4 none ∈ wsL_law := wq_4 123 rfl rfl
set_option maxRecDepth 20000 in
theorem q_44_1 : Cond.methodLink RX6 103 Lib.Math.min.name ∈ wsL_law := wq_4 130 rfl rfl
set_option maxRecDepth 20000 in
theorem q_44_2 : Cond.methodLink RX6 100 yJ7_fill_fda19 ∈ wsL_law := wq_4 124 rfl rfl
set_option maxRecDepth 20000 in
theorem q_44_3 : Cond.static yJ7_fill_fda19 ∈ wsL_law := wq_4 125 rfl rfl
set_option maxRecDepth 20000 in
theorem q_44_4 : Cond.code yJ7_fill_fda19 cJ7_fill_fda19 5 none ∈ wsL_law := wq_4 126 rfl rfl
set_option maxRecDepth 20000 in
theorem q_44_5 : Cond.methodLink RJ7 13 yJ7_rangeCheck_23922 ∈ wsL_law := wq_4 127 rfl rfl
set_option maxRecDepth 20000 in
theorem q_44_6 : Cond.static yJ7_rangeCheck_23922 ∈ wsL_law := wq_4 128 rfl rfl
set_option maxRecDepth 20000 in
theorem q_44_7 : Cond.code yJ7_rangeCheck_23922 cJ7_rangeCheck_23922 3 none ∈ wsL_law := wq_4 129 rfl rfl
set_option maxRecDepth 20000 in
theorem q_44_8 : Cond.methodLink RL 122 yX11_after ∈ wsL_law := wq_6 172 rfl rfl
set_option maxRecDepth 20000 in
theorem q_44_9 : Cond.instanceMethod yX11_after ∈ wsL_law := wq_6 173 rfl rfl
set_option maxRecDepth 20000 in
theorem q_44_10 : Cond.selects RX11 yX11_after yX11_after ∈ wsL_law := wq_6 174 rfl rfl
set_option maxRecDepth 20000 in
theorem q_44_11 : Cond.code yX11_after cX11_after 3 (some .int) ∈ wsL_law := wq_6 175 rfl rfl
set_option maxRecDepth 20000 in
theorem q_44_12 : Cond.methodLink RX11 322 yX11_keeps ∈ wsL_law := wq_6 176 rfl rfl
set_option maxRecDepth 20000 in
theorem q_44_13 : Cond.instanceMethod yX11_keeps ∈ wsL_law := wq_6 178 rfl rfl
set_option maxRecDepth 20000 in
theorem q_44_14 : Cond.selects RX11 yX11_keeps yX11_keeps ∈ wsL_law := wp_4 1 rfl
set_option maxRecDepth 20000 in
theorem q_44_15 : Cond.code yX11_keeps cX11_keeps 3 none ∈ wsL_law := wq_6 179 rfl rfl
set_option maxRecDepth 20000 in
theorem q_44_16 : Cond.fieldLink RX11 333 "SailCoursesModel" "rows" "I" ∈ wsL_law := wq_5 18 rfl rfl
set_option maxRecDepth 20000 in
theorem q_44_17 : Cond.methodLink RX11 326 yX11_happens ∈ wsL_law := wq_6 180 rfl rfl
set_option maxRecDepth 20000 in
theorem q_44_18 : Cond.instanceMethod yX11_happens ∈ wsL_law := wq_6 182 rfl rfl
set_option maxRecDepth 20000 in
theorem q_44_19 : Cond.selects RX11 yX11_happens yX11_happens ∈ wsL_law := wp_4 2 rfl
set_option maxRecDepth 20000 in
theorem q_44_20 : Cond.code yX11_happens cX11_happens 5 none ∈ wsL_law := wq_6 183 rfl rfl
set_option maxRecDepth 20000 in
theorem q_44_21 : Cond.methodLink RX11 330 yX11_again ∈ wsL_law := wq_6 184 rfl rfl
set_option maxRecDepth 20000 in
theorem q_44_22 : Cond.instanceMethod yX11_again ∈ wsL_law := wq_6 186 rfl rfl
set_option maxRecDepth 20000 in
theorem q_44_23 : Cond.selects RX11 yX11_again yX11_again ∈ wsL_law := wp_4 3 rfl
set_option maxRecDepth 20000 in
theorem q_45_0 : Cond.code yX11_again cX11_again 3 none ∈ wsL_law := wq_6 187 rfl rfl
set_option maxRecDepth 20000 in
theorem q_45_1 : Cond.methodLink RL 123 yX10_book ∈ wsL_law := wq_4 131 rfl rfl
set_option maxRecDepth 20000 in
theorem q_45_2 : Cond.instanceMethod yX10_book ∈ wsL_law := wq_4 132 rfl rfl
set_option maxRecDepth 20000 in
theorem q_45_3 : Cond.selects RX10 yX10_book yX10_book ∈ wsL_law := wq_4 133 rfl rfl
set_option maxRecDepth 20000 in
theorem q_45_4 : Cond.code yX10_book cX10_book 3 (some .int) ∈ wsL_law := wq_4 134 rfl rfl
set_option maxRecDepth 20000 in
theorem q_45_5 : Cond.fieldLink RX10 271 "SailCourses$Hand" "book" "LSailCourses$Rows;" ∈ wsL_law := wq_1 119 rfl rfl
set_option maxRecDepth 20000 in
theorem q_45_6 : Cond.methodLink RL 126 yX11_book ∈ wsL_law := wq_6 188 rfl rfl
set_option maxRecDepth 20000 in
theorem q_45_7 : Cond.instanceMethod yX11_book ∈ wsL_law := wq_6 189 rfl rfl
set_option maxRecDepth 20000 in
theorem q_45_8 : Cond.selects RX11 yX11_book yX11_book ∈ wsL_law := wq_6 190 rfl rfl
set_option maxRecDepth 20000 in
theorem q_45_9 : Cond.code yX11_book cX11_book 3 (some .int) ∈ wsL_law := wq_6 191 rfl rfl
set_option maxRecDepth 20000 in
theorem q_45_10 : Cond.methodLink RL 127 yX10_looked ∈ wsL_law := wq_4 135 rfl rfl
set_option maxRecDepth 20000 in
theorem q_45_11 : Cond.instanceMethod yX10_looked ∈ wsL_law := wq_4 136 rfl rfl
set_option maxRecDepth 20000 in
theorem q_45_12 : Cond.selects RX10 yX10_looked yX10_looked ∈ wsL_law := wq_4 137 rfl rfl
set_option maxRecDepth 20000 in
theorem q_45_13 : Cond.code yX10_looked cX10_looked 2 (some .int) ∈ wsL_law := wq_4 138 rfl rfl
set_option maxRecDepth 20000 in
theorem q_45_14 : Cond.methodLink RX10 280 yX5_second ∈ wsL_law := wq_4 139 rfl rfl
set_option maxRecDepth 20000 in
theorem q_45_15 : Cond.methodLink RL 130 yX11_looked ∈ wsL_law := wq_6 192 rfl rfl
set_option maxRecDepth 20000 in
theorem q_45_16 : Cond.instanceMethod yX11_looked ∈ wsL_law := wq_6 193 rfl rfl
set_option maxRecDepth 20000 in
theorem q_45_17 : Cond.selects RX11 yX11_looked yX11_looked ∈ wsL_law := wq_6 194 rfl rfl
set_option maxRecDepth 20000 in
theorem q_45_18 : Cond.code yX11_looked cX11_looked 2 (some .int) ∈ wsL_law := wq_6 195 rfl rfl
set_option maxRecDepth 20000 in
theorem q_45_19 : Cond.methodLink RL 131 yX10_judge ∈ wsL_law := wq_4 140 rfl rfl
set_option maxRecDepth 20000 in
theorem q_45_20 : Cond.instanceMethod yX10_judge ∈ wsL_law := wq_4 141 rfl rfl
set_option maxRecDepth 20000 in
theorem q_45_21 : Cond.selects RX10 yX10_judge yX10_judge ∈ wsL_law := wq_4 142 rfl rfl
set_option maxRecDepth 20000 in
theorem q_45_22 : Cond.code yX10_judge cX10_judge 8 (some .int) ∈ wsL_law := wq_4 143 rfl rfl
set_option maxRecDepth 20000 in
theorem q_45_23 : Cond.methodLink RX10 283 yX10_tapeAt ∈ wsL_law := wq_4 144 rfl rfl
set_option maxRecDepth 20000 in
theorem q_46_0 : Cond.instanceMethod yX10_tapeAt ∈ wsL_law := wq_4 146 rfl rfl
set_option maxRecDepth 20000 in
theorem q_46_1 : Cond.selects RX10 yX10_tapeAt yX10_tapeAt ∈ wsL_law := wp_2 4 rfl
set_option maxRecDepth 20000 in
theorem q_46_2 : Cond.code yX10_tapeAt cX10_tapeAt 2 (some (.object "SailCourses$Tape")) ∈ wsL_law := wq_4 147 rfl rfl
set_option maxRecDepth 20000 in
theorem q_46_3 : Cond.methodLink RX10 287 yX9_holdsNothing ∈ wsL_law := wq_4 148 rfl rfl
set_option maxRecDepth 20000 in
theorem q_46_4 : Cond.instanceMethod yX9_holdsNothing ∈ wsL_law := wq_4 149 rfl rfl
set_option maxRecDepth 20000 in
theorem q_46_5 : Cond.selects RX9 yX9_holdsNothing yX9_holdsNothing ∈ wsL_law := wq_4 150 rfl rfl
set_option maxRecDepth 20000 in
theorem q_46_6 : Cond.code yX9_holdsNothing cX9_holdsNothing 1 (some .boolean) ∈ wsL_law := wq_4 151 rfl rfl
set_option maxRecDepth 20000 in
theorem q_46_7 : Cond.methodLink RX10 291 yX9_sort ∈ wsL_law := wq_4 152 rfl rfl
set_option maxRecDepth 20000 in
theorem q_46_8 : Cond.instanceMethod yX9_sort ∈ wsL_law := wq_4 153 rfl rfl
set_option maxRecDepth 20000 in
theorem q_46_9 : Cond.selects RX9 yX9_sort yX9_sort ∈ wsL_law := wq_4 154 rfl rfl
set_option maxRecDepth 20000 in
theorem q_46_10 : Cond.code yX9_sort cX9_sort 1 (some .int) ∈ wsL_law := wq_4 155 rfl rfl
set_option maxRecDepth 20000 in
theorem q_46_11 : Cond.methodLink RX10 294 yX9_length ∈ wsL_law := wq_4 156 rfl rfl
set_option maxRecDepth 20000 in
theorem q_46_12 : Cond.instanceMethod yX9_length ∈ wsL_law := wq_4 157 rfl rfl
set_option maxRecDepth 20000 in
theorem q_46_13 : Cond.selects RX9 yX9_length yX9_length ∈ wsL_law := wq_4 158 rfl rfl
set_option maxRecDepth 20000 in
theorem q_46_14 : Cond.code yX9_length cX9_length 1 (some .int) ∈ wsL_law := wq_4 159 rfl rfl
set_option maxRecDepth 20000 in
theorem q_46_15 : Cond.methodLink RX10 297 yX9_get ∈ wsL_law := wq_4 160 rfl rfl
set_option maxRecDepth 20000 in
theorem q_46_16 : Cond.instanceMethod yX9_get ∈ wsL_law := wq_4 161 rfl rfl
set_option maxRecDepth 20000 in
theorem q_46_17 : Cond.selects RX9 yX9_get yX9_get ∈ wsL_law := wq_4 162 rfl rfl
set_option maxRecDepth 20000 in
theorem q_46_18 : Cond.code yX9_get cX9_get 2 (some .long) ∈ wsL_law := wq_4 163 rfl rfl
set_option maxRecDepth 20000 in
theorem q_46_19 : Cond.constantLong RX9 32 (-9223372036854775808) ∈ wsL_law := wq_4 165 rfl rfl
set_option maxRecDepth 20000 in
theorem q_46_20 : Cond.methodLink RL 134 yX11_judge ∈ wsL_law := wq_6 208 rfl rfl
set_option maxRecDepth 20000 in
theorem q_46_21 : Cond.instanceMethod yX11_judge ∈ wsL_law := wq_6 209 rfl rfl
set_option maxRecDepth 20000 in
theorem q_46_22 : Cond.selects RX11 yX11_judge yX11_judge ∈ wsL_law := wq_6 210 rfl rfl
set_option maxRecDepth 20000 in
theorem q_46_23 : Cond.code yX11_judge cX11_judge 4 (some .int) ∈ wsL_law := wq_6 211 rfl rfl
set_option maxRecDepth 20000 in
theorem q_47_0 : Cond.methodLink RX11 340 yX11_isTape ∈ wsL_law := wq_6 212 rfl rfl
set_option maxRecDepth 20000 in
theorem q_47_1 : Cond.static yX11_isTape ∈ wsL_law := wq_6 213 rfl rfl
set_option maxRecDepth 20000 in
theorem q_47_2 : Cond.code yX11_isTape cX11_isTape 1 (some .boolean) ∈ wsL_law := wq_6 214 rfl rfl
set_option maxRecDepth 20000 in
theorem q_47_3 : Cond.methodLink RL 135 yX10_image ∈ wsL_law := wq_4 166 rfl rfl
set_option maxRecDepth 20000 in
theorem q_47_4 : Cond.instanceMethod yX10_image ∈ wsL_law := wq_4 167 rfl rfl
set_option maxRecDepth 20000 in
theorem q_47_5 : Cond.selects RX10 yX10_image yX10_image ∈ wsL_law := wq_4 168 rfl rfl
set_option maxRecDepth 20000 in
theorem q_47_6 : Cond.code yX10_image cX10_image 1 (some .int) ∈ wsL_law := wq_4 169 rfl rfl
set_option maxRecDepth 20000 in
theorem q_47_7 : Cond.methodLink RX10 301 yX6_becomeLike ∈ wsL_law := wq_4 170 rfl rfl
set_option maxRecDepth 20000 in
theorem q_47_8 : Cond.methodLink RX10 304 yX3_becomeLike ∈ wsL_law := wq_4 171 rfl rfl
set_option maxRecDepth 20000 in
theorem q_47_9 : Cond.instanceMethod yX3_becomeLike ∈ wsL_law := wq_4 172 rfl rfl
set_option maxRecDepth 20000 in
theorem q_47_10 : Cond.selects RX3 yX3_becomeLike yX3_becomeLike ∈ wsL_law := wq_4 173 rfl rfl
set_option maxRecDepth 20000 in
theorem q_47_11 : Cond.code yX3_becomeLike cX3_becomeLike 2 none ∈ wsL_law := wq_4 174 rfl rfl
set_option maxRecDepth 20000 in
theorem q_47_12 : Cond.methodLink RX3 27 yX5_becomeLike ∈ wsL_law := wq_4 175 rfl rfl
set_option maxRecDepth 20000 in
theorem q_47_13 : Cond.instanceMethod yX5_becomeLike ∈ wsL_law := wq_4 176 rfl rfl
set_option maxRecDepth 20000 in
theorem q_47_14 : Cond.selects RX5 yX5_becomeLike yX5_becomeLike ∈ wsL_law := wq_4 177 rfl rfl
set_option maxRecDepth 20000 in
theorem q_47_15 : Cond.code yX5_becomeLike cX5_becomeLike 3 none ∈ wsL_law := wq_4 178 rfl rfl
set_option maxRecDepth 20000 in
theorem q_47_16 : Cond.methodLink RX5 26 yX5_clear ∈ wsL_law := wq_4 179 rfl rfl
set_option maxRecDepth 20000 in
theorem q_47_17 : Cond.methodLink RX5 30 yX5_add ∈ wsL_law := wq_4 180 rfl rfl
set_option maxRecDepth 20000 in
theorem q_47_18 : Cond.methodLink RL 138 yX11_image ∈ wsL_law := wq_6 196 rfl rfl
set_option maxRecDepth 20000 in
theorem q_47_19 : Cond.instanceMethod yX11_image ∈ wsL_law := wq_6 197 rfl rfl
set_option maxRecDepth 20000 in
theorem q_47_20 : Cond.selects RX11 yX11_image yX11_image ∈ wsL_law := wq_6 198 rfl rfl
set_option maxRecDepth 20000 in
theorem q_47_21 : Cond.code yX11_image cX11_image 1 (some .int) ∈ wsL_law := wq_6 199 rfl rfl
set_option maxRecDepth 20000 in
theorem q_47_22 : Cond.fieldLink RX11 336 "SailCoursesModel" "hasImage" "Z" ∈ wsL_law := wq_5 23 rfl rfl
set_option maxRecDepth 20000 in
theorem q_47_23 : Cond.methodLink RL 139 yX10_undo ∈ wsL_law := wq_4 181 rfl rfl
set_option maxRecDepth 20000 in
theorem q_48_0 : Cond.instanceMethod yX10_undo ∈ wsL_law := wq_4 182 rfl rfl
set_option maxRecDepth 20000 in
theorem q_48_1 : Cond.selects RX10 yX10_undo yX10_undo ∈ wsL_law := wq_4 183 rfl rfl
set_option maxRecDepth 20000 in
theorem q_48_2 : Cond.code yX10_undo cX10_undo 1 (some .int) ∈ wsL_law := wq_4 184 rfl rfl
set_option maxRecDepth 20000 in
theorem q_48_3 : Cond.methodLink RL 142 yX11_undo ∈ wsL_law := wq_6 200 rfl rfl
set_option maxRecDepth 20000 in
theorem q_48_4 : Cond.instanceMethod yX11_undo ∈ wsL_law := wq_6 201 rfl rfl
set_option maxRecDepth 20000 in
theorem q_48_5 : Cond.selects RX11 yX11_undo yX11_undo ∈ wsL_law := wq_6 202 rfl rfl
set_option maxRecDepth 20000 in
theorem q_48_6 : Cond.code yX11_undo cX11_undo 1 (some .int) ∈ wsL_law := wq_6 203 rfl rfl
set_option maxRecDepth 20000 in
theorem q_48_7 : Cond.methodLink RL 143 yX10_count ∈ wsL_law := wq_4 185 rfl rfl
set_option maxRecDepth 20000 in
theorem q_48_8 : Cond.instanceMethod yX10_count ∈ wsL_law := wq_4 186 rfl rfl
set_option maxRecDepth 20000 in
theorem q_48_9 : Cond.selects RX10 yX10_count yX10_count ∈ wsL_law := wq_4 187 rfl rfl
set_option maxRecDepth 20000 in
theorem q_48_10 : Cond.code yX10_count cX10_count 2 (some .int) ∈ wsL_law := wq_4 188 rfl rfl
set_option maxRecDepth 20000 in
theorem q_48_11 : Cond.methodLink RX10 307 yX7_length ∈ wsL_law := wq_4 189 rfl rfl
set_option maxRecDepth 20000 in
theorem q_48_12 : Cond.instanceMethod yX7_length ∈ wsL_law := wq_4 190 rfl rfl
set_option maxRecDepth 20000 in
theorem q_48_13 : Cond.selects RX7 yX7_length yX7_length ∈ wsL_law := wq_4 191 rfl rfl
set_option maxRecDepth 20000 in
theorem q_48_14 : Cond.code yX7_length cX7_length 1 (some .int) ∈ wsL_law := wq_4 192 rfl rfl
set_option maxRecDepth 20000 in
theorem q_48_15 : Cond.methodLink RL 146 yX11_count ∈ wsL_law := wq_6 204 rfl rfl
set_option maxRecDepth 20000 in
theorem q_48_16 : Cond.instanceMethod yX11_count ∈ wsL_law := wq_6 205 rfl rfl
set_option maxRecDepth 20000 in
theorem q_48_17 : Cond.selects RX11 yX11_count yX11_count ∈ wsL_law := wq_6 206 rfl rfl
set_option maxRecDepth 20000 in
theorem q_48_18 : Cond.code yX11_count cX11_count 2 (some .int) ∈ wsL_law := wq_6 207 rfl rfl
set_option maxRecDepth 20000 in
theorem q_48_19 : Cond.methodLink RL 147 yX10_tape ∈ wsL_law := wq_4 193 rfl rfl
set_option maxRecDepth 20000 in
theorem q_48_20 : Cond.instanceMethod yX10_tape ∈ wsL_law := wq_4 194 rfl rfl
set_option maxRecDepth 20000 in
theorem q_48_21 : Cond.selects RX10 yX10_tape yX10_tape ∈ wsL_law := wq_4 195 rfl rfl
set_option maxRecDepth 20000 in
theorem q_48_22 : Cond.code yX10_tape cX10_tape 5 (some .int) ∈ wsL_law := wq_4 196 rfl rfl
set_option maxRecDepth 20000 in
theorem q_48_23 : Cond.methodLink RX10 308 yX9_become ∈ wsL_law := wq_4 197 rfl rfl
set_option maxRecDepth 20000 in
theorem q_49_0 : Cond.instanceMethod yX9_become ∈ wsL_law := wq_4 198 rfl rfl
set_option maxRecDepth 20000 in
theorem q_49_1 : Cond.selects RX9 yX9_become yX9_become ∈ wsL_law := wq_4 199 rfl rfl
set_option maxRecDepth 20000 in
theorem q_49_2 : Cond.code yX9_become cX9_become 3 none ∈ wsL_law := wq_4 200 rfl rfl
set_option maxRecDepth 20000 in
theorem q_49_3 : Cond.methodLink RX9 22 yJ7_fill_d0a16 ∈ wsL_law := wq_4 201 rfl rfl
set_option maxRecDepth 20000 in
theorem q_49_4 : Cond.static yJ7_fill_d0a16 ∈ wsL_law := wq_4 202 rfl rfl
set_option maxRecDepth 20000 in
theorem q_49_5 : Cond.code yJ7_fill_d0a16 cJ7_fill_d0a16 5 none ∈ wsL_law := wq_4 203 rfl rfl
set_option maxRecDepth 20000 in
theorem q_49_6 : Cond.methodLink RL 150 yX11_tape ∈ wsL_law := wq_6 215 rfl rfl
set_option maxRecDepth 20000 in
theorem q_49_7 : Cond.instanceMethod yX11_tape ∈ wsL_law := wq_6 216 rfl rfl
set_option maxRecDepth 20000 in
theorem q_49_8 : Cond.selects RX11 yX11_tape yX11_tape ∈ wsL_law := wq_6 217 rfl rfl
set_option maxRecDepth 20000 in
theorem q_49_9 : Cond.code yX11_tape cX11_tape 5 (some .int) ∈ wsL_law := wq_6 218 rfl rfl
set_option maxRecDepth 20000 in
theorem q_49_10 : Cond.methodLink RL 153 yX10_item ∈ wsL_law := wq_4 204 rfl rfl
set_option maxRecDepth 20000 in
theorem q_49_11 : Cond.instanceMethod yX10_item ∈ wsL_law := wq_4 205 rfl rfl
set_option maxRecDepth 20000 in
theorem q_49_12 : Cond.selects RX10 yX10_item yX10_item ∈ wsL_law := wq_4 206 rfl rfl
set_option maxRecDepth 20000 in
theorem q_49_13 : Cond.code yX10_item cX10_item 6 (some .int) ∈ wsL_law := wq_4 207 rfl rfl
set_option maxRecDepth 20000 in
theorem q_49_14 : Cond.methodLink RX10 311 yX9_put ∈ wsL_law := wq_4 208 rfl rfl
set_option maxRecDepth 20000 in
theorem q_49_15 : Cond.instanceMethod yX9_put ∈ wsL_law := wq_4 209 rfl rfl
set_option maxRecDepth 20000 in
theorem q_49_16 : Cond.selects RX9 yX9_put yX9_put ∈ wsL_law := wq_4 210 rfl rfl
set_option maxRecDepth 20000 in
theorem q_49_17 : Cond.code yX9_put cX9_put 4 none ∈ wsL_law := wq_4 211 rfl rfl
set_option maxRecDepth 20000 in
theorem q_49_18 : Cond.methodLink RX9 34 yX9_fitted ∈ wsL_law := wq_4 212 rfl rfl
set_option maxRecDepth 20000 in
theorem q_49_19 : Cond.instanceMethod yX9_fitted ∈ wsL_law := wq_4 214 rfl rfl
set_option maxRecDepth 20000 in
theorem q_49_20 : Cond.selects RX9 yX9_fitted yX9_fitted ∈ wsL_law := wp_2 5 rfl
set_option maxRecDepth 20000 in
theorem q_49_21 : Cond.code yX9_fitted cX9_fitted 3 (some .long) ∈ wsL_law := wq_4 215 rfl rfl
set_option maxRecDepth 20000 in
theorem q_49_22 : Cond.methodLink RL 157 yX11_item ∈ wsL_law := wq_6 219 rfl rfl
set_option maxRecDepth 20000 in
theorem q_49_23 : Cond.instanceMethod yX11_item ∈ wsL_law := wq_6 220 rfl rfl
set_option maxRecDepth 20000 in
theorem q_50_0 : Cond.selects RX11 yX11_item yX11_item ∈ wsL_law := wq_6 221 rfl rfl
set_option maxRecDepth 20000 in
theorem q_50_1 : Cond.code yX11_item cX11_item 5 (some .int) ∈ wsL_law := wq_6 222 rfl rfl
set_option maxRecDepth 20000 in
theorem q_50_2 : Cond.methodLink RX11 343 yX11_narrowed ∈ wsL_law := wq_6 223 rfl rfl
set_option maxRecDepth 20000 in
theorem q_50_3 : Cond.static yX11_narrowed ∈ wsL_law := wq_6 224 rfl rfl
set_option maxRecDepth 20000 in
theorem q_50_4 : Cond.code yX11_narrowed cX11_narrowed 3 (some .long) ∈ wsL_law := wq_6 225 rfl rfl
set_option maxRecDepth 20000 in
theorem q_50_5 : Cond.methodLink RL 158 yX10_peek ∈ wsL_law := wq_4 216 rfl rfl
set_option maxRecDepth 20000 in
theorem q_50_6 : Cond.instanceMethod yX10_peek ∈ wsL_law := wq_4 217 rfl rfl
set_option maxRecDepth 20000 in
theorem q_50_7 : Cond.selects RX10 yX10_peek yX10_peek ∈ wsL_law := wq_4 218 rfl rfl
set_option maxRecDepth 20000 in
theorem q_50_8 : Cond.code yX10_peek cX10_peek 4 (some .long) ∈ wsL_law := wq_4 219 rfl rfl
set_option maxRecDepth 20000 in
theorem q_50_9 : Cond.methodLink RL 161 yX11_peek ∈ wsL_law := wq_6 226 rfl rfl
set_option maxRecDepth 20000 in
theorem q_50_10 : Cond.instanceMethod yX11_peek ∈ wsL_law := wq_6 227 rfl rfl
set_option maxRecDepth 20000 in
theorem q_50_11 : Cond.selects RX11 yX11_peek yX11_peek ∈ wsL_law := wq_6 228 rfl rfl
set_option maxRecDepth 20000 in
theorem q_50_12 : Cond.code yX11_peek cX11_peek 3 (some .long) ∈ wsL_law := wq_6 229 rfl rfl
set_option maxRecDepth 20000 in
theorem q_50_13 : Cond.methodLink RL 162 yX10_shift ∈ wsL_law := wq_4 220 rfl rfl
set_option maxRecDepth 20000 in
theorem q_50_14 : Cond.instanceMethod yX10_shift ∈ wsL_law := wq_4 221 rfl rfl
set_option maxRecDepth 20000 in
theorem q_50_15 : Cond.selects RX10 yX10_shift yX10_shift ∈ wsL_law := wq_4 222 rfl rfl
set_option maxRecDepth 20000 in
theorem q_50_16 : Cond.code yX10_shift cX10_shift 8 (some .int) ∈ wsL_law := wq_4 223 rfl rfl
set_option maxRecDepth 20000 in
theorem q_50_17 : Cond.methodLink RX10 315 yX9_has ∈ wsL_law := wq_4 224 rfl rfl
set_option maxRecDepth 20000 in
theorem q_50_18 : Cond.instanceMethod yX9_has ∈ wsL_law := wq_4 225 rfl rfl
set_option maxRecDepth 20000 in
theorem q_50_19 : Cond.selects RX9 yX9_has yX9_has ∈ wsL_law := wq_4 226 rfl rfl
set_option maxRecDepth 20000 in
theorem q_50_20 : Cond.code yX9_has cX9_has 3 (some .boolean) ∈ wsL_law := wq_4 227 rfl rfl
set_option maxRecDepth 20000 in
theorem q_50_21 : Cond.methodLink RX10 318 yX9_take ∈ wsL_law := wq_4 228 rfl rfl
set_option maxRecDepth 20000 in
theorem q_50_22 : Cond.instanceMethod yX9_take ∈ wsL_law := wq_4 229 rfl rfl
set_option maxRecDepth 20000 in
theorem q_50_23 : Cond.selects RX9 yX9_take yX9_take ∈ wsL_law := wq_4 230 rfl rfl
set_option maxRecDepth 20000 in
theorem q_51_0 : Cond.code yX9_take cX9_take 5 none ∈ wsL_law := wq_4 231 rfl rfl
set_option maxRecDepth 20000 in
theorem q_51_1 : Cond.methodLink RX9 41 arraycopyName ∈ wsL_law := wq_4 233 rfl rfl
set_option maxRecDepth 20000 in
theorem q_51_2 : Cond.methodLink RX9 38 yX9_has ∈ wsL_law := wq_4 232 rfl rfl
set_option maxRecDepth 20000 in
theorem q_51_3 : Cond.methodLink RL 165 yX11_shift ∈ wsL_law := wq_6 230 rfl rfl
set_option maxRecDepth 20000 in
theorem q_51_4 : Cond.instanceMethod yX11_shift ∈ wsL_law := wq_6 231 rfl rfl
set_option maxRecDepth 20000 in
theorem q_51_5 : Cond.selects RX11 yX11_shift yX11_shift ∈ wsL_law := wq_6 232 rfl rfl
set_option maxRecDepth 20000 in
theorem q_51_6 : Cond.code yX11_shift cX11_shift 7 (some .int) ∈ wsL_law := wq_6 233 rfl rfl
