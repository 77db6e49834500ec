def RX0 : String := "BeamChart$1"
def TX0 : u_T := fun k => match k with
  | _ => ("", "", "", false)
def tyX0 : Nat → FieldType := fun k => match k with
  | _ => .int
abbrev wsX00 : List Cond := u_ws RX0 TX0 0
theorem nmX0 : ∀ a, a < 0 → ∀ b, b < 0 → a ≠ b → (TX0 a).2.1 ≠ (TX0 b).2.1 := by decide +kernel
theorem tyX0_ok : ∀ k, k < 0 → parseFieldDescriptor (TX0 k).2.2.1 = some (tyX0 k) := by decide +kernel
def RX1 : String := "BeamChart$CellGroups"
def TX1 : u_T := fun k => match k with
  | _ => ("BeamChart$CellGroups", "parents", "[I", true)
def tyX1 : Nat → FieldType := fun k => match k with
  | _ => .array .int
abbrev wsX10 : List Cond := u_ws RX1 TX1 1
theorem nmX1 : ∀ a, a < 1 → ∀ b, b < 1 → a ≠ b → (TX1 a).2.1 ≠ (TX1 b).2.1 := by decide +kernel
theorem tyX1_ok : ∀ k, k < 1 → parseFieldDescriptor (TX1 k).2.2.1 = some (tyX1 k) := by decide +kernel
abbrev cX1_init : ByteArray := prog_3_method_1_code
def yX1_init : MethodName := ⟨RX1, "<init>", "()V"⟩
abbrev cX1_separate : ByteArray := prog_3_method_2_code
def yX1_separate : MethodName := ⟨RX1, "separate", "()V"⟩
abbrev cX1_rootOf : ByteArray := prog_3_method_3_code
def yX1_rootOf : MethodName := ⟨RX1, "rootOf", "(I)I"⟩
abbrev cX1_uniteAt : ByteArray := prog_3_method_4_code
def yX1_uniteAt : MethodName := ⟨RX1, "uniteAt", "(LBeamChart$Coast;I)V"⟩
def RX2 : String := "BeamChart$Coast"
def TX2 : u_T := fun k => match k with
  | 0 => ("BeamChart$Coast", "depths", "[I", true)
  | 1 => ("BeamChart$Coast", "lights", "[LBeamChart$Light;", true)
  | 2 => ("BeamChart$Coast", "ships", "[LBeamChart$Ship;", true)
  | 3 => ("BeamChart$Coast", "lightCount", "I", false)
  | 4 => ("BeamChart$Coast", "shipCount", "I", false)
  | 5 => ("BeamChart$Coast", "minute", "I", false)
  | 6 => ("BeamChart$Coast", "sightings", "I", false)
  | 7 => ("BeamChart$Coast", "removedSightings", "I", false)
  | 8 => ("BeamChart$Coast", "wrecks", "I", false)
  | _ => ("BeamChart$Coast", "salvage", "I", false)
def tyX2 : Nat → FieldType := fun k => match k with
  | 0 => .array .int
  | 1 => .array (.object "BeamChart$Light")
  | 2 => .array (.object "BeamChart$Ship")
  | 3 => .int
  | 4 => .int
  | 5 => .int
  | 6 => .int
  | 7 => .int
  | 8 => .int
  | _ => .int
abbrev wsX20 : List Cond := u_ws RX2 TX2 10
theorem nmX2 : ∀ a, a < 10 → ∀ b, b < 10 → a ≠ b → (TX2 a).2.1 ≠ (TX2 b).2.1 := by decide +kernel
theorem tyX2_ok : ∀ k, k < 10 → parseFieldDescriptor (TX2 k).2.2.1 = some (tyX2 k) := by decide +kernel
abbrev cX2_init : ByteArray := prog_4_method_1_code
def yX2_init : MethodName := ⟨RX2, "<init>", "()V"⟩
abbrev cX2_copyFrom : ByteArray := prog_4_method_2_code
def yX2_copyFrom : MethodName := ⟨RX2, "copyFrom", "(LBeamChart$Coast;)V"⟩
abbrev cX2_hasLight : ByteArray := prog_4_method_3_code
def yX2_hasLight : MethodName := ⟨RX2, "hasLight", "(I)Z"⟩
abbrev cX2_hasShip : ByteArray := prog_4_method_4_code
def yX2_hasShip : MethodName := ⟨RX2, "hasShip", "(I)Z"⟩
abbrev cX2_depthOf : ByteArray := prog_4_method_5_code
def yX2_depthOf : MethodName := ⟨RX2, "depthOf", "(I)I"⟩
abbrev cX2_waterOf : ByteArray := prog_4_method_6_code
def yX2_waterOf : MethodName := ⟨RX2, "waterOf", "(I)I"⟩
abbrev cX2_waterWith : ByteArray := prog_4_method_7_code
def yX2_waterWith : MethodName := ⟨RX2, "waterWith", "(II)I"⟩
abbrev cX2_lightIndexOn : ByteArray := prog_4_method_8_code
def yX2_lightIndexOn : MethodName := ⟨RX2, "lightIndexOn", "(I)I"⟩
abbrev cX2_takeLight : ByteArray := prog_4_method_9_code
def yX2_takeLight : MethodName := ⟨RX2, "takeLight", "(I)V"⟩
abbrev cX2_takeShip : ByteArray := prog_4_method_10_code
def yX2_takeShip : MethodName := ⟨RX2, "takeShip", "(I)V"⟩
abbrev cX2_canReach : ByteArray := prog_4_method_11_code
def yX2_canReach : MethodName := ⟨RX2, "canReach", "(LBeamChart$Light;I)Z"⟩
abbrev cX2_isSwept : ByteArray := prog_4_method_12_code
def yX2_isSwept : MethodName := ⟨RX2, "isSwept", "(LBeamChart$Light;I)Z"⟩
abbrev cX2_lightsSweeping : ByteArray := prog_4_method_13_code
def yX2_lightsSweeping : MethodName := ⟨RX2, "lightsSweeping", "(I)I"⟩
abbrev cX2_reachOf : ByteArray := prog_4_method_14_code
def yX2_reachOf : MethodName := ⟨RX2, "reachOf", "(LBeamChart$Light;)J"⟩
abbrev cX2_shipsDarkerThan : ByteArray := prog_4_method_15_code
def yX2_shipsDarkerThan : MethodName := ⟨RX2, "shipsDarkerThan", "(I)I"⟩
abbrev cX2_isDarker : ByteArray := prog_4_method_16_code
def yX2_isDarker : MethodName := ⟨RX2, "isDarker", "(II)Z"⟩
abbrev cX2_moveShips : ByteArray := prog_4_method_17_code
def yX2_moveShips : MethodName := ⟨RX2, "moveShips", "(LBeamChart$Ways;)V"⟩
abbrev cX2_wreckShips : ByteArray := prog_4_method_18_code
def yX2_wreckShips : MethodName := ⟨RX2, "wreckShips", "()V"⟩
abbrev cX2_sightShips : ByteArray := prog_4_method_19_code
def yX2_sightShips : MethodName := ⟨RX2, "sightShips", "()V"⟩
def RX3 : String := "BeamChart$Command"
def TX3 : u_T := fun k => match k with
  | 0 => ("BeamChart$Command", "kind", "LBeamChart$CommandKind;", false)
  | _ => ("BeamChart$Command", "values", "[I", true)
def tyX3 : Nat → FieldType := fun k => match k with
  | 0 => .object "BeamChart$CommandKind"
  | _ => .array .int
abbrev wsX30 : List Cond := u_ws RX3 TX3 2
theorem nmX3 : ∀ a, a < 2 → ∀ b, b < 2 → a ≠ b → (TX3 a).2.1 ≠ (TX3 b).2.1 := by decide +kernel
theorem tyX3_ok : ∀ k, k < 2 → parseFieldDescriptor (TX3 k).2.2.1 = some (tyX3 k) := by decide +kernel
abbrev cX3_init : ByteArray := prog_5_method_1_code
def yX3_init : MethodName := ⟨RX3, "<init>", "()V"⟩
def RX4 : String := "BeamChart$CommandKind"
def TX4 : u_T := fun k => match k with
  | _ => ("", "", "", false)
def tyX4 : Nat → FieldType := fun k => match k with
  | _ => .int
abbrev wsX40 : List Cond := u_ws RX4 TX4 0
theorem nmX4 : ∀ a, a < 0 → ∀ b, b < 0 → a ≠ b → (TX4 a).2.1 ≠ (TX4 b).2.1 := by decide +kernel
theorem tyX4_ok : ∀ k, k < 0 → parseFieldDescriptor (TX4 k).2.2.1 = some (tyX4 k) := by decide +kernel
def RX5 : String := "BeamChart$CommandText"
def TX5 : u_T := fun k => match k with
  | 0 => ("BeamChart$CommandText", "signs", "[C", true)
  | 1 => ("BeamChart$CommandText", "commands", "[LBeamChart$Command;", true)
  | 2 => ("BeamChart$CommandText", "length", "I", false)
  | 3 => ("BeamChart$CommandText", "count", "I", false)
  | _ => ("BeamChart$CommandText", "position", "I", false)
def tyX5 : Nat → FieldType := fun k => match k with
  | 0 => .array .char
  | 1 => .array (.object "BeamChart$Command")
  | 2 => .int
  | 3 => .int
  | _ => .int
abbrev wsX50 : List Cond := u_ws RX5 TX5 5
theorem nmX5 : ∀ a, a < 5 → ∀ b, b < 5 → a ≠ b → (TX5 a).2.1 ≠ (TX5 b).2.1 := by decide +kernel
theorem tyX5_ok : ∀ k, k < 5 → parseFieldDescriptor (TX5 k).2.2.1 = some (tyX5 k) := by decide +kernel
abbrev cX5_init : ByteArray := prog_7_method_1_code
def yX5_init : MethodName := ⟨RX5, "<init>", "()V"⟩
abbrev cX5_parse : ByteArray := prog_7_method_2_code
def yX5_parse : MethodName := ⟨RX5, "parse", "()I"⟩
abbrev cX5_parseCommand : ByteArray := prog_7_method_3_code
def yX5_parseCommand : MethodName := ⟨RX5, "parseCommand", "(LBeamChart$Command;)Z"⟩
abbrev cX5_matches : ByteArray := prog_7_method_4_code
def yX5_matches : MethodName := ⟨RX5, "matches", "(Ljava/lang/String;[I)Z"⟩
abbrev cX5_isAtDigit : ByteArray := prog_7_method_5_code
def yX5_isAtDigit : MethodName := ⟨RX5, "isAtDigit", "()Z"⟩
abbrev cX5_takeDigit : ByteArray := prog_7_method_6_code
def yX5_takeDigit : MethodName := ⟨RX5, "takeDigit", "()I"⟩
def RX6 : String := "BeamChart$History"
def TX6 : u_T := fun k => match k with
  | 0 => ("BeamChart$History", "befores", "[LBeamChart$Coast;", true)
  | 1 => ("BeamChart$History", "prepared", "LBeamChart$Coast;", false)
  | 2 => ("BeamChart$History", "first", "I", false)
  | _ => ("BeamChart$History", "count", "I", false)
def tyX6 : Nat → FieldType := fun k => match k with
  | 0 => .array (.object "BeamChart$Coast")
  | 1 => .object "BeamChart$Coast"
  | 2 => .int
  | _ => .int
abbrev wsX60 : List Cond := u_ws RX6 TX6 4
theorem nmX6 : ∀ a, a < 4 → ∀ b, b < 4 → a ≠ b → (TX6 a).2.1 ≠ (TX6 b).2.1 := by decide +kernel
theorem tyX6_ok : ∀ k, k < 4 → parseFieldDescriptor (TX6 k).2.2.1 = some (tyX6 k) := by decide +kernel
abbrev cX6_init : ByteArray := prog_8_method_1_code
def yX6_init : MethodName := ⟨RX6, "<init>", "()V"⟩
abbrev cX6_prepare : ByteArray := prog_8_method_2_code
def yX6_prepare : MethodName := ⟨RX6, "prepare", "(LBeamChart$Coast;)V"⟩
abbrev cX6_rollBack : ByteArray := prog_8_method_3_code
def yX6_rollBack : MethodName := ⟨RX6, "rollBack", "(LBeamChart$Coast;)V"⟩
abbrev cX6_keep : ByteArray := prog_8_method_4_code
def yX6_keep : MethodName := ⟨RX6, "keep", "()V"⟩
abbrev cX6_takeBack : ByteArray := prog_8_method_5_code
def yX6_takeBack : MethodName := ⟨RX6, "takeBack", "(LBeamChart$Coast;)V"⟩
def RX7 : String := "BeamChart$Light"
def TX7 : u_T := fun k => match k with
  | 0 => ("BeamChart$Light", "cell", "I", false)
  | 1 => ("BeamChart$Light", "range", "I", false)
  | 2 => ("BeamChart$Light", "period", "I", false)
  | 3 => ("BeamChart$Light", "phase", "I", false)
  | _ => ("BeamChart$Light", "sightings", "I", false)
def tyX7 : Nat → FieldType := fun k => match k with
  | 0 => .int
  | 1 => .int
  | 2 => .int
  | 3 => .int
  | _ => .int
abbrev wsX70 : List Cond := u_ws RX7 TX7 5
theorem nmX7 : ∀ a, a < 5 → ∀ b, b < 5 → a ≠ b → (TX7 a).2.1 ≠ (TX7 b).2.1 := by decide +kernel
theorem tyX7_ok : ∀ k, k < 5 → parseFieldDescriptor (TX7 k).2.2.1 = some (tyX7 k) := by decide +kernel
abbrev cX7_init : ByteArray := prog_9_method_1_code
def yX7_init : MethodName := ⟨RX7, "<init>", "()V"⟩
abbrev cX7_start : ByteArray := prog_9_method_2_code
def yX7_start : MethodName := ⟨RX7, "start", "(III)V"⟩
abbrev cX7_copyFrom : ByteArray := prog_9_method_3_code
def yX7_copyFrom : MethodName := ⟨RX7, "copyFrom", "(LBeamChart$Light;)V"⟩
abbrev cX7_turnAt : ByteArray := prog_9_method_4_code
def yX7_turnAt : MethodName := ⟨RX7, "turnAt", "(I)I"⟩
abbrev cX7_sectorAt : ByteArray := prog_9_method_5_code
def yX7_sectorAt : MethodName := ⟨RX7, "sectorAt", "(I)I"⟩
abbrev cX7_sectorWith : ByteArray := prog_9_method_6_code
def yX7_sectorWith : MethodName := ⟨RX7, "sectorWith", "(I)I"⟩
abbrev cX7_upperSector : ByteArray := prog_9_method_7_code
def yX7_upperSector : MethodName := ⟨RX7, "upperSector", "(II)I"⟩
def RX8 : String := "BeamChart$Ship"
def TX8 : u_T := fun k => match k with
  | 0 => ("BeamChart$Ship", "cell", "I", false)
  | 1 => ("BeamChart$Ship", "draught", "I", false)
  | 2 => ("BeamChart$Ship", "goal", "I", false)
  | 3 => ("BeamChart$Ship", "wrecked", "Z", false)
  | _ => ("BeamChart$Ship", "darkMinutes", "I", false)
def tyX8 : Nat → FieldType := fun k => match k with
  | 0 => .int
  | 1 => .int
  | 2 => .int
  | 3 => .boolean
  | _ => .int
abbrev wsX80 : List Cond := u_ws RX8 TX8 5
theorem nmX8 : ∀ a, a < 5 → ∀ b, b < 5 → a ≠ b → (TX8 a).2.1 ≠ (TX8 b).2.1 := by decide +kernel
theorem tyX8_ok : ∀ k, k < 5 → parseFieldDescriptor (TX8 k).2.2.1 = some (tyX8 k) := by decide +kernel
abbrev cX8_init : ByteArray := prog_10_method_1_code
def yX8_init : MethodName := ⟨RX8, "<init>", "()V"⟩
abbrev cX8_start : ByteArray := prog_10_method_2_code
def yX8_start : MethodName := ⟨RX8, "start", "(II)V"⟩
abbrev cX8_copyFrom : ByteArray := prog_10_method_3_code
def yX8_copyFrom : MethodName := ⟨RX8, "copyFrom", "(LBeamChart$Ship;)V"⟩
def RX9 : String := "BeamChart$Ways"
def TX9 : u_T := fun k => match k with
  | 0 => ("BeamChart$Ways", "open", "[Z", true)
  | 1 => ("BeamChart$Ways", "lengths", "[I", true)
  | 2 => ("BeamChart$Ways", "firstCells", "[I", true)
  | _ => ("BeamChart$Ways", "queue", "[I", true)
def tyX9 : Nat → FieldType := fun k => match k with
  | 0 => .array .boolean
  | 1 => .array .int
  | 2 => .array .int
  | _ => .array .int
abbrev wsX90 : List Cond := u_ws RX9 TX9 4
theorem nmX9 : ∀ a, a < 4 → ∀ b, b < 4 → a ≠ b → (TX9 a).2.1 ≠ (TX9 b).2.1 := by decide +kernel
theorem tyX9_ok : ∀ k, k < 4 → parseFieldDescriptor (TX9 k).2.2.1 = some (tyX9 k) := by decide +kernel
abbrev cX9_init : ByteArray := prog_11_method_1_code
def yX9_init : MethodName := ⟨RX9, "<init>", "()V"⟩
abbrev cX9_openFor : ByteArray := prog_11_method_2_code
def yX9_openFor : MethodName := ⟨RX9, "openFor", "(LBeamChart$Coast;II)V"⟩
abbrev cX9_openDeep : ByteArray := prog_11_method_3_code
def yX9_openDeep : MethodName := ⟨RX9, "openDeep", "(LBeamChart$Coast;I)V"⟩
abbrev cX9_lengthTo : ByteArray := prog_11_method_4_code
def yX9_lengthTo : MethodName := ⟨RX9, "lengthTo", "(I)I"⟩
abbrev cX9_searchFrom : ByteArray := prog_11_method_5_code
def yX9_searchFrom : MethodName := ⟨RX9, "searchFrom", "(I)V"⟩
abbrev cX9_improveFrom : ByteArray := prog_11_method_6_code
def yX9_improveFrom : MethodName := ⟨RX9, "improveFrom", "(I)V"⟩
abbrev cX9_nextCell : ByteArray := prog_11_method_7_code
def yX9_nextCell : MethodName := ⟨RX9, "nextCell", "(LBeamChart$Coast;IIII)I"⟩
abbrev cX9_beginAt : ByteArray := prog_11_method_8_code
def yX9_beginAt : MethodName := ⟨RX9, "beginAt", "(I)V"⟩
abbrev cX9_improveAll : ByteArray := prog_11_method_9_code
def yX9_improveAll : MethodName := ⟨RX9, "improveAll", "()Z"⟩
def RX10 : String := "BeamChart"
def TX10 : u_T := fun k => match k with
  | 0 => ("BeamChart", "coast", "LBeamChart$Coast;", true)
  | 1 => ("BeamChart", "snapshot", "LBeamChart$Coast;", true)
  | 2 => ("BeamChart", "hasSnapshot", "Z", false)
  | 3 => ("BeamChart", "history", "LBeamChart$History;", true)
  | 4 => ("BeamChart", "ways", "LBeamChart$Ways;", true)
  | 5 => ("BeamChart", "groups", "LBeamChart$CellGroups;", true)
  | 6 => ("BeamChart", "reached", "[J", true)
  | 7 => ("BeamChart", "text", "LBeamChart$CommandText;", true)
  | 8 => ("BeamChart", "keptFault", "I", false)
  | 9 => ("BeamChart", "line", "Ljava/lang/StringBuilder;", true)
  | 10 => ("BeamChart", "deniedNumber", "I", false)
  | 11 => ("BeamChart", "deniedDetail", "I", false)
  | _ => ("BeamChart", "deniedCause", "I", false)
def tyX10 : Nat → FieldType := fun k => match k with
  | 0 => .object "BeamChart$Coast"
  | 1 => .object "BeamChart$Coast"
  | 2 => .boolean
  | 3 => .object "BeamChart$History"
  | 4 => .object "BeamChart$Ways"
  | 5 => .object "BeamChart$CellGroups"
  | 6 => .array .long
  | 7 => .object "BeamChart$CommandText"
  | 8 => .int
  | 9 => .object "java/lang/StringBuilder"
  | 10 => .int
  | 11 => .int
  | _ => .int
abbrev wsX100 : List Cond := u_ws RX10 TX10 13
theorem nmX10 : ∀ a, a < 13 → ∀ b, b < 13 → a ≠ b → (TX10 a).2.1 ≠ (TX10 b).2.1 := by decide +kernel
theorem tyX10_ok : ∀ k, k < 13 → parseFieldDescriptor (TX10 k).2.2.1 = some (tyX10 k) := by decide +kernel
abbrev cX10_init : ByteArray := prog_1_method_1_code
def yX10_init : MethodName := ⟨RX10, "<init>", "()V"⟩
abbrev cX10_setDepth : ByteArray := prog_1_method_2_code
def yX10_setDepth : MethodName := ⟨RX10, "setDepth", "(III)I"⟩
abbrev cX10_depth : ByteArray := prog_1_method_3_code
def yX10_depth : MethodName := ⟨RX10, "depth", "(II)I"⟩
abbrev cX10_water : ByteArray := prog_1_method_4_code
def yX10_water : MethodName := ⟨RX10, "water", "(II)I"⟩
abbrev cX10_tide : ByteArray := prog_1_method_5_code
def yX10_tide : MethodName := ⟨RX10, "tide", "()I"⟩
abbrev cX10_columnByDepth : ByteArray := prog_1_method_6_code
def yX10_columnByDepth : MethodName := ⟨RX10, "columnByDepth", "(I)I"⟩
abbrev cX10_rowByDepth : ByteArray := prog_1_method_7_code
def yX10_rowByDepth : MethodName := ⟨RX10, "rowByDepth", "(I)I"⟩
abbrev cX10_clearance : ByteArray := prog_1_method_8_code
def yX10_clearance : MethodName := ⟨RX10, "clearance", "(IIII)I"⟩
abbrev cX10_clearanceByFlooding : ByteArray := prog_1_method_9_code
def yX10_clearanceByFlooding : MethodName := ⟨RX10, "clearanceByFlooding", "(IIII)I"⟩
abbrev cX10_addLight : ByteArray := prog_1_method_10_code
def yX10_addLight : MethodName := ⟨RX10, "addLight", "(IIII)I"⟩
abbrev cX10_setPhase : ByteArray := prog_1_method_11_code
def yX10_setPhase : MethodName := ⟨RX10, "setPhase", "(II)I"⟩
abbrev cX10_removeLight : ByteArray := prog_1_method_12_code
def yX10_removeLight : MethodName := ⟨RX10, "removeLight", "(I)I"⟩
abbrev cX10_lightCount : ByteArray := prog_1_method_13_code
def yX10_lightCount : MethodName := ⟨RX10, "lightCount", "()I"⟩
abbrev cX10_lightOn : ByteArray := prog_1_method_14_code
def yX10_lightOn : MethodName := ⟨RX10, "lightOn", "(II)I"⟩
abbrev cX10_beam : ByteArray := prog_1_method_15_code
def yX10_beam : MethodName := ⟨RX10, "beam", "(I)I"⟩
abbrev cX10_sectorOf : ByteArray := prog_1_method_16_code
def yX10_sectorOf : MethodName := ⟨RX10, "sectorOf", "(III)I"⟩
abbrev cX10_reaches : ByteArray := prog_1_method_17_code
def yX10_reaches : MethodName := ⟨RX10, "reaches", "(III)Z"⟩
abbrev cX10_sweeps : ByteArray := prog_1_method_18_code
def yX10_sweeps : MethodName := ⟨RX10, "sweeps", "(III)Z"⟩
abbrev cX10_minutesUntilSwept : ByteArray := prog_1_method_19_code
def yX10_minutesUntilSwept : MethodName := ⟨RX10, "minutesUntilSwept", "(III)I"⟩
abbrev cX10_minutesUntilSweptByDivision : ByteArray := prog_1_method_20_code
def yX10_minutesUntilSweptByDivision : MethodName := ⟨RX10, "minutesUntilSweptByDivision", "(III)I"⟩
abbrev cX10_reachedCells : ByteArray := prog_1_method_21_code
def yX10_reachedCells : MethodName := ⟨RX10, "reachedCells", "(I)I"⟩
abbrev cX10_litCells : ByteArray := prog_1_method_22_code
def yX10_litCells : MethodName := ⟨RX10, "litCells", "()I"⟩
abbrev cX10_fewestLights : ByteArray := prog_1_method_23_code
def yX10_fewestLights : MethodName := ⟨RX10, "fewestLights", "()I"⟩
abbrev cX10_fewestLightsBySearch : ByteArray := prog_1_method_24_code
def yX10_fewestLightsBySearch : MethodName := ⟨RX10, "fewestLightsBySearch", "()I"⟩
abbrev cX10_addShip : ByteArray := prog_1_method_25_code
def yX10_addShip : MethodName := ⟨RX10, "addShip", "(III)I"⟩
abbrev cX10_steer : ByteArray := prog_1_method_26_code
def yX10_steer : MethodName := ⟨RX10, "steer", "(III)I"⟩
abbrev cX10_salvage : ByteArray := prog_1_method_27_code
def yX10_salvage : MethodName := ⟨RX10, "salvage", "(I)I"⟩
abbrev cX10_pass : ByteArray := prog_1_method_28_code
def yX10_pass : MethodName := ⟨RX10, "pass", "(I)I"⟩
abbrev cX10_shipCount : ByteArray := prog_1_method_29_code
def yX10_shipCount : MethodName := ⟨RX10, "shipCount", "()I"⟩
abbrev cX10_columnOf : ByteArray := prog_1_method_30_code
def yX10_columnOf : MethodName := ⟨RX10, "columnOf", "(I)I"⟩
abbrev cX10_rowOf : ByteArray := prog_1_method_31_code
def yX10_rowOf : MethodName := ⟨RX10, "rowOf", "(I)I"⟩
abbrev cX10_goalColumn : ByteArray := prog_1_method_32_code
def yX10_goalColumn : MethodName := ⟨RX10, "goalColumn", "(I)I"⟩
abbrev cX10_goalRow : ByteArray := prog_1_method_33_code
def yX10_goalRow : MethodName := ⟨RX10, "goalRow", "(I)I"⟩
abbrev cX10_isWrecked : ByteArray := prog_1_method_34_code
def yX10_isWrecked : MethodName := ⟨RX10, "isWrecked", "(I)Z"⟩
abbrev cX10_seenBy : ByteArray := prog_1_method_35_code
def yX10_seenBy : MethodName := ⟨RX10, "seenBy", "(I)I"⟩
abbrev cX10_darkMinutes : ByteArray := prog_1_method_36_code
def yX10_darkMinutes : MethodName := ⟨RX10, "darkMinutes", "(I)I"⟩
abbrev cX10_wayLength : ByteArray := prog_1_method_37_code
def yX10_wayLength : MethodName := ⟨RX10, "wayLength", "(III)I"⟩
abbrev cX10_wayLengthByRounds : ByteArray := prog_1_method_38_code
def yX10_wayLengthByRounds : MethodName := ⟨RX10, "wayLengthByRounds", "(III)I"⟩
abbrev cX10_minutesUntilArrival : ByteArray := prog_1_method_39_code
def yX10_minutesUntilArrival : MethodName := ⟨RX10, "minutesUntilArrival", "(I)I"⟩
abbrev cX10_shipByDarkness : ByteArray := prog_1_method_40_code
def yX10_shipByDarkness : MethodName := ⟨RX10, "shipByDarkness", "(I)I"⟩
abbrev cX10_minute : ByteArray := prog_1_method_41_code
def yX10_minute : MethodName := ⟨RX10, "minute", "()I"⟩
abbrev cX10_sightingsOf : ByteArray := prog_1_method_42_code
def yX10_sightingsOf : MethodName := ⟨RX10, "sightingsOf", "(I)I"⟩
abbrev cX10_sightings : ByteArray := prog_1_method_43_code
def yX10_sightings : MethodName := ⟨RX10, "sightings", "()I"⟩
abbrev cX10_sightingsByLights : ByteArray := prog_1_method_44_code
def yX10_sightingsByLights : MethodName := ⟨RX10, "sightingsByLights", "()I"⟩
abbrev cX10_wrecks : ByteArray := prog_1_method_45_code
def yX10_wrecks : MethodName := ⟨RX10, "wrecks", "()I"⟩
abbrev cX10_salvaged : ByteArray := prog_1_method_46_code
def yX10_salvaged : MethodName := ⟨RX10, "salvaged", "()I"⟩
abbrev cX10_meanDepth : ByteArray := prog_1_method_47_code
def yX10_meanDepth : MethodName := ⟨RX10, "meanDepth", "()D"⟩
abbrev cX10_seenShare : ByteArray := prog_1_method_48_code
def yX10_seenShare : MethodName := ⟨RX10, "seenShare", "()F"⟩
abbrev cX10_feed : ByteArray := prog_1_method_49_code
def yX10_feed : MethodName := ⟨RX10, "feed", "(C)I"⟩
abbrev cX10_execute : ByteArray := prog_1_method_50_code
def yX10_execute : MethodName := ⟨RX10, "execute", "()I"⟩
abbrev cX10_writeShip : ByteArray := prog_1_method_53_code
def yX10_writeShip : MethodName := ⟨RX10, "writeShip", "(I)I"⟩
abbrev cX10_denial : ByteArray := prog_1_method_55_code
def yX10_denial : MethodName := ⟨RX10, "denial", "()I"⟩
abbrev cX10_denialCause : ByteArray := prog_1_method_57_code
def yX10_denialCause : MethodName := ⟨RX10, "denialCause", "()I"⟩
abbrev cX10_undo : ByteArray := prog_1_method_58_code
def yX10_undo : MethodName := ⟨RX10, "undo", "()I"⟩
abbrev cX10_undoCount : ByteArray := prog_1_method_59_code
def yX10_undoCount : MethodName := ⟨RX10, "undoCount", "()I"⟩
abbrev cX10_saveSnapshot : ByteArray := prog_1_method_60_code
def yX10_saveSnapshot : MethodName := ⟨RX10, "saveSnapshot", "()I"⟩
abbrev cX10_restoreSnapshot : ByteArray := prog_1_method_61_code
def yX10_restoreSnapshot : MethodName := ⟨RX10, "restoreSnapshot", "()I"⟩
abbrev cX10_changeDepth : ByteArray := prog_1_method_62_code
def yX10_changeDepth : MethodName := ⟨RX10, "changeDepth", "(III)I"⟩
abbrev cX10_placeLight : ByteArray := prog_1_method_63_code
def yX10_placeLight : MethodName := ⟨RX10, "placeLight", "(IIII)I"⟩
abbrev cX10_changePhase : ByteArray := prog_1_method_64_code
def yX10_changePhase : MethodName := ⟨RX10, "changePhase", "(II)I"⟩
abbrev cX10_douseLight : ByteArray := prog_1_method_65_code
def yX10_douseLight : MethodName := ⟨RX10, "douseLight", "(I)I"⟩
abbrev cX10_launchShip : ByteArray := prog_1_method_66_code
def yX10_launchShip : MethodName := ⟨RX10, "launchShip", "(III)I"⟩
abbrev cX10_changeGoal : ByteArray := prog_1_method_67_code
def yX10_changeGoal : MethodName := ⟨RX10, "changeGoal", "(III)I"⟩
abbrev cX10_salvageShip : ByteArray := prog_1_method_68_code
def yX10_salvageShip : MethodName := ⟨RX10, "salvageShip", "(I)I"⟩
abbrev cX10_passMinutes : ByteArray := prog_1_method_69_code
def yX10_passMinutes : MethodName := ⟨RX10, "passMinutes", "(I)I"⟩
abbrev cX10_perform : ByteArray := prog_1_method_70_code
def yX10_perform : MethodName := ⟨RX10, "perform", "(LBeamChart$Command;)I"⟩
abbrev cX10_deny : ByteArray := prog_1_method_71_code
def yX10_deny : MethodName := ⟨RX10, "deny", "(II)I"⟩
abbrev cX10_keepDenial : ByteArray := prog_1_method_72_code
def yX10_keepDenial : MethodName := ⟨RX10, "keepDenial", "(III)V"⟩
abbrev cX10_settle : ByteArray := prog_1_method_73_code
def yX10_settle : MethodName := ⟨RX10, "settle", "(I)I"⟩
abbrev cX10_existingCell : ByteArray := prog_1_method_74_code
def yX10_existingCell : MethodName := ⟨RX10, "existingCell", "(II)I"⟩
abbrev cX10_existingLight : ByteArray := prog_1_method_75_code
def yX10_existingLight : MethodName := ⟨RX10, "existingLight", "(I)LBeamChart$Light;"⟩
abbrev cX10_existingShip : ByteArray := prog_1_method_76_code
def yX10_existingShip : MethodName := ⟨RX10, "existingShip", "(I)LBeamChart$Ship;"⟩
abbrev cX10_existingGoal : ByteArray := prog_1_method_77_code
def yX10_existingGoal : MethodName := ⟨RX10, "existingGoal", "(LBeamChart$Ship;)I"⟩
abbrev cX10_existingLength : ByteArray := prog_1_method_78_code
def yX10_existingLength : MethodName := ⟨RX10, "existingLength", "(I)I"⟩
abbrev cX10_reachedCell : ByteArray := prog_1_method_79_code
def yX10_reachedCell : MethodName := ⟨RX10, "reachedCell", "(LBeamChart$Light;II)I"⟩
abbrev cX10_cellByDepth : ByteArray := prog_1_method_80_code
def yX10_cellByDepth : MethodName := ⟨RX10, "cellByDepth", "(I)I"⟩
abbrev cX10_reachOfAll : ByteArray := prog_1_method_81_code
def yX10_reachOfAll : MethodName := ⟨RX10, "reachOfAll", "()J"⟩
abbrev cX10_reachOfSet : ByteArray := prog_1_method_82_code
def yX10_reachOfSet : MethodName := ⟨RX10, "reachOfSet", "(I)J"⟩
abbrev cX10_fewestToReach : ByteArray := prog_1_method_83_code
def yX10_fewestToReach : MethodName := ⟨RX10, "fewestToReach", "([JIJI)I"⟩
abbrev cX10_isCell : ByteArray := prog_1_method_84_code
def yX10_isCell : MethodName := ⟨RX10, "isCell", "(II)Z"⟩
abbrev cX10_columnIn : ByteArray := prog_1_method_85_code
def yX10_columnIn : MethodName := ⟨RX10, "columnIn", "(I)I"⟩
abbrev cX10_rowIn : ByteArray := prog_1_method_86_code
def yX10_rowIn : MethodName := ⟨RX10, "rowIn", "(I)I"⟩
abbrev cX10_neighbour : ByteArray := prog_1_method_87_code
def yX10_neighbour : MethodName := ⟨RX10, "neighbour", "(II)I"⟩
abbrev cX10_tideAt : ByteArray := prog_1_method_88_code
def yX10_tideAt : MethodName := ⟨RX10, "tideAt", "(I)I"⟩
def RX11 : String := "BeamChartModel"
def TX11 : u_T := fun k => match k with
  | _ => ("", "", "", false)
def tyX11 : Nat → FieldType := fun k => match k with
  | _ => .int
abbrev wsX110 : List Cond := u_ws RX11 TX11 0
theorem nmX11 : ∀ a, a < 0 → ∀ b, b < 0 → a ≠ b → (TX11 a).2.1 ≠ (TX11 b).2.1 := by decide +kernel
theorem tyX11_ok : ∀ k, k < 0 → parseFieldDescriptor (TX11 k).2.2.1 = some (tyX11 k) := by decide +kernel
def RJx145de : String := "java/io/Serializable"
def TJx145de : u_T := fun k => match k with
  | _ => ("", "", "", false)
def tyJx145de : Nat → FieldType := fun k => match k with
  | _ => .int
abbrev wsJx145de0 : List Cond := u_ws RJx145de TJx145de 0
theorem nmJx145de : ∀ a, a < 0 → ∀ b, b < 0 → a ≠ b → (TJx145de a).2.1 ≠ (TJx145de b).2.1 := by decide +kernel
theorem tyJx145de_ok : ∀ k, k < 0 → parseFieldDescriptor (TJx145de k).2.2.1 = some (tyJx145de k) := by decide +kernel
def RJ5 : String := "java/lang/AbstractStringBuilder"
def TJ5 : u_T := fun k => match k with
  | _ => ("", "", "", false)
def tyJ5 : Nat → FieldType := fun k => match k with
  | _ => .int
abbrev wsJ50 : List Cond := u_ws RJ5 TJ5 0
theorem nmJ5 : ∀ a, a < 0 → ∀ b, b < 0 → a ≠ b → (TJ5 a).2.1 ≠ (TJ5 b).2.1 := by decide +kernel
theorem tyJ5_ok : ∀ k, k < 0 → parseFieldDescriptor (TJ5 k).2.2.1 = some (tyJ5 k) := by decide +kernel
abbrev cJ5_init_d00df : ByteArray := prog_15_method_2_code
def yJ5_init_d00df : MethodName := ⟨RJ5, "<init>", "(I)V"⟩
abbrev cJ5_length_8abf5 : ByteArray := prog_15_method_6_code
def yJ5_length_8abf5 : MethodName := ⟨RJ5, "length", "()I"⟩
abbrev cJ5_ensureCapacityInternal_d00df : ByteArray := prog_15_method_9_code
def yJ5_ensureCapacityInternal_d00df : MethodName := ⟨RJ5, "ensureCapacityInternal", "(I)V"⟩
abbrev cJ5_newCapacity_0f7a4 : ByteArray := prog_15_method_10_code
def yJ5_newCapacity_0f7a4 : MethodName := ⟨RJ5, "newCapacity", "(I)I"⟩
abbrev cJ5_inflate_da8c8 : ByteArray := prog_15_method_11_code
def yJ5_inflate_da8c8 : MethodName := ⟨RJ5, "inflate", "()V"⟩
abbrev cJ5_setLength_d00df : ByteArray := prog_15_method_13_code
def yJ5_setLength_d00df : MethodName := ⟨RJ5, "setLength", "(I)V"⟩
abbrev cJ5_append_cf1ce : ByteArray := prog_15_method_22_code
def yJ5_append_cf1ce : MethodName := ⟨RJ5, "append", "(Ljava/lang/String;)Ljava/lang/AbstractStringBuilder;"⟩
abbrev cJ5_appendNull_278bc : ByteArray := prog_15_method_26_code
def yJ5_appendNull_278bc : MethodName := ⟨RJ5, "appendNull", "()Ljava/lang/AbstractStringBuilder;"⟩
abbrev cJ5_append_3fe6f : ByteArray := prog_15_method_31_code
def yJ5_append_3fe6f : MethodName := ⟨RJ5, "append", "(C)Ljava/lang/AbstractStringBuilder;"⟩
abbrev cJ5_append_c97b9 : ByteArray := prog_15_method_32_code
def yJ5_append_c97b9 : MethodName := ⟨RJ5, "append", "(I)Ljava/lang/AbstractStringBuilder;"⟩
abbrev cJ5_getValue_6d5f1 : ByteArray := prog_15_method_64_code
def yJ5_getValue_6d5f1 : MethodName := ⟨RJ5, "getValue", "()[B"⟩
abbrev cJ5_isLatin1_aae02 : ByteArray := prog_15_method_68_code
def yJ5_isLatin1_aae02 : MethodName := ⟨RJ5, "isLatin1", "()Z"⟩
abbrev cJ5_inflateIfNeededFor_a7421 : ByteArray := prog_15_method_71_code
def yJ5_inflateIfNeededFor_a7421 : MethodName := ⟨RJ5, "inflateIfNeededFor", "(Ljava/lang/String;)V"⟩
abbrev cJ5_putStringAt_47b60 : ByteArray := prog_15_method_73_code
def yJ5_putStringAt_47b60 : MethodName := ⟨RJ5, "putStringAt", "(ILjava/lang/String;)V"⟩
def RJx2cfe8 : String := "java/lang/Appendable"
def TJx2cfe8 : u_T := fun k => match k with
  | _ => ("", "", "", false)
def tyJx2cfe8 : Nat → FieldType := fun k => match k with
  | _ => .int
abbrev wsJx2cfe80 : List Cond := u_ws RJx2cfe8 TJx2cfe8 0
theorem nmJx2cfe8 : ∀ a, a < 0 → ∀ b, b < 0 → a ≠ b → (TJx2cfe8 a).2.1 ≠ (TJx2cfe8 b).2.1 := by decide +kernel
theorem tyJx2cfe8_ok : ∀ k, k < 0 → parseFieldDescriptor (TJx2cfe8 k).2.2.1 = some (tyJx2cfe8 k) := by decide +kernel
def RJx00060 : String := "java/lang/ArrayIndexOutOfBoundsException"
def TJx00060 : u_T := fun k => match k with
  | 0 => ("java/lang/Throwable", "backtrace", "Ljava/lang/Object;", false)
  | 1 => ("java/lang/Throwable", "detailMessage", "Ljava/lang/String;", false)
  | 2 => ("java/lang/Throwable", "cause", "Ljava/lang/Throwable;", false)
  | 3 => ("java/lang/Throwable", "stackTrace", "[Ljava/lang/StackTraceElement;", false)
  | 4 => ("java/lang/Throwable", "depth", "I", false)
  | _ => ("java/lang/Throwable", "suppressedExceptions", "Ljava/util/List;", false)
def tyJx00060 : Nat → FieldType := fun k => match k with
  | 0 => .object "java/lang/Object"
  | 1 => .object "java/lang/String"
  | 2 => .object "java/lang/Throwable"
  | 3 => .array (.object "java/lang/StackTraceElement")
  | 4 => .int
  | _ => .object "java/util/List"
abbrev wsJx000600 : List Cond := u_ws RJx00060 TJx00060 6
theorem nmJx00060 : ∀ a, a < 6 → ∀ b, b < 6 → a ≠ b → (TJx00060 a).2.1 ≠ (TJx00060 b).2.1 := by decide +kernel
theorem tyJx00060_ok : ∀ k, k < 6 → parseFieldDescriptor (TJx00060 k).2.2.1 = some (tyJx00060 k) := by decide +kernel
abbrev cJx00060_init_a7421 : ByteArray := prog_18_method_2_code
def yJx00060_init_a7421 : MethodName := ⟨RJx00060, "<init>", "(Ljava/lang/String;)V"⟩
abbrev cJx00060_init_d00df : ByteArray := prog_18_method_3_code
def yJx00060_init_d00df : MethodName := ⟨RJx00060, "<init>", "(I)V"⟩
def RJx9f9b0 : String := "java/lang/CharSequence"
def TJx9f9b0 : u_T := fun k => match k with
  | _ => ("", "", "", false)
def tyJx9f9b0 : Nat → FieldType := fun k => match k with
  | _ => .int
abbrev wsJx9f9b00 : List Cond := u_ws RJx9f9b0 TJx9f9b0 0
theorem nmJx9f9b0 : ∀ a, a < 0 → ∀ b, b < 0 → a ≠ b → (TJx9f9b0 a).2.1 ≠ (TJx9f9b0 b).2.1 := by decide +kernel
theorem tyJx9f9b0_ok : ∀ k, k < 0 → parseFieldDescriptor (TJx9f9b0 k).2.2.1 = some (tyJx9f9b0 k) := by decide +kernel
def RJx8e188 : String := "java/lang/Cloneable"
def TJx8e188 : u_T := fun k => match k with
  | _ => ("", "", "", false)
def tyJx8e188 : Nat → FieldType := fun k => match k with
  | _ => .int
abbrev wsJx8e1880 : List Cond := u_ws RJx8e188 TJx8e188 0
theorem nmJx8e188 : ∀ a, a < 0 → ∀ b, b < 0 → a ≠ b → (TJx8e188 a).2.1 ≠ (TJx8e188 b).2.1 := by decide +kernel
theorem tyJx8e188_ok : ∀ k, k < 0 → parseFieldDescriptor (TJx8e188 k).2.2.1 = some (tyJx8e188 k) := by decide +kernel
def RJxb160c : String := "java/lang/Comparable"
def TJxb160c : u_T := fun k => match k with
  | _ => ("", "", "", false)
def tyJxb160c : Nat → FieldType := fun k => match k with
  | _ => .int
abbrev wsJxb160c0 : List Cond := u_ws RJxb160c TJxb160c 0
theorem nmJxb160c : ∀ a, a < 0 → ∀ b, b < 0 → a ≠ b → (TJxb160c a).2.1 ≠ (TJxb160c b).2.1 := by decide +kernel
theorem tyJxb160c_ok : ∀ k, k < 0 → parseFieldDescriptor (TJxb160c k).2.2.1 = some (tyJxb160c k) := by decide +kernel
def RJx29ce0 : String := "java/lang/Enum"
def TJx29ce0 : u_T := fun k => match k with
  | _ => ("", "", "", false)
def tyJx29ce0 : Nat → FieldType := fun k => match k with
  | _ => .int
abbrev wsJx29ce00 : List Cond := u_ws RJx29ce0 TJx29ce0 0
theorem nmJx29ce0 : ∀ a, a < 0 → ∀ b, b < 0 → a ≠ b → (TJx29ce0 a).2.1 ≠ (TJx29ce0 b).2.1 := by decide +kernel
theorem tyJx29ce0_ok : ∀ k, k < 0 → parseFieldDescriptor (TJx29ce0 k).2.2.1 = some (tyJx29ce0 k) := by decide +kernel
abbrev cJx29ce0_ordinal_8abf5 : ByteArray := prog_22_method_2_code
def yJx29ce0_ordinal_8abf5 : MethodName := ⟨RJx29ce0, "ordinal", "()I"⟩
def RJ6 : String := "java/lang/Integer"
def TJ6 : u_T := fun k => match k with
  | _ => ("", "", "", false)
def tyJ6 : Nat → FieldType := fun k => match k with
  | _ => .int
abbrev wsJ60 : List Cond := u_ws RJ6 TJ6 0
theorem nmJ6 : ∀ a, a < 0 → ∀ b, b < 0 → a ≠ b → (TJ6 a).2.1 ≠ (TJ6 b).2.1 := by decide +kernel
theorem tyJ6_ok : ∀ k, k < 0 → parseFieldDescriptor (TJ6 k).2.2.1 = some (tyJ6 k) := by decide +kernel
abbrev cJ6_getChars_ba4f3 : ByteArray := prog_27_method_12_code
def yJ6_getChars_ba4f3 : MethodName := ⟨RJ6, "getChars", "(II[B)I"⟩
abbrev cJ6_stringSize_0f7a4 : ByteArray := prog_27_method_13_code
def yJ6_stringSize_0f7a4 : MethodName := ⟨RJ6, "stringSize", "(I)I"⟩
abbrev cJ6_bitCount_0f7a4 : ByteArray := prog_27_method_49_code
def yJ6_bitCount_0f7a4 : MethodName := ⟨RJ6, "bitCount", "(I)I"⟩
def RJ13 : String := "java/lang/Long"
def TJ13 : u_T := fun k => match k with
  | _ => ("", "", "", false)
def tyJ13 : Nat → FieldType := fun k => match k with
  | _ => .int
abbrev wsJ130 : List Cond := u_ws RJ13 TJ13 0
theorem nmJ13 : ∀ a, a < 0 → ∀ b, b < 0 → a ≠ b → (TJ13 a).2.1 ≠ (TJ13 b).2.1 := by decide +kernel
theorem tyJ13_ok : ∀ k, k < 0 → parseFieldDescriptor (TJ13 k).2.2.1 = some (tyJ13 k) := by decide +kernel
abbrev cJ13_bitCount_95d88 : ByteArray := prog_28_method_50_code
def yJ13_bitCount_95d88 : MethodName := ⟨RJ13, "bitCount", "(J)I"⟩
def RJ9 : String := "java/lang/Math"
def TJ9 : u_T := fun k => match k with
  | _ => ("", "", "", false)
def tyJ9 : Nat → FieldType := fun k => match k with
  | _ => .int
abbrev wsJ90 : List Cond := u_ws RJ9 TJ9 0
theorem nmJ9 : ∀ a, a < 0 → ∀ b, b < 0 → a ≠ b → (TJ9 a).2.1 ≠ (TJ9 b).2.1 := by decide +kernel
theorem tyJ9_ok : ∀ k, k < 0 → parseFieldDescriptor (TJ9 k).2.2.1 = some (tyJ9 k) := by decide +kernel
abbrev cJ9_floorDiv_7cf53 : ByteArray := prog_29_method_47_code
def yJ9_floorDiv_7cf53 : MethodName := ⟨RJ9, "floorDiv", "(II)I"⟩
abbrev cJ9_floorMod_7cf53 : ByteArray := prog_29_method_50_code
def yJ9_floorMod_7cf53 : MethodName := ⟨RJ9, "floorMod", "(II)I"⟩
abbrev cJ9_abs_0f7a4 : ByteArray := prog_29_method_59_code
def yJ9_abs_0f7a4 : MethodName := ⟨RJ9, "abs", "(I)I"⟩
abbrev cJ9_max_7cf53 : ByteArray := prog_29_method_65_code
def yJ9_max_7cf53 : MethodName := ⟨RJ9, "max", "(II)I"⟩
abbrev cJ9_min_7cf53 : ByteArray := prog_29_method_69_code
def yJ9_min_7cf53 : MethodName := ⟨RJ9, "min", "(II)I"⟩
def RJxd2413 : String := "java/lang/Number"
def TJxd2413 : u_T := fun k => match k with
  | _ => ("", "", "", false)
def tyJxd2413 : Nat → FieldType := fun k => match k with
  | _ => .int
abbrev wsJxd24130 : List Cond := u_ws RJxd2413 TJxd2413 0
theorem nmJxd2413 : ∀ a, a < 0 → ∀ b, b < 0 → a ≠ b → (TJxd2413 a).2.1 ≠ (TJxd2413 b).2.1 := by decide +kernel
theorem tyJxd2413_ok : ∀ k, k < 0 → parseFieldDescriptor (TJxd2413 k).2.2.1 = some (tyJxd2413 k) := by decide +kernel
def RJ0 : String := "java/lang/String"
def TJ0 : u_T := fun k => match k with
  | 0 => ("java/lang/String", "value", "[B", true)
  | 1 => ("java/lang/String", "coder", "B", true)
  | 2 => ("java/lang/String", "hash", "I", false)
  | _ => ("java/lang/String", "hashIsZero", "Z", false)
def tyJ0 : Nat → FieldType := fun k => match k with
  | 0 => .array .byte
  | 1 => .byte
  | 2 => .int
  | _ => .boolean
abbrev wsJ00 : List Cond := u_ws RJ0 TJ0 4
theorem nmJ0 : ∀ a, a < 4 → ∀ b, b < 4 → a ≠ b → (TJ0 a).2.1 ≠ (TJ0 b).2.1 := by decide +kernel
theorem tyJ0_ok : ∀ k, k < 4 → parseFieldDescriptor (TJ0 k).2.2.1 = some (tyJ0 k) := by decide +kernel
abbrev cJ0_init_81219 : ByteArray := prog_32_method_53_code
def yJ0_init_81219 : MethodName := ⟨RJ0, "<init>", "(Ljava/lang/StringBuilder;)V"⟩
abbrev cJ0_length_8abf5 : ByteArray := prog_32_method_54_code
def yJ0_length_8abf5 : MethodName := ⟨RJ0, "length", "()I"⟩
abbrev cJ0_charAt_5068e : ByteArray := prog_32_method_56_code
def yJ0_charAt_5068e : MethodName := ⟨RJ0, "charAt", "(I)C"⟩
abbrev cJ0_getBytes_840e7 : ByteArray := prog_32_method_147_code
def yJ0_getBytes_840e7 : MethodName := ⟨RJ0, "getBytes", "([BIB)V"⟩
abbrev cJ0_init_db425 : ByteArray := prog_32_method_150_code
def yJ0_init_db425 : MethodName := ⟨RJ0, "<init>", "(Ljava/lang/AbstractStringBuilder;Ljava/lang/Void;)V"⟩
abbrev cJ0_coder_7d493 : ByteArray := prog_32_method_152_code
def yJ0_coder_7d493 : MethodName := ⟨RJ0, "coder", "()B"⟩
abbrev cJ0_isLatin1_aae02 : ByteArray := prog_32_method_154_code
def yJ0_isLatin1_aae02 : MethodName := ⟨RJ0, "isLatin1", "()Z"⟩
abbrev cJ0_checkIndex_df160 : ByteArray := prog_32_method_155_code
def yJ0_checkIndex_df160 : MethodName := ⟨RJ0, "checkIndex", "(II)V"⟩
abbrev cJ0_checkBoundsOffCount_cabcc : ByteArray := prog_32_method_157_code
def yJ0_checkBoundsOffCount_cabcc : MethodName := ⟨RJ0, "checkBoundsOffCount", "(III)I"⟩
abbrev cJ0_checkBoundsBeginEnd_23922 : ByteArray := prog_32_method_158_code
def yJ0_checkBoundsBeginEnd_23922 : MethodName := ⟨RJ0, "checkBoundsBeginEnd", "(III)V"⟩
def RJ4 : String := "java/lang/StringBuilder"
def TJ4 : u_T := fun k => match k with
  | 0 => ("java/lang/AbstractStringBuilder", "value", "[B", false)
  | 1 => ("java/lang/AbstractStringBuilder", "coder", "B", false)
  | 2 => ("java/lang/AbstractStringBuilder", "maybeLatin1", "Z", false)
  | _ => ("java/lang/AbstractStringBuilder", "count", "I", false)
def tyJ4 : Nat → FieldType := fun k => match k with
  | 0 => .array .byte
  | 1 => .byte
  | 2 => .boolean
  | _ => .int
abbrev wsJ40 : List Cond := u_ws RJ4 TJ4 4
theorem nmJ4 : ∀ a, a < 4 → ∀ b, b < 4 → a ≠ b → (TJ4 a).2.1 ≠ (TJ4 b).2.1 := by decide +kernel
theorem tyJ4_ok : ∀ k, k < 4 → parseFieldDescriptor (TJ4 k).2.2.1 = some (tyJ4 k) := by decide +kernel
abbrev cJ4_init_da8c8 : ByteArray := prog_33_method_1_code
def yJ4_init_da8c8 : MethodName := ⟨RJ4, "<init>", "()V"⟩
abbrev cJ4_append_15ec4 : ByteArray := prog_33_method_7_code
def yJ4_append_15ec4 : MethodName := ⟨RJ4, "append", "(Ljava/lang/String;)Ljava/lang/StringBuilder;"⟩
abbrev cJ4_append_cf468 : ByteArray := prog_33_method_14_code
def yJ4_append_cf468 : MethodName := ⟨RJ4, "append", "(C)Ljava/lang/StringBuilder;"⟩
abbrev cJ4_append_bf812 : ByteArray := prog_33_method_15_code
def yJ4_append_bf812 : MethodName := ⟨RJ4, "append", "(I)Ljava/lang/StringBuilder;"⟩
abbrev cJ4_toString_0e30d : ByteArray := prog_33_method_42_code
def yJ4_toString_0e30d : MethodName := ⟨RJ4, "toString", "()Ljava/lang/String;"⟩
abbrev cJ4_setLength_d00df : ByteArray := prog_33_method_89_code
def yJ4_setLength_d00df : MethodName := ⟨RJ4, "setLength", "(I)V"⟩
abbrev cJ4_length_8abf5 : ByteArray := prog_33_method_93_code
def yJ4_length_8abf5 : MethodName := ⟨RJ4, "length", "()I"⟩
def RJx7c733 : String := "java/lang/StringIndexOutOfBoundsException"
def TJx7c733 : u_T := fun k => match k with
  | 0 => ("java/lang/Throwable", "backtrace", "Ljava/lang/Object;", false)
  | 1 => ("java/lang/Throwable", "detailMessage", "Ljava/lang/String;", false)
  | 2 => ("java/lang/Throwable", "cause", "Ljava/lang/Throwable;", false)
  | 3 => ("java/lang/Throwable", "stackTrace", "[Ljava/lang/StackTraceElement;", false)
  | 4 => ("java/lang/Throwable", "depth", "I", false)
  | _ => ("java/lang/Throwable", "suppressedExceptions", "Ljava/util/List;", false)
def tyJx7c733 : Nat → FieldType := fun k => match k with
  | 0 => .object "java/lang/Object"
  | 1 => .object "java/lang/String"
  | 2 => .object "java/lang/Throwable"
  | 3 => .array (.object "java/lang/StackTraceElement")
  | 4 => .int
  | _ => .object "java/util/List"
abbrev wsJx7c7330 : List Cond := u_ws RJx7c733 TJx7c733 6
theorem nmJx7c733 : ∀ a, a < 6 → ∀ b, b < 6 → a ≠ b → (TJx7c733 a).2.1 ≠ (TJx7c733 b).2.1 := by decide +kernel
theorem tyJx7c733_ok : ∀ k, k < 6 → parseFieldDescriptor (TJx7c733 k).2.2.1 = some (tyJx7c733 k) := by decide +kernel
abbrev cJx7c733_init_d00df : ByteArray := prog_34_method_3_code
def yJx7c733_init_d00df : MethodName := ⟨RJx7c733, "<init>", "(I)V"⟩
def RJ1 : String := "java/lang/StringLatin1"
def TJ1 : u_T := fun k => match k with
  | _ => ("", "", "", false)
def tyJ1 : Nat → FieldType := fun k => match k with
  | _ => .int
abbrev wsJ10 : List Cond := u_ws RJ1 TJ1 0
theorem nmJ1 : ∀ a, a < 0 → ∀ b, b < 0 → a ≠ b → (TJ1 a).2.1 ≠ (TJ1 b).2.1 := by decide +kernel
theorem tyJ1_ok : ∀ k, k < 0 → parseFieldDescriptor (TJ1 k).2.2.1 = some (tyJ1 k) := by decide +kernel
abbrev cJ1_charAt_3b067 : ByteArray := prog_35_method_2_code
def yJ1_charAt_3b067 : MethodName := ⟨RJ1, "charAt", "([BI)C"⟩
abbrev cJ1_canEncode_fc78d : ByteArray := prog_35_method_3_code
def yJ1_canEncode_fc78d : MethodName := ⟨RJ1, "canEncode", "(C)Z"⟩
abbrev cJ1_fillNull_b72d1 : ByteArray := prog_35_method_48_code
def yJ1_fillNull_b72d1 : MethodName := ⟨RJ1, "fillNull", "([BII)V"⟩
abbrev cJ1_inflate_0e8fd : ByteArray := prog_35_method_50_code
def yJ1_inflate_0e8fd : MethodName := ⟨RJ1, "inflate", "([BI[BII)V"⟩
def RJ2 : String := "java/lang/StringUTF16"
def TJ2 : u_T := fun k => match k with
  | _ => ("", "", "", false)
def tyJ2 : Nat → FieldType := fun k => match k with
  | _ => .int
abbrev wsJ20 : List Cond := u_ws RJ2 TJ2 0
theorem nmJ2 : ∀ a, a < 0 → ∀ b, b < 0 → a ≠ b → (TJ2 a).2.1 ≠ (TJ2 b).2.1 := by decide +kernel
theorem tyJ2_ok : ∀ k, k < 0 → parseFieldDescriptor (TJ2 k).2.2.1 = some (tyJ2 k) := by decide +kernel
abbrev cJ2_newBytesFor_77867 : ByteArray := prog_36_method_2_code
def yJ2_newBytesFor_77867 : MethodName := ⟨RJ2, "newBytesFor", "(I)[B"⟩
abbrev cJ2_newBytesLength_0f7a4 : ByteArray := prog_36_method_3_code
def yJ2_newBytesLength_0f7a4 : MethodName := ⟨RJ2, "newBytesLength", "(I)I"⟩
abbrev cJ2_putChar_b72d1 : ByteArray := prog_36_method_4_code
def yJ2_putChar_b72d1 : MethodName := ⟨RJ2, "putChar", "([BII)V"⟩
abbrev cJ2_getChar_3b067 : ByteArray := prog_36_method_5_code
def yJ2_getChar_3b067 : MethodName := ⟨RJ2, "getChar", "([BI)C"⟩
abbrev cJ2_length_9d52b : ByteArray := prog_36_method_6_code
def yJ2_length_9d52b : MethodName := ⟨RJ2, "length", "([B)I"⟩
abbrev cJ2_coderFromArrayLen_85cad : ByteArray := prog_36_method_15_code
def yJ2_coderFromArrayLen_85cad : MethodName := ⟨RJ2, "coderFromArrayLen", "([BI)B"⟩
abbrev cJ2_compress_39247 : ByteArray := prog_36_method_17_code
def yJ2_compress_39247 : MethodName := ⟨RJ2, "compress", "([BII)[B"⟩
abbrev cJ2_compress_5af95 : ByteArray := prog_36_method_22_code
def yJ2_compress_5af95 : MethodName := ⟨RJ2, "compress", "([BI[BII)I"⟩
abbrev cJ2_fillNull_b72d1 : ByteArray := prog_36_method_70_code
def yJ2_fillNull_b72d1 : MethodName := ⟨RJ2, "fillNull", "([BII)V"⟩
abbrev cJ2_putCharSB_b72d1 : ByteArray := prog_36_method_71_code
def yJ2_putCharSB_b72d1 : MethodName := ⟨RJ2, "putCharSB", "([BII)V"⟩
abbrev cJ2_getChars_46870 : ByteArray := prog_36_method_77_code
def yJ2_getChars_46870 : MethodName := ⟨RJ2, "getChars", "(III[B)I"⟩
abbrev cJ2_putCharsAt_cd4e5 : ByteArray := prog_36_method_81_code
def yJ2_putCharsAt_cd4e5 : MethodName := ⟨RJ2, "putCharsAt", "([BICCCC)I"⟩
abbrev cJ2_charAt_3b067 : ByteArray := prog_36_method_83_code
def yJ2_charAt_3b067 : MethodName := ⟨RJ2, "charAt", "([BI)C"⟩
abbrev cJ2_inflate_0e8fd : ByteArray := prog_36_method_86_code
def yJ2_inflate_0e8fd : MethodName := ⟨RJ2, "inflate", "([BI[BII)V"⟩
abbrev cJ2_getChars_ba4f3 : ByteArray := prog_36_method_89_code
def yJ2_getChars_ba4f3 : MethodName := ⟨RJ2, "getChars", "(II[B)I"⟩
abbrev cJ2_checkIndex_2214a : ByteArray := prog_36_method_91_code
def yJ2_checkIndex_2214a : MethodName := ⟨RJ2, "checkIndex", "(I[B)V"⟩
abbrev cJ2_checkBoundsBeginEnd_d044e : ByteArray := prog_36_method_93_code
def yJ2_checkBoundsBeginEnd_d044e : MethodName := ⟨RJ2, "checkBoundsBeginEnd", "(II[B)V"⟩
abbrev cJ2_checkBoundsOffCount_d044e : ByteArray := prog_36_method_94_code
def yJ2_checkBoundsOffCount_d044e : MethodName := ⟨RJ2, "checkBoundsOffCount", "(II[B)V"⟩
def RJ10 : String := "java/lang/System"
def TJ10 : u_T := fun k => match k with
  | _ => ("", "", "", false)
def tyJ10 : Nat → FieldType := fun k => match k with
  | _ => .int
abbrev wsJ100 : List Cond := u_ws RJ10 TJ10 0
theorem nmJ10 : ∀ a, a < 0 → ∀ b, b < 0 → a ≠ b → (TJ10 a).2.1 ≠ (TJ10 b).2.1 := by decide +kernel
theorem tyJ10_ok : ∀ k, k < 0 → parseFieldDescriptor (TJ10 k).2.2.1 = some (tyJ10 k) := by decide +kernel
def RJxfd54e : String := "java/lang/constant/Constable"
def TJxfd54e : u_T := fun k => match k with
  | _ => ("", "", "", false)
def tyJxfd54e : Nat → FieldType := fun k => match k with
  | _ => .int
abbrev wsJxfd54e0 : List Cond := u_ws RJxfd54e TJxfd54e 0
theorem nmJxfd54e : ∀ a, a < 0 → ∀ b, b < 0 → a ≠ b → (TJxfd54e a).2.1 ≠ (TJxfd54e b).2.1 := by decide +kernel
theorem tyJxfd54e_ok : ∀ k, k < 0 → parseFieldDescriptor (TJxfd54e k).2.2.1 = some (tyJxfd54e k) := by decide +kernel
def RJx3cf43 : String := "java/lang/constant/ConstantDesc"
def TJx3cf43 : u_T := fun k => match k with
  | _ => ("", "", "", false)
def tyJx3cf43 : Nat → FieldType := fun k => match k with
  | _ => .int
abbrev wsJx3cf430 : List Cond := u_ws RJx3cf43 TJx3cf43 0
theorem nmJx3cf43 : ∀ a, a < 0 → ∀ b, b < 0 → a ≠ b → (TJx3cf43 a).2.1 ≠ (TJx3cf43 b).2.1 := by decide +kernel
theorem tyJx3cf43_ok : ∀ k, k < 0 → parseFieldDescriptor (TJx3cf43 k).2.2.1 = some (tyJx3cf43 k) := by decide +kernel
def RJ7 : String := "java/util/Arrays"
def TJ7 : u_T := fun k => match k with
  | _ => ("", "", "", false)
def tyJ7 : Nat → FieldType := fun k => match k with
  | _ => .int
abbrev wsJ70 : List Cond := u_ws RJ7 TJ7 0
theorem nmJ7 : ∀ a, a < 0 → ∀ b, b < 0 → a ≠ b → (TJ7 a).2.1 ≠ (TJ7 b).2.1 := by decide +kernel
theorem tyJ7_ok : ∀ k, k < 0 → parseFieldDescriptor (TJ7 k).2.2.1 = some (tyJ7 k) := by decide +kernel
abbrev cJ7_rangeCheck_23922 : ByteArray := prog_42_method_30_code
def yJ7_rangeCheck_23922 : MethodName := ⟨RJ7, "rangeCheck", "(III)V"⟩
abbrev cJ7_fill_eb02e : ByteArray := prog_42_method_110_code
def yJ7_fill_eb02e : MethodName := ⟨RJ7, "fill", "([BIIB)V"⟩
abbrev cJ7_copyOf_9075b : ByteArray := prog_42_method_121_code
def yJ7_copyOf_9075b : MethodName := ⟨RJ7, "copyOf", "([BI)[B"⟩
abbrev cJ7_checkLength_df160 : ByteArray := prog_42_method_131_code
def yJ7_checkLength_df160 : MethodName := ⟨RJ7, "checkLength", "(II)V"⟩
abbrev cJ7_copyOfRange_39247 : ByteArray := prog_42_method_132_code
def yJ7_copyOfRange_39247 : MethodName := ⟨RJ7, "copyOfRange", "([BII)[B"⟩
abbrev cJ7_copyOfRangeByte_39247 : ByteArray := prog_42_method_133_code
def yJ7_copyOfRangeByte_39247 : MethodName := ⟨RJ7, "copyOfRangeByte", "([BII)[B"⟩
def RJ8 : String := "jdk/internal/util/ArraysSupport"
def TJ8 : u_T := fun k => match k with
  | _ => ("", "", "", false)
def tyJ8 : Nat → FieldType := fun k => match k with
  | _ => .int
abbrev wsJ80 : List Cond := u_ws RJ8 TJ8 0
theorem nmJ8 : ∀ a, a < 0 → ∀ b, b < 0 → a ≠ b → (TJ8 a).2.1 ≠ (TJ8 b).2.1 := by decide +kernel
theorem tyJ8_ok : ∀ k, k < 0 → parseFieldDescriptor (TJ8 k).2.2.1 = some (tyJ8 k) := by decide +kernel
abbrev cJ8_newLength_cabcc : ByteArray := prog_44_method_27_code
def yJ8_newLength_cabcc : MethodName := ⟨RJ8, "newLength", "(III)I"⟩
abbrev cJ8_hugeLength_7cf53 : ByteArray := prog_44_method_28_code
def yJ8_hugeLength_7cf53 : MethodName := ⟨RJ8, "hugeLength", "(II)I"⟩
def RJ3 : String := "jdk/internal/util/Preconditions"
def TJ3 : u_T := fun k => match k with
  | _ => ("", "", "", false)
def tyJ3 : Nat → FieldType := fun k => match k with
  | _ => .int
abbrev wsJ30 : List Cond := u_ws RJ3 TJ3 0
theorem nmJ3 : ∀ a, a < 0 → ∀ b, b < 0 → a ≠ b → (TJ3 a).2.1 ≠ (TJ3 b).2.1 := by decide +kernel
theorem tyJ3_ok : ∀ k, k < 0 → parseFieldDescriptor (TJ3 k).2.2.1 = some (tyJ3 k) := by decide +kernel
abbrev cJ3_checkIndex_8e157 : ByteArray := prog_45_method_11_code
def yJ3_checkIndex_8e157 : MethodName := ⟨RJ3, "checkIndex", "(IILjava/util/function/BiFunction;)I"⟩
abbrev cJ3_checkFromToIndex_8c36e : ByteArray := prog_45_method_12_code
def yJ3_checkFromToIndex_8c36e : MethodName := ⟨RJ3, "checkFromToIndex", "(IIILjava/util/function/BiFunction;)I"⟩
abbrev cJ3_checkFromIndexSize_8c36e : ByteArray := prog_45_method_13_code
def yJ3_checkFromIndexSize_8c36e : MethodName := ⟨RJ3, "checkFromIndexSize", "(IIILjava/util/function/BiFunction;)I"⟩
def RL : String := "BeamChartLaw"
abbrev cL_cell : ByteArray := method_2_code
def yL_cell : MethodName := ⟨RL, "cell", "([II)I"⟩
abbrev cL_setDepth : ByteArray := method_3_code
def yL_setDepth : MethodName := ⟨RL, "setDepth", "(LBeamChart;III)I"⟩
abbrev cL_addLight : ByteArray := method_4_code
def yL_addLight : MethodName := ⟨RL, "addLight", "(LBeamChart;IIII)I"⟩
abbrev cL_setPhase : ByteArray := method_5_code
def yL_setPhase : MethodName := ⟨RL, "setPhase", "(LBeamChart;II)I"⟩
abbrev cL_removeLight : ByteArray := method_6_code
def yL_removeLight : MethodName := ⟨RL, "removeLight", "(LBeamChart;I)I"⟩
abbrev cL_lightOn : ByteArray := method_7_code
def yL_lightOn : MethodName := ⟨RL, "lightOn", "(LBeamChart;II)I"⟩
abbrev cL_sectorOf : ByteArray := method_8_code
def yL_sectorOf : MethodName := ⟨RL, "sectorOf", "(LBeamChart;III)I"⟩
abbrev cL_minutesUntilSwept : ByteArray := method_9_code
def yL_minutesUntilSwept : MethodName := ⟨RL, "minutesUntilSwept", "(LBeamChart;III)I"⟩
abbrev cL_minutesUntilSweptByDivision : ByteArray := method_10_code
def yL_minutesUntilSweptByDivision : MethodName := ⟨RL, "minutesUntilSweptByDivision", "(LBeamChart;III)I"⟩
abbrev cL_addShip : ByteArray := method_11_code
def yL_addShip : MethodName := ⟨RL, "addShip", "(LBeamChart;III)I"⟩
abbrev cL_steer : ByteArray := method_12_code
def yL_steer : MethodName := ⟨RL, "steer", "(LBeamChart;III)I"⟩
abbrev cL_salvage : ByteArray := method_13_code
def yL_salvage : MethodName := ⟨RL, "salvage", "(LBeamChart;I)I"⟩
abbrev cL_pass : ByteArray := method_14_code
def yL_pass : MethodName := ⟨RL, "pass", "(LBeamChart;I)I"⟩
abbrev cL_goalColumn : ByteArray := method_15_code
def yL_goalColumn : MethodName := ⟨RL, "goalColumn", "(LBeamChart;I)I"⟩
abbrev cL_goalRow : ByteArray := method_16_code
def yL_goalRow : MethodName := ⟨RL, "goalRow", "(LBeamChart;I)I"⟩
abbrev cL_wayLength : ByteArray := method_17_code
def yL_wayLength : MethodName := ⟨RL, "wayLength", "(LBeamChart;III)I"⟩
abbrev cL_wayLengthByRounds : ByteArray := method_18_code
def yL_wayLengthByRounds : MethodName := ⟨RL, "wayLengthByRounds", "(LBeamChart;III)I"⟩
abbrev cL_minutesUntilArrival : ByteArray := method_19_code
def yL_minutesUntilArrival : MethodName := ⟨RL, "minutesUntilArrival", "(LBeamChart;I)I"⟩
abbrev cL_shipByDarkness : ByteArray := method_20_code
def yL_shipByDarkness : MethodName := ⟨RL, "shipByDarkness", "(LBeamChart;I)I"⟩
abbrev cL_seenShare : ByteArray := method_21_code
def yL_seenShare : MethodName := ⟨RL, "seenShare", "(LBeamChart;)F"⟩
abbrev cL_execute : ByteArray := method_22_code
def yL_execute : MethodName := ⟨RL, "execute", "(LBeamChart;)I"⟩
abbrev cL_denial : ByteArray := method_23_code
def yL_denial : MethodName := ⟨RL, "denial", "(LBeamChart;)I"⟩
abbrev cL_denialCause : ByteArray := method_24_code
def yL_denialCause : MethodName := ⟨RL, "denialCause", "(LBeamChart;)I"⟩
abbrev cL_undo : ByteArray := method_25_code
def yL_undo : MethodName := ⟨RL, "undo", "(LBeamChart;)I"⟩
abbrev cL_restore : ByteArray := method_26_code
def yL_restore : MethodName := ⟨RL, "restore", "(LBeamChart;)I"⟩
abbrev cL_put : ByteArray := method_27_code
def yL_put : MethodName := ⟨RL, "put", "(LBeamChart;C)Z"⟩
abbrev cL_typed : ByteArray := method_28_code
def yL_typed : MethodName := ⟨RL, "typed", "(LBeamChart;Ljava/lang/String;)LBeamChart;"⟩
abbrev cL_act : ByteArray := method_29_code
def yL_act : MethodName := ⟨RL, "act", "(LBeamChart;I)I"⟩
abbrev cL_digest : ByteArray := method_30_code
def yL_digest : MethodName := ⟨RL, "digest", "(LBeamChart;)J"⟩
abbrev cL_areDepths : ByteArray := method_31_code
def yL_areDepths : MethodName := ⟨RL, "areDepths", "(LBeamChart;)Z"⟩
abbrev cL_isLight : ByteArray := method_32_code
def yL_isLight : MethodName := ⟨RL, "isLight", "(LBeamChart;I)Z"⟩
abbrev cL_placeOf : ByteArray := method_33_code
def yL_placeOf : MethodName := ⟨RL, "placeOf", "(LBeamChart;I)I"⟩
abbrev cL_areLights : ByteArray := method_34_code
def yL_areLights : MethodName := ⟨RL, "areLights", "(LBeamChart;)Z"⟩
abbrev cL_areShips : ByteArray := method_35_code
def yL_areShips : MethodName := ⟨RL, "areShips", "(LBeamChart;)Z"⟩
abbrev cL_isArrived : ByteArray := method_36_code
def yL_isArrived : MethodName := ⟨RL, "isArrived", "(LBeamChart;I)Z"⟩
abbrev cL_isMinute : ByteArray := method_37_code
def yL_isMinute : MethodName := ⟨RL, "isMinute", "(LBeamChart;)Z"⟩
abbrev cL_isFit : ByteArray := method_38_code
def yL_isFit : MethodName := ⟨RL, "isFit", "(LBeamChart;)Z"⟩
abbrev cL_law : ByteArray := code
def yL_law : MethodName := ⟨RL, "law", "([I)Z"⟩
abbrev vwCl : List vw_C := [(RJ0, TJ0, 4), (RJ4, TJ4, 4), (RJx00060, TJx00060, 6), (RJx7c733, TJx7c733, 6), (RX1, TX1, 1), (RX2, TX2, 10), (RX3, TX3, 2), (RX5, TX5, 5), (RX6, TX6, 4), (RX7, TX7, 5), (RX8, TX8, 5), (RX9, TX9, 4), (RX10, TX10, 13)]
