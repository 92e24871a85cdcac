/-! ===== BEGIN printed: names, fields, word lists, decode rows ===== -/
def RX0 : String := "FlowNetwork$Cuts"
def TX0 : u_T := fun k => match k with
  | 0 => ("FlowNetwork$Cuts", "count", "I", false)
  | 1 => ("FlowNetwork$Cuts", "masks", "[I", true)
  | _ => ("FlowNetwork$Cuts", "reachable", "[I", true)
def tyX0 : Nat → FieldType := fun k => match k with
  | 0 => .int
  | 1 => .array .int
  | _ => .array .int
abbrev wsX00 : List Cond := u_ws RX0 TX0 3
theorem nmX0 : ∀ a, a < 3 → ∀ b, b < 3 → a ≠ b → (TX0 a).2.1 ≠ (TX0 b).2.1 := by decide +kernel
theorem tyX0_ok : ∀ k, k < 3 → parseFieldDescriptor (TX0 k).2.2.1 = some (tyX0 k) := by decide +kernel
abbrev cX0_init : ByteArray := prog_2_method_1_code
def yX0_init : MethodName := ⟨RX0, "<init>", "()V"⟩
def RX1 : String := "FlowNetwork$Flow"
def TX1 : u_T := fun k => match k with
  | 0 => ("FlowNetwork$Flow", "network", "LFlowNetwork$Network;", true)
  | 1 => ("FlowNetwork$Flow", "capacity", "[I", true)
  | _ => ("FlowNetwork$Flow", "amount", "[I", true)
def tyX1 : Nat → FieldType := fun k => match k with
  | 0 => .object "FlowNetwork$Network"
  | 1 => .array .int
  | _ => .array .int
abbrev wsX10 : List Cond := u_ws RX1 TX1 3
theorem nmX1 : ∀ a, a < 3 → ∀ b, b < 3 → a ≠ b → (TX1 a).2.1 ≠ (TX1 b).2.1 := by decide +kernel
theorem tyX1_ok : ∀ k, k < 3 → parseFieldDescriptor (TX1 k).2.2.1 = some (tyX1 k) := by decide +kernel
abbrev cX1_init : ByteArray := prog_3_method_1_code
def yX1_init : MethodName := ⟨RX1, "<init>", "(LFlowNetwork$Network;)V"⟩
abbrev cX1_copy : ByteArray := prog_3_method_2_code
def yX1_copy : MethodName := ⟨RX1, "copy", "(LFlowNetwork$Flow;)V"⟩
abbrev cX1_block : ByteArray := prog_3_method_3_code
def yX1_block : MethodName := ⟨RX1, "block", "(I)V"⟩
abbrev cX1_room : ByteArray := prog_3_method_4_code
def yX1_room : MethodName := ⟨RX1, "room", "(II)I"⟩
abbrev cX1_send : ByteArray := prog_3_method_5_code
def yX1_send : MethodName := ⟨RX1, "send", "(III)V"⟩
abbrev cX1_reachableFrom : ByteArray := prog_3_method_6_code
def yX1_reachableFrom : MethodName := ⟨RX1, "reachableFrom", "(I)I"⟩
abbrev cX1_withNeighbours : ByteArray := prog_3_method_7_code
def yX1_withNeighbours : MethodName := ⟨RX1, "withNeighbours", "(I)I"⟩
abbrev cX1_capacityOut : ByteArray := prog_3_method_8_code
def yX1_capacityOut : MethodName := ⟨RX1, "capacityOut", "(I)I"⟩
def RX2 : String := "FlowNetwork$Levels"
def TX2 : u_T := fun k => match k with
  | 0 => ("FlowNetwork$Levels", "count", "I", false)
  | 1 => ("FlowNetwork$Levels", "capacity", "[[I", true)
  | 2 => ("FlowNetwork$Levels", "source", "[I", true)
  | _ => ("FlowNetwork$Levels", "sink", "[I", true)
def tyX2 : Nat → FieldType := fun k => match k with
  | 0 => .int
  | 1 => .array (.array .int)
  | 2 => .array .int
  | _ => .array .int
abbrev wsX20 : List Cond := u_ws RX2 TX2 4
theorem nmX2 : ∀ a, a < 4 → ∀ b, b < 4 → a ≠ b → (TX2 a).2.1 ≠ (TX2 b).2.1 := by decide +kernel
theorem tyX2_ok : ∀ k, k < 4 → parseFieldDescriptor (TX2 k).2.2.1 = some (tyX2 k) := by decide +kernel
abbrev cX2_init : ByteArray := prog_4_method_1_code
def yX2_init : MethodName := ⟨RX2, "<init>", "()V"⟩
def RX3 : String := "FlowNetwork$MaximumFlow"
def TX3 : u_T := fun k => match k with
  | 0 => ("FlowNetwork$MaximumFlow", "network", "LFlowNetwork$Network;", true)
  | 1 => ("FlowNetwork$MaximumFlow", "flow", "LFlowNetwork$Flow;", true)
  | 2 => ("FlowNetwork$MaximumFlow", "router", "LFlowNetwork$Router;", true)
  | 3 => ("FlowNetwork$MaximumFlow", "source", "I", false)
  | 4 => ("FlowNetwork$MaximumFlow", "sink", "I", false)
  | _ => ("FlowNetwork$MaximumFlow", "settled", "Z", false)
def tyX3 : Nat → FieldType := fun k => match k with
  | 0 => .object "FlowNetwork$Network"
  | 1 => .object "FlowNetwork$Flow"
  | 2 => .object "FlowNetwork$Router"
  | 3 => .int
  | 4 => .int
  | _ => .boolean
abbrev wsX30 : List Cond := u_ws RX3 TX3 6
theorem nmX3 : ∀ a, a < 6 → ∀ b, b < 6 → a ≠ b → (TX3 a).2.1 ≠ (TX3 b).2.1 := by decide +kernel
theorem tyX3_ok : ∀ k, k < 6 → parseFieldDescriptor (TX3 k).2.2.1 = some (tyX3 k) := by decide +kernel
abbrev cX3_init : ByteArray := prog_5_method_1_code
def yX3_init : MethodName := ⟨RX3, "<init>", "(LFlowNetwork$Network;)V"⟩
abbrev cX3_hasEnds : ByteArray := prog_5_method_2_code
def yX3_hasEnds : MethodName := ⟨RX3, "hasEnds", "()Z"⟩
abbrev cX3_copy : ByteArray := prog_5_method_3_code
def yX3_copy : MethodName := ⟨RX3, "copy", "(LFlowNetwork$MaximumFlow;)V"⟩
abbrev cX3_chooseEnds : ByteArray := prog_5_method_4_code
def yX3_chooseEnds : MethodName := ⟨RX3, "chooseEnds", "(II)Z"⟩
abbrev cX3_changeCapacity : ByteArray := prog_5_method_5_code
def yX3_changeCapacity : MethodName := ⟨RX3, "changeCapacity", "(II)V"⟩
abbrev cX3_moveAway : ByteArray := prog_5_method_6_code
def yX3_moveAway : MethodName := ⟨RX3, "moveAway", "(III)V"⟩
abbrev cX3_settle : ByteArray := prog_5_method_7_code
def yX3_settle : MethodName := ⟨RX3, "settle", "()V"⟩
abbrev cX3_greatestValue : ByteArray := prog_5_method_8_code
def yX3_greatestValue : MethodName := ⟨RX3, "greatestValue", "()I"⟩
abbrev cX3_smallestMask : ByteArray := prog_5_method_9_code
def yX3_smallestMask : MethodName := ⟨RX3, "smallestMask", "()I"⟩
abbrev cX3_greatestMask : ByteArray := prog_5_method_10_code
def yX3_greatestMask : MethodName := ⟨RX3, "greatestMask", "()I"⟩
def RX4 : String := "FlowNetwork$Network"
def TX4 : u_T := fun k => match k with
  | 0 => ("FlowNetwork$Network", "nodes", "I", false)
  | 1 => ("FlowNetwork$Network", "arcs", "I", false)
  | 2 => ("FlowNetwork$Network", "tail", "[I", true)
  | 3 => ("FlowNetwork$Network", "head", "[I", true)
  | 4 => ("FlowNetwork$Network", "degree", "[I", true)
  | _ => ("FlowNetwork$Network", "arcsAt", "[[I", true)
def tyX4 : Nat → FieldType := fun k => match k with
  | 0 => .int
  | 1 => .int
  | 2 => .array .int
  | 3 => .array .int
  | 4 => .array .int
  | _ => .array (.array .int)
abbrev wsX40 : List Cond := u_ws RX4 TX4 6
theorem nmX4 : ∀ a, a < 6 → ∀ b, b < 6 → a ≠ b → (TX4 a).2.1 ≠ (TX4 b).2.1 := by decide +kernel
theorem tyX4_ok : ∀ k, k < 6 → parseFieldDescriptor (TX4 k).2.2.1 = some (tyX4 k) := by decide +kernel
abbrev cX4_init : ByteArray := prog_6_method_1_code
def yX4_init : MethodName := ⟨RX4, "<init>", "()V"⟩
abbrev cX4_makeNode : ByteArray := prog_6_method_2_code
def yX4_makeNode : MethodName := ⟨RX4, "makeNode", "()I"⟩
abbrev cX4_makeArc : ByteArray := prog_6_method_3_code
def yX4_makeArc : MethodName := ⟨RX4, "makeArc", "(II)I"⟩
abbrev cX4_attach : ByteArray := prog_6_method_4_code
def yX4_attach : MethodName := ⟨RX4, "attach", "(II)V"⟩
abbrev cX4_otherEnd : ByteArray := prog_6_method_5_code
def yX4_otherEnd : MethodName := ⟨RX4, "otherEnd", "(II)I"⟩
abbrev cX4_allNodes : ByteArray := prog_6_method_6_code
def yX4_allNodes : MethodName := ⟨RX4, "allNodes", "()I"⟩
def RX5 : String := "FlowNetwork$Router"
def TX5 : u_T := fun k => match k with
  | 0 => ("FlowNetwork$Router", "network", "LFlowNetwork$Network;", true)
  | 1 => ("FlowNetwork$Router", "flow", "LFlowNetwork$Flow;", true)
  | 2 => ("FlowNetwork$Router", "excess", "[I", true)
  | 3 => ("FlowNetwork$Router", "height", "[I", true)
  | 4 => ("FlowNetwork$Router", "queue", "[I", true)
  | 5 => ("FlowNetwork$Router", "start", "I", false)
  | _ => ("FlowNetwork$Router", "goal", "I", false)
def tyX5 : Nat → FieldType := fun k => match k with
  | 0 => .object "FlowNetwork$Network"
  | 1 => .object "FlowNetwork$Flow"
  | 2 => .array .int
  | 3 => .array .int
  | 4 => .array .int
  | 5 => .int
  | _ => .int
abbrev wsX50 : List Cond := u_ws RX5 TX5 7
theorem nmX5 : ∀ a, a < 7 → ∀ b, b < 7 → a ≠ b → (TX5 a).2.1 ≠ (TX5 b).2.1 := by decide +kernel
theorem tyX5_ok : ∀ k, k < 7 → parseFieldDescriptor (TX5 k).2.2.1 = some (tyX5 k) := by decide +kernel
abbrev cX5_init : ByteArray := prog_7_method_1_code
def yX5_init : MethodName := ⟨RX5, "<init>", "(LFlowNetwork$Network;LFlowNetwork$Flow;)V"⟩
abbrev cX5_route : ByteArray := prog_7_method_2_code
def yX5_route : MethodName := ⟨RX5, "route", "(III)I"⟩
abbrev cX5_setHeights : ByteArray := prog_7_method_3_code
def yX5_setHeights : MethodName := ⟨RX5, "setHeights", "()V"⟩
abbrev cX5_findBehind : ByteArray := prog_7_method_4_code
def yX5_findBehind : MethodName := ⟨RX5, "findBehind", "(II)I"⟩
abbrev cX5_sweepOnce : ByteArray := prog_7_method_5_code
def yX5_sweepOnce : MethodName := ⟨RX5, "sweepOnce", "()Z"⟩
abbrev cX5_isActive : ByteArray := prog_7_method_6_code
def yX5_isActive : MethodName := ⟨RX5, "isActive", "(I)Z"⟩
abbrev cX5_pushOut : ByteArray := prog_7_method_7_code
def yX5_pushOut : MethodName := ⟨RX5, "pushOut", "(I)V"⟩
abbrev cX5_lift : ByteArray := prog_7_method_8_code
def yX5_lift : MethodName := ⟨RX5, "lift", "(I)V"⟩
def RX6 : String := "FlowNetwork"
def TX6 : u_T := fun k => match k with
  | 0 => ("FlowNetwork", "network", "LFlowNetwork$Network;", true)
  | 1 => ("FlowNetwork", "current", "LFlowNetwork$MaximumFlow;", true)
  | 2 => ("FlowNetwork", "trial", "LFlowNetwork$MaximumFlow;", true)
  | 3 => ("FlowNetwork", "levels", "LFlowNetwork$Levels;", true)
  | _ => ("FlowNetwork", "cuts", "LFlowNetwork$Cuts;", true)
def tyX6 : Nat → FieldType := fun k => match k with
  | 0 => .object "FlowNetwork$Network"
  | 1 => .object "FlowNetwork$MaximumFlow"
  | 2 => .object "FlowNetwork$MaximumFlow"
  | 3 => .object "FlowNetwork$Levels"
  | _ => .object "FlowNetwork$Cuts"
abbrev wsX60 : List Cond := u_ws RX6 TX6 5
theorem nmX6 : ∀ a, a < 5 → ∀ b, b < 5 → a ≠ b → (TX6 a).2.1 ≠ (TX6 b).2.1 := by decide +kernel
theorem tyX6_ok : ∀ k, k < 5 → parseFieldDescriptor (TX6 k).2.2.1 = some (tyX6 k) := by decide +kernel
abbrev cX6_init : ByteArray := prog_1_method_1_code
def yX6_init : MethodName := ⟨RX6, "<init>", "()V"⟩
abbrev cX6_addNode : ByteArray := prog_1_method_2_code
def yX6_addNode : MethodName := ⟨RX6, "addNode", "()I"⟩
abbrev cX6_addArc : ByteArray := prog_1_method_3_code
def yX6_addArc : MethodName := ⟨RX6, "addArc", "(III)I"⟩
abbrev cX6_setCapacity : ByteArray := prog_1_method_4_code
def yX6_setCapacity : MethodName := ⟨RX6, "setCapacity", "(II)I"⟩
abbrev cX6_scale : ByteArray := prog_1_method_5_code
def yX6_scale : MethodName := ⟨RX6, "scale", "(ID)I"⟩
abbrev cX6_setEnds : ByteArray := prog_1_method_6_code
def yX6_setEnds : MethodName := ⟨RX6, "setEnds", "(II)Z"⟩
abbrev cX6_maximum : ByteArray := prog_1_method_10_code
def yX6_maximum : MethodName := ⟨RX6, "maximum", "()I"⟩
abbrev cX6_maximumWith : ByteArray := prog_1_method_11_code
def yX6_maximumWith : MethodName := ⟨RX6, "maximumWith", "(II)I"⟩
abbrev cX6_maximumBetween : ByteArray := prog_1_method_13_code
def yX6_maximumBetween : MethodName := ⟨RX6, "maximumBetween", "(II)I"⟩
abbrev cX6_leastFlow : ByteArray := prog_1_method_15_code
def yX6_leastFlow : MethodName := ⟨RX6, "leastFlow", "(I)I"⟩
abbrev cX6_greatestFlow : ByteArray := prog_1_method_16_code
def yX6_greatestFlow : MethodName := ⟨RX6, "greatestFlow", "(I)I"⟩
abbrev cX6_cutCapacity : ByteArray := prog_1_method_17_code
def yX6_cutCapacity : MethodName := ⟨RX6, "cutCapacity", "(I)I"⟩
abbrev cX6_smallestCut : ByteArray := prog_1_method_18_code
def yX6_smallestCut : MethodName := ⟨RX6, "smallestCut", "()I"⟩
abbrev cX6_greatestCut : ByteArray := prog_1_method_19_code
def yX6_greatestCut : MethodName := ⟨RX6, "greatestCut", "()I"⟩
abbrev cX6_requireEnds : ByteArray := prog_1_method_28_code
def yX6_requireEnds : MethodName := ⟨RX6, "requireEnds", "()V"⟩
abbrev cX6_requireNode : ByteArray := prog_1_method_29_code
def yX6_requireNode : MethodName := ⟨RX6, "requireNode", "(I)V"⟩
abbrev cX6_requireArc : ByteArray := prog_1_method_30_code
def yX6_requireArc : MethodName := ⟨RX6, "requireArc", "(I)V"⟩
abbrev cX6_requireDifferent : ByteArray := prog_1_method_31_code
def yX6_requireDifferent : MethodName := ⟨RX6, "requireDifferent", "(II)V"⟩
abbrev cX6_requireCapacity : ByteArray := prog_1_method_32_code
def yX6_requireCapacity : MethodName := ⟨RX6, "requireCapacity", "(I)V"⟩
abbrev cX6_requireFraction : ByteArray := prog_1_method_33_code
def yX6_requireFraction : MethodName := ⟨RX6, "requireFraction", "(D)V"⟩
abbrev cX6_isCut : ByteArray := prog_1_method_34_code
def yX6_isCut : MethodName := ⟨RX6, "isCut", "(I)Z"⟩
abbrev cX6_movable : ByteArray := prog_1_method_35_code
def yX6_movable : MethodName := ⟨RX6, "movable", "(III)I"⟩
abbrev cX6_scaled : ByteArray := prog_1_method_36_code
def yX6_scaled : MethodName := ⟨RX6, "scaled", "(ID)I"⟩
abbrev cX6_contains : ByteArray := prog_1_method_37_code
def yX6_contains : MethodName := ⟨RX6, "contains", "(II)Z"⟩
def RX7 : String := "FlowNetworkModel"
def TX7 : u_T := fun k => match k with
  | _ => ("", "", "", false)
def tyX7 : Nat → FieldType := fun k => match k with
  | _ => .int
abbrev wsX70 : List Cond := u_ws RX7 TX7 0
theorem nmX7 : ∀ a, a < 0 → ∀ b, b < 0 → a ≠ b → (TX7 a).2.1 ≠ (TX7 b).2.1 := by decide +kernel
theorem tyX7_ok : ∀ k, k < 0 → parseFieldDescriptor (TX7 k).2.2.1 = some (tyX7 k) := by decide +kernel
def RJx145de : String := "java/io/Serializable"
def TJx145de : u_T := fun k => match k with
  | _ => ("", "", "", false)
def tyJx145de : Nat → FieldType := fun k => match k with
  | _ => .int
abbrev wsJx145de0 : List Cond := u_ws RJx145de TJx145de 0
theorem nmJx145de : ∀ a, a < 0 → ∀ b, b < 0 → a ≠ b → (TJx145de a).2.1 ≠ (TJx145de b).2.1 := by decide +kernel
theorem tyJx145de_ok : ∀ k, k < 0 → parseFieldDescriptor (TJx145de k).2.2.1 = some (tyJx145de k) := by decide +kernel
def RJ9 : String := "java/lang/Math"
def TJ9 : u_T := fun k => match k with
  | _ => ("", "", "", false)
def tyJ9 : Nat → FieldType := fun k => match k with
  | _ => .int
abbrev wsJ90 : List Cond := u_ws RJ9 TJ9 0
theorem nmJ9 : ∀ a, a < 0 → ∀ b, b < 0 → a ≠ b → (TJ9 a).2.1 ≠ (TJ9 b).2.1 := by decide +kernel
theorem tyJ9_ok : ∀ k, k < 0 → parseFieldDescriptor (TJ9 k).2.2.1 = some (tyJ9 k) := by decide +kernel
abbrev cJ9_min_7cf53 : ByteArray := prog_14_method_69_code
def yJ9_min_7cf53 : MethodName := ⟨RJ9, "min", "(II)I"⟩
def RJ0 : String := "java/lang/String"
def TJ0 : u_T := fun k => match k with
  | _ => ("", "", "", false)
def tyJ0 : Nat → FieldType := fun k => match k with
  | _ => .int
abbrev wsJ00 : List Cond := u_ws RJ0 TJ0 0
theorem nmJ0 : ∀ a, a < 0 → ∀ b, b < 0 → a ≠ b → (TJ0 a).2.1 ≠ (TJ0 b).2.1 := by decide +kernel
theorem tyJ0_ok : ∀ k, k < 0 → parseFieldDescriptor (TJ0 k).2.2.1 = some (tyJ0 k) := by decide +kernel
def RJ10 : String := "java/lang/System"
def TJ10 : u_T := fun k => match k with
  | _ => ("", "", "", false)
def tyJ10 : Nat → FieldType := fun k => match k with
  | _ => .int
abbrev wsJ100 : List Cond := u_ws RJ10 TJ10 0
theorem nmJ10 : ∀ a, a < 0 → ∀ b, b < 0 → a ≠ b → (TJ10 a).2.1 ≠ (TJ10 b).2.1 := by decide +kernel
theorem tyJ10_ok : ∀ k, k < 0 → parseFieldDescriptor (TJ10 k).2.2.1 = some (tyJ10 k) := by decide +kernel
def RJ7 : String := "java/util/Arrays"
def TJ7 : u_T := fun k => match k with
  | _ => ("", "", "", false)
def tyJ7 : Nat → FieldType := fun k => match k with
  | _ => .int
abbrev wsJ70 : List Cond := u_ws RJ7 TJ7 0
theorem nmJ7 : ∀ a, a < 0 → ∀ b, b < 0 → a ≠ b → (TJ7 a).2.1 ≠ (TJ7 b).2.1 := by decide +kernel
theorem tyJ7_ok : ∀ k, k < 0 → parseFieldDescriptor (TJ7 k).2.2.1 = some (tyJ7 k) := by decide +kernel
abbrev cJ7_fill_53178 : ByteArray := prog_19_method_103_code
def yJ7_fill_53178 : MethodName := ⟨RJ7, "fill", "([II)V"⟩
def RL : String := "FlowNetworkLaw"
abbrev cL_below : ByteArray := method_2_code
def yL_below : MethodName := ⟨RL, "below", "(II)I"⟩
abbrev cL_cell : ByteArray := method_3_code
def yL_cell : MethodName := ⟨RL, "cell", "([II)I"⟩
abbrev cL_build : ByteArray := method_4_code
def yL_build : MethodName := ⟨RL, "build", "(LFlowNetwork;[III[I[I[II)Z"⟩
abbrev cL_cutCapacity : ByteArray := method_5_code
def yL_cutCapacity : MethodName := ⟨RL, "cutCapacity", "(I[I[I[I)I"⟩
abbrev cL_law : ByteArray := code
def yL_law : MethodName := ⟨RL, "law", "([I)Z"⟩
theorem dX0_init_0 : decode cX0_init 0 = .ok (.aload_n 0, 1) := by decide +kernel
theorem dX0_init_1 : decode cX0_init 1 = .ok (.invokespecial 3, 3) := by decide +kernel
theorem dX0_init_4 : decode cX0_init 4 = .ok (.aload_n 0, 1) := by decide +kernel
theorem dX0_init_5 : decode cX0_init 5 = .ok (.sipush 300, 3) := by decide +kernel
theorem dX0_init_8 : decode cX0_init 8 = .ok (.newarray .int, 2) := by decide +kernel
theorem dX0_init_10 : decode cX0_init 10 = .ok (.putfield 9, 3) := by decide +kernel
theorem dX0_init_13 : decode cX0_init 13 = .ok (.aload_n 0, 1) := by decide +kernel
theorem dX0_init_14 : decode cX0_init 14 = .ok (.bipush 24, 2) := by decide +kernel
theorem dX0_init_16 : decode cX0_init 16 = .ok (.newarray .int, 2) := by decide +kernel
theorem dX0_init_18 : decode cX0_init 18 = .ok (.putfield 15, 3) := by decide +kernel
theorem dX0_init_21 : decode cX0_init 21 = .ok (.return_, 1) := by decide +kernel
theorem dX1_init_0 : decode cX1_init 0 = .ok (.aload_n 0, 1) := by decide +kernel
theorem dX1_init_1 : decode cX1_init 1 = .ok (.invokespecial 3, 3) := by decide +kernel
theorem dX1_init_4 : decode cX1_init 4 = .ok (.aload_n 0, 1) := by decide +kernel
theorem dX1_init_5 : decode cX1_init 5 = .ok (.bipush 80, 2) := by decide +kernel
theorem dX1_init_7 : decode cX1_init 7 = .ok (.newarray .int, 2) := by decide +kernel
theorem dX1_init_9 : decode cX1_init 9 = .ok (.putfield 9, 3) := by decide +kernel
theorem dX1_init_12 : decode cX1_init 12 = .ok (.aload_n 0, 1) := by decide +kernel
theorem dX1_init_13 : decode cX1_init 13 = .ok (.bipush 80, 2) := by decide +kernel
theorem dX1_init_15 : decode cX1_init 15 = .ok (.newarray .int, 2) := by decide +kernel
theorem dX1_init_17 : decode cX1_init 17 = .ok (.putfield 15, 3) := by decide +kernel
theorem dX1_init_20 : decode cX1_init 20 = .ok (.aload_n 0, 1) := by decide +kernel
theorem dX1_init_21 : decode cX1_init 21 = .ok (.aload_n 1, 1) := by decide +kernel
theorem dX1_init_22 : decode cX1_init 22 = .ok (.putfield 18, 3) := by decide +kernel
theorem dX1_init_25 : decode cX1_init 25 = .ok (.return_, 1) := by decide +kernel
theorem dX1_copy_0 : decode cX1_copy 0 = .ok (.aload_n 1, 1) := by decide +kernel
theorem dX1_copy_1 : decode cX1_copy 1 = .ok (.getfield 9, 3) := by decide +kernel
theorem dX1_copy_4 : decode cX1_copy 4 = .ok (.iconst 0, 1) := by decide +kernel
theorem dX1_copy_5 : decode cX1_copy 5 = .ok (.aload_n 0, 1) := by decide +kernel
theorem dX1_copy_6 : decode cX1_copy 6 = .ok (.getfield 9, 3) := by decide +kernel
theorem dX1_copy_9 : decode cX1_copy 9 = .ok (.iconst 0, 1) := by decide +kernel
theorem dX1_copy_10 : decode cX1_copy 10 = .ok (.bipush 80, 2) := by decide +kernel
theorem dX1_copy_12 : decode cX1_copy 12 = .ok (.invokestatic 22, 3) := by decide +kernel
theorem dX1_copy_15 : decode cX1_copy 15 = .ok (.aload_n 1, 1) := by decide +kernel
theorem dX1_copy_16 : decode cX1_copy 16 = .ok (.getfield 15, 3) := by decide +kernel
theorem dX1_copy_19 : decode cX1_copy 19 = .ok (.iconst 0, 1) := by decide +kernel
theorem dX1_copy_20 : decode cX1_copy 20 = .ok (.aload_n 0, 1) := by decide +kernel
theorem dX1_copy_21 : decode cX1_copy 21 = .ok (.getfield 15, 3) := by decide +kernel
theorem dX1_copy_24 : decode cX1_copy 24 = .ok (.iconst 0, 1) := by decide +kernel
theorem dX1_copy_25 : decode cX1_copy 25 = .ok (.bipush 80, 2) := by decide +kernel
theorem dX1_copy_27 : decode cX1_copy 27 = .ok (.invokestatic 22, 3) := by decide +kernel
theorem dX1_copy_30 : decode cX1_copy 30 = .ok (.return_, 1) := by decide +kernel
theorem dX1_block_0 : decode cX1_block 0 = .ok (.aload_n 0, 1) := by decide +kernel
theorem dX1_block_1 : decode cX1_block 1 = .ok (.getfield 9, 3) := by decide +kernel
theorem dX1_block_4 : decode cX1_block 4 = .ok (.iload_n 1, 1) := by decide +kernel
theorem dX1_block_5 : decode cX1_block 5 = .ok (.iconst 0, 1) := by decide +kernel
theorem dX1_block_6 : decode cX1_block 6 = .ok (.iastore, 1) := by decide +kernel
theorem dX1_block_7 : decode cX1_block 7 = .ok (.aload_n 0, 1) := by decide +kernel
theorem dX1_block_8 : decode cX1_block 8 = .ok (.getfield 15, 3) := by decide +kernel
theorem dX1_block_11 : decode cX1_block 11 = .ok (.iload_n 1, 1) := by decide +kernel
theorem dX1_block_12 : decode cX1_block 12 = .ok (.iconst 0, 1) := by decide +kernel
theorem dX1_block_13 : decode cX1_block 13 = .ok (.iastore, 1) := by decide +kernel
theorem dX1_block_14 : decode cX1_block 14 = .ok (.return_, 1) := by decide +kernel
theorem dX1_room_0 : decode cX1_room 0 = .ok (.aload_n 0, 1) := by decide +kernel
theorem dX1_room_1 : decode cX1_room 1 = .ok (.getfield 18, 3) := by decide +kernel
theorem dX1_room_4 : decode cX1_room 4 = .ok (.getfield 28, 3) := by decide +kernel
theorem dX1_room_7 : decode cX1_room 7 = .ok (.iload_n 1, 1) := by decide +kernel
theorem dX1_room_8 : decode cX1_room 8 = .ok (.iaload, 1) := by decide +kernel
theorem dX1_room_9 : decode cX1_room 9 = .ok (.iload_n 2, 1) := by decide +kernel
theorem dX1_room_10 : decode cX1_room 10 = .ok (.if_icmp .ne 19, 3) := by decide +kernel
theorem dX1_room_13 : decode cX1_room 13 = .ok (.aload_n 0, 1) := by decide +kernel
theorem dX1_room_14 : decode cX1_room 14 = .ok (.getfield 9, 3) := by decide +kernel
theorem dX1_room_17 : decode cX1_room 17 = .ok (.iload_n 1, 1) := by decide +kernel
theorem dX1_room_18 : decode cX1_room 18 = .ok (.iaload, 1) := by decide +kernel
theorem dX1_room_19 : decode cX1_room 19 = .ok (.aload_n 0, 1) := by decide +kernel
theorem dX1_room_20 : decode cX1_room 20 = .ok (.getfield 15, 3) := by decide +kernel
theorem dX1_room_23 : decode cX1_room 23 = .ok (.iload_n 1, 1) := by decide +kernel
theorem dX1_room_24 : decode cX1_room 24 = .ok (.iaload, 1) := by decide +kernel
theorem dX1_room_25 : decode cX1_room 25 = .ok (.isub, 1) := by decide +kernel
theorem dX1_room_26 : decode cX1_room 26 = .ok (.goto 9, 3) := by decide +kernel
theorem dX1_room_29 : decode cX1_room 29 = .ok (.aload_n 0, 1) := by decide +kernel
theorem dX1_room_30 : decode cX1_room 30 = .ok (.getfield 15, 3) := by decide +kernel
theorem dX1_room_33 : decode cX1_room 33 = .ok (.iload_n 1, 1) := by decide +kernel
theorem dX1_room_34 : decode cX1_room 34 = .ok (.iaload, 1) := by decide +kernel
theorem dX1_room_35 : decode cX1_room 35 = .ok (.ireturn, 1) := by decide +kernel
theorem dX1_send_0 : decode cX1_send 0 = .ok (.aload_n 0, 1) := by decide +kernel
theorem dX1_send_1 : decode cX1_send 1 = .ok (.getfield 15, 3) := by decide +kernel
theorem dX1_send_4 : decode cX1_send 4 = .ok (.iload_n 1, 1) := by decide +kernel
theorem dX1_send_5 : decode cX1_send 5 = .ok (.dup2, 1) := by decide +kernel
theorem dX1_send_6 : decode cX1_send 6 = .ok (.iaload, 1) := by decide +kernel
theorem dX1_send_7 : decode cX1_send 7 = .ok (.aload_n 0, 1) := by decide +kernel
theorem dX1_send_8 : decode cX1_send 8 = .ok (.getfield 18, 3) := by decide +kernel
theorem dX1_send_11 : decode cX1_send 11 = .ok (.getfield 28, 3) := by decide +kernel
theorem dX1_send_14 : decode cX1_send 14 = .ok (.iload_n 1, 1) := by decide +kernel
theorem dX1_send_15 : decode cX1_send 15 = .ok (.iaload, 1) := by decide +kernel
theorem dX1_send_16 : decode cX1_send 16 = .ok (.iload_n 2, 1) := by decide +kernel
theorem dX1_send_17 : decode cX1_send 17 = .ok (.if_icmp .ne 7, 3) := by decide +kernel
theorem dX1_send_20 : decode cX1_send 20 = .ok (.iload_n 3, 1) := by decide +kernel
theorem dX1_send_21 : decode cX1_send 21 = .ok (.goto 5, 3) := by decide +kernel
theorem dX1_send_24 : decode cX1_send 24 = .ok (.iload_n 3, 1) := by decide +kernel
theorem dX1_send_25 : decode cX1_send 25 = .ok (.ineg, 1) := by decide +kernel
theorem dX1_send_26 : decode cX1_send 26 = .ok (.iadd, 1) := by decide +kernel
theorem dX1_send_27 : decode cX1_send 27 = .ok (.iastore, 1) := by decide +kernel
theorem dX1_send_28 : decode cX1_send 28 = .ok (.return_, 1) := by decide +kernel
theorem dX1_reachableFrom_0 : decode cX1_reachableFrom 0 = .ok (.iconst 1, 1) := by decide +kernel
theorem dX1_reachableFrom_1 : decode cX1_reachableFrom 1 = .ok (.iload_n 1, 1) := by decide +kernel
theorem dX1_reachableFrom_2 : decode cX1_reachableFrom 2 = .ok (.ishl, 1) := by decide +kernel
theorem dX1_reachableFrom_3 : decode cX1_reachableFrom 3 = .ok (.istore_n 2, 1) := by decide +kernel
theorem dX1_reachableFrom_4 : decode cX1_reachableFrom 4 = .ok (.iconst 0, 1) := by decide +kernel
theorem dX1_reachableFrom_5 : decode cX1_reachableFrom 5 = .ok (.istore_n 3, 1) := by decide +kernel
theorem dX1_reachableFrom_6 : decode cX1_reachableFrom 6 = .ok (.iconst 0, 1) := by decide +kernel
theorem dX1_reachableFrom_7 : decode cX1_reachableFrom 7 = .ok (.istore 4, 2) := by decide +kernel
theorem dX1_reachableFrom_9 : decode cX1_reachableFrom 9 = .ok (.iload 4, 2) := by decide +kernel
theorem dX1_reachableFrom_11 : decode cX1_reachableFrom 11 = .ok (.aload_n 0, 1) := by decide +kernel
theorem dX1_reachableFrom_12 : decode cX1_reachableFrom 12 = .ok (.getfield 18, 3) := by decide +kernel
theorem dX1_reachableFrom_15 : decode cX1_reachableFrom 15 = .ok (.getfield 33, 3) := by decide +kernel
theorem dX1_reachableFrom_18 : decode cX1_reachableFrom 18 = .ok (.if_icmp .ge 22, 3) := by decide +kernel
theorem dX1_reachableFrom_21 : decode cX1_reachableFrom 21 = .ok (.iload_n 2, 1) := by decide +kernel
theorem dX1_reachableFrom_22 : decode cX1_reachableFrom 22 = .ok (.iload_n 3, 1) := by decide +kernel
theorem dX1_reachableFrom_23 : decode cX1_reachableFrom 23 = .ok (.if_icmp .eq 17, 3) := by decide +kernel
theorem dX1_reachableFrom_26 : decode cX1_reachableFrom 26 = .ok (.iload_n 2, 1) := by decide +kernel
theorem dX1_reachableFrom_27 : decode cX1_reachableFrom 27 = .ok (.istore_n 3, 1) := by decide +kernel
theorem dX1_reachableFrom_28 : decode cX1_reachableFrom 28 = .ok (.aload_n 0, 1) := by decide +kernel
theorem dX1_reachableFrom_29 : decode cX1_reachableFrom 29 = .ok (.iload_n 2, 1) := by decide +kernel
theorem dX1_reachableFrom_30 : decode cX1_reachableFrom 30 = .ok (.invokevirtual 37, 3) := by decide +kernel
theorem dX1_reachableFrom_33 : decode cX1_reachableFrom 33 = .ok (.istore_n 2, 1) := by decide +kernel
theorem dX1_reachableFrom_34 : decode cX1_reachableFrom 34 = .ok (.iinc 4 1, 3) := by decide +kernel
theorem dX1_reachableFrom_37 : decode cX1_reachableFrom 37 = .ok (.goto (-28), 3) := by decide +kernel
theorem dX1_reachableFrom_40 : decode cX1_reachableFrom 40 = .ok (.iload_n 2, 1) := by decide +kernel
theorem dX1_reachableFrom_41 : decode cX1_reachableFrom 41 = .ok (.ireturn, 1) := by decide +kernel
theorem dX1_withNeighbours_0 : decode cX1_withNeighbours 0 = .ok (.iload_n 1, 1) := by decide +kernel
theorem dX1_withNeighbours_1 : decode cX1_withNeighbours 1 = .ok (.istore_n 2, 1) := by decide +kernel
theorem dX1_withNeighbours_2 : decode cX1_withNeighbours 2 = .ok (.iconst 0, 1) := by decide +kernel
theorem dX1_withNeighbours_3 : decode cX1_withNeighbours 3 = .ok (.istore_n 3, 1) := by decide +kernel
theorem dX1_withNeighbours_4 : decode cX1_withNeighbours 4 = .ok (.iload_n 3, 1) := by decide +kernel
theorem dX1_withNeighbours_5 : decode cX1_withNeighbours 5 = .ok (.aload_n 0, 1) := by decide +kernel
theorem dX1_withNeighbours_6 : decode cX1_withNeighbours 6 = .ok (.getfield 18, 3) := by decide +kernel
theorem dX1_withNeighbours_9 : decode cX1_withNeighbours 9 = .ok (.getfield 41, 3) := by decide +kernel
theorem dX1_withNeighbours_12 : decode cX1_withNeighbours 12 = .ok (.if_icmp .ge 83, 3) := by decide +kernel
theorem dX1_withNeighbours_15 : decode cX1_withNeighbours 15 = .ok (.aload_n 0, 1) := by decide +kernel
theorem dX1_withNeighbours_16 : decode cX1_withNeighbours 16 = .ok (.getfield 18, 3) := by decide +kernel
theorem dX1_withNeighbours_19 : decode cX1_withNeighbours 19 = .ok (.getfield 28, 3) := by decide +kernel
theorem dX1_withNeighbours_22 : decode cX1_withNeighbours 22 = .ok (.iload_n 3, 1) := by decide +kernel
theorem dX1_withNeighbours_23 : decode cX1_withNeighbours 23 = .ok (.iaload, 1) := by decide +kernel
theorem dX1_withNeighbours_24 : decode cX1_withNeighbours 24 = .ok (.istore 4, 2) := by decide +kernel
theorem dX1_withNeighbours_26 : decode cX1_withNeighbours 26 = .ok (.aload_n 0, 1) := by decide +kernel
theorem dX1_withNeighbours_27 : decode cX1_withNeighbours 27 = .ok (.getfield 18, 3) := by decide +kernel
theorem dX1_withNeighbours_30 : decode cX1_withNeighbours 30 = .ok (.getfield 44, 3) := by decide +kernel
theorem dX1_withNeighbours_33 : decode cX1_withNeighbours 33 = .ok (.iload_n 3, 1) := by decide +kernel
theorem dX1_withNeighbours_34 : decode cX1_withNeighbours 34 = .ok (.iaload, 1) := by decide +kernel
theorem dX1_withNeighbours_35 : decode cX1_withNeighbours 35 = .ok (.istore 5, 2) := by decide +kernel
theorem dX1_withNeighbours_37 : decode cX1_withNeighbours 37 = .ok (.iload_n 2, 1) := by decide +kernel
theorem dX1_withNeighbours_38 : decode cX1_withNeighbours 38 = .ok (.iload 4, 2) := by decide +kernel
theorem dX1_withNeighbours_40 : decode cX1_withNeighbours 40 = .ok (.invokestatic 47, 3) := by decide +kernel
theorem dX1_withNeighbours_43 : decode cX1_withNeighbours 43 = .ok (.ifCond .eq 20, 3) := by decide +kernel
theorem dX1_withNeighbours_46 : decode cX1_withNeighbours 46 = .ok (.aload_n 0, 1) := by decide +kernel
theorem dX1_withNeighbours_47 : decode cX1_withNeighbours 47 = .ok (.iload_n 3, 1) := by decide +kernel
theorem dX1_withNeighbours_48 : decode cX1_withNeighbours 48 = .ok (.iload 4, 2) := by decide +kernel
theorem dX1_withNeighbours_50 : decode cX1_withNeighbours 50 = .ok (.invokevirtual 51, 3) := by decide +kernel
theorem dX1_withNeighbours_53 : decode cX1_withNeighbours 53 = .ok (.ifCond .le 10, 3) := by decide +kernel
theorem dX1_withNeighbours_56 : decode cX1_withNeighbours 56 = .ok (.iload_n 2, 1) := by decide +kernel
theorem dX1_withNeighbours_57 : decode cX1_withNeighbours 57 = .ok (.iconst 1, 1) := by decide +kernel
theorem dX1_withNeighbours_58 : decode cX1_withNeighbours 58 = .ok (.iload 5, 2) := by decide +kernel
theorem dX1_withNeighbours_60 : decode cX1_withNeighbours 60 = .ok (.ishl, 1) := by decide +kernel
theorem dX1_withNeighbours_61 : decode cX1_withNeighbours 61 = .ok (.ior, 1) := by decide +kernel
theorem dX1_withNeighbours_62 : decode cX1_withNeighbours 62 = .ok (.istore_n 2, 1) := by decide +kernel
theorem dX1_withNeighbours_63 : decode cX1_withNeighbours 63 = .ok (.iload_n 2, 1) := by decide +kernel
theorem dX1_withNeighbours_64 : decode cX1_withNeighbours 64 = .ok (.iload 5, 2) := by decide +kernel
theorem dX1_withNeighbours_66 : decode cX1_withNeighbours 66 = .ok (.invokestatic 47, 3) := by decide +kernel
theorem dX1_withNeighbours_69 : decode cX1_withNeighbours 69 = .ok (.ifCond .eq 20, 3) := by decide +kernel
theorem dX1_withNeighbours_72 : decode cX1_withNeighbours 72 = .ok (.aload_n 0, 1) := by decide +kernel
theorem dX1_withNeighbours_73 : decode cX1_withNeighbours 73 = .ok (.iload_n 3, 1) := by decide +kernel
theorem dX1_withNeighbours_74 : decode cX1_withNeighbours 74 = .ok (.iload 5, 2) := by decide +kernel
theorem dX1_withNeighbours_76 : decode cX1_withNeighbours 76 = .ok (.invokevirtual 51, 3) := by decide +kernel
theorem dX1_withNeighbours_79 : decode cX1_withNeighbours 79 = .ok (.ifCond .le 10, 3) := by decide +kernel
theorem dX1_withNeighbours_82 : decode cX1_withNeighbours 82 = .ok (.iload_n 2, 1) := by decide +kernel
theorem dX1_withNeighbours_83 : decode cX1_withNeighbours 83 = .ok (.iconst 1, 1) := by decide +kernel
theorem dX1_withNeighbours_84 : decode cX1_withNeighbours 84 = .ok (.iload 4, 2) := by decide +kernel
theorem dX1_withNeighbours_86 : decode cX1_withNeighbours 86 = .ok (.ishl, 1) := by decide +kernel
theorem dX1_withNeighbours_87 : decode cX1_withNeighbours 87 = .ok (.ior, 1) := by decide +kernel
theorem dX1_withNeighbours_88 : decode cX1_withNeighbours 88 = .ok (.istore_n 2, 1) := by decide +kernel
theorem dX1_withNeighbours_89 : decode cX1_withNeighbours 89 = .ok (.iinc 3 1, 3) := by decide +kernel
theorem dX1_withNeighbours_92 : decode cX1_withNeighbours 92 = .ok (.goto (-88), 3) := by decide +kernel
theorem dX1_withNeighbours_95 : decode cX1_withNeighbours 95 = .ok (.iload_n 2, 1) := by decide +kernel
theorem dX1_withNeighbours_96 : decode cX1_withNeighbours 96 = .ok (.ireturn, 1) := by decide +kernel
theorem dX1_capacityOut_0 : decode cX1_capacityOut 0 = .ok (.iconst 0, 1) := by decide +kernel
theorem dX1_capacityOut_1 : decode cX1_capacityOut 1 = .ok (.istore_n 2, 1) := by decide +kernel
theorem dX1_capacityOut_2 : decode cX1_capacityOut 2 = .ok (.iconst 0, 1) := by decide +kernel
theorem dX1_capacityOut_3 : decode cX1_capacityOut 3 = .ok (.istore_n 3, 1) := by decide +kernel
theorem dX1_capacityOut_4 : decode cX1_capacityOut 4 = .ok (.iload_n 3, 1) := by decide +kernel
theorem dX1_capacityOut_5 : decode cX1_capacityOut 5 = .ok (.aload_n 0, 1) := by decide +kernel
theorem dX1_capacityOut_6 : decode cX1_capacityOut 6 = .ok (.getfield 18, 3) := by decide +kernel
theorem dX1_capacityOut_9 : decode cX1_capacityOut 9 = .ok (.getfield 41, 3) := by decide +kernel
theorem dX1_capacityOut_12 : decode cX1_capacityOut 12 = .ok (.if_icmp .ge 50, 3) := by decide +kernel
theorem dX1_capacityOut_15 : decode cX1_capacityOut 15 = .ok (.iload_n 1, 1) := by decide +kernel
theorem dX1_capacityOut_16 : decode cX1_capacityOut 16 = .ok (.aload_n 0, 1) := by decide +kernel
theorem dX1_capacityOut_17 : decode cX1_capacityOut 17 = .ok (.getfield 18, 3) := by decide +kernel
theorem dX1_capacityOut_20 : decode cX1_capacityOut 20 = .ok (.getfield 28, 3) := by decide +kernel
theorem dX1_capacityOut_23 : decode cX1_capacityOut 23 = .ok (.iload_n 3, 1) := by decide +kernel
theorem dX1_capacityOut_24 : decode cX1_capacityOut 24 = .ok (.iaload, 1) := by decide +kernel
theorem dX1_capacityOut_25 : decode cX1_capacityOut 25 = .ok (.invokestatic 47, 3) := by decide +kernel
theorem dX1_capacityOut_28 : decode cX1_capacityOut 28 = .ok (.ifCond .eq 28, 3) := by decide +kernel
theorem dX1_capacityOut_31 : decode cX1_capacityOut 31 = .ok (.iload_n 1, 1) := by decide +kernel
theorem dX1_capacityOut_32 : decode cX1_capacityOut 32 = .ok (.aload_n 0, 1) := by decide +kernel
theorem dX1_capacityOut_33 : decode cX1_capacityOut 33 = .ok (.getfield 18, 3) := by decide +kernel
theorem dX1_capacityOut_36 : decode cX1_capacityOut 36 = .ok (.getfield 44, 3) := by decide +kernel
theorem dX1_capacityOut_39 : decode cX1_capacityOut 39 = .ok (.iload_n 3, 1) := by decide +kernel
theorem dX1_capacityOut_40 : decode cX1_capacityOut 40 = .ok (.iaload, 1) := by decide +kernel
theorem dX1_capacityOut_41 : decode cX1_capacityOut 41 = .ok (.invokestatic 47, 3) := by decide +kernel
theorem dX1_capacityOut_44 : decode cX1_capacityOut 44 = .ok (.ifCond .ne 12, 3) := by decide +kernel
theorem dX1_capacityOut_47 : decode cX1_capacityOut 47 = .ok (.iload_n 2, 1) := by decide +kernel
theorem dX1_capacityOut_48 : decode cX1_capacityOut 48 = .ok (.aload_n 0, 1) := by decide +kernel
theorem dX1_capacityOut_49 : decode cX1_capacityOut 49 = .ok (.getfield 9, 3) := by decide +kernel
theorem dX1_capacityOut_52 : decode cX1_capacityOut 52 = .ok (.iload_n 3, 1) := by decide +kernel
theorem dX1_capacityOut_53 : decode cX1_capacityOut 53 = .ok (.iaload, 1) := by decide +kernel
theorem dX1_capacityOut_54 : decode cX1_capacityOut 54 = .ok (.iadd, 1) := by decide +kernel
theorem dX1_capacityOut_55 : decode cX1_capacityOut 55 = .ok (.istore_n 2, 1) := by decide +kernel
theorem dX1_capacityOut_56 : decode cX1_capacityOut 56 = .ok (.iinc 3 1, 3) := by decide +kernel
theorem dX1_capacityOut_59 : decode cX1_capacityOut 59 = .ok (.goto (-55), 3) := by decide +kernel
theorem dX1_capacityOut_62 : decode cX1_capacityOut 62 = .ok (.iload_n 2, 1) := by decide +kernel
theorem dX1_capacityOut_63 : decode cX1_capacityOut 63 = .ok (.ireturn, 1) := by decide +kernel
theorem dX2_init_0 : decode cX2_init 0 = .ok (.aload_n 0, 1) := by decide +kernel
theorem dX2_init_1 : decode cX2_init 1 = .ok (.invokespecial 3, 3) := by decide +kernel
theorem dX2_init_4 : decode cX2_init 4 = .ok (.aload_n 0, 1) := by decide +kernel
theorem dX2_init_5 : decode cX2_init 5 = .ok (.bipush 8, 2) := by decide +kernel
theorem dX2_init_7 : decode cX2_init 7 = .ok (.bipush 80, 2) := by decide +kernel
theorem dX2_init_9 : decode cX2_init 9 = .ok (.multianewarray 9 2, 4) := by decide +kernel
theorem dX2_init_13 : decode cX2_init 13 = .ok (.putfield 11, 3) := by decide +kernel
theorem dX2_init_16 : decode cX2_init 16 = .ok (.aload_n 0, 1) := by decide +kernel
theorem dX2_init_17 : decode cX2_init 17 = .ok (.bipush 8, 2) := by decide +kernel
theorem dX2_init_19 : decode cX2_init 19 = .ok (.newarray .int, 2) := by decide +kernel
theorem dX2_init_21 : decode cX2_init 21 = .ok (.putfield 16, 3) := by decide +kernel
theorem dX2_init_24 : decode cX2_init 24 = .ok (.aload_n 0, 1) := by decide +kernel
theorem dX2_init_25 : decode cX2_init 25 = .ok (.bipush 8, 2) := by decide +kernel
theorem dX2_init_27 : decode cX2_init 27 = .ok (.newarray .int, 2) := by decide +kernel
theorem dX2_init_29 : decode cX2_init 29 = .ok (.putfield 20, 3) := by decide +kernel
theorem dX2_init_32 : decode cX2_init 32 = .ok (.return_, 1) := by decide +kernel
theorem dX3_init_0 : decode cX3_init 0 = .ok (.aload_n 0, 1) := by decide +kernel
theorem dX3_init_1 : decode cX3_init 1 = .ok (.invokespecial 3, 3) := by decide +kernel
theorem dX3_init_4 : decode cX3_init 4 = .ok (.aload_n 0, 1) := by decide +kernel
theorem dX3_init_5 : decode cX3_init 5 = .ok (.iconst (-1), 1) := by decide +kernel
theorem dX3_init_6 : decode cX3_init 6 = .ok (.putfield 9, 3) := by decide +kernel
theorem dX3_init_9 : decode cX3_init 9 = .ok (.aload_n 0, 1) := by decide +kernel
theorem dX3_init_10 : decode cX3_init 10 = .ok (.iconst (-1), 1) := by decide +kernel
theorem dX3_init_11 : decode cX3_init 11 = .ok (.putfield 15, 3) := by decide +kernel
theorem dX3_init_14 : decode cX3_init 14 = .ok (.new 18, 3) := by decide +kernel
theorem dX3_init_17 : decode cX3_init 17 = .ok (.dup, 1) := by decide +kernel
theorem dX3_init_18 : decode cX3_init 18 = .ok (.aload_n 1, 1) := by decide +kernel
theorem dX3_init_19 : decode cX3_init 19 = .ok (.invokespecial 20, 3) := by decide +kernel
theorem dX3_init_22 : decode cX3_init 22 = .ok (.astore_n 2, 1) := by decide +kernel
theorem dX3_init_23 : decode cX3_init 23 = .ok (.aload_n 0, 1) := by decide +kernel
theorem dX3_init_24 : decode cX3_init 24 = .ok (.aload_n 1, 1) := by decide +kernel
theorem dX3_init_25 : decode cX3_init 25 = .ok (.putfield 23, 3) := by decide +kernel
theorem dX3_init_28 : decode cX3_init 28 = .ok (.aload_n 0, 1) := by decide +kernel
theorem dX3_init_29 : decode cX3_init 29 = .ok (.aload_n 2, 1) := by decide +kernel
theorem dX3_init_30 : decode cX3_init 30 = .ok (.putfield 27, 3) := by decide +kernel
theorem dX3_init_33 : decode cX3_init 33 = .ok (.aload_n 0, 1) := by decide +kernel
theorem dX3_init_34 : decode cX3_init 34 = .ok (.new 31, 3) := by decide +kernel
theorem dX3_init_37 : decode cX3_init 37 = .ok (.dup, 1) := by decide +kernel
theorem dX3_init_38 : decode cX3_init 38 = .ok (.aload_n 1, 1) := by decide +kernel
theorem dX3_init_39 : decode cX3_init 39 = .ok (.aload_n 2, 1) := by decide +kernel
theorem dX3_init_40 : decode cX3_init 40 = .ok (.invokespecial 33, 3) := by decide +kernel
theorem dX3_init_43 : decode cX3_init 43 = .ok (.putfield 36, 3) := by decide +kernel
theorem dX3_init_46 : decode cX3_init 46 = .ok (.return_, 1) := by decide +kernel
theorem dX3_hasEnds_0 : decode cX3_hasEnds 0 = .ok (.aload_n 0, 1) := by decide +kernel
theorem dX3_hasEnds_1 : decode cX3_hasEnds 1 = .ok (.getfield 9, 3) := by decide +kernel
theorem dX3_hasEnds_4 : decode cX3_hasEnds 4 = .ok (.iconst (-1), 1) := by decide +kernel
theorem dX3_hasEnds_5 : decode cX3_hasEnds 5 = .ok (.if_icmp .eq 15, 3) := by decide +kernel
theorem dX3_hasEnds_8 : decode cX3_hasEnds 8 = .ok (.aload_n 0, 1) := by decide +kernel
theorem dX3_hasEnds_9 : decode cX3_hasEnds 9 = .ok (.getfield 15, 3) := by decide +kernel
theorem dX3_hasEnds_12 : decode cX3_hasEnds 12 = .ok (.iconst (-1), 1) := by decide +kernel
theorem dX3_hasEnds_13 : decode cX3_hasEnds 13 = .ok (.if_icmp .eq 7, 3) := by decide +kernel
theorem dX3_hasEnds_16 : decode cX3_hasEnds 16 = .ok (.iconst 1, 1) := by decide +kernel
theorem dX3_hasEnds_17 : decode cX3_hasEnds 17 = .ok (.goto 4, 3) := by decide +kernel
theorem dX3_hasEnds_20 : decode cX3_hasEnds 20 = .ok (.iconst 0, 1) := by decide +kernel
theorem dX3_hasEnds_21 : decode cX3_hasEnds 21 = .ok (.ireturn, 1) := by decide +kernel
theorem dX3_copy_0 : decode cX3_copy 0 = .ok (.aload_n 0, 1) := by decide +kernel
theorem dX3_copy_1 : decode cX3_copy 1 = .ok (.getfield 27, 3) := by decide +kernel
theorem dX3_copy_4 : decode cX3_copy 4 = .ok (.aload_n 1, 1) := by decide +kernel
theorem dX3_copy_5 : decode cX3_copy 5 = .ok (.getfield 27, 3) := by decide +kernel
theorem dX3_copy_8 : decode cX3_copy 8 = .ok (.invokevirtual 40, 3) := by decide +kernel
theorem dX3_copy_11 : decode cX3_copy 11 = .ok (.aload_n 0, 1) := by decide +kernel
theorem dX3_copy_12 : decode cX3_copy 12 = .ok (.aload_n 1, 1) := by decide +kernel
theorem dX3_copy_13 : decode cX3_copy 13 = .ok (.getfield 9, 3) := by decide +kernel
theorem dX3_copy_16 : decode cX3_copy 16 = .ok (.putfield 9, 3) := by decide +kernel
theorem dX3_copy_19 : decode cX3_copy 19 = .ok (.aload_n 0, 1) := by decide +kernel
theorem dX3_copy_20 : decode cX3_copy 20 = .ok (.aload_n 1, 1) := by decide +kernel
theorem dX3_copy_21 : decode cX3_copy 21 = .ok (.getfield 15, 3) := by decide +kernel
theorem dX3_copy_24 : decode cX3_copy 24 = .ok (.putfield 15, 3) := by decide +kernel
theorem dX3_copy_27 : decode cX3_copy 27 = .ok (.aload_n 0, 1) := by decide +kernel
theorem dX3_copy_28 : decode cX3_copy 28 = .ok (.aload_n 1, 1) := by decide +kernel
theorem dX3_copy_29 : decode cX3_copy 29 = .ok (.getfield 44, 3) := by decide +kernel
theorem dX3_copy_32 : decode cX3_copy 32 = .ok (.putfield 44, 3) := by decide +kernel
theorem dX3_copy_35 : decode cX3_copy 35 = .ok (.return_, 1) := by decide +kernel
theorem dX3_chooseEnds_0 : decode cX3_chooseEnds 0 = .ok (.aload_n 0, 1) := by decide +kernel
theorem dX3_chooseEnds_1 : decode cX3_chooseEnds 1 = .ok (.getfield 9, 3) := by decide +kernel
theorem dX3_chooseEnds_4 : decode cX3_chooseEnds 4 = .ok (.iload_n 1, 1) := by decide +kernel
theorem dX3_chooseEnds_5 : decode cX3_chooseEnds 5 = .ok (.if_icmp .ne 13, 3) := by decide +kernel
theorem dX3_chooseEnds_8 : decode cX3_chooseEnds 8 = .ok (.aload_n 0, 1) := by decide +kernel
theorem dX3_chooseEnds_9 : decode cX3_chooseEnds 9 = .ok (.getfield 15, 3) := by decide +kernel
theorem dX3_chooseEnds_12 : decode cX3_chooseEnds 12 = .ok (.iload_n 2, 1) := by decide +kernel
theorem dX3_chooseEnds_13 : decode cX3_chooseEnds 13 = .ok (.if_icmp .ne 5, 3) := by decide +kernel
theorem dX3_chooseEnds_16 : decode cX3_chooseEnds 16 = .ok (.iconst 0, 1) := by decide +kernel
theorem dX3_chooseEnds_17 : decode cX3_chooseEnds 17 = .ok (.ireturn, 1) := by decide +kernel
theorem dX3_chooseEnds_18 : decode cX3_chooseEnds 18 = .ok (.aload_n 0, 1) := by decide +kernel
theorem dX3_chooseEnds_19 : decode cX3_chooseEnds 19 = .ok (.iload_n 1, 1) := by decide +kernel
theorem dX3_chooseEnds_20 : decode cX3_chooseEnds 20 = .ok (.putfield 9, 3) := by decide +kernel
theorem dX3_chooseEnds_23 : decode cX3_chooseEnds 23 = .ok (.aload_n 0, 1) := by decide +kernel
theorem dX3_chooseEnds_24 : decode cX3_chooseEnds 24 = .ok (.iload_n 2, 1) := by decide +kernel
theorem dX3_chooseEnds_25 : decode cX3_chooseEnds 25 = .ok (.putfield 15, 3) := by decide +kernel
theorem dX3_chooseEnds_28 : decode cX3_chooseEnds 28 = .ok (.aload_n 0, 1) := by decide +kernel
theorem dX3_chooseEnds_29 : decode cX3_chooseEnds 29 = .ok (.iconst 0, 1) := by decide +kernel
theorem dX3_chooseEnds_30 : decode cX3_chooseEnds 30 = .ok (.putfield 44, 3) := by decide +kernel
theorem dX3_chooseEnds_33 : decode cX3_chooseEnds 33 = .ok (.aload_n 0, 1) := by decide +kernel
theorem dX3_chooseEnds_34 : decode cX3_chooseEnds 34 = .ok (.getfield 27, 3) := by decide +kernel
theorem dX3_chooseEnds_37 : decode cX3_chooseEnds 37 = .ok (.getfield 48, 3) := by decide +kernel
theorem dX3_chooseEnds_40 : decode cX3_chooseEnds 40 = .ok (.iconst 0, 1) := by decide +kernel
theorem dX3_chooseEnds_41 : decode cX3_chooseEnds 41 = .ok (.invokestatic 52, 3) := by decide +kernel
theorem dX3_chooseEnds_44 : decode cX3_chooseEnds 44 = .ok (.iconst 1, 1) := by decide +kernel
theorem dX3_chooseEnds_45 : decode cX3_chooseEnds 45 = .ok (.ireturn, 1) := by decide +kernel
theorem dX3_changeCapacity_0 : decode cX3_changeCapacity 0 = .ok (.aload_n 0, 1) := by decide +kernel
theorem dX3_changeCapacity_1 : decode cX3_changeCapacity 1 = .ok (.getfield 27, 3) := by decide +kernel
theorem dX3_changeCapacity_4 : decode cX3_changeCapacity 4 = .ok (.getfield 58, 3) := by decide +kernel
theorem dX3_changeCapacity_7 : decode cX3_changeCapacity 7 = .ok (.iload_n 1, 1) := by decide +kernel
theorem dX3_changeCapacity_8 : decode cX3_changeCapacity 8 = .ok (.iaload, 1) := by decide +kernel
theorem dX3_changeCapacity_9 : decode cX3_changeCapacity 9 = .ok (.iload_n 2, 1) := by decide +kernel
theorem dX3_changeCapacity_10 : decode cX3_changeCapacity 10 = .ok (.if_icmp .ne 4, 3) := by decide +kernel
theorem dX3_changeCapacity_13 : decode cX3_changeCapacity 13 = .ok (.return_, 1) := by decide +kernel
theorem dX3_changeCapacity_14 : decode cX3_changeCapacity 14 = .ok (.aload_n 0, 1) := by decide +kernel
theorem dX3_changeCapacity_15 : decode cX3_changeCapacity 15 = .ok (.getfield 27, 3) := by decide +kernel
theorem dX3_changeCapacity_18 : decode cX3_changeCapacity 18 = .ok (.getfield 58, 3) := by decide +kernel
theorem dX3_changeCapacity_21 : decode cX3_changeCapacity 21 = .ok (.iload_n 1, 1) := by decide +kernel
theorem dX3_changeCapacity_22 : decode cX3_changeCapacity 22 = .ok (.iload_n 2, 1) := by decide +kernel
theorem dX3_changeCapacity_23 : decode cX3_changeCapacity 23 = .ok (.iastore, 1) := by decide +kernel
theorem dX3_changeCapacity_24 : decode cX3_changeCapacity 24 = .ok (.aload_n 0, 1) := by decide +kernel
theorem dX3_changeCapacity_25 : decode cX3_changeCapacity 25 = .ok (.iconst 0, 1) := by decide +kernel
theorem dX3_changeCapacity_26 : decode cX3_changeCapacity 26 = .ok (.putfield 44, 3) := by decide +kernel
theorem dX3_changeCapacity_29 : decode cX3_changeCapacity 29 = .ok (.aload_n 0, 1) := by decide +kernel
theorem dX3_changeCapacity_30 : decode cX3_changeCapacity 30 = .ok (.getfield 27, 3) := by decide +kernel
theorem dX3_changeCapacity_33 : decode cX3_changeCapacity 33 = .ok (.getfield 48, 3) := by decide +kernel
theorem dX3_changeCapacity_36 : decode cX3_changeCapacity 36 = .ok (.iload_n 1, 1) := by decide +kernel
theorem dX3_changeCapacity_37 : decode cX3_changeCapacity 37 = .ok (.iaload, 1) := by decide +kernel
theorem dX3_changeCapacity_38 : decode cX3_changeCapacity 38 = .ok (.iload_n 2, 1) := by decide +kernel
theorem dX3_changeCapacity_39 : decode cX3_changeCapacity 39 = .ok (.isub, 1) := by decide +kernel
theorem dX3_changeCapacity_40 : decode cX3_changeCapacity 40 = .ok (.istore_n 3, 1) := by decide +kernel
theorem dX3_changeCapacity_41 : decode cX3_changeCapacity 41 = .ok (.iload_n 3, 1) := by decide +kernel
theorem dX3_changeCapacity_42 : decode cX3_changeCapacity 42 = .ok (.ifCond .le 36, 3) := by decide +kernel
theorem dX3_changeCapacity_45 : decode cX3_changeCapacity 45 = .ok (.aload_n 0, 1) := by decide +kernel
theorem dX3_changeCapacity_46 : decode cX3_changeCapacity 46 = .ok (.getfield 27, 3) := by decide +kernel
theorem dX3_changeCapacity_49 : decode cX3_changeCapacity 49 = .ok (.getfield 48, 3) := by decide +kernel
theorem dX3_changeCapacity_52 : decode cX3_changeCapacity 52 = .ok (.iload_n 1, 1) := by decide +kernel
theorem dX3_changeCapacity_53 : decode cX3_changeCapacity 53 = .ok (.iload_n 2, 1) := by decide +kernel
theorem dX3_changeCapacity_54 : decode cX3_changeCapacity 54 = .ok (.iastore, 1) := by decide +kernel
theorem dX3_changeCapacity_55 : decode cX3_changeCapacity 55 = .ok (.aload_n 0, 1) := by decide +kernel
theorem dX3_changeCapacity_56 : decode cX3_changeCapacity 56 = .ok (.aload_n 0, 1) := by decide +kernel
theorem dX3_changeCapacity_57 : decode cX3_changeCapacity 57 = .ok (.getfield 23, 3) := by decide +kernel
theorem dX3_changeCapacity_60 : decode cX3_changeCapacity 60 = .ok (.getfield 61, 3) := by decide +kernel
theorem dX3_changeCapacity_63 : decode cX3_changeCapacity 63 = .ok (.iload_n 1, 1) := by decide +kernel
theorem dX3_changeCapacity_64 : decode cX3_changeCapacity 64 = .ok (.iaload, 1) := by decide +kernel
theorem dX3_changeCapacity_65 : decode cX3_changeCapacity 65 = .ok (.aload_n 0, 1) := by decide +kernel
theorem dX3_changeCapacity_66 : decode cX3_changeCapacity 66 = .ok (.getfield 23, 3) := by decide +kernel
theorem dX3_changeCapacity_69 : decode cX3_changeCapacity 69 = .ok (.getfield 66, 3) := by decide +kernel
theorem dX3_changeCapacity_72 : decode cX3_changeCapacity 72 = .ok (.iload_n 1, 1) := by decide +kernel
theorem dX3_changeCapacity_73 : decode cX3_changeCapacity 73 = .ok (.iaload, 1) := by decide +kernel
theorem dX3_changeCapacity_74 : decode cX3_changeCapacity 74 = .ok (.iload_n 3, 1) := by decide +kernel
theorem dX3_changeCapacity_75 : decode cX3_changeCapacity 75 = .ok (.invokevirtual 69, 3) := by decide +kernel
theorem dX3_changeCapacity_78 : decode cX3_changeCapacity 78 = .ok (.return_, 1) := by decide +kernel
theorem dX3_moveAway_0 : decode cX3_moveAway 0 = .ok (.iload_n 3, 1) := by decide +kernel
theorem dX3_moveAway_1 : decode cX3_moveAway 1 = .ok (.aload_n 0, 1) := by decide +kernel
theorem dX3_moveAway_2 : decode cX3_moveAway 2 = .ok (.getfield 36, 3) := by decide +kernel
theorem dX3_moveAway_5 : decode cX3_moveAway 5 = .ok (.iload_n 1, 1) := by decide +kernel
theorem dX3_moveAway_6 : decode cX3_moveAway 6 = .ok (.iload_n 2, 1) := by decide +kernel
theorem dX3_moveAway_7 : decode cX3_moveAway 7 = .ok (.iload_n 3, 1) := by decide +kernel
theorem dX3_moveAway_8 : decode cX3_moveAway 8 = .ok (.invokevirtual 73, 3) := by decide +kernel
theorem dX3_moveAway_11 : decode cX3_moveAway 11 = .ok (.isub, 1) := by decide +kernel
theorem dX3_moveAway_12 : decode cX3_moveAway 12 = .ok (.istore 4, 2) := by decide +kernel
theorem dX3_moveAway_14 : decode cX3_moveAway 14 = .ok (.aload_n 0, 1) := by decide +kernel
theorem dX3_moveAway_15 : decode cX3_moveAway 15 = .ok (.getfield 36, 3) := by decide +kernel
theorem dX3_moveAway_18 : decode cX3_moveAway 18 = .ok (.iload_n 1, 1) := by decide +kernel
theorem dX3_moveAway_19 : decode cX3_moveAway 19 = .ok (.aload_n 0, 1) := by decide +kernel
theorem dX3_moveAway_20 : decode cX3_moveAway 20 = .ok (.getfield 9, 3) := by decide +kernel
theorem dX3_moveAway_23 : decode cX3_moveAway 23 = .ok (.iload 4, 2) := by decide +kernel
theorem dX3_moveAway_25 : decode cX3_moveAway 25 = .ok (.invokevirtual 73, 3) := by decide +kernel
theorem dX3_moveAway_28 : decode cX3_moveAway 28 = .ok (.pop, 1) := by decide +kernel
theorem dX3_moveAway_29 : decode cX3_moveAway 29 = .ok (.aload_n 0, 1) := by decide +kernel
theorem dX3_moveAway_30 : decode cX3_moveAway 30 = .ok (.getfield 36, 3) := by decide +kernel
theorem dX3_moveAway_33 : decode cX3_moveAway 33 = .ok (.aload_n 0, 1) := by decide +kernel
theorem dX3_moveAway_34 : decode cX3_moveAway 34 = .ok (.getfield 15, 3) := by decide +kernel
theorem dX3_moveAway_37 : decode cX3_moveAway 37 = .ok (.iload_n 2, 1) := by decide +kernel
theorem dX3_moveAway_38 : decode cX3_moveAway 38 = .ok (.iload 4, 2) := by decide +kernel
theorem dX3_moveAway_40 : decode cX3_moveAway 40 = .ok (.invokevirtual 73, 3) := by decide +kernel
theorem dX3_moveAway_43 : decode cX3_moveAway 43 = .ok (.pop, 1) := by decide +kernel
theorem dX3_moveAway_44 : decode cX3_moveAway 44 = .ok (.return_, 1) := by decide +kernel
theorem dX3_settle_0 : decode cX3_settle 0 = .ok (.aload_n 0, 1) := by decide +kernel
theorem dX3_settle_1 : decode cX3_settle 1 = .ok (.getfield 44, 3) := by decide +kernel
theorem dX3_settle_4 : decode cX3_settle 4 = .ok (.ifCond .ne 26, 3) := by decide +kernel
theorem dX3_settle_7 : decode cX3_settle 7 = .ok (.aload_n 0, 1) := by decide +kernel
theorem dX3_settle_8 : decode cX3_settle 8 = .ok (.getfield 36, 3) := by decide +kernel
theorem dX3_settle_11 : decode cX3_settle 11 = .ok (.aload_n 0, 1) := by decide +kernel
theorem dX3_settle_12 : decode cX3_settle 12 = .ok (.getfield 9, 3) := by decide +kernel
theorem dX3_settle_15 : decode cX3_settle 15 = .ok (.aload_n 0, 1) := by decide +kernel
theorem dX3_settle_16 : decode cX3_settle 16 = .ok (.getfield 15, 3) := by decide +kernel
theorem dX3_settle_19 : decode cX3_settle 19 = .ok (.ldc 77, 2) := by decide +kernel
theorem dX3_settle_21 : decode cX3_settle 21 = .ok (.invokevirtual 73, 3) := by decide +kernel
theorem dX3_settle_24 : decode cX3_settle 24 = .ok (.pop, 1) := by decide +kernel
theorem dX3_settle_25 : decode cX3_settle 25 = .ok (.aload_n 0, 1) := by decide +kernel
theorem dX3_settle_26 : decode cX3_settle 26 = .ok (.iconst 1, 1) := by decide +kernel
theorem dX3_settle_27 : decode cX3_settle 27 = .ok (.putfield 44, 3) := by decide +kernel
theorem dX3_settle_30 : decode cX3_settle 30 = .ok (.return_, 1) := by decide +kernel
theorem dX3_greatestValue_0 : decode cX3_greatestValue 0 = .ok (.aload_n 0, 1) := by decide +kernel
theorem dX3_greatestValue_1 : decode cX3_greatestValue 1 = .ok (.invokevirtual 78, 3) := by decide +kernel
theorem dX3_greatestValue_4 : decode cX3_greatestValue 4 = .ok (.iconst 0, 1) := by decide +kernel
theorem dX3_greatestValue_5 : decode cX3_greatestValue 5 = .ok (.istore_n 1, 1) := by decide +kernel
theorem dX3_greatestValue_6 : decode cX3_greatestValue 6 = .ok (.iconst 0, 1) := by decide +kernel
theorem dX3_greatestValue_7 : decode cX3_greatestValue 7 = .ok (.istore_n 2, 1) := by decide +kernel
theorem dX3_greatestValue_8 : decode cX3_greatestValue 8 = .ok (.iload_n 2, 1) := by decide +kernel
theorem dX3_greatestValue_9 : decode cX3_greatestValue 9 = .ok (.aload_n 0, 1) := by decide +kernel
theorem dX3_greatestValue_10 : decode cX3_greatestValue 10 = .ok (.getfield 23, 3) := by decide +kernel
theorem dX3_greatestValue_13 : decode cX3_greatestValue 13 = .ok (.getfield 81, 3) := by decide +kernel
theorem dX3_greatestValue_16 : decode cX3_greatestValue 16 = .ok (.if_icmp .ge 65, 3) := by decide +kernel
theorem dX3_greatestValue_19 : decode cX3_greatestValue 19 = .ok (.aload_n 0, 1) := by decide +kernel
theorem dX3_greatestValue_20 : decode cX3_greatestValue 20 = .ok (.getfield 23, 3) := by decide +kernel
theorem dX3_greatestValue_23 : decode cX3_greatestValue 23 = .ok (.getfield 61, 3) := by decide +kernel
theorem dX3_greatestValue_26 : decode cX3_greatestValue 26 = .ok (.iload_n 2, 1) := by decide +kernel
theorem dX3_greatestValue_27 : decode cX3_greatestValue 27 = .ok (.iaload, 1) := by decide +kernel
theorem dX3_greatestValue_28 : decode cX3_greatestValue 28 = .ok (.aload_n 0, 1) := by decide +kernel
theorem dX3_greatestValue_29 : decode cX3_greatestValue 29 = .ok (.getfield 9, 3) := by decide +kernel
theorem dX3_greatestValue_32 : decode cX3_greatestValue 32 = .ok (.if_icmp .ne 15, 3) := by decide +kernel
theorem dX3_greatestValue_35 : decode cX3_greatestValue 35 = .ok (.iload_n 1, 1) := by decide +kernel
theorem dX3_greatestValue_36 : decode cX3_greatestValue 36 = .ok (.aload_n 0, 1) := by decide +kernel
theorem dX3_greatestValue_37 : decode cX3_greatestValue 37 = .ok (.getfield 27, 3) := by decide +kernel
theorem dX3_greatestValue_40 : decode cX3_greatestValue 40 = .ok (.getfield 48, 3) := by decide +kernel
theorem dX3_greatestValue_43 : decode cX3_greatestValue 43 = .ok (.iload_n 2, 1) := by decide +kernel
theorem dX3_greatestValue_44 : decode cX3_greatestValue 44 = .ok (.iaload, 1) := by decide +kernel
theorem dX3_greatestValue_45 : decode cX3_greatestValue 45 = .ok (.iadd, 1) := by decide +kernel
theorem dX3_greatestValue_46 : decode cX3_greatestValue 46 = .ok (.istore_n 1, 1) := by decide +kernel
theorem dX3_greatestValue_47 : decode cX3_greatestValue 47 = .ok (.aload_n 0, 1) := by decide +kernel
theorem dX3_greatestValue_48 : decode cX3_greatestValue 48 = .ok (.getfield 23, 3) := by decide +kernel
theorem dX3_greatestValue_51 : decode cX3_greatestValue 51 = .ok (.getfield 66, 3) := by decide +kernel
theorem dX3_greatestValue_54 : decode cX3_greatestValue 54 = .ok (.iload_n 2, 1) := by decide +kernel
theorem dX3_greatestValue_55 : decode cX3_greatestValue 55 = .ok (.iaload, 1) := by decide +kernel
theorem dX3_greatestValue_56 : decode cX3_greatestValue 56 = .ok (.aload_n 0, 1) := by decide +kernel
theorem dX3_greatestValue_57 : decode cX3_greatestValue 57 = .ok (.getfield 9, 3) := by decide +kernel
theorem dX3_greatestValue_60 : decode cX3_greatestValue 60 = .ok (.if_icmp .ne 15, 3) := by decide +kernel
theorem dX3_greatestValue_63 : decode cX3_greatestValue 63 = .ok (.iload_n 1, 1) := by decide +kernel
theorem dX3_greatestValue_64 : decode cX3_greatestValue 64 = .ok (.aload_n 0, 1) := by decide +kernel
theorem dX3_greatestValue_65 : decode cX3_greatestValue 65 = .ok (.getfield 27, 3) := by decide +kernel
theorem dX3_greatestValue_68 : decode cX3_greatestValue 68 = .ok (.getfield 48, 3) := by decide +kernel
theorem dX3_greatestValue_71 : decode cX3_greatestValue 71 = .ok (.iload_n 2, 1) := by decide +kernel
theorem dX3_greatestValue_72 : decode cX3_greatestValue 72 = .ok (.iaload, 1) := by decide +kernel
theorem dX3_greatestValue_73 : decode cX3_greatestValue 73 = .ok (.isub, 1) := by decide +kernel
theorem dX3_greatestValue_74 : decode cX3_greatestValue 74 = .ok (.istore_n 1, 1) := by decide +kernel
theorem dX3_greatestValue_75 : decode cX3_greatestValue 75 = .ok (.iinc 2 1, 3) := by decide +kernel
theorem dX3_greatestValue_78 : decode cX3_greatestValue 78 = .ok (.goto (-70), 3) := by decide +kernel
theorem dX3_greatestValue_81 : decode cX3_greatestValue 81 = .ok (.iload_n 1, 1) := by decide +kernel
theorem dX3_greatestValue_82 : decode cX3_greatestValue 82 = .ok (.ireturn, 1) := by decide +kernel
theorem dX3_smallestMask_0 : decode cX3_smallestMask 0 = .ok (.aload_n 0, 1) := by decide +kernel
theorem dX3_smallestMask_1 : decode cX3_smallestMask 1 = .ok (.invokevirtual 78, 3) := by decide +kernel
theorem dX3_smallestMask_4 : decode cX3_smallestMask 4 = .ok (.aload_n 0, 1) := by decide +kernel
theorem dX3_smallestMask_5 : decode cX3_smallestMask 5 = .ok (.getfield 27, 3) := by decide +kernel
theorem dX3_smallestMask_8 : decode cX3_smallestMask 8 = .ok (.aload_n 0, 1) := by decide +kernel
theorem dX3_smallestMask_9 : decode cX3_smallestMask 9 = .ok (.getfield 9, 3) := by decide +kernel
theorem dX3_smallestMask_12 : decode cX3_smallestMask 12 = .ok (.invokevirtual 84, 3) := by decide +kernel
theorem dX3_smallestMask_15 : decode cX3_smallestMask 15 = .ok (.ireturn, 1) := by decide +kernel
theorem dX3_greatestMask_0 : decode cX3_greatestMask 0 = .ok (.aload_n 0, 1) := by decide +kernel
theorem dX3_greatestMask_1 : decode cX3_greatestMask 1 = .ok (.invokevirtual 78, 3) := by decide +kernel
theorem dX3_greatestMask_4 : decode cX3_greatestMask 4 = .ok (.iconst 0, 1) := by decide +kernel
theorem dX3_greatestMask_5 : decode cX3_greatestMask 5 = .ok (.istore_n 1, 1) := by decide +kernel
theorem dX3_greatestMask_6 : decode cX3_greatestMask 6 = .ok (.iconst 0, 1) := by decide +kernel
theorem dX3_greatestMask_7 : decode cX3_greatestMask 7 = .ok (.istore_n 2, 1) := by decide +kernel
theorem dX3_greatestMask_8 : decode cX3_greatestMask 8 = .ok (.iload_n 2, 1) := by decide +kernel
theorem dX3_greatestMask_9 : decode cX3_greatestMask 9 = .ok (.aload_n 0, 1) := by decide +kernel
theorem dX3_greatestMask_10 : decode cX3_greatestMask 10 = .ok (.getfield 23, 3) := by decide +kernel
theorem dX3_greatestMask_13 : decode cX3_greatestMask 13 = .ok (.getfield 88, 3) := by decide +kernel
theorem dX3_greatestMask_16 : decode cX3_greatestMask 16 = .ok (.if_icmp .ge 33, 3) := by decide +kernel
theorem dX3_greatestMask_19 : decode cX3_greatestMask 19 = .ok (.aload_n 0, 1) := by decide +kernel
theorem dX3_greatestMask_20 : decode cX3_greatestMask 20 = .ok (.getfield 27, 3) := by decide +kernel
theorem dX3_greatestMask_23 : decode cX3_greatestMask 23 = .ok (.iload_n 2, 1) := by decide +kernel
theorem dX3_greatestMask_24 : decode cX3_greatestMask 24 = .ok (.invokevirtual 84, 3) := by decide +kernel
theorem dX3_greatestMask_27 : decode cX3_greatestMask 27 = .ok (.aload_n 0, 1) := by decide +kernel
theorem dX3_greatestMask_28 : decode cX3_greatestMask 28 = .ok (.getfield 15, 3) := by decide +kernel
theorem dX3_greatestMask_31 : decode cX3_greatestMask 31 = .ok (.invokestatic 91, 3) := by decide +kernel
theorem dX3_greatestMask_34 : decode cX3_greatestMask 34 = .ok (.ifCond .ne 9, 3) := by decide +kernel
theorem dX3_greatestMask_37 : decode cX3_greatestMask 37 = .ok (.iload_n 1, 1) := by decide +kernel
theorem dX3_greatestMask_38 : decode cX3_greatestMask 38 = .ok (.iconst 1, 1) := by decide +kernel
theorem dX3_greatestMask_39 : decode cX3_greatestMask 39 = .ok (.iload_n 2, 1) := by decide +kernel
theorem dX3_greatestMask_40 : decode cX3_greatestMask 40 = .ok (.ishl, 1) := by decide +kernel
theorem dX3_greatestMask_41 : decode cX3_greatestMask 41 = .ok (.ior, 1) := by decide +kernel
theorem dX3_greatestMask_42 : decode cX3_greatestMask 42 = .ok (.istore_n 1, 1) := by decide +kernel
theorem dX3_greatestMask_43 : decode cX3_greatestMask 43 = .ok (.iinc 2 1, 3) := by decide +kernel
theorem dX3_greatestMask_46 : decode cX3_greatestMask 46 = .ok (.goto (-38), 3) := by decide +kernel
theorem dX3_greatestMask_49 : decode cX3_greatestMask 49 = .ok (.iload_n 1, 1) := by decide +kernel
theorem dX3_greatestMask_50 : decode cX3_greatestMask 50 = .ok (.ireturn, 1) := by decide +kernel
theorem dX4_init_0 : decode cX4_init 0 = .ok (.aload_n 0, 1) := by decide +kernel
theorem dX4_init_1 : decode cX4_init 1 = .ok (.invokespecial 3, 3) := by decide +kernel
theorem dX4_init_4 : decode cX4_init 4 = .ok (.aload_n 0, 1) := by decide +kernel
theorem dX4_init_5 : decode cX4_init 5 = .ok (.bipush 80, 2) := by decide +kernel
theorem dX4_init_7 : decode cX4_init 7 = .ok (.newarray .int, 2) := by decide +kernel
theorem dX4_init_9 : decode cX4_init 9 = .ok (.putfield 9, 3) := by decide +kernel
theorem dX4_init_12 : decode cX4_init 12 = .ok (.aload_n 0, 1) := by decide +kernel
theorem dX4_init_13 : decode cX4_init 13 = .ok (.bipush 80, 2) := by decide +kernel
theorem dX4_init_15 : decode cX4_init 15 = .ok (.newarray .int, 2) := by decide +kernel
theorem dX4_init_17 : decode cX4_init 17 = .ok (.putfield 15, 3) := by decide +kernel
theorem dX4_init_20 : decode cX4_init 20 = .ok (.aload_n 0, 1) := by decide +kernel
theorem dX4_init_21 : decode cX4_init 21 = .ok (.bipush 24, 2) := by decide +kernel
theorem dX4_init_23 : decode cX4_init 23 = .ok (.newarray .int, 2) := by decide +kernel
theorem dX4_init_25 : decode cX4_init 25 = .ok (.putfield 18, 3) := by decide +kernel
theorem dX4_init_28 : decode cX4_init 28 = .ok (.aload_n 0, 1) := by decide +kernel
theorem dX4_init_29 : decode cX4_init 29 = .ok (.bipush 24, 2) := by decide +kernel
theorem dX4_init_31 : decode cX4_init 31 = .ok (.bipush 80, 2) := by decide +kernel
theorem dX4_init_33 : decode cX4_init 33 = .ok (.multianewarray 21 2, 4) := by decide +kernel
theorem dX4_init_37 : decode cX4_init 37 = .ok (.putfield 23, 3) := by decide +kernel
theorem dX4_init_40 : decode cX4_init 40 = .ok (.return_, 1) := by decide +kernel
theorem dX4_makeNode_0 : decode cX4_makeNode 0 = .ok (.aload_n 0, 1) := by decide +kernel
theorem dX4_makeNode_1 : decode cX4_makeNode 1 = .ok (.dup, 1) := by decide +kernel
theorem dX4_makeNode_2 : decode cX4_makeNode 2 = .ok (.getfield 26, 3) := by decide +kernel
theorem dX4_makeNode_5 : decode cX4_makeNode 5 = .ok (.iconst 1, 1) := by decide +kernel
theorem dX4_makeNode_6 : decode cX4_makeNode 6 = .ok (.iadd, 1) := by decide +kernel
theorem dX4_makeNode_7 : decode cX4_makeNode 7 = .ok (.putfield 26, 3) := by decide +kernel
theorem dX4_makeNode_10 : decode cX4_makeNode 10 = .ok (.aload_n 0, 1) := by decide +kernel
theorem dX4_makeNode_11 : decode cX4_makeNode 11 = .ok (.getfield 26, 3) := by decide +kernel
theorem dX4_makeNode_14 : decode cX4_makeNode 14 = .ok (.iconst 1, 1) := by decide +kernel
theorem dX4_makeNode_15 : decode cX4_makeNode 15 = .ok (.isub, 1) := by decide +kernel
theorem dX4_makeNode_16 : decode cX4_makeNode 16 = .ok (.ireturn, 1) := by decide +kernel
theorem dX4_makeArc_0 : decode cX4_makeArc 0 = .ok (.aload_n 0, 1) := by decide +kernel
theorem dX4_makeArc_1 : decode cX4_makeArc 1 = .ok (.getfield 30, 3) := by decide +kernel
theorem dX4_makeArc_4 : decode cX4_makeArc 4 = .ok (.istore_n 3, 1) := by decide +kernel
theorem dX4_makeArc_5 : decode cX4_makeArc 5 = .ok (.aload_n 0, 1) := by decide +kernel
theorem dX4_makeArc_6 : decode cX4_makeArc 6 = .ok (.dup, 1) := by decide +kernel
theorem dX4_makeArc_7 : decode cX4_makeArc 7 = .ok (.getfield 30, 3) := by decide +kernel
theorem dX4_makeArc_10 : decode cX4_makeArc 10 = .ok (.iconst 1, 1) := by decide +kernel
theorem dX4_makeArc_11 : decode cX4_makeArc 11 = .ok (.iadd, 1) := by decide +kernel
theorem dX4_makeArc_12 : decode cX4_makeArc 12 = .ok (.putfield 30, 3) := by decide +kernel
theorem dX4_makeArc_15 : decode cX4_makeArc 15 = .ok (.aload_n 0, 1) := by decide +kernel
theorem dX4_makeArc_16 : decode cX4_makeArc 16 = .ok (.getfield 9, 3) := by decide +kernel
theorem dX4_makeArc_19 : decode cX4_makeArc 19 = .ok (.iload_n 3, 1) := by decide +kernel
theorem dX4_makeArc_20 : decode cX4_makeArc 20 = .ok (.iload_n 1, 1) := by decide +kernel
theorem dX4_makeArc_21 : decode cX4_makeArc 21 = .ok (.iastore, 1) := by decide +kernel
theorem dX4_makeArc_22 : decode cX4_makeArc 22 = .ok (.aload_n 0, 1) := by decide +kernel
theorem dX4_makeArc_23 : decode cX4_makeArc 23 = .ok (.getfield 15, 3) := by decide +kernel
theorem dX4_makeArc_26 : decode cX4_makeArc 26 = .ok (.iload_n 3, 1) := by decide +kernel
theorem dX4_makeArc_27 : decode cX4_makeArc 27 = .ok (.iload_n 2, 1) := by decide +kernel
theorem dX4_makeArc_28 : decode cX4_makeArc 28 = .ok (.iastore, 1) := by decide +kernel
theorem dX4_makeArc_29 : decode cX4_makeArc 29 = .ok (.aload_n 0, 1) := by decide +kernel
theorem dX4_makeArc_30 : decode cX4_makeArc 30 = .ok (.iload_n 3, 1) := by decide +kernel
theorem dX4_makeArc_31 : decode cX4_makeArc 31 = .ok (.iload_n 1, 1) := by decide +kernel
theorem dX4_makeArc_32 : decode cX4_makeArc 32 = .ok (.invokevirtual 33, 3) := by decide +kernel
theorem dX4_makeArc_35 : decode cX4_makeArc 35 = .ok (.aload_n 0, 1) := by decide +kernel
theorem dX4_makeArc_36 : decode cX4_makeArc 36 = .ok (.iload_n 3, 1) := by decide +kernel
theorem dX4_makeArc_37 : decode cX4_makeArc 37 = .ok (.iload_n 2, 1) := by decide +kernel
theorem dX4_makeArc_38 : decode cX4_makeArc 38 = .ok (.invokevirtual 33, 3) := by decide +kernel
theorem dX4_makeArc_41 : decode cX4_makeArc 41 = .ok (.iload_n 3, 1) := by decide +kernel
theorem dX4_makeArc_42 : decode cX4_makeArc 42 = .ok (.ireturn, 1) := by decide +kernel
theorem dX4_attach_0 : decode cX4_attach 0 = .ok (.aload_n 0, 1) := by decide +kernel
theorem dX4_attach_1 : decode cX4_attach 1 = .ok (.getfield 23, 3) := by decide +kernel
theorem dX4_attach_4 : decode cX4_attach 4 = .ok (.iload_n 2, 1) := by decide +kernel
theorem dX4_attach_5 : decode cX4_attach 5 = .ok (.aaload, 1) := by decide +kernel
theorem dX4_attach_6 : decode cX4_attach 6 = .ok (.aload_n 0, 1) := by decide +kernel
theorem dX4_attach_7 : decode cX4_attach 7 = .ok (.getfield 18, 3) := by decide +kernel
theorem dX4_attach_10 : decode cX4_attach 10 = .ok (.iload_n 2, 1) := by decide +kernel
theorem dX4_attach_11 : decode cX4_attach 11 = .ok (.iaload, 1) := by decide +kernel
theorem dX4_attach_12 : decode cX4_attach 12 = .ok (.iload_n 1, 1) := by decide +kernel
theorem dX4_attach_13 : decode cX4_attach 13 = .ok (.iastore, 1) := by decide +kernel
theorem dX4_attach_14 : decode cX4_attach 14 = .ok (.aload_n 0, 1) := by decide +kernel
theorem dX4_attach_15 : decode cX4_attach 15 = .ok (.getfield 18, 3) := by decide +kernel
theorem dX4_attach_18 : decode cX4_attach 18 = .ok (.iload_n 2, 1) := by decide +kernel
theorem dX4_attach_19 : decode cX4_attach 19 = .ok (.dup2, 1) := by decide +kernel
theorem dX4_attach_20 : decode cX4_attach 20 = .ok (.iaload, 1) := by decide +kernel
theorem dX4_attach_21 : decode cX4_attach 21 = .ok (.iconst 1, 1) := by decide +kernel
theorem dX4_attach_22 : decode cX4_attach 22 = .ok (.iadd, 1) := by decide +kernel
theorem dX4_attach_23 : decode cX4_attach 23 = .ok (.iastore, 1) := by decide +kernel
theorem dX4_attach_24 : decode cX4_attach 24 = .ok (.return_, 1) := by decide +kernel
theorem dX4_otherEnd_0 : decode cX4_otherEnd 0 = .ok (.aload_n 0, 1) := by decide +kernel
theorem dX4_otherEnd_1 : decode cX4_otherEnd 1 = .ok (.getfield 9, 3) := by decide +kernel
theorem dX4_otherEnd_4 : decode cX4_otherEnd 4 = .ok (.iload_n 1, 1) := by decide +kernel
theorem dX4_otherEnd_5 : decode cX4_otherEnd 5 = .ok (.iaload, 1) := by decide +kernel
theorem dX4_otherEnd_6 : decode cX4_otherEnd 6 = .ok (.iload_n 2, 1) := by decide +kernel
theorem dX4_otherEnd_7 : decode cX4_otherEnd 7 = .ok (.if_icmp .ne 12, 3) := by decide +kernel
theorem dX4_otherEnd_10 : decode cX4_otherEnd 10 = .ok (.aload_n 0, 1) := by decide +kernel
theorem dX4_otherEnd_11 : decode cX4_otherEnd 11 = .ok (.getfield 15, 3) := by decide +kernel
theorem dX4_otherEnd_14 : decode cX4_otherEnd 14 = .ok (.iload_n 1, 1) := by decide +kernel
theorem dX4_otherEnd_15 : decode cX4_otherEnd 15 = .ok (.iaload, 1) := by decide +kernel
theorem dX4_otherEnd_16 : decode cX4_otherEnd 16 = .ok (.goto 9, 3) := by decide +kernel
theorem dX4_otherEnd_19 : decode cX4_otherEnd 19 = .ok (.aload_n 0, 1) := by decide +kernel
theorem dX4_otherEnd_20 : decode cX4_otherEnd 20 = .ok (.getfield 9, 3) := by decide +kernel
theorem dX4_otherEnd_23 : decode cX4_otherEnd 23 = .ok (.iload_n 1, 1) := by decide +kernel
theorem dX4_otherEnd_24 : decode cX4_otherEnd 24 = .ok (.iaload, 1) := by decide +kernel
theorem dX4_otherEnd_25 : decode cX4_otherEnd 25 = .ok (.ireturn, 1) := by decide +kernel
theorem dX4_allNodes_0 : decode cX4_allNodes 0 = .ok (.iconst 1, 1) := by decide +kernel
theorem dX4_allNodes_1 : decode cX4_allNodes 1 = .ok (.aload_n 0, 1) := by decide +kernel
theorem dX4_allNodes_2 : decode cX4_allNodes 2 = .ok (.getfield 26, 3) := by decide +kernel
theorem dX4_allNodes_5 : decode cX4_allNodes 5 = .ok (.ishl, 1) := by decide +kernel
theorem dX4_allNodes_6 : decode cX4_allNodes 6 = .ok (.iconst 1, 1) := by decide +kernel
theorem dX4_allNodes_7 : decode cX4_allNodes 7 = .ok (.isub, 1) := by decide +kernel
theorem dX4_allNodes_8 : decode cX4_allNodes 8 = .ok (.ireturn, 1) := by decide +kernel
theorem dX5_init_0 : decode cX5_init 0 = .ok (.aload_n 0, 1) := by decide +kernel
theorem dX5_init_1 : decode cX5_init 1 = .ok (.invokespecial 3, 3) := by decide +kernel
theorem dX5_init_4 : decode cX5_init 4 = .ok (.aload_n 0, 1) := by decide +kernel
theorem dX5_init_5 : decode cX5_init 5 = .ok (.bipush 24, 2) := by decide +kernel
theorem dX5_init_7 : decode cX5_init 7 = .ok (.newarray .int, 2) := by decide +kernel
theorem dX5_init_9 : decode cX5_init 9 = .ok (.putfield 9, 3) := by decide +kernel
theorem dX5_init_12 : decode cX5_init 12 = .ok (.aload_n 0, 1) := by decide +kernel
theorem dX5_init_13 : decode cX5_init 13 = .ok (.bipush 24, 2) := by decide +kernel
theorem dX5_init_15 : decode cX5_init 15 = .ok (.newarray .int, 2) := by decide +kernel
theorem dX5_init_17 : decode cX5_init 17 = .ok (.putfield 15, 3) := by decide +kernel
theorem dX5_init_20 : decode cX5_init 20 = .ok (.aload_n 0, 1) := by decide +kernel
theorem dX5_init_21 : decode cX5_init 21 = .ok (.bipush 24, 2) := by decide +kernel
theorem dX5_init_23 : decode cX5_init 23 = .ok (.newarray .int, 2) := by decide +kernel
theorem dX5_init_25 : decode cX5_init 25 = .ok (.putfield 18, 3) := by decide +kernel
theorem dX5_init_28 : decode cX5_init 28 = .ok (.aload_n 0, 1) := by decide +kernel
theorem dX5_init_29 : decode cX5_init 29 = .ok (.aload_n 1, 1) := by decide +kernel
theorem dX5_init_30 : decode cX5_init 30 = .ok (.putfield 21, 3) := by decide +kernel
theorem dX5_init_33 : decode cX5_init 33 = .ok (.aload_n 0, 1) := by decide +kernel
theorem dX5_init_34 : decode cX5_init 34 = .ok (.aload_n 2, 1) := by decide +kernel
theorem dX5_init_35 : decode cX5_init 35 = .ok (.putfield 25, 3) := by decide +kernel
theorem dX5_init_38 : decode cX5_init 38 = .ok (.return_, 1) := by decide +kernel
theorem dX5_route_0 : decode cX5_route 0 = .ok (.iload_n 1, 1) := by decide +kernel
theorem dX5_route_1 : decode cX5_route 1 = .ok (.ifCond .lt 16, 3) := by decide +kernel
theorem dX5_route_4 : decode cX5_route 4 = .ok (.iload_n 2, 1) := by decide +kernel
theorem dX5_route_5 : decode cX5_route 5 = .ok (.ifCond .lt 12, 3) := by decide +kernel
theorem dX5_route_8 : decode cX5_route 8 = .ok (.iload_n 1, 1) := by decide +kernel
theorem dX5_route_9 : decode cX5_route 9 = .ok (.iload_n 2, 1) := by decide +kernel
theorem dX5_route_10 : decode cX5_route 10 = .ok (.if_icmp .eq 7, 3) := by decide +kernel
theorem dX5_route_13 : decode cX5_route 13 = .ok (.iload_n 3, 1) := by decide +kernel
theorem dX5_route_14 : decode cX5_route 14 = .ok (.ifCond .gt 5, 3) := by decide +kernel
theorem dX5_route_17 : decode cX5_route 17 = .ok (.iconst 0, 1) := by decide +kernel
theorem dX5_route_18 : decode cX5_route 18 = .ok (.ireturn, 1) := by decide +kernel
theorem dX5_route_19 : decode cX5_route 19 = .ok (.aload_n 0, 1) := by decide +kernel
theorem dX5_route_20 : decode cX5_route 20 = .ok (.iload_n 1, 1) := by decide +kernel
theorem dX5_route_21 : decode cX5_route 21 = .ok (.putfield 29, 3) := by decide +kernel
theorem dX5_route_24 : decode cX5_route 24 = .ok (.aload_n 0, 1) := by decide +kernel
theorem dX5_route_25 : decode cX5_route 25 = .ok (.iload_n 2, 1) := by decide +kernel
theorem dX5_route_26 : decode cX5_route 26 = .ok (.putfield 33, 3) := by decide +kernel
theorem dX5_route_29 : decode cX5_route 29 = .ok (.aload_n 0, 1) := by decide +kernel
theorem dX5_route_30 : decode cX5_route 30 = .ok (.invokevirtual 36, 3) := by decide +kernel
theorem dX5_route_33 : decode cX5_route 33 = .ok (.aload_n 0, 1) := by decide +kernel
theorem dX5_route_34 : decode cX5_route 34 = .ok (.getfield 9, 3) := by decide +kernel
theorem dX5_route_37 : decode cX5_route 37 = .ok (.iconst 0, 1) := by decide +kernel
theorem dX5_route_38 : decode cX5_route 38 = .ok (.invokestatic 39, 3) := by decide +kernel
theorem dX5_route_41 : decode cX5_route 41 = .ok (.aload_n 0, 1) := by decide +kernel
theorem dX5_route_42 : decode cX5_route 42 = .ok (.getfield 9, 3) := by decide +kernel
theorem dX5_route_45 : decode cX5_route 45 = .ok (.iload_n 1, 1) := by decide +kernel
theorem dX5_route_46 : decode cX5_route 46 = .ok (.iload_n 3, 1) := by decide +kernel
theorem dX5_route_47 : decode cX5_route 47 = .ok (.iastore, 1) := by decide +kernel
theorem dX5_route_48 : decode cX5_route 48 = .ok (.iconst 1, 1) := by decide +kernel
theorem dX5_route_49 : decode cX5_route 49 = .ok (.istore 4, 2) := by decide +kernel
theorem dX5_route_51 : decode cX5_route 51 = .ok (.iconst 0, 1) := by decide +kernel
theorem dX5_route_52 : decode cX5_route 52 = .ok (.istore 5, 2) := by decide +kernel
theorem dX5_route_54 : decode cX5_route 54 = .ok (.iload 5, 2) := by decide +kernel
theorem dX5_route_56 : decode cX5_route 56 = .ok (.ldc 45, 2) := by decide +kernel
theorem dX5_route_58 : decode cX5_route 58 = .ok (.if_icmp .ge 20, 3) := by decide +kernel
theorem dX5_route_61 : decode cX5_route 61 = .ok (.iload 4, 2) := by decide +kernel
theorem dX5_route_63 : decode cX5_route 63 = .ok (.ifCond .eq 15, 3) := by decide +kernel
theorem dX5_route_66 : decode cX5_route 66 = .ok (.aload_n 0, 1) := by decide +kernel
theorem dX5_route_67 : decode cX5_route 67 = .ok (.invokevirtual 46, 3) := by decide +kernel
theorem dX5_route_70 : decode cX5_route 70 = .ok (.istore 4, 2) := by decide +kernel
theorem dX5_route_72 : decode cX5_route 72 = .ok (.iinc 5 1, 3) := by decide +kernel
theorem dX5_route_75 : decode cX5_route 75 = .ok (.goto (-21), 3) := by decide +kernel
theorem dX5_route_78 : decode cX5_route 78 = .ok (.aload_n 0, 1) := by decide +kernel
theorem dX5_route_79 : decode cX5_route 79 = .ok (.getfield 9, 3) := by decide +kernel
theorem dX5_route_82 : decode cX5_route 82 = .ok (.iload_n 2, 1) := by decide +kernel
theorem dX5_route_83 : decode cX5_route 83 = .ok (.iaload, 1) := by decide +kernel
theorem dX5_route_84 : decode cX5_route 84 = .ok (.ireturn, 1) := by decide +kernel
theorem dX5_setHeights_0 : decode cX5_setHeights 0 = .ok (.aload_n 0, 1) := by decide +kernel
theorem dX5_setHeights_1 : decode cX5_setHeights 1 = .ok (.getfield 15, 3) := by decide +kernel
theorem dX5_setHeights_4 : decode cX5_setHeights 4 = .ok (.aload_n 0, 1) := by decide +kernel
theorem dX5_setHeights_5 : decode cX5_setHeights 5 = .ok (.getfield 21, 3) := by decide +kernel
theorem dX5_setHeights_8 : decode cX5_setHeights 8 = .ok (.getfield 50, 3) := by decide +kernel
theorem dX5_setHeights_11 : decode cX5_setHeights 11 = .ok (.invokestatic 39, 3) := by decide +kernel
theorem dX5_setHeights_14 : decode cX5_setHeights 14 = .ok (.aload_n 0, 1) := by decide +kernel
theorem dX5_setHeights_15 : decode cX5_setHeights 15 = .ok (.getfield 15, 3) := by decide +kernel
theorem dX5_setHeights_18 : decode cX5_setHeights 18 = .ok (.aload_n 0, 1) := by decide +kernel
theorem dX5_setHeights_19 : decode cX5_setHeights 19 = .ok (.getfield 33, 3) := by decide +kernel
theorem dX5_setHeights_22 : decode cX5_setHeights 22 = .ok (.iconst 0, 1) := by decide +kernel
theorem dX5_setHeights_23 : decode cX5_setHeights 23 = .ok (.iastore, 1) := by decide +kernel
theorem dX5_setHeights_24 : decode cX5_setHeights 24 = .ok (.aload_n 0, 1) := by decide +kernel
theorem dX5_setHeights_25 : decode cX5_setHeights 25 = .ok (.getfield 18, 3) := by decide +kernel
theorem dX5_setHeights_28 : decode cX5_setHeights 28 = .ok (.iconst 0, 1) := by decide +kernel
theorem dX5_setHeights_29 : decode cX5_setHeights 29 = .ok (.aload_n 0, 1) := by decide +kernel
theorem dX5_setHeights_30 : decode cX5_setHeights 30 = .ok (.getfield 33, 3) := by decide +kernel
theorem dX5_setHeights_33 : decode cX5_setHeights 33 = .ok (.iastore, 1) := by decide +kernel
theorem dX5_setHeights_34 : decode cX5_setHeights 34 = .ok (.iconst 1, 1) := by decide +kernel
theorem dX5_setHeights_35 : decode cX5_setHeights 35 = .ok (.istore_n 1, 1) := by decide +kernel
theorem dX5_setHeights_36 : decode cX5_setHeights 36 = .ok (.iconst 0, 1) := by decide +kernel
theorem dX5_setHeights_37 : decode cX5_setHeights 37 = .ok (.istore_n 2, 1) := by decide +kernel
theorem dX5_setHeights_38 : decode cX5_setHeights 38 = .ok (.iload_n 2, 1) := by decide +kernel
theorem dX5_setHeights_39 : decode cX5_setHeights 39 = .ok (.iload_n 1, 1) := by decide +kernel
theorem dX5_setHeights_40 : decode cX5_setHeights 40 = .ok (.if_icmp .ge 32, 3) := by decide +kernel
theorem dX5_setHeights_43 : decode cX5_setHeights 43 = .ok (.iload_n 1, 1) := by decide +kernel
theorem dX5_setHeights_44 : decode cX5_setHeights 44 = .ok (.aload_n 0, 1) := by decide +kernel
theorem dX5_setHeights_45 : decode cX5_setHeights 45 = .ok (.getfield 21, 3) := by decide +kernel
theorem dX5_setHeights_48 : decode cX5_setHeights 48 = .ok (.getfield 50, 3) := by decide +kernel
theorem dX5_setHeights_51 : decode cX5_setHeights 51 = .ok (.if_icmp .ge 21, 3) := by decide +kernel
theorem dX5_setHeights_54 : decode cX5_setHeights 54 = .ok (.aload_n 0, 1) := by decide +kernel
theorem dX5_setHeights_55 : decode cX5_setHeights 55 = .ok (.aload_n 0, 1) := by decide +kernel
theorem dX5_setHeights_56 : decode cX5_setHeights 56 = .ok (.getfield 18, 3) := by decide +kernel
theorem dX5_setHeights_59 : decode cX5_setHeights 59 = .ok (.iload_n 2, 1) := by decide +kernel
theorem dX5_setHeights_60 : decode cX5_setHeights 60 = .ok (.iaload, 1) := by decide +kernel
theorem dX5_setHeights_61 : decode cX5_setHeights 61 = .ok (.iload_n 1, 1) := by decide +kernel
theorem dX5_setHeights_62 : decode cX5_setHeights 62 = .ok (.invokevirtual 55, 3) := by decide +kernel
theorem dX5_setHeights_65 : decode cX5_setHeights 65 = .ok (.istore_n 1, 1) := by decide +kernel
theorem dX5_setHeights_66 : decode cX5_setHeights 66 = .ok (.iinc 2 1, 3) := by decide +kernel
theorem dX5_setHeights_69 : decode cX5_setHeights 69 = .ok (.goto (-31), 3) := by decide +kernel
theorem dX5_setHeights_72 : decode cX5_setHeights 72 = .ok (.return_, 1) := by decide +kernel
theorem dX5_findBehind_0 : decode cX5_findBehind 0 = .ok (.iload_n 2, 1) := by decide +kernel
theorem dX5_findBehind_1 : decode cX5_findBehind 1 = .ok (.istore_n 3, 1) := by decide +kernel
theorem dX5_findBehind_2 : decode cX5_findBehind 2 = .ok (.iconst 0, 1) := by decide +kernel
theorem dX5_findBehind_3 : decode cX5_findBehind 3 = .ok (.istore 4, 2) := by decide +kernel
theorem dX5_findBehind_5 : decode cX5_findBehind 5 = .ok (.iload 4, 2) := by decide +kernel
theorem dX5_findBehind_7 : decode cX5_findBehind 7 = .ok (.aload_n 0, 1) := by decide +kernel
theorem dX5_findBehind_8 : decode cX5_findBehind 8 = .ok (.getfield 21, 3) := by decide +kernel
theorem dX5_findBehind_11 : decode cX5_findBehind 11 = .ok (.getfield 59, 3) := by decide +kernel
theorem dX5_findBehind_14 : decode cX5_findBehind 14 = .ok (.iload_n 1, 1) := by decide +kernel
theorem dX5_findBehind_15 : decode cX5_findBehind 15 = .ok (.iaload, 1) := by decide +kernel
theorem dX5_findBehind_16 : decode cX5_findBehind 16 = .ok (.if_icmp .ge 110, 3) := by decide +kernel
theorem dX5_findBehind_19 : decode cX5_findBehind 19 = .ok (.aload_n 0, 1) := by decide +kernel
theorem dX5_findBehind_20 : decode cX5_findBehind 20 = .ok (.getfield 21, 3) := by decide +kernel
theorem dX5_findBehind_23 : decode cX5_findBehind 23 = .ok (.getfield 62, 3) := by decide +kernel
theorem dX5_findBehind_26 : decode cX5_findBehind 26 = .ok (.iload_n 1, 1) := by decide +kernel
theorem dX5_findBehind_27 : decode cX5_findBehind 27 = .ok (.aaload, 1) := by decide +kernel
theorem dX5_findBehind_28 : decode cX5_findBehind 28 = .ok (.iload 4, 2) := by decide +kernel
theorem dX5_findBehind_30 : decode cX5_findBehind 30 = .ok (.iaload, 1) := by decide +kernel
theorem dX5_findBehind_31 : decode cX5_findBehind 31 = .ok (.istore 5, 2) := by decide +kernel
theorem dX5_findBehind_33 : decode cX5_findBehind 33 = .ok (.aload_n 0, 1) := by decide +kernel
theorem dX5_findBehind_34 : decode cX5_findBehind 34 = .ok (.getfield 21, 3) := by decide +kernel
theorem dX5_findBehind_37 : decode cX5_findBehind 37 = .ok (.iload 5, 2) := by decide +kernel
theorem dX5_findBehind_39 : decode cX5_findBehind 39 = .ok (.iload_n 1, 1) := by decide +kernel
theorem dX5_findBehind_40 : decode cX5_findBehind 40 = .ok (.invokevirtual 66, 3) := by decide +kernel
theorem dX5_findBehind_43 : decode cX5_findBehind 43 = .ok (.istore 6, 2) := by decide +kernel
theorem dX5_findBehind_45 : decode cX5_findBehind 45 = .ok (.aload_n 0, 1) := by decide +kernel
theorem dX5_findBehind_46 : decode cX5_findBehind 46 = .ok (.getfield 15, 3) := by decide +kernel
theorem dX5_findBehind_49 : decode cX5_findBehind 49 = .ok (.iload 6, 2) := by decide +kernel
theorem dX5_findBehind_51 : decode cX5_findBehind 51 = .ok (.iaload, 1) := by decide +kernel
theorem dX5_findBehind_52 : decode cX5_findBehind 52 = .ok (.aload_n 0, 1) := by decide +kernel
theorem dX5_findBehind_53 : decode cX5_findBehind 53 = .ok (.getfield 21, 3) := by decide +kernel
theorem dX5_findBehind_56 : decode cX5_findBehind 56 = .ok (.getfield 50, 3) := by decide +kernel
theorem dX5_findBehind_59 : decode cX5_findBehind 59 = .ok (.if_icmp .ne 7, 3) := by decide +kernel
theorem dX5_findBehind_62 : decode cX5_findBehind 62 = .ok (.iconst 1, 1) := by decide +kernel
theorem dX5_findBehind_63 : decode cX5_findBehind 63 = .ok (.goto 4, 3) := by decide +kernel
theorem dX5_findBehind_66 : decode cX5_findBehind 66 = .ok (.iconst 0, 1) := by decide +kernel
theorem dX5_findBehind_67 : decode cX5_findBehind 67 = .ok (.istore 7, 2) := by decide +kernel
theorem dX5_findBehind_69 : decode cX5_findBehind 69 = .ok (.iload 7, 2) := by decide +kernel
theorem dX5_findBehind_71 : decode cX5_findBehind 71 = .ok (.ifCond .eq 49, 3) := by decide +kernel
theorem dX5_findBehind_74 : decode cX5_findBehind 74 = .ok (.aload_n 0, 1) := by decide +kernel
theorem dX5_findBehind_75 : decode cX5_findBehind 75 = .ok (.getfield 25, 3) := by decide +kernel
theorem dX5_findBehind_78 : decode cX5_findBehind 78 = .ok (.iload 5, 2) := by decide +kernel
theorem dX5_findBehind_80 : decode cX5_findBehind 80 = .ok (.iload 6, 2) := by decide +kernel
theorem dX5_findBehind_82 : decode cX5_findBehind 82 = .ok (.invokevirtual 69, 3) := by decide +kernel
theorem dX5_findBehind_85 : decode cX5_findBehind 85 = .ok (.ifCond .le 35, 3) := by decide +kernel
theorem dX5_findBehind_88 : decode cX5_findBehind 88 = .ok (.iload_n 3, 1) := by decide +kernel
theorem dX5_findBehind_89 : decode cX5_findBehind 89 = .ok (.bipush 24, 2) := by decide +kernel
theorem dX5_findBehind_91 : decode cX5_findBehind 91 = .ok (.if_icmp .ge 29, 3) := by decide +kernel
theorem dX5_findBehind_94 : decode cX5_findBehind 94 = .ok (.aload_n 0, 1) := by decide +kernel
theorem dX5_findBehind_95 : decode cX5_findBehind 95 = .ok (.getfield 15, 3) := by decide +kernel
theorem dX5_findBehind_98 : decode cX5_findBehind 98 = .ok (.iload 6, 2) := by decide +kernel
theorem dX5_findBehind_100 : decode cX5_findBehind 100 = .ok (.aload_n 0, 1) := by decide +kernel
theorem dX5_findBehind_101 : decode cX5_findBehind 101 = .ok (.getfield 15, 3) := by decide +kernel
theorem dX5_findBehind_104 : decode cX5_findBehind 104 = .ok (.iload_n 1, 1) := by decide +kernel
theorem dX5_findBehind_105 : decode cX5_findBehind 105 = .ok (.iaload, 1) := by decide +kernel
theorem dX5_findBehind_106 : decode cX5_findBehind 106 = .ok (.iconst 1, 1) := by decide +kernel
theorem dX5_findBehind_107 : decode cX5_findBehind 107 = .ok (.iadd, 1) := by decide +kernel
theorem dX5_findBehind_108 : decode cX5_findBehind 108 = .ok (.iastore, 1) := by decide +kernel
theorem dX5_findBehind_109 : decode cX5_findBehind 109 = .ok (.aload_n 0, 1) := by decide +kernel
theorem dX5_findBehind_110 : decode cX5_findBehind 110 = .ok (.getfield 18, 3) := by decide +kernel
theorem dX5_findBehind_113 : decode cX5_findBehind 113 = .ok (.iload_n 3, 1) := by decide +kernel
theorem dX5_findBehind_114 : decode cX5_findBehind 114 = .ok (.iload 6, 2) := by decide +kernel
theorem dX5_findBehind_116 : decode cX5_findBehind 116 = .ok (.iastore, 1) := by decide +kernel
theorem dX5_findBehind_117 : decode cX5_findBehind 117 = .ok (.iinc 3 1, 3) := by decide +kernel
theorem dX5_findBehind_120 : decode cX5_findBehind 120 = .ok (.iinc 4 1, 3) := by decide +kernel
theorem dX5_findBehind_123 : decode cX5_findBehind 123 = .ok (.goto (-118), 3) := by decide +kernel
theorem dX5_findBehind_126 : decode cX5_findBehind 126 = .ok (.iload_n 3, 1) := by decide +kernel
theorem dX5_findBehind_127 : decode cX5_findBehind 127 = .ok (.ireturn, 1) := by decide +kernel
theorem dX5_sweepOnce_0 : decode cX5_sweepOnce 0 = .ok (.iconst 0, 1) := by decide +kernel
theorem dX5_sweepOnce_1 : decode cX5_sweepOnce 1 = .ok (.istore_n 1, 1) := by decide +kernel
theorem dX5_sweepOnce_2 : decode cX5_sweepOnce 2 = .ok (.iconst 0, 1) := by decide +kernel
theorem dX5_sweepOnce_3 : decode cX5_sweepOnce 3 = .ok (.istore_n 2, 1) := by decide +kernel
theorem dX5_sweepOnce_4 : decode cX5_sweepOnce 4 = .ok (.iload_n 2, 1) := by decide +kernel
theorem dX5_sweepOnce_5 : decode cX5_sweepOnce 5 = .ok (.aload_n 0, 1) := by decide +kernel
theorem dX5_sweepOnce_6 : decode cX5_sweepOnce 6 = .ok (.getfield 21, 3) := by decide +kernel
theorem dX5_sweepOnce_9 : decode cX5_sweepOnce 9 = .ok (.getfield 50, 3) := by decide +kernel
theorem dX5_sweepOnce_12 : decode cX5_sweepOnce 12 = .ok (.if_icmp .ge 29, 3) := by decide +kernel
theorem dX5_sweepOnce_15 : decode cX5_sweepOnce 15 = .ok (.aload_n 0, 1) := by decide +kernel
theorem dX5_sweepOnce_16 : decode cX5_sweepOnce 16 = .ok (.iload_n 2, 1) := by decide +kernel
theorem dX5_sweepOnce_17 : decode cX5_sweepOnce 17 = .ok (.invokevirtual 74, 3) := by decide +kernel
theorem dX5_sweepOnce_20 : decode cX5_sweepOnce 20 = .ok (.ifCond .eq 15, 3) := by decide +kernel
theorem dX5_sweepOnce_23 : decode cX5_sweepOnce 23 = .ok (.iconst 1, 1) := by decide +kernel
theorem dX5_sweepOnce_24 : decode cX5_sweepOnce 24 = .ok (.istore_n 1, 1) := by decide +kernel
theorem dX5_sweepOnce_25 : decode cX5_sweepOnce 25 = .ok (.aload_n 0, 1) := by decide +kernel
theorem dX5_sweepOnce_26 : decode cX5_sweepOnce 26 = .ok (.iload_n 2, 1) := by decide +kernel
theorem dX5_sweepOnce_27 : decode cX5_sweepOnce 27 = .ok (.invokevirtual 78, 3) := by decide +kernel
theorem dX5_sweepOnce_30 : decode cX5_sweepOnce 30 = .ok (.aload_n 0, 1) := by decide +kernel
theorem dX5_sweepOnce_31 : decode cX5_sweepOnce 31 = .ok (.iload_n 2, 1) := by decide +kernel
theorem dX5_sweepOnce_32 : decode cX5_sweepOnce 32 = .ok (.invokevirtual 82, 3) := by decide +kernel
theorem dX5_sweepOnce_35 : decode cX5_sweepOnce 35 = .ok (.iinc 2 1, 3) := by decide +kernel
theorem dX5_sweepOnce_38 : decode cX5_sweepOnce 38 = .ok (.goto (-34), 3) := by decide +kernel
theorem dX5_sweepOnce_41 : decode cX5_sweepOnce 41 = .ok (.iload_n 1, 1) := by decide +kernel
theorem dX5_sweepOnce_42 : decode cX5_sweepOnce 42 = .ok (.ireturn, 1) := by decide +kernel
theorem dX5_isActive_0 : decode cX5_isActive 0 = .ok (.aload_n 0, 1) := by decide +kernel
theorem dX5_isActive_1 : decode cX5_isActive 1 = .ok (.getfield 9, 3) := by decide +kernel
theorem dX5_isActive_4 : decode cX5_isActive 4 = .ok (.iload_n 1, 1) := by decide +kernel
theorem dX5_isActive_5 : decode cX5_isActive 5 = .ok (.iaload, 1) := by decide +kernel
theorem dX5_isActive_6 : decode cX5_isActive 6 = .ok (.ifCond .le 39, 3) := by decide +kernel
theorem dX5_isActive_9 : decode cX5_isActive 9 = .ok (.iload_n 1, 1) := by decide +kernel
theorem dX5_isActive_10 : decode cX5_isActive 10 = .ok (.aload_n 0, 1) := by decide +kernel
theorem dX5_isActive_11 : decode cX5_isActive 11 = .ok (.getfield 33, 3) := by decide +kernel
theorem dX5_isActive_14 : decode cX5_isActive 14 = .ok (.if_icmp .eq 31, 3) := by decide +kernel
theorem dX5_isActive_17 : decode cX5_isActive 17 = .ok (.iload_n 1, 1) := by decide +kernel
theorem dX5_isActive_18 : decode cX5_isActive 18 = .ok (.aload_n 0, 1) := by decide +kernel
theorem dX5_isActive_19 : decode cX5_isActive 19 = .ok (.getfield 29, 3) := by decide +kernel
theorem dX5_isActive_22 : decode cX5_isActive 22 = .ok (.if_icmp .ne 19, 3) := by decide +kernel
theorem dX5_isActive_25 : decode cX5_isActive 25 = .ok (.aload_n 0, 1) := by decide +kernel
theorem dX5_isActive_26 : decode cX5_isActive 26 = .ok (.getfield 15, 3) := by decide +kernel
theorem dX5_isActive_29 : decode cX5_isActive 29 = .ok (.iload_n 1, 1) := by decide +kernel
theorem dX5_isActive_30 : decode cX5_isActive 30 = .ok (.iaload, 1) := by decide +kernel
theorem dX5_isActive_31 : decode cX5_isActive 31 = .ok (.aload_n 0, 1) := by decide +kernel
theorem dX5_isActive_32 : decode cX5_isActive 32 = .ok (.getfield 21, 3) := by decide +kernel
theorem dX5_isActive_35 : decode cX5_isActive 35 = .ok (.getfield 50, 3) := by decide +kernel
theorem dX5_isActive_38 : decode cX5_isActive 38 = .ok (.if_icmp .ge 7, 3) := by decide +kernel
theorem dX5_isActive_41 : decode cX5_isActive 41 = .ok (.iconst 1, 1) := by decide +kernel
theorem dX5_isActive_42 : decode cX5_isActive 42 = .ok (.goto 4, 3) := by decide +kernel
theorem dX5_isActive_45 : decode cX5_isActive 45 = .ok (.iconst 0, 1) := by decide +kernel
theorem dX5_isActive_46 : decode cX5_isActive 46 = .ok (.ireturn, 1) := by decide +kernel
theorem dX5_pushOut_0 : decode cX5_pushOut 0 = .ok (.iconst 0, 1) := by decide +kernel
theorem dX5_pushOut_1 : decode cX5_pushOut 1 = .ok (.istore_n 2, 1) := by decide +kernel
theorem dX5_pushOut_2 : decode cX5_pushOut 2 = .ok (.iload_n 2, 1) := by decide +kernel
theorem dX5_pushOut_3 : decode cX5_pushOut 3 = .ok (.aload_n 0, 1) := by decide +kernel
theorem dX5_pushOut_4 : decode cX5_pushOut 4 = .ok (.getfield 21, 3) := by decide +kernel
theorem dX5_pushOut_7 : decode cX5_pushOut 7 = .ok (.getfield 59, 3) := by decide +kernel
theorem dX5_pushOut_10 : decode cX5_pushOut 10 = .ok (.iload_n 1, 1) := by decide +kernel
theorem dX5_pushOut_11 : decode cX5_pushOut 11 = .ok (.iaload, 1) := by decide +kernel
theorem dX5_pushOut_12 : decode cX5_pushOut 12 = .ok (.if_icmp .ge 104, 3) := by decide +kernel
theorem dX5_pushOut_15 : decode cX5_pushOut 15 = .ok (.aload_n 0, 1) := by decide +kernel
theorem dX5_pushOut_16 : decode cX5_pushOut 16 = .ok (.getfield 21, 3) := by decide +kernel
theorem dX5_pushOut_19 : decode cX5_pushOut 19 = .ok (.getfield 62, 3) := by decide +kernel
theorem dX5_pushOut_22 : decode cX5_pushOut 22 = .ok (.iload_n 1, 1) := by decide +kernel
theorem dX5_pushOut_23 : decode cX5_pushOut 23 = .ok (.aaload, 1) := by decide +kernel
theorem dX5_pushOut_24 : decode cX5_pushOut 24 = .ok (.iload_n 2, 1) := by decide +kernel
theorem dX5_pushOut_25 : decode cX5_pushOut 25 = .ok (.iaload, 1) := by decide +kernel
theorem dX5_pushOut_26 : decode cX5_pushOut 26 = .ok (.istore_n 3, 1) := by decide +kernel
theorem dX5_pushOut_27 : decode cX5_pushOut 27 = .ok (.aload_n 0, 1) := by decide +kernel
theorem dX5_pushOut_28 : decode cX5_pushOut 28 = .ok (.getfield 21, 3) := by decide +kernel
theorem dX5_pushOut_31 : decode cX5_pushOut 31 = .ok (.iload_n 3, 1) := by decide +kernel
theorem dX5_pushOut_32 : decode cX5_pushOut 32 = .ok (.iload_n 1, 1) := by decide +kernel
theorem dX5_pushOut_33 : decode cX5_pushOut 33 = .ok (.invokevirtual 66, 3) := by decide +kernel
theorem dX5_pushOut_36 : decode cX5_pushOut 36 = .ok (.istore 4, 2) := by decide +kernel
theorem dX5_pushOut_38 : decode cX5_pushOut 38 = .ok (.aload_n 0, 1) := by decide +kernel
theorem dX5_pushOut_39 : decode cX5_pushOut 39 = .ok (.getfield 15, 3) := by decide +kernel
theorem dX5_pushOut_42 : decode cX5_pushOut 42 = .ok (.iload_n 1, 1) := by decide +kernel
theorem dX5_pushOut_43 : decode cX5_pushOut 43 = .ok (.iaload, 1) := by decide +kernel
theorem dX5_pushOut_44 : decode cX5_pushOut 44 = .ok (.aload_n 0, 1) := by decide +kernel
theorem dX5_pushOut_45 : decode cX5_pushOut 45 = .ok (.getfield 15, 3) := by decide +kernel
theorem dX5_pushOut_48 : decode cX5_pushOut 48 = .ok (.iload 4, 2) := by decide +kernel
theorem dX5_pushOut_50 : decode cX5_pushOut 50 = .ok (.iaload, 1) := by decide +kernel
theorem dX5_pushOut_51 : decode cX5_pushOut 51 = .ok (.iconst 1, 1) := by decide +kernel
theorem dX5_pushOut_52 : decode cX5_pushOut 52 = .ok (.iadd, 1) := by decide +kernel
theorem dX5_pushOut_53 : decode cX5_pushOut 53 = .ok (.if_icmp .ne 57, 3) := by decide +kernel
theorem dX5_pushOut_56 : decode cX5_pushOut 56 = .ok (.aload_n 0, 1) := by decide +kernel
theorem dX5_pushOut_57 : decode cX5_pushOut 57 = .ok (.getfield 9, 3) := by decide +kernel
theorem dX5_pushOut_60 : decode cX5_pushOut 60 = .ok (.iload_n 1, 1) := by decide +kernel
theorem dX5_pushOut_61 : decode cX5_pushOut 61 = .ok (.iaload, 1) := by decide +kernel
theorem dX5_pushOut_62 : decode cX5_pushOut 62 = .ok (.aload_n 0, 1) := by decide +kernel
theorem dX5_pushOut_63 : decode cX5_pushOut 63 = .ok (.getfield 25, 3) := by decide +kernel
theorem dX5_pushOut_66 : decode cX5_pushOut 66 = .ok (.iload_n 3, 1) := by decide +kernel
theorem dX5_pushOut_67 : decode cX5_pushOut 67 = .ok (.iload_n 1, 1) := by decide +kernel
theorem dX5_pushOut_68 : decode cX5_pushOut 68 = .ok (.invokevirtual 69, 3) := by decide +kernel
theorem dX5_pushOut_71 : decode cX5_pushOut 71 = .ok (.invokestatic 85, 3) := by decide +kernel
theorem dX5_pushOut_74 : decode cX5_pushOut 74 = .ok (.istore 5, 2) := by decide +kernel
theorem dX5_pushOut_76 : decode cX5_pushOut 76 = .ok (.aload_n 0, 1) := by decide +kernel
theorem dX5_pushOut_77 : decode cX5_pushOut 77 = .ok (.getfield 25, 3) := by decide +kernel
theorem dX5_pushOut_80 : decode cX5_pushOut 80 = .ok (.iload_n 3, 1) := by decide +kernel
theorem dX5_pushOut_81 : decode cX5_pushOut 81 = .ok (.iload_n 1, 1) := by decide +kernel
theorem dX5_pushOut_82 : decode cX5_pushOut 82 = .ok (.iload 5, 2) := by decide +kernel
theorem dX5_pushOut_84 : decode cX5_pushOut 84 = .ok (.invokevirtual 90, 3) := by decide +kernel
theorem dX5_pushOut_87 : decode cX5_pushOut 87 = .ok (.aload_n 0, 1) := by decide +kernel
theorem dX5_pushOut_88 : decode cX5_pushOut 88 = .ok (.getfield 9, 3) := by decide +kernel
theorem dX5_pushOut_91 : decode cX5_pushOut 91 = .ok (.iload_n 1, 1) := by decide +kernel
theorem dX5_pushOut_92 : decode cX5_pushOut 92 = .ok (.dup2, 1) := by decide +kernel
theorem dX5_pushOut_93 : decode cX5_pushOut 93 = .ok (.iaload, 1) := by decide +kernel
theorem dX5_pushOut_94 : decode cX5_pushOut 94 = .ok (.iload 5, 2) := by decide +kernel
theorem dX5_pushOut_96 : decode cX5_pushOut 96 = .ok (.isub, 1) := by decide +kernel
theorem dX5_pushOut_97 : decode cX5_pushOut 97 = .ok (.iastore, 1) := by decide +kernel
theorem dX5_pushOut_98 : decode cX5_pushOut 98 = .ok (.aload_n 0, 1) := by decide +kernel
theorem dX5_pushOut_99 : decode cX5_pushOut 99 = .ok (.getfield 9, 3) := by decide +kernel
theorem dX5_pushOut_102 : decode cX5_pushOut 102 = .ok (.iload 4, 2) := by decide +kernel
theorem dX5_pushOut_104 : decode cX5_pushOut 104 = .ok (.dup2, 1) := by decide +kernel
theorem dX5_pushOut_105 : decode cX5_pushOut 105 = .ok (.iaload, 1) := by decide +kernel
theorem dX5_pushOut_106 : decode cX5_pushOut 106 = .ok (.iload 5, 2) := by decide +kernel
theorem dX5_pushOut_108 : decode cX5_pushOut 108 = .ok (.iadd, 1) := by decide +kernel
theorem dX5_pushOut_109 : decode cX5_pushOut 109 = .ok (.iastore, 1) := by decide +kernel
theorem dX5_pushOut_110 : decode cX5_pushOut 110 = .ok (.iinc 2 1, 3) := by decide +kernel
theorem dX5_pushOut_113 : decode cX5_pushOut 113 = .ok (.goto (-111), 3) := by decide +kernel
theorem dX5_pushOut_116 : decode cX5_pushOut 116 = .ok (.return_, 1) := by decide +kernel
theorem dX5_lift_0 : decode cX5_lift 0 = .ok (.aload_n 0, 1) := by decide +kernel
theorem dX5_lift_1 : decode cX5_lift 1 = .ok (.getfield 9, 3) := by decide +kernel
theorem dX5_lift_4 : decode cX5_lift 4 = .ok (.iload_n 1, 1) := by decide +kernel
theorem dX5_lift_5 : decode cX5_lift 5 = .ok (.iaload, 1) := by decide +kernel
theorem dX5_lift_6 : decode cX5_lift 6 = .ok (.ifCond .ne 4, 3) := by decide +kernel
theorem dX5_lift_9 : decode cX5_lift 9 = .ok (.return_, 1) := by decide +kernel
theorem dX5_lift_10 : decode cX5_lift 10 = .ok (.bipush 48, 2) := by decide +kernel
theorem dX5_lift_12 : decode cX5_lift 12 = .ok (.istore_n 2, 1) := by decide +kernel
theorem dX5_lift_13 : decode cX5_lift 13 = .ok (.iconst 0, 1) := by decide +kernel
theorem dX5_lift_14 : decode cX5_lift 14 = .ok (.istore_n 3, 1) := by decide +kernel
theorem dX5_lift_15 : decode cX5_lift 15 = .ok (.iload_n 3, 1) := by decide +kernel
theorem dX5_lift_16 : decode cX5_lift 16 = .ok (.aload_n 0, 1) := by decide +kernel
theorem dX5_lift_17 : decode cX5_lift 17 = .ok (.getfield 21, 3) := by decide +kernel
theorem dX5_lift_20 : decode cX5_lift 20 = .ok (.getfield 59, 3) := by decide +kernel
theorem dX5_lift_23 : decode cX5_lift 23 = .ok (.iload_n 1, 1) := by decide +kernel
theorem dX5_lift_24 : decode cX5_lift 24 = .ok (.iaload, 1) := by decide +kernel
theorem dX5_lift_25 : decode cX5_lift 25 = .ok (.if_icmp .ge 55, 3) := by decide +kernel
theorem dX5_lift_28 : decode cX5_lift 28 = .ok (.aload_n 0, 1) := by decide +kernel
theorem dX5_lift_29 : decode cX5_lift 29 = .ok (.getfield 21, 3) := by decide +kernel
theorem dX5_lift_32 : decode cX5_lift 32 = .ok (.getfield 62, 3) := by decide +kernel
theorem dX5_lift_35 : decode cX5_lift 35 = .ok (.iload_n 1, 1) := by decide +kernel
theorem dX5_lift_36 : decode cX5_lift 36 = .ok (.aaload, 1) := by decide +kernel
theorem dX5_lift_37 : decode cX5_lift 37 = .ok (.iload_n 3, 1) := by decide +kernel
theorem dX5_lift_38 : decode cX5_lift 38 = .ok (.iaload, 1) := by decide +kernel
theorem dX5_lift_39 : decode cX5_lift 39 = .ok (.istore 4, 2) := by decide +kernel
theorem dX5_lift_41 : decode cX5_lift 41 = .ok (.aload_n 0, 1) := by decide +kernel
theorem dX5_lift_42 : decode cX5_lift 42 = .ok (.getfield 25, 3) := by decide +kernel
theorem dX5_lift_45 : decode cX5_lift 45 = .ok (.iload 4, 2) := by decide +kernel
theorem dX5_lift_47 : decode cX5_lift 47 = .ok (.iload_n 1, 1) := by decide +kernel
theorem dX5_lift_48 : decode cX5_lift 48 = .ok (.invokevirtual 69, 3) := by decide +kernel
theorem dX5_lift_51 : decode cX5_lift 51 = .ok (.ifCond .le 23, 3) := by decide +kernel
theorem dX5_lift_54 : decode cX5_lift 54 = .ok (.iload_n 2, 1) := by decide +kernel
theorem dX5_lift_55 : decode cX5_lift 55 = .ok (.aload_n 0, 1) := by decide +kernel
theorem dX5_lift_56 : decode cX5_lift 56 = .ok (.getfield 15, 3) := by decide +kernel
theorem dX5_lift_59 : decode cX5_lift 59 = .ok (.aload_n 0, 1) := by decide +kernel
theorem dX5_lift_60 : decode cX5_lift 60 = .ok (.getfield 21, 3) := by decide +kernel
theorem dX5_lift_63 : decode cX5_lift 63 = .ok (.iload 4, 2) := by decide +kernel
theorem dX5_lift_65 : decode cX5_lift 65 = .ok (.iload_n 1, 1) := by decide +kernel
theorem dX5_lift_66 : decode cX5_lift 66 = .ok (.invokevirtual 66, 3) := by decide +kernel
theorem dX5_lift_69 : decode cX5_lift 69 = .ok (.iaload, 1) := by decide +kernel
theorem dX5_lift_70 : decode cX5_lift 70 = .ok (.invokestatic 85, 3) := by decide +kernel
theorem dX5_lift_73 : decode cX5_lift 73 = .ok (.istore_n 2, 1) := by decide +kernel
theorem dX5_lift_74 : decode cX5_lift 74 = .ok (.iinc 3 1, 3) := by decide +kernel
theorem dX5_lift_77 : decode cX5_lift 77 = .ok (.goto (-62), 3) := by decide +kernel
theorem dX5_lift_80 : decode cX5_lift 80 = .ok (.aload_n 0, 1) := by decide +kernel
theorem dX5_lift_81 : decode cX5_lift 81 = .ok (.getfield 15, 3) := by decide +kernel
theorem dX5_lift_84 : decode cX5_lift 84 = .ok (.iload_n 1, 1) := by decide +kernel
theorem dX5_lift_85 : decode cX5_lift 85 = .ok (.iload_n 1, 1) := by decide +kernel
theorem dX5_lift_86 : decode cX5_lift 86 = .ok (.aload_n 0, 1) := by decide +kernel
theorem dX5_lift_87 : decode cX5_lift 87 = .ok (.getfield 29, 3) := by decide +kernel
theorem dX5_lift_90 : decode cX5_lift 90 = .ok (.if_icmp .ne 19, 3) := by decide +kernel
theorem dX5_lift_93 : decode cX5_lift 93 = .ok (.iload_n 2, 1) := by decide +kernel
theorem dX5_lift_94 : decode cX5_lift 94 = .ok (.iconst 1, 1) := by decide +kernel
theorem dX5_lift_95 : decode cX5_lift 95 = .ok (.iadd, 1) := by decide +kernel
theorem dX5_lift_96 : decode cX5_lift 96 = .ok (.aload_n 0, 1) := by decide +kernel
theorem dX5_lift_97 : decode cX5_lift 97 = .ok (.getfield 21, 3) := by decide +kernel
theorem dX5_lift_100 : decode cX5_lift 100 = .ok (.getfield 50, 3) := by decide +kernel
theorem dX5_lift_103 : decode cX5_lift 103 = .ok (.invokestatic 85, 3) := by decide +kernel
theorem dX5_lift_106 : decode cX5_lift 106 = .ok (.goto 6, 3) := by decide +kernel
theorem dX5_lift_109 : decode cX5_lift 109 = .ok (.iload_n 2, 1) := by decide +kernel
theorem dX5_lift_110 : decode cX5_lift 110 = .ok (.iconst 1, 1) := by decide +kernel
theorem dX5_lift_111 : decode cX5_lift 111 = .ok (.iadd, 1) := by decide +kernel
theorem dX5_lift_112 : decode cX5_lift 112 = .ok (.iastore, 1) := by decide +kernel
theorem dX5_lift_113 : decode cX5_lift 113 = .ok (.return_, 1) := by decide +kernel
theorem dX6_init_0 : decode cX6_init 0 = .ok (.aload_n 0, 1) := by decide +kernel
theorem dX6_init_1 : decode cX6_init 1 = .ok (.invokespecial 1, 3) := by decide +kernel
theorem dX6_init_4 : decode cX6_init 4 = .ok (.new 7, 3) := by decide +kernel
theorem dX6_init_7 : decode cX6_init 7 = .ok (.dup, 1) := by decide +kernel
theorem dX6_init_8 : decode cX6_init 8 = .ok (.invokespecial 9, 3) := by decide +kernel
theorem dX6_init_11 : decode cX6_init 11 = .ok (.astore_n 1, 1) := by decide +kernel
theorem dX6_init_12 : decode cX6_init 12 = .ok (.aload_n 0, 1) := by decide +kernel
theorem dX6_init_13 : decode cX6_init 13 = .ok (.aload_n 1, 1) := by decide +kernel
theorem dX6_init_14 : decode cX6_init 14 = .ok (.putfield 10, 3) := by decide +kernel
theorem dX6_init_17 : decode cX6_init 17 = .ok (.aload_n 0, 1) := by decide +kernel
theorem dX6_init_18 : decode cX6_init 18 = .ok (.new 16, 3) := by decide +kernel
theorem dX6_init_21 : decode cX6_init 21 = .ok (.dup, 1) := by decide +kernel
theorem dX6_init_22 : decode cX6_init 22 = .ok (.aload_n 1, 1) := by decide +kernel
theorem dX6_init_23 : decode cX6_init 23 = .ok (.invokespecial 18, 3) := by decide +kernel
theorem dX6_init_26 : decode cX6_init 26 = .ok (.putfield 21, 3) := by decide +kernel
theorem dX6_init_29 : decode cX6_init 29 = .ok (.aload_n 0, 1) := by decide +kernel
theorem dX6_init_30 : decode cX6_init 30 = .ok (.new 16, 3) := by decide +kernel
theorem dX6_init_33 : decode cX6_init 33 = .ok (.dup, 1) := by decide +kernel
theorem dX6_init_34 : decode cX6_init 34 = .ok (.aload_n 1, 1) := by decide +kernel
theorem dX6_init_35 : decode cX6_init 35 = .ok (.invokespecial 18, 3) := by decide +kernel
theorem dX6_init_38 : decode cX6_init 38 = .ok (.putfield 25, 3) := by decide +kernel
theorem dX6_init_41 : decode cX6_init 41 = .ok (.aload_n 0, 1) := by decide +kernel
theorem dX6_init_42 : decode cX6_init 42 = .ok (.new 28, 3) := by decide +kernel
theorem dX6_init_45 : decode cX6_init 45 = .ok (.dup, 1) := by decide +kernel
theorem dX6_init_46 : decode cX6_init 46 = .ok (.invokespecial 30, 3) := by decide +kernel
theorem dX6_init_49 : decode cX6_init 49 = .ok (.putfield 31, 3) := by decide +kernel
theorem dX6_init_52 : decode cX6_init 52 = .ok (.aload_n 0, 1) := by decide +kernel
theorem dX6_init_53 : decode cX6_init 53 = .ok (.new 35, 3) := by decide +kernel
theorem dX6_init_56 : decode cX6_init 56 = .ok (.dup, 1) := by decide +kernel
theorem dX6_init_57 : decode cX6_init 57 = .ok (.invokespecial 37, 3) := by decide +kernel
theorem dX6_init_60 : decode cX6_init 60 = .ok (.putfield 38, 3) := by decide +kernel
theorem dX6_init_63 : decode cX6_init 63 = .ok (.return_, 1) := by decide +kernel
theorem dX6_addNode_0 : decode cX6_addNode 0 = .ok (.aload_n 0, 1) := by decide +kernel
theorem dX6_addNode_1 : decode cX6_addNode 1 = .ok (.getfield 10, 3) := by decide +kernel
theorem dX6_addNode_4 : decode cX6_addNode 4 = .ok (.getfield 42, 3) := by decide +kernel
theorem dX6_addNode_7 : decode cX6_addNode 7 = .ok (.bipush 24, 2) := by decide +kernel
theorem dX6_addNode_9 : decode cX6_addNode 9 = .ok (.if_icmp .lt 13, 3) := by decide +kernel
theorem dX6_addNode_12 : decode cX6_addNode 12 = .ok (.new 46, 3) := by decide +kernel
theorem dX6_addNode_15 : decode cX6_addNode 15 = .ok (.dup, 1) := by decide +kernel
theorem dX6_addNode_16 : decode cX6_addNode 16 = .ok (.ldc 48, 2) := by decide +kernel
theorem dX6_addNode_18 : decode cX6_addNode 18 = .ok (.invokespecial 50, 3) := by decide +kernel
theorem dX6_addNode_21 : decode cX6_addNode 21 = .ok (.athrow, 1) := by decide +kernel
theorem dX6_addNode_22 : decode cX6_addNode 22 = .ok (.aload_n 0, 1) := by decide +kernel
theorem dX6_addNode_23 : decode cX6_addNode 23 = .ok (.getfield 10, 3) := by decide +kernel
theorem dX6_addNode_26 : decode cX6_addNode 26 = .ok (.invokevirtual 53, 3) := by decide +kernel
theorem dX6_addNode_29 : decode cX6_addNode 29 = .ok (.ireturn, 1) := by decide +kernel
theorem dX6_addArc_0 : decode cX6_addArc 0 = .ok (.aload_n 0, 1) := by decide +kernel
theorem dX6_addArc_1 : decode cX6_addArc 1 = .ok (.iload_n 1, 1) := by decide +kernel
theorem dX6_addArc_2 : decode cX6_addArc 2 = .ok (.invokevirtual 57, 3) := by decide +kernel
theorem dX6_addArc_5 : decode cX6_addArc 5 = .ok (.aload_n 0, 1) := by decide +kernel
theorem dX6_addArc_6 : decode cX6_addArc 6 = .ok (.iload_n 2, 1) := by decide +kernel
theorem dX6_addArc_7 : decode cX6_addArc 7 = .ok (.invokevirtual 57, 3) := by decide +kernel
theorem dX6_addArc_10 : decode cX6_addArc 10 = .ok (.iload_n 1, 1) := by decide +kernel
theorem dX6_addArc_11 : decode cX6_addArc 11 = .ok (.iload_n 2, 1) := by decide +kernel
theorem dX6_addArc_12 : decode cX6_addArc 12 = .ok (.invokestatic 61, 3) := by decide +kernel
theorem dX6_addArc_15 : decode cX6_addArc 15 = .ok (.iload_n 3, 1) := by decide +kernel
theorem dX6_addArc_16 : decode cX6_addArc 16 = .ok (.invokestatic 65, 3) := by decide +kernel
theorem dX6_addArc_19 : decode cX6_addArc 19 = .ok (.aload_n 0, 1) := by decide +kernel
theorem dX6_addArc_20 : decode cX6_addArc 20 = .ok (.getfield 10, 3) := by decide +kernel
theorem dX6_addArc_23 : decode cX6_addArc 23 = .ok (.getfield 68, 3) := by decide +kernel
theorem dX6_addArc_26 : decode cX6_addArc 26 = .ok (.bipush 80, 2) := by decide +kernel
theorem dX6_addArc_28 : decode cX6_addArc 28 = .ok (.if_icmp .lt 13, 3) := by decide +kernel
theorem dX6_addArc_31 : decode cX6_addArc 31 = .ok (.new 46, 3) := by decide +kernel
theorem dX6_addArc_34 : decode cX6_addArc 34 = .ok (.dup, 1) := by decide +kernel
theorem dX6_addArc_35 : decode cX6_addArc 35 = .ok (.ldc 71, 2) := by decide +kernel
theorem dX6_addArc_37 : decode cX6_addArc 37 = .ok (.invokespecial 50, 3) := by decide +kernel
theorem dX6_addArc_40 : decode cX6_addArc 40 = .ok (.athrow, 1) := by decide +kernel
theorem dX6_addArc_41 : decode cX6_addArc 41 = .ok (.aload_n 0, 1) := by decide +kernel
theorem dX6_addArc_42 : decode cX6_addArc 42 = .ok (.getfield 10, 3) := by decide +kernel
theorem dX6_addArc_45 : decode cX6_addArc 45 = .ok (.iload_n 1, 1) := by decide +kernel
theorem dX6_addArc_46 : decode cX6_addArc 46 = .ok (.iload_n 2, 1) := by decide +kernel
theorem dX6_addArc_47 : decode cX6_addArc 47 = .ok (.invokevirtual 73, 3) := by decide +kernel
theorem dX6_addArc_50 : decode cX6_addArc 50 = .ok (.istore 4, 2) := by decide +kernel
theorem dX6_addArc_52 : decode cX6_addArc 52 = .ok (.aload_n 0, 1) := by decide +kernel
theorem dX6_addArc_53 : decode cX6_addArc 53 = .ok (.getfield 21, 3) := by decide +kernel
theorem dX6_addArc_56 : decode cX6_addArc 56 = .ok (.iload 4, 2) := by decide +kernel
theorem dX6_addArc_58 : decode cX6_addArc 58 = .ok (.iload_n 3, 1) := by decide +kernel
theorem dX6_addArc_59 : decode cX6_addArc 59 = .ok (.invokevirtual 77, 3) := by decide +kernel
theorem dX6_addArc_62 : decode cX6_addArc 62 = .ok (.iload 4, 2) := by decide +kernel
theorem dX6_addArc_64 : decode cX6_addArc 64 = .ok (.ireturn, 1) := by decide +kernel
theorem dX6_setCapacity_0 : decode cX6_setCapacity 0 = .ok (.aload_n 0, 1) := by decide +kernel
theorem dX6_setCapacity_1 : decode cX6_setCapacity 1 = .ok (.iload_n 1, 1) := by decide +kernel
theorem dX6_setCapacity_2 : decode cX6_setCapacity 2 = .ok (.invokevirtual 80, 3) := by decide +kernel
theorem dX6_setCapacity_5 : decode cX6_setCapacity 5 = .ok (.iload_n 2, 1) := by decide +kernel
theorem dX6_setCapacity_6 : decode cX6_setCapacity 6 = .ok (.invokestatic 65, 3) := by decide +kernel
theorem dX6_setCapacity_9 : decode cX6_setCapacity 9 = .ok (.aload_n 0, 1) := by decide +kernel
theorem dX6_setCapacity_10 : decode cX6_setCapacity 10 = .ok (.getfield 21, 3) := by decide +kernel
theorem dX6_setCapacity_13 : decode cX6_setCapacity 13 = .ok (.getfield 83, 3) := by decide +kernel
theorem dX6_setCapacity_16 : decode cX6_setCapacity 16 = .ok (.getfield 87, 3) := by decide +kernel
theorem dX6_setCapacity_19 : decode cX6_setCapacity 19 = .ok (.iload_n 1, 1) := by decide +kernel
theorem dX6_setCapacity_20 : decode cX6_setCapacity 20 = .ok (.iaload, 1) := by decide +kernel
theorem dX6_setCapacity_21 : decode cX6_setCapacity 21 = .ok (.istore_n 3, 1) := by decide +kernel
theorem dX6_setCapacity_22 : decode cX6_setCapacity 22 = .ok (.aload_n 0, 1) := by decide +kernel
theorem dX6_setCapacity_23 : decode cX6_setCapacity 23 = .ok (.getfield 21, 3) := by decide +kernel
theorem dX6_setCapacity_26 : decode cX6_setCapacity 26 = .ok (.iload_n 1, 1) := by decide +kernel
theorem dX6_setCapacity_27 : decode cX6_setCapacity 27 = .ok (.iload_n 2, 1) := by decide +kernel
theorem dX6_setCapacity_28 : decode cX6_setCapacity 28 = .ok (.invokevirtual 77, 3) := by decide +kernel
theorem dX6_setCapacity_31 : decode cX6_setCapacity 31 = .ok (.iload_n 3, 1) := by decide +kernel
theorem dX6_setCapacity_32 : decode cX6_setCapacity 32 = .ok (.ireturn, 1) := by decide +kernel
theorem dX6_scale_0 : decode cX6_scale 0 = .ok (.aload_n 0, 1) := by decide +kernel
theorem dX6_scale_1 : decode cX6_scale 1 = .ok (.iload_n 1, 1) := by decide +kernel
theorem dX6_scale_2 : decode cX6_scale 2 = .ok (.invokevirtual 57, 3) := by decide +kernel
theorem dX6_scale_5 : decode cX6_scale 5 = .ok (.dload_n 2, 1) := by decide +kernel
theorem dX6_scale_6 : decode cX6_scale 6 = .ok (.invokestatic 93, 3) := by decide +kernel
theorem dX6_scale_9 : decode cX6_scale 9 = .ok (.iconst 0, 1) := by decide +kernel
theorem dX6_scale_10 : decode cX6_scale 10 = .ok (.istore 4, 2) := by decide +kernel
theorem dX6_scale_12 : decode cX6_scale 12 = .ok (.iconst 0, 1) := by decide +kernel
theorem dX6_scale_13 : decode cX6_scale 13 = .ok (.istore 5, 2) := by decide +kernel
theorem dX6_scale_15 : decode cX6_scale 15 = .ok (.iload 5, 2) := by decide +kernel
theorem dX6_scale_17 : decode cX6_scale 17 = .ok (.aload_n 0, 1) := by decide +kernel
theorem dX6_scale_18 : decode cX6_scale 18 = .ok (.getfield 10, 3) := by decide +kernel
theorem dX6_scale_21 : decode cX6_scale 21 = .ok (.getfield 68, 3) := by decide +kernel
theorem dX6_scale_24 : decode cX6_scale 24 = .ok (.if_icmp .ge 67, 3) := by decide +kernel
theorem dX6_scale_27 : decode cX6_scale 27 = .ok (.aload_n 0, 1) := by decide +kernel
theorem dX6_scale_28 : decode cX6_scale 28 = .ok (.getfield 21, 3) := by decide +kernel
theorem dX6_scale_31 : decode cX6_scale 31 = .ok (.getfield 83, 3) := by decide +kernel
theorem dX6_scale_34 : decode cX6_scale 34 = .ok (.getfield 87, 3) := by decide +kernel
theorem dX6_scale_37 : decode cX6_scale 37 = .ok (.iload 5, 2) := by decide +kernel
theorem dX6_scale_39 : decode cX6_scale 39 = .ok (.iaload, 1) := by decide +kernel
theorem dX6_scale_40 : decode cX6_scale 40 = .ok (.istore 6, 2) := by decide +kernel
theorem dX6_scale_42 : decode cX6_scale 42 = .ok (.iload 6, 2) := by decide +kernel
theorem dX6_scale_44 : decode cX6_scale 44 = .ok (.dload_n 2, 1) := by decide +kernel
theorem dX6_scale_45 : decode cX6_scale 45 = .ok (.invokestatic 97, 3) := by decide +kernel
theorem dX6_scale_48 : decode cX6_scale 48 = .ok (.istore 7, 2) := by decide +kernel
theorem dX6_scale_50 : decode cX6_scale 50 = .ok (.aload_n 0, 1) := by decide +kernel
theorem dX6_scale_51 : decode cX6_scale 51 = .ok (.getfield 10, 3) := by decide +kernel
theorem dX6_scale_54 : decode cX6_scale 54 = .ok (.getfield 101, 3) := by decide +kernel
theorem dX6_scale_57 : decode cX6_scale 57 = .ok (.iload 5, 2) := by decide +kernel
theorem dX6_scale_59 : decode cX6_scale 59 = .ok (.iaload, 1) := by decide +kernel
theorem dX6_scale_60 : decode cX6_scale 60 = .ok (.iload_n 1, 1) := by decide +kernel
theorem dX6_scale_61 : decode cX6_scale 61 = .ok (.if_icmp .ne 24, 3) := by decide +kernel
theorem dX6_scale_64 : decode cX6_scale 64 = .ok (.iload 7, 2) := by decide +kernel
theorem dX6_scale_66 : decode cX6_scale 66 = .ok (.iload 6, 2) := by decide +kernel
theorem dX6_scale_68 : decode cX6_scale 68 = .ok (.if_icmp .eq 17, 3) := by decide +kernel
theorem dX6_scale_71 : decode cX6_scale 71 = .ok (.aload_n 0, 1) := by decide +kernel
theorem dX6_scale_72 : decode cX6_scale 72 = .ok (.getfield 21, 3) := by decide +kernel
theorem dX6_scale_75 : decode cX6_scale 75 = .ok (.iload 5, 2) := by decide +kernel
theorem dX6_scale_77 : decode cX6_scale 77 = .ok (.iload 7, 2) := by decide +kernel
theorem dX6_scale_79 : decode cX6_scale 79 = .ok (.invokevirtual 77, 3) := by decide +kernel
theorem dX6_scale_82 : decode cX6_scale 82 = .ok (.iinc 4 1, 3) := by decide +kernel
theorem dX6_scale_85 : decode cX6_scale 85 = .ok (.iinc 5 1, 3) := by decide +kernel
theorem dX6_scale_88 : decode cX6_scale 88 = .ok (.goto (-73), 3) := by decide +kernel
theorem dX6_scale_91 : decode cX6_scale 91 = .ok (.iload 4, 2) := by decide +kernel
theorem dX6_scale_93 : decode cX6_scale 93 = .ok (.ireturn, 1) := by decide +kernel
theorem dX6_setEnds_0 : decode cX6_setEnds 0 = .ok (.aload_n 0, 1) := by decide +kernel
theorem dX6_setEnds_1 : decode cX6_setEnds 1 = .ok (.iload_n 1, 1) := by decide +kernel
theorem dX6_setEnds_2 : decode cX6_setEnds 2 = .ok (.invokevirtual 57, 3) := by decide +kernel
theorem dX6_setEnds_5 : decode cX6_setEnds 5 = .ok (.aload_n 0, 1) := by decide +kernel
theorem dX6_setEnds_6 : decode cX6_setEnds 6 = .ok (.iload_n 2, 1) := by decide +kernel
theorem dX6_setEnds_7 : decode cX6_setEnds 7 = .ok (.invokevirtual 57, 3) := by decide +kernel
theorem dX6_setEnds_10 : decode cX6_setEnds 10 = .ok (.iload_n 1, 1) := by decide +kernel
theorem dX6_setEnds_11 : decode cX6_setEnds 11 = .ok (.iload_n 2, 1) := by decide +kernel
theorem dX6_setEnds_12 : decode cX6_setEnds 12 = .ok (.invokestatic 61, 3) := by decide +kernel
theorem dX6_setEnds_15 : decode cX6_setEnds 15 = .ok (.aload_n 0, 1) := by decide +kernel
theorem dX6_setEnds_16 : decode cX6_setEnds 16 = .ok (.getfield 21, 3) := by decide +kernel
theorem dX6_setEnds_19 : decode cX6_setEnds 19 = .ok (.iload_n 1, 1) := by decide +kernel
theorem dX6_setEnds_20 : decode cX6_setEnds 20 = .ok (.iload_n 2, 1) := by decide +kernel
theorem dX6_setEnds_21 : decode cX6_setEnds 21 = .ok (.invokevirtual 104, 3) := by decide +kernel
theorem dX6_setEnds_24 : decode cX6_setEnds 24 = .ok (.ireturn, 1) := by decide +kernel
theorem dX6_maximum_0 : decode cX6_maximum 0 = .ok (.aload_n 0, 1) := by decide +kernel
theorem dX6_maximum_1 : decode cX6_maximum 1 = .ok (.invokevirtual 108, 3) := by decide +kernel
theorem dX6_maximum_4 : decode cX6_maximum 4 = .ok (.aload_n 0, 1) := by decide +kernel
theorem dX6_maximum_5 : decode cX6_maximum 5 = .ok (.getfield 21, 3) := by decide +kernel
theorem dX6_maximum_8 : decode cX6_maximum 8 = .ok (.invokevirtual 111, 3) := by decide +kernel
theorem dX6_maximum_11 : decode cX6_maximum 11 = .ok (.ireturn, 1) := by decide +kernel
theorem dX6_maximumWith_0 : decode cX6_maximumWith 0 = .ok (.aload_n 0, 1) := by decide +kernel
theorem dX6_maximumWith_1 : decode cX6_maximumWith 1 = .ok (.invokevirtual 108, 3) := by decide +kernel
theorem dX6_maximumWith_4 : decode cX6_maximumWith 4 = .ok (.aload_n 0, 1) := by decide +kernel
theorem dX6_maximumWith_5 : decode cX6_maximumWith 5 = .ok (.iload_n 1, 1) := by decide +kernel
theorem dX6_maximumWith_6 : decode cX6_maximumWith 6 = .ok (.invokevirtual 80, 3) := by decide +kernel
theorem dX6_maximumWith_9 : decode cX6_maximumWith 9 = .ok (.iload_n 2, 1) := by decide +kernel
theorem dX6_maximumWith_10 : decode cX6_maximumWith 10 = .ok (.invokestatic 65, 3) := by decide +kernel
theorem dX6_maximumWith_13 : decode cX6_maximumWith 13 = .ok (.aload_n 0, 1) := by decide +kernel
theorem dX6_maximumWith_14 : decode cX6_maximumWith 14 = .ok (.getfield 25, 3) := by decide +kernel
theorem dX6_maximumWith_17 : decode cX6_maximumWith 17 = .ok (.aload_n 0, 1) := by decide +kernel
theorem dX6_maximumWith_18 : decode cX6_maximumWith 18 = .ok (.getfield 21, 3) := by decide +kernel
theorem dX6_maximumWith_21 : decode cX6_maximumWith 21 = .ok (.invokevirtual 114, 3) := by decide +kernel
theorem dX6_maximumWith_24 : decode cX6_maximumWith 24 = .ok (.aload_n 0, 1) := by decide +kernel
theorem dX6_maximumWith_25 : decode cX6_maximumWith 25 = .ok (.getfield 25, 3) := by decide +kernel
theorem dX6_maximumWith_28 : decode cX6_maximumWith 28 = .ok (.iload_n 1, 1) := by decide +kernel
theorem dX6_maximumWith_29 : decode cX6_maximumWith 29 = .ok (.iload_n 2, 1) := by decide +kernel
theorem dX6_maximumWith_30 : decode cX6_maximumWith 30 = .ok (.invokevirtual 77, 3) := by decide +kernel
theorem dX6_maximumWith_33 : decode cX6_maximumWith 33 = .ok (.aload_n 0, 1) := by decide +kernel
theorem dX6_maximumWith_34 : decode cX6_maximumWith 34 = .ok (.getfield 25, 3) := by decide +kernel
theorem dX6_maximumWith_37 : decode cX6_maximumWith 37 = .ok (.invokevirtual 111, 3) := by decide +kernel
theorem dX6_maximumWith_40 : decode cX6_maximumWith 40 = .ok (.ireturn, 1) := by decide +kernel
theorem dX6_maximumBetween_0 : decode cX6_maximumBetween 0 = .ok (.aload_n 0, 1) := by decide +kernel
theorem dX6_maximumBetween_1 : decode cX6_maximumBetween 1 = .ok (.iload_n 1, 1) := by decide +kernel
theorem dX6_maximumBetween_2 : decode cX6_maximumBetween 2 = .ok (.invokevirtual 57, 3) := by decide +kernel
theorem dX6_maximumBetween_5 : decode cX6_maximumBetween 5 = .ok (.aload_n 0, 1) := by decide +kernel
theorem dX6_maximumBetween_6 : decode cX6_maximumBetween 6 = .ok (.iload_n 2, 1) := by decide +kernel
theorem dX6_maximumBetween_7 : decode cX6_maximumBetween 7 = .ok (.invokevirtual 57, 3) := by decide +kernel
theorem dX6_maximumBetween_10 : decode cX6_maximumBetween 10 = .ok (.iload_n 1, 1) := by decide +kernel
theorem dX6_maximumBetween_11 : decode cX6_maximumBetween 11 = .ok (.iload_n 2, 1) := by decide +kernel
theorem dX6_maximumBetween_12 : decode cX6_maximumBetween 12 = .ok (.invokestatic 61, 3) := by decide +kernel
theorem dX6_maximumBetween_15 : decode cX6_maximumBetween 15 = .ok (.aload_n 0, 1) := by decide +kernel
theorem dX6_maximumBetween_16 : decode cX6_maximumBetween 16 = .ok (.getfield 25, 3) := by decide +kernel
theorem dX6_maximumBetween_19 : decode cX6_maximumBetween 19 = .ok (.aload_n 0, 1) := by decide +kernel
theorem dX6_maximumBetween_20 : decode cX6_maximumBetween 20 = .ok (.getfield 21, 3) := by decide +kernel
theorem dX6_maximumBetween_23 : decode cX6_maximumBetween 23 = .ok (.invokevirtual 114, 3) := by decide +kernel
theorem dX6_maximumBetween_26 : decode cX6_maximumBetween 26 = .ok (.aload_n 0, 1) := by decide +kernel
theorem dX6_maximumBetween_27 : decode cX6_maximumBetween 27 = .ok (.getfield 25, 3) := by decide +kernel
theorem dX6_maximumBetween_30 : decode cX6_maximumBetween 30 = .ok (.iload_n 1, 1) := by decide +kernel
theorem dX6_maximumBetween_31 : decode cX6_maximumBetween 31 = .ok (.iload_n 2, 1) := by decide +kernel
theorem dX6_maximumBetween_32 : decode cX6_maximumBetween 32 = .ok (.invokevirtual 104, 3) := by decide +kernel
theorem dX6_maximumBetween_35 : decode cX6_maximumBetween 35 = .ok (.pop, 1) := by decide +kernel
theorem dX6_maximumBetween_36 : decode cX6_maximumBetween 36 = .ok (.aload_n 0, 1) := by decide +kernel
theorem dX6_maximumBetween_37 : decode cX6_maximumBetween 37 = .ok (.getfield 25, 3) := by decide +kernel
theorem dX6_maximumBetween_40 : decode cX6_maximumBetween 40 = .ok (.invokevirtual 111, 3) := by decide +kernel
theorem dX6_maximumBetween_43 : decode cX6_maximumBetween 43 = .ok (.ireturn, 1) := by decide +kernel
theorem dX6_leastFlow_0 : decode cX6_leastFlow 0 = .ok (.aload_n 0, 1) := by decide +kernel
theorem dX6_leastFlow_1 : decode cX6_leastFlow 1 = .ok (.invokevirtual 108, 3) := by decide +kernel
theorem dX6_leastFlow_4 : decode cX6_leastFlow 4 = .ok (.aload_n 0, 1) := by decide +kernel
theorem dX6_leastFlow_5 : decode cX6_leastFlow 5 = .ok (.iload_n 1, 1) := by decide +kernel
theorem dX6_leastFlow_6 : decode cX6_leastFlow 6 = .ok (.invokevirtual 80, 3) := by decide +kernel
theorem dX6_leastFlow_9 : decode cX6_leastFlow 9 = .ok (.aload_n 0, 1) := by decide +kernel
theorem dX6_leastFlow_10 : decode cX6_leastFlow 10 = .ok (.getfield 21, 3) := by decide +kernel
theorem dX6_leastFlow_13 : decode cX6_leastFlow 13 = .ok (.invokevirtual 128, 3) := by decide +kernel
theorem dX6_leastFlow_16 : decode cX6_leastFlow 16 = .ok (.aload_n 0, 1) := by decide +kernel
theorem dX6_leastFlow_17 : decode cX6_leastFlow 17 = .ok (.getfield 10, 3) := by decide +kernel
theorem dX6_leastFlow_20 : decode cX6_leastFlow 20 = .ok (.getfield 101, 3) := by decide +kernel
theorem dX6_leastFlow_23 : decode cX6_leastFlow 23 = .ok (.iload_n 1, 1) := by decide +kernel
theorem dX6_leastFlow_24 : decode cX6_leastFlow 24 = .ok (.iaload, 1) := by decide +kernel
theorem dX6_leastFlow_25 : decode cX6_leastFlow 25 = .ok (.istore_n 2, 1) := by decide +kernel
theorem dX6_leastFlow_26 : decode cX6_leastFlow 26 = .ok (.aload_n 0, 1) := by decide +kernel
theorem dX6_leastFlow_27 : decode cX6_leastFlow 27 = .ok (.getfield 21, 3) := by decide +kernel
theorem dX6_leastFlow_30 : decode cX6_leastFlow 30 = .ok (.getfield 83, 3) := by decide +kernel
theorem dX6_leastFlow_33 : decode cX6_leastFlow 33 = .ok (.getfield 131, 3) := by decide +kernel
theorem dX6_leastFlow_36 : decode cX6_leastFlow 36 = .ok (.iload_n 1, 1) := by decide +kernel
theorem dX6_leastFlow_37 : decode cX6_leastFlow 37 = .ok (.iaload, 1) := by decide +kernel
theorem dX6_leastFlow_38 : decode cX6_leastFlow 38 = .ok (.istore_n 3, 1) := by decide +kernel
theorem dX6_leastFlow_39 : decode cX6_leastFlow 39 = .ok (.iload_n 3, 1) := by decide +kernel
theorem dX6_leastFlow_40 : decode cX6_leastFlow 40 = .ok (.aload_n 0, 1) := by decide +kernel
theorem dX6_leastFlow_41 : decode cX6_leastFlow 41 = .ok (.iload_n 1, 1) := by decide +kernel
theorem dX6_leastFlow_42 : decode cX6_leastFlow 42 = .ok (.iload_n 2, 1) := by decide +kernel
theorem dX6_leastFlow_43 : decode cX6_leastFlow 43 = .ok (.iload_n 3, 1) := by decide +kernel
theorem dX6_leastFlow_44 : decode cX6_leastFlow 44 = .ok (.invokevirtual 134, 3) := by decide +kernel
theorem dX6_leastFlow_47 : decode cX6_leastFlow 47 = .ok (.isub, 1) := by decide +kernel
theorem dX6_leastFlow_48 : decode cX6_leastFlow 48 = .ok (.ireturn, 1) := by decide +kernel
theorem dX6_greatestFlow_0 : decode cX6_greatestFlow 0 = .ok (.aload_n 0, 1) := by decide +kernel
theorem dX6_greatestFlow_1 : decode cX6_greatestFlow 1 = .ok (.invokevirtual 108, 3) := by decide +kernel
theorem dX6_greatestFlow_4 : decode cX6_greatestFlow 4 = .ok (.aload_n 0, 1) := by decide +kernel
theorem dX6_greatestFlow_5 : decode cX6_greatestFlow 5 = .ok (.iload_n 1, 1) := by decide +kernel
theorem dX6_greatestFlow_6 : decode cX6_greatestFlow 6 = .ok (.invokevirtual 80, 3) := by decide +kernel
theorem dX6_greatestFlow_9 : decode cX6_greatestFlow 9 = .ok (.aload_n 0, 1) := by decide +kernel
theorem dX6_greatestFlow_10 : decode cX6_greatestFlow 10 = .ok (.getfield 21, 3) := by decide +kernel
theorem dX6_greatestFlow_13 : decode cX6_greatestFlow 13 = .ok (.invokevirtual 128, 3) := by decide +kernel
theorem dX6_greatestFlow_16 : decode cX6_greatestFlow 16 = .ok (.aload_n 0, 1) := by decide +kernel
theorem dX6_greatestFlow_17 : decode cX6_greatestFlow 17 = .ok (.getfield 10, 3) := by decide +kernel
theorem dX6_greatestFlow_20 : decode cX6_greatestFlow 20 = .ok (.getfield 101, 3) := by decide +kernel
theorem dX6_greatestFlow_23 : decode cX6_greatestFlow 23 = .ok (.iload_n 1, 1) := by decide +kernel
theorem dX6_greatestFlow_24 : decode cX6_greatestFlow 24 = .ok (.iaload, 1) := by decide +kernel
theorem dX6_greatestFlow_25 : decode cX6_greatestFlow 25 = .ok (.istore_n 2, 1) := by decide +kernel
theorem dX6_greatestFlow_26 : decode cX6_greatestFlow 26 = .ok (.aload_n 0, 1) := by decide +kernel
theorem dX6_greatestFlow_27 : decode cX6_greatestFlow 27 = .ok (.getfield 10, 3) := by decide +kernel
theorem dX6_greatestFlow_30 : decode cX6_greatestFlow 30 = .ok (.getfield 118, 3) := by decide +kernel
theorem dX6_greatestFlow_33 : decode cX6_greatestFlow 33 = .ok (.iload_n 1, 1) := by decide +kernel
theorem dX6_greatestFlow_34 : decode cX6_greatestFlow 34 = .ok (.iaload, 1) := by decide +kernel
theorem dX6_greatestFlow_35 : decode cX6_greatestFlow 35 = .ok (.istore_n 3, 1) := by decide +kernel
theorem dX6_greatestFlow_36 : decode cX6_greatestFlow 36 = .ok (.aload_n 0, 1) := by decide +kernel
theorem dX6_greatestFlow_37 : decode cX6_greatestFlow 37 = .ok (.getfield 21, 3) := by decide +kernel
theorem dX6_greatestFlow_40 : decode cX6_greatestFlow 40 = .ok (.getfield 83, 3) := by decide +kernel
theorem dX6_greatestFlow_43 : decode cX6_greatestFlow 43 = .ok (.getfield 131, 3) := by decide +kernel
theorem dX6_greatestFlow_46 : decode cX6_greatestFlow 46 = .ok (.iload_n 1, 1) := by decide +kernel
theorem dX6_greatestFlow_47 : decode cX6_greatestFlow 47 = .ok (.iaload, 1) := by decide +kernel
theorem dX6_greatestFlow_48 : decode cX6_greatestFlow 48 = .ok (.aload_n 0, 1) := by decide +kernel
theorem dX6_greatestFlow_49 : decode cX6_greatestFlow 49 = .ok (.iload_n 1, 1) := by decide +kernel
theorem dX6_greatestFlow_50 : decode cX6_greatestFlow 50 = .ok (.iload_n 3, 1) := by decide +kernel
theorem dX6_greatestFlow_51 : decode cX6_greatestFlow 51 = .ok (.aload_n 0, 1) := by decide +kernel
theorem dX6_greatestFlow_52 : decode cX6_greatestFlow 52 = .ok (.getfield 21, 3) := by decide +kernel
theorem dX6_greatestFlow_55 : decode cX6_greatestFlow 55 = .ok (.getfield 83, 3) := by decide +kernel
theorem dX6_greatestFlow_58 : decode cX6_greatestFlow 58 = .ok (.iload_n 1, 1) := by decide +kernel
theorem dX6_greatestFlow_59 : decode cX6_greatestFlow 59 = .ok (.iload_n 2, 1) := by decide +kernel
theorem dX6_greatestFlow_60 : decode cX6_greatestFlow 60 = .ok (.invokevirtual 138, 3) := by decide +kernel
theorem dX6_greatestFlow_63 : decode cX6_greatestFlow 63 = .ok (.invokevirtual 134, 3) := by decide +kernel
theorem dX6_greatestFlow_66 : decode cX6_greatestFlow 66 = .ok (.iadd, 1) := by decide +kernel
theorem dX6_greatestFlow_67 : decode cX6_greatestFlow 67 = .ok (.ireturn, 1) := by decide +kernel
theorem dX6_cutCapacity_0 : decode cX6_cutCapacity 0 = .ok (.aload_n 0, 1) := by decide +kernel
theorem dX6_cutCapacity_1 : decode cX6_cutCapacity 1 = .ok (.invokevirtual 108, 3) := by decide +kernel
theorem dX6_cutCapacity_4 : decode cX6_cutCapacity 4 = .ok (.aload_n 0, 1) := by decide +kernel
theorem dX6_cutCapacity_5 : decode cX6_cutCapacity 5 = .ok (.iload_n 1, 1) := by decide +kernel
theorem dX6_cutCapacity_6 : decode cX6_cutCapacity 6 = .ok (.invokevirtual 141, 3) := by decide +kernel
theorem dX6_cutCapacity_9 : decode cX6_cutCapacity 9 = .ok (.ifCond .ne 13, 3) := by decide +kernel
theorem dX6_cutCapacity_12 : decode cX6_cutCapacity 12 = .ok (.new 145, 3) := by decide +kernel
theorem dX6_cutCapacity_15 : decode cX6_cutCapacity 15 = .ok (.dup, 1) := by decide +kernel
theorem dX6_cutCapacity_16 : decode cX6_cutCapacity 16 = .ok (.ldc 147, 2) := by decide +kernel
theorem dX6_cutCapacity_18 : decode cX6_cutCapacity 18 = .ok (.invokespecial 149, 3) := by decide +kernel
theorem dX6_cutCapacity_21 : decode cX6_cutCapacity 21 = .ok (.athrow, 1) := by decide +kernel
theorem dX6_cutCapacity_22 : decode cX6_cutCapacity 22 = .ok (.aload_n 0, 1) := by decide +kernel
theorem dX6_cutCapacity_23 : decode cX6_cutCapacity 23 = .ok (.getfield 21, 3) := by decide +kernel
theorem dX6_cutCapacity_26 : decode cX6_cutCapacity 26 = .ok (.getfield 83, 3) := by decide +kernel
theorem dX6_cutCapacity_29 : decode cX6_cutCapacity 29 = .ok (.iload_n 1, 1) := by decide +kernel
theorem dX6_cutCapacity_30 : decode cX6_cutCapacity 30 = .ok (.invokevirtual 124, 3) := by decide +kernel
theorem dX6_cutCapacity_33 : decode cX6_cutCapacity 33 = .ok (.ireturn, 1) := by decide +kernel
theorem dX6_smallestCut_0 : decode cX6_smallestCut 0 = .ok (.aload_n 0, 1) := by decide +kernel
theorem dX6_smallestCut_1 : decode cX6_smallestCut 1 = .ok (.invokevirtual 108, 3) := by decide +kernel
theorem dX6_smallestCut_4 : decode cX6_smallestCut 4 = .ok (.aload_n 0, 1) := by decide +kernel
theorem dX6_smallestCut_5 : decode cX6_smallestCut 5 = .ok (.getfield 21, 3) := by decide +kernel
theorem dX6_smallestCut_8 : decode cX6_smallestCut 8 = .ok (.invokevirtual 150, 3) := by decide +kernel
theorem dX6_smallestCut_11 : decode cX6_smallestCut 11 = .ok (.ireturn, 1) := by decide +kernel
theorem dX6_greatestCut_0 : decode cX6_greatestCut 0 = .ok (.aload_n 0, 1) := by decide +kernel
theorem dX6_greatestCut_1 : decode cX6_greatestCut 1 = .ok (.invokevirtual 108, 3) := by decide +kernel
theorem dX6_greatestCut_4 : decode cX6_greatestCut 4 = .ok (.aload_n 0, 1) := by decide +kernel
theorem dX6_greatestCut_5 : decode cX6_greatestCut 5 = .ok (.getfield 21, 3) := by decide +kernel
theorem dX6_greatestCut_8 : decode cX6_greatestCut 8 = .ok (.invokevirtual 153, 3) := by decide +kernel
theorem dX6_greatestCut_11 : decode cX6_greatestCut 11 = .ok (.ireturn, 1) := by decide +kernel
theorem dX6_requireEnds_0 : decode cX6_requireEnds 0 = .ok (.aload_n 0, 1) := by decide +kernel
theorem dX6_requireEnds_1 : decode cX6_requireEnds 1 = .ok (.getfield 21, 3) := by decide +kernel
theorem dX6_requireEnds_4 : decode cX6_requireEnds 4 = .ok (.invokevirtual 199, 3) := by decide +kernel
theorem dX6_requireEnds_7 : decode cX6_requireEnds 7 = .ok (.ifCond .ne 13, 3) := by decide +kernel
theorem dX6_requireEnds_10 : decode cX6_requireEnds 10 = .ok (.new 46, 3) := by decide +kernel
theorem dX6_requireEnds_13 : decode cX6_requireEnds 13 = .ok (.dup, 1) := by decide +kernel
theorem dX6_requireEnds_14 : decode cX6_requireEnds 14 = .ok (.ldc 203, 2) := by decide +kernel
theorem dX6_requireEnds_16 : decode cX6_requireEnds 16 = .ok (.invokespecial 50, 3) := by decide +kernel
theorem dX6_requireEnds_19 : decode cX6_requireEnds 19 = .ok (.athrow, 1) := by decide +kernel
theorem dX6_requireEnds_20 : decode cX6_requireEnds 20 = .ok (.return_, 1) := by decide +kernel
theorem dX6_requireNode_0 : decode cX6_requireNode 0 = .ok (.iload_n 1, 1) := by decide +kernel
theorem dX6_requireNode_1 : decode cX6_requireNode 1 = .ok (.ifCond .lt 14, 3) := by decide +kernel
theorem dX6_requireNode_4 : decode cX6_requireNode 4 = .ok (.iload_n 1, 1) := by decide +kernel
theorem dX6_requireNode_5 : decode cX6_requireNode 5 = .ok (.aload_n 0, 1) := by decide +kernel
theorem dX6_requireNode_6 : decode cX6_requireNode 6 = .ok (.getfield 10, 3) := by decide +kernel
theorem dX6_requireNode_9 : decode cX6_requireNode 9 = .ok (.getfield 42, 3) := by decide +kernel
theorem dX6_requireNode_12 : decode cX6_requireNode 12 = .ok (.if_icmp .lt 13, 3) := by decide +kernel
theorem dX6_requireNode_15 : decode cX6_requireNode 15 = .ok (.new 162, 3) := by decide +kernel
theorem dX6_requireNode_18 : decode cX6_requireNode 18 = .ok (.dup, 1) := by decide +kernel
theorem dX6_requireNode_19 : decode cX6_requireNode 19 = .ok (.ldc 205, 2) := by decide +kernel
theorem dX6_requireNode_21 : decode cX6_requireNode 21 = .ok (.invokespecial 166, 3) := by decide +kernel
theorem dX6_requireNode_24 : decode cX6_requireNode 24 = .ok (.athrow, 1) := by decide +kernel
theorem dX6_requireNode_25 : decode cX6_requireNode 25 = .ok (.return_, 1) := by decide +kernel
theorem dX6_requireArc_0 : decode cX6_requireArc 0 = .ok (.iload_n 1, 1) := by decide +kernel
theorem dX6_requireArc_1 : decode cX6_requireArc 1 = .ok (.ifCond .lt 14, 3) := by decide +kernel
theorem dX6_requireArc_4 : decode cX6_requireArc 4 = .ok (.iload_n 1, 1) := by decide +kernel
theorem dX6_requireArc_5 : decode cX6_requireArc 5 = .ok (.aload_n 0, 1) := by decide +kernel
theorem dX6_requireArc_6 : decode cX6_requireArc 6 = .ok (.getfield 10, 3) := by decide +kernel
theorem dX6_requireArc_9 : decode cX6_requireArc 9 = .ok (.getfield 68, 3) := by decide +kernel
theorem dX6_requireArc_12 : decode cX6_requireArc 12 = .ok (.if_icmp .lt 13, 3) := by decide +kernel
theorem dX6_requireArc_15 : decode cX6_requireArc 15 = .ok (.new 162, 3) := by decide +kernel
theorem dX6_requireArc_18 : decode cX6_requireArc 18 = .ok (.dup, 1) := by decide +kernel
theorem dX6_requireArc_19 : decode cX6_requireArc 19 = .ok (.ldc 207, 2) := by decide +kernel
theorem dX6_requireArc_21 : decode cX6_requireArc 21 = .ok (.invokespecial 166, 3) := by decide +kernel
theorem dX6_requireArc_24 : decode cX6_requireArc 24 = .ok (.athrow, 1) := by decide +kernel
theorem dX6_requireArc_25 : decode cX6_requireArc 25 = .ok (.return_, 1) := by decide +kernel
theorem dX6_requireDifferent_0 : decode cX6_requireDifferent 0 = .ok (.iload_n 0, 1) := by decide +kernel
theorem dX6_requireDifferent_1 : decode cX6_requireDifferent 1 = .ok (.iload_n 1, 1) := by decide +kernel
theorem dX6_requireDifferent_2 : decode cX6_requireDifferent 2 = .ok (.if_icmp .ne 13, 3) := by decide +kernel
theorem dX6_requireDifferent_5 : decode cX6_requireDifferent 5 = .ok (.new 145, 3) := by decide +kernel
theorem dX6_requireDifferent_8 : decode cX6_requireDifferent 8 = .ok (.dup, 1) := by decide +kernel
theorem dX6_requireDifferent_9 : decode cX6_requireDifferent 9 = .ok (.ldc 209, 2) := by decide +kernel
theorem dX6_requireDifferent_11 : decode cX6_requireDifferent 11 = .ok (.invokespecial 149, 3) := by decide +kernel
theorem dX6_requireDifferent_14 : decode cX6_requireDifferent 14 = .ok (.athrow, 1) := by decide +kernel
theorem dX6_requireDifferent_15 : decode cX6_requireDifferent 15 = .ok (.return_, 1) := by decide +kernel
theorem dX6_requireCapacity_0 : decode cX6_requireCapacity 0 = .ok (.iload_n 0, 1) := by decide +kernel
theorem dX6_requireCapacity_1 : decode cX6_requireCapacity 1 = .ok (.ifCond .lt 9, 3) := by decide +kernel
theorem dX6_requireCapacity_4 : decode cX6_requireCapacity 4 = .ok (.iload_n 0, 1) := by decide +kernel
theorem dX6_requireCapacity_5 : decode cX6_requireCapacity 5 = .ok (.ldc 211, 2) := by decide +kernel
theorem dX6_requireCapacity_7 : decode cX6_requireCapacity 7 = .ok (.if_icmp .le 13, 3) := by decide +kernel
theorem dX6_requireCapacity_10 : decode cX6_requireCapacity 10 = .ok (.new 145, 3) := by decide +kernel
theorem dX6_requireCapacity_13 : decode cX6_requireCapacity 13 = .ok (.dup, 1) := by decide +kernel
theorem dX6_requireCapacity_14 : decode cX6_requireCapacity 14 = .ok (.ldc 212, 2) := by decide +kernel
theorem dX6_requireCapacity_16 : decode cX6_requireCapacity 16 = .ok (.invokespecial 149, 3) := by decide +kernel
theorem dX6_requireCapacity_19 : decode cX6_requireCapacity 19 = .ok (.athrow, 1) := by decide +kernel
theorem dX6_requireCapacity_20 : decode cX6_requireCapacity 20 = .ok (.return_, 1) := by decide +kernel
theorem dX6_requireFraction_0 : decode cX6_requireFraction 0 = .ok (.dload_n 0, 1) := by decide +kernel
theorem dX6_requireFraction_1 : decode cX6_requireFraction 1 = .ok (.dconst 0, 1) := by decide +kernel
theorem dX6_requireFraction_2 : decode cX6_requireFraction 2 = .ok (.dcmp .l, 1) := by decide +kernel
theorem dX6_requireFraction_3 : decode cX6_requireFraction 3 = .ok (.ifCond .lt 15, 3) := by decide +kernel
theorem dX6_requireFraction_6 : decode cX6_requireFraction 6 = .ok (.dload_n 0, 1) := by decide +kernel
theorem dX6_requireFraction_7 : decode cX6_requireFraction 7 = .ok (.ldc2_w 214, 3) := by decide +kernel
theorem dX6_requireFraction_10 : decode cX6_requireFraction 10 = .ok (.dcmp .g, 1) := by decide +kernel
theorem dX6_requireFraction_11 : decode cX6_requireFraction 11 = .ok (.ifCond .gt 7, 3) := by decide +kernel
theorem dX6_requireFraction_14 : decode cX6_requireFraction 14 = .ok (.iconst 1, 1) := by decide +kernel
theorem dX6_requireFraction_15 : decode cX6_requireFraction 15 = .ok (.goto 4, 3) := by decide +kernel
theorem dX6_requireFraction_18 : decode cX6_requireFraction 18 = .ok (.iconst 0, 1) := by decide +kernel
theorem dX6_requireFraction_19 : decode cX6_requireFraction 19 = .ok (.istore_n 2, 1) := by decide +kernel
theorem dX6_requireFraction_20 : decode cX6_requireFraction 20 = .ok (.iload_n 2, 1) := by decide +kernel
theorem dX6_requireFraction_21 : decode cX6_requireFraction 21 = .ok (.ifCond .ne 13, 3) := by decide +kernel
theorem dX6_requireFraction_24 : decode cX6_requireFraction 24 = .ok (.new 145, 3) := by decide +kernel
theorem dX6_requireFraction_27 : decode cX6_requireFraction 27 = .ok (.dup, 1) := by decide +kernel
theorem dX6_requireFraction_28 : decode cX6_requireFraction 28 = .ok (.ldc 216, 2) := by decide +kernel
theorem dX6_requireFraction_30 : decode cX6_requireFraction 30 = .ok (.invokespecial 149, 3) := by decide +kernel
theorem dX6_requireFraction_33 : decode cX6_requireFraction 33 = .ok (.athrow, 1) := by decide +kernel
theorem dX6_requireFraction_34 : decode cX6_requireFraction 34 = .ok (.return_, 1) := by decide +kernel
theorem dX6_isCut_0 : decode cX6_isCut 0 = .ok (.iload_n 1, 1) := by decide +kernel
theorem dX6_isCut_1 : decode cX6_isCut 1 = .ok (.aload_n 0, 1) := by decide +kernel
theorem dX6_isCut_2 : decode cX6_isCut 2 = .ok (.getfield 10, 3) := by decide +kernel
theorem dX6_isCut_5 : decode cX6_isCut 5 = .ok (.invokevirtual 218, 3) := by decide +kernel
theorem dX6_isCut_8 : decode cX6_isCut 8 = .ok (.iconst (-1), 1) := by decide +kernel
theorem dX6_isCut_9 : decode cX6_isCut 9 = .ok (.ixor, 1) := by decide +kernel
theorem dX6_isCut_10 : decode cX6_isCut 10 = .ok (.iand, 1) := by decide +kernel
theorem dX6_isCut_11 : decode cX6_isCut 11 = .ok (.ifCond .ne 35, 3) := by decide +kernel
theorem dX6_isCut_14 : decode cX6_isCut 14 = .ok (.iload_n 1, 1) := by decide +kernel
theorem dX6_isCut_15 : decode cX6_isCut 15 = .ok (.aload_n 0, 1) := by decide +kernel
theorem dX6_isCut_16 : decode cX6_isCut 16 = .ok (.getfield 21, 3) := by decide +kernel
theorem dX6_isCut_19 : decode cX6_isCut 19 = .ok (.getfield 121, 3) := by decide +kernel
theorem dX6_isCut_22 : decode cX6_isCut 22 = .ok (.invokestatic 173, 3) := by decide +kernel
theorem dX6_isCut_25 : decode cX6_isCut 25 = .ok (.ifCond .eq 21, 3) := by decide +kernel
theorem dX6_isCut_28 : decode cX6_isCut 28 = .ok (.iload_n 1, 1) := by decide +kernel
theorem dX6_isCut_29 : decode cX6_isCut 29 = .ok (.aload_n 0, 1) := by decide +kernel
theorem dX6_isCut_30 : decode cX6_isCut 30 = .ok (.getfield 21, 3) := by decide +kernel
theorem dX6_isCut_33 : decode cX6_isCut 33 = .ok (.getfield 176, 3) := by decide +kernel
theorem dX6_isCut_36 : decode cX6_isCut 36 = .ok (.invokestatic 173, 3) := by decide +kernel
theorem dX6_isCut_39 : decode cX6_isCut 39 = .ok (.ifCond .ne 7, 3) := by decide +kernel
theorem dX6_isCut_42 : decode cX6_isCut 42 = .ok (.iconst 1, 1) := by decide +kernel
theorem dX6_isCut_43 : decode cX6_isCut 43 = .ok (.goto 4, 3) := by decide +kernel
theorem dX6_isCut_46 : decode cX6_isCut 46 = .ok (.iconst 0, 1) := by decide +kernel
theorem dX6_isCut_47 : decode cX6_isCut 47 = .ok (.ireturn, 1) := by decide +kernel
theorem dX6_movable_0 : decode cX6_movable 0 = .ok (.aload_n 0, 1) := by decide +kernel
theorem dX6_movable_1 : decode cX6_movable 1 = .ok (.getfield 25, 3) := by decide +kernel
theorem dX6_movable_4 : decode cX6_movable 4 = .ok (.aload_n 0, 1) := by decide +kernel
theorem dX6_movable_5 : decode cX6_movable 5 = .ok (.getfield 21, 3) := by decide +kernel
theorem dX6_movable_8 : decode cX6_movable 8 = .ok (.invokevirtual 114, 3) := by decide +kernel
theorem dX6_movable_11 : decode cX6_movable 11 = .ok (.aload_n 0, 1) := by decide +kernel
theorem dX6_movable_12 : decode cX6_movable 12 = .ok (.getfield 25, 3) := by decide +kernel
theorem dX6_movable_15 : decode cX6_movable 15 = .ok (.getfield 83, 3) := by decide +kernel
theorem dX6_movable_18 : decode cX6_movable 18 = .ok (.iload_n 1, 1) := by decide +kernel
theorem dX6_movable_19 : decode cX6_movable 19 = .ok (.invokevirtual 221, 3) := by decide +kernel
theorem dX6_movable_22 : decode cX6_movable 22 = .ok (.aload_n 0, 1) := by decide +kernel
theorem dX6_movable_23 : decode cX6_movable 23 = .ok (.getfield 25, 3) := by decide +kernel
theorem dX6_movable_26 : decode cX6_movable 26 = .ok (.getfield 224, 3) := by decide +kernel
theorem dX6_movable_29 : decode cX6_movable 29 = .ok (.iload_n 2, 1) := by decide +kernel
theorem dX6_movable_30 : decode cX6_movable 30 = .ok (.aload_n 0, 1) := by decide +kernel
theorem dX6_movable_31 : decode cX6_movable 31 = .ok (.getfield 10, 3) := by decide +kernel
theorem dX6_movable_34 : decode cX6_movable 34 = .ok (.iload_n 1, 1) := by decide +kernel
theorem dX6_movable_35 : decode cX6_movable 35 = .ok (.iload_n 2, 1) := by decide +kernel
theorem dX6_movable_36 : decode cX6_movable 36 = .ok (.invokevirtual 228, 3) := by decide +kernel
theorem dX6_movable_39 : decode cX6_movable 39 = .ok (.iload_n 3, 1) := by decide +kernel
theorem dX6_movable_40 : decode cX6_movable 40 = .ok (.invokevirtual 231, 3) := by decide +kernel
theorem dX6_movable_43 : decode cX6_movable 43 = .ok (.ireturn, 1) := by decide +kernel
theorem dX6_scaled_0 : decode cX6_scaled 0 = .ok (.iload_n 0, 1) := by decide +kernel
theorem dX6_scaled_1 : decode cX6_scaled 1 = .ok (.i2d, 1) := by decide +kernel
theorem dX6_scaled_2 : decode cX6_scaled 2 = .ok (.dload_n 1, 1) := by decide +kernel
theorem dX6_scaled_3 : decode cX6_scaled 3 = .ok (.dmul, 1) := by decide +kernel
theorem dX6_scaled_4 : decode cX6_scaled 4 = .ok (.dstore_n 3, 1) := by decide +kernel
theorem dX6_scaled_5 : decode cX6_scaled 5 = .ok (.dload_n 3, 1) := by decide +kernel
theorem dX6_scaled_6 : decode cX6_scaled 6 = .ok (.d2i, 1) := by decide +kernel
theorem dX6_scaled_7 : decode cX6_scaled 7 = .ok (.istore 5, 2) := by decide +kernel
theorem dX6_scaled_9 : decode cX6_scaled 9 = .ok (.dload_n 3, 1) := by decide +kernel
theorem dX6_scaled_10 : decode cX6_scaled 10 = .ok (.iload 5, 2) := by decide +kernel
theorem dX6_scaled_12 : decode cX6_scaled 12 = .ok (.i2d, 1) := by decide +kernel
theorem dX6_scaled_13 : decode cX6_scaled 13 = .ok (.dsub, 1) := by decide +kernel
theorem dX6_scaled_14 : decode cX6_scaled 14 = .ok (.dstore 6, 2) := by decide +kernel
theorem dX6_scaled_16 : decode cX6_scaled 16 = .ok (.dload 6, 2) := by decide +kernel
theorem dX6_scaled_18 : decode cX6_scaled 18 = .ok (.ldc2_w 236, 3) := by decide +kernel
theorem dX6_scaled_21 : decode cX6_scaled 21 = .ok (.dcmp .l, 1) := by decide +kernel
theorem dX6_scaled_22 : decode cX6_scaled 22 = .ok (.ifCond .gt 20, 3) := by decide +kernel
theorem dX6_scaled_25 : decode cX6_scaled 25 = .ok (.dload 6, 2) := by decide +kernel
theorem dX6_scaled_27 : decode cX6_scaled 27 = .ok (.ldc2_w 236, 3) := by decide +kernel
theorem dX6_scaled_30 : decode cX6_scaled 30 = .ok (.dcmp .l, 1) := by decide +kernel
theorem dX6_scaled_31 : decode cX6_scaled 31 = .ok (.ifCond .ne 15, 3) := by decide +kernel
theorem dX6_scaled_34 : decode cX6_scaled 34 = .ok (.iload 5, 2) := by decide +kernel
theorem dX6_scaled_36 : decode cX6_scaled 36 = .ok (.iconst 1, 1) := by decide +kernel
theorem dX6_scaled_37 : decode cX6_scaled 37 = .ok (.iand, 1) := by decide +kernel
theorem dX6_scaled_38 : decode cX6_scaled 38 = .ok (.iconst 1, 1) := by decide +kernel
theorem dX6_scaled_39 : decode cX6_scaled 39 = .ok (.if_icmp .ne 7, 3) := by decide +kernel
theorem dX6_scaled_42 : decode cX6_scaled 42 = .ok (.iconst 1, 1) := by decide +kernel
theorem dX6_scaled_43 : decode cX6_scaled 43 = .ok (.goto 4, 3) := by decide +kernel
theorem dX6_scaled_46 : decode cX6_scaled 46 = .ok (.iconst 0, 1) := by decide +kernel
theorem dX6_scaled_47 : decode cX6_scaled 47 = .ok (.istore 8, 2) := by decide +kernel
theorem dX6_scaled_49 : decode cX6_scaled 49 = .ok (.iload 8, 2) := by decide +kernel
theorem dX6_scaled_51 : decode cX6_scaled 51 = .ok (.ifCond .eq 10, 3) := by decide +kernel
theorem dX6_scaled_54 : decode cX6_scaled 54 = .ok (.iload 5, 2) := by decide +kernel
theorem dX6_scaled_56 : decode cX6_scaled 56 = .ok (.iconst 1, 1) := by decide +kernel
theorem dX6_scaled_57 : decode cX6_scaled 57 = .ok (.iadd, 1) := by decide +kernel
theorem dX6_scaled_58 : decode cX6_scaled 58 = .ok (.goto 5, 3) := by decide +kernel
theorem dX6_scaled_61 : decode cX6_scaled 61 = .ok (.iload 5, 2) := by decide +kernel
theorem dX6_scaled_63 : decode cX6_scaled 63 = .ok (.ldc 211, 2) := by decide +kernel
theorem dX6_scaled_65 : decode cX6_scaled 65 = .ok (.invokestatic 238, 3) := by decide +kernel
theorem dX6_scaled_68 : decode cX6_scaled 68 = .ok (.ireturn, 1) := by decide +kernel
theorem dX6_contains_0 : decode cX6_contains 0 = .ok (.iload_n 0, 1) := by decide +kernel
theorem dX6_contains_1 : decode cX6_contains 1 = .ok (.iload_n 1, 1) := by decide +kernel
theorem dX6_contains_2 : decode cX6_contains 2 = .ok (.ishr, 1) := by decide +kernel
theorem dX6_contains_3 : decode cX6_contains 3 = .ok (.iconst 1, 1) := by decide +kernel
theorem dX6_contains_4 : decode cX6_contains 4 = .ok (.iand, 1) := by decide +kernel
theorem dX6_contains_5 : decode cX6_contains 5 = .ok (.iconst 1, 1) := by decide +kernel
theorem dX6_contains_6 : decode cX6_contains 6 = .ok (.if_icmp .ne 7, 3) := by decide +kernel
theorem dX6_contains_9 : decode cX6_contains 9 = .ok (.iconst 1, 1) := by decide +kernel
theorem dX6_contains_10 : decode cX6_contains 10 = .ok (.goto 4, 3) := by decide +kernel
theorem dX6_contains_13 : decode cX6_contains 13 = .ok (.iconst 0, 1) := by decide +kernel
theorem dX6_contains_14 : decode cX6_contains 14 = .ok (.ireturn, 1) := by decide +kernel
theorem dJ9_min_7cf53_0 : decode cJ9_min_7cf53 0 = .ok (.iload_n 0, 1) := by decide +kernel
theorem dJ9_min_7cf53_1 : decode cJ9_min_7cf53 1 = .ok (.iload_n 1, 1) := by decide +kernel
theorem dJ9_min_7cf53_2 : decode cJ9_min_7cf53 2 = .ok (.if_icmp .gt 7, 3) := by decide +kernel
theorem dJ9_min_7cf53_5 : decode cJ9_min_7cf53 5 = .ok (.iload_n 0, 1) := by decide +kernel
theorem dJ9_min_7cf53_6 : decode cJ9_min_7cf53 6 = .ok (.goto 4, 3) := by decide +kernel
theorem dJ9_min_7cf53_9 : decode cJ9_min_7cf53 9 = .ok (.iload_n 1, 1) := by decide +kernel
theorem dJ9_min_7cf53_10 : decode cJ9_min_7cf53 10 = .ok (.ireturn, 1) := by decide +kernel
theorem dJ7_fill_53178_0 : decode cJ7_fill_53178 0 = .ok (.iconst 0, 1) := by decide +kernel
theorem dJ7_fill_53178_1 : decode cJ7_fill_53178 1 = .ok (.istore_n 2, 1) := by decide +kernel
theorem dJ7_fill_53178_2 : decode cJ7_fill_53178 2 = .ok (.aload_n 0, 1) := by decide +kernel
theorem dJ7_fill_53178_3 : decode cJ7_fill_53178 3 = .ok (.arraylength, 1) := by decide +kernel
theorem dJ7_fill_53178_4 : decode cJ7_fill_53178 4 = .ok (.istore_n 3, 1) := by decide +kernel
theorem dJ7_fill_53178_5 : decode cJ7_fill_53178 5 = .ok (.iload_n 2, 1) := by decide +kernel
theorem dJ7_fill_53178_6 : decode cJ7_fill_53178 6 = .ok (.iload_n 3, 1) := by decide +kernel
theorem dJ7_fill_53178_7 : decode cJ7_fill_53178 7 = .ok (.if_icmp .ge 13, 3) := by decide +kernel
theorem dJ7_fill_53178_10 : decode cJ7_fill_53178 10 = .ok (.aload_n 0, 1) := by decide +kernel
theorem dJ7_fill_53178_11 : decode cJ7_fill_53178 11 = .ok (.iload_n 2, 1) := by decide +kernel
theorem dJ7_fill_53178_12 : decode cJ7_fill_53178 12 = .ok (.iload_n 1, 1) := by decide +kernel
theorem dJ7_fill_53178_13 : decode cJ7_fill_53178 13 = .ok (.iastore, 1) := by decide +kernel
theorem dJ7_fill_53178_14 : decode cJ7_fill_53178 14 = .ok (.iinc 2 1, 3) := by decide +kernel
theorem dJ7_fill_53178_17 : decode cJ7_fill_53178 17 = .ok (.goto (-12), 3) := by decide +kernel
theorem dJ7_fill_53178_20 : decode cJ7_fill_53178 20 = .ok (.return_, 1) := by decide +kernel
theorem dL_below_0 : decode cL_below 0 = .ok (.iload_n 0, 1) := by decide +kernel
theorem dL_below_1 : decode cL_below 1 = .ok (.ldc 7, 2) := by decide +kernel
theorem dL_below_3 : decode cL_below 3 = .ok (.iand, 1) := by decide +kernel
theorem dL_below_4 : decode cL_below 4 = .ok (.iload_n 1, 1) := by decide +kernel
theorem dL_below_5 : decode cL_below 5 = .ok (.irem, 1) := by decide +kernel
theorem dL_below_6 : decode cL_below 6 = .ok (.ireturn, 1) := by decide +kernel
theorem dL_cell_0 : decode cL_cell 0 = .ok (.iload_n 1, 1) := by decide +kernel
theorem dL_cell_1 : decode cL_cell 1 = .ok (.aload_n 0, 1) := by decide +kernel
theorem dL_cell_2 : decode cL_cell 2 = .ok (.arraylength, 1) := by decide +kernel
theorem dL_cell_3 : decode cL_cell 3 = .ok (.if_icmp .ge 9, 3) := by decide +kernel
theorem dL_cell_6 : decode cL_cell 6 = .ok (.aload_n 0, 1) := by decide +kernel
theorem dL_cell_7 : decode cL_cell 7 = .ok (.iload_n 1, 1) := by decide +kernel
theorem dL_cell_8 : decode cL_cell 8 = .ok (.iaload, 1) := by decide +kernel
theorem dL_cell_9 : decode cL_cell 9 = .ok (.goto 9, 3) := by decide +kernel
theorem dL_cell_12 : decode cL_cell 12 = .ok (.ldc 8, 2) := by decide +kernel
theorem dL_cell_14 : decode cL_cell 14 = .ok (.iload_n 1, 1) := by decide +kernel
theorem dL_cell_15 : decode cL_cell 15 = .ok (.iconst 3, 1) := by decide +kernel
theorem dL_cell_16 : decode cL_cell 16 = .ok (.iadd, 1) := by decide +kernel
theorem dL_cell_17 : decode cL_cell 17 = .ok (.imul, 1) := by decide +kernel
theorem dL_cell_18 : decode cL_cell 18 = .ok (.ireturn, 1) := by decide +kernel
theorem dL_build_0 : decode cL_build 0 = .ok (.iconst 0, 1) := by decide +kernel
theorem dL_build_1 : decode cL_build 1 = .ok (.istore 8, 2) := by decide +kernel
theorem dL_build_3 : decode cL_build 3 = .ok (.iload 8, 2) := by decide +kernel
theorem dL_build_5 : decode cL_build 5 = .ok (.iload_n 3, 1) := by decide +kernel
theorem dL_build_6 : decode cL_build 6 = .ok (.if_icmp .ge 20, 3) := by decide +kernel
theorem dL_build_9 : decode cL_build 9 = .ok (.aload_n 0, 1) := by decide +kernel
theorem dL_build_10 : decode cL_build 10 = .ok (.invokevirtual 9, 3) := by decide +kernel
theorem dL_build_13 : decode cL_build 13 = .ok (.iload 8, 2) := by decide +kernel
theorem dL_build_15 : decode cL_build 15 = .ok (.if_icmp .eq 5, 3) := by decide +kernel
theorem dL_build_18 : decode cL_build 18 = .ok (.iconst 0, 1) := by decide +kernel
theorem dL_build_19 : decode cL_build 19 = .ok (.ireturn, 1) := by decide +kernel
theorem dL_build_20 : decode cL_build 20 = .ok (.iinc 8 1, 3) := by decide +kernel
theorem dL_build_23 : decode cL_build 23 = .ok (.goto (-20), 3) := by decide +kernel
theorem dL_build_26 : decode cL_build 26 = .ok (.iconst 0, 1) := by decide +kernel
theorem dL_build_27 : decode cL_build 27 = .ok (.istore 8, 2) := by decide +kernel
theorem dL_build_29 : decode cL_build 29 = .ok (.iload 8, 2) := by decide +kernel
theorem dL_build_31 : decode cL_build 31 = .ok (.aload 4, 2) := by decide +kernel
theorem dL_build_33 : decode cL_build 33 = .ok (.arraylength, 1) := by decide +kernel
theorem dL_build_34 : decode cL_build 34 = .ok (.if_icmp .ge 98, 3) := by decide +kernel
theorem dL_build_37 : decode cL_build 37 = .ok (.aload_n 1, 1) := by decide +kernel
theorem dL_build_38 : decode cL_build 38 = .ok (.iload_n 2, 1) := by decide +kernel
theorem dL_build_39 : decode cL_build 39 = .ok (.iload 8, 2) := by decide +kernel
theorem dL_build_41 : decode cL_build 41 = .ok (.iadd, 1) := by decide +kernel
theorem dL_build_42 : decode cL_build 42 = .ok (.invokestatic 15, 3) := by decide +kernel
theorem dL_build_45 : decode cL_build 45 = .ok (.istore 9, 2) := by decide +kernel
theorem dL_build_47 : decode cL_build 47 = .ok (.aload 4, 2) := by decide +kernel
theorem dL_build_49 : decode cL_build 49 = .ok (.iload 8, 2) := by decide +kernel
theorem dL_build_51 : decode cL_build 51 = .ok (.iload 9, 2) := by decide +kernel
theorem dL_build_53 : decode cL_build 53 = .ok (.iload_n 3, 1) := by decide +kernel
theorem dL_build_54 : decode cL_build 54 = .ok (.invokestatic 21, 3) := by decide +kernel
theorem dL_build_57 : decode cL_build 57 = .ok (.iastore, 1) := by decide +kernel
theorem dL_build_58 : decode cL_build 58 = .ok (.aload 5, 2) := by decide +kernel
theorem dL_build_60 : decode cL_build 60 = .ok (.iload 8, 2) := by decide +kernel
theorem dL_build_62 : decode cL_build 62 = .ok (.aload 4, 2) := by decide +kernel
theorem dL_build_64 : decode cL_build 64 = .ok (.iload 8, 2) := by decide +kernel
theorem dL_build_66 : decode cL_build 66 = .ok (.iaload, 1) := by decide +kernel
theorem dL_build_67 : decode cL_build 67 = .ok (.iconst 1, 1) := by decide +kernel
theorem dL_build_68 : decode cL_build 68 = .ok (.iadd, 1) := by decide +kernel
theorem dL_build_69 : decode cL_build 69 = .ok (.iload 9, 2) := by decide +kernel
theorem dL_build_71 : decode cL_build 71 = .ok (.iconst 4, 1) := by decide +kernel
theorem dL_build_72 : decode cL_build 72 = .ok (.ishr, 1) := by decide +kernel
theorem dL_build_73 : decode cL_build 73 = .ok (.iload_n 3, 1) := by decide +kernel
theorem dL_build_74 : decode cL_build 74 = .ok (.iconst 1, 1) := by decide +kernel
theorem dL_build_75 : decode cL_build 75 = .ok (.isub, 1) := by decide +kernel
theorem dL_build_76 : decode cL_build 76 = .ok (.invokestatic 21, 3) := by decide +kernel
theorem dL_build_79 : decode cL_build 79 = .ok (.iadd, 1) := by decide +kernel
theorem dL_build_80 : decode cL_build 80 = .ok (.iload_n 3, 1) := by decide +kernel
theorem dL_build_81 : decode cL_build 81 = .ok (.irem, 1) := by decide +kernel
theorem dL_build_82 : decode cL_build 82 = .ok (.iastore, 1) := by decide +kernel
theorem dL_build_83 : decode cL_build 83 = .ok (.aload 6, 2) := by decide +kernel
theorem dL_build_85 : decode cL_build 85 = .ok (.iload 8, 2) := by decide +kernel
theorem dL_build_87 : decode cL_build 87 = .ok (.iload 9, 2) := by decide +kernel
theorem dL_build_89 : decode cL_build 89 = .ok (.bipush 8, 2) := by decide +kernel
theorem dL_build_91 : decode cL_build 91 = .ok (.ishr, 1) := by decide +kernel
theorem dL_build_92 : decode cL_build 92 = .ok (.iload 7, 2) := by decide +kernel
theorem dL_build_94 : decode cL_build 94 = .ok (.iconst 1, 1) := by decide +kernel
theorem dL_build_95 : decode cL_build 95 = .ok (.iadd, 1) := by decide +kernel
theorem dL_build_96 : decode cL_build 96 = .ok (.invokestatic 21, 3) := by decide +kernel
theorem dL_build_99 : decode cL_build 99 = .ok (.iastore, 1) := by decide +kernel
theorem dL_build_100 : decode cL_build 100 = .ok (.aload_n 0, 1) := by decide +kernel
theorem dL_build_101 : decode cL_build 101 = .ok (.aload 4, 2) := by decide +kernel
theorem dL_build_103 : decode cL_build 103 = .ok (.iload 8, 2) := by decide +kernel
theorem dL_build_105 : decode cL_build 105 = .ok (.iaload, 1) := by decide +kernel
theorem dL_build_106 : decode cL_build 106 = .ok (.aload 5, 2) := by decide +kernel
theorem dL_build_108 : decode cL_build 108 = .ok (.iload 8, 2) := by decide +kernel
theorem dL_build_110 : decode cL_build 110 = .ok (.iaload, 1) := by decide +kernel
theorem dL_build_111 : decode cL_build 111 = .ok (.aload 6, 2) := by decide +kernel
theorem dL_build_113 : decode cL_build 113 = .ok (.iload 8, 2) := by decide +kernel
theorem dL_build_115 : decode cL_build 115 = .ok (.iaload, 1) := by decide +kernel
theorem dL_build_116 : decode cL_build 116 = .ok (.invokevirtual 25, 3) := by decide +kernel
theorem dL_build_119 : decode cL_build 119 = .ok (.iload 8, 2) := by decide +kernel
theorem dL_build_121 : decode cL_build 121 = .ok (.if_icmp .eq 5, 3) := by decide +kernel
theorem dL_build_124 : decode cL_build 124 = .ok (.iconst 0, 1) := by decide +kernel
theorem dL_build_125 : decode cL_build 125 = .ok (.ireturn, 1) := by decide +kernel
theorem dL_build_126 : decode cL_build 126 = .ok (.iinc 8 1, 3) := by decide +kernel
theorem dL_build_129 : decode cL_build 129 = .ok (.goto (-100), 3) := by decide +kernel
theorem dL_build_132 : decode cL_build 132 = .ok (.aload_n 0, 1) := by decide +kernel
theorem dL_build_133 : decode cL_build 133 = .ok (.iconst 0, 1) := by decide +kernel
theorem dL_build_134 : decode cL_build 134 = .ok (.iload_n 3, 1) := by decide +kernel
theorem dL_build_135 : decode cL_build 135 = .ok (.iconst 1, 1) := by decide +kernel
theorem dL_build_136 : decode cL_build 136 = .ok (.isub, 1) := by decide +kernel
theorem dL_build_137 : decode cL_build 137 = .ok (.invokevirtual 29, 3) := by decide +kernel
theorem dL_build_140 : decode cL_build 140 = .ok (.ifCond .eq 18, 3) := by decide +kernel
theorem dL_build_143 : decode cL_build 143 = .ok (.aload_n 0, 1) := by decide +kernel
theorem dL_build_144 : decode cL_build 144 = .ok (.iconst 0, 1) := by decide +kernel
theorem dL_build_145 : decode cL_build 145 = .ok (.iload_n 3, 1) := by decide +kernel
theorem dL_build_146 : decode cL_build 146 = .ok (.iconst 1, 1) := by decide +kernel
theorem dL_build_147 : decode cL_build 147 = .ok (.isub, 1) := by decide +kernel
theorem dL_build_148 : decode cL_build 148 = .ok (.invokevirtual 29, 3) := by decide +kernel
theorem dL_build_151 : decode cL_build 151 = .ok (.ifCond .ne 7, 3) := by decide +kernel
theorem dL_build_154 : decode cL_build 154 = .ok (.iconst 1, 1) := by decide +kernel
theorem dL_build_155 : decode cL_build 155 = .ok (.goto 4, 3) := by decide +kernel
theorem dL_build_158 : decode cL_build 158 = .ok (.iconst 0, 1) := by decide +kernel
theorem dL_build_159 : decode cL_build 159 = .ok (.ireturn, 1) := by decide +kernel
theorem dL_cutCapacity_0 : decode cL_cutCapacity 0 = .ok (.iconst 0, 1) := by decide +kernel
theorem dL_cutCapacity_1 : decode cL_cutCapacity 1 = .ok (.istore 4, 2) := by decide +kernel
theorem dL_cutCapacity_3 : decode cL_cutCapacity 3 = .ok (.iconst 0, 1) := by decide +kernel
theorem dL_cutCapacity_4 : decode cL_cutCapacity 4 = .ok (.istore 5, 2) := by decide +kernel
theorem dL_cutCapacity_6 : decode cL_cutCapacity 6 = .ok (.iload 5, 2) := by decide +kernel
theorem dL_cutCapacity_8 : decode cL_cutCapacity 8 = .ok (.aload_n 1, 1) := by decide +kernel
theorem dL_cutCapacity_9 : decode cL_cutCapacity 9 = .ok (.arraylength, 1) := by decide +kernel
theorem dL_cutCapacity_10 : decode cL_cutCapacity 10 = .ok (.if_icmp .ge 45, 3) := by decide +kernel
theorem dL_cutCapacity_13 : decode cL_cutCapacity 13 = .ok (.iload 4, 2) := by decide +kernel
theorem dL_cutCapacity_15 : decode cL_cutCapacity 15 = .ok (.iload_n 0, 1) := by decide +kernel
theorem dL_cutCapacity_16 : decode cL_cutCapacity 16 = .ok (.aload_n 1, 1) := by decide +kernel
theorem dL_cutCapacity_17 : decode cL_cutCapacity 17 = .ok (.iload 5, 2) := by decide +kernel
theorem dL_cutCapacity_19 : decode cL_cutCapacity 19 = .ok (.iaload, 1) := by decide +kernel
theorem dL_cutCapacity_20 : decode cL_cutCapacity 20 = .ok (.ishr, 1) := by decide +kernel
theorem dL_cutCapacity_21 : decode cL_cutCapacity 21 = .ok (.iconst 1, 1) := by decide +kernel
theorem dL_cutCapacity_22 : decode cL_cutCapacity 22 = .ok (.iand, 1) := by decide +kernel
theorem dL_cutCapacity_23 : decode cL_cutCapacity 23 = .ok (.iconst 1, 1) := by decide +kernel
theorem dL_cutCapacity_24 : decode cL_cutCapacity 24 = .ok (.if_icmp .ne 21, 3) := by decide +kernel
theorem dL_cutCapacity_27 : decode cL_cutCapacity 27 = .ok (.iload_n 0, 1) := by decide +kernel
theorem dL_cutCapacity_28 : decode cL_cutCapacity 28 = .ok (.aload_n 2, 1) := by decide +kernel
theorem dL_cutCapacity_29 : decode cL_cutCapacity 29 = .ok (.iload 5, 2) := by decide +kernel
theorem dL_cutCapacity_31 : decode cL_cutCapacity 31 = .ok (.iaload, 1) := by decide +kernel
theorem dL_cutCapacity_32 : decode cL_cutCapacity 32 = .ok (.ishr, 1) := by decide +kernel
theorem dL_cutCapacity_33 : decode cL_cutCapacity 33 = .ok (.iconst 1, 1) := by decide +kernel
theorem dL_cutCapacity_34 : decode cL_cutCapacity 34 = .ok (.iand, 1) := by decide +kernel
theorem dL_cutCapacity_35 : decode cL_cutCapacity 35 = .ok (.ifCond .ne 10, 3) := by decide +kernel
theorem dL_cutCapacity_38 : decode cL_cutCapacity 38 = .ok (.aload_n 3, 1) := by decide +kernel
theorem dL_cutCapacity_39 : decode cL_cutCapacity 39 = .ok (.iload 5, 2) := by decide +kernel
theorem dL_cutCapacity_41 : decode cL_cutCapacity 41 = .ok (.iaload, 1) := by decide +kernel
theorem dL_cutCapacity_42 : decode cL_cutCapacity 42 = .ok (.goto 4, 3) := by decide +kernel
theorem dL_cutCapacity_45 : decode cL_cutCapacity 45 = .ok (.iconst 0, 1) := by decide +kernel
theorem dL_cutCapacity_46 : decode cL_cutCapacity 46 = .ok (.iadd, 1) := by decide +kernel
theorem dL_cutCapacity_47 : decode cL_cutCapacity 47 = .ok (.istore 4, 2) := by decide +kernel
theorem dL_cutCapacity_49 : decode cL_cutCapacity 49 = .ok (.iinc 5 1, 3) := by decide +kernel
theorem dL_cutCapacity_52 : decode cL_cutCapacity 52 = .ok (.goto (-46), 3) := by decide +kernel
theorem dL_cutCapacity_55 : decode cL_cutCapacity 55 = .ok (.iload 4, 2) := by decide +kernel
theorem dL_cutCapacity_57 : decode cL_cutCapacity 57 = .ok (.ireturn, 1) := by decide +kernel
theorem dL_law_0 : decode cL_law 0 = .ok (.new 10, 3) := by decide +kernel
theorem dL_law_3 : decode cL_law 3 = .ok (.dup, 1) := by decide +kernel
theorem dL_law_4 : decode cL_law 4 = .ok (.invokespecial 44, 3) := by decide +kernel
theorem dL_law_7 : decode cL_law 7 = .ok (.astore_n 1, 1) := by decide +kernel
theorem dL_law_8 : decode cL_law 8 = .ok (.iconst 5, 1) := by decide +kernel
theorem dL_law_9 : decode cL_law 9 = .ok (.istore_n 2, 1) := by decide +kernel
theorem dL_law_10 : decode cL_law 10 = .ok (.bipush 7, 2) := by decide +kernel
theorem dL_law_12 : decode cL_law 12 = .ok (.newarray .int, 2) := by decide +kernel
theorem dL_law_14 : decode cL_law 14 = .ok (.astore_n 3, 1) := by decide +kernel
theorem dL_law_15 : decode cL_law 15 = .ok (.bipush 7, 2) := by decide +kernel
theorem dL_law_17 : decode cL_law 17 = .ok (.newarray .int, 2) := by decide +kernel
theorem dL_law_19 : decode cL_law 19 = .ok (.astore 4, 2) := by decide +kernel
theorem dL_law_21 : decode cL_law 21 = .ok (.bipush 7, 2) := by decide +kernel
theorem dL_law_23 : decode cL_law 23 = .ok (.newarray .int, 2) := by decide +kernel
theorem dL_law_25 : decode cL_law 25 = .ok (.astore 5, 2) := by decide +kernel
theorem dL_law_27 : decode cL_law 27 = .ok (.aload_n 1, 1) := by decide +kernel
theorem dL_law_28 : decode cL_law 28 = .ok (.aload_n 0, 1) := by decide +kernel
theorem dL_law_29 : decode cL_law 29 = .ok (.iconst 0, 1) := by decide +kernel
theorem dL_law_30 : decode cL_law 30 = .ok (.iload_n 2, 1) := by decide +kernel
theorem dL_law_31 : decode cL_law 31 = .ok (.aload_n 3, 1) := by decide +kernel
theorem dL_law_32 : decode cL_law 32 = .ok (.aload 4, 2) := by decide +kernel
theorem dL_law_34 : decode cL_law 34 = .ok (.aload 5, 2) := by decide +kernel
theorem dL_law_36 : decode cL_law 36 = .ok (.bipush 7, 2) := by decide +kernel
theorem dL_law_38 : decode cL_law 38 = .ok (.invokestatic 45, 3) := by decide +kernel
theorem dL_law_41 : decode cL_law 41 = .ok (.ifCond .ne 5, 3) := by decide +kernel
theorem dL_law_44 : decode cL_law 44 = .ok (.iconst 0, 1) := by decide +kernel
theorem dL_law_45 : decode cL_law 45 = .ok (.ireturn, 1) := by decide +kernel
theorem dL_law_46 : decode cL_law 46 = .ok (.iconst 0, 1) := by decide +kernel
theorem dL_law_47 : decode cL_law 47 = .ok (.istore 6, 2) := by decide +kernel
theorem dL_law_49 : decode cL_law 49 = .ok (.iload_n 2, 1) := by decide +kernel
theorem dL_law_50 : decode cL_law 50 = .ok (.iconst 1, 1) := by decide +kernel
theorem dL_law_51 : decode cL_law 51 = .ok (.isub, 1) := by decide +kernel
theorem dL_law_52 : decode cL_law 52 = .ok (.istore 7, 2) := by decide +kernel
theorem dL_law_54 : decode cL_law 54 = .ok (.iconst 0, 1) := by decide +kernel
theorem dL_law_55 : decode cL_law 55 = .ok (.istore 8, 2) := by decide +kernel
theorem dL_law_57 : decode cL_law 57 = .ok (.iload 8, 2) := by decide +kernel
theorem dL_law_59 : decode cL_law 59 = .ok (.bipush 10, 2) := by decide +kernel
theorem dL_law_61 : decode cL_law 61 = .ok (.if_icmp .ge 460, 3) := by decide +kernel
theorem dL_law_64 : decode cL_law 64 = .ok (.aload_n 0, 1) := by decide +kernel
theorem dL_law_65 : decode cL_law 65 = .ok (.bipush 7, 2) := by decide +kernel
theorem dL_law_67 : decode cL_law 67 = .ok (.iload 8, 2) := by decide +kernel
theorem dL_law_69 : decode cL_law 69 = .ok (.iadd, 1) := by decide +kernel
theorem dL_law_70 : decode cL_law 70 = .ok (.invokestatic 15, 3) := by decide +kernel
theorem dL_law_73 : decode cL_law 73 = .ok (.istore 9, 2) := by decide +kernel
theorem dL_law_75 : decode cL_law 75 = .ok (.iload 9, 2) := by decide +kernel
theorem dL_law_77 : decode cL_law 77 = .ok (.iconst 4, 1) := by decide +kernel
theorem dL_law_78 : decode cL_law 78 = .ok (.ishr, 1) := by decide +kernel
theorem dL_law_79 : decode cL_law 79 = .ok (.bipush 7, 2) := by decide +kernel
theorem dL_law_81 : decode cL_law 81 = .ok (.invokestatic 21, 3) := by decide +kernel
theorem dL_law_84 : decode cL_law 84 = .ok (.istore 10, 2) := by decide +kernel
theorem dL_law_86 : decode cL_law 86 = .ok (.iload 9, 2) := by decide +kernel
theorem dL_law_88 : decode cL_law 88 = .ok (.iconst 3, 1) := by decide +kernel
theorem dL_law_89 : decode cL_law 89 = .ok (.iand, 1) := by decide +kernel
theorem dL_law_90 : decode cL_law 90 = .ok (.iconst 2, 1) := by decide +kernel
theorem dL_law_91 : decode cL_law 91 = .ok (.if_icmp .ge 43, 3) := by decide +kernel
theorem dL_law_94 : decode cL_law 94 = .ok (.iload 9, 2) := by decide +kernel
theorem dL_law_96 : decode cL_law 96 = .ok (.bipush 8, 2) := by decide +kernel
theorem dL_law_98 : decode cL_law 98 = .ok (.ishr, 1) := by decide +kernel
theorem dL_law_99 : decode cL_law 99 = .ok (.bipush 8, 2) := by decide +kernel
theorem dL_law_101 : decode cL_law 101 = .ok (.invokestatic 21, 3) := by decide +kernel
theorem dL_law_104 : decode cL_law 104 = .ok (.istore 11, 2) := by decide +kernel
theorem dL_law_106 : decode cL_law 106 = .ok (.aload_n 1, 1) := by decide +kernel
theorem dL_law_107 : decode cL_law 107 = .ok (.iload 10, 2) := by decide +kernel
theorem dL_law_109 : decode cL_law 109 = .ok (.iload 11, 2) := by decide +kernel
theorem dL_law_111 : decode cL_law 111 = .ok (.invokevirtual 49, 3) := by decide +kernel
theorem dL_law_114 : decode cL_law 114 = .ok (.aload 5, 2) := by decide +kernel
theorem dL_law_116 : decode cL_law 116 = .ok (.iload 10, 2) := by decide +kernel
theorem dL_law_118 : decode cL_law 118 = .ok (.iaload, 1) := by decide +kernel
theorem dL_law_119 : decode cL_law 119 = .ok (.if_icmp .eq 5, 3) := by decide +kernel
theorem dL_law_122 : decode cL_law 122 = .ok (.iconst 0, 1) := by decide +kernel
theorem dL_law_123 : decode cL_law 123 = .ok (.ireturn, 1) := by decide +kernel
theorem dL_law_124 : decode cL_law 124 = .ok (.aload 5, 2) := by decide +kernel
theorem dL_law_126 : decode cL_law 126 = .ok (.iload 10, 2) := by decide +kernel
theorem dL_law_128 : decode cL_law 128 = .ok (.iload 11, 2) := by decide +kernel
theorem dL_law_130 : decode cL_law 130 = .ok (.iastore, 1) := by decide +kernel
theorem dL_law_131 : decode cL_law 131 = .ok (.goto 152, 3) := by decide +kernel
theorem dL_law_134 : decode cL_law 134 = .ok (.iload 9, 2) := by decide +kernel
theorem dL_law_136 : decode cL_law 136 = .ok (.iconst 3, 1) := by decide +kernel
theorem dL_law_137 : decode cL_law 137 = .ok (.iand, 1) := by decide +kernel
theorem dL_law_138 : decode cL_law 138 = .ok (.iconst 2, 1) := by decide +kernel
theorem dL_law_139 : decode cL_law 139 = .ok (.if_icmp .ne 77, 3) := by decide +kernel
theorem dL_law_142 : decode cL_law 142 = .ok (.iload 9, 2) := by decide +kernel
theorem dL_law_144 : decode cL_law 144 = .ok (.bipush 8, 2) := by decide +kernel
theorem dL_law_146 : decode cL_law 146 = .ok (.ishr, 1) := by decide +kernel
theorem dL_law_147 : decode cL_law 147 = .ok (.iload_n 2, 1) := by decide +kernel
theorem dL_law_148 : decode cL_law 148 = .ok (.invokestatic 21, 3) := by decide +kernel
theorem dL_law_151 : decode cL_law 151 = .ok (.istore 11, 2) := by decide +kernel
theorem dL_law_153 : decode cL_law 153 = .ok (.iload 11, 2) := by decide +kernel
theorem dL_law_155 : decode cL_law 155 = .ok (.iconst 1, 1) := by decide +kernel
theorem dL_law_156 : decode cL_law 156 = .ok (.iadd, 1) := by decide +kernel
theorem dL_law_157 : decode cL_law 157 = .ok (.iload 9, 2) := by decide +kernel
theorem dL_law_159 : decode cL_law 159 = .ok (.bipush 12, 2) := by decide +kernel
theorem dL_law_161 : decode cL_law 161 = .ok (.ishr, 1) := by decide +kernel
theorem dL_law_162 : decode cL_law 162 = .ok (.iload_n 2, 1) := by decide +kernel
theorem dL_law_163 : decode cL_law 163 = .ok (.iconst 1, 1) := by decide +kernel
theorem dL_law_164 : decode cL_law 164 = .ok (.isub, 1) := by decide +kernel
theorem dL_law_165 : decode cL_law 165 = .ok (.invokestatic 21, 3) := by decide +kernel
theorem dL_law_168 : decode cL_law 168 = .ok (.iadd, 1) := by decide +kernel
theorem dL_law_169 : decode cL_law 169 = .ok (.iload_n 2, 1) := by decide +kernel
theorem dL_law_170 : decode cL_law 170 = .ok (.irem, 1) := by decide +kernel
theorem dL_law_171 : decode cL_law 171 = .ok (.istore 12, 2) := by decide +kernel
theorem dL_law_173 : decode cL_law 173 = .ok (.aload_n 1, 1) := by decide +kernel
theorem dL_law_174 : decode cL_law 174 = .ok (.iload 11, 2) := by decide +kernel
theorem dL_law_176 : decode cL_law 176 = .ok (.iload 12, 2) := by decide +kernel
theorem dL_law_178 : decode cL_law 178 = .ok (.invokevirtual 29, 3) := by decide +kernel
theorem dL_law_181 : decode cL_law 181 = .ok (.iload 11, 2) := by decide +kernel
theorem dL_law_183 : decode cL_law 183 = .ok (.iload 6, 2) := by decide +kernel
theorem dL_law_185 : decode cL_law 185 = .ok (.if_icmp .ne 10, 3) := by decide +kernel
theorem dL_law_188 : decode cL_law 188 = .ok (.iload 12, 2) := by decide +kernel
theorem dL_law_190 : decode cL_law 190 = .ok (.iload 7, 2) := by decide +kernel
theorem dL_law_192 : decode cL_law 192 = .ok (.if_icmp .eq 7, 3) := by decide +kernel
theorem dL_law_195 : decode cL_law 195 = .ok (.iconst 1, 1) := by decide +kernel
theorem dL_law_196 : decode cL_law 196 = .ok (.goto 4, 3) := by decide +kernel
theorem dL_law_199 : decode cL_law 199 = .ok (.iconst 0, 1) := by decide +kernel
theorem dL_law_200 : decode cL_law 200 = .ok (.if_icmp .eq 5, 3) := by decide +kernel
theorem dL_law_203 : decode cL_law 203 = .ok (.iconst 0, 1) := by decide +kernel
theorem dL_law_204 : decode cL_law 204 = .ok (.ireturn, 1) := by decide +kernel
theorem dL_law_205 : decode cL_law 205 = .ok (.iload 11, 2) := by decide +kernel
theorem dL_law_207 : decode cL_law 207 = .ok (.istore 6, 2) := by decide +kernel
theorem dL_law_209 : decode cL_law 209 = .ok (.iload 12, 2) := by decide +kernel
theorem dL_law_211 : decode cL_law 211 = .ok (.istore 7, 2) := by decide +kernel
theorem dL_law_213 : decode cL_law 213 = .ok (.goto 70, 3) := by decide +kernel
theorem dL_law_216 : decode cL_law 216 = .ok (.iload 9, 2) := by decide +kernel
theorem dL_law_218 : decode cL_law 218 = .ok (.bipush 8, 2) := by decide +kernel
theorem dL_law_220 : decode cL_law 220 = .ok (.ishr, 1) := by decide +kernel
theorem dL_law_221 : decode cL_law 221 = .ok (.iload_n 2, 1) := by decide +kernel
theorem dL_law_222 : decode cL_law 222 = .ok (.invokestatic 21, 3) := by decide +kernel
theorem dL_law_225 : decode cL_law 225 = .ok (.istore 11, 2) := by decide +kernel
theorem dL_law_227 : decode cL_law 227 = .ok (.iconst 0, 1) := by decide +kernel
theorem dL_law_228 : decode cL_law 228 = .ok (.istore 12, 2) := by decide +kernel
theorem dL_law_230 : decode cL_law 230 = .ok (.iload 12, 2) := by decide +kernel
theorem dL_law_232 : decode cL_law 232 = .ok (.bipush 7, 2) := by decide +kernel
theorem dL_law_234 : decode cL_law 234 = .ok (.if_icmp .ge 35, 3) := by decide +kernel
theorem dL_law_237 : decode cL_law 237 = .ok (.aload_n 3, 1) := by decide +kernel
theorem dL_law_238 : decode cL_law 238 = .ok (.iload 12, 2) := by decide +kernel
theorem dL_law_240 : decode cL_law 240 = .ok (.iaload, 1) := by decide +kernel
theorem dL_law_241 : decode cL_law 241 = .ok (.iload 11, 2) := by decide +kernel
theorem dL_law_243 : decode cL_law 243 = .ok (.if_icmp .ne 20, 3) := by decide +kernel
theorem dL_law_246 : decode cL_law 246 = .ok (.aload 5, 2) := by decide +kernel
theorem dL_law_248 : decode cL_law 248 = .ok (.iload 12, 2) := by decide +kernel
theorem dL_law_250 : decode cL_law 250 = .ok (.iconst 2, 1) := by decide +kernel
theorem dL_law_251 : decode cL_law 251 = .ok (.aload 5, 2) := by decide +kernel
theorem dL_law_253 : decode cL_law 253 = .ok (.iload 12, 2) := by decide +kernel
theorem dL_law_255 : decode cL_law 255 = .ok (.iaload, 1) := by decide +kernel
theorem dL_law_256 : decode cL_law 256 = .ok (.imul, 1) := by decide +kernel
theorem dL_law_257 : decode cL_law 257 = .ok (.ldc 52, 2) := by decide +kernel
theorem dL_law_259 : decode cL_law 259 = .ok (.invokestatic 39, 3) := by decide +kernel
theorem dL_law_262 : decode cL_law 262 = .ok (.iastore, 1) := by decide +kernel
theorem dL_law_263 : decode cL_law 263 = .ok (.iinc 12 1, 3) := by decide +kernel
theorem dL_law_266 : decode cL_law 266 = .ok (.goto (-36), 3) := by decide +kernel
theorem dL_law_269 : decode cL_law 269 = .ok (.aload_n 1, 1) := by decide +kernel
theorem dL_law_270 : decode cL_law 270 = .ok (.iload 11, 2) := by decide +kernel
theorem dL_law_272 : decode cL_law 272 = .ok (.ldc2_w 53, 3) := by decide +kernel
theorem dL_law_275 : decode cL_law 275 = .ok (.invokevirtual 55, 3) := by decide +kernel
theorem dL_law_278 : decode cL_law 278 = .ok (.ifCond .ge 5, 3) := by decide +kernel
theorem dL_law_281 : decode cL_law 281 = .ok (.iconst 0, 1) := by decide +kernel
theorem dL_law_282 : decode cL_law 282 = .ok (.ireturn, 1) := by decide +kernel
theorem dL_law_283 : decode cL_law 283 = .ok (.ldc 7, 2) := by decide +kernel
theorem dL_law_285 : decode cL_law 285 = .ok (.istore 11, 2) := by decide +kernel
theorem dL_law_287 : decode cL_law 287 = .ok (.iconst (-1), 1) := by decide +kernel
theorem dL_law_288 : decode cL_law 288 = .ok (.istore 12, 2) := by decide +kernel
theorem dL_law_290 : decode cL_law 290 = .ok (.iconst 0, 1) := by decide +kernel
theorem dL_law_291 : decode cL_law 291 = .ok (.istore 13, 2) := by decide +kernel
theorem dL_law_293 : decode cL_law 293 = .ok (.iconst 0, 1) := by decide +kernel
theorem dL_law_294 : decode cL_law 294 = .ok (.istore 14, 2) := by decide +kernel
theorem dL_law_296 : decode cL_law 296 = .ok (.iload 14, 2) := by decide +kernel
theorem dL_law_298 : decode cL_law 298 = .ok (.iconst 1, 1) := by decide +kernel
theorem dL_law_299 : decode cL_law 299 = .ok (.iload_n 2, 1) := by decide +kernel
theorem dL_law_300 : decode cL_law 300 = .ok (.ishl, 1) := by decide +kernel
theorem dL_law_301 : decode cL_law 301 = .ok (.if_icmp .ge 97, 3) := by decide +kernel
theorem dL_law_304 : decode cL_law 304 = .ok (.iload 14, 2) := by decide +kernel
theorem dL_law_306 : decode cL_law 306 = .ok (.iload 6, 2) := by decide +kernel
theorem dL_law_308 : decode cL_law 308 = .ok (.ishr, 1) := by decide +kernel
theorem dL_law_309 : decode cL_law 309 = .ok (.iconst 1, 1) := by decide +kernel
theorem dL_law_310 : decode cL_law 310 = .ok (.iand, 1) := by decide +kernel
theorem dL_law_311 : decode cL_law 311 = .ok (.ifCond .eq 81, 3) := by decide +kernel
theorem dL_law_314 : decode cL_law 314 = .ok (.iload 14, 2) := by decide +kernel
theorem dL_law_316 : decode cL_law 316 = .ok (.iload 7, 2) := by decide +kernel
theorem dL_law_318 : decode cL_law 318 = .ok (.ishr, 1) := by decide +kernel
theorem dL_law_319 : decode cL_law 319 = .ok (.iconst 1, 1) := by decide +kernel
theorem dL_law_320 : decode cL_law 320 = .ok (.iand, 1) := by decide +kernel
theorem dL_law_321 : decode cL_law 321 = .ok (.iconst 1, 1) := by decide +kernel
theorem dL_law_322 : decode cL_law 322 = .ok (.if_icmp .ne 6, 3) := by decide +kernel
theorem dL_law_325 : decode cL_law 325 = .ok (.goto 67, 3) := by decide +kernel
theorem dL_law_328 : decode cL_law 328 = .ok (.iload 14, 2) := by decide +kernel
theorem dL_law_330 : decode cL_law 330 = .ok (.aload_n 3, 1) := by decide +kernel
theorem dL_law_331 : decode cL_law 331 = .ok (.aload 4, 2) := by decide +kernel
theorem dL_law_333 : decode cL_law 333 = .ok (.aload 5, 2) := by decide +kernel
theorem dL_law_335 : decode cL_law 335 = .ok (.invokestatic 35, 3) := by decide +kernel
theorem dL_law_338 : decode cL_law 338 = .ok (.istore 15, 2) := by decide +kernel
theorem dL_law_340 : decode cL_law 340 = .ok (.iload 15, 2) := by decide +kernel
theorem dL_law_342 : decode cL_law 342 = .ok (.iload 11, 2) := by decide +kernel
theorem dL_law_344 : decode cL_law 344 = .ok (.if_icmp .le 6, 3) := by decide +kernel
theorem dL_law_347 : decode cL_law 347 = .ok (.goto 45, 3) := by decide +kernel
theorem dL_law_350 : decode cL_law 350 = .ok (.iload 15, 2) := by decide +kernel
theorem dL_law_352 : decode cL_law 352 = .ok (.iload 11, 2) := by decide +kernel
theorem dL_law_354 : decode cL_law 354 = .ok (.if_icmp .ge 8, 3) := by decide +kernel
theorem dL_law_357 : decode cL_law 357 = .ok (.iload 14, 2) := by decide +kernel
theorem dL_law_359 : decode cL_law 359 = .ok (.goto 8, 3) := by decide +kernel
theorem dL_law_362 : decode cL_law 362 = .ok (.iload 12, 2) := by decide +kernel
theorem dL_law_364 : decode cL_law 364 = .ok (.iload 14, 2) := by decide +kernel
theorem dL_law_366 : decode cL_law 366 = .ok (.iand, 1) := by decide +kernel
theorem dL_law_367 : decode cL_law 367 = .ok (.istore 12, 2) := by decide +kernel
theorem dL_law_369 : decode cL_law 369 = .ok (.iload 15, 2) := by decide +kernel
theorem dL_law_371 : decode cL_law 371 = .ok (.iload 11, 2) := by decide +kernel
theorem dL_law_373 : decode cL_law 373 = .ok (.if_icmp .ge 8, 3) := by decide +kernel
theorem dL_law_376 : decode cL_law 376 = .ok (.iload 14, 2) := by decide +kernel
theorem dL_law_378 : decode cL_law 378 = .ok (.goto 8, 3) := by decide +kernel
theorem dL_law_381 : decode cL_law 381 = .ok (.iload 13, 2) := by decide +kernel
theorem dL_law_383 : decode cL_law 383 = .ok (.iload 14, 2) := by decide +kernel
theorem dL_law_385 : decode cL_law 385 = .ok (.ior, 1) := by decide +kernel
theorem dL_law_386 : decode cL_law 386 = .ok (.istore 13, 2) := by decide +kernel
theorem dL_law_388 : decode cL_law 388 = .ok (.iload 15, 2) := by decide +kernel
theorem dL_law_390 : decode cL_law 390 = .ok (.istore 11, 2) := by decide +kernel
theorem dL_law_392 : decode cL_law 392 = .ok (.iinc 14 1, 3) := by decide +kernel
theorem dL_law_395 : decode cL_law 395 = .ok (.goto (-99), 3) := by decide +kernel
theorem dL_law_398 : decode cL_law 398 = .ok (.aload_n 1, 1) := by decide +kernel
theorem dL_law_399 : decode cL_law 399 = .ok (.invokevirtual 59, 3) := by decide +kernel
theorem dL_law_402 : decode cL_law 402 = .ok (.iload 11, 2) := by decide +kernel
theorem dL_law_404 : decode cL_law 404 = .ok (.if_icmp .ne 43, 3) := by decide +kernel
theorem dL_law_407 : decode cL_law 407 = .ok (.aload_n 1, 1) := by decide +kernel
theorem dL_law_408 : decode cL_law 408 = .ok (.invokevirtual 62, 3) := by decide +kernel
theorem dL_law_411 : decode cL_law 411 = .ok (.iload 12, 2) := by decide +kernel
theorem dL_law_413 : decode cL_law 413 = .ok (.if_icmp .ne 34, 3) := by decide +kernel
theorem dL_law_416 : decode cL_law 416 = .ok (.aload_n 1, 1) := by decide +kernel
theorem dL_law_417 : decode cL_law 417 = .ok (.invokevirtual 65, 3) := by decide +kernel
theorem dL_law_420 : decode cL_law 420 = .ok (.iload 13, 2) := by decide +kernel
theorem dL_law_422 : decode cL_law 422 = .ok (.if_icmp .ne 25, 3) := by decide +kernel
theorem dL_law_425 : decode cL_law 425 = .ok (.aload_n 1, 1) := by decide +kernel
theorem dL_law_426 : decode cL_law 426 = .ok (.iload 12, 2) := by decide +kernel
theorem dL_law_428 : decode cL_law 428 = .ok (.invokevirtual 68, 3) := by decide +kernel
theorem dL_law_431 : decode cL_law 431 = .ok (.iload 11, 2) := by decide +kernel
theorem dL_law_433 : decode cL_law 433 = .ok (.if_icmp .ne 14, 3) := by decide +kernel
theorem dL_law_436 : decode cL_law 436 = .ok (.aload_n 1, 1) := by decide +kernel
theorem dL_law_437 : decode cL_law 437 = .ok (.iload 13, 2) := by decide +kernel
theorem dL_law_439 : decode cL_law 439 = .ok (.invokevirtual 68, 3) := by decide +kernel
theorem dL_law_442 : decode cL_law 442 = .ok (.iload 11, 2) := by decide +kernel
theorem dL_law_444 : decode cL_law 444 = .ok (.if_icmp .eq 5, 3) := by decide +kernel
theorem dL_law_447 : decode cL_law 447 = .ok (.iconst 0, 1) := by decide +kernel
theorem dL_law_448 : decode cL_law 448 = .ok (.ireturn, 1) := by decide +kernel
theorem dL_law_449 : decode cL_law 449 = .ok (.aload_n 1, 1) := by decide +kernel
theorem dL_law_450 : decode cL_law 450 = .ok (.iload 10, 2) := by decide +kernel
theorem dL_law_452 : decode cL_law 452 = .ok (.invokevirtual 71, 3) := by decide +kernel
theorem dL_law_455 : decode cL_law 455 = .ok (.istore 14, 2) := by decide +kernel
theorem dL_law_457 : decode cL_law 457 = .ok (.aload_n 1, 1) := by decide +kernel
theorem dL_law_458 : decode cL_law 458 = .ok (.iload 10, 2) := by decide +kernel
theorem dL_law_460 : decode cL_law 460 = .ok (.invokevirtual 74, 3) := by decide +kernel
theorem dL_law_463 : decode cL_law 463 = .ok (.istore 15, 2) := by decide +kernel
theorem dL_law_465 : decode cL_law 465 = .ok (.iload 14, 2) := by decide +kernel
theorem dL_law_467 : decode cL_law 467 = .ok (.ifCond .lt 46, 3) := by decide +kernel
theorem dL_law_470 : decode cL_law 470 = .ok (.iload 14, 2) := by decide +kernel
theorem dL_law_472 : decode cL_law 472 = .ok (.iload 15, 2) := by decide +kernel
theorem dL_law_474 : decode cL_law 474 = .ok (.if_icmp .gt 39, 3) := by decide +kernel
theorem dL_law_477 : decode cL_law 477 = .ok (.iload 15, 2) := by decide +kernel
theorem dL_law_479 : decode cL_law 479 = .ok (.aload 5, 2) := by decide +kernel
theorem dL_law_481 : decode cL_law 481 = .ok (.iload 10, 2) := by decide +kernel
theorem dL_law_483 : decode cL_law 483 = .ok (.iaload, 1) := by decide +kernel
theorem dL_law_484 : decode cL_law 484 = .ok (.if_icmp .gt 29, 3) := by decide +kernel
theorem dL_law_487 : decode cL_law 487 = .ok (.aload_n 1, 1) := by decide +kernel
theorem dL_law_488 : decode cL_law 488 = .ok (.iload 10, 2) := by decide +kernel
theorem dL_law_490 : decode cL_law 490 = .ok (.iload 15, 2) := by decide +kernel
theorem dL_law_492 : decode cL_law 492 = .ok (.invokevirtual 77, 3) := by decide +kernel
theorem dL_law_495 : decode cL_law 495 = .ok (.iload 11, 2) := by decide +kernel
theorem dL_law_497 : decode cL_law 497 = .ok (.if_icmp .ne 16, 3) := by decide +kernel
theorem dL_law_500 : decode cL_law 500 = .ok (.aload_n 1, 1) := by decide +kernel
theorem dL_law_501 : decode cL_law 501 = .ok (.iload 6, 2) := by decide +kernel
theorem dL_law_503 : decode cL_law 503 = .ok (.iload 7, 2) := by decide +kernel
theorem dL_law_505 : decode cL_law 505 = .ok (.invokevirtual 80, 3) := by decide +kernel
theorem dL_law_508 : decode cL_law 508 = .ok (.iload 11, 2) := by decide +kernel
theorem dL_law_510 : decode cL_law 510 = .ok (.if_icmp .eq 5, 3) := by decide +kernel
theorem dL_law_513 : decode cL_law 513 = .ok (.iconst 0, 1) := by decide +kernel
theorem dL_law_514 : decode cL_law 514 = .ok (.ireturn, 1) := by decide +kernel
theorem dL_law_515 : decode cL_law 515 = .ok (.iinc 8 1, 3) := by decide +kernel
theorem dL_law_518 : decode cL_law 518 = .ok (.goto (-461), 3) := by decide +kernel
theorem dL_law_521 : decode cL_law 521 = .ok (.iconst 1, 1) := by decide +kernel
theorem dL_law_522 : decode cL_law 522 = .ok (.ireturn, 1) := by decide +kernel
abbrev vwCl : List vw_C := [(RX0, TX0, 3), (RX1, TX1, 3), (RX2, TX2, 4), (RX3, TX3, 6), (RX4, TX4, 6), (RX5, TX5, 7), (RX6, TX6, 5)]
