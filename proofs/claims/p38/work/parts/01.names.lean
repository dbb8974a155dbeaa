def RX0 : String := "SlabMap$Act"
def TX0 : u_T := fun k => match k with
  | 0 => ("SlabMap$Act", "sort", "I", false)
  | 1 => ("SlabMap$Act", "edge", "I", false)
  | 2 => ("SlabMap$Act", "x", "I", false)
  | 3 => ("SlabMap$Act", "y", "I", false)
  | 4 => ("SlabMap$Act", "toX", "I", false)
  | 5 => ("SlabMap$Act", "toY", "I", false)
  | _ => ("SlabMap$Act", "region", "I", false)
def tyX0 : Nat → FieldType := fun k => match k with
  | 0 => .int
  | 1 => .int
  | 2 => .int
  | 3 => .int
  | 4 => .int
  | 5 => .int
  | _ => .int
abbrev wsX00 : List Cond := u_ws RX0 TX0 7
theorem nmX0 : ∀ a, a < 7 → ∀ b, b < 7 → a ≠ b → (TX0 a).2.1 ≠ (TX0 b).2.1 := by decide +kernel
theorem tyX0_ok : ∀ k, k < 7 → parseFieldDescriptor (TX0 k).2.2.1 = some (tyX0 k) := by decide +kernel
def RX1 : String := "SlabMap$Colours"
def TX1 : u_T := fun k => match k with
  | 0 => ("SlabMap$Colours", "many", "I", false)
  | _ => ("SlabMap$Colours", "colour", "[I", true)
def tyX1 : Nat → FieldType := fun k => match k with
  | 0 => .int
  | _ => .array .int
abbrev wsX10 : List Cond := u_ws RX1 TX1 2
theorem nmX1 : ∀ a, a < 2 → ∀ b, b < 2 → a ≠ b → (TX1 a).2.1 ≠ (TX1 b).2.1 := by decide +kernel
theorem tyX1_ok : ∀ k, k < 2 → parseFieldDescriptor (TX1 k).2.2.1 = some (tyX1 k) := by decide +kernel
def RX2 : String := "SlabMap$Draws"
def TX2 : u_T := fun k => match k with
  | _ => ("SlabMap$Draws", "x", "J", false)
def tyX2 : Nat → FieldType := fun k => match k with
  | _ => .long
abbrev wsX20 : List Cond := u_ws RX2 TX2 1
theorem nmX2 : ∀ a, a < 1 → ∀ b, b < 1 → a ≠ b → (TX2 a).2.1 ≠ (TX2 b).2.1 := by decide +kernel
theorem tyX2_ok : ∀ k, k < 1 → parseFieldDescriptor (TX2 k).2.2.1 = some (tyX2 k) := by decide +kernel
def RX3 : String := "SlabMap$Edges"
def TX3 : u_T := fun k => match k with
  | 0 => ("SlabMap$Edges", "row", "[I", true)
  | _ => ("SlabMap$Edges", "count", "I", false)
def tyX3 : Nat → FieldType := fun k => match k with
  | 0 => .array .int
  | _ => .int
abbrev wsX30 : List Cond := u_ws RX3 TX3 2
theorem nmX3 : ∀ a, a < 2 → ∀ b, b < 2 → a ≠ b → (TX3 a).2.1 ≠ (TX3 b).2.1 := by decide +kernel
theorem tyX3_ok : ∀ k, k < 2 → parseFieldDescriptor (TX3 k).2.2.1 = some (tyX3 k) := by decide +kernel
def RX4 : String := "SlabMap$Ends"
def TX4 : u_T := fun k => match k with
  | 0 => ("SlabMap$Ends", "edge", "[I", true)
  | 1 => ("SlabMap$Ends", "firstLonger", "[I", true)
  | 2 => ("SlabMap$Ends", "nextAside", "[I", true)
  | 3 => ("SlabMap$Ends", "seen", "[I", true)
  | _ => ("SlabMap$Ends", "count", "I", false)
def tyX4 : Nat → FieldType := fun k => match k with
  | 0 => .array .int
  | 1 => .array .int
  | 2 => .array .int
  | 3 => .array .int
  | _ => .int
abbrev wsX40 : List Cond := u_ws RX4 TX4 5
theorem nmX4 : ∀ a, a < 5 → ∀ b, b < 5 → a ≠ b → (TX4 a).2.1 ≠ (TX4 b).2.1 := by decide +kernel
theorem tyX4_ok : ∀ k, k < 5 → parseFieldDescriptor (TX4 k).2.2.1 = some (tyX4 k) := by decide +kernel
def RX5 : String := "SlabMap$History"
def TX5 : u_T := fun k => match k with
  | 0 => ("SlabMap$History", "count", "I", false)
  | 1 => ("SlabMap$History", "rows", "[I", true)
  | _ => ("SlabMap$History", "next", "I", false)
def tyX5 : Nat → FieldType := fun k => match k with
  | 0 => .int
  | 1 => .array .int
  | _ => .int
abbrev wsX50 : List Cond := u_ws RX5 TX5 3
theorem nmX5 : ∀ a, a < 3 → ∀ b, b < 3 → a ≠ b → (TX5 a).2.1 ≠ (TX5 b).2.1 := by decide +kernel
theorem tyX5_ok : ∀ k, k < 3 → parseFieldDescriptor (TX5 k).2.2.1 = some (tyX5 k) := by decide +kernel
def RX6 : String := "SlabMap$Log"
def TX6 : u_T := fun k => match k with
  | 0 => ("SlabMap$Log", "rows", "[I", true)
  | _ => ("SlabMap$Log", "total", "I", false)
def tyX6 : Nat → FieldType := fun k => match k with
  | 0 => .array .int
  | _ => .int
abbrev wsX60 : List Cond := u_ws RX6 TX6 2
theorem nmX6 : ∀ a, a < 2 → ∀ b, b < 2 → a ≠ b → (TX6 a).2.1 ≠ (TX6 b).2.1 := by decide +kernel
theorem tyX6_ok : ∀ k, k < 2 → parseFieldDescriptor (TX6 k).2.2.1 = some (tyX6 k) := by decide +kernel
def RX7 : String := "SlabMap$Reader"
def TX7 : u_T := fun k => match k with
  | 0 => ("SlabMap$Reader", "edges", "[I", true)
  | 1 => ("SlabMap$Reader", "edgeCount", "I", false)
  | 2 => ("SlabMap$Reader", "names", "[I", true)
  | 3 => ("SlabMap$Reader", "steps", "LSlabMap$Steps;", true)
  | 4 => ("SlabMap$Reader", "tape", "LSlabMap$Tape;", true)
  | 5 => ("SlabMap$Reader", "next", "I", false)
  | _ => ("SlabMap$Reader", "fault", "I", false)
def tyX7 : Nat → FieldType := fun k => match k with
  | 0 => .array .int
  | 1 => .int
  | 2 => .array .int
  | 3 => .object "SlabMap$Steps"
  | 4 => .object "SlabMap$Tape"
  | 5 => .int
  | _ => .int
abbrev wsX70 : List Cond := u_ws RX7 TX7 7
theorem nmX7 : ∀ a, a < 7 → ∀ b, b < 7 → a ≠ b → (TX7 a).2.1 ≠ (TX7 b).2.1 := by decide +kernel
theorem tyX7_ok : ∀ k, k < 7 → parseFieldDescriptor (TX7 k).2.2.1 = some (tyX7 k) := by decide +kernel
def RX8 : String := "SlabMap$Slabs"
def TX8 : u_T := fun k => match k with
  | 0 => ("SlabMap$Slabs", "stale", "Z", false)
  | 1 => ("SlabMap$Slabs", "count", "I", false)
  | 2 => ("SlabMap$Slabs", "edges", "LSlabMap$Edges;", true)
  | 3 => ("SlabMap$Slabs", "cuts", "[I", true)
  | 4 => ("SlabMap$Slabs", "lengths", "[I", true)
  | 5 => ("SlabMap$Slabs", "lists", "[I", true)
  | 6 => ("SlabMap$Slabs", "partFrom", "[I", true)
  | 7 => ("SlabMap$Slabs", "partRegion", "[I", true)
  | 8 => ("SlabMap$Slabs", "parts", "I", false)
  | 9 => ("SlabMap$Slabs", "pointCounts", "[I", true)
  | _ => ("SlabMap$Slabs", "neighbourBits", "[I", true)
def tyX8 : Nat → FieldType := fun k => match k with
  | 0 => .boolean
  | 1 => .int
  | 2 => .object "SlabMap$Edges"
  | 3 => .array .int
  | 4 => .array .int
  | 5 => .array .int
  | 6 => .array .int
  | 7 => .array .int
  | 8 => .int
  | 9 => .array .int
  | _ => .array .int
abbrev wsX80 : List Cond := u_ws RX8 TX8 11
theorem nmX8 : ∀ a, a < 11 → ∀ b, b < 11 → a ≠ b → (TX8 a).2.1 ≠ (TX8 b).2.1 := by decide +kernel
theorem tyX8_ok : ∀ k, k < 11 → parseFieldDescriptor (TX8 k).2.2.1 = some (tyX8 k) := by decide +kernel
def RX9 : String := "SlabMap$Steps"
def TX9 : u_T := fun k => match k with
  | 0 => ("SlabMap$Steps", "numbers", "[I", true)
  | _ => ("SlabMap$Steps", "count", "I", false)
def tyX9 : Nat → FieldType := fun k => match k with
  | 0 => .array .int
  | _ => .int
abbrev wsX90 : List Cond := u_ws RX9 TX9 2
theorem nmX9 : ∀ a, a < 2 → ∀ b, b < 2 → a ≠ b → (TX9 a).2.1 ≠ (TX9 b).2.1 := by decide +kernel
theorem tyX9_ok : ∀ k, k < 2 → parseFieldDescriptor (TX9 k).2.2.1 = some (tyX9 k) := by decide +kernel
def RX10 : String := "SlabMap$Tape"
def TX10 : u_T := fun k => match k with
  | 0 => ("SlabMap$Tape", "bytes", "[I", true)
  | _ => ("SlabMap$Tape", "length", "I", false)
def tyX10 : Nat → FieldType := fun k => match k with
  | 0 => .array .int
  | _ => .int
abbrev wsX100 : List Cond := u_ws RX10 TX10 2
theorem nmX10 : ∀ a, a < 2 → ∀ b, b < 2 → a ≠ b → (TX10 a).2.1 ≠ (TX10 b).2.1 := by decide +kernel
theorem tyX10_ok : ∀ k, k < 2 → parseFieldDescriptor (TX10 k).2.2.1 = some (tyX10 k) := by decide +kernel
def RX11 : String := "SlabMap"
def TX11 : u_T := fun k => match k with
  | 0 => ("SlabMap", "tape", "LSlabMap$Tape;", true)
  | 1 => ("SlabMap", "reader", "LSlabMap$Reader;", true)
  | 2 => ("SlabMap", "names", "[I", true)
  | 3 => ("SlabMap", "scripts", "[LSlabMap$Steps;", true)
  | 4 => ("SlabMap", "scriptCount", "I", false)
  | 5 => ("SlabMap", "hasMap", "Z", false)
  | 6 => ("SlabMap", "now", "LSlabMap$Edges;", true)
  | 7 => ("SlabMap", "nowSlabs", "LSlabMap$Slabs;", true)
  | 8 => ("SlabMap", "other", "LSlabMap$Edges;", true)
  | 9 => ("SlabMap", "otherSlabs", "LSlabMap$Slabs;", true)
  | 10 => ("SlabMap", "history", "LSlabMap$History;", true)
  | 11 => ("SlabMap", "log", "LSlabMap$Log;", true)
  | 12 => ("SlabMap", "hasImage", "Z", false)
  | 13 => ("SlabMap", "image", "LSlabMap$Edges;", true)
  | 14 => ("SlabMap", "imageLog", "LSlabMap$Log;", true)
  | 15 => ("SlabMap", "status", "[I", true)
  | 16 => ("SlabMap", "act", "LSlabMap$Act;", true)
  | 17 => ("SlabMap", "ends", "LSlabMap$Ends;", true)
  | _ => ("SlabMap", "colours", "LSlabMap$Colours;", true)
def tyX11 : Nat → FieldType := fun k => match k with
  | 0 => .object "SlabMap$Tape"
  | 1 => .object "SlabMap$Reader"
  | 2 => .array .int
  | 3 => .array (.object "SlabMap$Steps")
  | 4 => .int
  | 5 => .boolean
  | 6 => .object "SlabMap$Edges"
  | 7 => .object "SlabMap$Slabs"
  | 8 => .object "SlabMap$Edges"
  | 9 => .object "SlabMap$Slabs"
  | 10 => .object "SlabMap$History"
  | 11 => .object "SlabMap$Log"
  | 12 => .boolean
  | 13 => .object "SlabMap$Edges"
  | 14 => .object "SlabMap$Log"
  | 15 => .array .int
  | 16 => .object "SlabMap$Act"
  | 17 => .object "SlabMap$Ends"
  | _ => .object "SlabMap$Colours"
abbrev wsX110 : List Cond := u_ws RX11 TX11 19
theorem nmX11 : ∀ a, a < 19 → ∀ b, b < 19 → a ≠ b → (TX11 a).2.1 ≠ (TX11 b).2.1 := by decide +kernel
theorem tyX11_ok : ∀ k, k < 19 → parseFieldDescriptor (TX11 k).2.2.1 = some (tyX11 k) := by decide +kernel
def RX12 : String := "SlabMapModel"
def TX12 : u_T := fun k => match k with
  | 0 => ("SlabMapModel", "thrown", "I", false)
  | 1 => ("SlabMapModel", "tape", "[I", true)
  | 2 => ("SlabMapModel", "taped", "I", false)
  | 3 => ("SlabMapModel", "at", "I", false)
  | 4 => ("SlabMapModel", "wrong", "I", false)
  | 5 => ("SlabMapModel", "readEdge", "[I", true)
  | 6 => ("SlabMapModel", "readName", "[I", true)
  | 7 => ("SlabMapModel", "readLong", "[I", true)
  | 8 => ("SlabMapModel", "readMany", "I", false)
  | 9 => ("SlabMapModel", "script", "[I", true)
  | 10 => ("SlabMapModel", "scriptLong", "[I", true)
  | 11 => ("SlabMapModel", "scripts", "I", false)
  | 12 => ("SlabMapModel", "now", "[I", true)
  | 13 => ("SlabMapModel", "look", "[I", true)
  | 14 => ("SlabMapModel", "refused", "[I", true)
  | 15 => ("SlabMapModel", "name", "[I", true)
  | 16 => ("SlabMapModel", "nameLong", "[I", true)
  | 17 => ("SlabMapModel", "isMap", "Z", false)
  | 18 => ("SlabMapModel", "from", "[I", true)
  | 19 => ("SlabMapModel", "list", "[I", true)
  | 20 => ("SlabMapModel", "listLong", "[I", true)
  | 21 => ("SlabMapModel", "ends", "I", false)
  | 22 => ("SlabMapModel", "slabs", "I", false)
  | 23 => ("SlabMapModel", "colour", "[I", true)
  | 24 => ("SlabMapModel", "besides", "[I", true)
  | 25 => ("SlabMapModel", "endEdge", "[I", true)
  | 26 => ("SlabMapModel", "endAbove", "[I", true)
  | 27 => ("SlabMapModel", "endMany", "[I", true)
  | 28 => ("SlabMapModel", "endThen", "[I", true)
  | 29 => ("SlabMapModel", "kept", "[I", true)
  | 30 => ("SlabMapModel", "acts", "I", false)
  | 31 => ("SlabMapModel", "drawn", "J", false)
  | 32 => ("SlabMapModel", "regionThen", "[I", true)
  | 33 => ("SlabMapModel", "listThen", "[I", true)
  | 34 => ("SlabMapModel", "longThen", "[I", true)
  | 35 => ("SlabMapModel", "slabsThen", "I", false)
  | 36 => ("SlabMapModel", "aside", "[I", true)
  | 37 => ("SlabMapModel", "image", "[I", true)
  | _ => ("SlabMapModel", "hasImage", "Z", false)
def tyX12 : Nat → FieldType := fun k => match k with
  | 0 => .int
  | 1 => .array .int
  | 2 => .int
  | 3 => .int
  | 4 => .int
  | 5 => .array .int
  | 6 => .array .int
  | 7 => .array .int
  | 8 => .int
  | 9 => .array .int
  | 10 => .array .int
  | 11 => .int
  | 12 => .array .int
  | 13 => .array .int
  | 14 => .array .int
  | 15 => .array .int
  | 16 => .array .int
  | 17 => .boolean
  | 18 => .array .int
  | 19 => .array .int
  | 20 => .array .int
  | 21 => .int
  | 22 => .int
  | 23 => .array .int
  | 24 => .array .int
  | 25 => .array .int
  | 26 => .array .int
  | 27 => .array .int
  | 28 => .array .int
  | 29 => .array .int
  | 30 => .int
  | 31 => .long
  | 32 => .array .int
  | 33 => .array .int
  | 34 => .array .int
  | 35 => .int
  | 36 => .array .int
  | 37 => .array .int
  | _ => .boolean
abbrev wsX120 : List Cond := u_ws RX12 TX12 39
theorem nmX12 : ∀ a, a < 39 → ∀ b, b < 39 → a ≠ b → (TX12 a).2.1 ≠ (TX12 b).2.1 := by decide +kernel
theorem tyX12_ok : ∀ k, k < 39 → parseFieldDescriptor (TX12 k).2.2.1 = some (tyX12 k) := by decide +kernel
abbrev z_cls : List vw_C := [(RX0, TX0, 7), (RX1, TX1, 2), (RX2, TX2, 1), (RX3, TX3, 2), (RX4, TX4, 5), (RX5, TX5, 3), (RX6, TX6, 2), (RX7, TX7, 7), (RX8, TX8, 11), (RX9, TX9, 2), (RX10, TX10, 2), (RX11, TX11, 19), (RX12, TX12, 39)]
def z_nf (c : Nat) : Nat := ([7, 2, 1, 2, 5, 3, 2, 7, 11, 2, 2, 19, 39] : List Nat).getD c 0
def z_ty (c : Nat) : Nat → FieldType := ([tyX0, tyX1, tyX2, tyX3, tyX4, tyX5, tyX6, tyX7, tyX8, tyX9, tyX10, tyX11, tyX12] : List (Nat → FieldType)).getD c (fun _ => .int)
/-! methods: name, code, locals, what it returns -/
def z_mt0 : List (MethodName × ByteArray × Nat × Option FieldType) := [(⟨"SlabMap$Act", "<init>", "()V"⟩, prog_2_method_1_code, 1, none),
  (⟨"SlabMap$Act", "setAdded", "(IIIII)V"⟩, prog_2_method_2_code, 6, none),
  (⟨"SlabMap$Act", "setGone", "(I)V"⟩, prog_2_method_3_code, 2, none),
  (⟨"SlabMap$Act", "setTold", "(II)V"⟩, prog_2_method_4_code, 3, none),
  (⟨"SlabMap$Act", "setMoved", "(II)V"⟩, prog_2_method_5_code, 3, none),
  (⟨"SlabMap$Act", "takeStep", "(LSlabMap$Steps;I)V"⟩, prog_2_method_6_code, 3, none),
  (⟨"SlabMap$Act", "takeNumbers", "(I[II)V"⟩, prog_2_method_7_code, 4, none),
  (⟨"SlabMap$Act", "numberToLog", "(I)I"⟩, prog_2_method_8_code, 2, some .int),
  (⟨"SlabMap$Colours", "<init>", "()V"⟩, prog_3_method_1_code, 1, none),
  (⟨"SlabMap$Colours", "paint", "([I)V"⟩, prog_3_method_2_code, 3, none),
  (⟨"SlabMap$Colours", "of", "(I)I"⟩, prog_3_method_3_code, 2, some .int),
  (⟨"SlabMap$Colours", "paintFrom", "(III[I[I)Z"⟩, prog_3_method_4_code, 6, some .boolean),
  (⟨"SlabMap$Colours", "isFree", "(II[I[I)Z"⟩, prog_3_method_5_code, 5, some .boolean),
  (⟨"SlabMap$Draws", "<init>", "(J)V"⟩, prog_4_method_1_code, 3, none),
  (⟨"SlabMap$Draws", "below", "(I)I"⟩, prog_4_method_2_code, 2, some .int),
  (⟨"SlabMap$Edges", "<init>", "()V"⟩, prog_5_method_1_code, 1, none),
  (⟨"SlabMap$Edges", "clear", "()V"⟩, prog_5_method_2_code, 1, none),
  (⟨"SlabMap$Edges", "copy", "(LSlabMap$Edges;)V"⟩, prog_5_method_3_code, 2, none),
  (⟨"SlabMap$Edges", "takeRow", "([II)V"⟩, prog_5_method_4_code, 4, none),
  (⟨"SlabMap$Edges", "has", "(I)Z"⟩, prog_5_method_5_code, 2, some .boolean)]
def z_mt1 : List (MethodName × ByteArray × Nat × Option FieldType) := [(⟨"SlabMap$Edges", "x", "(I)I"⟩, prog_5_method_6_code, 2, some .int),
  (⟨"SlabMap$Edges", "y", "(I)I"⟩, prog_5_method_7_code, 2, some .int),
  (⟨"SlabMap$Edges", "toX", "(I)I"⟩, prog_5_method_8_code, 2, some .int),
  (⟨"SlabMap$Edges", "toY", "(I)I"⟩, prog_5_method_9_code, 2, some .int),
  (⟨"SlabMap$Edges", "region", "(I)I"⟩, prog_5_method_10_code, 2, some .int),
  (⟨"SlabMap$Edges", "width", "(I)I"⟩, prog_5_method_11_code, 2, some .int),
  (⟨"SlabMap$Edges", "height", "(II)I"⟩, prog_5_method_12_code, 4, some .int),
  (⟨"SlabMap$Edges", "isHigher", "(III)Z"⟩, prog_5_method_13_code, 4, some .boolean),
  (⟨"SlabMap$Edges", "isOver", "(III)Z"⟩, prog_5_method_14_code, 4, some .boolean),
  (⟨"SlabMap$Edges", "firstAbove", "(II)I"⟩, prog_5_method_15_code, 4, some .int),
  (⟨"SlabMap$Edges", "stepsAbove", "(III)I"⟩, prog_5_method_16_code, 5, some .int),
  (⟨"SlabMap$Edges", "meets", "(IIIII)Z"⟩, prog_5_method_17_code, 8, some .boolean),
  (⟨"SlabMap$Edges", "areOpposite", "(II)Z"⟩, prog_5_method_18_code, 2, some .boolean),
  (⟨"SlabMap$Edges", "turn", "(IIIIII)I"⟩, prog_5_method_19_code, 6, some .int),
  (⟨"SlabMap$Edges", "firstCrossed", "(IIII)I"⟩, prog_5_method_20_code, 6, some .int),
  (⟨"SlabMap$Edges", "refusal", "(LSlabMap$Act;)I"⟩, prog_5_method_21_code, 2, some .int),
  (⟨"SlabMap$Edges", "refusalToAdd", "(LSlabMap$Act;)I"⟩, prog_5_method_22_code, 3, some .int),
  (⟨"SlabMap$Edges", "refusalToTell", "(LSlabMap$Act;)I"⟩, prog_5_method_23_code, 2, some .int),
  (⟨"SlabMap$Edges", "refusalToMove", "(LSlabMap$Act;)I"⟩, prog_5_method_24_code, 3, some .int),
  (⟨"SlabMap$Edges", "isStep", "(I)Z"⟩, prog_5_method_25_code, 1, some .boolean)]
def z_mt2 : List (MethodName × ByteArray × Nat × Option FieldType) := [(⟨"SlabMap$Edges", "apply", "(LSlabMap$Act;)I"⟩, prog_5_method_26_code, 2, some .int),
  (⟨"SlabMap$Edges", "applyAdded", "(LSlabMap$Act;)I"⟩, prog_5_method_27_code, 3, some .int),
  (⟨"SlabMap$Edges", "applyRegion", "(II)I"⟩, prog_5_method_28_code, 4, some .int),
  (⟨"SlabMap$Edges", "applyMoved", "(LSlabMap$Act;)I"⟩, prog_5_method_29_code, 3, some .int),
  (⟨"SlabMap$Edges", "endBits", "()J"⟩, prog_5_method_30_code, 4, some .long),
  (⟨"SlabMap$Edges", "slabCount", "()I"⟩, prog_5_method_31_code, 1, some .int),
  (⟨"SlabMap$Edges", "regionsTold", "()I"⟩, prog_5_method_32_code, 3, some .int),
  (⟨"SlabMap$Edges", "longest", "()I"⟩, prog_5_method_33_code, 3, some .int),
  (⟨"SlabMap$Edges", "endPoints", "()I"⟩, prog_5_method_34_code, 6, some .int),
  (⟨"SlabMap$Ends", "<init>", "()V"⟩, prog_6_method_1_code, 1, none),
  (⟨"SlabMap$Ends", "shared", "(LSlabMap$Slabs;LSlabMap$Slabs;)I"⟩, prog_6_method_2_code, 5, some .int),
  (⟨"SlabMap$Ends", "take", "(LSlabMap$Slabs;I)V"⟩, prog_6_method_3_code, 6, none),
  (⟨"SlabMap$Ends", "longerBy", "(II)I"⟩, prog_6_method_4_code, 5, some .int),
  (⟨"SlabMap$Ends", "longer", "(II)I"⟩, prog_6_method_5_code, 3, some .int),
  (⟨"SlabMap$History", "<init>", "()V"⟩, prog_7_method_1_code, 1, none),
  (⟨"SlabMap$History", "clear", "()V"⟩, prog_7_method_2_code, 1, none),
  (⟨"SlabMap$History", "keep", "(LSlabMap$Edges;)V"⟩, prog_7_method_3_code, 2, none),
  (⟨"SlabMap$History", "recall", "(ILSlabMap$Edges;)V"⟩, prog_7_method_4_code, 3, none),
  (⟨"SlabMap$History", "takeBack", "(LSlabMap$Edges;)V"⟩, prog_7_method_5_code, 2, none),
  (⟨"SlabMap$Log", "<init>", "()V"⟩, prog_8_method_1_code, 1, none)]
def z_mt3 : List (MethodName × ByteArray × Nat × Option FieldType) := [(⟨"SlabMap$Log", "clear", "()V"⟩, prog_8_method_2_code, 1, none),
  (⟨"SlabMap$Log", "copy", "(LSlabMap$Log;)V"⟩, prog_8_method_3_code, 2, none),
  (⟨"SlabMap$Log", "note", "(III)V"⟩, prog_8_method_4_code, 5, none),
  (⟨"SlabMap$Log", "forgetLatest", "()V"⟩, prog_8_method_5_code, 1, none),
  (⟨"SlabMap$Log", "length", "()I"⟩, prog_8_method_6_code, 1, some .int),
  (⟨"SlabMap$Log", "told", "(II)I"⟩, prog_8_method_7_code, 3, some .int),
  (⟨"SlabMap$Reader", "<init>", "(LSlabMap$Tape;)V"⟩, prog_9_method_1_code, 2, none),
  (⟨"SlabMap$Reader", "readMap", "()I"⟩, prog_9_method_2_code, 3, some .int),
  (⟨"SlabMap$Reader", "readScript", "()I"⟩, prog_9_method_3_code, 3, some .int),
  (⟨"SlabMap$Reader", "begin", "()V"⟩, prog_9_method_4_code, 1, none),
  (⟨"SlabMap$Reader", "fail", "()V"⟩, prog_9_method_5_code, 1, none),
  (⟨"SlabMap$Reader", "sign", "()I"⟩, prog_9_method_6_code, 1, some .int),
  (⟨"SlabMap$Reader", "digitOf", "(I)I"⟩, prog_9_method_7_code, 1, some .int),
  (⟨"SlabMap$Reader", "isLetter", "(I)Z"⟩, prog_9_method_8_code, 1, some .boolean),
  (⟨"SlabMap$Reader", "skipBlanks", "()V"⟩, prog_9_method_9_code, 1, none),
  (⟨"SlabMap$Reader", "readsSemicolon", "()Z"⟩, prog_9_method_10_code, 1, some .boolean),
  (⟨"SlabMap$Reader", "readClause", "()V"⟩, prog_9_method_11_code, 2, none),
  (⟨"SlabMap$Reader", "readName", "()V"⟩, prog_9_method_12_code, 3, none),
  (⟨"SlabMap$Reader", "readStep", "(I)V"⟩, prog_9_method_13_code, 5, none),
  (⟨"SlabMap$Reader", "sortOf", "(I)I"⟩, prog_9_method_14_code, 1, some .int)]
def z_mt4 : List (MethodName × ByteArray × Nat × Option FieldType) := [(⟨"SlabMap$Reader", "readNumbers", "(I[II)V"⟩, prog_9_method_15_code, 5, none),
  (⟨"SlabMap$Reader", "greatest", "(II)I"⟩, prog_9_method_16_code, 2, some .int),
  (⟨"SlabMap$Reader", "readComma", "()V"⟩, prog_9_method_17_code, 1, none),
  (⟨"SlabMap$Reader", "readSigned", "()I"⟩, prog_9_method_18_code, 1, some .int),
  (⟨"SlabMap$Reader", "readNumber", "(I)I"⟩, prog_9_method_19_code, 3, some .int),
  (⟨"SlabMap$Slabs", "<init>", "(LSlabMap$Edges;)V"⟩, prog_10_method_1_code, 2, none),
  (⟨"SlabMap$Slabs", "cut", "()V"⟩, prog_10_method_2_code, 5, none),
  (⟨"SlabMap$Slabs", "fillList", "(I)V"⟩, prog_10_method_3_code, 3, none),
  (⟨"SlabMap$Slabs", "insert", "(II)V"⟩, prog_10_method_4_code, 6, none),
  (⟨"SlabMap$Slabs", "from", "(I)I"⟩, prog_10_method_5_code, 2, some .int),
  (⟨"SlabMap$Slabs", "to", "(I)I"⟩, prog_10_method_6_code, 2, some .int),
  (⟨"SlabMap$Slabs", "length", "(I)I"⟩, prog_10_method_7_code, 2, some .int),
  (⟨"SlabMap$Slabs", "member", "(II)I"⟩, prog_10_method_8_code, 3, some .int),
  (⟨"SlabMap$Slabs", "endIndex", "(I)I"⟩, prog_10_method_9_code, 3, some .int),
  (⟨"SlabMap$Slabs", "slabOf", "(I)I"⟩, prog_10_method_10_code, 4, some .int),
  (⟨"SlabMap$Slabs", "notHigher", "(III)I"⟩, prog_10_method_11_code, 5, some .int),
  (⟨"SlabMap$Slabs", "regionBelow", "(II)I"⟩, prog_10_method_12_code, 4, some .int),
  (⟨"SlabMap$Slabs", "members", "()I"⟩, prog_10_method_13_code, 3, some .int),
  (⟨"SlabMap$Slabs", "longest", "()I"⟩, prog_10_method_14_code, 3, some .int),
  (⟨"SlabMap$Slabs", "widest", "()I"⟩, prog_10_method_15_code, 3, some .int)]
def z_mt5 : List (MethodName × ByteArray × Nat × Option FieldType) := [(⟨"SlabMap$Slabs", "neighbours", "()[I"⟩, prog_10_method_16_code, 5, some (.array .int)),
  (⟨"SlabMap$Slabs", "couples", "()I"⟩, prog_10_method_17_code, 6, some .int),
  (⟨"SlabMap$Slabs", "idleEdges", "()I"⟩, prog_10_method_18_code, 6, some .int),
  (⟨"SlabMap$Slabs", "cutColumn", "(I)V"⟩, prog_10_method_19_code, 5, none),
  (⟨"SlabMap$Slabs", "partTo", "(I)I"⟩, prog_10_method_20_code, 2, some .int),
  (⟨"SlabMap$Slabs", "countPoints", "()[I"⟩, prog_10_method_21_code, 3, some (.array .int)),
  (⟨"SlabMap$Slabs", "regionsWithPoints", "()I"⟩, prog_10_method_22_code, 4, some .int),
  (⟨"SlabMap$Slabs", "regionWithMostPoints", "()I"⟩, prog_10_method_23_code, 5, some .int),
  (⟨"SlabMap$Slabs", "pointsLike", "(LSlabMap$Slabs;)I"⟩, prog_10_method_24_code, 5, some .int),
  (⟨"SlabMap$Slabs", "pointsInColumn", "(III)I"⟩, prog_10_method_25_code, 6, some .int),
  (⟨"SlabMap$Slabs", "listsLike", "(LSlabMap$Slabs;)I"⟩, prog_10_method_26_code, 4, some .int),
  (⟨"SlabMap$Slabs", "hasListOf", "(LSlabMap$Slabs;I)Z"⟩, prog_10_method_27_code, 4, some .boolean),
  (⟨"SlabMap$Slabs", "isListOf", "(ILSlabMap$Slabs;I)Z"⟩, prog_10_method_28_code, 5, some .boolean),
  (⟨"SlabMap$Steps", "<init>", "()V"⟩, prog_11_method_1_code, 1, none),
  (⟨"SlabMap$Steps", "copy", "(LSlabMap$Steps;)V"⟩, prog_11_method_2_code, 2, none),
  (⟨"SlabMap$Steps", "number", "(II)I"⟩, prog_11_method_3_code, 3, some .int),
  (⟨"SlabMap$Tape", "<init>", "()V"⟩, prog_12_method_1_code, 1, none),
  (⟨"SlabMap$Tape", "bytesIn", "(I)I"⟩, prog_12_method_2_code, 3, some .int),
  (⟨"SlabMap$Tape", "put", "(I)V"⟩, prog_12_method_3_code, 4, none),
  (⟨"SlabMap", "<init>", "()V"⟩, prog_1_method_1_code, 1, none)]
def z_mt6 : List (MethodName × ByteArray × Nat × Option FieldType) := [(⟨"SlabMap", "feed", "(IIIII)I"⟩, prog_1_method_2_code, 7, some .int),
  (⟨"SlabMap", "end", "(I)Z"⟩, prog_1_method_3_code, 2, some .boolean),
  (⟨"SlabMap", "fault", "(I)I"⟩, prog_1_method_4_code, 2, some .int),
  (⟨"SlabMap", "text", "(I)I"⟩, prog_1_method_5_code, 2, some .int),
  (⟨"SlabMap", "takeMap", "()I"⟩, prog_1_method_6_code, 2, some .int),
  (⟨"SlabMap", "takeScript", "()I"⟩, prog_1_method_7_code, 2, some .int),
  (⟨"SlabMap", "rule", "(I)I"⟩, prog_1_method_8_code, 2, some .int),
  (⟨"SlabMap", "namesTold", "()I"⟩, prog_1_method_9_code, 3, some .int),
  (⟨"SlabMap", "edge", "(II)I"⟩, prog_1_method_10_code, 3, some .int),
  (⟨"SlabMap", "slab", "(II)I"⟩, prog_1_method_11_code, 4, some .int),
  (⟨"SlabMap", "list", "(II)I"⟩, prog_1_method_12_code, 3, some .int),
  (⟨"SlabMap", "at", "(IIII)I"⟩, prog_1_method_13_code, 8, some .int),
  (⟨"SlabMap", "above", "(III)I"⟩, prog_1_method_14_code, 6, some .int),
  (⟨"SlabMap", "way", "(IIIII)I"⟩, prog_1_method_15_code, 8, some .int),
  (⟨"SlabMap", "points", "(II)I"⟩, prog_1_method_16_code, 4, some .int),
  (⟨"SlabMap", "beside", "(I)I"⟩, prog_1_method_17_code, 2, some .int),
  (⟨"SlabMap", "colours", "(I)I"⟩, prog_1_method_18_code, 2, some .int),
  (⟨"SlabMap", "add", "(IIIII)I"⟩, prog_1_method_19_code, 6, some .int),
  (⟨"SlabMap", "drop", "(I)I"⟩, prog_1_method_20_code, 2, some .int),
  (⟨"SlabMap", "tell", "(II)I"⟩, prog_1_method_21_code, 3, some .int)]
def z_mt7 : List (MethodName × ByteArray × Nat × Option FieldType) := [(⟨"SlabMap", "move", "(II)I"⟩, prog_1_method_22_code, 3, some .int),
  (⟨"SlabMap", "tryAct", "()I"⟩, prog_1_method_23_code, 2, some .int),
  (⟨"SlabMap", "doAct", "()I"⟩, prog_1_method_24_code, 2, some .int),
  (⟨"SlabMap", "ways", "(IJ)I"⟩, prog_1_method_25_code, 6, some .int),
  (⟨"SlabMap", "drawAct", "(LSlabMap$Draws;)V"⟩, prog_1_method_26_code, 4, none),
  (⟨"SlabMap", "drawAddition", "(LSlabMap$Draws;)V"⟩, prog_1_method_27_code, 7, none),
  (⟨"SlabMap", "status", "(I)I"⟩, prog_1_method_28_code, 2, some .int),
  (⟨"SlabMap", "undo", "()I"⟩, prog_1_method_29_code, 1, some .int),
  (⟨"SlabMap", "log", "(II)I"⟩, prog_1_method_30_code, 3, some .int),
  (⟨"SlabMap", "idle", "()I"⟩, prog_1_method_31_code, 1, some .int),
  (⟨"SlabMap", "ends", "(I)I"⟩, prog_1_method_32_code, 3, some .int),
  (⟨"SlabMap", "like", "(II)I"⟩, prog_1_method_33_code, 4, some .int),
  (⟨"SlabMap", "stairs", "(I)I"⟩, prog_1_method_34_code, 2, some .int),
  (⟨"SlabMap", "would", "(IIIIII)I"⟩, prog_1_method_35_code, 7, some .int),
  (⟨"SlabMap", "blocks", "(IIII)I"⟩, prog_1_method_36_code, 5, some .int),
  (⟨"SlabMap", "near", "(II)I"⟩, prog_1_method_37_code, 6, some .int),
  (⟨"SlabMap", "name", "(II)I"⟩, prog_1_method_38_code, 4, some .int),
  (⟨"SlabMap", "step", "(III)I"⟩, prog_1_method_39_code, 5, some .int),
  (⟨"SlabMap", "run", "(II)I"⟩, prog_1_method_40_code, 5, some .int),
  (⟨"SlabMap", "perform", "(I)I"⟩, prog_1_method_41_code, 5, some .int)]
def z_mt8 : List (MethodName × ByteArray × Nat × Option FieldType) := [(⟨"SlabMap", "tryOut", "(LSlabMap$Steps;)I"⟩, prog_1_method_42_code, 3, some .int),
  (⟨"SlabMap", "scriptAt", "(I)LSlabMap$Steps;"⟩, prog_1_method_43_code, 2, some (.object "SlabMap$Steps")),
  (⟨"SlabMap", "all", "(I)I"⟩, prog_1_method_44_code, 2, some .int),
  (⟨"SlabMap", "image", "()I"⟩, prog_1_method_45_code, 1, some .int),
  (⟨"SlabMap", "back", "()I"⟩, prog_1_method_46_code, 1, some .int),
  (⟨"SlabMap", "count", "(I)I"⟩, prog_1_method_47_code, 2, some .int),
  (⟨"SlabMap", "isPoint", "(II)Z"⟩, prog_1_method_48_code, 2, some .boolean),
  (⟨"SlabMap", "isRegion", "(I)Z"⟩, prog_1_method_49_code, 1, some .boolean),
  (⟨"SlabMap", "slabs", "()LSlabMap$Slabs;"⟩, prog_1_method_50_code, 1, some (.object "SlabMap$Slabs")),
  (⟨"SlabMap", "slabsAgo", "(I)LSlabMap$Slabs;"⟩, prog_1_method_51_code, 3, some (.object "SlabMap$Slabs")),
  (⟨"SlabMapModel", "in", "(III)Z"⟩, prog_14_method_1_code, 3, some .boolean),
  (⟨"SlabMapModel", "has", "(II)Z"⟩, prog_14_method_2_code, 2, some .boolean),
  (⟨"SlabMapModel", "bits", "(I)I"⟩, prog_14_method_3_code, 3, some .int),
  (⟨"SlabMapModel", "<init>", "()V"⟩, prog_14_method_4_code, 1, none),
  (⟨"SlabMapModel", "byteOf", "(IIIIII)I"⟩, prog_14_method_6_code, 7, some .int),
  (⟨"SlabMapModel", "feed", "(IIIII)I"⟩, prog_14_method_7_code, 9, some .int),
  (⟨"SlabMapModel", "end", "(I)Z"⟩, prog_14_method_8_code, 2, some .boolean),
  (⟨"SlabMapModel", "here", "()I"⟩, prog_14_method_9_code, 1, some .int),
  (⟨"SlabMapModel", "ahead", "()I"⟩, prog_14_method_10_code, 1, some .int),
  (⟨"SlabMapModel", "bad", "()V"⟩, prog_14_method_11_code, 1, none)]
def z_mt9 : List (MethodName × ByteArray × Nat × Option FieldType) := [(⟨"SlabMapModel", "isDigit", "(I)Z"⟩, prog_14_method_12_code, 1, some .boolean),
  (⟨"SlabMapModel", "isLetter", "(I)Z"⟩, prog_14_method_13_code, 1, some .boolean),
  (⟨"SlabMapModel", "digits", "(II)I"⟩, prog_14_method_14_code, 5, some .int),
  (⟨"SlabMapModel", "number", "(II)I"⟩, prog_14_method_15_code, 3, some .int),
  (⟨"SlabMapModel", "signedNumber", "(I)I"⟩, prog_14_method_16_code, 4, some .int),
  (⟨"SlabMapModel", "comma", "()V"⟩, prog_14_method_17_code, 1, none),
  (⟨"SlabMapModel", "fiveNumbers", "([II)V"⟩, prog_14_method_18_code, 4, none),
  (⟨"SlabMapModel", "readsName", "()V"⟩, prog_14_method_19_code, 3, none),
  (⟨"SlabMapModel", "clause", "()V"⟩, prog_14_method_20_code, 2, none),
  (⟨"SlabMapModel", "readMap", "()I"⟩, prog_14_method_21_code, 2, some .int),
  (⟨"SlabMapModel", "readStep", "(I)V"⟩, prog_14_method_22_code, 5, none),
  (⟨"SlabMapModel", "readScript", "(I)I"⟩, prog_14_method_23_code, 3, some .int),
  (⟨"SlabMapModel", "fault", "(I)I"⟩, prog_14_method_24_code, 2, some .int),
  (⟨"SlabMapModel", "isEdge", "(I)Z"⟩, prog_14_method_25_code, 2, some .boolean),
  (⟨"SlabMapModel", "lookAt", "([II)V"⟩, prog_14_method_26_code, 4, none),
  (⟨"SlabMapModel", "isThere", "(I)Z"⟩, prog_14_method_27_code, 2, some .boolean),
  (⟨"SlabMapModel", "of", "(II)I"⟩, prog_14_method_28_code, 3, some .int),
  (⟨"SlabMapModel", "regionOf", "(I)I"⟩, prog_14_method_29_code, 2, some .int),
  (⟨"SlabMapModel", "sign", "(I)I"⟩, prog_14_method_30_code, 1, some .int),
  (⟨"SlabMapModel", "side", "(IIIIII)I"⟩, prog_14_method_31_code, 6, some .int)]
def z_mt10 : List (MethodName × ByteArray × Nat × Option FieldType) := [(⟨"SlabMapModel", "overlaps", "(IIII)Z"⟩, prog_14_method_32_code, 4, some .boolean),
  (⟨"SlabMapModel", "meets", "(IIIII)Z"⟩, prog_14_method_33_code, 10, some .boolean),
  (⟨"SlabMapModel", "blockOf", "(IIII)I"⟩, prog_14_method_34_code, 6, some .int),
  (⟨"SlabMapModel", "takesEnd", "(I)V"⟩, prog_14_method_35_code, 4, none),
  (⟨"SlabMapModel", "isBelow", "(III)Z"⟩, prog_14_method_36_code, 8, some .boolean),
  (⟨"SlabMapModel", "takesInto", "(II)V"⟩, prog_14_method_37_code, 4, none),
  (⟨"SlabMapModel", "lays", "()V"⟩, prog_14_method_38_code, 3, none),
  (⟨"SlabMapModel", "laysNow", "()V"⟩, prog_14_method_39_code, 1, none),
  (⟨"SlabMapModel", "slabAt", "(I)I"⟩, prog_14_method_40_code, 3, some .int),
  (⟨"SlabMapModel", "over", "(III)I"⟩, prog_14_method_41_code, 5, some .int),
  (⟨"SlabMapModel", "countBelow", "(II)I"⟩, prog_14_method_42_code, 5, some .int),
  (⟨"SlabMapModel", "topAt", "(II)I"⟩, prog_14_method_43_code, 4, some .int),
  (⟨"SlabMapModel", "regionAt", "(II)I"⟩, prog_14_method_44_code, 4, some .int),
  (⟨"SlabMapModel", "pointsOf", "(I)I"⟩, prog_14_method_45_code, 5, some .int),
  (⟨"SlabMapModel", "regionBelow", "(II)I"⟩, prog_14_method_46_code, 3, some .int),
  (⟨"SlabMapModel", "besideOf", "(I)I"⟩, prog_14_method_47_code, 7, some .int),
  (⟨"SlabMapModel", "paints", "(II)Z"⟩, prog_14_method_48_code, 6, some .boolean),
  (⟨"SlabMapModel", "paintsAll", "()I"⟩, prog_14_method_49_code, 2, some .int),
  (⟨"SlabMapModel", "endAt", "(III)I"⟩, prog_14_method_50_code, 5, some .int),
  (⟨"SlabMapModel", "laysEnds", "(I)V"⟩, prog_14_method_51_code, 7, none)]
def z_mt11 : List (MethodName × ByteArray × Nat × Option FieldType) := [(⟨"SlabMapModel", "endsInBoth", "()I"⟩, prog_14_method_52_code, 6, some .int),
  (⟨"SlabMapModel", "clear", "(I)V"⟩, prog_14_method_53_code, 3, none),
  (⟨"SlabMapModel", "freeOne", "()I"⟩, prog_14_method_54_code, 2, some .int),
  (⟨"SlabMapModel", "many", "()I"⟩, prog_14_method_55_code, 3, some .int),
  (⟨"SlabMapModel", "addsNow", "(IIIII)I"⟩, prog_14_method_56_code, 7, some .int),
  (⟨"SlabMapModel", "takeMap", "()I"⟩, prog_14_method_57_code, 3, some .int),
  (⟨"SlabMapModel", "text", "(I)I"⟩, prog_14_method_58_code, 2, some .int),
  (⟨"SlabMapModel", "isPoint", "(II)Z"⟩, prog_14_method_59_code, 2, some .boolean),
  (⟨"SlabMapModel", "whyAdd", "(IIIII)I"⟩, prog_14_method_60_code, 6, some .int),
  (⟨"SlabMapModel", "whyMove", "(II)I"⟩, prog_14_method_61_code, 5, some .int),
  (⟨"SlabMapModel", "whyNot", "(IIIIII)I"⟩, prog_14_method_62_code, 7, some .int),
  (⟨"SlabMapModel", "movesNow", "(II)I"⟩, prog_14_method_63_code, 4, some .int),
  (⟨"SlabMapModel", "doNow", "(IIIIII)I"⟩, prog_14_method_64_code, 8, some .int),
  (⟨"SlabMapModel", "keep", "()V"⟩, prog_14_method_65_code, 2, none),
  (⟨"SlabMapModel", "slabsNow", "()I"⟩, prog_14_method_66_code, 1, some .int),
  (⟨"SlabMapModel", "note", "(II)V"⟩, prog_14_method_67_code, 4, none),
  (⟨"SlabMapModel", "act", "(IIIIII)I"⟩, prog_14_method_68_code, 8, some .int),
  (⟨"SlabMapModel", "hand", "(IIIIII)I"⟩, prog_14_method_69_code, 8, some .int),
  (⟨"SlabMapModel", "add", "(IIIII)I"⟩, prog_14_method_70_code, 6, some .int),
  (⟨"SlabMapModel", "drop", "(I)I"⟩, prog_14_method_71_code, 2, some .int)]
def z_mt12 : List (MethodName × ByteArray × Nat × Option FieldType) := [(⟨"SlabMapModel", "tell", "(II)I"⟩, prog_14_method_72_code, 3, some .int),
  (⟨"SlabMapModel", "move", "(II)I"⟩, prog_14_method_73_code, 3, some .int),
  (⟨"SlabMapModel", "draw", "(I)I"⟩, prog_14_method_74_code, 2, some .int),
  (⟨"SlabMapModel", "tryOne", "(IIIIII)V"⟩, prog_14_method_75_code, 7, none),
  (⟨"SlabMapModel", "drawsEdge", "()V"⟩, prog_14_method_76_code, 6, none),
  (⟨"SlabMapModel", "drawWay", "()V"⟩, prog_14_method_77_code, 3, none),
  (⟨"SlabMapModel", "ways", "(IJ)I"⟩, prog_14_method_78_code, 5, some .int),
  (⟨"SlabMapModel", "status", "(I)I"⟩, prog_14_method_79_code, 2, some .int),
  (⟨"SlabMapModel", "undo", "()I"⟩, prog_14_method_80_code, 2, some .int),
  (⟨"SlabMapModel", "log", "(II)I"⟩, prog_14_method_81_code, 3, some .int),
  (⟨"SlabMapModel", "laysAgo", "(I)Z"⟩, prog_14_method_82_code, 2, some .boolean),
  (⟨"SlabMapModel", "regionsTold", "()I"⟩, prog_14_method_83_code, 3, some .int),
  (⟨"SlabMapModel", "namesTold", "()I"⟩, prog_14_method_84_code, 3, some .int),
  (⟨"SlabMapModel", "rule", "(I)I"⟩, prog_14_method_85_code, 2, some .int),
  (⟨"SlabMapModel", "edge", "(II)I"⟩, prog_14_method_86_code, 5, some .int),
  (⟨"SlabMapModel", "slab", "(II)I"⟩, prog_14_method_87_code, 3, some .int),
  (⟨"SlabMapModel", "list", "(II)I"⟩, prog_14_method_88_code, 3, some .int),
  (⟨"SlabMapModel", "at", "(IIII)I"⟩, prog_14_method_89_code, 5, some .int),
  (⟨"SlabMapModel", "above", "(III)I"⟩, prog_14_method_90_code, 5, some .int),
  (⟨"SlabMapModel", "way", "(IIIII)I"⟩, prog_14_method_91_code, 8, some .int)]
def z_mt13 : List (MethodName × ByteArray × Nat × Option FieldType) := [(⟨"SlabMapModel", "points", "(II)I"⟩, prog_14_method_92_code, 3, some .int),
  (⟨"SlabMapModel", "beside", "(I)I"⟩, prog_14_method_93_code, 2, some .int),
  (⟨"SlabMapModel", "colours", "(I)I"⟩, prog_14_method_94_code, 3, some .int),
  (⟨"SlabMapModel", "parts", "(I)Z"⟩, prog_14_method_95_code, 4, some .boolean),
  (⟨"SlabMapModel", "idle", "()I"⟩, prog_14_method_96_code, 3, some .int),
  (⟨"SlabMapModel", "endsNow", "()I"⟩, prog_14_method_97_code, 1, some .int),
  (⟨"SlabMapModel", "ends", "(I)I"⟩, prog_14_method_98_code, 2, some .int),
  (⟨"SlabMapModel", "pointsLike", "()I"⟩, prog_14_method_99_code, 3, some .int),
  (⟨"SlabMapModel", "isLike", "(II)Z"⟩, prog_14_method_100_code, 5, some .boolean),
  (⟨"SlabMapModel", "slabsLike", "()I"⟩, prog_14_method_101_code, 5, some .int),
  (⟨"SlabMapModel", "like", "(II)I"⟩, prog_14_method_102_code, 3, some .int),
  (⟨"SlabMapModel", "stairs", "(I)I"⟩, prog_14_method_103_code, 5, some .int),
  (⟨"SlabMapModel", "putAside", "()V"⟩, prog_14_method_104_code, 2, none),
  (⟨"SlabMapModel", "bringBack", "()V"⟩, prog_14_method_105_code, 2, none),
  (⟨"SlabMapModel", "would", "(IIIIII)I"⟩, prog_14_method_106_code, 8, some .int),
  (⟨"SlabMapModel", "blocks", "(IIII)I"⟩, prog_14_method_107_code, 5, some .int),
  (⟨"SlabMapModel", "near", "(II)I"⟩, prog_14_method_108_code, 4, some .int),
  (⟨"SlabMapModel", "name", "(II)I"⟩, prog_14_method_109_code, 3, some .int),
  (⟨"SlabMapModel", "isScript", "(I)Z"⟩, prog_14_method_110_code, 2, some .boolean),
  (⟨"SlabMapModel", "step", "(III)I"⟩, prog_14_method_111_code, 4, some .int)]
def z_mt14 : List (MethodName × ByteArray × Nat × Option FieldType) := [(⟨"SlabMapModel", "goSteps", "(IZ)I"⟩, prog_14_method_112_code, 5, some .int),
  (⟨"SlabMapModel", "run", "(II)I"⟩, prog_14_method_113_code, 5, some .int),
  (⟨"SlabMapModel", "perform", "(I)I"⟩, prog_14_method_114_code, 2, some .int),
  (⟨"SlabMapModel", "sumOfLists", "()I"⟩, prog_14_method_115_code, 3, some .int),
  (⟨"SlabMapModel", "regionsWithPoints", "()I"⟩, prog_14_method_116_code, 3, some .int),
  (⟨"SlabMapModel", "couples", "()I"⟩, prog_14_method_117_code, 3, some .int),
  (⟨"SlabMapModel", "greatestRegion", "()I"⟩, prog_14_method_118_code, 5, some .int),
  (⟨"SlabMapModel", "longestEdge", "()I"⟩, prog_14_method_119_code, 3, some .int),
  (⟨"SlabMapModel", "isEnd", "(II)Z"⟩, prog_14_method_120_code, 4, some .boolean),
  (⟨"SlabMapModel", "endPoints", "()I"⟩, prog_14_method_121_code, 4, some .int),
  (⟨"SlabMapModel", "all", "(I)I"⟩, prog_14_method_122_code, 2, some .int),
  (⟨"SlabMapModel", "image", "()I"⟩, prog_14_method_123_code, 2, some .int),
  (⟨"SlabMapModel", "back", "()I"⟩, prog_14_method_124_code, 2, some .int),
  (⟨"SlabMapModel", "count", "(I)I"⟩, prog_14_method_125_code, 2, some .int),
  (⟨"java/lang/Integer", "bitCount", "(I)I"⟩, prog_17_method_49_code, 1, some .int),
  (⟨"java/lang/Long", "bitCount", "(J)I"⟩, prog_18_method_50_code, 2, some .int),
  (⟨"java/lang/Math", "max", "(II)I"⟩, prog_19_method_65_code, 2, some .int),
  (⟨"java/lang/Math", "min", "(II)I"⟩, prog_19_method_69_code, 2, some .int),
  (⟨"java/util/Arrays", "fill", "([II)V"⟩, prog_23_method_103_code, 4, none),
  (⟨"SlabMapLaw", "edge", "(LSlabMap;II[J)I"⟩, method_3_code, 5, some .int)]
def z_mt15 : List (MethodName × ByteArray × Nat × Option FieldType) := [(⟨"SlabMapLaw", "law", "([I)Z"⟩, code, 7, some .boolean)]
def z_mt : Nat → List (MethodName × ByteArray × Nat × Option FieldType) := fun k => ([z_mt0, z_mt1, z_mt2, z_mt3, z_mt4, z_mt5, z_mt6, z_mt7, z_mt8, z_mt9, z_mt10, z_mt11, z_mt12, z_mt13, z_mt14, z_mt15] : List _).getD k []
def z_md (m : Nat) : MethodName × ByteArray × Nat × Option FieldType := (z_mt (m / 20)).getD (m % 20) (⟨"", "", ""⟩, ByteArray.empty, 0, none)
def z_mY (m : Nat) : MethodName := (z_md m).1
def z_mC (m : Nat) : ByteArray := (z_md m).2.1
def z_mL (m : Nat) : Nat := (z_md m).2.2.1
def z_mR (m : Nat) : Option FieldType := (z_md m).2.2.2
