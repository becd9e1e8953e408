def RX0 : String := "SlippedBlocks$Past"
def TX0 : u_T := fun k => match k with
  | 0 => ("SlippedBlocks$Past", "works", "[LSlippedBlocks$Work;", true)
  | 1 => ("SlippedBlocks$Past", "next", "I", false)
  | _ => ("SlippedBlocks$Past", "many", "I", false)
def tyX0 : Nat → FieldType := fun k => match k with
  | 0 => .array (.object "SlippedBlocks$Work")
  | 1 => .int
  | _ => .int
abbrev wsX00 : List Cond := u_ws RX0 TX0 3
theorem nmX0 : ∀ a, a < 3 → ∀ b, b < 3 → a ≠ b → (TX0 a).2.1 ≠ (TX0 b).2.1 := by decide +kernel
theorem tyX0_ok : ∀ k, k < 3 → parseFieldDescriptor (TX0 k).2.2.1 = some (tyX0 k) := by decide +kernel
abbrev cX0_init : ByteArray := prog_2_method_1_code
def yX0_init : MethodName := ⟨RX0, "<init>", "()V"⟩
abbrev cX0_remember : ByteArray := prog_2_method_2_code
def yX0_remember : MethodName := ⟨RX0, "remember", "(LSlippedBlocks$Work;)V"⟩
abbrev cX0_restore : ByteArray := prog_2_method_3_code
def yX0_restore : MethodName := ⟨RX0, "restore", "(LSlippedBlocks$Work;)V"⟩
def RX1 : String := "SlippedBlocks$RowSearch"
def TX1 : u_T := fun k => match k with
  | 0 => ("SlippedBlocks$RowSearch", "shortRow", "[I", true)
  | 1 => ("SlippedBlocks$RowSearch", "palette", "I", false)
  | 2 => ("SlippedBlocks$RowSearch", "found", "Z", false)
  | 3 => ("SlippedBlocks$RowSearch", "fewest", "I", false)
  | _ => ("SlippedBlocks$RowSearch", "best", "I", false)
def tyX1 : Nat → FieldType := fun k => match k with
  | 0 => .array .int
  | 1 => .int
  | 2 => .boolean
  | 3 => .int
  | _ => .int
abbrev wsX10 : List Cond := u_ws RX1 TX1 5
theorem nmX1 : ∀ a, a < 5 → ∀ b, b < 5 → a ≠ b → (TX1 a).2.1 ≠ (TX1 b).2.1 := by decide +kernel
theorem tyX1_ok : ∀ k, k < 5 → parseFieldDescriptor (TX1 k).2.2.1 = some (tyX1 k) := by decide +kernel
abbrev cX1_init : ByteArray := prog_3_method_1_code
def yX1_init : MethodName := ⟨RX1, "<init>", "()V"⟩
abbrev cX1_run : ByteArray := prog_3_method_2_code
def yX1_run : MethodName := ⟨RX1, "run", "(LSlippedBlocks$Work;)V"⟩
abbrev cX1_inkAt : ByteArray := prog_3_method_3_code
def yX1_inkAt : MethodName := ⟨RX1, "inkAt", "(II)I"⟩
abbrev cX1_grow : ByteArray := prog_3_method_4_code
def yX1_grow : MethodName := ⟨RX1, "grow", "(LSlippedBlocks$RowSearch;LSlippedBlocks$Work;III)V"⟩
abbrev cX1_settle : ByteArray := prog_3_method_5_code
def yX1_settle : MethodName := ⟨RX1, "settle", "(III)V"⟩
abbrev cX1_earliestRow : ByteArray := prog_3_method_6_code
def yX1_earliestRow : MethodName := ⟨RX1, "earliestRow", "(III)I"⟩
def RX2 : String := "SlippedBlocks$Sheet"
def TX2 : u_T := fun k => match k with
  | 0 => ("SlippedBlocks$Sheet", "first", "J", false)
  | 1 => ("SlippedBlocks$Sheet", "second", "J", false)
  | _ => ("SlippedBlocks$Sheet", "third", "J", false)
def tyX2 : Nat → FieldType := fun k => match k with
  | 0 => .long
  | 1 => .long
  | _ => .long
abbrev wsX20 : List Cond := u_ws RX2 TX2 3
theorem nmX2 : ∀ a, a < 3 → ∀ b, b < 3 → a ≠ b → (TX2 a).2.1 ≠ (TX2 b).2.1 := by decide +kernel
theorem tyX2_ok : ∀ k, k < 3 → parseFieldDescriptor (TX2 k).2.2.1 = some (tyX2 k) := by decide +kernel
abbrev cX2_init : ByteArray := prog_4_method_1_code
def yX2_init : MethodName := ⟨RX2, "<init>", "()V"⟩
abbrev cX2_wipe : ByteArray := prog_4_method_2_code
def yX2_wipe : MethodName := ⟨RX2, "wipe", "()V"⟩
abbrev cX2_copy : ByteArray := prog_4_method_3_code
def yX2_copy : MethodName := ⟨RX2, "copy", "(LSlippedBlocks$Sheet;)V"⟩
abbrev cX2_print : ByteArray := prog_4_method_4_code
def yX2_print : MethodName := ⟨RX2, "print", "(JIZ)V"⟩
abbrev cX2_printed : ByteArray := prog_4_method_5_code
def yX2_printed : MethodName := ⟨RX2, "printed", "(JJZZ)J"⟩
abbrev cX2_at : ByteArray := prog_4_method_6_code
def yX2_at : MethodName := ⟨RX2, "at", "(II)I"⟩
abbrev cX2_cellsOf : ByteArray := prog_4_method_7_code
def yX2_cellsOf : MethodName := ⟨RX2, "cellsOf", "(I)J"⟩
abbrev cX2_unlike : ByteArray := prog_4_method_8_code
def yX2_unlike : MethodName := ⟨RX2, "unlike", "(LSlippedBlocks$Sheet;)J"⟩
def RX3 : String := "SlippedBlocks$Sightings"
def TX3 : u_T := fun k => match k with
  | 0 => ("SlippedBlocks$Sightings", "xs", "[I", true)
  | 1 => ("SlippedBlocks$Sightings", "ys", "[I", true)
  | 2 => ("SlippedBlocks$Sightings", "colours", "[I", true)
  | 3 => ("SlippedBlocks$Sightings", "many", "I", false)
  | 4 => ("SlippedBlocks$Sightings", "proof", "LSlippedBlocks$Sheet;", true)
  | _ => ("SlippedBlocks$Sightings", "tally", "[I", true)
def tyX3 : Nat → FieldType := fun k => match k with
  | 0 => .array .int
  | 1 => .array .int
  | 2 => .array .int
  | 3 => .int
  | 4 => .object "SlippedBlocks$Sheet"
  | _ => .array .int
abbrev wsX30 : List Cond := u_ws RX3 TX3 6
theorem nmX3 : ∀ a, a < 6 → ∀ b, b < 6 → a ≠ b → (TX3 a).2.1 ≠ (TX3 b).2.1 := by decide +kernel
theorem tyX3_ok : ∀ k, k < 6 → parseFieldDescriptor (TX3 k).2.2.1 = some (tyX3 k) := by decide +kernel
abbrev cX3_init : ByteArray := prog_5_method_1_code
def yX3_init : MethodName := ⟨RX3, "<init>", "()V"⟩
abbrev cX3_add : ByteArray := prog_5_method_2_code
def yX3_add : MethodName := ⟨RX3, "add", "(III)Z"⟩
abbrev cX3_howManyExplain : ByteArray := prog_5_method_3_code
def yX3_howManyExplain : MethodName := ⟨RX3, "howManyExplain", "(LSlippedBlocks$Work;)I"⟩
abbrev cX3_firstExplaining : ByteArray := prog_5_method_4_code
def yX3_firstExplaining : MethodName := ⟨RX3, "firstExplaining", "(LSlippedBlocks$Work;)I"⟩
abbrev cX3_explains : ByteArray := prog_5_method_5_code
def yX3_explains : MethodName := ⟨RX3, "explains", "(LSlippedBlocks$Work;I)Z"⟩
abbrev cX3_bestCell : ByteArray := prog_5_method_6_code
def yX3_bestCell : MethodName := ⟨RX3, "bestCell", "(LSlippedBlocks$Work;)I"⟩
abbrev cX3_addToTally : ByteArray := prog_5_method_7_code
def yX3_addToTally : MethodName := ⟨RX3, "addToTally", "(LSlippedBlocks$Work;)V"⟩
abbrev cX3_mostTellingCell : ByteArray := prog_5_method_8_code
def yX3_mostTellingCell : MethodName := ⟨RX3, "mostTellingCell", "(LSlippedBlocks$Work;)I"⟩
abbrev cX3_greatestTally : ByteArray := prog_5_method_9_code
def yX3_greatestTally : MethodName := ⟨RX3, "greatestTally", "(I)I"⟩
def RX4 : String := "SlippedBlocks$Text"
def TX4 : u_T := fun k => match k with
  | 0 => ("SlippedBlocks$Text", "letters", "[C", true)
  | 1 => ("SlippedBlocks$Text", "length", "I", false)
  | 2 => ("SlippedBlocks$Text", "item", "C", false)
  | _ => ("SlippedBlocks$Text", "figures", "I", false)
def tyX4 : Nat → FieldType := fun k => match k with
  | 0 => .array .char
  | 1 => .int
  | 2 => .char
  | _ => .int
abbrev wsX40 : List Cond := u_ws RX4 TX4 4
theorem nmX4 : ∀ a, a < 4 → ∀ b, b < 4 → a ≠ b → (TX4 a).2.1 ≠ (TX4 b).2.1 := by decide +kernel
theorem tyX4_ok : ∀ k, k < 4 → parseFieldDescriptor (TX4 k).2.2.1 = some (tyX4 k) := by decide +kernel
abbrev cX4_init : ByteArray := prog_6_method_1_code
def yX4_init : MethodName := ⟨RX4, "<init>", "()V"⟩
abbrev cX4_append : ByteArray := prog_6_method_2_code
def yX4_append : MethodName := ⟨RX4, "append", "(I)Z"⟩
abbrev cX4_readInto : ByteArray := prog_6_method_3_code
def yX4_readInto : MethodName := ⟨RX4, "readInto", "(LSlippedBlocks$Work;)I"⟩
abbrev cX4_takes : ByteArray := prog_6_method_4_code
def yX4_takes : MethodName := ⟨RX4, "takes", "(CLSlippedBlocks$Work;)Z"⟩
abbrev cX4_beginsItem : ByteArray := prog_6_method_5_code
def yX4_beginsItem : MethodName := ⟨RX4, "beginsItem", "(CLSlippedBlocks$Work;)Z"⟩
abbrev cX4_takesInk : ByteArray := prog_6_method_6_code
def yX4_takesInk : MethodName := ⟨RX4, "takesInk", "(ILSlippedBlocks$Work;)Z"⟩
abbrev cX4_takesCell : ByteArray := prog_6_method_7_code
def yX4_takesCell : MethodName := ⟨RX4, "takesCell", "(ILSlippedBlocks$Work;)Z"⟩
abbrev cX4_endsItem : ByteArray := prog_6_method_8_code
def yX4_endsItem : MethodName := ⟨RX4, "endsItem", "(LSlippedBlocks$Work;)Z"⟩
def RX5 : String := "SlippedBlocks$Work"
def TX5 : u_T := fun k => match k with
  | 0 => ("SlippedBlocks$Work", "width", "I", false)
  | 1 => ("SlippedBlocks$Work", "height", "I", false)
  | 2 => ("SlippedBlocks$Work", "inks", "I", false)
  | 3 => ("SlippedBlocks$Work", "denseInks", "I", false)
  | 4 => ("SlippedBlocks$Work", "picture", "LSlippedBlocks$Sheet;", true)
  | 5 => ("SlippedBlocks$Work", "colour", "[I", true)
  | 6 => ("SlippedBlocks$Work", "inkAtPlace", "[I", true)
  | 7 => ("SlippedBlocks$Work", "block", "[J", true)
  | _ => ("SlippedBlocks$Work", "slip", "[I", true)
def tyX5 : Nat → FieldType := fun k => match k with
  | 0 => .int
  | 1 => .int
  | 2 => .int
  | 3 => .int
  | 4 => .object "SlippedBlocks$Sheet"
  | 5 => .array .int
  | 6 => .array .int
  | 7 => .array .long
  | _ => .array .int
abbrev wsX50 : List Cond := u_ws RX5 TX5 9
theorem nmX5 : ∀ a, a < 9 → ∀ b, b < 9 → a ≠ b → (TX5 a).2.1 ≠ (TX5 b).2.1 := by decide +kernel
theorem tyX5_ok : ∀ k, k < 9 → parseFieldDescriptor (TX5 k).2.2.1 = some (tyX5 k) := by decide +kernel
abbrev cX5_init : ByteArray := prog_7_method_1_code
def yX5_init : MethodName := ⟨RX5, "<init>", "()V"⟩
abbrev cX5_copy : ByteArray := prog_7_method_2_code
def yX5_copy : MethodName := ⟨RX5, "copy", "(LSlippedBlocks$Work;)V"⟩
abbrev cX5_empty : ByteArray := prog_7_method_3_code
def yX5_empty : MethodName := ⟨RX5, "empty", "()V"⟩
abbrev cX5_addInk : ByteArray := prog_7_method_4_code
def yX5_addInk : MethodName := ⟨RX5, "addInk", "(IZ)V"⟩
abbrev cX5_hasInk : ByteArray := prog_7_method_5_code
def yX5_hasInk : MethodName := ⟨RX5, "hasInk", "(I)Z"⟩
abbrev cX5_hasCell : ByteArray := prog_7_method_6_code
def yX5_hasCell : MethodName := ⟨RX5, "hasCell", "(II)Z"⟩
abbrev cX5_isDense : ByteArray := prog_7_method_7_code
def yX5_isDense : MethodName := ⟨RX5, "isDense", "(I)Z"⟩
abbrev cX5_placeOf : ByteArray := prog_7_method_8_code
def yX5_placeOf : MethodName := ⟨RX5, "placeOf", "(I)I"⟩
abbrev cX5_exchange : ByteArray := prog_7_method_9_code
def yX5_exchange : MethodName := ⟨RX5, "exchange", "(II)V"⟩
abbrev cX5_inksOf : ByteArray := prog_7_method_10_code
def yX5_inksOf : MethodName := ⟨RX5, "inksOf", "(II)I"⟩
abbrev cX5_cellsOfBlocks : ByteArray := prog_7_method_11_code
def yX5_cellsOfBlocks : MethodName := ⟨RX5, "cellsOfBlocks", "()I"⟩
abbrev cX5_slippedBlocks : ByteArray := prog_7_method_12_code
def yX5_slippedBlocks : MethodName := ⟨RX5, "slippedBlocks", "()I"⟩
abbrev cX5_paper : ByteArray := prog_7_method_13_code
def yX5_paper : MethodName := ⟨RX5, "paper", "()J"⟩
abbrev cX5_proofInto : ByteArray := prog_7_method_14_code
def yX5_proofInto : MethodName := ⟨RX5, "proofInto", "(LSlippedBlocks$Sheet;II)V"⟩
abbrev cX5_palette : ByteArray := prog_7_method_15_code
def yX5_palette : MethodName := ⟨RX5, "palette", "()I"⟩
abbrev cX5_sets : ByteArray := prog_7_method_16_code
def yX5_sets : MethodName := ⟨RX5, "sets", "()I"⟩
abbrev cX5_coloursOver : ByteArray := prog_7_method_17_code
def yX5_coloursOver : MethodName := ⟨RX5, "coloursOver", "(II)I"⟩
abbrev cX5_coloursBy : ByteArray := prog_7_method_18_code
def yX5_coloursBy : MethodName := ⟨RX5, "coloursBy", "(I)I"⟩
abbrev cX5_leastSet : ByteArray := prog_7_method_19_code
def yX5_leastSet : MethodName := ⟨RX5, "leastSet", "()I"⟩
abbrev cX5_colourOfAll : ByteArray := prog_7_method_20_code
def yX5_colourOfAll : MethodName := ⟨RX5, "colourOfAll", "(I)I"⟩
abbrev cX5_firstSetGiving : ByteArray := prog_7_method_21_code
def yX5_firstSetGiving : MethodName := ⟨RX5, "firstSetGiving", "(II)I"⟩
abbrev cX5_cutFor : ByteArray := prog_7_method_22_code
def yX5_cutFor : MethodName := ⟨RX5, "cutFor", "(I)V"⟩
abbrev cX5_addToBlocks : ByteArray := prog_7_method_23_code
def yX5_addToBlocks : MethodName := ⟨RX5, "addToBlocks", "(IJ)V"⟩
def RX6 : String := "SlippedBlocks"
def TX6 : u_T := fun k => match k with
  | 0 => ("SlippedBlocks", "now", "LSlippedBlocks$Work;", true)
  | 1 => ("SlippedBlocks", "told", "LSlippedBlocks$Work;", true)
  | 2 => ("SlippedBlocks", "text", "LSlippedBlocks$Text;", true)
  | 3 => ("SlippedBlocks", "past", "LSlippedBlocks$Past;", true)
  | 4 => ("SlippedBlocks", "images", "[LSlippedBlocks$Work;", true)
  | 5 => ("SlippedBlocks", "kept", "[Z", true)
  | 6 => ("SlippedBlocks", "sightings", "LSlippedBlocks$Sightings;", true)
  | 7 => ("SlippedBlocks", "search", "LSlippedBlocks$RowSearch;", true)
  | _ => ("SlippedBlocks", "proof", "LSlippedBlocks$Sheet;", true)
def tyX6 : Nat → FieldType := fun k => match k with
  | 0 => .object "SlippedBlocks$Work"
  | 1 => .object "SlippedBlocks$Work"
  | 2 => .object "SlippedBlocks$Text"
  | 3 => .object "SlippedBlocks$Past"
  | 4 => .array (.object "SlippedBlocks$Work")
  | 5 => .array .boolean
  | 6 => .object "SlippedBlocks$Sightings"
  | 7 => .object "SlippedBlocks$RowSearch"
  | _ => .object "SlippedBlocks$Sheet"
abbrev wsX60 : List Cond := u_ws RX6 TX6 9
theorem nmX6 : ∀ a, a < 9 → ∀ b, b < 9 → a ≠ b → (TX6 a).2.1 ≠ (TX6 b).2.1 := by decide +kernel
theorem tyX6_ok : ∀ k, k < 9 → parseFieldDescriptor (TX6 k).2.2.1 = some (tyX6 k) := by decide +kernel
abbrev cX6_init : ByteArray := prog_1_method_1_code
def yX6_init : MethodName := ⟨RX6, "<init>", "()V"⟩
abbrev cX6_type : ByteArray := prog_1_method_2_code
def yX6_type : MethodName := ⟨RX6, "type", "(I)I"⟩
abbrev cX6_clear : ByteArray := prog_1_method_3_code
def yX6_clear : MethodName := ⟨RX6, "clear", "()I"⟩
abbrev cX6_tells : ByteArray := prog_1_method_4_code
def yX6_tells : MethodName := ⟨RX6, "tells", "()I"⟩
abbrev cX6_cuts : ByteArray := prog_1_method_5_code
def yX6_cuts : MethodName := ⟨RX6, "cuts", "()I"⟩
abbrev cX6_carves : ByteArray := prog_1_method_6_code
def yX6_carves : MethodName := ⟨RX6, "carves", "(III)I"⟩
abbrev cX6_slips : ByteArray := prog_1_method_7_code
def yX6_slips : MethodName := ⟨RX6, "slips", "(III)I"⟩
abbrev cX6_swaps : ByteArray := prog_1_method_8_code
def yX6_swaps : MethodName := ⟨RX6, "swaps", "(II)I"⟩
abbrev cX6_undo : ByteArray := prog_1_method_9_code
def yX6_undo : MethodName := ⟨RX6, "undo", "()I"⟩
abbrev cX6_cell : ByteArray := prog_1_method_10_code
def yX6_cell : MethodName := ⟨RX6, "cell", "(III)I"⟩
abbrev cX6_ink : ByteArray := prog_1_method_11_code
def yX6_ink : MethodName := ⟨RX6, "ink", "(II)I"⟩
abbrev cX6_made : ByteArray := prog_1_method_12_code
def yX6_made : MethodName := ⟨RX6, "made", "(I)I"⟩
abbrev cX6_least : ByteArray := prog_1_method_13_code
def yX6_least : MethodName := ⟨RX6, "least", "(I)I"⟩
abbrev cX6_order : ByteArray := prog_1_method_14_code
def yX6_order : MethodName := ⟨RX6, "order", "(I)I"⟩
abbrev cX6_wrong : ByteArray := prog_1_method_15_code
def yX6_wrong : MethodName := ⟨RX6, "wrong", "()I"⟩
abbrev cX6_hurt : ByteArray := prog_1_method_16_code
def yX6_hurt : MethodName := ⟨RX6, "hurt", "(I)I"⟩
abbrev cX6_sees : ByteArray := prog_1_method_17_code
def yX6_sees : MethodName := ⟨RX6, "sees", "(III)I"⟩
abbrev cX6_forget : ByteArray := prog_1_method_18_code
def yX6_forget : MethodName := ⟨RX6, "forget", "()I"⟩
abbrev cX6_which : ByteArray := prog_1_method_19_code
def yX6_which : MethodName := ⟨RX6, "which", "(I)I"⟩
abbrev cX6_ask : ByteArray := prog_1_method_20_code
def yX6_ask : MethodName := ⟨RX6, "ask", "()I"⟩
abbrev cX6_keep : ByteArray := prog_1_method_21_code
def yX6_keep : MethodName := ⟨RX6, "keep", "(I)I"⟩
abbrev cX6_back : ByteArray := prog_1_method_22_code
def yX6_back : MethodName := ⟨RX6, "back", "(I)I"⟩
abbrev cX6_count : ByteArray := prog_1_method_23_code
def yX6_count : MethodName := ⟨RX6, "count", "(I)I"⟩
abbrev cX6_wrongCells : ByteArray := prog_1_method_24_code
def yX6_wrongCells : MethodName := ⟨RX6, "wrongCells", "(II)I"⟩
abbrev cX6_onBoard : ByteArray := prog_1_method_25_code
def yX6_onBoard : MethodName := ⟨RX6, "onBoard", "(II)Z"⟩
abbrev cX6_cellBit : ByteArray := prog_1_method_26_code
def yX6_cellBit : MethodName := ⟨RX6, "cellBit", "(II)J"⟩
abbrev cX6_slipOf : ByteArray := prog_1_method_27_code
def yX6_slipOf : MethodName := ⟨RX6, "slipOf", "(II)I"⟩
abbrev cX6_dxOf : ByteArray := prog_1_method_28_code
def yX6_dxOf : MethodName := ⟨RX6, "dxOf", "(I)I"⟩
abbrev cX6_dyOf : ByteArray := prog_1_method_29_code
def yX6_dyOf : MethodName := ⟨RX6, "dyOf", "(I)I"⟩
abbrev cX6_slipped : ByteArray := prog_1_method_30_code
def yX6_slipped : MethodName := ⟨RX6, "slipped", "(JI)J"⟩
def RX7 : String := "SlippedBlocksModel"
def TX7 : u_T := fun k => match k with
  | 0 => ("SlippedBlocksModel", "thrown", "I", false)
  | 1 => ("SlippedBlocksModel", "s", "[I", true)
  | 2 => ("SlippedBlocksModel", "draft", "[I", true)
  | 3 => ("SlippedBlocksModel", "past", "[I", true)
  | 4 => ("SlippedBlocksModel", "undoMany", "I", false)
  | 5 => ("SlippedBlocksModel", "images", "[I", true)
  | 6 => ("SlippedBlocksModel", "isKept", "[Z", true)
  | 7 => ("SlippedBlocksModel", "text", "[I", true)
  | 8 => ("SlippedBlocksModel", "typed", "I", false)
  | 9 => ("SlippedBlocksModel", "seen", "[I", true)
  | 10 => ("SlippedBlocksModel", "seenMany", "I", false)
  | 11 => ("SlippedBlocksModel", "at", "I", false)
  | 12 => ("SlippedBlocksModel", "place", "I", false)
  | 13 => ("SlippedBlocksModel", "token", "I", false)
  | 14 => ("SlippedBlocksModel", "value", "I", false)
  | 15 => ("SlippedBlocksModel", "fault", "I", false)
  | 16 => ("SlippedBlocksModel", "proof", "[I", true)
  | 17 => ("SlippedBlocksModel", "order", "[I", true)
  | 18 => ("SlippedBlocksModel", "gives", "[I", true)
  | 19 => ("SlippedBlocksModel", "makes", "[I", true)
  | 20 => ("SlippedBlocksModel", "bestOrder", "[I", true)
  | _ => ("SlippedBlocksModel", "by", "[I", true)
def tyX7 : Nat → FieldType := fun k => match k with
  | 0 => .int
  | 1 => .array .int
  | 2 => .array .int
  | 3 => .array .int
  | 4 => .int
  | 5 => .array .int
  | 6 => .array .boolean
  | 7 => .array .int
  | 8 => .int
  | 9 => .array .int
  | 10 => .int
  | 11 => .int
  | 12 => .int
  | 13 => .int
  | 14 => .int
  | 15 => .int
  | 16 => .array .int
  | 17 => .array .int
  | 18 => .array .int
  | 19 => .array .int
  | 20 => .array .int
  | _ => .array .int
abbrev wsX70 : List Cond := u_ws RX7 TX7 22
theorem nmX7 : ∀ a, a < 22 → ∀ b, b < 22 → a ≠ b → (TX7 a).2.1 ≠ (TX7 b).2.1 := by decide +kernel
theorem tyX7_ok : ∀ k, k < 22 → parseFieldDescriptor (TX7 k).2.2.1 = some (tyX7 k) := by decide +kernel
abbrev cX7_init : ByteArray := prog_9_method_1_code
def yX7_init : MethodName := ⟨RX7, "<init>", "()V"⟩
abbrev cX7_in : ByteArray := prog_9_method_3_code
def yX7_in : MethodName := ⟨RX7, "in", "(III)Z"⟩
abbrev cX7_ones : ByteArray := prog_9_method_4_code
def yX7_ones : MethodName := ⟨RX7, "ones", "(I)I"⟩
abbrev cX7_letterAt : ByteArray := prog_9_method_5_code
def yX7_letterAt : MethodName := ⟨RX7, "letterAt", "(I)I"⟩
abbrev cX7_type : ByteArray := prog_9_method_6_code
def yX7_type : MethodName := ⟨RX7, "type", "(I)I"⟩
abbrev cX7_clear : ByteArray := prog_9_method_7_code
def yX7_clear : MethodName := ⟨RX7, "clear", "()I"⟩
abbrev cX7_advances : ByteArray := prog_9_method_8_code
def yX7_advances : MethodName := ⟨RX7, "advances", "()V"⟩
abbrev cX7_isWell : ByteArray := prog_9_method_9_code
def yX7_isWell : MethodName := ⟨RX7, "isWell", "()Z"⟩
abbrev cX7_takes : ByteArray := prog_9_method_10_code
def yX7_takes : MethodName := ⟨RX7, "takes", "(Z)I"⟩
abbrev cX7_readsInk : ByteArray := prog_9_method_11_code
def yX7_readsInk : MethodName := ⟨RX7, "readsInk", "(Z)V"⟩
abbrev cX7_readsRow : ByteArray := prog_9_method_12_code
def yX7_readsRow : MethodName := ⟨RX7, "readsRow", "()V"⟩
abbrev cX7_readsText : ByteArray := prog_9_method_13_code
def yX7_readsText : MethodName := ⟨RX7, "readsText", "()I"⟩
abbrev cX7_tells : ByteArray := prog_9_method_14_code
def yX7_tells : MethodName := ⟨RX7, "tells", "()I"⟩
abbrev cX7_printed : ByteArray := prog_9_method_15_code
def yX7_printed : MethodName := ⟨RX7, "printed", "(II)I"⟩
abbrev cX7_proves : ByteArray := prog_9_method_16_code
def yX7_proves : MethodName := ⟨RX7, "proves", "(III)V"⟩
abbrev cX7_prints : ByteArray := prog_9_method_17_code
def yX7_prints : MethodName := ⟨RX7, "prints", "(III)V"⟩
abbrev cX7_wrongCells : ByteArray := prog_9_method_18_code
def yX7_wrongCells : MethodName := ⟨RX7, "wrongCells", "()I"⟩
abbrev cX7_mixes : ByteArray := prog_9_method_19_code
def yX7_mixes : MethodName := ⟨RX7, "mixes", "()V"⟩
abbrev cX7_asOrdered : ByteArray := prog_9_method_20_code
def yX7_asOrdered : MethodName := ⟨RX7, "asOrdered", "()V"⟩
abbrev cX7_wanted : ByteArray := prog_9_method_21_code
def yX7_wanted : MethodName := ⟨RX7, "wanted", "()I"⟩
abbrev cX7_leastSet : ByteArray := prog_9_method_22_code
def yX7_leastSet : MethodName := ⟨RX7, "leastSet", "()I"⟩
abbrev cX7_notes : ByteArray := prog_9_method_23_code
def yX7_notes : MethodName := ⟨RX7, "notes", "()V"⟩
abbrev cX7_isInk : ByteArray := prog_9_method_24_code
def yX7_isInk : MethodName := ⟨RX7, "isInk", "(I)Z"⟩
abbrev cX7_isCell : ByteArray := prog_9_method_25_code
def yX7_isCell : MethodName := ⟨RX7, "isCell", "(II)Z"⟩
abbrev cX7_partOf : ByteArray := prog_9_method_26_code
def yX7_partOf : MethodName := ⟨RX7, "partOf", "(II)I"⟩
abbrev cX7_cuts : ByteArray := prog_9_method_27_code
def yX7_cuts : MethodName := ⟨RX7, "cuts", "()I"⟩
abbrev cX7_carves : ByteArray := prog_9_method_28_code
def yX7_carves : MethodName := ⟨RX7, "carves", "(III)I"⟩
abbrev cX7_slips : ByteArray := prog_9_method_29_code
def yX7_slips : MethodName := ⟨RX7, "slips", "(III)I"⟩
abbrev cX7_placeOf : ByteArray := prog_9_method_30_code
def yX7_placeOf : MethodName := ⟨RX7, "placeOf", "(I)I"⟩
abbrev cX7_swaps : ByteArray := prog_9_method_31_code
def yX7_swaps : MethodName := ⟨RX7, "swaps", "(II)I"⟩
abbrev cX7_undo : ByteArray := prog_9_method_32_code
def yX7_undo : MethodName := ⟨RX7, "undo", "()I"⟩
abbrev cX7_cell : ByteArray := prog_9_method_33_code
def yX7_cell : MethodName := ⟨RX7, "cell", "(III)I"⟩
abbrev cX7_cellsOf : ByteArray := prog_9_method_34_code
def yX7_cellsOf : MethodName := ⟨RX7, "cellsOf", "(I)I"⟩
abbrev cX7_ink : ByteArray := prog_9_method_35_code
def yX7_ink : MethodName := ⟨RX7, "ink", "(II)I"⟩
abbrev cX7_made : ByteArray := prog_9_method_36_code
def yX7_made : MethodName := ⟨RX7, "made", "(I)I"⟩
abbrev cX7_least : ByteArray := prog_9_method_37_code
def yX7_least : MethodName := ⟨RX7, "least", "(I)I"⟩
abbrev cX7_goesOn : ByteArray := prog_9_method_38_code
def yX7_goesOn : MethodName := ⟨RX7, "goesOn", "()Z"⟩
abbrev cX7_exchanges : ByteArray := prog_9_method_39_code
def yX7_exchanges : MethodName := ⟨RX7, "exchanges", "(II)V"⟩
abbrev cX7_fewestByOrder : ByteArray := prog_9_method_40_code
def yX7_fewestByOrder : MethodName := ⟨RX7, "fewestByOrder", "()I"⟩
abbrev cX7_order : ByteArray := prog_9_method_41_code
def yX7_order : MethodName := ⟨RX7, "order", "(I)I"⟩
abbrev cX7_wrong : ByteArray := prog_9_method_42_code
def yX7_wrong : MethodName := ⟨RX7, "wrong", "()I"⟩
abbrev cX7_hurt : ByteArray := prog_9_method_43_code
def yX7_hurt : MethodName := ⟨RX7, "hurt", "(I)I"⟩
abbrev cX7_sees : ByteArray := prog_9_method_44_code
def yX7_sees : MethodName := ⟨RX7, "sees", "(III)I"⟩
abbrev cX7_forget : ByteArray := prog_9_method_45_code
def yX7_forget : MethodName := ⟨RX7, "forget", "()I"⟩
abbrev cX7_tries : ByteArray := prog_9_method_46_code
def yX7_tries : MethodName := ⟨RX7, "tries", "(I)Z"⟩
abbrev cX7_isSeen : ByteArray := prog_9_method_47_code
def yX7_isSeen : MethodName := ⟨RX7, "isSeen", "()Z"⟩
abbrev cX7_which : ByteArray := prog_9_method_48_code
def yX7_which : MethodName := ⟨RX7, "which", "(I)I"⟩
abbrev cX7_ask : ByteArray := prog_9_method_49_code
def yX7_ask : MethodName := ⟨RX7, "ask", "()I"⟩
abbrev cX7_keep : ByteArray := prog_9_method_50_code
def yX7_keep : MethodName := ⟨RX7, "keep", "(I)I"⟩
abbrev cX7_back : ByteArray := prog_9_method_51_code
def yX7_back : MethodName := ⟨RX7, "back", "(I)I"⟩
abbrev cX7_cellsOfAll : ByteArray := prog_9_method_52_code
def yX7_cellsOfAll : MethodName := ⟨RX7, "cellsOfAll", "()I"⟩
abbrev cX7_slipped : ByteArray := prog_9_method_53_code
def yX7_slipped : MethodName := ⟨RX7, "slipped", "()I"⟩
abbrev cX7_count : ByteArray := prog_9_method_54_code
def yX7_count : MethodName := ⟨RX7, "count", "(I)I"⟩
def RJ6 : String := "java/lang/Integer"
abbrev cJ6_bitCount_0f7a4 : ByteArray := prog_10_method_49_code
def yJ6_bitCount_0f7a4 : MethodName := ⟨RJ6, "bitCount", "(I)I"⟩
def RJ13 : String := "java/lang/Long"
abbrev cJ13_bitCount_95d88 : ByteArray := prog_11_method_50_code
def yJ13_bitCount_95d88 : MethodName := ⟨RJ13, "bitCount", "(J)I"⟩
def RJ9 : String := "java/lang/Math"
abbrev cJ9_max_7cf53 : ByteArray := prog_12_method_65_code
def yJ9_max_7cf53 : MethodName := ⟨RJ9, "max", "(II)I"⟩
abbrev cJ9_min_7cf53 : ByteArray := prog_12_method_69_code
def yJ9_min_7cf53 : MethodName := ⟨RJ9, "min", "(II)I"⟩
def RJ10 : String := "java/lang/System"
def RL : String := "SlippedBlocksLaw"
abbrev cL_law : ByteArray := code
def yL_law : MethodName := ⟨RL, "law", "([I)Z"⟩
abbrev vwCl : List vw_C := [(RX0, TX0, 3), (RX1, TX1, 5), (RX2, TX2, 3), (RX3, TX3, 6), (RX4, TX4, 4), (RX5, TX5, 9), (RX6, TX6, 9), (RX7, TX7, 22)]
/-- the tables' words that may be handed on -/
def TG : List Cond := lw_tbl.filter goodWord
theorem tg {w : Cond} (k : Nat) (h : lw_tbl[k]? = some w) (hg : goodWord w = true) : w ∈ TG := List.mem_filter.mpr ⟨List.mem_of_getElem? h, hg⟩
theorem TG_in : ∀ w ∈ TG, w ∈ lw_tbl := fun _ h => (List.mem_filter.mp h).1
theorem TG_good : ∀ w ∈ TG, goodWord w = true := fun _ h => (List.mem_filter.mp h).2
theorem mT {w c : Cond} (h : w ∈ TG) : w ∈ c :: TG := List.mem_cons_of_mem _ h
theorem goodTG {big : List Cond} {c : Cond} (hb : ∀ w ∈ TG, w ∈ big) (hc : c ∈ TG) : GoodIn big (c :: TG) := fun w h => by
  rcases List.mem_cons.mp h with rfl | h
  · exact ⟨hb _ hc, good_of_word (TG_good _ hc)⟩
  · exact ⟨hb _ h, good_of_word (TG_good _ h)⟩
theorem goodV {big : List Cond} {c : Cond} {own C : String} {idx : Nat} {y : MethodName} (hb : ∀ w ∈ TG, w ∈ big) (hc : c ∈ TG) (h1 : Cond.methodLink own idx y ∈ TG) (h2 : Cond.instanceMethod y ∈ TG) (h3 : Cond.selects C y y ∈ TG) (h4 : Cond.initialized C ∈ TG) : GoodIn big (wsV own idx C y (c :: TG)) := fun w h => by
  rcases List.mem_append.mp h with h | h
  · simp only [List.mem_cons, List.mem_nil_iff, or_false] at h
    rcases h with rfl | rfl | rfl | rfl
    · exact ⟨hb _ h1, good_of_word (TG_good _ h1)⟩
    · exact ⟨hb _ h2, good_of_word (TG_good _ h2)⟩
    · exact ⟨hb _ h3, good_of_word (TG_good _ h3)⟩
    · exact ⟨hb _ h4, good_of_word (TG_good _ h4)⟩
  · exact goodTG hb hc w h
theorem goodS {big : List Cond} {c : Cond} {own : String} {idx : Nat} {y : MethodName} (hb : ∀ w ∈ TG, w ∈ big) (hc : c ∈ TG) (h1 : Cond.methodLink own idx y ∈ TG) (h2 : Cond.static y ∈ TG) (h3 : Cond.initialized y.cls ∈ TG) : GoodIn big (va_wsS own idx y (c :: TG)) := fun w h => by
  rcases List.mem_append.mp h with h | h
  · simp only [List.mem_cons, List.mem_nil_iff, or_false] at h
    rcases h with rfl | rfl | rfl
    · exact ⟨hb _ h1, good_of_word (TG_good _ h1)⟩
    · exact ⟨hb _ h2, good_of_word (TG_good _ h2)⟩
    · exact ⟨hb _ h3, good_of_word (TG_good _ h3)⟩
  · exact goodTG hb hc w h
theorem cT {c : Cond} : ∀ w ∈ TG, w ∈ c :: TG := fun _ h => List.mem_cons_of_mem _ h
set_option maxRecDepth 20000 in
theorem wd_0 : (Jvm.Cond.selects "SlippedBlocks$Text" ({ cls := "SlippedBlocks$Text", name := "takes", desc := "(CLSlippedBlocks$Work;)Z" } : Jvm.MethodName) ({ cls := "SlippedBlocks$Text", name := "takes", desc := "(CLSlippedBlocks$Work;)Z" } : Jvm.MethodName)) ∈ TG := tg 0 rfl rfl
set_option maxRecDepth 20000 in
theorem wd_1 : (Jvm.Cond.selects "SlippedBlocks$Text" ({ cls := "SlippedBlocks$Text", name := "endsItem", desc := "(LSlippedBlocks$Work;)Z" } : Jvm.MethodName) ({ cls := "SlippedBlocks$Text", name := "endsItem", desc := "(LSlippedBlocks$Work;)Z" } : Jvm.MethodName)) ∈ TG := tg 1 rfl rfl
set_option maxRecDepth 20000 in
theorem wd_2 : (Jvm.Cond.selects "SlippedBlocks$Text" ({ cls := "SlippedBlocks$Text", name := "takesCell", desc := "(ILSlippedBlocks$Work;)Z" } : Jvm.MethodName) ({ cls := "SlippedBlocks$Text", name := "takesCell", desc := "(ILSlippedBlocks$Work;)Z" } : Jvm.MethodName)) ∈ TG := tg 2 rfl rfl
set_option maxRecDepth 20000 in
theorem wd_3 : (Jvm.Cond.selects "SlippedBlocks$Text" ({ cls := "SlippedBlocks$Text", name := "takesInk", desc := "(ILSlippedBlocks$Work;)Z" } : Jvm.MethodName) ({ cls := "SlippedBlocks$Text", name := "takesInk", desc := "(ILSlippedBlocks$Work;)Z" } : Jvm.MethodName)) ∈ TG := tg 3 rfl rfl
set_option maxRecDepth 20000 in
theorem wd_4 : (Jvm.Cond.selects "SlippedBlocks$Text" ({ cls := "SlippedBlocks$Text", name := "beginsItem", desc := "(CLSlippedBlocks$Work;)Z" } : Jvm.MethodName) ({ cls := "SlippedBlocks$Text", name := "beginsItem", desc := "(CLSlippedBlocks$Work;)Z" } : Jvm.MethodName)) ∈ TG := tg 4 rfl rfl
set_option maxRecDepth 20000 in
theorem wd_5 : (Jvm.Cond.selects "SlippedBlocks$Work" ({ cls := "SlippedBlocks$Work", name := "addToBlocks", desc := "(IJ)V" } : Jvm.MethodName) ({ cls := "SlippedBlocks$Work", name := "addToBlocks", desc := "(IJ)V" } : Jvm.MethodName)) ∈ TG := tg 5 rfl rfl
set_option maxRecDepth 20000 in
theorem wd_6 : (Jvm.Cond.selects "SlippedBlocks" ({ cls := "SlippedBlocks", name := "wrongCells", desc := "(II)I" } : Jvm.MethodName) ({ cls := "SlippedBlocks", name := "wrongCells", desc := "(II)I" } : Jvm.MethodName)) ∈ TG := tg 6 rfl rfl
set_option maxRecDepth 20000 in
theorem wd_7 : (Jvm.Cond.selects "SlippedBlocks$RowSearch" ({ cls := "SlippedBlocks$RowSearch", name := "settle", desc := "(III)V" } : Jvm.MethodName) ({ cls := "SlippedBlocks$RowSearch", name := "settle", desc := "(III)V" } : Jvm.MethodName)) ∈ TG := tg 7 rfl rfl
set_option maxRecDepth 20000 in
theorem wd_8 : (Jvm.Cond.selects "SlippedBlocks$RowSearch" ({ cls := "SlippedBlocks$RowSearch", name := "earliestRow", desc := "(III)I" } : Jvm.MethodName) ({ cls := "SlippedBlocks$RowSearch", name := "earliestRow", desc := "(III)I" } : Jvm.MethodName)) ∈ TG := tg 8 rfl rfl
set_option maxRecDepth 20000 in
theorem wd_9 : (Jvm.Cond.selects "SlippedBlocks$Sightings" ({ cls := "SlippedBlocks$Sightings", name := "explains", desc := "(LSlippedBlocks$Work;I)Z" } : Jvm.MethodName) ({ cls := "SlippedBlocks$Sightings", name := "explains", desc := "(LSlippedBlocks$Work;I)Z" } : Jvm.MethodName)) ∈ TG := tg 9 rfl rfl
set_option maxRecDepth 20000 in
theorem wd_10 : (Jvm.Cond.selects "SlippedBlocks$Sightings" ({ cls := "SlippedBlocks$Sightings", name := "addToTally", desc := "(LSlippedBlocks$Work;)V" } : Jvm.MethodName) ({ cls := "SlippedBlocks$Sightings", name := "addToTally", desc := "(LSlippedBlocks$Work;)V" } : Jvm.MethodName)) ∈ TG := tg 10 rfl rfl
set_option maxRecDepth 20000 in
theorem wd_11 : (Jvm.Cond.selects "SlippedBlocks$Sightings" ({ cls := "SlippedBlocks$Sightings", name := "mostTellingCell", desc := "(LSlippedBlocks$Work;)I" } : Jvm.MethodName) ({ cls := "SlippedBlocks$Sightings", name := "mostTellingCell", desc := "(LSlippedBlocks$Work;)I" } : Jvm.MethodName)) ∈ TG := tg 11 rfl rfl
set_option maxRecDepth 20000 in
theorem wd_12 : (Jvm.Cond.selects "SlippedBlocks$Sightings" ({ cls := "SlippedBlocks$Sightings", name := "greatestTally", desc := "(I)I" } : Jvm.MethodName) ({ cls := "SlippedBlocks$Sightings", name := "greatestTally", desc := "(I)I" } : Jvm.MethodName)) ∈ TG := tg 12 rfl rfl
set_option maxRecDepth 20000 in
theorem wd_13 : (Jvm.Cond.selects "SlippedBlocksModel" ({ cls := "SlippedBlocksModel", name := "readsText", desc := "()I" } : Jvm.MethodName) ({ cls := "SlippedBlocksModel", name := "readsText", desc := "()I" } : Jvm.MethodName)) ∈ TG := tg 13 rfl rfl
set_option maxRecDepth 20000 in
theorem wd_14 : (Jvm.Cond.selects "SlippedBlocksModel" ({ cls := "SlippedBlocksModel", name := "advances", desc := "()V" } : Jvm.MethodName) ({ cls := "SlippedBlocksModel", name := "advances", desc := "()V" } : Jvm.MethodName)) ∈ TG := tg 14 rfl rfl
set_option maxRecDepth 20000 in
theorem wd_15 : (Jvm.Cond.selects "SlippedBlocksModel" ({ cls := "SlippedBlocksModel", name := "letterAt", desc := "(I)I" } : Jvm.MethodName) ({ cls := "SlippedBlocksModel", name := "letterAt", desc := "(I)I" } : Jvm.MethodName)) ∈ TG := tg 15 rfl rfl
set_option maxRecDepth 20000 in
theorem wd_16 : (Jvm.Cond.selects "SlippedBlocksModel" ({ cls := "SlippedBlocksModel", name := "isWell", desc := "()Z" } : Jvm.MethodName) ({ cls := "SlippedBlocksModel", name := "isWell", desc := "()Z" } : Jvm.MethodName)) ∈ TG := tg 16 rfl rfl
set_option maxRecDepth 20000 in
theorem wd_17 : (Jvm.Cond.selects "SlippedBlocksModel" ({ cls := "SlippedBlocksModel", name := "readsRow", desc := "()V" } : Jvm.MethodName) ({ cls := "SlippedBlocksModel", name := "readsRow", desc := "()V" } : Jvm.MethodName)) ∈ TG := tg 17 rfl rfl
set_option maxRecDepth 20000 in
theorem wd_18 : (Jvm.Cond.selects "SlippedBlocksModel" ({ cls := "SlippedBlocksModel", name := "takes", desc := "(Z)I" } : Jvm.MethodName) ({ cls := "SlippedBlocksModel", name := "takes", desc := "(Z)I" } : Jvm.MethodName)) ∈ TG := tg 18 rfl rfl
set_option maxRecDepth 20000 in
theorem wd_19 : (Jvm.Cond.selects "SlippedBlocksModel" ({ cls := "SlippedBlocksModel", name := "readsInk", desc := "(Z)V" } : Jvm.MethodName) ({ cls := "SlippedBlocksModel", name := "readsInk", desc := "(Z)V" } : Jvm.MethodName)) ∈ TG := tg 19 rfl rfl
set_option maxRecDepth 20000 in
theorem wd_20 : (Jvm.Cond.selects "SlippedBlocksModel" ({ cls := "SlippedBlocksModel", name := "notes", desc := "()V" } : Jvm.MethodName) ({ cls := "SlippedBlocksModel", name := "notes", desc := "()V" } : Jvm.MethodName)) ∈ TG := tg 20 rfl rfl
set_option maxRecDepth 20000 in
theorem wd_21 : (Jvm.Cond.selects "SlippedBlocksModel" ({ cls := "SlippedBlocksModel", name := "asOrdered", desc := "()V" } : Jvm.MethodName) ({ cls := "SlippedBlocksModel", name := "asOrdered", desc := "()V" } : Jvm.MethodName)) ∈ TG := tg 21 rfl rfl
set_option maxRecDepth 20000 in
theorem wd_22 : (Jvm.Cond.selects "SlippedBlocksModel" ({ cls := "SlippedBlocksModel", name := "leastSet", desc := "()I" } : Jvm.MethodName) ({ cls := "SlippedBlocksModel", name := "leastSet", desc := "()I" } : Jvm.MethodName)) ∈ TG := tg 22 rfl rfl
set_option maxRecDepth 20000 in
theorem wd_23 : (Jvm.Cond.selects "SlippedBlocksModel" ({ cls := "SlippedBlocksModel", name := "mixes", desc := "()V" } : Jvm.MethodName) ({ cls := "SlippedBlocksModel", name := "mixes", desc := "()V" } : Jvm.MethodName)) ∈ TG := tg 23 rfl rfl
set_option maxRecDepth 20000 in
theorem wd_24 : (Jvm.Cond.selects "SlippedBlocksModel" ({ cls := "SlippedBlocksModel", name := "wanted", desc := "()I" } : Jvm.MethodName) ({ cls := "SlippedBlocksModel", name := "wanted", desc := "()I" } : Jvm.MethodName)) ∈ TG := tg 24 rfl rfl
set_option maxRecDepth 20000 in
theorem wd_25 : (Jvm.Cond.selects "SlippedBlocksModel" ({ cls := "SlippedBlocksModel", name := "partOf", desc := "(II)I" } : Jvm.MethodName) ({ cls := "SlippedBlocksModel", name := "partOf", desc := "(II)I" } : Jvm.MethodName)) ∈ TG := tg 25 rfl rfl
set_option maxRecDepth 20000 in
theorem wd_26 : (Jvm.Cond.selects "SlippedBlocksModel" ({ cls := "SlippedBlocksModel", name := "isInk", desc := "(I)Z" } : Jvm.MethodName) ({ cls := "SlippedBlocksModel", name := "isInk", desc := "(I)Z" } : Jvm.MethodName)) ∈ TG := tg 26 rfl rfl
set_option maxRecDepth 20000 in
theorem wd_27 : (Jvm.Cond.selects "SlippedBlocksModel" ({ cls := "SlippedBlocksModel", name := "isCell", desc := "(II)Z" } : Jvm.MethodName) ({ cls := "SlippedBlocksModel", name := "isCell", desc := "(II)Z" } : Jvm.MethodName)) ∈ TG := tg 27 rfl rfl
set_option maxRecDepth 20000 in
theorem wd_28 : (Jvm.Cond.selects "SlippedBlocksModel" ({ cls := "SlippedBlocksModel", name := "placeOf", desc := "(I)I" } : Jvm.MethodName) ({ cls := "SlippedBlocksModel", name := "placeOf", desc := "(I)I" } : Jvm.MethodName)) ∈ TG := tg 28 rfl rfl
set_option maxRecDepth 20000 in
theorem wd_29 : (Jvm.Cond.selects "SlippedBlocksModel" ({ cls := "SlippedBlocksModel", name := "proves", desc := "(III)V" } : Jvm.MethodName) ({ cls := "SlippedBlocksModel", name := "proves", desc := "(III)V" } : Jvm.MethodName)) ∈ TG := tg 29 rfl rfl
set_option maxRecDepth 20000 in
theorem wd_30 : (Jvm.Cond.selects "SlippedBlocksModel" ({ cls := "SlippedBlocksModel", name := "prints", desc := "(III)V" } : Jvm.MethodName) ({ cls := "SlippedBlocksModel", name := "prints", desc := "(III)V" } : Jvm.MethodName)) ∈ TG := tg 30 rfl rfl
set_option maxRecDepth 20000 in
theorem wd_31 : (Jvm.Cond.selects "SlippedBlocksModel" ({ cls := "SlippedBlocksModel", name := "wrongCells", desc := "()I" } : Jvm.MethodName) ({ cls := "SlippedBlocksModel", name := "wrongCells", desc := "()I" } : Jvm.MethodName)) ∈ TG := tg 31 rfl rfl
set_option maxRecDepth 20000 in
theorem wd_32 : (Jvm.Cond.selects "SlippedBlocksModel" ({ cls := "SlippedBlocksModel", name := "cellsOf", desc := "(I)I" } : Jvm.MethodName) ({ cls := "SlippedBlocksModel", name := "cellsOf", desc := "(I)I" } : Jvm.MethodName)) ∈ TG := tg 32 rfl rfl
set_option maxRecDepth 20000 in
theorem wd_33 : (Jvm.Cond.selects "SlippedBlocksModel" ({ cls := "SlippedBlocksModel", name := "fewestByOrder", desc := "()I" } : Jvm.MethodName) ({ cls := "SlippedBlocksModel", name := "fewestByOrder", desc := "()I" } : Jvm.MethodName)) ∈ TG := tg 33 rfl rfl
set_option maxRecDepth 20000 in
theorem wd_34 : (Jvm.Cond.selects "SlippedBlocksModel" ({ cls := "SlippedBlocksModel", name := "goesOn", desc := "()Z" } : Jvm.MethodName) ({ cls := "SlippedBlocksModel", name := "goesOn", desc := "()Z" } : Jvm.MethodName)) ∈ TG := tg 34 rfl rfl
set_option maxRecDepth 20000 in
theorem wd_35 : (Jvm.Cond.selects "SlippedBlocksModel" ({ cls := "SlippedBlocksModel", name := "exchanges", desc := "(II)V" } : Jvm.MethodName) ({ cls := "SlippedBlocksModel", name := "exchanges", desc := "(II)V" } : Jvm.MethodName)) ∈ TG := tg 35 rfl rfl
set_option maxRecDepth 20000 in
theorem wd_36 : (Jvm.Cond.selects "SlippedBlocksModel" ({ cls := "SlippedBlocksModel", name := "tries", desc := "(I)Z" } : Jvm.MethodName) ({ cls := "SlippedBlocksModel", name := "tries", desc := "(I)Z" } : Jvm.MethodName)) ∈ TG := tg 36 rfl rfl
set_option maxRecDepth 20000 in
theorem wd_37 : (Jvm.Cond.selects "SlippedBlocksModel" ({ cls := "SlippedBlocksModel", name := "isSeen", desc := "()Z" } : Jvm.MethodName) ({ cls := "SlippedBlocksModel", name := "isSeen", desc := "()Z" } : Jvm.MethodName)) ∈ TG := tg 37 rfl rfl
set_option maxRecDepth 20000 in
theorem wd_38 : (Jvm.Cond.selects "SlippedBlocksModel" ({ cls := "SlippedBlocksModel", name := "cellsOfAll", desc := "()I" } : Jvm.MethodName) ({ cls := "SlippedBlocksModel", name := "cellsOfAll", desc := "()I" } : Jvm.MethodName)) ∈ TG := tg 38 rfl rfl
set_option maxRecDepth 20000 in
theorem wd_39 : (Jvm.Cond.selects "SlippedBlocksModel" ({ cls := "SlippedBlocksModel", name := "slipped", desc := "()I" } : Jvm.MethodName) ({ cls := "SlippedBlocksModel", name := "slipped", desc := "()I" } : Jvm.MethodName)) ∈ TG := tg 39 rfl rfl
set_option maxRecDepth 20000 in
theorem wd_40 : (Jvm.Cond.initialized "SlippedBlocksLaw") ∈ TG := tg 40 rfl rfl
set_option maxRecDepth 20000 in
theorem wd_41 : (Jvm.Cond.initialized "SlippedBlocks") ∈ TG := tg 41 rfl rfl
set_option maxRecDepth 20000 in
theorem wd_42 : (Jvm.Cond.initialized "SlippedBlocks$Work") ∈ TG := tg 42 rfl rfl
set_option maxRecDepth 20000 in
theorem wd_43 : (Jvm.Cond.initialized "SlippedBlocks$Sheet") ∈ TG := tg 43 rfl rfl
set_option maxRecDepth 20000 in
theorem wd_44 : (Jvm.Cond.initialized "SlippedBlocks$Text") ∈ TG := tg 44 rfl rfl
set_option maxRecDepth 20000 in
theorem wd_45 : (Jvm.Cond.initialized "SlippedBlocks$Past") ∈ TG := tg 45 rfl rfl
set_option maxRecDepth 20000 in
theorem wd_46 : (Jvm.Cond.initialized "SlippedBlocks$Sightings") ∈ TG := tg 46 rfl rfl
set_option maxRecDepth 20000 in
theorem wd_47 : (Jvm.Cond.initialized "SlippedBlocks$RowSearch") ∈ TG := tg 47 rfl rfl
set_option maxRecDepth 20000 in
theorem wd_48 : (Jvm.Cond.initialized "SlippedBlocksModel") ∈ TG := tg 48 rfl rfl
set_option maxRecDepth 20000 in
theorem wd_49 : (Jvm.Cond.initialized "java/lang/System") ∈ TG := tg 49 rfl rfl
set_option maxRecDepth 20000 in
theorem wd_50 : (Jvm.Cond.initialized "java/lang/Math") ∈ TG := tg 50 rfl rfl
set_option maxRecDepth 20000 in
theorem wd_51 : (Jvm.Cond.initialized "java/lang/Integer") ∈ TG := tg 51 rfl rfl
set_option maxRecDepth 20000 in
theorem wd_52 : (Jvm.Cond.initialized "java/lang/Long") ∈ TG := tg 52 rfl rfl
set_option maxRecDepth 20000 in
theorem wd_53 : (Jvm.Cond.classLink "SlippedBlocksLaw" (7 : Nat) "SlippedBlocks") ∈ TG := tg 53 rfl rfl
set_option maxRecDepth 20000 in
theorem wd_54 : (Jvm.Cond.instantiable "SlippedBlocks" (9 : Nat)) ∈ TG := tg 54 rfl rfl
set_option maxRecDepth 20000 in
theorem wd_55 : (Jvm.Cond.methodLink "SlippedBlocksLaw" (9 : Nat) ({ cls := "SlippedBlocks", name := "<init>", desc := "()V" } : Jvm.MethodName)) ∈ TG := tg 55 rfl rfl
set_option maxRecDepth 20000 in
theorem wd_56 : (Jvm.Cond.instanceMethod ({ cls := "SlippedBlocks", name := "<init>", desc := "()V" } : Jvm.MethodName)) ∈ TG := tg 56 rfl rfl
set_option maxRecDepth 20000 in
theorem wd_57 : (Jvm.Cond.code ({ cls := "SlippedBlocks", name := "<init>", desc := "()V" } : Jvm.MethodName) prog_1_method_1_code (2 : Nat) (Option.none : Option Jvm.ClassFile.FieldType)) ∈ TG := tg 57 rfl rfl
set_option maxRecDepth 20000 in
theorem wd_58 : (Jvm.Cond.methodLink "SlippedBlocks" (1 : Nat) ({ cls := "java/lang/Object", name := "<init>", desc := "()V" } : Jvm.MethodName)) ∈ TG := tg 58 rfl rfl
set_option maxRecDepth 20000 in
theorem wd_59 : (Jvm.Cond.instanceMethod ({ cls := "java/lang/Object", name := "<init>", desc := "()V" } : Jvm.MethodName)) ∈ TG := tg 59 rfl rfl
set_option maxRecDepth 20000 in
theorem wd_60 : (Jvm.Cond.code ({ cls := "java/lang/Object", name := "<init>", desc := "()V" } : Jvm.MethodName) object_method_1_code (1 : Nat) (Option.none : Option Jvm.ClassFile.FieldType)) ∈ TG := tg 60 rfl rfl
set_option maxRecDepth 20000 in
theorem wd_61 : (Jvm.Cond.classLink "SlippedBlocks" (7 : Nat) "SlippedBlocks$Work") ∈ TG := tg 61 rfl rfl
set_option maxRecDepth 20000 in
theorem wd_62 : (Jvm.Cond.instantiable "SlippedBlocks$Work" (9 : Nat)) ∈ TG := tg 62 rfl rfl
set_option maxRecDepth 20000 in
theorem wd_64 : (Jvm.Cond.instanceMethod ({ cls := "SlippedBlocks$Work", name := "<init>", desc := "()V" } : Jvm.MethodName)) ∈ TG := tg 64 rfl rfl
set_option maxRecDepth 20000 in
theorem wd_65 : (Jvm.Cond.code ({ cls := "SlippedBlocks$Work", name := "<init>", desc := "()V" } : Jvm.MethodName) prog_7_method_1_code (1 : Nat) (Option.none : Option Jvm.ClassFile.FieldType)) ∈ TG := tg 65 rfl rfl
set_option maxRecDepth 20000 in
theorem wd_66 : (Jvm.Cond.methodLink "SlippedBlocks$Work" (3 : Nat) ({ cls := "java/lang/Object", name := "<init>", desc := "()V" } : Jvm.MethodName)) ∈ TG := tg 66 rfl rfl
set_option maxRecDepth 20000 in
theorem wd_67 : (Jvm.Cond.classLink "SlippedBlocks$Work" (24 : Nat) "SlippedBlocks$Sheet") ∈ TG := tg 67 rfl rfl
set_option maxRecDepth 20000 in
theorem wd_68 : (Jvm.Cond.instantiable "SlippedBlocks$Sheet" (3 : Nat)) ∈ TG := tg 68 rfl rfl
set_option maxRecDepth 20000 in
theorem wd_70 : (Jvm.Cond.instanceMethod ({ cls := "SlippedBlocks$Sheet", name := "<init>", desc := "()V" } : Jvm.MethodName)) ∈ TG := tg 70 rfl rfl
set_option maxRecDepth 20000 in
theorem wd_71 : (Jvm.Cond.code ({ cls := "SlippedBlocks$Sheet", name := "<init>", desc := "()V" } : Jvm.MethodName) prog_4_method_1_code (1 : Nat) (Option.none : Option Jvm.ClassFile.FieldType)) ∈ TG := tg 71 rfl rfl
set_option maxRecDepth 20000 in
theorem wd_72 : (Jvm.Cond.methodLink "SlippedBlocks$Sheet" (1 : Nat) ({ cls := "java/lang/Object", name := "<init>", desc := "()V" } : Jvm.MethodName)) ∈ TG := tg 72 rfl rfl
set_option maxRecDepth 20000 in
theorem wd_73 : (Jvm.Cond.fieldLink "SlippedBlocks$Sheet" (7 : Nat) "SlippedBlocks$Sheet" "first" "J") ∈ TG := tg 73 rfl rfl
set_option maxRecDepth 20000 in
theorem wd_74 : (Jvm.Cond.fieldLink "SlippedBlocks$Sheet" (13 : Nat) "SlippedBlocks$Sheet" "second" "J") ∈ TG := tg 74 rfl rfl
set_option maxRecDepth 20000 in
theorem wd_75 : (Jvm.Cond.fieldLink "SlippedBlocks$Sheet" (16 : Nat) "SlippedBlocks$Sheet" "third" "J") ∈ TG := tg 75 rfl rfl
set_option maxRecDepth 20000 in
theorem wd_76 : (Jvm.Cond.lays "SlippedBlocks$Sheet" "SlippedBlocks$Sheet" "first" "J") ∈ TG := tg 76 rfl rfl
set_option maxRecDepth 20000 in
theorem wd_78 : (Jvm.Cond.lays "SlippedBlocks$Sheet" "SlippedBlocks$Sheet" "second" "J") ∈ TG := tg 78 rfl rfl
set_option maxRecDepth 20000 in
theorem wd_80 : (Jvm.Cond.lays "SlippedBlocks$Sheet" "SlippedBlocks$Sheet" "third" "J") ∈ TG := tg 80 rfl rfl
set_option maxRecDepth 20000 in
theorem wd_83 : (Jvm.Cond.fieldLink "SlippedBlocks$Work" (9 : Nat) "SlippedBlocks$Work" "width" "I") ∈ TG := tg 83 rfl rfl
set_option maxRecDepth 20000 in
theorem wd_87 : (Jvm.Cond.fieldLink "SlippedBlocks$Work" (15 : Nat) "SlippedBlocks$Work" "height" "I") ∈ TG := tg 87 rfl rfl
set_option maxRecDepth 20000 in
theorem wd_91 : (Jvm.Cond.fieldLink "SlippedBlocks$Work" (18 : Nat) "SlippedBlocks$Work" "inks" "I") ∈ TG := tg 91 rfl rfl
set_option maxRecDepth 20000 in
theorem wd_96 : (Jvm.Cond.fieldLink "SlippedBlocks$Work" (21 : Nat) "SlippedBlocks$Work" "denseInks" "I") ∈ TG := tg 96 rfl rfl
set_option maxRecDepth 20000 in
theorem wd_97 : (Jvm.Cond.fieldLink "SlippedBlocks$Work" (27 : Nat) "SlippedBlocks$Work" "picture" "LSlippedBlocks$Sheet;") ∈ TG := tg 97 rfl rfl
set_option maxRecDepth 20000 in
theorem wd_100 : (Jvm.Cond.fieldLink "SlippedBlocks$Work" (31 : Nat) "SlippedBlocks$Work" "colour" "[I") ∈ TG := tg 100 rfl rfl
set_option maxRecDepth 20000 in
theorem wd_102 : (Jvm.Cond.fieldLink "SlippedBlocks$Work" (35 : Nat) "SlippedBlocks$Work" "inkAtPlace" "[I") ∈ TG := tg 102 rfl rfl
set_option maxRecDepth 20000 in
theorem wd_103 : (Jvm.Cond.fieldLink "SlippedBlocks$Work" (38 : Nat) "SlippedBlocks$Work" "block" "[J") ∈ TG := tg 103 rfl rfl
set_option maxRecDepth 20000 in
theorem wd_105 : (Jvm.Cond.fieldLink "SlippedBlocks$Work" (42 : Nat) "SlippedBlocks$Work" "slip" "[I") ∈ TG := tg 105 rfl rfl
set_option maxRecDepth 20000 in
theorem wd_108 : (Jvm.Cond.lays "SlippedBlocks$Work" "SlippedBlocks$Work" "width" "I") ∈ TG := tg 108 rfl rfl
set_option maxRecDepth 20000 in
theorem wd_110 : (Jvm.Cond.lays "SlippedBlocks$Work" "SlippedBlocks$Work" "height" "I") ∈ TG := tg 110 rfl rfl
set_option maxRecDepth 20000 in
theorem wd_112 : (Jvm.Cond.lays "SlippedBlocks$Work" "SlippedBlocks$Work" "inks" "I") ∈ TG := tg 112 rfl rfl
set_option maxRecDepth 20000 in
theorem wd_114 : (Jvm.Cond.lays "SlippedBlocks$Work" "SlippedBlocks$Work" "denseInks" "I") ∈ TG := tg 114 rfl rfl
set_option maxRecDepth 20000 in
theorem wd_116 : (Jvm.Cond.laysFinal "SlippedBlocks$Work" "SlippedBlocks$Work" "picture" "LSlippedBlocks$Sheet;") ∈ TG := tg 116 rfl rfl
set_option maxRecDepth 20000 in
theorem wd_118 : (Jvm.Cond.laysFinal "SlippedBlocks$Work" "SlippedBlocks$Work" "colour" "[I") ∈ TG := tg 118 rfl rfl
set_option maxRecDepth 20000 in
theorem wd_120 : (Jvm.Cond.laysFinal "SlippedBlocks$Work" "SlippedBlocks$Work" "inkAtPlace" "[I") ∈ TG := tg 120 rfl rfl
set_option maxRecDepth 20000 in
theorem wd_122 : (Jvm.Cond.laysFinal "SlippedBlocks$Work" "SlippedBlocks$Work" "block" "[J") ∈ TG := tg 122 rfl rfl
set_option maxRecDepth 20000 in
theorem wd_124 : (Jvm.Cond.laysFinal "SlippedBlocks$Work" "SlippedBlocks$Work" "slip" "[I") ∈ TG := tg 124 rfl rfl
set_option maxRecDepth 20000 in
theorem wd_127 : (Jvm.Cond.arrayClass Jvm.ClassFile.FieldType.int) ∈ TG := tg 127 rfl rfl
set_option maxRecDepth 20000 in
theorem wd_128 : (Jvm.Cond.arrayClass Jvm.ClassFile.FieldType.long) ∈ TG := tg 128 rfl rfl
set_option maxRecDepth 20000 in
theorem wd_129 : (Jvm.Cond.classLink "SlippedBlocks" (19 : Nat) "SlippedBlocks$Text") ∈ TG := tg 129 rfl rfl
set_option maxRecDepth 20000 in
theorem wd_130 : (Jvm.Cond.instantiable "SlippedBlocks$Text" (4 : Nat)) ∈ TG := tg 130 rfl rfl
set_option maxRecDepth 20000 in
theorem wd_132 : (Jvm.Cond.instanceMethod ({ cls := "SlippedBlocks$Text", name := "<init>", desc := "()V" } : Jvm.MethodName)) ∈ TG := tg 132 rfl rfl
set_option maxRecDepth 20000 in
theorem wd_133 : (Jvm.Cond.code ({ cls := "SlippedBlocks$Text", name := "<init>", desc := "()V" } : Jvm.MethodName) prog_6_method_1_code (1 : Nat) (Option.none : Option Jvm.ClassFile.FieldType)) ∈ TG := tg 133 rfl rfl
set_option maxRecDepth 20000 in
theorem wd_134 : (Jvm.Cond.methodLink "SlippedBlocks$Text" (3 : Nat) ({ cls := "java/lang/Object", name := "<init>", desc := "()V" } : Jvm.MethodName)) ∈ TG := tg 134 rfl rfl
set_option maxRecDepth 20000 in
theorem wd_135 : (Jvm.Cond.fieldLink "SlippedBlocks$Text" (9 : Nat) "SlippedBlocks$Text" "letters" "[C") ∈ TG := tg 135 rfl rfl
set_option maxRecDepth 20000 in
theorem wd_136 : (Jvm.Cond.fieldLink "SlippedBlocks$Text" (15 : Nat) "SlippedBlocks$Text" "length" "I") ∈ TG := tg 136 rfl rfl
set_option maxRecDepth 20000 in
theorem wd_138 : (Jvm.Cond.fieldLink "SlippedBlocks$Text" (19 : Nat) "SlippedBlocks$Text" "item" "C") ∈ TG := tg 138 rfl rfl
set_option maxRecDepth 20000 in
theorem wd_139 : (Jvm.Cond.fieldLink "SlippedBlocks$Text" (23 : Nat) "SlippedBlocks$Text" "figures" "I") ∈ TG := tg 139 rfl rfl
set_option maxRecDepth 20000 in
theorem wd_140 : (Jvm.Cond.laysFinal "SlippedBlocks$Text" "SlippedBlocks$Text" "letters" "[C") ∈ TG := tg 140 rfl rfl
set_option maxRecDepth 20000 in
theorem wd_142 : (Jvm.Cond.lays "SlippedBlocks$Text" "SlippedBlocks$Text" "length" "I") ∈ TG := tg 142 rfl rfl
set_option maxRecDepth 20000 in
theorem wd_144 : (Jvm.Cond.lays "SlippedBlocks$Text" "SlippedBlocks$Text" "item" "C") ∈ TG := tg 144 rfl rfl
set_option maxRecDepth 20000 in
theorem wd_146 : (Jvm.Cond.lays "SlippedBlocks$Text" "SlippedBlocks$Text" "figures" "I") ∈ TG := tg 146 rfl rfl
set_option maxRecDepth 20000 in
theorem wd_149 : (Jvm.Cond.arrayClass Jvm.ClassFile.FieldType.char) ∈ TG := tg 149 rfl rfl
set_option maxRecDepth 20000 in
theorem wd_150 : (Jvm.Cond.classLink "SlippedBlocks" (26 : Nat) "SlippedBlocks$Past") ∈ TG := tg 150 rfl rfl
set_option maxRecDepth 20000 in
theorem wd_151 : (Jvm.Cond.instantiable "SlippedBlocks$Past" (3 : Nat)) ∈ TG := tg 151 rfl rfl
set_option maxRecDepth 20000 in
theorem wd_152 : (Jvm.Cond.methodLink "SlippedBlocks" (28 : Nat) ({ cls := "SlippedBlocks$Past", name := "<init>", desc := "()V" } : Jvm.MethodName)) ∈ TG := tg 152 rfl rfl
set_option maxRecDepth 20000 in
theorem wd_153 : (Jvm.Cond.instanceMethod ({ cls := "SlippedBlocks$Past", name := "<init>", desc := "()V" } : Jvm.MethodName)) ∈ TG := tg 153 rfl rfl
set_option maxRecDepth 20000 in
theorem wd_154 : (Jvm.Cond.code ({ cls := "SlippedBlocks$Past", name := "<init>", desc := "()V" } : Jvm.MethodName) prog_2_method_1_code (2 : Nat) (Option.none : Option Jvm.ClassFile.FieldType)) ∈ TG := tg 154 rfl rfl
set_option maxRecDepth 20000 in
theorem wd_155 : (Jvm.Cond.methodLink "SlippedBlocks$Past" (3 : Nat) ({ cls := "java/lang/Object", name := "<init>", desc := "()V" } : Jvm.MethodName)) ∈ TG := tg 155 rfl rfl
set_option maxRecDepth 20000 in
theorem wd_156 : (Jvm.Cond.classLink "SlippedBlocks$Past" (9 : Nat) "SlippedBlocks$Work") ∈ TG := tg 156 rfl rfl
set_option maxRecDepth 20000 in
theorem wd_159 : (Jvm.Cond.fieldLink "SlippedBlocks$Past" (11 : Nat) "SlippedBlocks$Past" "works" "[LSlippedBlocks$Work;") ∈ TG := tg 159 rfl rfl
set_option maxRecDepth 20000 in
theorem wd_160 : (Jvm.Cond.fieldLink "SlippedBlocks$Past" (17 : Nat) "SlippedBlocks$Past" "next" "I") ∈ TG := tg 160 rfl rfl
set_option maxRecDepth 20000 in
theorem wd_161 : (Jvm.Cond.fieldLink "SlippedBlocks$Past" (21 : Nat) "SlippedBlocks$Past" "many" "I") ∈ TG := tg 161 rfl rfl
set_option maxRecDepth 20000 in
theorem wd_163 : (Jvm.Cond.laysFinal "SlippedBlocks$Past" "SlippedBlocks$Past" "works" "[LSlippedBlocks$Work;") ∈ TG := tg 163 rfl rfl
set_option maxRecDepth 20000 in
theorem wd_165 : (Jvm.Cond.lays "SlippedBlocks$Past" "SlippedBlocks$Past" "next" "I") ∈ TG := tg 165 rfl rfl
set_option maxRecDepth 20000 in
theorem wd_167 : (Jvm.Cond.lays "SlippedBlocks$Past" "SlippedBlocks$Past" "many" "I") ∈ TG := tg 167 rfl rfl
set_option maxRecDepth 20000 in
theorem wd_170 : (Jvm.Cond.classLink "SlippedBlocks" (41 : Nat) "SlippedBlocks$Sightings") ∈ TG := tg 170 rfl rfl
set_option maxRecDepth 20000 in
theorem wd_171 : (Jvm.Cond.instantiable "SlippedBlocks$Sightings" (6 : Nat)) ∈ TG := tg 171 rfl rfl
set_option maxRecDepth 20000 in
theorem wd_173 : (Jvm.Cond.instanceMethod ({ cls := "SlippedBlocks$Sightings", name := "<init>", desc := "()V" } : Jvm.MethodName)) ∈ TG := tg 173 rfl rfl
set_option maxRecDepth 20000 in
theorem wd_174 : (Jvm.Cond.code ({ cls := "SlippedBlocks$Sightings", name := "<init>", desc := "()V" } : Jvm.MethodName) prog_5_method_1_code (1 : Nat) (Option.none : Option Jvm.ClassFile.FieldType)) ∈ TG := tg 174 rfl rfl
set_option maxRecDepth 20000 in
theorem wd_175 : (Jvm.Cond.methodLink "SlippedBlocks$Sightings" (3 : Nat) ({ cls := "java/lang/Object", name := "<init>", desc := "()V" } : Jvm.MethodName)) ∈ TG := tg 175 rfl rfl
set_option maxRecDepth 20000 in
theorem wd_176 : (Jvm.Cond.classLink "SlippedBlocks$Sightings" (25 : Nat) "SlippedBlocks$Sheet") ∈ TG := tg 176 rfl rfl
set_option maxRecDepth 20000 in
theorem wd_178 : (Jvm.Cond.fieldLink "SlippedBlocks$Sightings" (9 : Nat) "SlippedBlocks$Sightings" "xs" "[I") ∈ TG := tg 178 rfl rfl
set_option maxRecDepth 20000 in
theorem wd_179 : (Jvm.Cond.fieldLink "SlippedBlocks$Sightings" (15 : Nat) "SlippedBlocks$Sightings" "ys" "[I") ∈ TG := tg 179 rfl rfl
set_option maxRecDepth 20000 in
theorem wd_180 : (Jvm.Cond.fieldLink "SlippedBlocks$Sightings" (18 : Nat) "SlippedBlocks$Sightings" "colours" "[I") ∈ TG := tg 180 rfl rfl
set_option maxRecDepth 20000 in
theorem wd_181 : (Jvm.Cond.fieldLink "SlippedBlocks$Sightings" (21 : Nat) "SlippedBlocks$Sightings" "many" "I") ∈ TG := tg 181 rfl rfl
set_option maxRecDepth 20000 in
theorem wd_183 : (Jvm.Cond.fieldLink "SlippedBlocks$Sightings" (28 : Nat) "SlippedBlocks$Sightings" "proof" "LSlippedBlocks$Sheet;") ∈ TG := tg 183 rfl rfl
set_option maxRecDepth 20000 in
theorem wd_184 : (Jvm.Cond.fieldLink "SlippedBlocks$Sightings" (32 : Nat) "SlippedBlocks$Sightings" "tally" "[I") ∈ TG := tg 184 rfl rfl
set_option maxRecDepth 20000 in
theorem wd_185 : (Jvm.Cond.laysFinal "SlippedBlocks$Sightings" "SlippedBlocks$Sightings" "xs" "[I") ∈ TG := tg 185 rfl rfl
set_option maxRecDepth 20000 in
theorem wd_187 : (Jvm.Cond.laysFinal "SlippedBlocks$Sightings" "SlippedBlocks$Sightings" "ys" "[I") ∈ TG := tg 187 rfl rfl
set_option maxRecDepth 20000 in
theorem wd_189 : (Jvm.Cond.laysFinal "SlippedBlocks$Sightings" "SlippedBlocks$Sightings" "colours" "[I") ∈ TG := tg 189 rfl rfl
set_option maxRecDepth 20000 in
theorem wd_191 : (Jvm.Cond.lays "SlippedBlocks$Sightings" "SlippedBlocks$Sightings" "many" "I") ∈ TG := tg 191 rfl rfl
set_option maxRecDepth 20000 in
theorem wd_193 : (Jvm.Cond.laysFinal "SlippedBlocks$Sightings" "SlippedBlocks$Sightings" "proof" "LSlippedBlocks$Sheet;") ∈ TG := tg 193 rfl rfl
set_option maxRecDepth 20000 in
theorem wd_195 : (Jvm.Cond.laysFinal "SlippedBlocks$Sightings" "SlippedBlocks$Sightings" "tally" "[I") ∈ TG := tg 195 rfl rfl
set_option maxRecDepth 20000 in
theorem wd_198 : (Jvm.Cond.arrayClass Jvm.ClassFile.FieldType.boolean) ∈ TG := tg 198 rfl rfl
set_option maxRecDepth 20000 in
theorem wd_199 : (Jvm.Cond.classLink "SlippedBlocks" (48 : Nat) "SlippedBlocks$RowSearch") ∈ TG := tg 199 rfl rfl
set_option maxRecDepth 20000 in
theorem wd_200 : (Jvm.Cond.instantiable "SlippedBlocks$RowSearch" (5 : Nat)) ∈ TG := tg 200 rfl rfl
set_option maxRecDepth 20000 in
theorem wd_202 : (Jvm.Cond.instanceMethod ({ cls := "SlippedBlocks$RowSearch", name := "<init>", desc := "()V" } : Jvm.MethodName)) ∈ TG := tg 202 rfl rfl
set_option maxRecDepth 20000 in
theorem wd_203 : (Jvm.Cond.code ({ cls := "SlippedBlocks$RowSearch", name := "<init>", desc := "()V" } : Jvm.MethodName) prog_3_method_1_code (1 : Nat) (Option.none : Option Jvm.ClassFile.FieldType)) ∈ TG := tg 203 rfl rfl
set_option maxRecDepth 20000 in
theorem wd_204 : (Jvm.Cond.methodLink "SlippedBlocks$RowSearch" (3 : Nat) ({ cls := "java/lang/Object", name := "<init>", desc := "()V" } : Jvm.MethodName)) ∈ TG := tg 204 rfl rfl
set_option maxRecDepth 20000 in
theorem wd_205 : (Jvm.Cond.fieldLink "SlippedBlocks$RowSearch" (9 : Nat) "SlippedBlocks$RowSearch" "shortRow" "[I") ∈ TG := tg 205 rfl rfl
set_option maxRecDepth 20000 in
theorem wd_206 : (Jvm.Cond.fieldLink "SlippedBlocks$RowSearch" (15 : Nat) "SlippedBlocks$RowSearch" "palette" "I") ∈ TG := tg 206 rfl rfl
set_option maxRecDepth 20000 in
theorem wd_207 : (Jvm.Cond.fieldLink "SlippedBlocks$RowSearch" (19 : Nat) "SlippedBlocks$RowSearch" "found" "Z") ∈ TG := tg 207 rfl rfl
set_option maxRecDepth 20000 in
theorem wd_209 : (Jvm.Cond.fieldLink "SlippedBlocks$RowSearch" (23 : Nat) "SlippedBlocks$RowSearch" "fewest" "I") ∈ TG := tg 209 rfl rfl
set_option maxRecDepth 20000 in
theorem wd_211 : (Jvm.Cond.fieldLink "SlippedBlocks$RowSearch" (26 : Nat) "SlippedBlocks$RowSearch" "best" "I") ∈ TG := tg 211 rfl rfl
set_option maxRecDepth 20000 in
theorem wd_212 : (Jvm.Cond.laysFinal "SlippedBlocks$RowSearch" "SlippedBlocks$RowSearch" "shortRow" "[I") ∈ TG := tg 212 rfl rfl
set_option maxRecDepth 20000 in
theorem wd_214 : (Jvm.Cond.lays "SlippedBlocks$RowSearch" "SlippedBlocks$RowSearch" "palette" "I") ∈ TG := tg 214 rfl rfl
set_option maxRecDepth 20000 in
theorem wd_216 : (Jvm.Cond.lays "SlippedBlocks$RowSearch" "SlippedBlocks$RowSearch" "found" "Z") ∈ TG := tg 216 rfl rfl
set_option maxRecDepth 20000 in
theorem wd_218 : (Jvm.Cond.lays "SlippedBlocks$RowSearch" "SlippedBlocks$RowSearch" "fewest" "I") ∈ TG := tg 218 rfl rfl
set_option maxRecDepth 20000 in
theorem wd_220 : (Jvm.Cond.lays "SlippedBlocks$RowSearch" "SlippedBlocks$RowSearch" "best" "I") ∈ TG := tg 220 rfl rfl
set_option maxRecDepth 20000 in
theorem wd_223 : (Jvm.Cond.classLink "SlippedBlocks" (55 : Nat) "SlippedBlocks$Sheet") ∈ TG := tg 223 rfl rfl
set_option maxRecDepth 20000 in
theorem wd_225 : (Jvm.Cond.fieldLink "SlippedBlocks" (10 : Nat) "SlippedBlocks" "now" "LSlippedBlocks$Work;") ∈ TG := tg 225 rfl rfl
set_option maxRecDepth 20000 in
theorem wd_226 : (Jvm.Cond.fieldLink "SlippedBlocks" (16 : Nat) "SlippedBlocks" "told" "LSlippedBlocks$Work;") ∈ TG := tg 226 rfl rfl
set_option maxRecDepth 20000 in
theorem wd_227 : (Jvm.Cond.fieldLink "SlippedBlocks" (22 : Nat) "SlippedBlocks" "text" "LSlippedBlocks$Text;") ∈ TG := tg 227 rfl rfl
set_option maxRecDepth 20000 in
theorem wd_228 : (Jvm.Cond.fieldLink "SlippedBlocks" (29 : Nat) "SlippedBlocks" "past" "LSlippedBlocks$Past;") ∈ TG := tg 228 rfl rfl
set_option maxRecDepth 20000 in
theorem wd_229 : (Jvm.Cond.fieldLink "SlippedBlocks" (33 : Nat) "SlippedBlocks" "images" "[LSlippedBlocks$Work;") ∈ TG := tg 229 rfl rfl
set_option maxRecDepth 20000 in
theorem wd_230 : (Jvm.Cond.fieldLink "SlippedBlocks" (37 : Nat) "SlippedBlocks" "kept" "[Z") ∈ TG := tg 230 rfl rfl
set_option maxRecDepth 20000 in
theorem wd_231 : (Jvm.Cond.fieldLink "SlippedBlocks" (44 : Nat) "SlippedBlocks" "sightings" "LSlippedBlocks$Sightings;") ∈ TG := tg 231 rfl rfl
set_option maxRecDepth 20000 in
theorem wd_232 : (Jvm.Cond.fieldLink "SlippedBlocks" (51 : Nat) "SlippedBlocks" "search" "LSlippedBlocks$RowSearch;") ∈ TG := tg 232 rfl rfl
set_option maxRecDepth 20000 in
theorem wd_233 : (Jvm.Cond.fieldLink "SlippedBlocks" (58 : Nat) "SlippedBlocks" "proof" "LSlippedBlocks$Sheet;") ∈ TG := tg 233 rfl rfl
set_option maxRecDepth 20000 in
theorem wd_234 : (Jvm.Cond.laysFinal "SlippedBlocks" "SlippedBlocks" "now" "LSlippedBlocks$Work;") ∈ TG := tg 234 rfl rfl
set_option maxRecDepth 20000 in
theorem wd_236 : (Jvm.Cond.laysFinal "SlippedBlocks" "SlippedBlocks" "told" "LSlippedBlocks$Work;") ∈ TG := tg 236 rfl rfl
set_option maxRecDepth 20000 in
theorem wd_238 : (Jvm.Cond.laysFinal "SlippedBlocks" "SlippedBlocks" "text" "LSlippedBlocks$Text;") ∈ TG := tg 238 rfl rfl
set_option maxRecDepth 20000 in
theorem wd_240 : (Jvm.Cond.laysFinal "SlippedBlocks" "SlippedBlocks" "past" "LSlippedBlocks$Past;") ∈ TG := tg 240 rfl rfl
set_option maxRecDepth 20000 in
theorem wd_242 : (Jvm.Cond.laysFinal "SlippedBlocks" "SlippedBlocks" "images" "[LSlippedBlocks$Work;") ∈ TG := tg 242 rfl rfl
set_option maxRecDepth 20000 in
theorem wd_244 : (Jvm.Cond.laysFinal "SlippedBlocks" "SlippedBlocks" "kept" "[Z") ∈ TG := tg 244 rfl rfl
set_option maxRecDepth 20000 in
theorem wd_246 : (Jvm.Cond.laysFinal "SlippedBlocks" "SlippedBlocks" "sightings" "LSlippedBlocks$Sightings;") ∈ TG := tg 246 rfl rfl
set_option maxRecDepth 20000 in
theorem wd_248 : (Jvm.Cond.laysFinal "SlippedBlocks" "SlippedBlocks" "search" "LSlippedBlocks$RowSearch;") ∈ TG := tg 248 rfl rfl
set_option maxRecDepth 20000 in
theorem wd_250 : (Jvm.Cond.laysFinal "SlippedBlocks" "SlippedBlocks" "proof" "LSlippedBlocks$Sheet;") ∈ TG := tg 250 rfl rfl
set_option maxRecDepth 20000 in
theorem wd_253 : (Jvm.Cond.methodLink "SlippedBlocksLaw" (13 : Nat) ({ cls := "SlippedBlocks", name := "type", desc := "(I)I" } : Jvm.MethodName)) ∈ TG := tg 253 rfl rfl
set_option maxRecDepth 20000 in
theorem wd_254 : (Jvm.Cond.instanceMethod ({ cls := "SlippedBlocks", name := "type", desc := "(I)I" } : Jvm.MethodName)) ∈ TG := tg 254 rfl rfl
set_option maxRecDepth 20000 in
theorem wd_255 : (Jvm.Cond.selects "SlippedBlocks" ({ cls := "SlippedBlocks", name := "type", desc := "(I)I" } : Jvm.MethodName) ({ cls := "SlippedBlocks", name := "type", desc := "(I)I" } : Jvm.MethodName)) ∈ TG := tg 255 rfl rfl
set_option maxRecDepth 20000 in
theorem wd_256 : (Jvm.Cond.code ({ cls := "SlippedBlocks", name := "type", desc := "(I)I" } : Jvm.MethodName) prog_1_method_2_code (2 : Nat) (Option.some Jvm.ClassFile.FieldType.int)) ∈ TG := tg 256 rfl rfl
set_option maxRecDepth 20000 in
theorem wd_257 : (Jvm.Cond.methodLink "SlippedBlocks" (62 : Nat) ({ cls := "SlippedBlocks$Text", name := "append", desc := "(I)Z" } : Jvm.MethodName)) ∈ TG := tg 257 rfl rfl
set_option maxRecDepth 20000 in
theorem wd_258 : (Jvm.Cond.instanceMethod ({ cls := "SlippedBlocks$Text", name := "append", desc := "(I)Z" } : Jvm.MethodName)) ∈ TG := tg 258 rfl rfl
set_option maxRecDepth 20000 in
theorem wd_259 : (Jvm.Cond.selects "SlippedBlocks$Text" ({ cls := "SlippedBlocks$Text", name := "append", desc := "(I)Z" } : Jvm.MethodName) ({ cls := "SlippedBlocks$Text", name := "append", desc := "(I)Z" } : Jvm.MethodName)) ∈ TG := tg 259 rfl rfl
set_option maxRecDepth 20000 in
theorem wd_260 : (Jvm.Cond.code ({ cls := "SlippedBlocks$Text", name := "append", desc := "(I)Z" } : Jvm.MethodName) prog_6_method_2_code (2 : Nat) (Option.some Jvm.ClassFile.FieldType.boolean)) ∈ TG := tg 260 rfl rfl
set_option maxRecDepth 20000 in
theorem wd_261 : (Jvm.Cond.methodLink "SlippedBlocksLaw" (18 : Nat) ({ cls := "SlippedBlocks", name := "clear", desc := "()I" } : Jvm.MethodName)) ∈ TG := tg 261 rfl rfl
set_option maxRecDepth 20000 in
theorem wd_262 : (Jvm.Cond.instanceMethod ({ cls := "SlippedBlocks", name := "clear", desc := "()I" } : Jvm.MethodName)) ∈ TG := tg 262 rfl rfl
set_option maxRecDepth 20000 in
theorem wd_263 : (Jvm.Cond.selects "SlippedBlocks" ({ cls := "SlippedBlocks", name := "clear", desc := "()I" } : Jvm.MethodName) ({ cls := "SlippedBlocks", name := "clear", desc := "()I" } : Jvm.MethodName)) ∈ TG := tg 263 rfl rfl
set_option maxRecDepth 20000 in
theorem wd_264 : (Jvm.Cond.code ({ cls := "SlippedBlocks", name := "clear", desc := "()I" } : Jvm.MethodName) prog_1_method_3_code (2 : Nat) (Option.some Jvm.ClassFile.FieldType.int)) ∈ TG := tg 264 rfl rfl
set_option maxRecDepth 20000 in
theorem wd_265 : (Jvm.Cond.methodLink "SlippedBlocksLaw" (23 : Nat) ({ cls := "SlippedBlocks", name := "tells", desc := "()I" } : Jvm.MethodName)) ∈ TG := tg 265 rfl rfl
set_option maxRecDepth 20000 in
theorem wd_266 : (Jvm.Cond.instanceMethod ({ cls := "SlippedBlocks", name := "tells", desc := "()I" } : Jvm.MethodName)) ∈ TG := tg 266 rfl rfl
set_option maxRecDepth 20000 in
theorem wd_267 : (Jvm.Cond.selects "SlippedBlocks" ({ cls := "SlippedBlocks", name := "tells", desc := "()I" } : Jvm.MethodName) ({ cls := "SlippedBlocks", name := "tells", desc := "()I" } : Jvm.MethodName)) ∈ TG := tg 267 rfl rfl
set_option maxRecDepth 20000 in
theorem wd_268 : (Jvm.Cond.code ({ cls := "SlippedBlocks", name := "tells", desc := "()I" } : Jvm.MethodName) prog_1_method_4_code (3 : Nat) (Option.some Jvm.ClassFile.FieldType.int)) ∈ TG := tg 268 rfl rfl
set_option maxRecDepth 20000 in
theorem wd_269 : (Jvm.Cond.methodLink "SlippedBlocks" (70 : Nat) ({ cls := "SlippedBlocks$Text", name := "readInto", desc := "(LSlippedBlocks$Work;)I" } : Jvm.MethodName)) ∈ TG := tg 269 rfl rfl
set_option maxRecDepth 20000 in
theorem wd_270 : (Jvm.Cond.instanceMethod ({ cls := "SlippedBlocks$Text", name := "readInto", desc := "(LSlippedBlocks$Work;)I" } : Jvm.MethodName)) ∈ TG := tg 270 rfl rfl
set_option maxRecDepth 20000 in
theorem wd_271 : (Jvm.Cond.selects "SlippedBlocks$Text" ({ cls := "SlippedBlocks$Text", name := "readInto", desc := "(LSlippedBlocks$Work;)I" } : Jvm.MethodName) ({ cls := "SlippedBlocks$Text", name := "readInto", desc := "(LSlippedBlocks$Work;)I" } : Jvm.MethodName)) ∈ TG := tg 271 rfl rfl
set_option maxRecDepth 20000 in
theorem wd_272 : (Jvm.Cond.code ({ cls := "SlippedBlocks$Text", name := "readInto", desc := "(LSlippedBlocks$Work;)I" } : Jvm.MethodName) prog_6_method_3_code (3 : Nat) (Option.some Jvm.ClassFile.FieldType.int)) ∈ TG := tg 272 rfl rfl
set_option maxRecDepth 20000 in
theorem wd_273 : (Jvm.Cond.methodLink "SlippedBlocks$Text" (26 : Nat) ({ cls := "SlippedBlocks$Work", name := "empty", desc := "()V" } : Jvm.MethodName)) ∈ TG := tg 273 rfl rfl
set_option maxRecDepth 20000 in
theorem wd_274 : (Jvm.Cond.instanceMethod ({ cls := "SlippedBlocks$Work", name := "empty", desc := "()V" } : Jvm.MethodName)) ∈ TG := tg 274 rfl rfl
set_option maxRecDepth 20000 in
theorem wd_275 : (Jvm.Cond.selects "SlippedBlocks$Work" ({ cls := "SlippedBlocks$Work", name := "empty", desc := "()V" } : Jvm.MethodName) ({ cls := "SlippedBlocks$Work", name := "empty", desc := "()V" } : Jvm.MethodName)) ∈ TG := tg 275 rfl rfl
set_option maxRecDepth 20000 in
theorem wd_276 : (Jvm.Cond.code ({ cls := "SlippedBlocks$Work", name := "empty", desc := "()V" } : Jvm.MethodName) prog_7_method_3_code (1 : Nat) (Option.none : Option Jvm.ClassFile.FieldType)) ∈ TG := tg 276 rfl rfl
set_option maxRecDepth 20000 in
theorem wd_277 : (Jvm.Cond.methodLink "SlippedBlocks$Work" (55 : Nat) ({ cls := "SlippedBlocks$Sheet", name := "wipe", desc := "()V" } : Jvm.MethodName)) ∈ TG := tg 277 rfl rfl
set_option maxRecDepth 20000 in
theorem wd_278 : (Jvm.Cond.instanceMethod ({ cls := "SlippedBlocks$Sheet", name := "wipe", desc := "()V" } : Jvm.MethodName)) ∈ TG := tg 278 rfl rfl
set_option maxRecDepth 20000 in
theorem wd_279 : (Jvm.Cond.selects "SlippedBlocks$Sheet" ({ cls := "SlippedBlocks$Sheet", name := "wipe", desc := "()V" } : Jvm.MethodName) ({ cls := "SlippedBlocks$Sheet", name := "wipe", desc := "()V" } : Jvm.MethodName)) ∈ TG := tg 279 rfl rfl
set_option maxRecDepth 20000 in
theorem wd_280 : (Jvm.Cond.code ({ cls := "SlippedBlocks$Sheet", name := "wipe", desc := "()V" } : Jvm.MethodName) prog_4_method_2_code (1 : Nat) (Option.none : Option Jvm.ClassFile.FieldType)) ∈ TG := tg 280 rfl rfl
set_option maxRecDepth 20000 in
theorem wd_281 : (Jvm.Cond.methodLink "SlippedBlocks$Text" (31 : Nat) ({ cls := "SlippedBlocks$Text", name := "takes", desc := "(CLSlippedBlocks$Work;)Z" } : Jvm.MethodName)) ∈ TG := tg 281 rfl rfl
set_option maxRecDepth 20000 in
theorem wd_283 : (Jvm.Cond.instanceMethod ({ cls := "SlippedBlocks$Text", name := "takes", desc := "(CLSlippedBlocks$Work;)Z" } : Jvm.MethodName)) ∈ TG := tg 283 rfl rfl
set_option maxRecDepth 20000 in
theorem wd_284 : (Jvm.Cond.code ({ cls := "SlippedBlocks$Text", name := "takes", desc := "(CLSlippedBlocks$Work;)Z" } : Jvm.MethodName) prog_6_method_4_code (3 : Nat) (Option.some Jvm.ClassFile.FieldType.boolean)) ∈ TG := tg 284 rfl rfl
set_option maxRecDepth 20000 in
theorem wd_285 : (Jvm.Cond.methodLink "SlippedBlocks$Text" (38 : Nat) ({ cls := "SlippedBlocks$Text", name := "endsItem", desc := "(LSlippedBlocks$Work;)Z" } : Jvm.MethodName)) ∈ TG := tg 285 rfl rfl
set_option maxRecDepth 20000 in
theorem wd_287 : (Jvm.Cond.instanceMethod ({ cls := "SlippedBlocks$Text", name := "endsItem", desc := "(LSlippedBlocks$Work;)Z" } : Jvm.MethodName)) ∈ TG := tg 287 rfl rfl
set_option maxRecDepth 20000 in
theorem wd_288 : (Jvm.Cond.code ({ cls := "SlippedBlocks$Text", name := "endsItem", desc := "(LSlippedBlocks$Work;)Z" } : Jvm.MethodName) prog_6_method_8_code (2 : Nat) (Option.some Jvm.ClassFile.FieldType.boolean)) ∈ TG := tg 288 rfl rfl
set_option maxRecDepth 20000 in
theorem wd_289 : (Jvm.Cond.methodLink "SlippedBlocks$Text" (42 : Nat) ({ cls := "SlippedBlocks$Text", name := "takesCell", desc := "(ILSlippedBlocks$Work;)Z" } : Jvm.MethodName)) ∈ TG := tg 289 rfl rfl
set_option maxRecDepth 20000 in
theorem wd_291 : (Jvm.Cond.instanceMethod ({ cls := "SlippedBlocks$Text", name := "takesCell", desc := "(ILSlippedBlocks$Work;)Z" } : Jvm.MethodName)) ∈ TG := tg 291 rfl rfl
set_option maxRecDepth 20000 in
theorem wd_292 : (Jvm.Cond.code ({ cls := "SlippedBlocks$Text", name := "takesCell", desc := "(ILSlippedBlocks$Work;)Z" } : Jvm.MethodName) prog_6_method_7_code (4 : Nat) (Option.some Jvm.ClassFile.FieldType.boolean)) ∈ TG := tg 292 rfl rfl
set_option maxRecDepth 20000 in
theorem wd_294 : (Jvm.Cond.static ({ cls := "SlippedBlocks", name := "cellBit", desc := "(II)J" } : Jvm.MethodName)) ∈ TG := tg 294 rfl rfl
set_option maxRecDepth 20000 in
theorem wd_295 : (Jvm.Cond.code ({ cls := "SlippedBlocks", name := "cellBit", desc := "(II)J" } : Jvm.MethodName) prog_1_method_26_code (2 : Nat) (Option.some Jvm.ClassFile.FieldType.long)) ∈ TG := tg 295 rfl rfl
set_option maxRecDepth 20000 in
theorem wd_296 : (Jvm.Cond.methodLink "SlippedBlocks$Text" (70 : Nat) ({ cls := "SlippedBlocks$Sheet", name := "print", desc := "(JIZ)V" } : Jvm.MethodName)) ∈ TG := tg 296 rfl rfl
set_option maxRecDepth 20000 in
theorem wd_297 : (Jvm.Cond.instanceMethod ({ cls := "SlippedBlocks$Sheet", name := "print", desc := "(JIZ)V" } : Jvm.MethodName)) ∈ TG := tg 297 rfl rfl
set_option maxRecDepth 20000 in
theorem wd_298 : (Jvm.Cond.selects "SlippedBlocks$Sheet" ({ cls := "SlippedBlocks$Sheet", name := "print", desc := "(JIZ)V" } : Jvm.MethodName) ({ cls := "SlippedBlocks$Sheet", name := "print", desc := "(JIZ)V" } : Jvm.MethodName)) ∈ TG := tg 298 rfl rfl
set_option maxRecDepth 20000 in
theorem wd_299 : (Jvm.Cond.code ({ cls := "SlippedBlocks$Sheet", name := "print", desc := "(JIZ)V" } : Jvm.MethodName) prog_4_method_4_code (5 : Nat) (Option.none : Option Jvm.ClassFile.FieldType)) ∈ TG := tg 299 rfl rfl
set_option maxRecDepth 20000 in
theorem wd_300 : (Jvm.Cond.methodLink "SlippedBlocks$Sheet" (19 : Nat) ({ cls := "SlippedBlocks$Sheet", name := "printed", desc := "(JJZZ)J" } : Jvm.MethodName)) ∈ TG := tg 300 rfl rfl
set_option maxRecDepth 20000 in
theorem wd_301 : (Jvm.Cond.static ({ cls := "SlippedBlocks$Sheet", name := "printed", desc := "(JJZZ)J" } : Jvm.MethodName)) ∈ TG := tg 301 rfl rfl
set_option maxRecDepth 20000 in
theorem wd_302 : (Jvm.Cond.code ({ cls := "SlippedBlocks$Sheet", name := "printed", desc := "(JJZZ)J" } : Jvm.MethodName) prog_4_method_5_code (6 : Nat) (Option.some Jvm.ClassFile.FieldType.long)) ∈ TG := tg 302 rfl rfl
set_option maxRecDepth 20000 in
theorem wd_303 : (Jvm.Cond.constantLong "SlippedBlocks$Sheet" (23 : Nat) (-1 : Int64)) ∈ TG := tg 303 rfl rfl
set_option maxRecDepth 20000 in
theorem wd_304 : (Jvm.Cond.methodLink "SlippedBlocks$Text" (46 : Nat) ({ cls := "SlippedBlocks$Text", name := "takesInk", desc := "(ILSlippedBlocks$Work;)Z" } : Jvm.MethodName)) ∈ TG := tg 304 rfl rfl
set_option maxRecDepth 20000 in
theorem wd_306 : (Jvm.Cond.instanceMethod ({ cls := "SlippedBlocks$Text", name := "takesInk", desc := "(ILSlippedBlocks$Work;)Z" } : Jvm.MethodName)) ∈ TG := tg 306 rfl rfl
set_option maxRecDepth 20000 in
theorem wd_307 : (Jvm.Cond.code ({ cls := "SlippedBlocks$Text", name := "takesInk", desc := "(ILSlippedBlocks$Work;)Z" } : Jvm.MethodName) prog_6_method_6_code (3 : Nat) (Option.some Jvm.ClassFile.FieldType.boolean)) ∈ TG := tg 307 rfl rfl
set_option maxRecDepth 20000 in
theorem wd_308 : (Jvm.Cond.methodLink "SlippedBlocks$Text" (55 : Nat) ({ cls := "SlippedBlocks$Work", name := "addInk", desc := "(IZ)V" } : Jvm.MethodName)) ∈ TG := tg 308 rfl rfl
set_option maxRecDepth 20000 in
theorem wd_309 : (Jvm.Cond.instanceMethod ({ cls := "SlippedBlocks$Work", name := "addInk", desc := "(IZ)V" } : Jvm.MethodName)) ∈ TG := tg 309 rfl rfl
set_option maxRecDepth 20000 in
theorem wd_310 : (Jvm.Cond.selects "SlippedBlocks$Work" ({ cls := "SlippedBlocks$Work", name := "addInk", desc := "(IZ)V" } : Jvm.MethodName) ({ cls := "SlippedBlocks$Work", name := "addInk", desc := "(IZ)V" } : Jvm.MethodName)) ∈ TG := tg 310 rfl rfl
set_option maxRecDepth 20000 in
theorem wd_311 : (Jvm.Cond.code ({ cls := "SlippedBlocks$Work", name := "addInk", desc := "(IZ)V" } : Jvm.MethodName) prog_7_method_4_code (3 : Nat) (Option.none : Option Jvm.ClassFile.FieldType)) ∈ TG := tg 311 rfl rfl
set_option maxRecDepth 20000 in
theorem wd_312 : (Jvm.Cond.methodLink "SlippedBlocks$Text" (49 : Nat) ({ cls := "SlippedBlocks$Text", name := "beginsItem", desc := "(CLSlippedBlocks$Work;)Z" } : Jvm.MethodName)) ∈ TG := tg 312 rfl rfl
set_option maxRecDepth 20000 in
theorem wd_314 : (Jvm.Cond.instanceMethod ({ cls := "SlippedBlocks$Text", name := "beginsItem", desc := "(CLSlippedBlocks$Work;)Z" } : Jvm.MethodName)) ∈ TG := tg 314 rfl rfl
set_option maxRecDepth 20000 in
theorem wd_315 : (Jvm.Cond.code ({ cls := "SlippedBlocks$Text", name := "beginsItem", desc := "(CLSlippedBlocks$Work;)Z" } : Jvm.MethodName) prog_6_method_5_code (5 : Nat) (Option.some Jvm.ClassFile.FieldType.boolean)) ∈ TG := tg 315 rfl rfl
set_option maxRecDepth 20000 in
theorem wd_316 : (Jvm.Cond.methodLink "SlippedBlocks" (74 : Nat) ({ cls := "SlippedBlocks$Past", name := "remember", desc := "(LSlippedBlocks$Work;)V" } : Jvm.MethodName)) ∈ TG := tg 316 rfl rfl
set_option maxRecDepth 20000 in
theorem wd_317 : (Jvm.Cond.instanceMethod ({ cls := "SlippedBlocks$Past", name := "remember", desc := "(LSlippedBlocks$Work;)V" } : Jvm.MethodName)) ∈ TG := tg 317 rfl rfl
set_option maxRecDepth 20000 in
theorem wd_318 : (Jvm.Cond.selects "SlippedBlocks$Past" ({ cls := "SlippedBlocks$Past", name := "remember", desc := "(LSlippedBlocks$Work;)V" } : Jvm.MethodName) ({ cls := "SlippedBlocks$Past", name := "remember", desc := "(LSlippedBlocks$Work;)V" } : Jvm.MethodName)) ∈ TG := tg 318 rfl rfl
set_option maxRecDepth 20000 in
theorem wd_319 : (Jvm.Cond.code ({ cls := "SlippedBlocks$Past", name := "remember", desc := "(LSlippedBlocks$Work;)V" } : Jvm.MethodName) prog_2_method_2_code (2 : Nat) (Option.none : Option Jvm.ClassFile.FieldType)) ∈ TG := tg 319 rfl rfl
set_option maxRecDepth 20000 in
theorem wd_320 : (Jvm.Cond.methodLink "SlippedBlocks$Past" (25 : Nat) ({ cls := "SlippedBlocks$Work", name := "copy", desc := "(LSlippedBlocks$Work;)V" } : Jvm.MethodName)) ∈ TG := tg 320 rfl rfl
set_option maxRecDepth 20000 in
theorem wd_321 : (Jvm.Cond.instanceMethod ({ cls := "SlippedBlocks$Work", name := "copy", desc := "(LSlippedBlocks$Work;)V" } : Jvm.MethodName)) ∈ TG := tg 321 rfl rfl
set_option maxRecDepth 20000 in
theorem wd_322 : (Jvm.Cond.selects "SlippedBlocks$Work" ({ cls := "SlippedBlocks$Work", name := "copy", desc := "(LSlippedBlocks$Work;)V" } : Jvm.MethodName) ({ cls := "SlippedBlocks$Work", name := "copy", desc := "(LSlippedBlocks$Work;)V" } : Jvm.MethodName)) ∈ TG := tg 322 rfl rfl
set_option maxRecDepth 20000 in
theorem wd_323 : (Jvm.Cond.code ({ cls := "SlippedBlocks$Work", name := "copy", desc := "(LSlippedBlocks$Work;)V" } : Jvm.MethodName) prog_7_method_2_code (2 : Nat) (Option.none : Option Jvm.ClassFile.FieldType)) ∈ TG := tg 323 rfl rfl
set_option maxRecDepth 20000 in
theorem wd_324 : (Jvm.Cond.methodLink "SlippedBlocks$Work" (45 : Nat) ({ cls := "SlippedBlocks$Sheet", name := "copy", desc := "(LSlippedBlocks$Sheet;)V" } : Jvm.MethodName)) ∈ TG := tg 324 rfl rfl
set_option maxRecDepth 20000 in
theorem wd_325 : (Jvm.Cond.instanceMethod ({ cls := "SlippedBlocks$Sheet", name := "copy", desc := "(LSlippedBlocks$Sheet;)V" } : Jvm.MethodName)) ∈ TG := tg 325 rfl rfl
set_option maxRecDepth 20000 in
theorem wd_326 : (Jvm.Cond.selects "SlippedBlocks$Sheet" ({ cls := "SlippedBlocks$Sheet", name := "copy", desc := "(LSlippedBlocks$Sheet;)V" } : Jvm.MethodName) ({ cls := "SlippedBlocks$Sheet", name := "copy", desc := "(LSlippedBlocks$Sheet;)V" } : Jvm.MethodName)) ∈ TG := tg 326 rfl rfl
set_option maxRecDepth 20000 in
theorem wd_327 : (Jvm.Cond.code ({ cls := "SlippedBlocks$Sheet", name := "copy", desc := "(LSlippedBlocks$Sheet;)V" } : Jvm.MethodName) prog_4_method_3_code (2 : Nat) (Option.none : Option Jvm.ClassFile.FieldType)) ∈ TG := tg 327 rfl rfl
set_option maxRecDepth 20000 in
theorem wd_328 : (Jvm.Cond.methodLink "SlippedBlocks$Work" (49 : Nat) ({ cls := "java/lang/System", name := "arraycopy", desc := "(Ljava/lang/Object;ILjava/lang/Object;II)V" } : Jvm.MethodName)) ∈ TG := tg 328 rfl rfl
set_option maxRecDepth 20000 in
theorem wd_329 : (Jvm.Cond.static ({ cls := "java/lang/System", name := "arraycopy", desc := "(Ljava/lang/Object;ILjava/lang/Object;II)V" } : Jvm.MethodName)) ∈ TG := tg 329 rfl rfl
set_option maxRecDepth 20000 in
theorem wd_330 : (Jvm.Cond.native ({ cls := "java/lang/System", name := "arraycopy", desc := "(Ljava/lang/Object;ILjava/lang/Object;II)V" } : Jvm.MethodName)) ∈ TG := tg 330 rfl rfl
set_option maxRecDepth 20000 in
theorem wd_331 : (Jvm.Cond.methodLink "SlippedBlocks$Past" (29 : Nat) ({ cls := "java/lang/Math", name := "min", desc := "(II)I" } : Jvm.MethodName)) ∈ TG := tg 331 rfl rfl
set_option maxRecDepth 20000 in
theorem wd_332 : (Jvm.Cond.static ({ cls := "java/lang/Math", name := "min", desc := "(II)I" } : Jvm.MethodName)) ∈ TG := tg 332 rfl rfl
set_option maxRecDepth 20000 in
theorem wd_333 : (Jvm.Cond.code ({ cls := "java/lang/Math", name := "min", desc := "(II)I" } : Jvm.MethodName) prog_12_method_69_code (2 : Nat) (Option.some Jvm.ClassFile.FieldType.int)) ∈ TG := tg 333 rfl rfl
set_option maxRecDepth 20000 in
theorem wd_334 : (Jvm.Cond.methodLink "SlippedBlocks" (78 : Nat) ({ cls := "SlippedBlocks$Work", name := "copy", desc := "(LSlippedBlocks$Work;)V" } : Jvm.MethodName)) ∈ TG := tg 334 rfl rfl
set_option maxRecDepth 20000 in
theorem wd_335 : (Jvm.Cond.methodLink "SlippedBlocksLaw" (27 : Nat) ({ cls := "SlippedBlocks", name := "cuts", desc := "()I" } : Jvm.MethodName)) ∈ TG := tg 335 rfl rfl
set_option maxRecDepth 20000 in
theorem wd_336 : (Jvm.Cond.instanceMethod ({ cls := "SlippedBlocks", name := "cuts", desc := "()I" } : Jvm.MethodName)) ∈ TG := tg 336 rfl rfl
set_option maxRecDepth 20000 in
theorem wd_337 : (Jvm.Cond.selects "SlippedBlocks" ({ cls := "SlippedBlocks", name := "cuts", desc := "()I" } : Jvm.MethodName) ({ cls := "SlippedBlocks", name := "cuts", desc := "()I" } : Jvm.MethodName)) ∈ TG := tg 337 rfl rfl
set_option maxRecDepth 20000 in
theorem wd_338 : (Jvm.Cond.code ({ cls := "SlippedBlocks", name := "cuts", desc := "()I" } : Jvm.MethodName) prog_1_method_5_code (2 : Nat) (Option.some Jvm.ClassFile.FieldType.int)) ∈ TG := tg 338 rfl rfl
set_option maxRecDepth 20000 in
theorem wd_339 : (Jvm.Cond.methodLink "SlippedBlocks" (90 : Nat) ({ cls := "SlippedBlocks$Work", name := "leastSet", desc := "()I" } : Jvm.MethodName)) ∈ TG := tg 339 rfl rfl
set_option maxRecDepth 20000 in
theorem wd_340 : (Jvm.Cond.instanceMethod ({ cls := "SlippedBlocks$Work", name := "leastSet", desc := "()I" } : Jvm.MethodName)) ∈ TG := tg 340 rfl rfl
set_option maxRecDepth 20000 in
theorem wd_341 : (Jvm.Cond.selects "SlippedBlocks$Work" ({ cls := "SlippedBlocks$Work", name := "leastSet", desc := "()I" } : Jvm.MethodName) ({ cls := "SlippedBlocks$Work", name := "leastSet", desc := "()I" } : Jvm.MethodName)) ∈ TG := tg 341 rfl rfl
set_option maxRecDepth 20000 in
theorem wd_342 : (Jvm.Cond.code ({ cls := "SlippedBlocks$Work", name := "leastSet", desc := "()I" } : Jvm.MethodName) prog_7_method_19_code (5 : Nat) (Option.some Jvm.ClassFile.FieldType.int)) ∈ TG := tg 342 rfl rfl
set_option maxRecDepth 20000 in
theorem wd_343 : (Jvm.Cond.methodLink "SlippedBlocks$Work" (99 : Nat) ({ cls := "SlippedBlocks$Work", name := "palette", desc := "()I" } : Jvm.MethodName)) ∈ TG := tg 343 rfl rfl
set_option maxRecDepth 20000 in
theorem wd_344 : (Jvm.Cond.instanceMethod ({ cls := "SlippedBlocks$Work", name := "palette", desc := "()I" } : Jvm.MethodName)) ∈ TG := tg 344 rfl rfl
set_option maxRecDepth 20000 in
theorem wd_345 : (Jvm.Cond.selects "SlippedBlocks$Work" ({ cls := "SlippedBlocks$Work", name := "palette", desc := "()I" } : Jvm.MethodName) ({ cls := "SlippedBlocks$Work", name := "palette", desc := "()I" } : Jvm.MethodName)) ∈ TG := tg 345 rfl rfl
set_option maxRecDepth 20000 in
theorem wd_346 : (Jvm.Cond.code ({ cls := "SlippedBlocks$Work", name := "palette", desc := "()I" } : Jvm.MethodName) prog_7_method_15_code (5 : Nat) (Option.some Jvm.ClassFile.FieldType.int)) ∈ TG := tg 346 rfl rfl
set_option maxRecDepth 20000 in
theorem wd_347 : (Jvm.Cond.methodLink "SlippedBlocks$Work" (72 : Nat) ({ cls := "SlippedBlocks$Work", name := "paper", desc := "()J" } : Jvm.MethodName)) ∈ TG := tg 347 rfl rfl
set_option maxRecDepth 20000 in
theorem wd_348 : (Jvm.Cond.instanceMethod ({ cls := "SlippedBlocks$Work", name := "paper", desc := "()J" } : Jvm.MethodName)) ∈ TG := tg 348 rfl rfl
set_option maxRecDepth 20000 in
theorem wd_349 : (Jvm.Cond.selects "SlippedBlocks$Work" ({ cls := "SlippedBlocks$Work", name := "paper", desc := "()J" } : Jvm.MethodName) ({ cls := "SlippedBlocks$Work", name := "paper", desc := "()J" } : Jvm.MethodName)) ∈ TG := tg 349 rfl rfl
set_option maxRecDepth 20000 in
theorem wd_350 : (Jvm.Cond.code ({ cls := "SlippedBlocks$Work", name := "paper", desc := "()J" } : Jvm.MethodName) prog_7_method_13_code (6 : Nat) (Option.some Jvm.ClassFile.FieldType.long)) ∈ TG := tg 350 rfl rfl
set_option maxRecDepth 20000 in
theorem wd_351 : (Jvm.Cond.methodLink "SlippedBlocks$Work" (88 : Nat) ({ cls := "SlippedBlocks$Sheet", name := "cellsOf", desc := "(I)J" } : Jvm.MethodName)) ∈ TG := tg 351 rfl rfl
set_option maxRecDepth 20000 in
theorem wd_352 : (Jvm.Cond.instanceMethod ({ cls := "SlippedBlocks$Sheet", name := "cellsOf", desc := "(I)J" } : Jvm.MethodName)) ∈ TG := tg 352 rfl rfl
set_option maxRecDepth 20000 in
theorem wd_353 : (Jvm.Cond.selects "SlippedBlocks$Sheet" ({ cls := "SlippedBlocks$Sheet", name := "cellsOf", desc := "(I)J" } : Jvm.MethodName) ({ cls := "SlippedBlocks$Sheet", name := "cellsOf", desc := "(I)J" } : Jvm.MethodName)) ∈ TG := tg 353 rfl rfl
set_option maxRecDepth 20000 in
theorem wd_354 : (Jvm.Cond.code ({ cls := "SlippedBlocks$Sheet", name := "cellsOf", desc := "(I)J" } : Jvm.MethodName) prog_4_method_7_code (2 : Nat) (Option.some Jvm.ClassFile.FieldType.long)) ∈ TG := tg 354 rfl rfl
set_option maxRecDepth 20000 in
theorem wd_355 : (Jvm.Cond.methodLink "SlippedBlocks$Work" (103 : Nat) ({ cls := "SlippedBlocks$Work", name := "sets", desc := "()I" } : Jvm.MethodName)) ∈ TG := tg 355 rfl rfl
set_option maxRecDepth 20000 in
theorem wd_356 : (Jvm.Cond.instanceMethod ({ cls := "SlippedBlocks$Work", name := "sets", desc := "()I" } : Jvm.MethodName)) ∈ TG := tg 356 rfl rfl
set_option maxRecDepth 20000 in
theorem wd_357 : (Jvm.Cond.selects "SlippedBlocks$Work" ({ cls := "SlippedBlocks$Work", name := "sets", desc := "()I" } : Jvm.MethodName) ({ cls := "SlippedBlocks$Work", name := "sets", desc := "()I" } : Jvm.MethodName)) ∈ TG := tg 357 rfl rfl
set_option maxRecDepth 20000 in
theorem wd_358 : (Jvm.Cond.code ({ cls := "SlippedBlocks$Work", name := "sets", desc := "()I" } : Jvm.MethodName) prog_7_method_16_code (1 : Nat) (Option.some Jvm.ClassFile.FieldType.int)) ∈ TG := tg 358 rfl rfl
set_option maxRecDepth 20000 in
theorem wd_359 : (Jvm.Cond.methodLink "SlippedBlocks$Work" (106 : Nat) ({ cls := "java/lang/Integer", name := "bitCount", desc := "(I)I" } : Jvm.MethodName)) ∈ TG := tg 359 rfl rfl
set_option maxRecDepth 20000 in
theorem wd_360 : (Jvm.Cond.static ({ cls := "java/lang/Integer", name := "bitCount", desc := "(I)I" } : Jvm.MethodName)) ∈ TG := tg 360 rfl rfl
set_option maxRecDepth 20000 in
theorem wd_361 : (Jvm.Cond.code ({ cls := "java/lang/Integer", name := "bitCount", desc := "(I)I" } : Jvm.MethodName) prog_10_method_49_code (1 : Nat) (Option.some Jvm.ClassFile.FieldType.int)) ∈ TG := tg 361 rfl rfl
set_option maxRecDepth 20000 in
theorem wd_362 : (Jvm.Cond.constant "java/lang/Integer" (265 : Nat) (1431655765 : Int32)) ∈ TG := tg 362 rfl rfl
set_option maxRecDepth 20000 in
theorem wd_363 : (Jvm.Cond.constant "java/lang/Integer" (266 : Nat) (858993459 : Int32)) ∈ TG := tg 363 rfl rfl
set_option maxRecDepth 20000 in
theorem wd_364 : (Jvm.Cond.constant "java/lang/Integer" (267 : Nat) (252645135 : Int32)) ∈ TG := tg 364 rfl rfl
set_option maxRecDepth 20000 in
theorem wd_365 : (Jvm.Cond.methodLink "SlippedBlocks$Work" (110 : Nat) ({ cls := "SlippedBlocks$Work", name := "coloursBy", desc := "(I)I" } : Jvm.MethodName)) ∈ TG := tg 365 rfl rfl
set_option maxRecDepth 20000 in
theorem wd_366 : (Jvm.Cond.instanceMethod ({ cls := "SlippedBlocks$Work", name := "coloursBy", desc := "(I)I" } : Jvm.MethodName)) ∈ TG := tg 366 rfl rfl
set_option maxRecDepth 20000 in
theorem wd_367 : (Jvm.Cond.selects "SlippedBlocks$Work" ({ cls := "SlippedBlocks$Work", name := "coloursBy", desc := "(I)I" } : Jvm.MethodName) ({ cls := "SlippedBlocks$Work", name := "coloursBy", desc := "(I)I" } : Jvm.MethodName)) ∈ TG := tg 367 rfl rfl
set_option maxRecDepth 20000 in
theorem wd_368 : (Jvm.Cond.code ({ cls := "SlippedBlocks$Work", name := "coloursBy", desc := "(I)I" } : Jvm.MethodName) prog_7_method_18_code (5 : Nat) (Option.some Jvm.ClassFile.FieldType.int)) ∈ TG := tg 368 rfl rfl
set_option maxRecDepth 20000 in
theorem wd_369 : (Jvm.Cond.methodLink "SlippedBlocks$Work" (95 : Nat) ({ cls := "SlippedBlocks$Work", name := "coloursOver", desc := "(II)I" } : Jvm.MethodName)) ∈ TG := tg 369 rfl rfl
set_option maxRecDepth 20000 in
theorem wd_370 : (Jvm.Cond.instanceMethod ({ cls := "SlippedBlocks$Work", name := "coloursOver", desc := "(II)I" } : Jvm.MethodName)) ∈ TG := tg 370 rfl rfl
set_option maxRecDepth 20000 in
theorem wd_371 : (Jvm.Cond.selects "SlippedBlocks$Work" ({ cls := "SlippedBlocks$Work", name := "coloursOver", desc := "(II)I" } : Jvm.MethodName) ({ cls := "SlippedBlocks$Work", name := "coloursOver", desc := "(II)I" } : Jvm.MethodName)) ∈ TG := tg 371 rfl rfl
set_option maxRecDepth 20000 in
theorem wd_372 : (Jvm.Cond.code ({ cls := "SlippedBlocks$Work", name := "coloursOver", desc := "(II)I" } : Jvm.MethodName) prog_7_method_17_code (6 : Nat) (Option.some Jvm.ClassFile.FieldType.int)) ∈ TG := tg 372 rfl rfl
set_option maxRecDepth 20000 in
theorem wd_373 : (Jvm.Cond.methodLink "SlippedBlocks$Work" (80 : Nat) ({ cls := "SlippedBlocks$Work", name := "isDense", desc := "(I)Z" } : Jvm.MethodName)) ∈ TG := tg 373 rfl rfl
set_option maxRecDepth 20000 in
theorem wd_374 : (Jvm.Cond.instanceMethod ({ cls := "SlippedBlocks$Work", name := "isDense", desc := "(I)Z" } : Jvm.MethodName)) ∈ TG := tg 374 rfl rfl
set_option maxRecDepth 20000 in
theorem wd_375 : (Jvm.Cond.selects "SlippedBlocks$Work" ({ cls := "SlippedBlocks$Work", name := "isDense", desc := "(I)Z" } : Jvm.MethodName) ({ cls := "SlippedBlocks$Work", name := "isDense", desc := "(I)Z" } : Jvm.MethodName)) ∈ TG := tg 375 rfl rfl
set_option maxRecDepth 20000 in
theorem wd_376 : (Jvm.Cond.code ({ cls := "SlippedBlocks$Work", name := "isDense", desc := "(I)Z" } : Jvm.MethodName) prog_7_method_7_code (2 : Nat) (Option.some Jvm.ClassFile.FieldType.boolean)) ∈ TG := tg 376 rfl rfl
set_option maxRecDepth 20000 in
theorem wd_377 : (Jvm.Cond.fieldLink "SlippedBlocks$Work" (92 : Nat) "SlippedBlocks$Work" "HAVING" "[I") ∈ TG := tg 377 rfl rfl
set_option maxRecDepth 20000 in
theorem wd_379 : (Jvm.Cond.methodLink "SlippedBlocks" (94 : Nat) ({ cls := "SlippedBlocks$Work", name := "cutFor", desc := "(I)V" } : Jvm.MethodName)) ∈ TG := tg 379 rfl rfl
set_option maxRecDepth 20000 in
theorem wd_380 : (Jvm.Cond.instanceMethod ({ cls := "SlippedBlocks$Work", name := "cutFor", desc := "(I)V" } : Jvm.MethodName)) ∈ TG := tg 380 rfl rfl
set_option maxRecDepth 20000 in
theorem wd_381 : (Jvm.Cond.selects "SlippedBlocks$Work" ({ cls := "SlippedBlocks$Work", name := "cutFor", desc := "(I)V" } : Jvm.MethodName) ({ cls := "SlippedBlocks$Work", name := "cutFor", desc := "(I)V" } : Jvm.MethodName)) ∈ TG := tg 381 rfl rfl
set_option maxRecDepth 20000 in
theorem wd_382 : (Jvm.Cond.code ({ cls := "SlippedBlocks$Work", name := "cutFor", desc := "(I)V" } : Jvm.MethodName) prog_7_method_22_code (7 : Nat) (Option.none : Option Jvm.ClassFile.FieldType)) ∈ TG := tg 382 rfl rfl
set_option maxRecDepth 20000 in
theorem wd_383 : (Jvm.Cond.methodLink "SlippedBlocks$Work" (116 : Nat) ({ cls := "SlippedBlocks$Work", name := "firstSetGiving", desc := "(II)I" } : Jvm.MethodName)) ∈ TG := tg 383 rfl rfl
set_option maxRecDepth 20000 in
theorem wd_384 : (Jvm.Cond.instanceMethod ({ cls := "SlippedBlocks$Work", name := "firstSetGiving", desc := "(II)I" } : Jvm.MethodName)) ∈ TG := tg 384 rfl rfl
set_option maxRecDepth 20000 in
theorem wd_385 : (Jvm.Cond.selects "SlippedBlocks$Work" ({ cls := "SlippedBlocks$Work", name := "firstSetGiving", desc := "(II)I" } : Jvm.MethodName) ({ cls := "SlippedBlocks$Work", name := "firstSetGiving", desc := "(II)I" } : Jvm.MethodName)) ∈ TG := tg 385 rfl rfl
set_option maxRecDepth 20000 in
theorem wd_386 : (Jvm.Cond.code ({ cls := "SlippedBlocks$Work", name := "firstSetGiving", desc := "(II)I" } : Jvm.MethodName) prog_7_method_21_code (4 : Nat) (Option.some Jvm.ClassFile.FieldType.int)) ∈ TG := tg 386 rfl rfl
set_option maxRecDepth 20000 in
theorem wd_387 : (Jvm.Cond.methodLink "SlippedBlocks$Work" (113 : Nat) ({ cls := "SlippedBlocks$Work", name := "colourOfAll", desc := "(I)I" } : Jvm.MethodName)) ∈ TG := tg 387 rfl rfl
set_option maxRecDepth 20000 in
theorem wd_388 : (Jvm.Cond.instanceMethod ({ cls := "SlippedBlocks$Work", name := "colourOfAll", desc := "(I)I" } : Jvm.MethodName)) ∈ TG := tg 388 rfl rfl
set_option maxRecDepth 20000 in
theorem wd_389 : (Jvm.Cond.selects "SlippedBlocks$Work" ({ cls := "SlippedBlocks$Work", name := "colourOfAll", desc := "(I)I" } : Jvm.MethodName) ({ cls := "SlippedBlocks$Work", name := "colourOfAll", desc := "(I)I" } : Jvm.MethodName)) ∈ TG := tg 389 rfl rfl
set_option maxRecDepth 20000 in
theorem wd_390 : (Jvm.Cond.code ({ cls := "SlippedBlocks$Work", name := "colourOfAll", desc := "(I)I" } : Jvm.MethodName) prog_7_method_20_code (5 : Nat) (Option.some Jvm.ClassFile.FieldType.int)) ∈ TG := tg 390 rfl rfl
set_option maxRecDepth 20000 in
theorem wd_391 : (Jvm.Cond.methodLink "SlippedBlocks$Work" (119 : Nat) ({ cls := "SlippedBlocks$Work", name := "addToBlocks", desc := "(IJ)V" } : Jvm.MethodName)) ∈ TG := tg 391 rfl rfl
set_option maxRecDepth 20000 in
theorem wd_393 : (Jvm.Cond.instanceMethod ({ cls := "SlippedBlocks$Work", name := "addToBlocks", desc := "(IJ)V" } : Jvm.MethodName)) ∈ TG := tg 393 rfl rfl
set_option maxRecDepth 20000 in
theorem wd_394 : (Jvm.Cond.code ({ cls := "SlippedBlocks$Work", name := "addToBlocks", desc := "(IJ)V" } : Jvm.MethodName) prog_7_method_23_code (5 : Nat) (Option.none : Option Jvm.ClassFile.FieldType)) ∈ TG := tg 394 rfl rfl
set_option maxRecDepth 20000 in
theorem wd_395 : (Jvm.Cond.methodLink "SlippedBlocks" (98 : Nat) ({ cls := "java/lang/Integer", name := "bitCount", desc := "(I)I" } : Jvm.MethodName)) ∈ TG := tg 395 rfl rfl
set_option maxRecDepth 20000 in
theorem wd_396 : (Jvm.Cond.methodLink "SlippedBlocksLaw" (31 : Nat) ({ cls := "SlippedBlocks", name := "carves", desc := "(III)I" } : Jvm.MethodName)) ∈ TG := tg 396 rfl rfl
set_option maxRecDepth 20000 in
theorem wd_397 : (Jvm.Cond.instanceMethod ({ cls := "SlippedBlocks", name := "carves", desc := "(III)I" } : Jvm.MethodName)) ∈ TG := tg 397 rfl rfl
set_option maxRecDepth 20000 in
theorem wd_398 : (Jvm.Cond.selects "SlippedBlocks" ({ cls := "SlippedBlocks", name := "carves", desc := "(III)I" } : Jvm.MethodName) ({ cls := "SlippedBlocks", name := "carves", desc := "(III)I" } : Jvm.MethodName)) ∈ TG := tg 398 rfl rfl
set_option maxRecDepth 20000 in
theorem wd_399 : (Jvm.Cond.code ({ cls := "SlippedBlocks", name := "carves", desc := "(III)I" } : Jvm.MethodName) prog_1_method_6_code (4 : Nat) (Option.some Jvm.ClassFile.FieldType.int)) ∈ TG := tg 399 rfl rfl
set_option maxRecDepth 20000 in
theorem wd_400 : (Jvm.Cond.methodLink "SlippedBlocks" (104 : Nat) ({ cls := "SlippedBlocks$Work", name := "hasInk", desc := "(I)Z" } : Jvm.MethodName)) ∈ TG := tg 400 rfl rfl
set_option maxRecDepth 20000 in
theorem wd_401 : (Jvm.Cond.instanceMethod ({ cls := "SlippedBlocks$Work", name := "hasInk", desc := "(I)Z" } : Jvm.MethodName)) ∈ TG := tg 401 rfl rfl
set_option maxRecDepth 20000 in
theorem wd_402 : (Jvm.Cond.selects "SlippedBlocks$Work" ({ cls := "SlippedBlocks$Work", name := "hasInk", desc := "(I)Z" } : Jvm.MethodName) ({ cls := "SlippedBlocks$Work", name := "hasInk", desc := "(I)Z" } : Jvm.MethodName)) ∈ TG := tg 402 rfl rfl
set_option maxRecDepth 20000 in
theorem wd_403 : (Jvm.Cond.code ({ cls := "SlippedBlocks$Work", name := "hasInk", desc := "(I)Z" } : Jvm.MethodName) prog_7_method_5_code (2 : Nat) (Option.some Jvm.ClassFile.FieldType.boolean)) ∈ TG := tg 403 rfl rfl
set_option maxRecDepth 20000 in
theorem wd_404 : (Jvm.Cond.methodLink "SlippedBlocks" (107 : Nat) ({ cls := "SlippedBlocks$Work", name := "hasCell", desc := "(II)Z" } : Jvm.MethodName)) ∈ TG := tg 404 rfl rfl
set_option maxRecDepth 20000 in
theorem wd_405 : (Jvm.Cond.instanceMethod ({ cls := "SlippedBlocks$Work", name := "hasCell", desc := "(II)Z" } : Jvm.MethodName)) ∈ TG := tg 405 rfl rfl
set_option maxRecDepth 20000 in
theorem wd_406 : (Jvm.Cond.selects "SlippedBlocks$Work" ({ cls := "SlippedBlocks$Work", name := "hasCell", desc := "(II)Z" } : Jvm.MethodName) ({ cls := "SlippedBlocks$Work", name := "hasCell", desc := "(II)Z" } : Jvm.MethodName)) ∈ TG := tg 406 rfl rfl
set_option maxRecDepth 20000 in
theorem wd_407 : (Jvm.Cond.code ({ cls := "SlippedBlocks$Work", name := "hasCell", desc := "(II)Z" } : Jvm.MethodName) prog_7_method_6_code (3 : Nat) (Option.some Jvm.ClassFile.FieldType.boolean)) ∈ TG := tg 407 rfl rfl
set_option maxRecDepth 20000 in
theorem wd_408 : (Jvm.Cond.methodLink "SlippedBlocks" (115 : Nat) ({ cls := "SlippedBlocks", name := "cellBit", desc := "(II)J" } : Jvm.MethodName)) ∈ TG := tg 408 rfl rfl
set_option maxRecDepth 20000 in
theorem wd_409 : (Jvm.Cond.methodLink "SlippedBlocksLaw" (36 : Nat) ({ cls := "SlippedBlocks", name := "slips", desc := "(III)I" } : Jvm.MethodName)) ∈ TG := tg 409 rfl rfl
set_option maxRecDepth 20000 in
theorem wd_410 : (Jvm.Cond.instanceMethod ({ cls := "SlippedBlocks", name := "slips", desc := "(III)I" } : Jvm.MethodName)) ∈ TG := tg 410 rfl rfl
set_option maxRecDepth 20000 in
theorem wd_411 : (Jvm.Cond.selects "SlippedBlocks" ({ cls := "SlippedBlocks", name := "slips", desc := "(III)I" } : Jvm.MethodName) ({ cls := "SlippedBlocks", name := "slips", desc := "(III)I" } : Jvm.MethodName)) ∈ TG := tg 411 rfl rfl
set_option maxRecDepth 20000 in
theorem wd_412 : (Jvm.Cond.code ({ cls := "SlippedBlocks", name := "slips", desc := "(III)I" } : Jvm.MethodName) prog_1_method_7_code (5 : Nat) (Option.some Jvm.ClassFile.FieldType.int)) ∈ TG := tg 412 rfl rfl
set_option maxRecDepth 20000 in
theorem wd_413 : (Jvm.Cond.methodLink "SlippedBlocks" (119 : Nat) ({ cls := "SlippedBlocks", name := "slipOf", desc := "(II)I" } : Jvm.MethodName)) ∈ TG := tg 413 rfl rfl
set_option maxRecDepth 20000 in
theorem wd_414 : (Jvm.Cond.static ({ cls := "SlippedBlocks", name := "slipOf", desc := "(II)I" } : Jvm.MethodName)) ∈ TG := tg 414 rfl rfl
set_option maxRecDepth 20000 in
theorem wd_415 : (Jvm.Cond.code ({ cls := "SlippedBlocks", name := "slipOf", desc := "(II)I" } : Jvm.MethodName) prog_1_method_27_code (2 : Nat) (Option.some Jvm.ClassFile.FieldType.int)) ∈ TG := tg 415 rfl rfl
set_option maxRecDepth 20000 in
theorem wd_416 : (Jvm.Cond.methodLink "SlippedBlocksLaw" (40 : Nat) ({ cls := "SlippedBlocks", name := "swaps", desc := "(II)I" } : Jvm.MethodName)) ∈ TG := tg 416 rfl rfl
set_option maxRecDepth 20000 in
theorem wd_417 : (Jvm.Cond.instanceMethod ({ cls := "SlippedBlocks", name := "swaps", desc := "(II)I" } : Jvm.MethodName)) ∈ TG := tg 417 rfl rfl
set_option maxRecDepth 20000 in
theorem wd_418 : (Jvm.Cond.selects "SlippedBlocks" ({ cls := "SlippedBlocks", name := "swaps", desc := "(II)I" } : Jvm.MethodName) ({ cls := "SlippedBlocks", name := "swaps", desc := "(II)I" } : Jvm.MethodName)) ∈ TG := tg 418 rfl rfl
set_option maxRecDepth 20000 in
theorem wd_419 : (Jvm.Cond.code ({ cls := "SlippedBlocks", name := "swaps", desc := "(II)I" } : Jvm.MethodName) prog_1_method_8_code (3 : Nat) (Option.some Jvm.ClassFile.FieldType.int)) ∈ TG := tg 419 rfl rfl
set_option maxRecDepth 20000 in
theorem wd_420 : (Jvm.Cond.methodLink "SlippedBlocks" (127 : Nat) ({ cls := "SlippedBlocks$Work", name := "exchange", desc := "(II)V" } : Jvm.MethodName)) ∈ TG := tg 420 rfl rfl
set_option maxRecDepth 20000 in
theorem wd_421 : (Jvm.Cond.instanceMethod ({ cls := "SlippedBlocks$Work", name := "exchange", desc := "(II)V" } : Jvm.MethodName)) ∈ TG := tg 421 rfl rfl
set_option maxRecDepth 20000 in
theorem wd_422 : (Jvm.Cond.selects "SlippedBlocks$Work" ({ cls := "SlippedBlocks$Work", name := "exchange", desc := "(II)V" } : Jvm.MethodName) ({ cls := "SlippedBlocks$Work", name := "exchange", desc := "(II)V" } : Jvm.MethodName)) ∈ TG := tg 422 rfl rfl
set_option maxRecDepth 20000 in
theorem wd_423 : (Jvm.Cond.code ({ cls := "SlippedBlocks$Work", name := "exchange", desc := "(II)V" } : Jvm.MethodName) prog_7_method_9_code (5 : Nat) (Option.none : Option Jvm.ClassFile.FieldType)) ∈ TG := tg 423 rfl rfl
set_option maxRecDepth 20000 in
theorem wd_424 : (Jvm.Cond.methodLink "SlippedBlocks$Work" (58 : Nat) ({ cls := "SlippedBlocks$Work", name := "placeOf", desc := "(I)I" } : Jvm.MethodName)) ∈ TG := tg 424 rfl rfl
set_option maxRecDepth 20000 in
theorem wd_425 : (Jvm.Cond.instanceMethod ({ cls := "SlippedBlocks$Work", name := "placeOf", desc := "(I)I" } : Jvm.MethodName)) ∈ TG := tg 425 rfl rfl
set_option maxRecDepth 20000 in
theorem wd_426 : (Jvm.Cond.selects "SlippedBlocks$Work" ({ cls := "SlippedBlocks$Work", name := "placeOf", desc := "(I)I" } : Jvm.MethodName) ({ cls := "SlippedBlocks$Work", name := "placeOf", desc := "(I)I" } : Jvm.MethodName)) ∈ TG := tg 426 rfl rfl
set_option maxRecDepth 20000 in
theorem wd_427 : (Jvm.Cond.code ({ cls := "SlippedBlocks$Work", name := "placeOf", desc := "(I)I" } : Jvm.MethodName) prog_7_method_8_code (3 : Nat) (Option.some Jvm.ClassFile.FieldType.int)) ∈ TG := tg 427 rfl rfl
set_option maxRecDepth 20000 in
theorem wd_428 : (Jvm.Cond.methodLink "SlippedBlocks" (131 : Nat) ({ cls := "SlippedBlocks", name := "wrongCells", desc := "(II)I" } : Jvm.MethodName)) ∈ TG := tg 428 rfl rfl
set_option maxRecDepth 20000 in
theorem wd_430 : (Jvm.Cond.instanceMethod ({ cls := "SlippedBlocks", name := "wrongCells", desc := "(II)I" } : Jvm.MethodName)) ∈ TG := tg 430 rfl rfl
set_option maxRecDepth 20000 in
theorem wd_431 : (Jvm.Cond.code ({ cls := "SlippedBlocks", name := "wrongCells", desc := "(II)I" } : Jvm.MethodName) prog_1_method_24_code (3 : Nat) (Option.some Jvm.ClassFile.FieldType.int)) ∈ TG := tg 431 rfl rfl
set_option maxRecDepth 20000 in
theorem wd_432 : (Jvm.Cond.methodLink "SlippedBlocks" (144 : Nat) ({ cls := "SlippedBlocks$Work", name := "proofInto", desc := "(LSlippedBlocks$Sheet;II)V" } : Jvm.MethodName)) ∈ TG := tg 432 rfl rfl
set_option maxRecDepth 20000 in
theorem wd_433 : (Jvm.Cond.instanceMethod ({ cls := "SlippedBlocks$Work", name := "proofInto", desc := "(LSlippedBlocks$Sheet;II)V" } : Jvm.MethodName)) ∈ TG := tg 433 rfl rfl
set_option maxRecDepth 20000 in
theorem wd_434 : (Jvm.Cond.selects "SlippedBlocks$Work" ({ cls := "SlippedBlocks$Work", name := "proofInto", desc := "(LSlippedBlocks$Sheet;II)V" } : Jvm.MethodName) ({ cls := "SlippedBlocks$Work", name := "proofInto", desc := "(LSlippedBlocks$Sheet;II)V" } : Jvm.MethodName)) ∈ TG := tg 434 rfl rfl
set_option maxRecDepth 20000 in
theorem wd_435 : (Jvm.Cond.code ({ cls := "SlippedBlocks$Work", name := "proofInto", desc := "(LSlippedBlocks$Sheet;II)V" } : Jvm.MethodName) prog_7_method_14_code (10 : Nat) (Option.none : Option Jvm.ClassFile.FieldType)) ∈ TG := tg 435 rfl rfl
set_option maxRecDepth 20000 in
theorem wd_437 : (Jvm.Cond.static ({ cls := "SlippedBlocks", name := "slipped", desc := "(JI)J" } : Jvm.MethodName)) ∈ TG := tg 437 rfl rfl
set_option maxRecDepth 20000 in
theorem wd_438 : (Jvm.Cond.code ({ cls := "SlippedBlocks", name := "slipped", desc := "(JI)J" } : Jvm.MethodName) prog_1_method_30_code (4 : Nat) (Option.some Jvm.ClassFile.FieldType.long)) ∈ TG := tg 438 rfl rfl
set_option maxRecDepth 20000 in
theorem wd_439 : (Jvm.Cond.methodLink "SlippedBlocks" (169 : Nat) ({ cls := "SlippedBlocks", name := "dyOf", desc := "(I)I" } : Jvm.MethodName)) ∈ TG := tg 439 rfl rfl
set_option maxRecDepth 20000 in
theorem wd_440 : (Jvm.Cond.static ({ cls := "SlippedBlocks", name := "dyOf", desc := "(I)I" } : Jvm.MethodName)) ∈ TG := tg 440 rfl rfl
set_option maxRecDepth 20000 in
theorem wd_441 : (Jvm.Cond.code ({ cls := "SlippedBlocks", name := "dyOf", desc := "(I)I" } : Jvm.MethodName) prog_1_method_29_code (1 : Nat) (Option.some Jvm.ClassFile.FieldType.int)) ∈ TG := tg 441 rfl rfl
set_option maxRecDepth 20000 in
theorem wd_442 : (Jvm.Cond.methodLink "SlippedBlocks" (166 : Nat) ({ cls := "SlippedBlocks", name := "dxOf", desc := "(I)I" } : Jvm.MethodName)) ∈ TG := tg 442 rfl rfl
set_option maxRecDepth 20000 in
theorem wd_443 : (Jvm.Cond.static ({ cls := "SlippedBlocks", name := "dxOf", desc := "(I)I" } : Jvm.MethodName)) ∈ TG := tg 443 rfl rfl
set_option maxRecDepth 20000 in
theorem wd_444 : (Jvm.Cond.code ({ cls := "SlippedBlocks", name := "dxOf", desc := "(I)I" } : Jvm.MethodName) prog_1_method_28_code (1 : Nat) (Option.some Jvm.ClassFile.FieldType.int)) ∈ TG := tg 444 rfl rfl
set_option maxRecDepth 20000 in
theorem wd_445 : (Jvm.Cond.methodLink "SlippedBlocks$Work" (84 : Nat) ({ cls := "SlippedBlocks$Sheet", name := "print", desc := "(JIZ)V" } : Jvm.MethodName)) ∈ TG := tg 445 rfl rfl
set_option maxRecDepth 20000 in
theorem wd_446 : (Jvm.Cond.methodLink "SlippedBlocks" (219 : Nat) ({ cls := "SlippedBlocks$Sheet", name := "unlike", desc := "(LSlippedBlocks$Sheet;)J" } : Jvm.MethodName)) ∈ TG := tg 446 rfl rfl
set_option maxRecDepth 20000 in
theorem wd_447 : (Jvm.Cond.instanceMethod ({ cls := "SlippedBlocks$Sheet", name := "unlike", desc := "(LSlippedBlocks$Sheet;)J" } : Jvm.MethodName)) ∈ TG := tg 447 rfl rfl
set_option maxRecDepth 20000 in
theorem wd_448 : (Jvm.Cond.selects "SlippedBlocks$Sheet" ({ cls := "SlippedBlocks$Sheet", name := "unlike", desc := "(LSlippedBlocks$Sheet;)J" } : Jvm.MethodName) ({ cls := "SlippedBlocks$Sheet", name := "unlike", desc := "(LSlippedBlocks$Sheet;)J" } : Jvm.MethodName)) ∈ TG := tg 448 rfl rfl
set_option maxRecDepth 20000 in
theorem wd_449 : (Jvm.Cond.code ({ cls := "SlippedBlocks$Sheet", name := "unlike", desc := "(LSlippedBlocks$Sheet;)J" } : Jvm.MethodName) prog_4_method_8_code (2 : Nat) (Option.some Jvm.ClassFile.FieldType.long)) ∈ TG := tg 449 rfl rfl
set_option maxRecDepth 20000 in
theorem wd_450 : (Jvm.Cond.methodLink "SlippedBlocks" (161 : Nat) ({ cls := "java/lang/Long", name := "bitCount", desc := "(J)I" } : Jvm.MethodName)) ∈ TG := tg 450 rfl rfl
set_option maxRecDepth 20000 in
theorem wd_451 : (Jvm.Cond.static ({ cls := "java/lang/Long", name := "bitCount", desc := "(J)I" } : Jvm.MethodName)) ∈ TG := tg 451 rfl rfl
set_option maxRecDepth 20000 in
theorem wd_452 : (Jvm.Cond.code ({ cls := "java/lang/Long", name := "bitCount", desc := "(J)I" } : Jvm.MethodName) prog_11_method_50_code (2 : Nat) (Option.some Jvm.ClassFile.FieldType.int)) ∈ TG := tg 452 rfl rfl
set_option maxRecDepth 20000 in
theorem wd_453 : (Jvm.Cond.constantLong "java/lang/Long" (314 : Nat) (6148914691236517205 : Int64)) ∈ TG := tg 453 rfl rfl
set_option maxRecDepth 20000 in
theorem wd_454 : (Jvm.Cond.constantLong "java/lang/Long" (316 : Nat) (3689348814741910323 : Int64)) ∈ TG := tg 454 rfl rfl
set_option maxRecDepth 20000 in
theorem wd_455 : (Jvm.Cond.constantLong "java/lang/Long" (318 : Nat) (1085102592571150095 : Int64)) ∈ TG := tg 455 rfl rfl
set_option maxRecDepth 20000 in
theorem wd_456 : (Jvm.Cond.methodLink "SlippedBlocksLaw" (45 : Nat) ({ cls := "SlippedBlocks", name := "undo", desc := "()I" } : Jvm.MethodName)) ∈ TG := tg 456 rfl rfl
set_option maxRecDepth 20000 in
theorem wd_457 : (Jvm.Cond.instanceMethod ({ cls := "SlippedBlocks", name := "undo", desc := "()I" } : Jvm.MethodName)) ∈ TG := tg 457 rfl rfl
set_option maxRecDepth 20000 in
theorem wd_458 : (Jvm.Cond.selects "SlippedBlocks" ({ cls := "SlippedBlocks", name := "undo", desc := "()I" } : Jvm.MethodName) ({ cls := "SlippedBlocks", name := "undo", desc := "()I" } : Jvm.MethodName)) ∈ TG := tg 458 rfl rfl
set_option maxRecDepth 20000 in
theorem wd_459 : (Jvm.Cond.code ({ cls := "SlippedBlocks", name := "undo", desc := "()I" } : Jvm.MethodName) prog_1_method_9_code (1 : Nat) (Option.some Jvm.ClassFile.FieldType.int)) ∈ TG := tg 459 rfl rfl
set_option maxRecDepth 20000 in
theorem wd_460 : (Jvm.Cond.methodLink "SlippedBlocks" (135 : Nat) ({ cls := "SlippedBlocks$Past", name := "restore", desc := "(LSlippedBlocks$Work;)V" } : Jvm.MethodName)) ∈ TG := tg 460 rfl rfl
set_option maxRecDepth 20000 in
theorem wd_461 : (Jvm.Cond.instanceMethod ({ cls := "SlippedBlocks$Past", name := "restore", desc := "(LSlippedBlocks$Work;)V" } : Jvm.MethodName)) ∈ TG := tg 461 rfl rfl
set_option maxRecDepth 20000 in
theorem wd_462 : (Jvm.Cond.selects "SlippedBlocks$Past" ({ cls := "SlippedBlocks$Past", name := "restore", desc := "(LSlippedBlocks$Work;)V" } : Jvm.MethodName) ({ cls := "SlippedBlocks$Past", name := "restore", desc := "(LSlippedBlocks$Work;)V" } : Jvm.MethodName)) ∈ TG := tg 462 rfl rfl
set_option maxRecDepth 20000 in
theorem wd_463 : (Jvm.Cond.code ({ cls := "SlippedBlocks$Past", name := "restore", desc := "(LSlippedBlocks$Work;)V" } : Jvm.MethodName) prog_2_method_3_code (2 : Nat) (Option.none : Option Jvm.ClassFile.FieldType)) ∈ TG := tg 463 rfl rfl
set_option maxRecDepth 20000 in
theorem wd_464 : (Jvm.Cond.methodLink "SlippedBlocksLaw" (49 : Nat) ({ cls := "SlippedBlocks", name := "cell", desc := "(III)I" } : Jvm.MethodName)) ∈ TG := tg 464 rfl rfl
set_option maxRecDepth 20000 in
theorem wd_465 : (Jvm.Cond.instanceMethod ({ cls := "SlippedBlocks", name := "cell", desc := "(III)I" } : Jvm.MethodName)) ∈ TG := tg 465 rfl rfl
set_option maxRecDepth 20000 in
theorem wd_466 : (Jvm.Cond.selects "SlippedBlocks" ({ cls := "SlippedBlocks", name := "cell", desc := "(III)I" } : Jvm.MethodName) ({ cls := "SlippedBlocks", name := "cell", desc := "(III)I" } : Jvm.MethodName)) ∈ TG := tg 466 rfl rfl
set_option maxRecDepth 20000 in
theorem wd_467 : (Jvm.Cond.code ({ cls := "SlippedBlocks", name := "cell", desc := "(III)I" } : Jvm.MethodName) prog_1_method_10_code (4 : Nat) (Option.some Jvm.ClassFile.FieldType.int)) ∈ TG := tg 467 rfl rfl
set_option maxRecDepth 20000 in
theorem wd_468 : (Jvm.Cond.methodLink "SlippedBlocks" (141 : Nat) ({ cls := "SlippedBlocks$Sheet", name := "at", desc := "(II)I" } : Jvm.MethodName)) ∈ TG := tg 468 rfl rfl
set_option maxRecDepth 20000 in
theorem wd_469 : (Jvm.Cond.instanceMethod ({ cls := "SlippedBlocks$Sheet", name := "at", desc := "(II)I" } : Jvm.MethodName)) ∈ TG := tg 469 rfl rfl
set_option maxRecDepth 20000 in
theorem wd_470 : (Jvm.Cond.selects "SlippedBlocks$Sheet" ({ cls := "SlippedBlocks$Sheet", name := "at", desc := "(II)I" } : Jvm.MethodName) ({ cls := "SlippedBlocks$Sheet", name := "at", desc := "(II)I" } : Jvm.MethodName)) ∈ TG := tg 470 rfl rfl
set_option maxRecDepth 20000 in
theorem wd_471 : (Jvm.Cond.code ({ cls := "SlippedBlocks$Sheet", name := "at", desc := "(II)I" } : Jvm.MethodName) prog_4_method_6_code (5 : Nat) (Option.some Jvm.ClassFile.FieldType.int)) ∈ TG := tg 471 rfl rfl
set_option maxRecDepth 20000 in
theorem wd_473 : (Jvm.Cond.methodLink "SlippedBlocks" (148 : Nat) ({ cls := "SlippedBlocks$Work", name := "inksOf", desc := "(II)I" } : Jvm.MethodName)) ∈ TG := tg 473 rfl rfl
set_option maxRecDepth 20000 in
theorem wd_474 : (Jvm.Cond.instanceMethod ({ cls := "SlippedBlocks$Work", name := "inksOf", desc := "(II)I" } : Jvm.MethodName)) ∈ TG := tg 474 rfl rfl
set_option maxRecDepth 20000 in
theorem wd_475 : (Jvm.Cond.selects "SlippedBlocks$Work" ({ cls := "SlippedBlocks$Work", name := "inksOf", desc := "(II)I" } : Jvm.MethodName) ({ cls := "SlippedBlocks$Work", name := "inksOf", desc := "(II)I" } : Jvm.MethodName)) ∈ TG := tg 475 rfl rfl
set_option maxRecDepth 20000 in
theorem wd_476 : (Jvm.Cond.code ({ cls := "SlippedBlocks$Work", name := "inksOf", desc := "(II)I" } : Jvm.MethodName) prog_7_method_10_code (5 : Nat) (Option.some Jvm.ClassFile.FieldType.int)) ∈ TG := tg 476 rfl rfl
set_option maxRecDepth 20000 in
theorem wd_478 : (Jvm.Cond.methodLink "SlippedBlocksLaw" (53 : Nat) ({ cls := "SlippedBlocks", name := "ink", desc := "(II)I" } : Jvm.MethodName)) ∈ TG := tg 478 rfl rfl
set_option maxRecDepth 20000 in
theorem wd_479 : (Jvm.Cond.instanceMethod ({ cls := "SlippedBlocks", name := "ink", desc := "(II)I" } : Jvm.MethodName)) ∈ TG := tg 479 rfl rfl
set_option maxRecDepth 20000 in
theorem wd_480 : (Jvm.Cond.selects "SlippedBlocks" ({ cls := "SlippedBlocks", name := "ink", desc := "(II)I" } : Jvm.MethodName) ({ cls := "SlippedBlocks", name := "ink", desc := "(II)I" } : Jvm.MethodName)) ∈ TG := tg 480 rfl rfl
set_option maxRecDepth 20000 in
theorem wd_481 : (Jvm.Cond.code ({ cls := "SlippedBlocks", name := "ink", desc := "(II)I" } : Jvm.MethodName) prog_1_method_11_code (3 : Nat) (Option.some Jvm.ClassFile.FieldType.int)) ∈ TG := tg 481 rfl rfl
set_option maxRecDepth 20000 in
theorem wd_482 : (Jvm.Cond.constant "SlippedBlocks" (151 : Nat) (-1000000 : Int32)) ∈ TG := tg 482 rfl rfl
set_option maxRecDepth 20000 in
theorem wd_483 : (Jvm.Cond.methodLink "SlippedBlocks" (155 : Nat) ({ cls := "SlippedBlocks$Work", name := "isDense", desc := "(I)Z" } : Jvm.MethodName)) ∈ TG := tg 483 rfl rfl
set_option maxRecDepth 20000 in
theorem wd_484 : (Jvm.Cond.methodLink "SlippedBlocks" (158 : Nat) ({ cls := "SlippedBlocks$Work", name := "placeOf", desc := "(I)I" } : Jvm.MethodName)) ∈ TG := tg 484 rfl rfl
set_option maxRecDepth 20000 in
theorem wd_485 : (Jvm.Cond.methodLink "SlippedBlocksLaw" (57 : Nat) ({ cls := "SlippedBlocks", name := "made", desc := "(I)I" } : Jvm.MethodName)) ∈ TG := tg 485 rfl rfl
set_option maxRecDepth 20000 in
theorem wd_486 : (Jvm.Cond.instanceMethod ({ cls := "SlippedBlocks", name := "made", desc := "(I)I" } : Jvm.MethodName)) ∈ TG := tg 486 rfl rfl
set_option maxRecDepth 20000 in
theorem wd_487 : (Jvm.Cond.selects "SlippedBlocks" ({ cls := "SlippedBlocks", name := "made", desc := "(I)I" } : Jvm.MethodName) ({ cls := "SlippedBlocks", name := "made", desc := "(I)I" } : Jvm.MethodName)) ∈ TG := tg 487 rfl rfl
set_option maxRecDepth 20000 in
theorem wd_488 : (Jvm.Cond.code ({ cls := "SlippedBlocks", name := "made", desc := "(I)I" } : Jvm.MethodName) prog_1_method_12_code (2 : Nat) (Option.some Jvm.ClassFile.FieldType.int)) ∈ TG := tg 488 rfl rfl
set_option maxRecDepth 20000 in
theorem wd_489 : (Jvm.Cond.methodLink "SlippedBlocks" (172 : Nat) ({ cls := "SlippedBlocks$Work", name := "sets", desc := "()I" } : Jvm.MethodName)) ∈ TG := tg 489 rfl rfl
set_option maxRecDepth 20000 in
theorem wd_490 : (Jvm.Cond.methodLink "SlippedBlocks" (175 : Nat) ({ cls := "SlippedBlocks$Work", name := "coloursBy", desc := "(I)I" } : Jvm.MethodName)) ∈ TG := tg 490 rfl rfl
set_option maxRecDepth 20000 in
theorem wd_491 : (Jvm.Cond.methodLink "SlippedBlocksLaw" (61 : Nat) ({ cls := "SlippedBlocks", name := "least", desc := "(I)I" } : Jvm.MethodName)) ∈ TG := tg 491 rfl rfl
set_option maxRecDepth 20000 in
theorem wd_492 : (Jvm.Cond.instanceMethod ({ cls := "SlippedBlocks", name := "least", desc := "(I)I" } : Jvm.MethodName)) ∈ TG := tg 492 rfl rfl
set_option maxRecDepth 20000 in
theorem wd_493 : (Jvm.Cond.selects "SlippedBlocks" ({ cls := "SlippedBlocks", name := "least", desc := "(I)I" } : Jvm.MethodName) ({ cls := "SlippedBlocks", name := "least", desc := "(I)I" } : Jvm.MethodName)) ∈ TG := tg 493 rfl rfl
set_option maxRecDepth 20000 in
theorem wd_494 : (Jvm.Cond.code ({ cls := "SlippedBlocks", name := "least", desc := "(I)I" } : Jvm.MethodName) prog_1_method_13_code (3 : Nat) (Option.some Jvm.ClassFile.FieldType.int)) ∈ TG := tg 494 rfl rfl
set_option maxRecDepth 20000 in
theorem wd_495 : (Jvm.Cond.methodLink "SlippedBlocksLaw" (65 : Nat) ({ cls := "SlippedBlocks", name := "order", desc := "(I)I" } : Jvm.MethodName)) ∈ TG := tg 495 rfl rfl
set_option maxRecDepth 20000 in
theorem wd_496 : (Jvm.Cond.instanceMethod ({ cls := "SlippedBlocks", name := "order", desc := "(I)I" } : Jvm.MethodName)) ∈ TG := tg 496 rfl rfl
set_option maxRecDepth 20000 in
theorem wd_497 : (Jvm.Cond.selects "SlippedBlocks" ({ cls := "SlippedBlocks", name := "order", desc := "(I)I" } : Jvm.MethodName) ({ cls := "SlippedBlocks", name := "order", desc := "(I)I" } : Jvm.MethodName)) ∈ TG := tg 497 rfl rfl
set_option maxRecDepth 20000 in
theorem wd_498 : (Jvm.Cond.code ({ cls := "SlippedBlocks", name := "order", desc := "(I)I" } : Jvm.MethodName) prog_1_method_14_code (2 : Nat) (Option.some Jvm.ClassFile.FieldType.int)) ∈ TG := tg 498 rfl rfl
set_option maxRecDepth 20000 in
theorem wd_499 : (Jvm.Cond.methodLink "SlippedBlocks" (178 : Nat) ({ cls := "SlippedBlocks$RowSearch", name := "run", desc := "(LSlippedBlocks$Work;)V" } : Jvm.MethodName)) ∈ TG := tg 499 rfl rfl
set_option maxRecDepth 20000 in
theorem wd_500 : (Jvm.Cond.instanceMethod ({ cls := "SlippedBlocks$RowSearch", name := "run", desc := "(LSlippedBlocks$Work;)V" } : Jvm.MethodName)) ∈ TG := tg 500 rfl rfl
set_option maxRecDepth 20000 in
theorem wd_501 : (Jvm.Cond.selects "SlippedBlocks$RowSearch" ({ cls := "SlippedBlocks$RowSearch", name := "run", desc := "(LSlippedBlocks$Work;)V" } : Jvm.MethodName) ({ cls := "SlippedBlocks$RowSearch", name := "run", desc := "(LSlippedBlocks$Work;)V" } : Jvm.MethodName)) ∈ TG := tg 501 rfl rfl
set_option maxRecDepth 20000 in
theorem wd_502 : (Jvm.Cond.code ({ cls := "SlippedBlocks$RowSearch", name := "run", desc := "(LSlippedBlocks$Work;)V" } : Jvm.MethodName) prog_3_method_2_code (2 : Nat) (Option.none : Option Jvm.ClassFile.FieldType)) ∈ TG := tg 502 rfl rfl
set_option maxRecDepth 20000 in
theorem wd_503 : (Jvm.Cond.methodLink "SlippedBlocks$RowSearch" (29 : Nat) ({ cls := "SlippedBlocks$Work", name := "palette", desc := "()I" } : Jvm.MethodName)) ∈ TG := tg 503 rfl rfl
set_option maxRecDepth 20000 in
theorem wd_504 : (Jvm.Cond.methodLink "SlippedBlocks$RowSearch" (34 : Nat) ({ cls := "SlippedBlocks$RowSearch", name := "grow", desc := "(LSlippedBlocks$RowSearch;LSlippedBlocks$Work;III)V" } : Jvm.MethodName)) ∈ TG := tg 504 rfl rfl
set_option maxRecDepth 20000 in
theorem wd_505 : (Jvm.Cond.static ({ cls := "SlippedBlocks$RowSearch", name := "grow", desc := "(LSlippedBlocks$RowSearch;LSlippedBlocks$Work;III)V" } : Jvm.MethodName)) ∈ TG := tg 505 rfl rfl
set_option maxRecDepth 20000 in
theorem wd_506 : (Jvm.Cond.code ({ cls := "SlippedBlocks$RowSearch", name := "grow", desc := "(LSlippedBlocks$RowSearch;LSlippedBlocks$Work;III)V" } : Jvm.MethodName) prog_3_method_4_code (7 : Nat) (Option.none : Option Jvm.ClassFile.FieldType)) ∈ TG := tg 506 rfl rfl
set_option maxRecDepth 20000 in
theorem wd_507 : (Jvm.Cond.methodLink "SlippedBlocks$RowSearch" (41 : Nat) ({ cls := "SlippedBlocks$RowSearch", name := "settle", desc := "(III)V" } : Jvm.MethodName)) ∈ TG := tg 507 rfl rfl
set_option maxRecDepth 20000 in
theorem wd_509 : (Jvm.Cond.instanceMethod ({ cls := "SlippedBlocks$RowSearch", name := "settle", desc := "(III)V" } : Jvm.MethodName)) ∈ TG := tg 509 rfl rfl
set_option maxRecDepth 20000 in
theorem wd_510 : (Jvm.Cond.code ({ cls := "SlippedBlocks$RowSearch", name := "settle", desc := "(III)V" } : Jvm.MethodName) prog_3_method_5_code (5 : Nat) (Option.none : Option Jvm.ClassFile.FieldType)) ∈ TG := tg 510 rfl rfl
set_option maxRecDepth 20000 in
theorem wd_511 : (Jvm.Cond.methodLink "SlippedBlocks$RowSearch" (49 : Nat) ({ cls := "SlippedBlocks$RowSearch", name := "earliestRow", desc := "(III)I" } : Jvm.MethodName)) ∈ TG := tg 511 rfl rfl
set_option maxRecDepth 20000 in
theorem wd_513 : (Jvm.Cond.instanceMethod ({ cls := "SlippedBlocks$RowSearch", name := "earliestRow", desc := "(III)I" } : Jvm.MethodName)) ∈ TG := tg 513 rfl rfl
set_option maxRecDepth 20000 in
theorem wd_514 : (Jvm.Cond.code ({ cls := "SlippedBlocks$RowSearch", name := "earliestRow", desc := "(III)I" } : Jvm.MethodName) prog_3_method_6_code (7 : Nat) (Option.some Jvm.ClassFile.FieldType.int)) ∈ TG := tg 514 rfl rfl
set_option maxRecDepth 20000 in
theorem wd_515 : (Jvm.Cond.methodLink "SlippedBlocks$RowSearch" (45 : Nat) ({ cls := "SlippedBlocks$Work", name := "coloursOver", desc := "(II)I" } : Jvm.MethodName)) ∈ TG := tg 515 rfl rfl
set_option maxRecDepth 20000 in
theorem wd_516 : (Jvm.Cond.methodLink "SlippedBlocks" (188 : Nat) ({ cls := "SlippedBlocks$RowSearch", name := "inkAt", desc := "(II)I" } : Jvm.MethodName)) ∈ TG := tg 516 rfl rfl
set_option maxRecDepth 20000 in
theorem wd_517 : (Jvm.Cond.instanceMethod ({ cls := "SlippedBlocks$RowSearch", name := "inkAt", desc := "(II)I" } : Jvm.MethodName)) ∈ TG := tg 517 rfl rfl
set_option maxRecDepth 20000 in
theorem wd_518 : (Jvm.Cond.selects "SlippedBlocks$RowSearch" ({ cls := "SlippedBlocks$RowSearch", name := "inkAt", desc := "(II)I" } : Jvm.MethodName) ({ cls := "SlippedBlocks$RowSearch", name := "inkAt", desc := "(II)I" } : Jvm.MethodName)) ∈ TG := tg 518 rfl rfl
set_option maxRecDepth 20000 in
theorem wd_519 : (Jvm.Cond.code ({ cls := "SlippedBlocks$RowSearch", name := "inkAt", desc := "(II)I" } : Jvm.MethodName) prog_3_method_3_code (3 : Nat) (Option.some Jvm.ClassFile.FieldType.int)) ∈ TG := tg 519 rfl rfl
set_option maxRecDepth 20000 in
theorem wd_520 : (Jvm.Cond.methodLink "SlippedBlocksLaw" (69 : Nat) ({ cls := "SlippedBlocks", name := "wrong", desc := "()I" } : Jvm.MethodName)) ∈ TG := tg 520 rfl rfl
set_option maxRecDepth 20000 in
theorem wd_521 : (Jvm.Cond.instanceMethod ({ cls := "SlippedBlocks", name := "wrong", desc := "()I" } : Jvm.MethodName)) ∈ TG := tg 521 rfl rfl
set_option maxRecDepth 20000 in
theorem wd_522 : (Jvm.Cond.selects "SlippedBlocks" ({ cls := "SlippedBlocks", name := "wrong", desc := "()I" } : Jvm.MethodName) ({ cls := "SlippedBlocks", name := "wrong", desc := "()I" } : Jvm.MethodName)) ∈ TG := tg 522 rfl rfl
set_option maxRecDepth 20000 in
theorem wd_523 : (Jvm.Cond.code ({ cls := "SlippedBlocks", name := "wrong", desc := "()I" } : Jvm.MethodName) prog_1_method_15_code (1 : Nat) (Option.some Jvm.ClassFile.FieldType.int)) ∈ TG := tg 523 rfl rfl
set_option maxRecDepth 20000 in
theorem wd_524 : (Jvm.Cond.methodLink "SlippedBlocksLaw" (73 : Nat) ({ cls := "SlippedBlocks", name := "hurt", desc := "(I)I" } : Jvm.MethodName)) ∈ TG := tg 524 rfl rfl
set_option maxRecDepth 20000 in
theorem wd_525 : (Jvm.Cond.instanceMethod ({ cls := "SlippedBlocks", name := "hurt", desc := "(I)I" } : Jvm.MethodName)) ∈ TG := tg 525 rfl rfl
set_option maxRecDepth 20000 in
theorem wd_526 : (Jvm.Cond.selects "SlippedBlocks" ({ cls := "SlippedBlocks", name := "hurt", desc := "(I)I" } : Jvm.MethodName) ({ cls := "SlippedBlocks", name := "hurt", desc := "(I)I" } : Jvm.MethodName)) ∈ TG := tg 526 rfl rfl
set_option maxRecDepth 20000 in
theorem wd_527 : (Jvm.Cond.code ({ cls := "SlippedBlocks", name := "hurt", desc := "(I)I" } : Jvm.MethodName) prog_1_method_16_code (4 : Nat) (Option.some Jvm.ClassFile.FieldType.int)) ∈ TG := tg 527 rfl rfl
set_option maxRecDepth 20000 in
theorem wd_528 : (Jvm.Cond.methodLink "SlippedBlocksLaw" (77 : Nat) ({ cls := "SlippedBlocks", name := "sees", desc := "(III)I" } : Jvm.MethodName)) ∈ TG := tg 528 rfl rfl
set_option maxRecDepth 20000 in
theorem wd_529 : (Jvm.Cond.instanceMethod ({ cls := "SlippedBlocks", name := "sees", desc := "(III)I" } : Jvm.MethodName)) ∈ TG := tg 529 rfl rfl
set_option maxRecDepth 20000 in
theorem wd_530 : (Jvm.Cond.selects "SlippedBlocks" ({ cls := "SlippedBlocks", name := "sees", desc := "(III)I" } : Jvm.MethodName) ({ cls := "SlippedBlocks", name := "sees", desc := "(III)I" } : Jvm.MethodName)) ∈ TG := tg 530 rfl rfl
set_option maxRecDepth 20000 in
theorem wd_531 : (Jvm.Cond.code ({ cls := "SlippedBlocks", name := "sees", desc := "(III)I" } : Jvm.MethodName) prog_1_method_17_code (4 : Nat) (Option.some Jvm.ClassFile.FieldType.int)) ∈ TG := tg 531 rfl rfl
set_option maxRecDepth 20000 in
theorem wd_532 : (Jvm.Cond.methodLink "SlippedBlocks" (191 : Nat) ({ cls := "SlippedBlocks", name := "onBoard", desc := "(II)Z" } : Jvm.MethodName)) ∈ TG := tg 532 rfl rfl
set_option maxRecDepth 20000 in
theorem wd_533 : (Jvm.Cond.static ({ cls := "SlippedBlocks", name := "onBoard", desc := "(II)Z" } : Jvm.MethodName)) ∈ TG := tg 533 rfl rfl
set_option maxRecDepth 20000 in
theorem wd_534 : (Jvm.Cond.code ({ cls := "SlippedBlocks", name := "onBoard", desc := "(II)Z" } : Jvm.MethodName) prog_1_method_25_code (2 : Nat) (Option.some Jvm.ClassFile.FieldType.boolean)) ∈ TG := tg 534 rfl rfl
set_option maxRecDepth 20000 in
theorem wd_535 : (Jvm.Cond.methodLink "SlippedBlocks" (194 : Nat) ({ cls := "SlippedBlocks$Sightings", name := "add", desc := "(III)Z" } : Jvm.MethodName)) ∈ TG := tg 535 rfl rfl
set_option maxRecDepth 20000 in
theorem wd_536 : (Jvm.Cond.instanceMethod ({ cls := "SlippedBlocks$Sightings", name := "add", desc := "(III)Z" } : Jvm.MethodName)) ∈ TG := tg 536 rfl rfl
set_option maxRecDepth 20000 in
theorem wd_537 : (Jvm.Cond.selects "SlippedBlocks$Sightings" ({ cls := "SlippedBlocks$Sightings", name := "add", desc := "(III)Z" } : Jvm.MethodName) ({ cls := "SlippedBlocks$Sightings", name := "add", desc := "(III)Z" } : Jvm.MethodName)) ∈ TG := tg 537 rfl rfl
set_option maxRecDepth 20000 in
theorem wd_538 : (Jvm.Cond.code ({ cls := "SlippedBlocks$Sightings", name := "add", desc := "(III)Z" } : Jvm.MethodName) prog_5_method_2_code (4 : Nat) (Option.some Jvm.ClassFile.FieldType.boolean)) ∈ TG := tg 538 rfl rfl
set_option maxRecDepth 20000 in
theorem wd_539 : (Jvm.Cond.methodLink "SlippedBlocksLaw" (81 : Nat) ({ cls := "SlippedBlocks", name := "forget", desc := "()I" } : Jvm.MethodName)) ∈ TG := tg 539 rfl rfl
set_option maxRecDepth 20000 in
theorem wd_540 : (Jvm.Cond.instanceMethod ({ cls := "SlippedBlocks", name := "forget", desc := "()I" } : Jvm.MethodName)) ∈ TG := tg 540 rfl rfl
set_option maxRecDepth 20000 in
theorem wd_541 : (Jvm.Cond.selects "SlippedBlocks" ({ cls := "SlippedBlocks", name := "forget", desc := "()I" } : Jvm.MethodName) ({ cls := "SlippedBlocks", name := "forget", desc := "()I" } : Jvm.MethodName)) ∈ TG := tg 541 rfl rfl
set_option maxRecDepth 20000 in
theorem wd_542 : (Jvm.Cond.code ({ cls := "SlippedBlocks", name := "forget", desc := "()I" } : Jvm.MethodName) prog_1_method_18_code (2 : Nat) (Option.some Jvm.ClassFile.FieldType.int)) ∈ TG := tg 542 rfl rfl
set_option maxRecDepth 20000 in
theorem wd_543 : (Jvm.Cond.methodLink "SlippedBlocksLaw" (85 : Nat) ({ cls := "SlippedBlocks", name := "which", desc := "(I)I" } : Jvm.MethodName)) ∈ TG := tg 543 rfl rfl
set_option maxRecDepth 20000 in
theorem wd_544 : (Jvm.Cond.instanceMethod ({ cls := "SlippedBlocks", name := "which", desc := "(I)I" } : Jvm.MethodName)) ∈ TG := tg 544 rfl rfl
set_option maxRecDepth 20000 in
theorem wd_545 : (Jvm.Cond.selects "SlippedBlocks" ({ cls := "SlippedBlocks", name := "which", desc := "(I)I" } : Jvm.MethodName) ({ cls := "SlippedBlocks", name := "which", desc := "(I)I" } : Jvm.MethodName)) ∈ TG := tg 545 rfl rfl
set_option maxRecDepth 20000 in
theorem wd_546 : (Jvm.Cond.code ({ cls := "SlippedBlocks", name := "which", desc := "(I)I" } : Jvm.MethodName) prog_1_method_19_code (2 : Nat) (Option.some Jvm.ClassFile.FieldType.int)) ∈ TG := tg 546 rfl rfl
set_option maxRecDepth 20000 in
theorem wd_547 : (Jvm.Cond.methodLink "SlippedBlocks" (198 : Nat) ({ cls := "SlippedBlocks$Sightings", name := "howManyExplain", desc := "(LSlippedBlocks$Work;)I" } : Jvm.MethodName)) ∈ TG := tg 547 rfl rfl
set_option maxRecDepth 20000 in
theorem wd_548 : (Jvm.Cond.instanceMethod ({ cls := "SlippedBlocks$Sightings", name := "howManyExplain", desc := "(LSlippedBlocks$Work;)I" } : Jvm.MethodName)) ∈ TG := tg 548 rfl rfl
set_option maxRecDepth 20000 in
theorem wd_549 : (Jvm.Cond.selects "SlippedBlocks$Sightings" ({ cls := "SlippedBlocks$Sightings", name := "howManyExplain", desc := "(LSlippedBlocks$Work;)I" } : Jvm.MethodName) ({ cls := "SlippedBlocks$Sightings", name := "howManyExplain", desc := "(LSlippedBlocks$Work;)I" } : Jvm.MethodName)) ∈ TG := tg 549 rfl rfl
set_option maxRecDepth 20000 in
theorem wd_550 : (Jvm.Cond.code ({ cls := "SlippedBlocks$Sightings", name := "howManyExplain", desc := "(LSlippedBlocks$Work;)I" } : Jvm.MethodName) prog_5_method_3_code (4 : Nat) (Option.some Jvm.ClassFile.FieldType.int)) ∈ TG := tg 550 rfl rfl
set_option maxRecDepth 20000 in
theorem wd_551 : (Jvm.Cond.methodLink "SlippedBlocks$Sightings" (40 : Nat) ({ cls := "SlippedBlocks$Sightings", name := "explains", desc := "(LSlippedBlocks$Work;I)Z" } : Jvm.MethodName)) ∈ TG := tg 551 rfl rfl
set_option maxRecDepth 20000 in
theorem wd_553 : (Jvm.Cond.instanceMethod ({ cls := "SlippedBlocks$Sightings", name := "explains", desc := "(LSlippedBlocks$Work;I)Z" } : Jvm.MethodName)) ∈ TG := tg 553 rfl rfl
set_option maxRecDepth 20000 in
theorem wd_554 : (Jvm.Cond.code ({ cls := "SlippedBlocks$Sightings", name := "explains", desc := "(LSlippedBlocks$Work;I)Z" } : Jvm.MethodName) prog_5_method_5_code (6 : Nat) (Option.some Jvm.ClassFile.FieldType.boolean)) ∈ TG := tg 554 rfl rfl
set_option maxRecDepth 20000 in
theorem wd_555 : (Jvm.Cond.methodLink "SlippedBlocks$Sightings" (45 : Nat) ({ cls := "SlippedBlocks$Work", name := "hasInk", desc := "(I)Z" } : Jvm.MethodName)) ∈ TG := tg 555 rfl rfl
set_option maxRecDepth 20000 in
theorem wd_556 : (Jvm.Cond.methodLink "SlippedBlocks$Sightings" (52 : Nat) ({ cls := "SlippedBlocks$Work", name := "proofInto", desc := "(LSlippedBlocks$Sheet;II)V" } : Jvm.MethodName)) ∈ TG := tg 556 rfl rfl
set_option maxRecDepth 20000 in
theorem wd_557 : (Jvm.Cond.methodLink "SlippedBlocks$Sightings" (56 : Nat) ({ cls := "SlippedBlocks$Work", name := "hasCell", desc := "(II)Z" } : Jvm.MethodName)) ∈ TG := tg 557 rfl rfl
set_option maxRecDepth 20000 in
theorem wd_558 : (Jvm.Cond.methodLink "SlippedBlocks$Sightings" (60 : Nat) ({ cls := "SlippedBlocks$Sheet", name := "at", desc := "(II)I" } : Jvm.MethodName)) ∈ TG := tg 558 rfl rfl
set_option maxRecDepth 20000 in
theorem wd_559 : (Jvm.Cond.methodLink "SlippedBlocks" (201 : Nat) ({ cls := "SlippedBlocks$Sightings", name := "firstExplaining", desc := "(LSlippedBlocks$Work;)I" } : Jvm.MethodName)) ∈ TG := tg 559 rfl rfl
set_option maxRecDepth 20000 in
theorem wd_560 : (Jvm.Cond.instanceMethod ({ cls := "SlippedBlocks$Sightings", name := "firstExplaining", desc := "(LSlippedBlocks$Work;)I" } : Jvm.MethodName)) ∈ TG := tg 560 rfl rfl
set_option maxRecDepth 20000 in
theorem wd_561 : (Jvm.Cond.selects "SlippedBlocks$Sightings" ({ cls := "SlippedBlocks$Sightings", name := "firstExplaining", desc := "(LSlippedBlocks$Work;)I" } : Jvm.MethodName) ({ cls := "SlippedBlocks$Sightings", name := "firstExplaining", desc := "(LSlippedBlocks$Work;)I" } : Jvm.MethodName)) ∈ TG := tg 561 rfl rfl
set_option maxRecDepth 20000 in
theorem wd_562 : (Jvm.Cond.code ({ cls := "SlippedBlocks$Sightings", name := "firstExplaining", desc := "(LSlippedBlocks$Work;)I" } : Jvm.MethodName) prog_5_method_4_code (3 : Nat) (Option.some Jvm.ClassFile.FieldType.int)) ∈ TG := tg 562 rfl rfl
set_option maxRecDepth 20000 in
theorem wd_563 : (Jvm.Cond.constant "SlippedBlocks$Sightings" (44 : Nat) (-2000000 : Int32)) ∈ TG := tg 563 rfl rfl
set_option maxRecDepth 20000 in
theorem wd_564 : (Jvm.Cond.methodLink "SlippedBlocksLaw" (89 : Nat) ({ cls := "SlippedBlocks", name := "ask", desc := "()I" } : Jvm.MethodName)) ∈ TG := tg 564 rfl rfl
set_option maxRecDepth 20000 in
theorem wd_565 : (Jvm.Cond.instanceMethod ({ cls := "SlippedBlocks", name := "ask", desc := "()I" } : Jvm.MethodName)) ∈ TG := tg 565 rfl rfl
set_option maxRecDepth 20000 in
theorem wd_566 : (Jvm.Cond.selects "SlippedBlocks" ({ cls := "SlippedBlocks", name := "ask", desc := "()I" } : Jvm.MethodName) ({ cls := "SlippedBlocks", name := "ask", desc := "()I" } : Jvm.MethodName)) ∈ TG := tg 566 rfl rfl
set_option maxRecDepth 20000 in
theorem wd_567 : (Jvm.Cond.code ({ cls := "SlippedBlocks", name := "ask", desc := "()I" } : Jvm.MethodName) prog_1_method_20_code (1 : Nat) (Option.some Jvm.ClassFile.FieldType.int)) ∈ TG := tg 567 rfl rfl
set_option maxRecDepth 20000 in
theorem wd_568 : (Jvm.Cond.methodLink "SlippedBlocks" (204 : Nat) ({ cls := "SlippedBlocks$Sightings", name := "bestCell", desc := "(LSlippedBlocks$Work;)I" } : Jvm.MethodName)) ∈ TG := tg 568 rfl rfl
set_option maxRecDepth 20000 in
theorem wd_569 : (Jvm.Cond.instanceMethod ({ cls := "SlippedBlocks$Sightings", name := "bestCell", desc := "(LSlippedBlocks$Work;)I" } : Jvm.MethodName)) ∈ TG := tg 569 rfl rfl
set_option maxRecDepth 20000 in
theorem wd_570 : (Jvm.Cond.selects "SlippedBlocks$Sightings" ({ cls := "SlippedBlocks$Sightings", name := "bestCell", desc := "(LSlippedBlocks$Work;)I" } : Jvm.MethodName) ({ cls := "SlippedBlocks$Sightings", name := "bestCell", desc := "(LSlippedBlocks$Work;)I" } : Jvm.MethodName)) ∈ TG := tg 570 rfl rfl
set_option maxRecDepth 20000 in
theorem wd_571 : (Jvm.Cond.code ({ cls := "SlippedBlocks$Sightings", name := "bestCell", desc := "(LSlippedBlocks$Work;)I" } : Jvm.MethodName) prog_5_method_6_code (4 : Nat) (Option.some Jvm.ClassFile.FieldType.int)) ∈ TG := tg 571 rfl rfl
set_option maxRecDepth 20000 in
theorem wd_572 : (Jvm.Cond.methodLink "SlippedBlocks$Sightings" (64 : Nat) ({ cls := "SlippedBlocks$Sightings", name := "addToTally", desc := "(LSlippedBlocks$Work;)V" } : Jvm.MethodName)) ∈ TG := tg 572 rfl rfl
set_option maxRecDepth 20000 in
theorem wd_574 : (Jvm.Cond.instanceMethod ({ cls := "SlippedBlocks$Sightings", name := "addToTally", desc := "(LSlippedBlocks$Work;)V" } : Jvm.MethodName)) ∈ TG := tg 574 rfl rfl
set_option maxRecDepth 20000 in
theorem wd_575 : (Jvm.Cond.code ({ cls := "SlippedBlocks$Sightings", name := "addToTally", desc := "(LSlippedBlocks$Work;)V" } : Jvm.MethodName) prog_5_method_7_code (4 : Nat) (Option.none : Option Jvm.ClassFile.FieldType)) ∈ TG := tg 575 rfl rfl
set_option maxRecDepth 20000 in
theorem wd_576 : (Jvm.Cond.methodLink "SlippedBlocks$Sightings" (68 : Nat) ({ cls := "SlippedBlocks$Sightings", name := "mostTellingCell", desc := "(LSlippedBlocks$Work;)I" } : Jvm.MethodName)) ∈ TG := tg 576 rfl rfl
set_option maxRecDepth 20000 in
theorem wd_578 : (Jvm.Cond.instanceMethod ({ cls := "SlippedBlocks$Sightings", name := "mostTellingCell", desc := "(LSlippedBlocks$Work;)I" } : Jvm.MethodName)) ∈ TG := tg 578 rfl rfl
set_option maxRecDepth 20000 in
theorem wd_579 : (Jvm.Cond.code ({ cls := "SlippedBlocks$Sightings", name := "mostTellingCell", desc := "(LSlippedBlocks$Work;)I" } : Jvm.MethodName) prog_5_method_8_code (8 : Nat) (Option.some Jvm.ClassFile.FieldType.int)) ∈ TG := tg 579 rfl rfl
set_option maxRecDepth 20000 in
theorem wd_580 : (Jvm.Cond.methodLink "SlippedBlocks$Sightings" (78 : Nat) ({ cls := "SlippedBlocks$Sightings", name := "greatestTally", desc := "(I)I" } : Jvm.MethodName)) ∈ TG := tg 580 rfl rfl
set_option maxRecDepth 20000 in
theorem wd_582 : (Jvm.Cond.instanceMethod ({ cls := "SlippedBlocks$Sightings", name := "greatestTally", desc := "(I)I" } : Jvm.MethodName)) ∈ TG := tg 582 rfl rfl
set_option maxRecDepth 20000 in
theorem wd_583 : (Jvm.Cond.code ({ cls := "SlippedBlocks$Sightings", name := "greatestTally", desc := "(I)I" } : Jvm.MethodName) prog_5_method_9_code (4 : Nat) (Option.some Jvm.ClassFile.FieldType.int)) ∈ TG := tg 583 rfl rfl
set_option maxRecDepth 20000 in
theorem wd_584 : (Jvm.Cond.methodLink "SlippedBlocks$Sightings" (82 : Nat) ({ cls := "java/lang/Math", name := "max", desc := "(II)I" } : Jvm.MethodName)) ∈ TG := tg 584 rfl rfl
set_option maxRecDepth 20000 in
theorem wd_585 : (Jvm.Cond.static ({ cls := "java/lang/Math", name := "max", desc := "(II)I" } : Jvm.MethodName)) ∈ TG := tg 585 rfl rfl
set_option maxRecDepth 20000 in
theorem wd_586 : (Jvm.Cond.code ({ cls := "java/lang/Math", name := "max", desc := "(II)I" } : Jvm.MethodName) prog_12_method_65_code (2 : Nat) (Option.some Jvm.ClassFile.FieldType.int)) ∈ TG := tg 586 rfl rfl
set_option maxRecDepth 20000 in
theorem wd_587 : (Jvm.Cond.methodLink "SlippedBlocksLaw" (93 : Nat) ({ cls := "SlippedBlocks", name := "keep", desc := "(I)I" } : Jvm.MethodName)) ∈ TG := tg 587 rfl rfl
set_option maxRecDepth 20000 in
theorem wd_588 : (Jvm.Cond.instanceMethod ({ cls := "SlippedBlocks", name := "keep", desc := "(I)I" } : Jvm.MethodName)) ∈ TG := tg 588 rfl rfl
set_option maxRecDepth 20000 in
theorem wd_589 : (Jvm.Cond.selects "SlippedBlocks" ({ cls := "SlippedBlocks", name := "keep", desc := "(I)I" } : Jvm.MethodName) ({ cls := "SlippedBlocks", name := "keep", desc := "(I)I" } : Jvm.MethodName)) ∈ TG := tg 589 rfl rfl
set_option maxRecDepth 20000 in
theorem wd_590 : (Jvm.Cond.code ({ cls := "SlippedBlocks", name := "keep", desc := "(I)I" } : Jvm.MethodName) prog_1_method_21_code (2 : Nat) (Option.some Jvm.ClassFile.FieldType.int)) ∈ TG := tg 590 rfl rfl
set_option maxRecDepth 20000 in
theorem wd_591 : (Jvm.Cond.methodLink "SlippedBlocksLaw" (97 : Nat) ({ cls := "SlippedBlocks", name := "back", desc := "(I)I" } : Jvm.MethodName)) ∈ TG := tg 591 rfl rfl
set_option maxRecDepth 20000 in
theorem wd_592 : (Jvm.Cond.instanceMethod ({ cls := "SlippedBlocks", name := "back", desc := "(I)I" } : Jvm.MethodName)) ∈ TG := tg 592 rfl rfl
set_option maxRecDepth 20000 in
theorem wd_593 : (Jvm.Cond.selects "SlippedBlocks" ({ cls := "SlippedBlocks", name := "back", desc := "(I)I" } : Jvm.MethodName) ({ cls := "SlippedBlocks", name := "back", desc := "(I)I" } : Jvm.MethodName)) ∈ TG := tg 593 rfl rfl
set_option maxRecDepth 20000 in
theorem wd_594 : (Jvm.Cond.code ({ cls := "SlippedBlocks", name := "back", desc := "(I)I" } : Jvm.MethodName) prog_1_method_22_code (2 : Nat) (Option.some Jvm.ClassFile.FieldType.int)) ∈ TG := tg 594 rfl rfl
set_option maxRecDepth 20000 in
theorem wd_595 : (Jvm.Cond.methodLink "SlippedBlocksLaw" (101 : Nat) ({ cls := "SlippedBlocks", name := "count", desc := "(I)I" } : Jvm.MethodName)) ∈ TG := tg 595 rfl rfl
set_option maxRecDepth 20000 in
theorem wd_596 : (Jvm.Cond.instanceMethod ({ cls := "SlippedBlocks", name := "count", desc := "(I)I" } : Jvm.MethodName)) ∈ TG := tg 596 rfl rfl
set_option maxRecDepth 20000 in
theorem wd_597 : (Jvm.Cond.selects "SlippedBlocks" ({ cls := "SlippedBlocks", name := "count", desc := "(I)I" } : Jvm.MethodName) ({ cls := "SlippedBlocks", name := "count", desc := "(I)I" } : Jvm.MethodName)) ∈ TG := tg 597 rfl rfl
set_option maxRecDepth 20000 in
theorem wd_598 : (Jvm.Cond.code ({ cls := "SlippedBlocks", name := "count", desc := "(I)I" } : Jvm.MethodName) prog_1_method_23_code (2 : Nat) (Option.some Jvm.ClassFile.FieldType.int)) ∈ TG := tg 598 rfl rfl
set_option maxRecDepth 20000 in
theorem wd_599 : (Jvm.Cond.methodLink "SlippedBlocks" (210 : Nat) ({ cls := "SlippedBlocks$Work", name := "palette", desc := "()I" } : Jvm.MethodName)) ∈ TG := tg 599 rfl rfl
set_option maxRecDepth 20000 in
theorem wd_600 : (Jvm.Cond.methodLink "SlippedBlocks" (213 : Nat) ({ cls := "SlippedBlocks$Work", name := "cellsOfBlocks", desc := "()I" } : Jvm.MethodName)) ∈ TG := tg 600 rfl rfl
set_option maxRecDepth 20000 in
theorem wd_601 : (Jvm.Cond.instanceMethod ({ cls := "SlippedBlocks$Work", name := "cellsOfBlocks", desc := "()I" } : Jvm.MethodName)) ∈ TG := tg 601 rfl rfl
set_option maxRecDepth 20000 in
theorem wd_602 : (Jvm.Cond.selects "SlippedBlocks$Work" ({ cls := "SlippedBlocks$Work", name := "cellsOfBlocks", desc := "()I" } : Jvm.MethodName) ({ cls := "SlippedBlocks$Work", name := "cellsOfBlocks", desc := "()I" } : Jvm.MethodName)) ∈ TG := tg 602 rfl rfl
set_option maxRecDepth 20000 in
theorem wd_603 : (Jvm.Cond.code ({ cls := "SlippedBlocks$Work", name := "cellsOfBlocks", desc := "()I" } : Jvm.MethodName) prog_7_method_11_code (3 : Nat) (Option.some Jvm.ClassFile.FieldType.int)) ∈ TG := tg 603 rfl rfl
set_option maxRecDepth 20000 in
theorem wd_604 : (Jvm.Cond.methodLink "SlippedBlocks$Work" (66 : Nat) ({ cls := "java/lang/Long", name := "bitCount", desc := "(J)I" } : Jvm.MethodName)) ∈ TG := tg 604 rfl rfl
set_option maxRecDepth 20000 in
theorem wd_605 : (Jvm.Cond.methodLink "SlippedBlocks" (216 : Nat) ({ cls := "SlippedBlocks$Work", name := "slippedBlocks", desc := "()I" } : Jvm.MethodName)) ∈ TG := tg 605 rfl rfl
set_option maxRecDepth 20000 in
theorem wd_606 : (Jvm.Cond.instanceMethod ({ cls := "SlippedBlocks$Work", name := "slippedBlocks", desc := "()I" } : Jvm.MethodName)) ∈ TG := tg 606 rfl rfl
set_option maxRecDepth 20000 in
theorem wd_607 : (Jvm.Cond.selects "SlippedBlocks$Work" ({ cls := "SlippedBlocks$Work", name := "slippedBlocks", desc := "()I" } : Jvm.MethodName) ({ cls := "SlippedBlocks$Work", name := "slippedBlocks", desc := "()I" } : Jvm.MethodName)) ∈ TG := tg 607 rfl rfl
set_option maxRecDepth 20000 in
theorem wd_608 : (Jvm.Cond.code ({ cls := "SlippedBlocks$Work", name := "slippedBlocks", desc := "()I" } : Jvm.MethodName) prog_7_method_12_code (3 : Nat) (Option.some Jvm.ClassFile.FieldType.int)) ∈ TG := tg 608 rfl rfl
set_option maxRecDepth 20000 in
theorem wd_609 : (Jvm.Cond.classLink "SlippedBlocksLaw" (10 : Nat) "SlippedBlocksModel") ∈ TG := tg 609 rfl rfl
set_option maxRecDepth 20000 in
theorem wd_610 : (Jvm.Cond.instantiable "SlippedBlocksModel" (22 : Nat)) ∈ TG := tg 610 rfl rfl
set_option maxRecDepth 20000 in
theorem wd_611 : (Jvm.Cond.methodLink "SlippedBlocksLaw" (12 : Nat) ({ cls := "SlippedBlocksModel", name := "<init>", desc := "()V" } : Jvm.MethodName)) ∈ TG := tg 611 rfl rfl
set_option maxRecDepth 20000 in
theorem wd_612 : (Jvm.Cond.instanceMethod ({ cls := "SlippedBlocksModel", name := "<init>", desc := "()V" } : Jvm.MethodName)) ∈ TG := tg 612 rfl rfl
set_option maxRecDepth 20000 in
theorem wd_613 : (Jvm.Cond.code ({ cls := "SlippedBlocksModel", name := "<init>", desc := "()V" } : Jvm.MethodName) prog_9_method_1_code (1 : Nat) (Option.none : Option Jvm.ClassFile.FieldType)) ∈ TG := tg 613 rfl rfl
set_option maxRecDepth 20000 in
theorem wd_614 : (Jvm.Cond.methodLink "SlippedBlocksModel" (1 : Nat) ({ cls := "java/lang/Object", name := "<init>", desc := "()V" } : Jvm.MethodName)) ∈ TG := tg 614 rfl rfl
set_option maxRecDepth 20000 in
theorem wd_615 : (Jvm.Cond.fieldLink "SlippedBlocksModel" (50 : Nat) "SlippedBlocksModel" "thrown" "I") ∈ TG := tg 615 rfl rfl
set_option maxRecDepth 20000 in
theorem wd_616 : (Jvm.Cond.fieldLink "SlippedBlocksModel" (7 : Nat) "SlippedBlocksModel" "s" "[I") ∈ TG := tg 616 rfl rfl
set_option maxRecDepth 20000 in
theorem wd_617 : (Jvm.Cond.fieldLink "SlippedBlocksModel" (13 : Nat) "SlippedBlocksModel" "draft" "[I") ∈ TG := tg 617 rfl rfl
set_option maxRecDepth 20000 in
theorem wd_618 : (Jvm.Cond.fieldLink "SlippedBlocksModel" (16 : Nat) "SlippedBlocksModel" "past" "[I") ∈ TG := tg 618 rfl rfl
set_option maxRecDepth 20000 in
theorem wd_619 : (Jvm.Cond.fieldLink "SlippedBlocksModel" (125 : Nat) "SlippedBlocksModel" "undoMany" "I") ∈ TG := tg 619 rfl rfl
set_option maxRecDepth 20000 in
theorem wd_620 : (Jvm.Cond.fieldLink "SlippedBlocksModel" (19 : Nat) "SlippedBlocksModel" "images" "[I") ∈ TG := tg 620 rfl rfl
set_option maxRecDepth 20000 in
theorem wd_621 : (Jvm.Cond.fieldLink "SlippedBlocksModel" (22 : Nat) "SlippedBlocksModel" "isKept" "[Z") ∈ TG := tg 621 rfl rfl
set_option maxRecDepth 20000 in
theorem wd_622 : (Jvm.Cond.fieldLink "SlippedBlocksModel" (26 : Nat) "SlippedBlocksModel" "text" "[I") ∈ TG := tg 622 rfl rfl
set_option maxRecDepth 20000 in
theorem wd_623 : (Jvm.Cond.fieldLink "SlippedBlocksModel" (54 : Nat) "SlippedBlocksModel" "typed" "I") ∈ TG := tg 623 rfl rfl
set_option maxRecDepth 20000 in
theorem wd_624 : (Jvm.Cond.fieldLink "SlippedBlocksModel" (29 : Nat) "SlippedBlocksModel" "seen" "[I") ∈ TG := tg 624 rfl rfl
set_option maxRecDepth 20000 in
theorem wd_625 : (Jvm.Cond.fieldLink "SlippedBlocksModel" (105 : Nat) "SlippedBlocksModel" "seenMany" "I") ∈ TG := tg 625 rfl rfl
set_option maxRecDepth 20000 in
theorem wd_626 : (Jvm.Cond.fieldLink "SlippedBlocksModel" (61 : Nat) "SlippedBlocksModel" "at" "I") ∈ TG := tg 626 rfl rfl
set_option maxRecDepth 20000 in
theorem wd_627 : (Jvm.Cond.fieldLink "SlippedBlocksModel" (68 : Nat) "SlippedBlocksModel" "place" "I") ∈ TG := tg 627 rfl rfl
set_option maxRecDepth 20000 in
theorem wd_628 : (Jvm.Cond.fieldLink "SlippedBlocksModel" (74 : Nat) "SlippedBlocksModel" "token" "I") ∈ TG := tg 628 rfl rfl
set_option maxRecDepth 20000 in
theorem wd_629 : (Jvm.Cond.fieldLink "SlippedBlocksModel" (71 : Nat) "SlippedBlocksModel" "value" "I") ∈ TG := tg 629 rfl rfl
set_option maxRecDepth 20000 in
theorem wd_630 : (Jvm.Cond.fieldLink "SlippedBlocksModel" (77 : Nat) "SlippedBlocksModel" "fault" "I") ∈ TG := tg 630 rfl rfl
set_option maxRecDepth 20000 in
theorem wd_631 : (Jvm.Cond.fieldLink "SlippedBlocksModel" (32 : Nat) "SlippedBlocksModel" "proof" "[I") ∈ TG := tg 631 rfl rfl
set_option maxRecDepth 20000 in
theorem wd_632 : (Jvm.Cond.fieldLink "SlippedBlocksModel" (35 : Nat) "SlippedBlocksModel" "order" "[I") ∈ TG := tg 632 rfl rfl
set_option maxRecDepth 20000 in
theorem wd_633 : (Jvm.Cond.fieldLink "SlippedBlocksModel" (38 : Nat) "SlippedBlocksModel" "gives" "[I") ∈ TG := tg 633 rfl rfl
set_option maxRecDepth 20000 in
theorem wd_634 : (Jvm.Cond.fieldLink "SlippedBlocksModel" (41 : Nat) "SlippedBlocksModel" "makes" "[I") ∈ TG := tg 634 rfl rfl
set_option maxRecDepth 20000 in
theorem wd_635 : (Jvm.Cond.fieldLink "SlippedBlocksModel" (44 : Nat) "SlippedBlocksModel" "bestOrder" "[I") ∈ TG := tg 635 rfl rfl
set_option maxRecDepth 20000 in
theorem wd_636 : (Jvm.Cond.fieldLink "SlippedBlocksModel" (47 : Nat) "SlippedBlocksModel" "by" "[I") ∈ TG := tg 636 rfl rfl
set_option maxRecDepth 20000 in
theorem wd_637 : (Jvm.Cond.lays "SlippedBlocksModel" "SlippedBlocksModel" "thrown" "I") ∈ TG := tg 637 rfl rfl
set_option maxRecDepth 20000 in
theorem wd_639 : (Jvm.Cond.laysFinal "SlippedBlocksModel" "SlippedBlocksModel" "s" "[I") ∈ TG := tg 639 rfl rfl
set_option maxRecDepth 20000 in
theorem wd_641 : (Jvm.Cond.laysFinal "SlippedBlocksModel" "SlippedBlocksModel" "draft" "[I") ∈ TG := tg 641 rfl rfl
set_option maxRecDepth 20000 in
theorem wd_643 : (Jvm.Cond.laysFinal "SlippedBlocksModel" "SlippedBlocksModel" "past" "[I") ∈ TG := tg 643 rfl rfl
set_option maxRecDepth 20000 in
theorem wd_645 : (Jvm.Cond.lays "SlippedBlocksModel" "SlippedBlocksModel" "undoMany" "I") ∈ TG := tg 645 rfl rfl
set_option maxRecDepth 20000 in
theorem wd_647 : (Jvm.Cond.laysFinal "SlippedBlocksModel" "SlippedBlocksModel" "images" "[I") ∈ TG := tg 647 rfl rfl
set_option maxRecDepth 20000 in
theorem wd_649 : (Jvm.Cond.laysFinal "SlippedBlocksModel" "SlippedBlocksModel" "isKept" "[Z") ∈ TG := tg 649 rfl rfl
set_option maxRecDepth 20000 in
theorem wd_651 : (Jvm.Cond.laysFinal "SlippedBlocksModel" "SlippedBlocksModel" "text" "[I") ∈ TG := tg 651 rfl rfl
set_option maxRecDepth 20000 in
theorem wd_653 : (Jvm.Cond.lays "SlippedBlocksModel" "SlippedBlocksModel" "typed" "I") ∈ TG := tg 653 rfl rfl
set_option maxRecDepth 20000 in
theorem wd_655 : (Jvm.Cond.laysFinal "SlippedBlocksModel" "SlippedBlocksModel" "seen" "[I") ∈ TG := tg 655 rfl rfl
set_option maxRecDepth 20000 in
theorem wd_657 : (Jvm.Cond.lays "SlippedBlocksModel" "SlippedBlocksModel" "seenMany" "I") ∈ TG := tg 657 rfl rfl
set_option maxRecDepth 20000 in
theorem wd_659 : (Jvm.Cond.lays "SlippedBlocksModel" "SlippedBlocksModel" "at" "I") ∈ TG := tg 659 rfl rfl
set_option maxRecDepth 20000 in
theorem wd_661 : (Jvm.Cond.lays "SlippedBlocksModel" "SlippedBlocksModel" "place" "I") ∈ TG := tg 661 rfl rfl
set_option maxRecDepth 20000 in
theorem wd_663 : (Jvm.Cond.lays "SlippedBlocksModel" "SlippedBlocksModel" "token" "I") ∈ TG := tg 663 rfl rfl
set_option maxRecDepth 20000 in
theorem wd_665 : (Jvm.Cond.lays "SlippedBlocksModel" "SlippedBlocksModel" "value" "I") ∈ TG := tg 665 rfl rfl
set_option maxRecDepth 20000 in
theorem wd_667 : (Jvm.Cond.lays "SlippedBlocksModel" "SlippedBlocksModel" "fault" "I") ∈ TG := tg 667 rfl rfl
set_option maxRecDepth 20000 in
theorem wd_669 : (Jvm.Cond.laysFinal "SlippedBlocksModel" "SlippedBlocksModel" "proof" "[I") ∈ TG := tg 669 rfl rfl
set_option maxRecDepth 20000 in
theorem wd_671 : (Jvm.Cond.laysFinal "SlippedBlocksModel" "SlippedBlocksModel" "order" "[I") ∈ TG := tg 671 rfl rfl
set_option maxRecDepth 20000 in
theorem wd_673 : (Jvm.Cond.laysFinal "SlippedBlocksModel" "SlippedBlocksModel" "gives" "[I") ∈ TG := tg 673 rfl rfl
set_option maxRecDepth 20000 in
theorem wd_675 : (Jvm.Cond.laysFinal "SlippedBlocksModel" "SlippedBlocksModel" "makes" "[I") ∈ TG := tg 675 rfl rfl
set_option maxRecDepth 20000 in
theorem wd_677 : (Jvm.Cond.laysFinal "SlippedBlocksModel" "SlippedBlocksModel" "bestOrder" "[I") ∈ TG := tg 677 rfl rfl
set_option maxRecDepth 20000 in
theorem wd_679 : (Jvm.Cond.laysFinal "SlippedBlocksModel" "SlippedBlocksModel" "by" "[I") ∈ TG := tg 679 rfl rfl
set_option maxRecDepth 20000 in
theorem wd_682 : (Jvm.Cond.methodLink "SlippedBlocksLaw" (17 : Nat) ({ cls := "SlippedBlocksModel", name := "type", desc := "(I)I" } : Jvm.MethodName)) ∈ TG := tg 682 rfl rfl
set_option maxRecDepth 20000 in
theorem wd_683 : (Jvm.Cond.instanceMethod ({ cls := "SlippedBlocksModel", name := "type", desc := "(I)I" } : Jvm.MethodName)) ∈ TG := tg 683 rfl rfl
set_option maxRecDepth 20000 in
theorem wd_684 : (Jvm.Cond.selects "SlippedBlocksModel" ({ cls := "SlippedBlocksModel", name := "type", desc := "(I)I" } : Jvm.MethodName) ({ cls := "SlippedBlocksModel", name := "type", desc := "(I)I" } : Jvm.MethodName)) ∈ TG := tg 684 rfl rfl
set_option maxRecDepth 20000 in
theorem wd_685 : (Jvm.Cond.code ({ cls := "SlippedBlocksModel", name := "type", desc := "(I)I" } : Jvm.MethodName) prog_9_method_6_code (2 : Nat) (Option.some Jvm.ClassFile.FieldType.int)) ∈ TG := tg 685 rfl rfl
set_option maxRecDepth 20000 in
theorem wd_686 : (Jvm.Cond.methodLink "SlippedBlocksModel" (57 : Nat) ({ cls := "SlippedBlocksModel", name := "in", desc := "(III)Z" } : Jvm.MethodName)) ∈ TG := tg 686 rfl rfl
set_option maxRecDepth 20000 in
theorem wd_687 : (Jvm.Cond.static ({ cls := "SlippedBlocksModel", name := "in", desc := "(III)Z" } : Jvm.MethodName)) ∈ TG := tg 687 rfl rfl
set_option maxRecDepth 20000 in
theorem wd_688 : (Jvm.Cond.code ({ cls := "SlippedBlocksModel", name := "in", desc := "(III)Z" } : Jvm.MethodName) prog_9_method_3_code (3 : Nat) (Option.some Jvm.ClassFile.FieldType.boolean)) ∈ TG := tg 688 rfl rfl
set_option maxRecDepth 20000 in
theorem wd_689 : (Jvm.Cond.methodLink "SlippedBlocksLaw" (22 : Nat) ({ cls := "SlippedBlocksModel", name := "clear", desc := "()I" } : Jvm.MethodName)) ∈ TG := tg 689 rfl rfl
set_option maxRecDepth 20000 in
theorem wd_690 : (Jvm.Cond.instanceMethod ({ cls := "SlippedBlocksModel", name := "clear", desc := "()I" } : Jvm.MethodName)) ∈ TG := tg 690 rfl rfl
set_option maxRecDepth 20000 in
theorem wd_691 : (Jvm.Cond.selects "SlippedBlocksModel" ({ cls := "SlippedBlocksModel", name := "clear", desc := "()I" } : Jvm.MethodName) ({ cls := "SlippedBlocksModel", name := "clear", desc := "()I" } : Jvm.MethodName)) ∈ TG := tg 691 rfl rfl
set_option maxRecDepth 20000 in
theorem wd_692 : (Jvm.Cond.code ({ cls := "SlippedBlocksModel", name := "clear", desc := "()I" } : Jvm.MethodName) prog_9_method_7_code (2 : Nat) (Option.some Jvm.ClassFile.FieldType.int)) ∈ TG := tg 692 rfl rfl
set_option maxRecDepth 20000 in
theorem wd_693 : (Jvm.Cond.methodLink "SlippedBlocksLaw" (26 : Nat) ({ cls := "SlippedBlocksModel", name := "tells", desc := "()I" } : Jvm.MethodName)) ∈ TG := tg 693 rfl rfl
set_option maxRecDepth 20000 in
theorem wd_694 : (Jvm.Cond.instanceMethod ({ cls := "SlippedBlocksModel", name := "tells", desc := "()I" } : Jvm.MethodName)) ∈ TG := tg 694 rfl rfl
set_option maxRecDepth 20000 in
theorem wd_695 : (Jvm.Cond.selects "SlippedBlocksModel" ({ cls := "SlippedBlocksModel", name := "tells", desc := "()I" } : Jvm.MethodName) ({ cls := "SlippedBlocksModel", name := "tells", desc := "()I" } : Jvm.MethodName)) ∈ TG := tg 695 rfl rfl
set_option maxRecDepth 20000 in
theorem wd_696 : (Jvm.Cond.code ({ cls := "SlippedBlocksModel", name := "tells", desc := "()I" } : Jvm.MethodName) prog_9_method_14_code (3 : Nat) (Option.some Jvm.ClassFile.FieldType.int)) ∈ TG := tg 696 rfl rfl
set_option maxRecDepth 20000 in
theorem wd_697 : (Jvm.Cond.methodLink "SlippedBlocksModel" (98 : Nat) ({ cls := "SlippedBlocksModel", name := "readsText", desc := "()I" } : Jvm.MethodName)) ∈ TG := tg 697 rfl rfl
set_option maxRecDepth 20000 in
theorem wd_699 : (Jvm.Cond.instanceMethod ({ cls := "SlippedBlocksModel", name := "readsText", desc := "()I" } : Jvm.MethodName)) ∈ TG := tg 699 rfl rfl
set_option maxRecDepth 20000 in
theorem wd_700 : (Jvm.Cond.code ({ cls := "SlippedBlocksModel", name := "readsText", desc := "()I" } : Jvm.MethodName) prog_9_method_13_code (3 : Nat) (Option.some Jvm.ClassFile.FieldType.int)) ∈ TG := tg 700 rfl rfl
set_option maxRecDepth 20000 in
theorem wd_701 : (Jvm.Cond.methodLink "SlippedBlocksModel" (84 : Nat) ({ cls := "SlippedBlocksModel", name := "advances", desc := "()V" } : Jvm.MethodName)) ∈ TG := tg 701 rfl rfl
set_option maxRecDepth 20000 in
theorem wd_703 : (Jvm.Cond.instanceMethod ({ cls := "SlippedBlocksModel", name := "advances", desc := "()V" } : Jvm.MethodName)) ∈ TG := tg 703 rfl rfl
set_option maxRecDepth 20000 in
theorem wd_704 : (Jvm.Cond.code ({ cls := "SlippedBlocksModel", name := "advances", desc := "()V" } : Jvm.MethodName) prog_9_method_8_code (1 : Nat) (Option.none : Option Jvm.ClassFile.FieldType)) ∈ TG := tg 704 rfl rfl
set_option maxRecDepth 20000 in
theorem wd_705 : (Jvm.Cond.methodLink "SlippedBlocksModel" (64 : Nat) ({ cls := "SlippedBlocksModel", name := "letterAt", desc := "(I)I" } : Jvm.MethodName)) ∈ TG := tg 705 rfl rfl
set_option maxRecDepth 20000 in
theorem wd_707 : (Jvm.Cond.instanceMethod ({ cls := "SlippedBlocksModel", name := "letterAt", desc := "(I)I" } : Jvm.MethodName)) ∈ TG := tg 707 rfl rfl
set_option maxRecDepth 20000 in
theorem wd_708 : (Jvm.Cond.code ({ cls := "SlippedBlocksModel", name := "letterAt", desc := "(I)I" } : Jvm.MethodName) prog_9_method_5_code (2 : Nat) (Option.some Jvm.ClassFile.FieldType.int)) ∈ TG := tg 708 rfl rfl
set_option maxRecDepth 20000 in
theorem wd_709 : (Jvm.Cond.methodLink "SlippedBlocksModel" (80 : Nat) ({ cls := "SlippedBlocksModel", name := "isWell", desc := "()Z" } : Jvm.MethodName)) ∈ TG := tg 709 rfl rfl
set_option maxRecDepth 20000 in
theorem wd_711 : (Jvm.Cond.instanceMethod ({ cls := "SlippedBlocksModel", name := "isWell", desc := "()Z" } : Jvm.MethodName)) ∈ TG := tg 711 rfl rfl
set_option maxRecDepth 20000 in
theorem wd_712 : (Jvm.Cond.code ({ cls := "SlippedBlocksModel", name := "isWell", desc := "()Z" } : Jvm.MethodName) prog_9_method_9_code (1 : Nat) (Option.some Jvm.ClassFile.FieldType.boolean)) ∈ TG := tg 712 rfl rfl
set_option maxRecDepth 20000 in
theorem wd_713 : (Jvm.Cond.methodLink "SlippedBlocksModel" (91 : Nat) ({ cls := "SlippedBlocksModel", name := "readsRow", desc := "()V" } : Jvm.MethodName)) ∈ TG := tg 713 rfl rfl
set_option maxRecDepth 20000 in
theorem wd_715 : (Jvm.Cond.instanceMethod ({ cls := "SlippedBlocksModel", name := "readsRow", desc := "()V" } : Jvm.MethodName)) ∈ TG := tg 715 rfl rfl
set_option maxRecDepth 20000 in
theorem wd_716 : (Jvm.Cond.code ({ cls := "SlippedBlocksModel", name := "readsRow", desc := "()V" } : Jvm.MethodName) prog_9_method_12_code (4 : Nat) (Option.none : Option Jvm.ClassFile.FieldType)) ∈ TG := tg 716 rfl rfl
set_option maxRecDepth 20000 in
theorem wd_717 : (Jvm.Cond.methodLink "SlippedBlocksModel" (87 : Nat) ({ cls := "SlippedBlocksModel", name := "takes", desc := "(Z)I" } : Jvm.MethodName)) ∈ TG := tg 717 rfl rfl
set_option maxRecDepth 20000 in
theorem wd_719 : (Jvm.Cond.instanceMethod ({ cls := "SlippedBlocksModel", name := "takes", desc := "(Z)I" } : Jvm.MethodName)) ∈ TG := tg 719 rfl rfl
set_option maxRecDepth 20000 in
theorem wd_720 : (Jvm.Cond.code ({ cls := "SlippedBlocksModel", name := "takes", desc := "(Z)I" } : Jvm.MethodName) prog_9_method_10_code (3 : Nat) (Option.some Jvm.ClassFile.FieldType.int)) ∈ TG := tg 720 rfl rfl
set_option maxRecDepth 20000 in
theorem wd_721 : (Jvm.Cond.methodLink "SlippedBlocksModel" (94 : Nat) ({ cls := "SlippedBlocksModel", name := "readsInk", desc := "(Z)V" } : Jvm.MethodName)) ∈ TG := tg 721 rfl rfl
set_option maxRecDepth 20000 in
theorem wd_723 : (Jvm.Cond.instanceMethod ({ cls := "SlippedBlocksModel", name := "readsInk", desc := "(Z)V" } : Jvm.MethodName)) ∈ TG := tg 723 rfl rfl
set_option maxRecDepth 20000 in
theorem wd_724 : (Jvm.Cond.code ({ cls := "SlippedBlocksModel", name := "readsInk", desc := "(Z)V" } : Jvm.MethodName) prog_9_method_11_code (3 : Nat) (Option.none : Option Jvm.ClassFile.FieldType)) ∈ TG := tg 724 rfl rfl
set_option maxRecDepth 20000 in
theorem wd_725 : (Jvm.Cond.methodLink "SlippedBlocksModel" (102 : Nat) ({ cls := "SlippedBlocksModel", name := "notes", desc := "()V" } : Jvm.MethodName)) ∈ TG := tg 725 rfl rfl
set_option maxRecDepth 20000 in
theorem wd_727 : (Jvm.Cond.instanceMethod ({ cls := "SlippedBlocksModel", name := "notes", desc := "()V" } : Jvm.MethodName)) ∈ TG := tg 727 rfl rfl
set_option maxRecDepth 20000 in
theorem wd_728 : (Jvm.Cond.code ({ cls := "SlippedBlocksModel", name := "notes", desc := "()V" } : Jvm.MethodName) prog_9_method_23_code (2 : Nat) (Option.none : Option Jvm.ClassFile.FieldType)) ∈ TG := tg 728 rfl rfl
set_option maxRecDepth 20000 in
theorem wd_729 : (Jvm.Cond.methodLink "SlippedBlocksLaw" (30 : Nat) ({ cls := "SlippedBlocksModel", name := "cuts", desc := "()I" } : Jvm.MethodName)) ∈ TG := tg 729 rfl rfl
set_option maxRecDepth 20000 in
theorem wd_730 : (Jvm.Cond.instanceMethod ({ cls := "SlippedBlocksModel", name := "cuts", desc := "()I" } : Jvm.MethodName)) ∈ TG := tg 730 rfl rfl
set_option maxRecDepth 20000 in
theorem wd_731 : (Jvm.Cond.selects "SlippedBlocksModel" ({ cls := "SlippedBlocksModel", name := "cuts", desc := "()I" } : Jvm.MethodName) ({ cls := "SlippedBlocksModel", name := "cuts", desc := "()I" } : Jvm.MethodName)) ∈ TG := tg 731 rfl rfl
set_option maxRecDepth 20000 in
theorem wd_732 : (Jvm.Cond.code ({ cls := "SlippedBlocksModel", name := "cuts", desc := "()I" } : Jvm.MethodName) prog_9_method_27_code (6 : Nat) (Option.some Jvm.ClassFile.FieldType.int)) ∈ TG := tg 732 rfl rfl
set_option maxRecDepth 20000 in
theorem wd_733 : (Jvm.Cond.methodLink "SlippedBlocksModel" (128 : Nat) ({ cls := "SlippedBlocksModel", name := "asOrdered", desc := "()V" } : Jvm.MethodName)) ∈ TG := tg 733 rfl rfl
set_option maxRecDepth 20000 in
theorem wd_735 : (Jvm.Cond.instanceMethod ({ cls := "SlippedBlocksModel", name := "asOrdered", desc := "()V" } : Jvm.MethodName)) ∈ TG := tg 735 rfl rfl
set_option maxRecDepth 20000 in
theorem wd_736 : (Jvm.Cond.code ({ cls := "SlippedBlocksModel", name := "asOrdered", desc := "()V" } : Jvm.MethodName) prog_9_method_20_code (2 : Nat) (Option.none : Option Jvm.ClassFile.FieldType)) ∈ TG := tg 736 rfl rfl
set_option maxRecDepth 20000 in
theorem wd_737 : (Jvm.Cond.methodLink "SlippedBlocksModel" (131 : Nat) ({ cls := "SlippedBlocksModel", name := "leastSet", desc := "()I" } : Jvm.MethodName)) ∈ TG := tg 737 rfl rfl
set_option maxRecDepth 20000 in
theorem wd_739 : (Jvm.Cond.instanceMethod ({ cls := "SlippedBlocksModel", name := "leastSet", desc := "()I" } : Jvm.MethodName)) ∈ TG := tg 739 rfl rfl
set_option maxRecDepth 20000 in
theorem wd_740 : (Jvm.Cond.code ({ cls := "SlippedBlocksModel", name := "leastSet", desc := "()I" } : Jvm.MethodName) prog_9_method_22_code (5 : Nat) (Option.some Jvm.ClassFile.FieldType.int)) ∈ TG := tg 740 rfl rfl
set_option maxRecDepth 20000 in
theorem wd_741 : (Jvm.Cond.methodLink "SlippedBlocksModel" (116 : Nat) ({ cls := "SlippedBlocksModel", name := "mixes", desc := "()V" } : Jvm.MethodName)) ∈ TG := tg 741 rfl rfl
set_option maxRecDepth 20000 in
theorem wd_743 : (Jvm.Cond.instanceMethod ({ cls := "SlippedBlocksModel", name := "mixes", desc := "()V" } : Jvm.MethodName)) ∈ TG := tg 743 rfl rfl
set_option maxRecDepth 20000 in
theorem wd_744 : (Jvm.Cond.code ({ cls := "SlippedBlocksModel", name := "mixes", desc := "()V" } : Jvm.MethodName) prog_9_method_19_code (4 : Nat) (Option.none : Option Jvm.ClassFile.FieldType)) ∈ TG := tg 744 rfl rfl
set_option maxRecDepth 20000 in
theorem wd_745 : (Jvm.Cond.methodLink "SlippedBlocksModel" (112 : Nat) ({ cls := "SlippedBlocksModel", name := "printed", desc := "(II)I" } : Jvm.MethodName)) ∈ TG := tg 745 rfl rfl
set_option maxRecDepth 20000 in
theorem wd_746 : (Jvm.Cond.static ({ cls := "SlippedBlocksModel", name := "printed", desc := "(II)I" } : Jvm.MethodName)) ∈ TG := tg 746 rfl rfl
set_option maxRecDepth 20000 in
theorem wd_747 : (Jvm.Cond.code ({ cls := "SlippedBlocksModel", name := "printed", desc := "(II)I" } : Jvm.MethodName) prog_9_method_15_code (2 : Nat) (Option.some Jvm.ClassFile.FieldType.int)) ∈ TG := tg 747 rfl rfl
set_option maxRecDepth 20000 in
theorem wd_748 : (Jvm.Cond.methodLink "SlippedBlocksModel" (119 : Nat) ({ cls := "SlippedBlocksModel", name := "wanted", desc := "()I" } : Jvm.MethodName)) ∈ TG := tg 748 rfl rfl
set_option maxRecDepth 20000 in
theorem wd_750 : (Jvm.Cond.instanceMethod ({ cls := "SlippedBlocksModel", name := "wanted", desc := "()I" } : Jvm.MethodName)) ∈ TG := tg 750 rfl rfl
set_option maxRecDepth 20000 in
theorem wd_751 : (Jvm.Cond.code ({ cls := "SlippedBlocksModel", name := "wanted", desc := "()I" } : Jvm.MethodName) prog_9_method_21_code (4 : Nat) (Option.some Jvm.ClassFile.FieldType.int)) ∈ TG := tg 751 rfl rfl
set_option maxRecDepth 20000 in
theorem wd_752 : (Jvm.Cond.methodLink "SlippedBlocksModel" (122 : Nat) ({ cls := "SlippedBlocksModel", name := "ones", desc := "(I)I" } : Jvm.MethodName)) ∈ TG := tg 752 rfl rfl
set_option maxRecDepth 20000 in
theorem wd_753 : (Jvm.Cond.static ({ cls := "SlippedBlocksModel", name := "ones", desc := "(I)I" } : Jvm.MethodName)) ∈ TG := tg 753 rfl rfl
set_option maxRecDepth 20000 in
theorem wd_754 : (Jvm.Cond.code ({ cls := "SlippedBlocksModel", name := "ones", desc := "(I)I" } : Jvm.MethodName) prog_9_method_4_code (3 : Nat) (Option.some Jvm.ClassFile.FieldType.int)) ∈ TG := tg 754 rfl rfl
set_option maxRecDepth 20000 in
theorem wd_755 : (Jvm.Cond.methodLink "SlippedBlocksModel" (134 : Nat) ({ cls := "SlippedBlocksModel", name := "partOf", desc := "(II)I" } : Jvm.MethodName)) ∈ TG := tg 755 rfl rfl
set_option maxRecDepth 20000 in
theorem wd_757 : (Jvm.Cond.instanceMethod ({ cls := "SlippedBlocksModel", name := "partOf", desc := "(II)I" } : Jvm.MethodName)) ∈ TG := tg 757 rfl rfl
set_option maxRecDepth 20000 in
theorem wd_758 : (Jvm.Cond.code ({ cls := "SlippedBlocksModel", name := "partOf", desc := "(II)I" } : Jvm.MethodName) prog_9_method_26_code (4 : Nat) (Option.some Jvm.ClassFile.FieldType.int)) ∈ TG := tg 758 rfl rfl
set_option maxRecDepth 20000 in
theorem wd_759 : (Jvm.Cond.methodLink "SlippedBlocksLaw" (35 : Nat) ({ cls := "SlippedBlocksModel", name := "carves", desc := "(III)I" } : Jvm.MethodName)) ∈ TG := tg 759 rfl rfl
set_option maxRecDepth 20000 in
theorem wd_760 : (Jvm.Cond.instanceMethod ({ cls := "SlippedBlocksModel", name := "carves", desc := "(III)I" } : Jvm.MethodName)) ∈ TG := tg 760 rfl rfl
set_option maxRecDepth 20000 in
theorem wd_761 : (Jvm.Cond.selects "SlippedBlocksModel" ({ cls := "SlippedBlocksModel", name := "carves", desc := "(III)I" } : Jvm.MethodName) ({ cls := "SlippedBlocksModel", name := "carves", desc := "(III)I" } : Jvm.MethodName)) ∈ TG := tg 761 rfl rfl
set_option maxRecDepth 20000 in
theorem wd_762 : (Jvm.Cond.code ({ cls := "SlippedBlocksModel", name := "carves", desc := "(III)I" } : Jvm.MethodName) prog_9_method_28_code (4 : Nat) (Option.some Jvm.ClassFile.FieldType.int)) ∈ TG := tg 762 rfl rfl
set_option maxRecDepth 20000 in
theorem wd_763 : (Jvm.Cond.methodLink "SlippedBlocksModel" (137 : Nat) ({ cls := "SlippedBlocksModel", name := "isInk", desc := "(I)Z" } : Jvm.MethodName)) ∈ TG := tg 763 rfl rfl
set_option maxRecDepth 20000 in
theorem wd_765 : (Jvm.Cond.instanceMethod ({ cls := "SlippedBlocksModel", name := "isInk", desc := "(I)Z" } : Jvm.MethodName)) ∈ TG := tg 765 rfl rfl
set_option maxRecDepth 20000 in
theorem wd_766 : (Jvm.Cond.code ({ cls := "SlippedBlocksModel", name := "isInk", desc := "(I)Z" } : Jvm.MethodName) prog_9_method_24_code (2 : Nat) (Option.some Jvm.ClassFile.FieldType.boolean)) ∈ TG := tg 766 rfl rfl
set_option maxRecDepth 20000 in
theorem wd_767 : (Jvm.Cond.methodLink "SlippedBlocksModel" (141 : Nat) ({ cls := "SlippedBlocksModel", name := "isCell", desc := "(II)Z" } : Jvm.MethodName)) ∈ TG := tg 767 rfl rfl
set_option maxRecDepth 20000 in
theorem wd_769 : (Jvm.Cond.instanceMethod ({ cls := "SlippedBlocksModel", name := "isCell", desc := "(II)Z" } : Jvm.MethodName)) ∈ TG := tg 769 rfl rfl
set_option maxRecDepth 20000 in
theorem wd_770 : (Jvm.Cond.code ({ cls := "SlippedBlocksModel", name := "isCell", desc := "(II)Z" } : Jvm.MethodName) prog_9_method_25_code (3 : Nat) (Option.some Jvm.ClassFile.FieldType.boolean)) ∈ TG := tg 770 rfl rfl
set_option maxRecDepth 20000 in
theorem wd_771 : (Jvm.Cond.methodLink "SlippedBlocksLaw" (39 : Nat) ({ cls := "SlippedBlocksModel", name := "slips", desc := "(III)I" } : Jvm.MethodName)) ∈ TG := tg 771 rfl rfl
set_option maxRecDepth 20000 in
theorem wd_772 : (Jvm.Cond.instanceMethod ({ cls := "SlippedBlocksModel", name := "slips", desc := "(III)I" } : Jvm.MethodName)) ∈ TG := tg 772 rfl rfl
set_option maxRecDepth 20000 in
theorem wd_773 : (Jvm.Cond.selects "SlippedBlocksModel" ({ cls := "SlippedBlocksModel", name := "slips", desc := "(III)I" } : Jvm.MethodName) ({ cls := "SlippedBlocksModel", name := "slips", desc := "(III)I" } : Jvm.MethodName)) ∈ TG := tg 773 rfl rfl
set_option maxRecDepth 20000 in
theorem wd_774 : (Jvm.Cond.code ({ cls := "SlippedBlocksModel", name := "slips", desc := "(III)I" } : Jvm.MethodName) prog_9_method_29_code (4 : Nat) (Option.some Jvm.ClassFile.FieldType.int)) ∈ TG := tg 774 rfl rfl
set_option maxRecDepth 20000 in
theorem wd_775 : (Jvm.Cond.methodLink "SlippedBlocksLaw" (44 : Nat) ({ cls := "SlippedBlocksModel", name := "swaps", desc := "(II)I" } : Jvm.MethodName)) ∈ TG := tg 775 rfl rfl
set_option maxRecDepth 20000 in
theorem wd_776 : (Jvm.Cond.instanceMethod ({ cls := "SlippedBlocksModel", name := "swaps", desc := "(II)I" } : Jvm.MethodName)) ∈ TG := tg 776 rfl rfl
set_option maxRecDepth 20000 in
theorem wd_777 : (Jvm.Cond.selects "SlippedBlocksModel" ({ cls := "SlippedBlocksModel", name := "swaps", desc := "(II)I" } : Jvm.MethodName) ({ cls := "SlippedBlocksModel", name := "swaps", desc := "(II)I" } : Jvm.MethodName)) ∈ TG := tg 777 rfl rfl
set_option maxRecDepth 20000 in
theorem wd_778 : (Jvm.Cond.code ({ cls := "SlippedBlocksModel", name := "swaps", desc := "(II)I" } : Jvm.MethodName) prog_9_method_31_code (5 : Nat) (Option.some Jvm.ClassFile.FieldType.int)) ∈ TG := tg 778 rfl rfl
set_option maxRecDepth 20000 in
theorem wd_779 : (Jvm.Cond.methodLink "SlippedBlocksModel" (145 : Nat) ({ cls := "SlippedBlocksModel", name := "placeOf", desc := "(I)I" } : Jvm.MethodName)) ∈ TG := tg 779 rfl rfl
set_option maxRecDepth 20000 in
theorem wd_781 : (Jvm.Cond.instanceMethod ({ cls := "SlippedBlocksModel", name := "placeOf", desc := "(I)I" } : Jvm.MethodName)) ∈ TG := tg 781 rfl rfl
set_option maxRecDepth 20000 in
theorem wd_782 : (Jvm.Cond.code ({ cls := "SlippedBlocksModel", name := "placeOf", desc := "(I)I" } : Jvm.MethodName) prog_9_method_30_code (3 : Nat) (Option.some Jvm.ClassFile.FieldType.int)) ∈ TG := tg 782 rfl rfl
set_option maxRecDepth 20000 in
theorem wd_783 : (Jvm.Cond.methodLink "SlippedBlocksModel" (148 : Nat) ({ cls := "SlippedBlocksModel", name := "proves", desc := "(III)V" } : Jvm.MethodName)) ∈ TG := tg 783 rfl rfl
set_option maxRecDepth 20000 in
theorem wd_785 : (Jvm.Cond.instanceMethod ({ cls := "SlippedBlocksModel", name := "proves", desc := "(III)V" } : Jvm.MethodName)) ∈ TG := tg 785 rfl rfl
set_option maxRecDepth 20000 in
theorem wd_786 : (Jvm.Cond.code ({ cls := "SlippedBlocksModel", name := "proves", desc := "(III)V" } : Jvm.MethodName) prog_9_method_16_code (6 : Nat) (Option.none : Option Jvm.ClassFile.FieldType)) ∈ TG := tg 786 rfl rfl
set_option maxRecDepth 20000 in
theorem wd_787 : (Jvm.Cond.methodLink "SlippedBlocksModel" (108 : Nat) ({ cls := "SlippedBlocksModel", name := "prints", desc := "(III)V" } : Jvm.MethodName)) ∈ TG := tg 787 rfl rfl
set_option maxRecDepth 20000 in
theorem wd_789 : (Jvm.Cond.instanceMethod ({ cls := "SlippedBlocksModel", name := "prints", desc := "(III)V" } : Jvm.MethodName)) ∈ TG := tg 789 rfl rfl
set_option maxRecDepth 20000 in
theorem wd_790 : (Jvm.Cond.code ({ cls := "SlippedBlocksModel", name := "prints", desc := "(III)V" } : Jvm.MethodName) prog_9_method_17_code (8 : Nat) (Option.none : Option Jvm.ClassFile.FieldType)) ∈ TG := tg 790 rfl rfl
set_option maxRecDepth 20000 in
theorem wd_791 : (Jvm.Cond.methodLink "SlippedBlocksModel" (151 : Nat) ({ cls := "SlippedBlocksModel", name := "wrongCells", desc := "()I" } : Jvm.MethodName)) ∈ TG := tg 791 rfl rfl
set_option maxRecDepth 20000 in
theorem wd_793 : (Jvm.Cond.instanceMethod ({ cls := "SlippedBlocksModel", name := "wrongCells", desc := "()I" } : Jvm.MethodName)) ∈ TG := tg 793 rfl rfl
set_option maxRecDepth 20000 in
theorem wd_794 : (Jvm.Cond.code ({ cls := "SlippedBlocksModel", name := "wrongCells", desc := "()I" } : Jvm.MethodName) prog_9_method_18_code (4 : Nat) (Option.some Jvm.ClassFile.FieldType.int)) ∈ TG := tg 794 rfl rfl
set_option maxRecDepth 20000 in
theorem wd_795 : (Jvm.Cond.methodLink "SlippedBlocksLaw" (48 : Nat) ({ cls := "SlippedBlocksModel", name := "undo", desc := "()I" } : Jvm.MethodName)) ∈ TG := tg 795 rfl rfl
set_option maxRecDepth 20000 in
theorem wd_796 : (Jvm.Cond.instanceMethod ({ cls := "SlippedBlocksModel", name := "undo", desc := "()I" } : Jvm.MethodName)) ∈ TG := tg 796 rfl rfl
set_option maxRecDepth 20000 in
theorem wd_797 : (Jvm.Cond.selects "SlippedBlocksModel" ({ cls := "SlippedBlocksModel", name := "undo", desc := "()I" } : Jvm.MethodName) ({ cls := "SlippedBlocksModel", name := "undo", desc := "()I" } : Jvm.MethodName)) ∈ TG := tg 797 rfl rfl
set_option maxRecDepth 20000 in
theorem wd_798 : (Jvm.Cond.code ({ cls := "SlippedBlocksModel", name := "undo", desc := "()I" } : Jvm.MethodName) prog_9_method_32_code (2 : Nat) (Option.some Jvm.ClassFile.FieldType.int)) ∈ TG := tg 798 rfl rfl
set_option maxRecDepth 20000 in
theorem wd_799 : (Jvm.Cond.methodLink "SlippedBlocksLaw" (52 : Nat) ({ cls := "SlippedBlocksModel", name := "cell", desc := "(III)I" } : Jvm.MethodName)) ∈ TG := tg 799 rfl rfl
set_option maxRecDepth 20000 in
theorem wd_800 : (Jvm.Cond.instanceMethod ({ cls := "SlippedBlocksModel", name := "cell", desc := "(III)I" } : Jvm.MethodName)) ∈ TG := tg 800 rfl rfl
set_option maxRecDepth 20000 in
theorem wd_801 : (Jvm.Cond.selects "SlippedBlocksModel" ({ cls := "SlippedBlocksModel", name := "cell", desc := "(III)I" } : Jvm.MethodName) ({ cls := "SlippedBlocksModel", name := "cell", desc := "(III)I" } : Jvm.MethodName)) ∈ TG := tg 801 rfl rfl
set_option maxRecDepth 20000 in
theorem wd_802 : (Jvm.Cond.code ({ cls := "SlippedBlocksModel", name := "cell", desc := "(III)I" } : Jvm.MethodName) prog_9_method_33_code (6 : Nat) (Option.some Jvm.ClassFile.FieldType.int)) ∈ TG := tg 802 rfl rfl
set_option maxRecDepth 20000 in
theorem wd_803 : (Jvm.Cond.methodLink "SlippedBlocksLaw" (56 : Nat) ({ cls := "SlippedBlocksModel", name := "ink", desc := "(II)I" } : Jvm.MethodName)) ∈ TG := tg 803 rfl rfl
set_option maxRecDepth 20000 in
theorem wd_804 : (Jvm.Cond.instanceMethod ({ cls := "SlippedBlocksModel", name := "ink", desc := "(II)I" } : Jvm.MethodName)) ∈ TG := tg 804 rfl rfl
set_option maxRecDepth 20000 in
theorem wd_805 : (Jvm.Cond.selects "SlippedBlocksModel" ({ cls := "SlippedBlocksModel", name := "ink", desc := "(II)I" } : Jvm.MethodName) ({ cls := "SlippedBlocksModel", name := "ink", desc := "(II)I" } : Jvm.MethodName)) ∈ TG := tg 805 rfl rfl
set_option maxRecDepth 20000 in
theorem wd_806 : (Jvm.Cond.code ({ cls := "SlippedBlocksModel", name := "ink", desc := "(II)I" } : Jvm.MethodName) prog_9_method_35_code (3 : Nat) (Option.some Jvm.ClassFile.FieldType.int)) ∈ TG := tg 806 rfl rfl
set_option maxRecDepth 20000 in
theorem wd_807 : (Jvm.Cond.constant "SlippedBlocksModel" (154 : Nat) (-1000000 : Int32)) ∈ TG := tg 807 rfl rfl
set_option maxRecDepth 20000 in
theorem wd_808 : (Jvm.Cond.methodLink "SlippedBlocksModel" (155 : Nat) ({ cls := "SlippedBlocksModel", name := "cellsOf", desc := "(I)I" } : Jvm.MethodName)) ∈ TG := tg 808 rfl rfl
set_option maxRecDepth 20000 in
theorem wd_810 : (Jvm.Cond.instanceMethod ({ cls := "SlippedBlocksModel", name := "cellsOf", desc := "(I)I" } : Jvm.MethodName)) ∈ TG := tg 810 rfl rfl
set_option maxRecDepth 20000 in
theorem wd_811 : (Jvm.Cond.code ({ cls := "SlippedBlocksModel", name := "cellsOf", desc := "(I)I" } : Jvm.MethodName) prog_9_method_34_code (4 : Nat) (Option.some Jvm.ClassFile.FieldType.int)) ∈ TG := tg 811 rfl rfl
set_option maxRecDepth 20000 in
theorem wd_812 : (Jvm.Cond.methodLink "SlippedBlocksLaw" (60 : Nat) ({ cls := "SlippedBlocksModel", name := "made", desc := "(I)I" } : Jvm.MethodName)) ∈ TG := tg 812 rfl rfl
set_option maxRecDepth 20000 in
theorem wd_813 : (Jvm.Cond.instanceMethod ({ cls := "SlippedBlocksModel", name := "made", desc := "(I)I" } : Jvm.MethodName)) ∈ TG := tg 813 rfl rfl
set_option maxRecDepth 20000 in
theorem wd_814 : (Jvm.Cond.selects "SlippedBlocksModel" ({ cls := "SlippedBlocksModel", name := "made", desc := "(I)I" } : Jvm.MethodName) ({ cls := "SlippedBlocksModel", name := "made", desc := "(I)I" } : Jvm.MethodName)) ∈ TG := tg 814 rfl rfl
set_option maxRecDepth 20000 in
theorem wd_815 : (Jvm.Cond.code ({ cls := "SlippedBlocksModel", name := "made", desc := "(I)I" } : Jvm.MethodName) prog_9_method_36_code (2 : Nat) (Option.some Jvm.ClassFile.FieldType.int)) ∈ TG := tg 815 rfl rfl
set_option maxRecDepth 20000 in
theorem wd_816 : (Jvm.Cond.methodLink "SlippedBlocksLaw" (64 : Nat) ({ cls := "SlippedBlocksModel", name := "least", desc := "(I)I" } : Jvm.MethodName)) ∈ TG := tg 816 rfl rfl
set_option maxRecDepth 20000 in
theorem wd_817 : (Jvm.Cond.instanceMethod ({ cls := "SlippedBlocksModel", name := "least", desc := "(I)I" } : Jvm.MethodName)) ∈ TG := tg 817 rfl rfl
set_option maxRecDepth 20000 in
theorem wd_818 : (Jvm.Cond.selects "SlippedBlocksModel" ({ cls := "SlippedBlocksModel", name := "least", desc := "(I)I" } : Jvm.MethodName) ({ cls := "SlippedBlocksModel", name := "least", desc := "(I)I" } : Jvm.MethodName)) ∈ TG := tg 818 rfl rfl
set_option maxRecDepth 20000 in
theorem wd_819 : (Jvm.Cond.code ({ cls := "SlippedBlocksModel", name := "least", desc := "(I)I" } : Jvm.MethodName) prog_9_method_37_code (3 : Nat) (Option.some Jvm.ClassFile.FieldType.int)) ∈ TG := tg 819 rfl rfl
set_option maxRecDepth 20000 in
theorem wd_820 : (Jvm.Cond.methodLink "SlippedBlocksLaw" (68 : Nat) ({ cls := "SlippedBlocksModel", name := "order", desc := "(I)I" } : Jvm.MethodName)) ∈ TG := tg 820 rfl rfl
set_option maxRecDepth 20000 in
theorem wd_821 : (Jvm.Cond.instanceMethod ({ cls := "SlippedBlocksModel", name := "order", desc := "(I)I" } : Jvm.MethodName)) ∈ TG := tg 821 rfl rfl
set_option maxRecDepth 20000 in
theorem wd_822 : (Jvm.Cond.selects "SlippedBlocksModel" ({ cls := "SlippedBlocksModel", name := "order", desc := "(I)I" } : Jvm.MethodName) ({ cls := "SlippedBlocksModel", name := "order", desc := "(I)I" } : Jvm.MethodName)) ∈ TG := tg 822 rfl rfl
set_option maxRecDepth 20000 in
theorem wd_823 : (Jvm.Cond.code ({ cls := "SlippedBlocksModel", name := "order", desc := "(I)I" } : Jvm.MethodName) prog_9_method_41_code (3 : Nat) (Option.some Jvm.ClassFile.FieldType.int)) ∈ TG := tg 823 rfl rfl
set_option maxRecDepth 20000 in
theorem wd_824 : (Jvm.Cond.methodLink "SlippedBlocksModel" (165 : Nat) ({ cls := "SlippedBlocksModel", name := "fewestByOrder", desc := "()I" } : Jvm.MethodName)) ∈ TG := tg 824 rfl rfl
set_option maxRecDepth 20000 in
theorem wd_826 : (Jvm.Cond.instanceMethod ({ cls := "SlippedBlocksModel", name := "fewestByOrder", desc := "()I" } : Jvm.MethodName)) ∈ TG := tg 826 rfl rfl
set_option maxRecDepth 20000 in
theorem wd_827 : (Jvm.Cond.code ({ cls := "SlippedBlocksModel", name := "fewestByOrder", desc := "()I" } : Jvm.MethodName) prog_9_method_40_code (5 : Nat) (Option.some Jvm.ClassFile.FieldType.int)) ∈ TG := tg 827 rfl rfl
set_option maxRecDepth 20000 in
theorem wd_828 : (Jvm.Cond.methodLink "SlippedBlocksModel" (162 : Nat) ({ cls := "SlippedBlocksModel", name := "goesOn", desc := "()Z" } : Jvm.MethodName)) ∈ TG := tg 828 rfl rfl
set_option maxRecDepth 20000 in
theorem wd_830 : (Jvm.Cond.instanceMethod ({ cls := "SlippedBlocksModel", name := "goesOn", desc := "()Z" } : Jvm.MethodName)) ∈ TG := tg 830 rfl rfl
set_option maxRecDepth 20000 in
theorem wd_831 : (Jvm.Cond.code ({ cls := "SlippedBlocksModel", name := "goesOn", desc := "()Z" } : Jvm.MethodName) prog_9_method_38_code (4 : Nat) (Option.some Jvm.ClassFile.FieldType.boolean)) ∈ TG := tg 831 rfl rfl
set_option maxRecDepth 20000 in
theorem wd_832 : (Jvm.Cond.methodLink "SlippedBlocksModel" (158 : Nat) ({ cls := "SlippedBlocksModel", name := "exchanges", desc := "(II)V" } : Jvm.MethodName)) ∈ TG := tg 832 rfl rfl
set_option maxRecDepth 20000 in
theorem wd_834 : (Jvm.Cond.instanceMethod ({ cls := "SlippedBlocksModel", name := "exchanges", desc := "(II)V" } : Jvm.MethodName)) ∈ TG := tg 834 rfl rfl
set_option maxRecDepth 20000 in
theorem wd_835 : (Jvm.Cond.code ({ cls := "SlippedBlocksModel", name := "exchanges", desc := "(II)V" } : Jvm.MethodName) prog_9_method_39_code (4 : Nat) (Option.none : Option Jvm.ClassFile.FieldType)) ∈ TG := tg 835 rfl rfl
set_option maxRecDepth 20000 in
theorem wd_836 : (Jvm.Cond.methodLink "SlippedBlocksLaw" (72 : Nat) ({ cls := "SlippedBlocksModel", name := "wrong", desc := "()I" } : Jvm.MethodName)) ∈ TG := tg 836 rfl rfl
set_option maxRecDepth 20000 in
theorem wd_837 : (Jvm.Cond.instanceMethod ({ cls := "SlippedBlocksModel", name := "wrong", desc := "()I" } : Jvm.MethodName)) ∈ TG := tg 837 rfl rfl
set_option maxRecDepth 20000 in
theorem wd_838 : (Jvm.Cond.selects "SlippedBlocksModel" ({ cls := "SlippedBlocksModel", name := "wrong", desc := "()I" } : Jvm.MethodName) ({ cls := "SlippedBlocksModel", name := "wrong", desc := "()I" } : Jvm.MethodName)) ∈ TG := tg 838 rfl rfl
set_option maxRecDepth 20000 in
theorem wd_839 : (Jvm.Cond.code ({ cls := "SlippedBlocksModel", name := "wrong", desc := "()I" } : Jvm.MethodName) prog_9_method_42_code (1 : Nat) (Option.some Jvm.ClassFile.FieldType.int)) ∈ TG := tg 839 rfl rfl
set_option maxRecDepth 20000 in
theorem wd_840 : (Jvm.Cond.methodLink "SlippedBlocksLaw" (76 : Nat) ({ cls := "SlippedBlocksModel", name := "hurt", desc := "(I)I" } : Jvm.MethodName)) ∈ TG := tg 840 rfl rfl
set_option maxRecDepth 20000 in
theorem wd_841 : (Jvm.Cond.instanceMethod ({ cls := "SlippedBlocksModel", name := "hurt", desc := "(I)I" } : Jvm.MethodName)) ∈ TG := tg 841 rfl rfl
set_option maxRecDepth 20000 in
theorem wd_842 : (Jvm.Cond.selects "SlippedBlocksModel" ({ cls := "SlippedBlocksModel", name := "hurt", desc := "(I)I" } : Jvm.MethodName) ({ cls := "SlippedBlocksModel", name := "hurt", desc := "(I)I" } : Jvm.MethodName)) ∈ TG := tg 842 rfl rfl
set_option maxRecDepth 20000 in
theorem wd_843 : (Jvm.Cond.code ({ cls := "SlippedBlocksModel", name := "hurt", desc := "(I)I" } : Jvm.MethodName) prog_9_method_43_code (3 : Nat) (Option.some Jvm.ClassFile.FieldType.int)) ∈ TG := tg 843 rfl rfl
set_option maxRecDepth 20000 in
theorem wd_844 : (Jvm.Cond.methodLink "SlippedBlocksLaw" (80 : Nat) ({ cls := "SlippedBlocksModel", name := "sees", desc := "(III)I" } : Jvm.MethodName)) ∈ TG := tg 844 rfl rfl
set_option maxRecDepth 20000 in
theorem wd_845 : (Jvm.Cond.instanceMethod ({ cls := "SlippedBlocksModel", name := "sees", desc := "(III)I" } : Jvm.MethodName)) ∈ TG := tg 845 rfl rfl
set_option maxRecDepth 20000 in
theorem wd_846 : (Jvm.Cond.selects "SlippedBlocksModel" ({ cls := "SlippedBlocksModel", name := "sees", desc := "(III)I" } : Jvm.MethodName) ({ cls := "SlippedBlocksModel", name := "sees", desc := "(III)I" } : Jvm.MethodName)) ∈ TG := tg 846 rfl rfl
set_option maxRecDepth 20000 in
theorem wd_847 : (Jvm.Cond.code ({ cls := "SlippedBlocksModel", name := "sees", desc := "(III)I" } : Jvm.MethodName) prog_9_method_44_code (4 : Nat) (Option.some Jvm.ClassFile.FieldType.int)) ∈ TG := tg 847 rfl rfl
set_option maxRecDepth 20000 in
theorem wd_848 : (Jvm.Cond.methodLink "SlippedBlocksLaw" (84 : Nat) ({ cls := "SlippedBlocksModel", name := "forget", desc := "()I" } : Jvm.MethodName)) ∈ TG := tg 848 rfl rfl
set_option maxRecDepth 20000 in
theorem wd_849 : (Jvm.Cond.instanceMethod ({ cls := "SlippedBlocksModel", name := "forget", desc := "()I" } : Jvm.MethodName)) ∈ TG := tg 849 rfl rfl
set_option maxRecDepth 20000 in
theorem wd_850 : (Jvm.Cond.selects "SlippedBlocksModel" ({ cls := "SlippedBlocksModel", name := "forget", desc := "()I" } : Jvm.MethodName) ({ cls := "SlippedBlocksModel", name := "forget", desc := "()I" } : Jvm.MethodName)) ∈ TG := tg 850 rfl rfl
set_option maxRecDepth 20000 in
theorem wd_851 : (Jvm.Cond.code ({ cls := "SlippedBlocksModel", name := "forget", desc := "()I" } : Jvm.MethodName) prog_9_method_45_code (2 : Nat) (Option.some Jvm.ClassFile.FieldType.int)) ∈ TG := tg 851 rfl rfl
set_option maxRecDepth 20000 in
theorem wd_852 : (Jvm.Cond.methodLink "SlippedBlocksLaw" (88 : Nat) ({ cls := "SlippedBlocksModel", name := "which", desc := "(I)I" } : Jvm.MethodName)) ∈ TG := tg 852 rfl rfl
set_option maxRecDepth 20000 in
theorem wd_853 : (Jvm.Cond.instanceMethod ({ cls := "SlippedBlocksModel", name := "which", desc := "(I)I" } : Jvm.MethodName)) ∈ TG := tg 853 rfl rfl
set_option maxRecDepth 20000 in
theorem wd_854 : (Jvm.Cond.selects "SlippedBlocksModel" ({ cls := "SlippedBlocksModel", name := "which", desc := "(I)I" } : Jvm.MethodName) ({ cls := "SlippedBlocksModel", name := "which", desc := "(I)I" } : Jvm.MethodName)) ∈ TG := tg 854 rfl rfl
set_option maxRecDepth 20000 in
theorem wd_855 : (Jvm.Cond.code ({ cls := "SlippedBlocksModel", name := "which", desc := "(I)I" } : Jvm.MethodName) prog_9_method_48_code (5 : Nat) (Option.some Jvm.ClassFile.FieldType.int)) ∈ TG := tg 855 rfl rfl
set_option maxRecDepth 20000 in
theorem wd_856 : (Jvm.Cond.constant "SlippedBlocksModel" (168 : Nat) (-2000000 : Int32)) ∈ TG := tg 856 rfl rfl
set_option maxRecDepth 20000 in
theorem wd_857 : (Jvm.Cond.methodLink "SlippedBlocksModel" (169 : Nat) ({ cls := "SlippedBlocksModel", name := "tries", desc := "(I)Z" } : Jvm.MethodName)) ∈ TG := tg 857 rfl rfl
set_option maxRecDepth 20000 in
theorem wd_859 : (Jvm.Cond.instanceMethod ({ cls := "SlippedBlocksModel", name := "tries", desc := "(I)Z" } : Jvm.MethodName)) ∈ TG := tg 859 rfl rfl
set_option maxRecDepth 20000 in
theorem wd_860 : (Jvm.Cond.code ({ cls := "SlippedBlocksModel", name := "tries", desc := "(I)Z" } : Jvm.MethodName) prog_9_method_46_code (5 : Nat) (Option.some Jvm.ClassFile.FieldType.boolean)) ∈ TG := tg 860 rfl rfl
set_option maxRecDepth 20000 in
theorem wd_861 : (Jvm.Cond.methodLink "SlippedBlocksModel" (172 : Nat) ({ cls := "SlippedBlocksModel", name := "isSeen", desc := "()Z" } : Jvm.MethodName)) ∈ TG := tg 861 rfl rfl
set_option maxRecDepth 20000 in
theorem wd_863 : (Jvm.Cond.instanceMethod ({ cls := "SlippedBlocksModel", name := "isSeen", desc := "()Z" } : Jvm.MethodName)) ∈ TG := tg 863 rfl rfl
set_option maxRecDepth 20000 in
theorem wd_864 : (Jvm.Cond.code ({ cls := "SlippedBlocksModel", name := "isSeen", desc := "()Z" } : Jvm.MethodName) prog_9_method_47_code (5 : Nat) (Option.some Jvm.ClassFile.FieldType.boolean)) ∈ TG := tg 864 rfl rfl
set_option maxRecDepth 20000 in
theorem wd_865 : (Jvm.Cond.methodLink "SlippedBlocksLaw" (92 : Nat) ({ cls := "SlippedBlocksModel", name := "ask", desc := "()I" } : Jvm.MethodName)) ∈ TG := tg 865 rfl rfl
set_option maxRecDepth 20000 in
theorem wd_866 : (Jvm.Cond.instanceMethod ({ cls := "SlippedBlocksModel", name := "ask", desc := "()I" } : Jvm.MethodName)) ∈ TG := tg 866 rfl rfl
set_option maxRecDepth 20000 in
theorem wd_867 : (Jvm.Cond.selects "SlippedBlocksModel" ({ cls := "SlippedBlocksModel", name := "ask", desc := "()I" } : Jvm.MethodName) ({ cls := "SlippedBlocksModel", name := "ask", desc := "()I" } : Jvm.MethodName)) ∈ TG := tg 867 rfl rfl
set_option maxRecDepth 20000 in
theorem wd_868 : (Jvm.Cond.code ({ cls := "SlippedBlocksModel", name := "ask", desc := "()I" } : Jvm.MethodName) prog_9_method_49_code (7 : Nat) (Option.some Jvm.ClassFile.FieldType.int)) ∈ TG := tg 868 rfl rfl
set_option maxRecDepth 20000 in
theorem wd_869 : (Jvm.Cond.methodLink "SlippedBlocksLaw" (96 : Nat) ({ cls := "SlippedBlocksModel", name := "keep", desc := "(I)I" } : Jvm.MethodName)) ∈ TG := tg 869 rfl rfl
set_option maxRecDepth 20000 in
theorem wd_870 : (Jvm.Cond.instanceMethod ({ cls := "SlippedBlocksModel", name := "keep", desc := "(I)I" } : Jvm.MethodName)) ∈ TG := tg 870 rfl rfl
set_option maxRecDepth 20000 in
theorem wd_871 : (Jvm.Cond.selects "SlippedBlocksModel" ({ cls := "SlippedBlocksModel", name := "keep", desc := "(I)I" } : Jvm.MethodName) ({ cls := "SlippedBlocksModel", name := "keep", desc := "(I)I" } : Jvm.MethodName)) ∈ TG := tg 871 rfl rfl
set_option maxRecDepth 20000 in
theorem wd_872 : (Jvm.Cond.code ({ cls := "SlippedBlocksModel", name := "keep", desc := "(I)I" } : Jvm.MethodName) prog_9_method_50_code (3 : Nat) (Option.some Jvm.ClassFile.FieldType.int)) ∈ TG := tg 872 rfl rfl
set_option maxRecDepth 20000 in
theorem wd_873 : (Jvm.Cond.methodLink "SlippedBlocksLaw" (100 : Nat) ({ cls := "SlippedBlocksModel", name := "back", desc := "(I)I" } : Jvm.MethodName)) ∈ TG := tg 873 rfl rfl
set_option maxRecDepth 20000 in
theorem wd_874 : (Jvm.Cond.instanceMethod ({ cls := "SlippedBlocksModel", name := "back", desc := "(I)I" } : Jvm.MethodName)) ∈ TG := tg 874 rfl rfl
set_option maxRecDepth 20000 in
theorem wd_875 : (Jvm.Cond.selects "SlippedBlocksModel" ({ cls := "SlippedBlocksModel", name := "back", desc := "(I)I" } : Jvm.MethodName) ({ cls := "SlippedBlocksModel", name := "back", desc := "(I)I" } : Jvm.MethodName)) ∈ TG := tg 875 rfl rfl
set_option maxRecDepth 20000 in
theorem wd_876 : (Jvm.Cond.code ({ cls := "SlippedBlocksModel", name := "back", desc := "(I)I" } : Jvm.MethodName) prog_9_method_51_code (3 : Nat) (Option.some Jvm.ClassFile.FieldType.int)) ∈ TG := tg 876 rfl rfl
set_option maxRecDepth 20000 in
theorem wd_877 : (Jvm.Cond.methodLink "SlippedBlocksLaw" (104 : Nat) ({ cls := "SlippedBlocksModel", name := "count", desc := "(I)I" } : Jvm.MethodName)) ∈ TG := tg 877 rfl rfl
set_option maxRecDepth 20000 in
theorem wd_878 : (Jvm.Cond.instanceMethod ({ cls := "SlippedBlocksModel", name := "count", desc := "(I)I" } : Jvm.MethodName)) ∈ TG := tg 878 rfl rfl
set_option maxRecDepth 20000 in
theorem wd_879 : (Jvm.Cond.selects "SlippedBlocksModel" ({ cls := "SlippedBlocksModel", name := "count", desc := "(I)I" } : Jvm.MethodName) ({ cls := "SlippedBlocksModel", name := "count", desc := "(I)I" } : Jvm.MethodName)) ∈ TG := tg 879 rfl rfl
set_option maxRecDepth 20000 in
theorem wd_880 : (Jvm.Cond.code ({ cls := "SlippedBlocksModel", name := "count", desc := "(I)I" } : Jvm.MethodName) prog_9_method_54_code (2 : Nat) (Option.some Jvm.ClassFile.FieldType.int)) ∈ TG := tg 880 rfl rfl
set_option maxRecDepth 20000 in
theorem wd_881 : (Jvm.Cond.methodLink "SlippedBlocksModel" (175 : Nat) ({ cls := "SlippedBlocksModel", name := "cellsOfAll", desc := "()I" } : Jvm.MethodName)) ∈ TG := tg 881 rfl rfl
set_option maxRecDepth 20000 in
theorem wd_883 : (Jvm.Cond.instanceMethod ({ cls := "SlippedBlocksModel", name := "cellsOfAll", desc := "()I" } : Jvm.MethodName)) ∈ TG := tg 883 rfl rfl
set_option maxRecDepth 20000 in
theorem wd_884 : (Jvm.Cond.code ({ cls := "SlippedBlocksModel", name := "cellsOfAll", desc := "()I" } : Jvm.MethodName) prog_9_method_52_code (3 : Nat) (Option.some Jvm.ClassFile.FieldType.int)) ∈ TG := tg 884 rfl rfl
set_option maxRecDepth 20000 in
theorem wd_885 : (Jvm.Cond.methodLink "SlippedBlocksModel" (178 : Nat) ({ cls := "SlippedBlocksModel", name := "slipped", desc := "()I" } : Jvm.MethodName)) ∈ TG := tg 885 rfl rfl
set_option maxRecDepth 20000 in
theorem wd_887 : (Jvm.Cond.instanceMethod ({ cls := "SlippedBlocksModel", name := "slipped", desc := "()I" } : Jvm.MethodName)) ∈ TG := tg 887 rfl rfl
set_option maxRecDepth 20000 in
theorem wd_888 : (Jvm.Cond.code ({ cls := "SlippedBlocksModel", name := "slipped", desc := "()I" } : Jvm.MethodName) prog_9_method_53_code (3 : Nat) (Option.some Jvm.ClassFile.FieldType.int)) ∈ TG := tg 888 rfl rfl
theorem fwX0 : ∀ w ∈ u_ws RX0 TX0 3, w ∈ TG := by
  intro w h
  obtain ⟨k, hk, rfl⟩ := List.mem_map.mp h
  have hk := List.mem_range.mp hk
  match k, hk with
  | 0, _ => exact wd_163
  | 1, _ => exact wd_165
  | 2, _ => exact wd_167
  | _ + 3, hk => exact absurd hk (by omega)
theorem fwX1 : ∀ w ∈ u_ws RX1 TX1 5, w ∈ TG := by
  intro w h
  obtain ⟨k, hk, rfl⟩ := List.mem_map.mp h
  have hk := List.mem_range.mp hk
  match k, hk with
  | 0, _ => exact wd_212
  | 1, _ => exact wd_214
  | 2, _ => exact wd_216
  | 3, _ => exact wd_218
  | 4, _ => exact wd_220
  | _ + 5, hk => exact absurd hk (by omega)
theorem fwX2 : ∀ w ∈ u_ws RX2 TX2 3, w ∈ TG := by
  intro w h
  obtain ⟨k, hk, rfl⟩ := List.mem_map.mp h
  have hk := List.mem_range.mp hk
  match k, hk with
  | 0, _ => exact wd_76
  | 1, _ => exact wd_78
  | 2, _ => exact wd_80
  | _ + 3, hk => exact absurd hk (by omega)
theorem fwX3 : ∀ w ∈ u_ws RX3 TX3 6, w ∈ TG := by
  intro w h
  obtain ⟨k, hk, rfl⟩ := List.mem_map.mp h
  have hk := List.mem_range.mp hk
  match k, hk with
  | 0, _ => exact wd_185
  | 1, _ => exact wd_187
  | 2, _ => exact wd_189
  | 3, _ => exact wd_191
  | 4, _ => exact wd_193
  | 5, _ => exact wd_195
  | _ + 6, hk => exact absurd hk (by omega)
theorem fwX4 : ∀ w ∈ u_ws RX4 TX4 4, w ∈ TG := by
  intro w h
  obtain ⟨k, hk, rfl⟩ := List.mem_map.mp h
  have hk := List.mem_range.mp hk
  match k, hk with
  | 0, _ => exact wd_140
  | 1, _ => exact wd_142
  | 2, _ => exact wd_144
  | 3, _ => exact wd_146
  | _ + 4, hk => exact absurd hk (by omega)
theorem fwX5 : ∀ w ∈ u_ws RX5 TX5 9, w ∈ TG := by
  intro w h
  obtain ⟨k, hk, rfl⟩ := List.mem_map.mp h
  have hk := List.mem_range.mp hk
  match k, hk with
  | 0, _ => exact wd_108
  | 1, _ => exact wd_110
  | 2, _ => exact wd_112
  | 3, _ => exact wd_114
  | 4, _ => exact wd_116
  | 5, _ => exact wd_118
  | 6, _ => exact wd_120
  | 7, _ => exact wd_122
  | 8, _ => exact wd_124
  | _ + 9, hk => exact absurd hk (by omega)
theorem fwX6 : ∀ w ∈ u_ws RX6 TX6 9, w ∈ TG := by
  intro w h
  obtain ⟨k, hk, rfl⟩ := List.mem_map.mp h
  have hk := List.mem_range.mp hk
  match k, hk with
  | 0, _ => exact wd_234
  | 1, _ => exact wd_236
  | 2, _ => exact wd_238
  | 3, _ => exact wd_240
  | 4, _ => exact wd_242
  | 5, _ => exact wd_244
  | 6, _ => exact wd_246
  | 7, _ => exact wd_248
  | 8, _ => exact wd_250
  | _ + 9, hk => exact absurd hk (by omega)
theorem fwX7 : ∀ w ∈ u_ws RX7 TX7 22, w ∈ TG := by
  intro w h
  obtain ⟨k, hk, rfl⟩ := List.mem_map.mp h
  have hk := List.mem_range.mp hk
  match k, hk with
  | 0, _ => exact wd_637
  | 1, _ => exact wd_639
  | 2, _ => exact wd_641
  | 3, _ => exact wd_643
  | 4, _ => exact wd_645
  | 5, _ => exact wd_647
  | 6, _ => exact wd_649
  | 7, _ => exact wd_651
  | 8, _ => exact wd_653
  | 9, _ => exact wd_655
  | 10, _ => exact wd_657
  | 11, _ => exact wd_659
  | 12, _ => exact wd_661
  | 13, _ => exact wd_663
  | 14, _ => exact wd_665
  | 15, _ => exact wd_667
  | 16, _ => exact wd_669
  | 17, _ => exact wd_671
  | 18, _ => exact wd_673
  | 19, _ => exact wd_675
  | 20, _ => exact wd_677
  | 21, _ => exact wd_679
  | _ + 22, hk => exact absurd hk (by omega)
