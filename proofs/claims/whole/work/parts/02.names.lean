def RX0 : String := "MergeGrid$Area"
def TX0 : u_T := fun k => match k with
  | 0 => ("MergeGrid$Area", "top", "I", false)
  | 1 => ("MergeGrid$Area", "left", "I", false)
  | 2 => ("MergeGrid$Area", "bottom", "I", false)
  | _ => ("MergeGrid$Area", "right", "I", false)
def tyX0 : Nat → FieldType := fun k => match k with
  | 0 => .int
  | 1 => .int
  | 2 => .int
  | _ => .int
abbrev wsX00 : List Cond := u_ws RX0 TX0 4
theorem nmX0 : ∀ a, a < 4 → ∀ b, b < 4 → a ≠ b → (TX0 a).2.1 ≠ (TX0 b).2.1 := by decide +kernel
theorem tyX0_ok : ∀ k, k < 4 → parseFieldDescriptor (TX0 k).2.2.1 = some (tyX0 k) := by decide +kernel
def RX1 : String := "MergeGrid$Block"
def TX1 : u_T := fun k => match k with
  | 0 => ("MergeGrid$Block", "rows", "I", false)
  | 1 => ("MergeGrid$Block", "columns", "I", false)
  | _ => ("MergeGrid$Block", "cells", "LMergeGrid$CellList;", true)
def tyX1 : Nat → FieldType := fun k => match k with
  | 0 => .int
  | 1 => .int
  | _ => .object "MergeGrid$CellList"
abbrev wsX10 : List Cond := u_ws RX1 TX1 3
theorem nmX1 : ∀ a, a < 3 → ∀ b, b < 3 → a ≠ b → (TX1 a).2.1 ≠ (TX1 b).2.1 := by decide +kernel
theorem tyX1_ok : ∀ k, k < 3 → parseFieldDescriptor (TX1 k).2.2.1 = some (tyX1 k) := by decide +kernel
def RX2 : String := "MergeGrid$Cell"
def TX2 : u_T := fun k => match k with
  | 0 => ("MergeGrid$Cell", "top", "I", false)
  | 1 => ("MergeGrid$Cell", "left", "I", false)
  | 2 => ("MergeGrid$Cell", "rows", "I", false)
  | 3 => ("MergeGrid$Cell", "columns", "I", false)
  | 4 => ("MergeGrid$Cell", "content", "I", false)
  | _ => ("MergeGrid$Cell", "style", "I", false)
def tyX2 : Nat → FieldType := fun k => match k with
  | 0 => .int
  | 1 => .int
  | 2 => .int
  | 3 => .int
  | 4 => .int
  | _ => .int
abbrev wsX20 : List Cond := u_ws RX2 TX2 6
theorem nmX2 : ∀ a, a < 6 → ∀ b, b < 6 → a ≠ b → (TX2 a).2.1 ≠ (TX2 b).2.1 := by decide +kernel
theorem tyX2_ok : ∀ k, k < 6 → parseFieldDescriptor (TX2 k).2.2.1 = some (tyX2 k) := by decide +kernel
def RX3 : String := "MergeGrid$CellList"
def TX3 : u_T := fun k => match k with
  | 0 => ("MergeGrid$CellList", "size", "I", false)
  | 1 => ("MergeGrid$CellList", "cells", "[LMergeGrid$Cell;", true)
  | _ => ("MergeGrid$CellList", "nowhere", "LMergeGrid$Cell;", true)
def tyX3 : Nat → FieldType := fun k => match k with
  | 0 => .int
  | 1 => .array (.object "MergeGrid$Cell")
  | _ => .object "MergeGrid$Cell"
abbrev wsX30 : List Cond := u_ws RX3 TX3 3
theorem nmX3 : ∀ a, a < 3 → ∀ b, b < 3 → a ≠ b → (TX3 a).2.1 ≠ (TX3 b).2.1 := by decide +kernel
theorem tyX3_ok : ∀ k, k < 3 → parseFieldDescriptor (TX3 k).2.2.1 = some (tyX3 k) := by decide +kernel
def RX4 : String := "MergeGrid$Table"
def TX4 : u_T := fun k => match k with
  | 0 => ("MergeGrid$Table", "rows", "I", false)
  | 1 => ("MergeGrid$Table", "columns", "I", false)
  | 2 => ("MergeGrid$Table", "header", "I", false)
  | 3 => ("MergeGrid$Table", "heights", "[I", true)
  | 4 => ("MergeGrid$Table", "widths", "[I", true)
  | 5 => ("MergeGrid$Table", "cells", "LMergeGrid$CellList;", true)
  | 6 => ("MergeGrid$Table", "owners", "[I", true)
  | 7 => ("MergeGrid$Table", "places", "[I", true)
  | _ => ("MergeGrid$Table", "oldHeights", "[I", true)
def tyX4 : Nat → FieldType := fun k => match k with
  | 0 => .int
  | 1 => .int
  | 2 => .int
  | 3 => .array .int
  | 4 => .array .int
  | 5 => .object "MergeGrid$CellList"
  | 6 => .array .int
  | 7 => .array .int
  | _ => .array .int
abbrev wsX40 : List Cond := u_ws RX4 TX4 9
theorem nmX4 : ∀ a, a < 9 → ∀ b, b < 9 → a ≠ b → (TX4 a).2.1 ≠ (TX4 b).2.1 := by decide +kernel
theorem tyX4_ok : ∀ k, k < 9 → parseFieldDescriptor (TX4 k).2.2.1 = some (tyX4 k) := by decide +kernel
def RX5 : String := "MergeGrid"
def TX5 : u_T := fun k => match k with
  | 0 => ("MergeGrid", "now", "LMergeGrid$Table;", false)
  | 1 => ("MergeGrid", "before", "LMergeGrid$Table;", false)
  | 2 => ("MergeGrid", "hasChange", "Z", false)
  | 3 => ("MergeGrid", "selection", "LMergeGrid$Area;", true)
  | 4 => ("MergeGrid", "sketch", "LMergeGrid$Area;", true)
  | _ => ("MergeGrid", "block", "LMergeGrid$Block;", true)
def tyX5 : Nat → FieldType := fun k => match k with
  | 0 => .object "MergeGrid$Table"
  | 1 => .object "MergeGrid$Table"
  | 2 => .boolean
  | 3 => .object "MergeGrid$Area"
  | 4 => .object "MergeGrid$Area"
  | _ => .object "MergeGrid$Block"
abbrev wsX50 : List Cond := u_ws RX5 TX5 6
theorem nmX5 : ∀ a, a < 6 → ∀ b, b < 6 → a ≠ b → (TX5 a).2.1 ≠ (TX5 b).2.1 := by decide +kernel
theorem tyX5_ok : ∀ k, k < 6 → parseFieldDescriptor (TX5 k).2.2.1 = some (tyX5 k) := by decide +kernel
def RX6 : String := "MergeGridModel"
def TX6 : u_T := fun k => match k with
  | 0 => ("MergeGridModel", "thrown", "I", false)
  | 1 => ("MergeGridModel", "rows", "I", false)
  | 2 => ("MergeGridModel", "cols", "I", false)
  | 3 => ("MergeGridModel", "head", "I", false)
  | 4 => ("MergeGridModel", "many", "I", false)
  | 5 => ("MergeGridModel", "ids", "[I", true)
  | 6 => ("MergeGridModel", "contents", "[I", true)
  | 7 => ("MergeGridModel", "styles", "[I", true)
  | 8 => ("MergeGridModel", "widths", "[I", true)
  | 9 => ("MergeGridModel", "heights", "[I", true)
  | 10 => ("MergeGridModel", "isChanged", "Z", false)
  | 11 => ("MergeGridModel", "oldRows", "I", false)
  | 12 => ("MergeGridModel", "oldCols", "I", false)
  | 13 => ("MergeGridModel", "oldHead", "I", false)
  | 14 => ("MergeGridModel", "oldIds", "[I", true)
  | 15 => ("MergeGridModel", "oldContents", "[I", true)
  | 16 => ("MergeGridModel", "oldStyles", "[I", true)
  | 17 => ("MergeGridModel", "oldWidths", "[I", true)
  | 18 => ("MergeGridModel", "oldHeights", "[I", true)
  | 19 => ("MergeGridModel", "aside", "[I", true)
  | 20 => ("MergeGridModel", "map", "[I", true)
  | 21 => ("MergeGridModel", "top", "I", false)
  | 22 => ("MergeGridModel", "bottom", "I", false)
  | 23 => ("MergeGridModel", "left", "I", false)
  | 24 => ("MergeGridModel", "right", "I", false)
  | 25 => ("MergeGridModel", "copyRows", "I", false)
  | 26 => ("MergeGridModel", "copyCols", "I", false)
  | 27 => ("MergeGridModel", "copyMany", "I", false)
  | 28 => ("MergeGridModel", "copyIds", "[I", true)
  | 29 => ("MergeGridModel", "copyContents", "[I", true)
  | 30 => ("MergeGridModel", "copyStyles", "[I", true)
  | 31 => ("MergeGridModel", "moved", "[I", true)
  | 32 => ("MergeGridModel", "from", "I", false)
  | 33 => ("MergeGridModel", "to", "I", false)
  | 34 => ("MergeGridModel", "first", "I", false)
  | 35 => ("MergeGridModel", "last", "I", false)
  | _ => ("MergeGridModel", "was", "[I", true)
def tyX6 : Nat → FieldType := fun k => match k with
  | 0 => .int
  | 1 => .int
  | 2 => .int
  | 3 => .int
  | 4 => .int
  | 5 => .array .int
  | 6 => .array .int
  | 7 => .array .int
  | 8 => .array .int
  | 9 => .array .int
  | 10 => .boolean
  | 11 => .int
  | 12 => .int
  | 13 => .int
  | 14 => .array .int
  | 15 => .array .int
  | 16 => .array .int
  | 17 => .array .int
  | 18 => .array .int
  | 19 => .array .int
  | 20 => .array .int
  | 21 => .int
  | 22 => .int
  | 23 => .int
  | 24 => .int
  | 25 => .int
  | 26 => .int
  | 27 => .int
  | 28 => .array .int
  | 29 => .array .int
  | 30 => .array .int
  | 31 => .array .int
  | 32 => .int
  | 33 => .int
  | 34 => .int
  | 35 => .int
  | _ => .array .int
abbrev wsX60 : List Cond := u_ws RX6 TX6 37
theorem nmX6 : ∀ a, a < 37 → ∀ b, b < 37 → a ≠ b → (TX6 a).2.1 ≠ (TX6 b).2.1 := by decide +kernel
theorem tyX6_ok : ∀ k, k < 37 → parseFieldDescriptor (TX6 k).2.2.1 = some (tyX6 k) := by decide +kernel
/-- the own classes, by number: 1 Area, 2 Block, 3 Cell, 4 CellList, 5 Table, 6 MergeGrid, 7 the reference; 8 Arrays, 9 the law -/
def mg_R : Nat → String := fun k => match k with
  | 1 => RX0
  | 2 => RX1
  | 3 => RX2
  | 4 => RX3
  | 5 => RX4
  | 6 => RX5
  | 7 => RX6
  | 8 => "java/util/Arrays"
  | _ => "MergeGridLaw"
def mg_F : Nat → u_T := fun k => match k with
  | 1 => TX0
  | 2 => TX1
  | 3 => TX2
  | 4 => TX3
  | 5 => TX4
  | 6 => TX5
  | _ => TX6
def mg_ty : Nat → Nat → FieldType := fun k => match k with
  | 1 => tyX0
  | 2 => tyX1
  | 3 => tyX2
  | 4 => tyX3
  | 5 => tyX4
  | 6 => tyX5
  | _ => tyX6
def mg_N : Nat → Nat := fun k => match k with
  | 1 => 4
  | 2 => 3
  | 3 => 6
  | 4 => 3
  | 5 => 9
  | 6 => 6
  | _ => 37
abbrev mg_cl : List vw_C := [(RX0, TX0, 4), (RX1, TX1, 3), (RX2, TX2, 6), (RX3, TX3, 3), (RX4, TX4, 9), (RX5, TX5, 6), (RX6, TX6, 37)]
/-- the tables' words that stay -/
def mg_T : List Cond := lw_tbl.filter goodWord
/-- a method: its name, code, locals, what it answers, handlers, (depth, cells, arguments with the receiver, the receiver's class or 0) -/
abbrev mg_Q : Type := MethodName × ByteArray × Nat × Option FieldType × List (Nat × Nat × Nat × Nat) × (Nat × Nat × Nat × Nat)
def mg_mt0 : List mg_Q := [(⟨"MergeGrid$Cell", "<init>", "()V"⟩, prog_4_method_1_code, 1, none, [], (2, 0, 1, 103)),
  (⟨"MergeGrid$Cell", "lie", "(IIII)V"⟩, prog_4_method_2_code, 5, none, [], (0, 0, 5, 3)),
  (⟨"MergeGrid$Cell", "fill", "(II)V"⟩, prog_4_method_3_code, 3, none, [], (0, 0, 3, 3)),
  (⟨"MergeGrid$Cell", "become", "(LMergeGrid$Cell;)V"⟩, prog_4_method_4_code, 2, none, [], (1, 0, 2, 3)),
  (⟨"MergeGrid$Cell", "bottom", "()I"⟩, prog_4_method_5_code, 1, (some .int), [], (0, 0, 1, 3)),
  (⟨"MergeGrid$Cell", "right", "()I"⟩, prog_4_method_6_code, 1, (some .int), [], (0, 0, 1, 3)),
  (⟨"MergeGrid$Cell", "isWithin", "(LMergeGrid$Area;)Z"⟩, prog_4_method_7_code, 2, (some .boolean), [], (1, 0, 2, 3)),
  (⟨"MergeGrid$Cell", "meets", "(LMergeGrid$Area;)Z"⟩, prog_4_method_8_code, 2, (some .boolean), [], (1, 0, 2, 3)),
  (⟨"MergeGrid$Cell", "isAcross", "(I)Z"⟩, prog_4_method_9_code, 2, (some .boolean), [], (1, 0, 2, 3)),
  (⟨"MergeGrid$Cell", "makeRoomForRow", "(I)V"⟩, prog_4_method_10_code, 2, none, [], (1, 0, 2, 3)),
  (⟨"MergeGrid$Cell", "makeRoomForColumn", "(I)V"⟩, prog_4_method_11_code, 2, none, [], (1, 0, 2, 3)),
  (⟨"MergeGrid$Cell", "loseRow", "(I)V"⟩, prog_4_method_12_code, 2, none, [], (1, 0, 2, 3)),
  (⟨"MergeGrid$Cell", "loseColumn", "(I)V"⟩, prog_4_method_13_code, 2, none, [], (1, 0, 2, 3)),
  (⟨"MergeGrid$Area", "<init>", "()V"⟩, prog_2_method_1_code, 1, none, [], (2, 0, 1, 101)),
  (⟨"MergeGrid$Area", "span", "(IIII)V"⟩, prog_2_method_2_code, 5, none, [], (2, 0, 5, 1)),
  (⟨"MergeGrid$Area", "squares", "()I"⟩, prog_2_method_3_code, 1, (some .int), [], (0, 0, 1, 1)),
  (⟨"MergeGrid$Area", "takeIn", "(LMergeGrid$Cell;)V"⟩, prog_2_method_4_code, 2, none, [], (2, 0, 2, 1)),
  (⟨"MergeGrid$CellList", "<init>", "()V"⟩, prog_5_method_1_code, 2, none, [], (3, 125, 1, 104)),
  (⟨"MergeGrid$CellList", "get", "(I)LMergeGrid$Cell;"⟩, prog_5_method_2_code, 2, (some (.object "MergeGrid$Cell")), [], (0, 0, 2, 4)),
  (⟨"MergeGrid$CellList", "add", "(IIII)LMergeGrid$Cell;"⟩, prog_5_method_3_code, 6, (some (.object "MergeGrid$Cell")), [], (1, 0, 5, 4)),
  (⟨"MergeGrid$CellList", "remove", "(I)V"⟩, prog_5_method_4_code, 3, none, [], (0, 0, 2, 4)),
  (⟨"MergeGrid$CellList", "removeIn", "(LMergeGrid$Area;)V"⟩, prog_5_method_5_code, 3, none, [], (2, 0, 2, 4)),
  (⟨"MergeGrid$CellList", "removeVanished", "()V"⟩, prog_5_method_6_code, 2, none, [], (1, 0, 1, 4)),
  (⟨"MergeGrid$CellList", "become", "(LMergeGrid$CellList;)V"⟩, prog_5_method_7_code, 3, none, [], (2, 0, 2, 4)),
  (⟨"MergeGrid$CellList", "countIn", "(LMergeGrid$Area;)I"⟩, prog_5_method_8_code, 4, (some .int), [], (2, 0, 2, 4)),
  (⟨"MergeGrid$CellList", "filledIn", "(LMergeGrid$Area;)I"⟩, prog_5_method_9_code, 4, (some .int), [], (2, 0, 2, 4)),
  (⟨"MergeGrid$CellList", "sumIn", "(LMergeGrid$Area;)I"⟩, prog_5_method_10_code, 4, (some .int), [], (2, 0, 2, 4)),
  (⟨"MergeGrid$CellList", "emptyIn", "(LMergeGrid$Area;)V"⟩, prog_5_method_11_code, 3, none, [], (2, 0, 2, 4)),
  (⟨"MergeGrid$CellList", "paint", "(LMergeGrid$Area;I)I"⟩, prog_5_method_12_code, 6, (some .int), [], (2, 0, 3, 4)),
  (⟨"MergeGrid$CellList", "isCut", "(LMergeGrid$Area;)Z"⟩, prog_5_method_13_code, 3, (some .boolean), [], (2, 0, 2, 4))]
def mg_mt1 : List mg_Q := [(⟨"MergeGrid$CellList", "isAcross", "(I)Z"⟩, prog_5_method_14_code, 3, (some .boolean), [], (2, 0, 2, 4)),
  (⟨"MergeGrid$CellList", "hasTall", "(II)Z"⟩, prog_5_method_15_code, 5, (some .boolean), [], (1, 0, 3, 4)),
  (⟨"MergeGrid$CellList", "mergedSquares", "()I"⟩, prog_5_method_16_code, 4, (some .int), [], (1, 0, 1, 4)),
  (⟨"MergeGrid$Block", "<init>", "()V"⟩, prog_3_method_1_code, 1, none, [], (4, 126, 1, 102)),
  (⟨"MergeGrid$Block", "isNothing", "()Z"⟩, prog_3_method_2_code, 1, (some .boolean), [], (0, 0, 1, 2)),
  (⟨"MergeGrid$Block", "take", "(LMergeGrid$CellList;LMergeGrid$Area;)V"⟩, prog_3_method_3_code, 5, none, [], (2, 0, 3, 2)),
  (⟨"MergeGrid$Block", "isAcross", "(III)Z"⟩, prog_3_method_4_code, 5, (some .boolean), [], (3, 0, 4, 2)),
  (⟨"MergeGrid$Table", "<init>", "()V"⟩, prog_6_method_1_code, 1, none, [], (4, 135, 1, 105)),
  (⟨"MergeGrid$Table", "hasRow", "(I)Z"⟩, prog_6_method_2_code, 2, (some .boolean), [], (0, 0, 2, 5)),
  (⟨"MergeGrid$Table", "hasColumn", "(I)Z"⟩, prog_6_method_3_code, 2, (some .boolean), [], (0, 0, 2, 5)),
  (⟨"MergeGrid$Table", "isInHeader", "(I)Z"⟩, prog_6_method_4_code, 2, (some .boolean), [], (0, 0, 2, 5)),
  (⟨"MergeGrid$Table", "become", "(LMergeGrid$Table;)V"⟩, prog_6_method_5_code, 2, none, [], (3, 0, 2, 5)),
  (⟨"MergeGrid$Table", "ownerOf", "(II)I"⟩, prog_6_method_6_code, 3, (some .int), [], (1, 0, 3, 5)),
  (⟨"MergeGrid$Table", "setOwner", "(III)V"⟩, prog_6_method_7_code, 4, none, [], (1, 0, 4, 5)),
  (⟨"MergeGrid$Table", "cellOn", "(II)LMergeGrid$Cell;"⟩, prog_6_method_8_code, 3, (some (.object "MergeGrid$Cell")), [], (2, 0, 3, 5)),
  (⟨"MergeGrid$Table", "settle", "()V"⟩, prog_6_method_9_code, 3, none, [], (3, 0, 1, 5)),
  (⟨"MergeGrid$Table", "own", "(I)V"⟩, prog_6_method_10_code, 5, none, [], (2, 0, 2, 5)),
  (⟨"MergeGrid$Table", "addRow", "(I)V"⟩, prog_6_method_11_code, 3, none, [], (4, 0, 2, 5)),
  (⟨"MergeGrid$Table", "addColumn", "(I)V"⟩, prog_6_method_12_code, 3, none, [], (4, 0, 2, 5)),
  (⟨"MergeGrid$Table", "dropRow", "(I)V"⟩, prog_6_method_13_code, 3, none, [], (4, 0, 2, 5)),
  (⟨"MergeGrid$Table", "dropColumn", "(I)V"⟩, prog_6_method_14_code, 3, none, [], (4, 0, 2, 5)),
  (⟨"MergeGrid$Table", "insertSize", "([III)V"⟩, prog_6_method_15_code, 4, none, [], (0, 0, 3, 0)),
  (⟨"MergeGrid$Table", "removeSize", "([II)V"⟩, prog_6_method_16_code, 3, none, [], (2, 0, 2, 0)),
  (⟨"MergeGrid$Table", "planMove", "(II)V"⟩, prog_6_method_17_code, 4, none, [], (0, 0, 3, 5)),
  (⟨"MergeGrid$Table", "planSort", "(IZ)V"⟩, prog_6_method_18_code, 5, none, [], (4, 0, 3, 5)),
  (⟨"MergeGrid$Table", "rowsSortedBefore", "(IIZ)I"⟩, prog_6_method_19_code, 9, (some .int), [], (3, 0, 4, 5)),
  (⟨"MergeGrid$Table", "placeOf", "(I)I"⟩, prog_6_method_20_code, 2, (some .int), [], (1, 0, 2, 5)),
  (⟨"MergeGrid$Table", "movedRows", "()I"⟩, prog_6_method_21_code, 3, (some .int), [], (2, 0, 1, 5)),
  (⟨"MergeGrid$Table", "renumberRows", "()V"⟩, prog_6_method_22_code, 3, none, [], (4, 0, 1, 5)),
  (⟨"MergeGrid$Table", "growByCells", "(LMergeGrid$Area;)V"⟩, prog_6_method_23_code, 4, none, [], (4, 0, 2, 5))]
def mg_mt2 : List mg_Q := [(⟨"MergeGrid$Table", "takeInCells", "(LMergeGrid$Area;)V"⟩, prog_6_method_24_code, 3, none, [], (3, 0, 2, 5)),
  (⟨"MergeGrid$Table", "growByBorders", "(LMergeGrid$Area;)V"⟩, prog_6_method_25_code, 4, none, [], (4, 0, 2, 5)),
  (⟨"MergeGrid$Table", "takeInBorders", "(LMergeGrid$Area;)V"⟩, prog_6_method_26_code, 7, none, [], (3, 0, 2, 5)),
  (⟨"MergeGrid$Table", "join", "(LMergeGrid$Area;)V"⟩, prog_6_method_27_code, 6, none, [], (4, 0, 2, 5)),
  (⟨"MergeGrid$Table", "part", "(LMergeGrid$Cell;II)V"⟩, prog_6_method_28_code, 9, none, [], (4, 0, 4, 5)),
  (⟨"MergeGrid$Table", "put", "(LMergeGrid$Block;LMergeGrid$Area;II)V"⟩, prog_6_method_29_code, 7, none, [], (4, 0, 5, 5)),
  (⟨"MergeGrid$Table", "putOne", "(LMergeGrid$CellList;II)V"⟩, prog_6_method_30_code, 6, none, [], (2, 0, 4, 5)),
  (⟨"MergeGrid$Table", "isCoveredOnce", "()Z"⟩, prog_6_method_31_code, 3, (some .boolean), [], (3, 0, 1, 5)),
  (⟨"MergeGrid$Table", "ownsItsSquares", "(I)Z"⟩, prog_6_method_32_code, 5, (some .boolean), [], (2, 0, 2, 5)),
  (⟨"java/util/Arrays", "fill", "([II)V"⟩, prog_22_method_103_code, 4, none, [], (0, 0, 2, 0)),
  (⟨"MergeGrid", "<init>", "()V"⟩, prog_1_method_1_code, 1, none, [], (5, 420, 1, 106)),
  (⟨"MergeGrid", "rows", "()I"⟩, prog_1_method_2_code, 1, (some .int), [], (0, 0, 1, 6)),
  (⟨"MergeGrid", "columns", "()I"⟩, prog_1_method_3_code, 1, (some .int), [], (0, 0, 1, 6)),
  (⟨"MergeGrid", "cellCount", "()I"⟩, prog_1_method_4_code, 1, (some .int), [], (0, 0, 1, 6)),
  (⟨"MergeGrid", "cellsBySquares", "()I"⟩, prog_1_method_5_code, 5, (some .int), [], (3, 0, 1, 6)),
  (⟨"MergeGrid", "insertRow", "(I)I"⟩, prog_1_method_6_code, 2, (some .int), [], (6, 1, 2, 6)),
  (⟨"MergeGrid", "insertColumn", "(I)I"⟩, prog_1_method_7_code, 2, (some .int), [], (6, 1, 2, 6)),
  (⟨"MergeGrid", "deleteRow", "(I)I"⟩, prog_1_method_8_code, 2, (some .int), [], (7, 2, 2, 6)),
  (⟨"MergeGrid", "deleteColumn", "(I)I"⟩, prog_1_method_9_code, 2, (some .int), [], (7, 2, 2, 6)),
  (⟨"MergeGrid", "moveRow", "(II)I"⟩, prog_1_method_10_code, 3, (some .int), [], (7, 3, 3, 6)),
  (⟨"MergeGrid", "topOf", "(II)I"⟩, prog_1_method_11_code, 3, (some .int), [], (8, 2, 3, 6)),
  (⟨"MergeGrid", "leftOf", "(II)I"⟩, prog_1_method_12_code, 3, (some .int), [], (8, 2, 3, 6)),
  (⟨"MergeGrid", "rowsOf", "(II)I"⟩, prog_1_method_13_code, 3, (some .int), [], (8, 2, 3, 6)),
  (⟨"MergeGrid", "columnsOf", "(II)I"⟩, prog_1_method_14_code, 3, (some .int), [], (8, 2, 3, 6)),
  (⟨"MergeGrid", "contentAt", "(II)I"⟩, prog_1_method_15_code, 3, (some .int), [], (8, 2, 3, 6)),
  (⟨"MergeGrid", "styleAt", "(II)I"⟩, prog_1_method_16_code, 3, (some .int), [], (8, 2, 3, 6)),
  (⟨"MergeGrid", "setContent", "(III)I"⟩, prog_1_method_17_code, 6, (some .int), [], (8, 3, 4, 6)),
  (⟨"MergeGrid", "setStyle", "(I)I"⟩, prog_1_method_18_code, 2, (some .int), [], (6, 1, 2, 6)),
  (⟨"MergeGrid", "select", "(IIII)I"⟩, prog_1_method_19_code, 5, (some .int), [], (8, 4, 5, 6)),
  (⟨"MergeGrid", "selected", "(C)I"⟩, prog_1_method_20_code, 2, (some .int), [], (6, 1, 2, 6))]
def mg_mt3 : List mg_Q := [(⟨"MergeGrid", "selectedCells", "()I"⟩, prog_1_method_21_code, 1, (some .int), [], (3, 0, 1, 6)),
  (⟨"MergeGrid", "squaresFor", "(IIII)I"⟩, prog_1_method_22_code, 5, (some .int), [], (8, 4, 5, 6)),
  (⟨"MergeGrid", "merge", "()I"⟩, prog_1_method_23_code, 2, (some .int), [], (6, 1, 1, 6)),
  (⟨"MergeGrid", "split", "(IIC)I"⟩, prog_1_method_24_code, 7, (some .int), [], (8, 3, 4, 6)),
  (⟨"MergeGrid", "clear", "()I"⟩, prog_1_method_25_code, 2, (some .int), [], (6, 1, 1, 6)),
  (⟨"MergeGrid", "copy", "()I"⟩, prog_1_method_26_code, 1, (some .int), [], (3, 0, 1, 6)),
  (⟨"MergeGrid", "paste", "(IIII)I"⟩, prog_1_method_27_code, 5, (some .int), [], (8, 3, 5, 6)),
  (⟨"MergeGrid", "setHeader", "(I)I"⟩, prog_1_method_28_code, 2, (some .int), [], (6, 1, 2, 6)),
  (⟨"MergeGrid", "header", "()I"⟩, prog_1_method_29_code, 1, (some .int), [], (0, 0, 1, 6)),
  (⟨"MergeGrid", "sort", "(IZ)I"⟩, prog_1_method_30_code, 3, (some .int), [], (7, 2, 3, 6)),
  (⟨"MergeGrid", "widthOf", "(I)I"⟩, prog_1_method_31_code, 2, (some .int), [], (7, 1, 2, 6)),
  (⟨"MergeGrid", "heightOf", "(I)I"⟩, prog_1_method_32_code, 2, (some .int), [], (7, 1, 2, 6)),
  (⟨"MergeGrid", "setWidth", "(II)I"⟩, prog_1_method_33_code, 3, (some .int), [], (7, 2, 3, 6)),
  (⟨"MergeGrid", "setHeight", "(II)I"⟩, prog_1_method_34_code, 3, (some .int), [], (7, 2, 3, 6)),
  (⟨"MergeGrid", "drag", "(II)I"⟩, prog_1_method_35_code, 8, (some .int), [], (7, 2, 3, 6)),
  (⟨"MergeGrid", "even", "(II)I"⟩, prog_1_method_36_code, 6, (some .int), [], (7, 3, 3, 6)),
  (⟨"MergeGrid", "sizeOf", "(II)I"⟩, prog_1_method_37_code, 4, (some .int), [], (8, 2, 3, 6)),
  (⟨"MergeGrid", "cellAt", "(II)I"⟩, prog_1_method_38_code, 6, (some .int), [], (6, 1, 3, 6)),
  (⟨"MergeGrid", "takeBack", "()Z"⟩, prog_1_method_39_code, 2, (some .boolean), [], (6, 1, 1, 6)),
  (⟨"MergeGrid", "sum", "()J"⟩, prog_1_method_40_code, 1, (some .long), [], (3, 0, 1, 6)),
  (⟨"MergeGrid", "mean", "()D"⟩, prog_1_method_41_code, 2, (some .double), [], (6, 1, 1, 6)),
  (⟨"MergeGrid", "mergedShare", "()F"⟩, prog_1_method_42_code, 2, (some .float), [], (2, 0, 1, 6)),
  (⟨"MergeGrid", "isTiled", "()Z"⟩, prog_1_method_43_code, 1, (some .boolean), [], (4, 0, 1, 6)),
  (⟨"MergeGrid", "checkRow", "(I)V"⟩, prog_1_method_44_code, 2, none, [], (6, 1, 2, 6)),
  (⟨"MergeGrid", "checkColumn", "(I)V"⟩, prog_1_method_45_code, 2, none, [], (6, 1, 2, 6)),
  (⟨"MergeGrid", "checkSquare", "(II)V"⟩, prog_1_method_46_code, 3, none, [], (7, 2, 3, 6)),
  (⟨"MergeGrid", "isTimes", "(I)Z"⟩, prog_1_method_47_code, 1, (some .boolean), [], (0, 0, 1, 0)),
  (⟨"MergeGrid", "isWidth", "(J)Z"⟩, prog_1_method_48_code, 2, (some .boolean), [], (0, 0, 1, 0)),
  (⟨"MergeGrid", "remember", "()V"⟩, prog_1_method_49_code, 1, none, [], (4, 0, 1, 6)),
  (⟨"MergeGrid", "selectFirst", "()V"⟩, prog_1_method_50_code, 1, none, [], (5, 0, 1, 6))]
def mg_mt4 : List mg_Q := [(⟨"MergeGrid", "sumOf", "([III)I"⟩, prog_1_method_51_code, 5, (some .int), [], (2, 0, 3, 0)),
  (⟨"MergeGrid", "lineAt", "([III)I"⟩, prog_1_method_52_code, 5, (some .int), [], (0, 0, 3, 0)),
  (⟨"MergeGridModel", "<init>", "()V"⟩, prog_8_method_1_code, 2, none, [], (2, 20, 1, 107)),
  (⟨"MergeGridModel", "thrown", "()I"⟩, prog_8_method_2_code, 1, (some .int), [], (0, 0, 1, 7)),
  (⟨"MergeGridModel", "fails", "(I)Z"⟩, prog_8_method_3_code, 2, (some .boolean), [], (0, 0, 2, 7)),
  (⟨"MergeGridModel", "in", "(III)Z"⟩, prog_8_method_4_code, 3, (some .boolean), [], (0, 0, 3, 0)),
  (⟨"MergeGridModel", "isSquare", "(II)Z"⟩, prog_8_method_5_code, 3, (some .boolean), [], (1, 0, 3, 7)),
  (⟨"MergeGridModel", "id", "(II)I"⟩, prog_8_method_6_code, 3, (some .int), [], (0, 0, 3, 7)),
  (⟨"MergeGridModel", "settles", "()V"⟩, prog_8_method_7_code, 4, none, [], (1, 0, 1, 7)),
  (⟨"MergeGridModel", "renames", "([I)V"⟩, prog_8_method_8_code, 3, none, [], (0, 0, 2, 7)),
  (⟨"MergeGridModel", "keeps", "()V"⟩, prog_8_method_9_code, 2, none, [], (0, 0, 1, 7)),
  (⟨"MergeGridModel", "isIn", "(II)Z"⟩, prog_8_method_10_code, 3, (some .boolean), [], (1, 0, 3, 7)),
  (⟨"MergeGridModel", "isCut", "(I)Z"⟩, prog_8_method_11_code, 6, (some .boolean), [], (2, 0, 2, 7)),
  (⟨"MergeGridModel", "takesIn", "(I)V"⟩, prog_8_method_12_code, 4, none, [], (1, 0, 2, 7)),
  (⟨"MergeGridModel", "grows", "()V"⟩, prog_8_method_13_code, 3, none, [], (3, 0, 1, 7)),
  (⟨"MergeGridModel", "spans", "(IIII)V"⟩, prog_8_method_14_code, 5, none, [], (4, 0, 5, 7)),
  (⟨"MergeGridModel", "selects", "()V"⟩, prog_8_method_15_code, 1, none, [], (0, 0, 1, 7)),
  (⟨"MergeGridModel", "startsAnew", "()V"⟩, prog_8_method_16_code, 1, none, [], (5, 0, 1, 7)),
  (⟨"MergeGridModel", "isChosen", "(I)Z"⟩, prog_8_method_18_code, 5, (some .boolean), [], (1, 0, 2, 7)),
  (⟨"MergeGridModel", "rows", "()I"⟩, prog_8_method_19_code, 1, (some .int), [], (0, 0, 1, 7)),
  (⟨"MergeGridModel", "columns", "()I"⟩, prog_8_method_20_code, 1, (some .int), [], (0, 0, 1, 7)),
  (⟨"MergeGridModel", "cellCount", "()I"⟩, prog_8_method_21_code, 1, (some .int), [], (0, 0, 1, 7)),
  (⟨"MergeGridModel", "cellsBySquares", "()I"⟩, prog_8_method_22_code, 1, (some .int), [], (0, 0, 1, 7)),
  (⟨"MergeGridModel", "putsAside", "()V"⟩, prog_8_method_23_code, 2, none, [], (0, 0, 1, 7)),
  (⟨"MergeGridModel", "freshens", "()V"⟩, prog_8_method_24_code, 2, none, [], (0, 0, 1, 7)),
  (⟨"MergeGridModel", "insertRow", "(I)I"⟩, prog_8_method_25_code, 4, (some .int), [], (6, 0, 2, 7)),
  (⟨"MergeGridModel", "insertColumn", "(I)I"⟩, prog_8_method_26_code, 4, (some .int), [], (6, 0, 2, 7)),
  (⟨"MergeGridModel", "deleteRow", "(I)I"⟩, prog_8_method_27_code, 4, (some .int), [], (6, 0, 2, 7)),
  (⟨"MergeGridModel", "deleteColumn", "(I)I"⟩, prog_8_method_28_code, 4, (some .int), [], (6, 0, 2, 7)),
  (⟨"MergeGridModel", "isTied", "(II)Z"⟩, prog_8_method_29_code, 6, (some .boolean), [], (1, 0, 3, 7))]
def mg_mt5 : List mg_Q := [(⟨"MergeGridModel", "exchanges", "(I)V"⟩, prog_8_method_30_code, 5, none, [], (1, 0, 2, 7)),
  (⟨"MergeGridModel", "moveRow", "(II)I"⟩, prog_8_method_31_code, 6, (some .int), [], (6, 0, 3, 7)),
  (⟨"MergeGridModel", "failsSquare", "(II)Z"⟩, prog_8_method_32_code, 3, (some .boolean), [], (2, 0, 3, 7)),
  (⟨"MergeGridModel", "topRow", "(I)I"⟩, prog_8_method_33_code, 5, (some .int), [], (1, 0, 2, 7)),
  (⟨"MergeGridModel", "leftCol", "(I)I"⟩, prog_8_method_34_code, 5, (some .int), [], (1, 0, 2, 7)),
  (⟨"MergeGridModel", "rowMany", "(I)I"⟩, prog_8_method_35_code, 5, (some .int), [], (2, 0, 2, 7)),
  (⟨"MergeGridModel", "colMany", "(I)I"⟩, prog_8_method_36_code, 5, (some .int), [], (2, 0, 2, 7)),
  (⟨"MergeGridModel", "topOf", "(II)I"⟩, prog_8_method_37_code, 3, (some .int), [], (3, 0, 3, 7)),
  (⟨"MergeGridModel", "leftOf", "(II)I"⟩, prog_8_method_38_code, 3, (some .int), [], (3, 0, 3, 7)),
  (⟨"MergeGridModel", "rowsOf", "(II)I"⟩, prog_8_method_39_code, 3, (some .int), [], (3, 0, 3, 7)),
  (⟨"MergeGridModel", "columnsOf", "(II)I"⟩, prog_8_method_40_code, 3, (some .int), [], (3, 0, 3, 7)),
  (⟨"MergeGridModel", "contentAt", "(II)I"⟩, prog_8_method_41_code, 3, (some .int), [], (3, 0, 3, 7)),
  (⟨"MergeGridModel", "styleAt", "(II)I"⟩, prog_8_method_42_code, 3, (some .int), [], (3, 0, 3, 7)),
  (⟨"MergeGridModel", "setContent", "(III)I"⟩, prog_8_method_43_code, 5, (some .int), [], (2, 0, 4, 7)),
  (⟨"MergeGridModel", "setStyle", "(I)I"⟩, prog_8_method_44_code, 4, (some .int), [], (2, 0, 2, 7)),
  (⟨"MergeGridModel", "failsTwo", "(IIII)Z"⟩, prog_8_method_45_code, 5, (some .boolean), [], (2, 0, 5, 7)),
  (⟨"MergeGridModel", "select", "(IIII)I"⟩, prog_8_method_46_code, 5, (some .int), [], (5, 0, 5, 7)),
  (⟨"MergeGridModel", "selected", "(C)I"⟩, prog_8_method_47_code, 3, (some .int), [], (1, 0, 2, 7)),
  (⟨"MergeGridModel", "chosen", "()I"⟩, prog_8_method_48_code, 3, (some .int), [], (2, 0, 1, 7)),
  (⟨"MergeGridModel", "selectedCells", "()I"⟩, prog_8_method_49_code, 1, (some .int), [], (3, 0, 1, 7)),
  (⟨"MergeGridModel", "squaresFor", "(IIII)I"⟩, prog_8_method_50_code, 5, (some .int), [], (5, 0, 5, 7)),
  (⟨"MergeGridModel", "filled", "()I"⟩, prog_8_method_51_code, 3, (some .int), [], (2, 0, 1, 7)),
  (⟨"MergeGridModel", "chosenSum", "()I"⟩, prog_8_method_52_code, 3, (some .int), [], (2, 0, 1, 7)),
  (⟨"MergeGridModel", "merge", "()I"⟩, prog_8_method_53_code, 6, (some .int), [], (3, 0, 1, 7)),
  (⟨"MergeGridModel", "split", "(IIC)I"⟩, prog_8_method_54_code, 8, (some .int), [], (6, 0, 4, 7)),
  (⟨"MergeGridModel", "parts", "(IC)V"⟩, prog_8_method_55_code, 6, none, [], (2, 0, 3, 7)),
  (⟨"MergeGridModel", "beginOf", "(ICIIII)I"⟩, prog_8_method_56_code, 9, (some .int), [], (0, 0, 7, 7)),
  (⟨"MergeGridModel", "placed", "(ICII)V"⟩, prog_8_method_57_code, 7, none, [], (1, 0, 5, 7)),
  (⟨"MergeGridModel", "spreads", "(I)V"⟩, prog_8_method_58_code, 5, none, [], (0, 0, 2, 7)),
  (⟨"MergeGridModel", "clear", "()I"⟩, prog_8_method_59_code, 3, (some .int), [], (3, 0, 1, 7))]
def mg_mt6 : List mg_Q := [(⟨"MergeGridModel", "copy", "()I"⟩, prog_8_method_60_code, 3, (some .int), [], (3, 0, 1, 7)),
  (⟨"MergeGridModel", "isParted", "(II)Z"⟩, prog_8_method_61_code, 6, (some .boolean), [], (0, 0, 3, 7)),
  (⟨"MergeGridModel", "isAnyCut", "()Z"⟩, prog_8_method_62_code, 3, (some .boolean), [], (3, 0, 1, 7)),
  (⟨"MergeGridModel", "paste", "(IIII)I"⟩, prog_8_method_63_code, 6, (some .int), [], (6, 0, 5, 7)),
  (⟨"MergeGridModel", "lays", "()V"⟩, prog_8_method_64_code, 5, none, [], (2, 0, 1, 7)),
  (⟨"MergeGridModel", "oldBegin", "(II)I"⟩, prog_8_method_65_code, 4, (some .int), [], (0, 0, 3, 7)),
  (⟨"MergeGridModel", "pastedBegin", "(II)I"⟩, prog_8_method_66_code, 6, (some .int), [], (0, 0, 3, 7)),
  (⟨"MergeGridModel", "isTiedAt", "(I)Z"⟩, prog_8_method_67_code, 4, (some .boolean), [], (1, 0, 2, 7)),
  (⟨"MergeGridModel", "setHeader", "(I)I"⟩, prog_8_method_68_code, 3, (some .int), [], (2, 0, 2, 7)),
  (⟨"MergeGridModel", "header", "()I"⟩, prog_8_method_69_code, 1, (some .int), [], (0, 0, 1, 7)),
  (⟨"MergeGridModel", "sort", "(IZ)I"⟩, prog_8_method_70_code, 8, (some .int), [], (6, 0, 3, 7)),
  (⟨"MergeGridModel", "isCol", "(I)Z"⟩, prog_8_method_71_code, 2, (some .boolean), [], (1, 0, 2, 7)),
  (⟨"MergeGridModel", "widthOf", "(I)I"⟩, prog_8_method_72_code, 2, (some .int), [], (2, 0, 2, 7)),
  (⟨"MergeGridModel", "heightOf", "(I)I"⟩, prog_8_method_73_code, 2, (some .int), [], (1, 0, 2, 7)),
  (⟨"MergeGridModel", "setWidth", "(II)I"⟩, prog_8_method_74_code, 4, (some .int), [], (2, 0, 3, 7)),
  (⟨"MergeGridModel", "setHeight", "(II)I"⟩, prog_8_method_75_code, 4, (some .int), [], (1, 0, 3, 7)),
  (⟨"MergeGridModel", "drag", "(II)I"⟩, prog_8_method_76_code, 4, (some .int), [], (1, 0, 3, 7)),
  (⟨"MergeGridModel", "even", "(II)I"⟩, prog_8_method_77_code, 6, (some .int), [], (2, 0, 3, 7)),
  (⟨"MergeGridModel", "sizeOf", "(II)I"⟩, prog_8_method_78_code, 7, (some .int), [], (3, 0, 3, 7)),
  (⟨"MergeGridModel", "cellAt", "(II)I"⟩, prog_8_method_79_code, 7, (some .int), [], (2, 0, 3, 7)),
  (⟨"MergeGridModel", "changes", "([I[II)V"⟩, prog_8_method_80_code, 5, none, [], (0, 0, 3, 0)),
  (⟨"MergeGridModel", "takeBack", "()Z"⟩, prog_8_method_81_code, 3, (some .boolean), [], (6, 0, 1, 7)),
  (⟨"MergeGridModel", "sum", "()J"⟩, prog_8_method_82_code, 1, (some .long), [], (3, 0, 1, 7)),
  (⟨"MergeGridModel", "mean", "()D"⟩, prog_8_method_83_code, 1, (some .double), [], (3, 0, 1, 7)),
  (⟨"MergeGridModel", "mergedShare", "()F"⟩, prog_8_method_84_code, 4, (some .float), [], (3, 0, 1, 7)),
  (⟨"MergeGridModel", "isTiled", "()Z"⟩, prog_8_method_85_code, 1, (some .boolean), [], (2, 0, 1, 7)),
  (⟨"MergeGridLaw", "insertRow", "(LMergeGrid;I[J)I"⟩, method_3_code, 4, (some .int), [(0, 9, 12, 13), (0, 9, 15, 15)], (7, 1, 3, 0)),
  (⟨"MergeGridLaw", "insertColumn", "(LMergeGrid;I[J)I"⟩, method_4_code, 4, (some .int), [(0, 9, 12, 13), (0, 9, 15, 15)], (7, 1, 3, 0)),
  (⟨"MergeGridLaw", "deleteRow", "(LMergeGrid;I[J)I"⟩, method_5_code, 4, (some .int), [(0, 9, 12, 13), (0, 9, 15, 15)], (8, 2, 3, 0)),
  (⟨"MergeGridLaw", "deleteColumn", "(LMergeGrid;I[J)I"⟩, method_6_code, 4, (some .int), [(0, 9, 12, 13), (0, 9, 15, 15)], (8, 2, 3, 0))]
def mg_mt7 : List mg_Q := [(⟨"MergeGridLaw", "moveRow", "(LMergeGrid;II[J)I"⟩, method_7_code, 5, (some .int), [(0, 10, 13, 13), (0, 10, 17, 30), (0, 10, 21, 32)], (8, 3, 4, 0)),
  (⟨"MergeGridLaw", "topOf", "(LMergeGrid;II[J)I"⟩, method_8_code, 5, (some .int), [(0, 10, 13, 13)], (9, 2, 4, 0)),
  (⟨"MergeGridLaw", "leftOf", "(LMergeGrid;II[J)I"⟩, method_9_code, 5, (some .int), [(0, 10, 13, 13)], (9, 2, 4, 0)),
  (⟨"MergeGridLaw", "rowsOf", "(LMergeGrid;II[J)I"⟩, method_10_code, 5, (some .int), [(0, 10, 13, 13)], (9, 2, 4, 0)),
  (⟨"MergeGridLaw", "columnsOf", "(LMergeGrid;II[J)I"⟩, method_11_code, 5, (some .int), [(0, 10, 13, 13)], (9, 2, 4, 0)),
  (⟨"MergeGridLaw", "contentAt", "(LMergeGrid;II[J)I"⟩, method_12_code, 5, (some .int), [(0, 10, 13, 13)], (9, 2, 4, 0)),
  (⟨"MergeGridLaw", "styleAt", "(LMergeGrid;II[J)I"⟩, method_13_code, 5, (some .int), [(0, 10, 13, 13)], (9, 2, 4, 0)),
  (⟨"MergeGridLaw", "setContent", "(LMergeGrid;III[J)I"⟩, method_14_code, 6, (some .int), [(0, 12, 15, 13), (0, 12, 19, 30)], (9, 3, 5, 0)),
  (⟨"MergeGridLaw", "setStyle", "(LMergeGrid;I[J)I"⟩, method_15_code, 4, (some .int), [(0, 9, 12, 30)], (7, 1, 3, 0)),
  (⟨"MergeGridLaw", "select", "(LMergeGrid;IIII[J)I"⟩, method_16_code, 7, (some .int), [(0, 14, 17, 13)], (9, 4, 6, 0)),
  (⟨"MergeGridLaw", "selected", "(LMergeGrid;C[J)I"⟩, method_17_code, 4, (some .int), [(0, 9, 12, 30)], (7, 1, 3, 0)),
  (⟨"MergeGridLaw", "squaresFor", "(LMergeGrid;IIII[J)I"⟩, method_18_code, 7, (some .int), [(0, 14, 17, 13)], (9, 4, 6, 0)),
  (⟨"MergeGridLaw", "merge", "(LMergeGrid;[J)I"⟩, method_19_code, 3, (some .int), [(0, 8, 11, 15), (0, 8, 14, 32)], (7, 1, 2, 0)),
  (⟨"MergeGridLaw", "split", "(LMergeGrid;IIC[J)I"⟩, method_20_code, 6, (some .int), [(0, 12, 15, 13), (0, 12, 19, 30), (0, 12, 23, 15)], (9, 3, 5, 0)),
  (⟨"MergeGridLaw", "clear", "(LMergeGrid;[J)I"⟩, method_21_code, 3, (some .int), [(0, 8, 11, 15)], (7, 1, 2, 0)),
  (⟨"MergeGridLaw", "paste", "(LMergeGrid;IIII[J)I"⟩, method_22_code, 7, (some .int), [(0, 14, 17, 13), (0, 14, 21, 30), (0, 14, 25, 15), (0, 14, 29, 32)], (9, 3, 6, 0)),
  (⟨"MergeGridLaw", "setHeader", "(LMergeGrid;I[J)I"⟩, method_23_code, 4, (some .int), [(0, 9, 12, 30), (0, 9, 15, 32)], (7, 1, 3, 0)),
  (⟨"MergeGridLaw", "sort", "(LMergeGrid;IZ[J)I"⟩, method_24_code, 5, (some .int), [(0, 10, 13, 13), (0, 10, 17, 32)], (8, 2, 4, 0)),
  (⟨"MergeGridLaw", "widthOf", "(LMergeGrid;I[J)I"⟩, method_25_code, 4, (some .int), [(0, 9, 12, 13)], (8, 1, 3, 0)),
  (⟨"MergeGridLaw", "heightOf", "(LMergeGrid;I[J)I"⟩, method_26_code, 4, (some .int), [(0, 9, 12, 13)], (8, 1, 3, 0)),
  (⟨"MergeGridLaw", "setWidth", "(LMergeGrid;II[J)I"⟩, method_27_code, 5, (some .int), [(0, 10, 13, 13), (0, 10, 17, 30)], (8, 2, 4, 0)),
  (⟨"MergeGridLaw", "setHeight", "(LMergeGrid;II[J)I"⟩, method_28_code, 5, (some .int), [(0, 10, 13, 13), (0, 10, 17, 30)], (8, 2, 4, 0)),
  (⟨"MergeGridLaw", "drag", "(LMergeGrid;II[J)I"⟩, method_29_code, 5, (some .int), [(0, 10, 13, 13), (0, 10, 17, 32)], (8, 2, 4, 0)),
  (⟨"MergeGridLaw", "even", "(LMergeGrid;II[J)I"⟩, method_30_code, 5, (some .int), [(0, 10, 13, 13), (0, 10, 17, 30)], (8, 3, 4, 0)),
  (⟨"MergeGridLaw", "sizeOf", "(LMergeGrid;II[J)I"⟩, method_31_code, 5, (some .int), [(0, 10, 13, 13)], (9, 2, 4, 0)),
  (⟨"MergeGridLaw", "cellAt", "(LMergeGrid;II[J)I"⟩, method_32_code, 5, (some .int), [(0, 10, 13, 115)], (7, 1, 4, 0)),
  (⟨"MergeGridLaw", "takeBack", "(LMergeGrid;[J)I"⟩, method_33_code, 3, (some .int), [(0, 15, 18, 15)], (7, 1, 2, 0)),
  (⟨"MergeGridLaw", "mean", "(LMergeGrid;[D)I"⟩, method_34_code, 3, (some .int), [(0, 7, 10, 125)], (7, 1, 2, 0))]
theorem mg_lay1 : (u_ws (mg_R 1) (mg_F 1) (mg_N 1)).map some = [272, 274, 276, 278].map (fun i => lw_tbl[i]?) ∧ (u_ws (mg_R 1) (mg_F 1) (mg_N 1)).all goodWord = true := by decide +kernel
theorem mg_nm1 : (∀ a, a < mg_N 1 → ∀ b, b < mg_N 1 → a ≠ b → (mg_F 1 a).2.1 ≠ (mg_F 1 b).2.1) ∧ (∀ k, k < mg_N 1 → parseFieldDescriptor (mg_F 1 k).2.2.1 = some (mg_ty 1 k)) ∧ (∀ k, k < mg_N 1 → (mg_F 1 k).1 = mg_R 1) := by decide +kernel
theorem mg_lay2 : (u_ws (mg_R 2) (mg_F 2) (mg_N 2)).map some = [298, 300, 302].map (fun i => lw_tbl[i]?) ∧ (u_ws (mg_R 2) (mg_F 2) (mg_N 2)).all goodWord = true := by decide +kernel
theorem mg_nm2 : (∀ a, a < mg_N 2 → ∀ b, b < mg_N 2 → a ≠ b → (mg_F 2 a).2.1 ≠ (mg_F 2 b).2.1) ∧ (∀ k, k < mg_N 2 → parseFieldDescriptor (mg_F 2 k).2.2.1 = some (mg_ty 2 k)) ∧ (∀ k, k < mg_N 2 → (mg_F 2 k).1 = mg_R 2) := by decide +kernel
theorem mg_lay3 : (u_ws (mg_R 3) (mg_F 3) (mg_N 3)).map some = [134, 136, 138, 140, 142, 144].map (fun i => lw_tbl[i]?) ∧ (u_ws (mg_R 3) (mg_F 3) (mg_N 3)).all goodWord = true := by decide +kernel
theorem mg_nm3 : (∀ a, a < mg_N 3 → ∀ b, b < mg_N 3 → a ≠ b → (mg_F 3 a).2.1 ≠ (mg_F 3 b).2.1) ∧ (∀ k, k < mg_N 3 → parseFieldDescriptor (mg_F 3 k).2.2.1 = some (mg_ty 3 k)) ∧ (∀ k, k < mg_N 3 → (mg_F 3 k).1 = mg_R 3) := by decide +kernel
theorem mg_lay4 : (u_ws (mg_R 4) (mg_F 4) (mg_N 4)).map some = [154, 156, 158].map (fun i => lw_tbl[i]?) ∧ (u_ws (mg_R 4) (mg_F 4) (mg_N 4)).all goodWord = true := by decide +kernel
theorem mg_nm4 : (∀ a, a < mg_N 4 → ∀ b, b < mg_N 4 → a ≠ b → (mg_F 4 a).2.1 ≠ (mg_F 4 b).2.1) ∧ (∀ k, k < mg_N 4 → parseFieldDescriptor (mg_F 4 k).2.2.1 = some (mg_ty 4 k)) ∧ (∀ k, k < mg_N 4 → (mg_F 4 k).1 = mg_R 4) := by decide +kernel
theorem mg_lay5 : (u_ws (mg_R 5) (mg_F 5) (mg_N 5)).map some = [227, 229, 231, 233, 235, 237, 239, 241, 243].map (fun i => lw_tbl[i]?) ∧ (u_ws (mg_R 5) (mg_F 5) (mg_N 5)).all goodWord = true := by decide +kernel
theorem mg_nm5 : (∀ a, a < mg_N 5 → ∀ b, b < mg_N 5 → a ≠ b → (mg_F 5 a).2.1 ≠ (mg_F 5 b).2.1) ∧ (∀ k, k < mg_N 5 → parseFieldDescriptor (mg_F 5 k).2.2.1 = some (mg_ty 5 k)) ∧ (∀ k, k < mg_N 5 → (mg_F 5 k).1 = mg_R 5) := by decide +kernel
theorem mg_lay6 : (u_ws (mg_R 6) (mg_F 6) (mg_N 6)).map some = [311, 313, 315, 317, 319, 321].map (fun i => lw_tbl[i]?) ∧ (u_ws (mg_R 6) (mg_F 6) (mg_N 6)).all goodWord = true := by decide +kernel
theorem mg_nm6 : (∀ a, a < mg_N 6 → ∀ b, b < mg_N 6 → a ≠ b → (mg_F 6 a).2.1 ≠ (mg_F 6 b).2.1) ∧ (∀ k, k < mg_N 6 → parseFieldDescriptor (mg_F 6 k).2.2.1 = some (mg_ty 6 k)) ∧ (∀ k, k < mg_N 6 → (mg_F 6 k).1 = mg_R 6) := by decide +kernel
theorem mg_lay7 : (u_ws (mg_R 7) (mg_F 7) (mg_N 7)).map some = [1120, 1122, 1124, 1126, 1128, 1130, 1132, 1134, 1136, 1138, 1140, 1142, 1144, 1146, 1148, 1150, 1152, 1154, 1156, 1158, 1160, 1162, 1164, 1166, 1168, 1170, 1172, 1174, 1176, 1178, 1180, 1182, 1184, 1186, 1188, 1190, 1192].map (fun i => lw_tbl[i]?) ∧ (u_ws (mg_R 7) (mg_F 7) (mg_N 7)).all goodWord = true := by decide +kernel
theorem mg_nm7 : (∀ a, a < mg_N 7 → ∀ b, b < mg_N 7 → a ≠ b → (mg_F 7 a).2.1 ≠ (mg_F 7 b).2.1) ∧ (∀ k, k < mg_N 7 → parseFieldDescriptor (mg_F 7 k).2.2.1 = some (mg_ty 7 k)) ∧ (∀ k, k < mg_N 7 → (mg_F 7 k).1 = mg_R 7) := by decide +kernel
def mg_mt : List mg_Q := mg_mt0 ++ (mg_mt1 ++ (mg_mt2 ++ (mg_mt3 ++ (mg_mt4 ++ (mg_mt5 ++ (mg_mt6 ++ (mg_mt7)))))))
/-- the words that a call of a method needs -/
def mg_cw (q : mg_Q) : Cond := match q.2.2.2.2.1 with
  | [] => .code q.1 q.2.1 q.2.2.1 q.2.2.2.1
  | h :: t => .codeWith q.1 q.2.1 q.2.2.1 q.2.2.2.1 (h :: t)
def mg_cws (q : mg_Q) : List Cond := .initialized q.1.cls :: (bif Nat.beq q.2.2.2.2.2.2.2.2 0 then [.static q.1] else bif Nat.blt q.2.2.2.2.2.2.2.2 100 then [.instanceMethod q.1, .selects q.1.cls q.1 q.1] else [.instanceMethod q.1])
set_option maxRecDepth 100000 in
theorem mg_ck0 : (mg_mt0.map fun q => some (mg_cw q)) = [101, 207, 211, 546, 179, 183, 356, 593, 410, 556, 616, 638, 672, 250, 571, 585, 597, 94, 175, 203, 646, 859, 642, 542, 351, 848, 382, 886, 804, 907].map (fun i => lw_tbl[i]?) := rfl
theorem mg_cl0 : (mg_mt0.map fun q => (mg_cws q).map some) = [[58, 100], [58, 205, 206], [58, 209, 210], [58, 544, 545], [58, 177, 178], [58, 181, 182], [58, 354, 355], [58, 591, 592], [58, 408, 409], [58, 554, 555], [58, 614, 615], [58, 636, 637], [58, 670, 671], [60, 249], [60, 569, 570], [60, 583, 584], [60, 595, 596], [57, 93], [57, 173, 174], [57, 201, 202], [57, 644, 645], [57, 857, 858], [57, 640, 641], [57, 540, 541], [57, 349, 350], [57, 846, 847], [57, 380, 381], [57, 884, 885], [57, 802, 803], [57, 905, 906]].map (fun l => l.map (fun i => lw_tbl[i]?)) := by decide +kernel
theorem mg_cg0 : mg_mt0.all (fun q => goodWord (mg_cw q) && (mg_cws q).all goodWord && plainName q.1.cls && (decide ((parseMethodDescriptor q.1.desc).map (fun s => s.parameters.length + (bif Nat.beq q.2.2.2.2.2.2.2.2 0 then 0 else 1)) = some q.2.2.2.2.2.2.2.1)) && decide (q.1.cls ≠ "java/lang/invoke/MethodHandle" ∧ q.1.cls ≠ "java/lang/invoke/VarHandle") && decide (q.2.2.1 ≤ 20) && (bif Nat.beq q.2.2.2.2.2.2.2.2 0 then true else bif Nat.blt q.2.2.2.2.2.2.2.2 100 then decide (q.1.cls = mg_R q.2.2.2.2.2.2.2.2) else decide (q.1.cls = mg_R (q.2.2.2.2.2.2.2.2 - 100) ∧ q.1.name = "<init>" ∧ q.2.2.2.1 = none))) = true := by decide +kernel
set_option maxRecDepth 100000 in
theorem mg_ck1 : (mg_mt1.map fun q => some (mg_cw q)) = [406, 720, 390, 285, 901, 366, 913, 88, 191, 195, 563, 535, 199, 187, 343, 167, 171, 552, 612, 634, 668, 559, 649, 726, 941, 945, 734, 738, 730, 581].map (fun i => lw_tbl[i]?) := rfl
theorem mg_cl1 : (mg_mt1.map fun q => (mg_cws q).map some) = [[57, 404, 405], [57, 718, 719], [57, 388, 389], [61, 284], [61, 899, 900], [61, 364, 365], [61, 911, 912], [56, 87], [56, 189, 190], [56, 193, 194], [56, 561, 562], [56, 533, 534], [56, 198, 3], [56, 186, 2], [56, 341, 342], [56, 166, 0], [56, 170, 1], [56, 550, 551], [56, 610, 611], [56, 632, 633], [56, 666, 667], [56, 558], [56, 648], [56, 724, 725], [56, 939, 940], [56, 944, 15], [56, 733, 11], [56, 736, 737], [56, 728, 729], [56, 579, 580]].map (fun l => l.map (fun i => lw_tbl[i]?)) := by decide +kernel
theorem mg_cg1 : mg_mt1.all (fun q => goodWord (mg_cw q) && (mg_cws q).all goodWord && plainName q.1.cls && (decide ((parseMethodDescriptor q.1.desc).map (fun s => s.parameters.length + (bif Nat.beq q.2.2.2.2.2.2.2.2 0 then 0 else 1)) = some q.2.2.2.2.2.2.2.1)) && decide (q.1.cls ≠ "java/lang/invoke/MethodHandle" ∧ q.1.cls ≠ "java/lang/invoke/VarHandle") && decide (q.2.2.1 ≤ 20) && (bif Nat.beq q.2.2.2.2.2.2.2.2 0 then true else bif Nat.blt q.2.2.2.2.2.2.2.2 100 then decide (q.1.cls = mg_R q.2.2.2.2.2.2.2.2) else decide (q.1.cls = mg_R (q.2.2.2.2.2.2.2.2 - 100) ∧ q.1.name = "<init>" ∧ q.2.2.2.1 = none))) = true := by decide +kernel
set_option maxRecDepth 100000 in
theorem mg_ck2 : (mg_mt2.map fun q => some (mg_cw q)) = [589, 831, 835, 854, 873, 918, 922, 398, 402, 163, 80, 327, 331, 335, 339, 498, 606, 623, 657, 681, 745, 756, 763, 770, 777, 784, 791, 799, 811, 819].map (fun i => lw_tbl[i]?) := rfl
theorem mg_cl2 : (mg_mt2.map fun q => (mg_cws q).map some) = [[56, 588, 8], [56, 829, 830], [56, 834, 13], [56, 852, 853], [56, 871, 872], [56, 916, 917], [56, 921, 14], [56, 396, 397], [56, 401, 4], [59, 162], [55, 79], [55, 325, 326], [55, 329, 330], [55, 333, 334], [55, 337, 338], [55, 496, 497], [55, 604, 605], [55, 621, 622], [55, 655, 656], [55, 679, 680], [55, 743, 744], [55, 754, 755], [55, 761, 762], [55, 768, 769], [55, 775, 776], [55, 782, 783], [55, 789, 790], [55, 797, 798], [55, 809, 810], [55, 817, 818]].map (fun l => l.map (fun i => lw_tbl[i]?)) := by decide +kernel
theorem mg_cg2 : mg_mt2.all (fun q => goodWord (mg_cw q) && (mg_cws q).all goodWord && plainName q.1.cls && (decide ((parseMethodDescriptor q.1.desc).map (fun s => s.parameters.length + (bif Nat.beq q.2.2.2.2.2.2.2.2 0 then 0 else 1)) = some q.2.2.2.2.2.2.2.1)) && decide (q.1.cls ≠ "java/lang/invoke/MethodHandle" ∧ q.1.cls ≠ "java/lang/invoke/VarHandle") && decide (q.2.2.1 ≤ 20) && (bif Nat.beq q.2.2.2.2.2.2.2.2 0 then true else bif Nat.blt q.2.2.2.2.2.2.2.2 100 then decide (q.1.cls = mg_R q.2.2.2.2.2.2.2.2) else decide (q.1.cls = mg_R (q.2.2.2.2.2.2.2.2 - 100) ∧ q.1.name = "<init>" ∧ q.2.2.2.1 = none))) = true := by decide +kernel
set_option maxRecDepth 100000 in
theorem mg_ck3 : (mg_mt3.map fun q => some (mg_cw q)) = [347, 827, 843, 867, 881, 362, 893, 929, 374, 937, 952, 959, 966, 979, 987, 995, 1006, 1014, 1040, 378, 1062, 386, 394, 627, 661, 749, 896, 969, 531, 567].map (fun i => lw_tbl[i]?) := rfl
theorem mg_cl3 : (mg_mt3.map fun q => (mg_cws q).map some) = [[55, 345, 346], [55, 825, 826], [55, 841, 842], [55, 865, 866], [55, 879, 880], [55, 360, 361], [55, 891, 892], [55, 927, 928], [55, 372, 373], [55, 935, 936], [55, 950, 951], [55, 957, 958], [55, 964, 965], [55, 977, 978], [55, 985, 986], [55, 993, 994], [55, 1004, 1005], [55, 1012, 1013], [55, 1038, 1039], [55, 376, 377], [55, 1060, 1061], [55, 384, 385], [55, 392, 393], [55, 626, 9], [55, 660, 10], [55, 748, 12], [55, 895], [55, 968], [55, 530, 6], [55, 566, 7]].map (fun l => l.map (fun i => lw_tbl[i]?)) := by decide +kernel
theorem mg_cg3 : mg_mt3.all (fun q => goodWord (mg_cw q) && (mg_cws q).all goodWord && plainName q.1.cls && (decide ((parseMethodDescriptor q.1.desc).map (fun s => s.parameters.length + (bif Nat.beq q.2.2.2.2.2.2.2.2 0 then 0 else 1)) = some q.2.2.2.2.2.2.2.1)) && decide (q.1.cls ≠ "java/lang/invoke/MethodHandle" ∧ q.1.cls ≠ "java/lang/invoke/VarHandle") && decide (q.2.2.1 ≤ 20) && (bif Nat.beq q.2.2.2.2.2.2.2.2 0 then true else bif Nat.blt q.2.2.2.2.2.2.2.2 100 then decide (q.1.cls = mg_R q.2.2.2.2.2.2.2.2) else decide (q.1.cls = mg_R (q.2.2.2.2.2.2.2.2 - 100) ∧ q.1.name = "<init>" ∧ q.2.2.2.1 = none))) = true := by decide +kernel
set_option maxRecDepth 100000 in
theorem mg_ck4 : (mg_mt4.map fun q => some (mg_cw q)) = [999, 1017, 1069, 1198, 1225, 1221, 1301, 1078, 1074, 1082, 1229, 1257, 1253, 1261, 1249, 1245, 1265, 1241, 1349, 1202, 1206, 1210, 1214, 1233, 1237, 1218, 1269, 1273, 1277, 1285].map (fun i => lw_tbl[i]?) := rfl
theorem mg_cl4 : (mg_mt4.map fun q => (mg_cws q).map some) = [[55, 998], [55, 1016], [62, 1068], [62, 1196, 1197], [62, 1224, 19], [62, 1220], [62, 1300, 33], [62, 1077, 17], [62, 1073, 16], [62, 1081, 18], [62, 1228, 20], [62, 1256, 27], [62, 1252, 26], [62, 1260, 28], [62, 1248, 25], [62, 1244, 24], [62, 1264, 29], [62, 1240, 23], [62, 1348, 38], [62, 1200, 1201], [62, 1204, 1205], [62, 1208, 1209], [62, 1212, 1213], [62, 1232, 21], [62, 1236, 22], [62, 1216, 1217], [62, 1267, 1268], [62, 1271, 1272], [62, 1275, 1276], [62, 1284, 30]].map (fun l => l.map (fun i => lw_tbl[i]?)) := by decide +kernel
theorem mg_cg4 : mg_mt4.all (fun q => goodWord (mg_cw q) && (mg_cws q).all goodWord && plainName q.1.cls && (decide ((parseMethodDescriptor q.1.desc).map (fun s => s.parameters.length + (bif Nat.beq q.2.2.2.2.2.2.2.2 0 then 0 else 1)) = some q.2.2.2.2.2.2.2.1)) && decide (q.1.cls ≠ "java/lang/invoke/MethodHandle" ∧ q.1.cls ≠ "java/lang/invoke/VarHandle") && decide (q.2.2.1 ≤ 20) && (bif Nat.beq q.2.2.2.2.2.2.2.2 0 then true else bif Nat.blt q.2.2.2.2.2.2.2.2 100 then decide (q.1.cls = mg_R q.2.2.2.2.2.2.2.2) else decide (q.1.cls = mg_R (q.2.2.2.2.2.2.2.2 - 100) ∧ q.1.name = "<init>" ∧ q.2.2.2.1 = none))) = true := by decide +kernel
set_option maxRecDepth 100000 in
theorem mg_ck5 : (mg_mt5.map fun q => some (mg_cw q)) = [1289, 1281, 1297, 1305, 1313, 1321, 1329, 1293, 1309, 1317, 1325, 1333, 1337, 1341, 1345, 1357, 1353, 1361, 1369, 1365, 1373, 1381, 1385, 1377, 1389, 1393, 1401, 1397, 1405, 1409].map (fun i => lw_tbl[i]?) := rfl
theorem mg_cl5 : (mg_mt5.map fun q => (mg_cws q).map some) = [[62, 1288, 31], [62, 1279, 1280], [62, 1296, 32], [62, 1304, 34], [62, 1312, 35], [62, 1320, 36], [62, 1328, 37], [62, 1291, 1292], [62, 1307, 1308], [62, 1315, 1316], [62, 1323, 1324], [62, 1331, 1332], [62, 1335, 1336], [62, 1339, 1340], [62, 1343, 1344], [62, 1356, 39], [62, 1351, 1352], [62, 1359, 1360], [62, 1368, 40], [62, 1363, 1364], [62, 1371, 1372], [62, 1380, 41], [62, 1384, 42], [62, 1375, 1376], [62, 1387, 1388], [62, 1392, 43], [62, 1400, 45], [62, 1396, 44], [62, 1404, 46], [62, 1407, 1408]].map (fun l => l.map (fun i => lw_tbl[i]?)) := by decide +kernel
theorem mg_cg5 : mg_mt5.all (fun q => goodWord (mg_cw q) && (mg_cws q).all goodWord && plainName q.1.cls && (decide ((parseMethodDescriptor q.1.desc).map (fun s => s.parameters.length + (bif Nat.beq q.2.2.2.2.2.2.2.2 0 then 0 else 1)) = some q.2.2.2.2.2.2.2.1)) && decide (q.1.cls ≠ "java/lang/invoke/MethodHandle" ∧ q.1.cls ≠ "java/lang/invoke/VarHandle") && decide (q.2.2.1 ≤ 20) && (bif Nat.beq q.2.2.2.2.2.2.2.2 0 then true else bif Nat.blt q.2.2.2.2.2.2.2.2 100 then decide (q.1.cls = mg_R q.2.2.2.2.2.2.2.2) else decide (q.1.cls = mg_R (q.2.2.2.2.2.2.2.2 - 100) ∧ q.1.name = "<init>" ∧ q.2.2.2.1 = none))) = true := by decide +kernel
set_option maxRecDepth 100000 in
theorem mg_ck6 : (mg_mt6.map fun q => some (mg_cw q)) = [1413, 1425, 1421, 1417, 1429, 1437, 1433, 1445, 1441, 1449, 1453, 1461, 1457, 1465, 1469, 1473, 1477, 1481, 1485, 1489, 1496, 1493, 1500, 1504, 1508, 1512, 413, 602, 619, 653].map (fun i => lw_tbl[i]?) := rfl
theorem mg_cl6 : (mg_mt6.map fun q => (mg_cws q).map some) = [[62, 1411, 1412], [62, 1424, 48], [62, 1420, 47], [62, 1415, 1416], [62, 1428, 49], [62, 1436, 51], [62, 1432, 50], [62, 1444, 52], [62, 1439, 1440], [62, 1447, 1448], [62, 1451, 1452], [62, 1460, 53], [62, 1455, 1456], [62, 1463, 1464], [62, 1467, 1468], [62, 1471, 1472], [62, 1475, 1476], [62, 1479, 1480], [62, 1483, 1484], [62, 1487, 1488], [62, 1495], [62, 1491, 1492], [62, 1498, 1499], [62, 1502, 1503], [62, 1506, 1507], [62, 1510, 1511], [54, 412], [54, 601], [54, 618], [54, 652]].map (fun l => l.map (fun i => lw_tbl[i]?)) := by decide +kernel
theorem mg_cg6 : mg_mt6.all (fun q => goodWord (mg_cw q) && (mg_cws q).all goodWord && plainName q.1.cls && (decide ((parseMethodDescriptor q.1.desc).map (fun s => s.parameters.length + (bif Nat.beq q.2.2.2.2.2.2.2.2 0 then 0 else 1)) = some q.2.2.2.2.2.2.2.1)) && decide (q.1.cls ≠ "java/lang/invoke/MethodHandle" ∧ q.1.cls ≠ "java/lang/invoke/VarHandle") && decide (q.2.2.1 ≤ 20) && (bif Nat.beq q.2.2.2.2.2.2.2.2 0 then true else bif Nat.blt q.2.2.2.2.2.2.2.2 100 then decide (q.1.cls = mg_R q.2.2.2.2.2.2.2.2) else decide (q.1.cls = mg_R (q.2.2.2.2.2.2.2.2 - 100) ∧ q.1.name = "<init>" ∧ q.2.2.2.1 = none))) = true := by decide +kernel
set_option maxRecDepth 100000 in
theorem mg_ck7 : (mg_mt7.map fun q => some (mg_cw q)) = [675, 741, 752, 759, 766, 773, 780, 787, 795, 807, 815, 823, 839, 863, 877, 889, 925, 933, 948, 955, 962, 975, 983, 991, 1002, 1009, 1036, 1044].map (fun i => lw_tbl[i]?) := rfl
theorem mg_cl7 : (mg_mt7.map fun q => (mg_cws q).map some) = [[54, 674], [54, 740], [54, 751], [54, 758], [54, 765], [54, 772], [54, 779], [54, 786], [54, 794], [54, 806], [54, 814], [54, 822], [54, 838], [54, 862], [54, 876], [54, 888], [54, 924], [54, 932], [54, 947], [54, 954], [54, 961], [54, 974], [54, 982], [54, 990], [54, 1001], [54, 1008], [54, 1035], [54, 1043]].map (fun l => l.map (fun i => lw_tbl[i]?)) := by decide +kernel
theorem mg_cg7 : mg_mt7.all (fun q => goodWord (mg_cw q) && (mg_cws q).all goodWord && plainName q.1.cls && (decide ((parseMethodDescriptor q.1.desc).map (fun s => s.parameters.length + (bif Nat.beq q.2.2.2.2.2.2.2.2 0 then 0 else 1)) = some q.2.2.2.2.2.2.2.1)) && decide (q.1.cls ≠ "java/lang/invoke/MethodHandle" ∧ q.1.cls ≠ "java/lang/invoke/VarHandle") && decide (q.2.2.1 ≤ 20) && (bif Nat.beq q.2.2.2.2.2.2.2.2 0 then true else bif Nat.blt q.2.2.2.2.2.2.2.2 100 then decide (q.1.cls = mg_R q.2.2.2.2.2.2.2.2) else decide (q.1.cls = mg_R (q.2.2.2.2.2.2.2.2 - 100) ∧ q.1.name = "<init>" ∧ q.2.2.2.1 = none))) = true := by decide +kernel
def mg_ex : Nat → String := fun k => match k with
  | 1 => "java/lang/IndexOutOfBoundsException"
  | 2 => "java/lang/IllegalStateException"
  | 3 => "java/lang/IllegalArgumentException"
  | 4 => "java/lang/UnsupportedOperationException"
  | 5 => "java/util/NoSuchElementException"
  | _ => "java/lang/ArithmeticException"
/-- the texts of what is thrown, by their places -/
def mg_str : List (Nat × String) := [(66, "no such place for a row"), (73, "no more rows"), (86, "no such place for a column"), (88, "no more columns"), (96, "the only row"), (104, "the only column"), (111, "the same row"), (120, "from the header to the body or back"), (136, "a cell covers several rows"), (160, "no such content"), (162, "no such style"), (187, "no such side"), (196, "only one cell"), (201, "several cells are not empty"), (203, "in the header and in the body"), (208, "no such kind"), (210, "only one part"), (216, "all of them are empty"), (229, "no such number of times"), (235, "nothing was copied"), (239, "beyond the table"), (245, "a cell lies there and elsewhere"), (258, "no such number of rows"), (277, "no such width"), (279, "no such height"), (281, "the last column"), (283, "not behind the first one"), (294, "no cell lies there"), (301, "no change"), (318, "no such row"), (323, "no such column")]
theorem mg_strk : (mg_str.map fun q => some (Cond.stringRef "MergeGrid" q.1 q.2)) = [508, 521, 607, 608, 630, 664, 691, 708, 722, 792, 800, 820, 844, 849, 850, 868, 869, 882, 897, 902, 903, 909, 930, 972, 980, 988, 996, 1027, 1041, 629, 663].map (fun i => lw_tbl[i]?) := by decide +kernel
/-- words that no list of good ones has -/
def mg_nwC : List String := ["java/lang/IndexOutOfBoundsException", "java/lang/IllegalStateException", "java/lang/IllegalArgumentException", "java/lang/UnsupportedOperationException", "java/util/NoSuchElementException", "java/lang/ArithmeticException"]
def mg_nwN : List (String × Nat × MethodName) := [("MergeGrid$CellList", 17, ⟨"MergeGrid$Cell", "<init>", "()V"⟩), ("MergeGrid", 21, ⟨"MergeGrid$Area", "<init>", "()V"⟩), ("MergeGrid", 31, ⟨"MergeGrid$Block", "<init>", "()V"⟩)]
theorem mg_nwk : (mg_nwC.map fun x => some (Cond.castable x x)) = [501, 514, 684, 701, 1020, 1057].map (fun i => lw_tbl[i]?) ∧ (mg_nwN.map fun q => some (Cond.methodLinkNest q.1 q.2.1 q.2.2 "MergeGrid")) = [99, 248, 283].map (fun i => lw_tbl[i]?) := by decide +kernel
def mg_nwD : List MethodName := [⟨"java/lang/RuntimeException", "<init>", "(Ljava/lang/String;)V"⟩, ⟨"java/lang/Exception", "<init>", "(Ljava/lang/String;)V"⟩, ⟨"java/lang/Throwable", "<init>", "(Ljava/lang/String;)V"⟩]
theorem mg_nwdk : (mg_nwD.map fun x => some (Cond.declares x)) = [473, 475, 477].map (fun i => lw_tbl[i]?) := by decide +kernel
theorem mg_at1 : (vx_atS "MergeGrid" 68 "java/lang/IndexOutOfBoundsException" ["java/lang/RuntimeException", "java/lang/Exception"]).all (fun w => decide (w ∈ mg_T) || decide (w = .castable "java/lang/IndexOutOfBoundsException" "java/lang/IndexOutOfBoundsException") || decide (w ∈ mg_nwD.map Cond.declares)) = true ∧ (vx_atS "MergeGrid" 68 "java/lang/IndexOutOfBoundsException" ["java/lang/RuntimeException", "java/lang/Exception"]).all vx_ot = true ∧ Bundle.fit "java/lang/IndexOutOfBoundsException" = true := by decide +kernel
theorem mg_at2 : (vx_atS "MergeGrid" 75 "java/lang/IllegalStateException" ["java/lang/RuntimeException", "java/lang/Exception"]).all (fun w => decide (w ∈ mg_T) || decide (w = .castable "java/lang/IllegalStateException" "java/lang/IllegalStateException") || decide (w ∈ mg_nwD.map Cond.declares)) = true ∧ (vx_atS "MergeGrid" 75 "java/lang/IllegalStateException" ["java/lang/RuntimeException", "java/lang/Exception"]).all vx_ot = true ∧ Bundle.fit "java/lang/IllegalStateException" = true := by decide +kernel
theorem mg_at3 : (vx_atS "MergeGrid" 113 "java/lang/IllegalArgumentException" ["java/lang/RuntimeException", "java/lang/Exception"]).all (fun w => decide (w ∈ mg_T) || decide (w = .castable "java/lang/IllegalArgumentException" "java/lang/IllegalArgumentException") || decide (w ∈ mg_nwD.map Cond.declares)) = true ∧ (vx_atS "MergeGrid" 113 "java/lang/IllegalArgumentException" ["java/lang/RuntimeException", "java/lang/Exception"]).all vx_ot = true ∧ Bundle.fit "java/lang/IllegalArgumentException" = true := by decide +kernel
theorem mg_at4 : (vx_atS "MergeGrid" 122 "java/lang/UnsupportedOperationException" ["java/lang/RuntimeException", "java/lang/Exception"]).all (fun w => decide (w ∈ mg_T) || decide (w = .castable "java/lang/UnsupportedOperationException" "java/lang/UnsupportedOperationException") || decide (w ∈ mg_nwD.map Cond.declares)) = true ∧ (vx_atS "MergeGrid" 122 "java/lang/UnsupportedOperationException" ["java/lang/RuntimeException", "java/lang/Exception"]).all vx_ot = true ∧ Bundle.fit "java/lang/UnsupportedOperationException" = true := by decide +kernel
theorem mg_at5 : ((mg_ownX "MergeGrid" 296 "java/util/NoSuchElementException" 13 prog_23_method_4_code ["java/lang/RuntimeException", "java/lang/Exception"]).filter vx_no).all (fun w => decide (w ∈ mg_T) || decide (w = .castable "java/util/NoSuchElementException" "java/util/NoSuchElementException") || decide (w ∈ mg_nwD.map Cond.declares)) = true ∧ ((mg_ownX "MergeGrid" 296 "java/util/NoSuchElementException" 13 prog_23_method_4_code ["java/lang/RuntimeException", "java/lang/Exception"]).filter vx_no).all vx_ot = true ∧ Bundle.fit "java/util/NoSuchElementException" = true := by decide +kernel
theorem mg_at6 : (vx_atS "MergeGrid" 308 "java/lang/ArithmeticException" ["java/lang/RuntimeException", "java/lang/Exception"]).all (fun w => decide (w ∈ mg_T) || decide (w = .castable "java/lang/ArithmeticException" "java/lang/ArithmeticException") || decide (w ∈ mg_nwD.map Cond.declares)) = true ∧ (vx_atS "MergeGrid" 308 "java/lang/ArithmeticException" ["java/lang/RuntimeException", "java/lang/Exception"]).all vx_ot = true ∧ Bundle.fit "java/lang/ArithmeticException" = true := by decide +kernel
theorem mg_x5 : decode prog_23_method_4_code 0 = .ok (.aload_n 0, 1) ∧ decode prog_23_method_4_code 1 = .ok (.aload_n 1, 1) ∧ decode prog_23_method_4_code 2 = .ok (.invokespecial 13, 3) ∧ decode prog_23_method_4_code 5 = .ok (.return_, 1) := by decide +kernel
theorem mg_fitN : ∀ n ∈ ["java/lang/RuntimeException", "java/lang/Exception"], Bundle.fit n = true := by decide +kernel
