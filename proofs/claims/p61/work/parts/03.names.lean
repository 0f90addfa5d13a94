def RX0 : String := "YarnMill$1"
def TX0 : u_T := fun k => match k with
  | _ => ("", "", "", false)
def tyX0 : Nat → FieldType := fun k => match k with
  | _ => .int
theorem nmX0 : ∀ a, a < 0 → ∀ b, b < 0 → a ≠ b → (TX0 a).2.1 ≠ (TX0 b).2.1 := by decide +kernel
theorem tyX0_ok : ∀ k, k < 0 → parseFieldDescriptor (TX0 k).2.2.1 = some (tyX0 k) := by decide +kernel
def RX1 : String := "YarnMill$Bales"
def TX1 : u_T := fun k => match k with
  | 0 => ("YarnMill$Bales", "ids", "LYarnMill$Row;", true)
  | 1 => ("YarnMill$Bales", "weights", "LYarnMill$Row;", true)
  | 2 => ("YarnMill$Bales", "staples", "LYarnMill$Row;", true)
  | 3 => ("YarnMill$Bales", "prices", "LYarnMill$Row;", true)
  | 4 => ("YarnMill$Bales", "values", "LYarnMill$Row;", true)
  | _ => ("YarnMill$Bales", "nextId", "I", false)
def tyX1 : Nat → FieldType := fun k => match k with
  | 0 => .object "YarnMill$Row"
  | 1 => .object "YarnMill$Row"
  | 2 => .object "YarnMill$Row"
  | 3 => .object "YarnMill$Row"
  | 4 => .object "YarnMill$Row"
  | _ => .int
theorem nmX1 : ∀ a, a < 6 → ∀ b, b < 6 → a ≠ b → (TX1 a).2.1 ≠ (TX1 b).2.1 := by decide +kernel
theorem tyX1_ok : ∀ k, k < 6 → parseFieldDescriptor (TX1 k).2.2.1 = some (tyX1 k) := by decide +kernel
abbrev cX1_init : ByteArray := prog_3_method_1_code
def yX1_init : MethodName := ⟨RX1, "<init>", "()V"⟩
abbrev cX1_add : ByteArray := prog_3_method_2_code
def yX1_add : MethodName := ⟨RX1, "add", "(III)I"⟩
abbrev cX1_weightOf : ByteArray := prog_3_method_3_code
def yX1_weightOf : MethodName := ⟨RX1, "weightOf", "(I)I"⟩
abbrev cX1_removeSet : ByteArray := prog_3_method_4_code
def yX1_removeSet : MethodName := ⟨RX1, "removeSet", "(I)V"⟩
abbrev cX1_removeAt : ByteArray := prog_3_method_5_code
def yX1_removeAt : MethodName := ⟨RX1, "removeAt", "(I)V"⟩
abbrev cX1_copyFrom : ByteArray := prog_3_method_7_code
def yX1_copyFrom : MethodName := ⟨RX1, "copyFrom", "(LYarnMill$Bales;)V"⟩
def RX2 : String := "YarnMill$BlendFinder"
def TX2 : u_T := fun k => match k with
  | 0 => ("YarnMill$BlendFinder", "weights", "[I", true)
  | 1 => ("YarnMill$BlendFinder", "products", "[I", true)
  | 2 => ("YarnMill$BlendFinder", "values", "[I", true)
  | 3 => ("YarnMill$BlendFinder", "need", "I", false)
  | 4 => ("YarnMill$BlendFinder", "staple", "I", false)
  | _ => ("YarnMill$BlendFinder", "cheapest", "I", false)
def tyX2 : Nat → FieldType := fun k => match k with
  | 0 => .array .int
  | 1 => .array .int
  | 2 => .array .int
  | 3 => .int
  | 4 => .int
  | _ => .int
theorem nmX2 : ∀ a, a < 6 → ∀ b, b < 6 → a ≠ b → (TX2 a).2.1 ≠ (TX2 b).2.1 := by decide +kernel
theorem tyX2_ok : ∀ k, k < 6 → parseFieldDescriptor (TX2 k).2.2.1 = some (tyX2 k) := by decide +kernel
abbrev cX2_init : ByteArray := prog_4_method_1_code
def yX2_init : MethodName := ⟨RX2, "<init>", "()V"⟩
abbrev cX2_bestSet : ByteArray := prog_4_method_2_code
def yX2_bestSet : MethodName := ⟨RX2, "bestSet", "(LYarnMill$Bales;II)I"⟩
abbrev cX2_valueByAllSets : ByteArray := prog_4_method_3_code
def yX2_valueByAllSets : MethodName := ⟨RX2, "valueByAllSets", "(LYarnMill$Bales;II)I"⟩
abbrev cX2_addUpSets : ByteArray := prog_4_method_4_code
def yX2_addUpSets : MethodName := ⟨RX2, "addUpSets", "(LYarnMill$Bales;)V"⟩
abbrev cX2_isBetter : ByteArray := prog_4_method_5_code
def yX2_isBetter : MethodName := ⟨RX2, "isBetter", "(II)Z"⟩
abbrev cX2_valueBySearch : ByteArray := prog_4_method_6_code
def yX2_valueBySearch : MethodName := ⟨RX2, "valueBySearch", "(LYarnMill$Bales;II)I"⟩
abbrev cX2_search : ByteArray := prog_4_method_7_code
def yX2_search : MethodName := ⟨RX2, "search", "(LYarnMill$BlendFinder;LYarnMill$Bales;IIII)V"⟩
def RX3 : String := "YarnMill$Command"
def TX3 : u_T := fun k => match k with
  | _ => ("", "", "", false)
def tyX3 : Nat → FieldType := fun k => match k with
  | _ => .int
theorem nmX3 : ∀ a, a < 0 → ∀ b, b < 0 → a ≠ b → (TX3 a).2.1 ≠ (TX3 b).2.1 := by decide +kernel
theorem tyX3_ok : ∀ k, k < 0 → parseFieldDescriptor (TX3 k).2.2.1 = some (tyX3 k) := by decide +kernel
def RX4 : String := "YarnMill$History"
def TX4 : u_T := fun k => match k with
  | 0 => ("YarnMill$History", "ring", "[LYarnMill$Stock;", true)
  | 1 => ("YarnMill$History", "next", "I", false)
  | _ => ("YarnMill$History", "count", "I", false)
def tyX4 : Nat → FieldType := fun k => match k with
  | 0 => .array (.object "YarnMill$Stock")
  | 1 => .int
  | _ => .int
theorem nmX4 : ∀ a, a < 3 → ∀ b, b < 3 → a ≠ b → (TX4 a).2.1 ≠ (TX4 b).2.1 := by decide +kernel
theorem tyX4_ok : ∀ k, k < 3 → parseFieldDescriptor (TX4 k).2.2.1 = some (tyX4 k) := by decide +kernel
abbrev cX4_init : ByteArray := prog_6_method_1_code
def yX4_init : MethodName := ⟨RX4, "<init>", "()V"⟩
abbrev cX4_count : ByteArray := prog_6_method_2_code
def yX4_count : MethodName := ⟨RX4, "count", "()I"⟩
abbrev cX4_record : ByteArray := prog_6_method_3_code
def yX4_record : MethodName := ⟨RX4, "record", "(LYarnMill$Stock;)V"⟩
abbrev cX4_takeBack : ByteArray := prog_6_method_4_code
def yX4_takeBack : MethodName := ⟨RX4, "takeBack", "(LYarnMill$Stock;)V"⟩
abbrev cX4_forget : ByteArray := prog_6_method_5_code
def yX4_forget : MethodName := ⟨RX4, "forget", "()V"⟩
def RX5 : String := "YarnMill$Orders"
def TX5 : u_T := fun k => match k with
  | 0 => ("YarnMill$Orders", "ids", "LYarnMill$Row;", true)
  | 1 => ("YarnMill$Orders", "lengths", "LYarnMill$Row;", true)
  | 2 => ("YarnMill$Orders", "twists", "LYarnMill$Row;", true)
  | 3 => ("YarnMill$Orders", "minutes", "LYarnMill$Row;", true)
  | _ => ("YarnMill$Orders", "nextId", "I", false)
def tyX5 : Nat → FieldType := fun k => match k with
  | 0 => .object "YarnMill$Row"
  | 1 => .object "YarnMill$Row"
  | 2 => .object "YarnMill$Row"
  | 3 => .object "YarnMill$Row"
  | _ => .int
theorem nmX5 : ∀ a, a < 5 → ∀ b, b < 5 → a ≠ b → (TX5 a).2.1 ≠ (TX5 b).2.1 := by decide +kernel
theorem tyX5_ok : ∀ k, k < 5 → parseFieldDescriptor (TX5 k).2.2.1 = some (tyX5 k) := by decide +kernel
abbrev cX5_init : ByteArray := prog_7_method_1_code
def yX5_init : MethodName := ⟨RX5, "<init>", "()V"⟩
abbrev cX5_refusalOfOpening : ByteArray := prog_7_method_2_code
def yX5_refusalOfOpening : MethodName := ⟨RX5, "refusalOfOpening", "(II)LYarnMill$Refusal;"⟩
abbrev cX5_open : ByteArray := prog_7_method_3_code
def yX5_open : MethodName := ⟨RX5, "open", "(II)I"⟩
abbrev cX5_close : ByteArray := prog_7_method_4_code
def yX5_close : MethodName := ⟨RX5, "close", "(I)I"⟩
abbrev cX5_breakAt : ByteArray := prog_7_method_5_code
def yX5_breakAt : MethodName := ⟨RX5, "breakAt", "(I)I"⟩
abbrev cX5_piecesAt : ByteArray := prog_7_method_6_code
def yX5_piecesAt : MethodName := ⟨RX5, "piecesAt", "(I)I"⟩
abbrev cX5_countKinds : ByteArray := prog_7_method_7_code
def yX5_countKinds : MethodName := ⟨RX5, "countKinds", "()I"⟩
abbrev cX5_isFirstOfKind : ByteArray := prog_7_method_8_code
def yX5_isFirstOfKind : MethodName := ⟨RX5, "isFirstOfKind", "(I)Z"⟩
abbrev cX5_putKeys : ByteArray := prog_7_method_9_code
def yX5_putKeys : MethodName := ⟨RX5, "putKeys", "(LYarnMill$Row;)V"⟩
abbrev cX5_copyFrom : ByteArray := prog_7_method_10_code
def yX5_copyFrom : MethodName := ⟨RX5, "copyFrom", "(LYarnMill$Orders;)V"⟩
def RX6 : String := "YarnMill$Refusal"
def TX6 : u_T := fun k => match k with
  | _ => ("", "", "", false)
def tyX6 : Nat → FieldType := fun k => match k with
  | _ => .int
theorem nmX6 : ∀ a, a < 0 → ∀ b, b < 0 → a ≠ b → (TX6 a).2.1 ≠ (TX6 b).2.1 := by decide +kernel
theorem tyX6_ok : ∀ k, k < 0 → parseFieldDescriptor (TX6 k).2.2.1 = some (tyX6 k) := by decide +kernel
def RX7 : String := "YarnMill$Row"
def TX7 : u_T := fun k => match k with
  | 0 => ("YarnMill$Row", "cells", "[I", true)
  | _ => ("YarnMill$Row", "size", "I", false)
def tyX7 : Nat → FieldType := fun k => match k with
  | 0 => .array .int
  | _ => .int
theorem nmX7 : ∀ a, a < 2 → ∀ b, b < 2 → a ≠ b → (TX7 a).2.1 ≠ (TX7 b).2.1 := by decide +kernel
theorem tyX7_ok : ∀ k, k < 2 → parseFieldDescriptor (TX7 k).2.2.1 = some (tyX7 k) := by decide +kernel
abbrev cX7_init : ByteArray := prog_9_method_1_code
def yX7_init : MethodName := ⟨RX7, "<init>", "(I)V"⟩
abbrev cX7_size : ByteArray := prog_9_method_2_code
def yX7_size : MethodName := ⟨RX7, "size", "()I"⟩
abbrev cX7_isFull : ByteArray := prog_9_method_3_code
def yX7_isFull : MethodName := ⟨RX7, "isFull", "()Z"⟩
abbrev cX7_has : ByteArray := prog_9_method_4_code
def yX7_has : MethodName := ⟨RX7, "has", "(I)Z"⟩
abbrev cX7_hasPair : ByteArray := prog_9_method_5_code
def yX7_hasPair : MethodName := ⟨RX7, "hasPair", "(I)Z"⟩
abbrev cX7_get : ByteArray := prog_9_method_6_code
def yX7_get : MethodName := ⟨RX7, "get", "(I)I"⟩
abbrev cX7_put : ByteArray := prog_9_method_7_code
def yX7_put : MethodName := ⟨RX7, "put", "(II)V"⟩
abbrev cX7_add : ByteArray := prog_9_method_8_code
def yX7_add : MethodName := ⟨RX7, "add", "(I)V"⟩
abbrev cX7_removeAt : ByteArray := prog_9_method_9_code
def yX7_removeAt : MethodName := ⟨RX7, "removeAt", "(I)V"⟩
abbrev cX7_clear : ByteArray := prog_9_method_10_code
def yX7_clear : MethodName := ⟨RX7, "clear", "()V"⟩
abbrev cX7_copyFrom : ByteArray := prog_9_method_11_code
def yX7_copyFrom : MethodName := ⟨RX7, "copyFrom", "(LYarnMill$Row;)V"⟩
abbrev cX7_find : ByteArray := prog_9_method_12_code
def yX7_find : MethodName := ⟨RX7, "find", "(I)I"⟩
abbrev cX7_sum : ByteArray := prog_9_method_13_code
def yX7_sum : MethodName := ⟨RX7, "sum", "()I"⟩
abbrev cX7_positionOfLargest : ByteArray := prog_9_method_14_code
def yX7_positionOfLargest : MethodName := ⟨RX7, "positionOfLargest", "()I"⟩
abbrev cX7_findRank : ByteArray := prog_9_method_15_code
def yX7_findRank : MethodName := ⟨RX7, "findRank", "(I)I"⟩
abbrev cX7_countAhead : ByteArray := prog_9_method_16_code
def yX7_countAhead : MethodName := ⟨RX7, "countAhead", "(I)I"⟩
def RX8 : String := "YarnMill$Script"
def TX8 : u_T := fun k => match k with
  | 0 => ("YarnMill$Script", "signs", "Ljava/lang/StringBuilder;", true)
  | 1 => ("YarnMill$Script", "commands", "[LYarnMill$Command;", true)
  | 2 => ("YarnMill$Script", "numbers", "[I", true)
  | 3 => ("YarnMill$Script", "count", "I", false)
  | _ => ("YarnMill$Script", "at", "I", false)
def tyX8 : Nat → FieldType := fun k => match k with
  | 0 => .object "java/lang/StringBuilder"
  | 1 => .array (.object "YarnMill$Command")
  | 2 => .array .int
  | 3 => .int
  | _ => .int
theorem nmX8 : ∀ a, a < 5 → ∀ b, b < 5 → a ≠ b → (TX8 a).2.1 ≠ (TX8 b).2.1 := by decide +kernel
theorem tyX8_ok : ∀ k, k < 5 → parseFieldDescriptor (TX8 k).2.2.1 = some (tyX8 k) := by decide +kernel
abbrev cX8_init : ByteArray := prog_10_method_1_code
def yX8_init : MethodName := ⟨RX8, "<init>", "()V"⟩
abbrev cX8_isFull : ByteArray := prog_10_method_2_code
def yX8_isFull : MethodName := ⟨RX8, "isFull", "()Z"⟩
abbrev cX8_append : ByteArray := prog_10_method_3_code
def yX8_append : MethodName := ⟨RX8, "append", "(C)I"⟩
abbrev cX8_empty : ByteArray := prog_10_method_4_code
def yX8_empty : MethodName := ⟨RX8, "empty", "()V"⟩
abbrev cX8_count : ByteArray := prog_10_method_5_code
def yX8_count : MethodName := ⟨RX8, "count", "()I"⟩
abbrev cX8_commandAt : ByteArray := prog_10_method_6_code
def yX8_commandAt : MethodName := ⟨RX8, "commandAt", "(I)LYarnMill$Command;"⟩
abbrev cX8_numberAt : ByteArray := prog_10_method_7_code
def yX8_numberAt : MethodName := ⟨RX8, "numberAt", "(II)I"⟩
abbrev cX8_readForm : ByteArray := prog_10_method_8_code
def yX8_readForm : MethodName := ⟨RX8, "readForm", "()I"⟩
abbrev cX8_readCommand : ByteArray := prog_10_method_9_code
def yX8_readCommand : MethodName := ⟨RX8, "readCommand", "()Z"⟩
abbrev cX8_readWord : ByteArray := prog_10_method_10_code
def yX8_readWord : MethodName := ⟨RX8, "readWord", "()LYarnMill$Command;"⟩
abbrev cX8_countSameSigns : ByteArray := prog_10_method_11_code
def yX8_countSameSigns : MethodName := ⟨RX8, "countSameSigns", "(Ljava/lang/String;)I"⟩
abbrev cX8_readNumber : ByteArray := prog_10_method_12_code
def yX8_readNumber : MethodName := ⟨RX8, "readNumber", "(II)Z"⟩
abbrev cX8_readSign : ByteArray := prog_10_method_13_code
def yX8_readSign : MethodName := ⟨RX8, "readSign", "(C)Z"⟩
abbrev cX8_isSign : ByteArray := prog_10_method_14_code
def yX8_isSign : MethodName := ⟨RX8, "isSign", "(IC)Z"⟩
abbrev cX8_isDigit : ByteArray := prog_10_method_15_code
def yX8_isDigit : MethodName := ⟨RX8, "isDigit", "(I)Z"⟩
def RX9 : String := "YarnMill$SpliceFinder"
def TX9 : u_T := fun k => match k with
  | 0 => ("YarnMill$SpliceFinder", "table", "[I", true)
  | _ => ("YarnMill$SpliceFinder", "memory", "[I", true)
def tyX9 : Nat → FieldType := fun k => match k with
  | 0 => .array .int
  | _ => .array .int
theorem nmX9 : ∀ a, a < 2 → ∀ b, b < 2 → a ≠ b → (TX9 a).2.1 ≠ (TX9 b).2.1 := by decide +kernel
theorem tyX9_ok : ∀ k, k < 2 → parseFieldDescriptor (TX9 k).2.2.1 = some (tyX9 k) := by decide +kernel
abbrev cX9_init : ByteArray := prog_11_method_1_code
def yX9_init : MethodName := ⟨RX9, "<init>", "()V"⟩
abbrev cX9_costByTable : ByteArray := prog_11_method_2_code
def yX9_costByTable : MethodName := ⟨RX9, "costByTable", "(LYarnMill$Row;)I"⟩
abbrev cX9_leastOfTable : ByteArray := prog_11_method_3_code
def yX9_leastOfTable : MethodName := ⟨RX9, "leastOfTable", "(II)I"⟩
abbrev cX9_costByMemory : ByteArray := prog_11_method_4_code
def yX9_costByMemory : MethodName := ⟨RX9, "costByMemory", "(LYarnMill$Row;)I"⟩
abbrev cX9_divide : ByteArray := prog_11_method_5_code
def yX9_divide : MethodName := ⟨RX9, "divide", "([ILYarnMill$Row;II)I"⟩
abbrev cX9_lastSplice : ByteArray := prog_11_method_6_code
def yX9_lastSplice : MethodName := ⟨RX9, "lastSplice", "(III)I"⟩
abbrev cX9_cell : ByteArray := prog_11_method_7_code
def yX9_cell : MethodName := ⟨RX9, "cell", "(II)I"⟩
def RX10 : String := "YarnMill$Stock"
def TX10 : u_T := fun k => match k with
  | 0 => ("YarnMill$Stock", "bales", "LYarnMill$Bales;", true)
  | 1 => ("YarnMill$Stock", "orders", "LYarnMill$Orders;", true)
  | 2 => ("YarnMill$Stock", "pieces", "LYarnMill$Row;", true)
  | 3 => ("YarnMill$Stock", "roving", "I", false)
  | 4 => ("YarnMill$Stock", "machines", "I", false)
  | 5 => ("YarnMill$Stock", "clock", "I", false)
  | 6 => ("YarnMill$Stock", "coins", "I", false)
  | 7 => ("YarnMill$Stock", "paid", "I", false)
  | 8 => ("YarnMill$Stock", "earned", "I", false)
  | 9 => ("YarnMill$Stock", "spun", "I", false)
  | 10 => ("YarnMill$Stock", "waste", "I", false)
  | _ => ("YarnMill$Stock", "sold", "I", false)
def tyX10 : Nat → FieldType := fun k => match k with
  | 0 => .object "YarnMill$Bales"
  | 1 => .object "YarnMill$Orders"
  | 2 => .object "YarnMill$Row"
  | 3 => .int
  | 4 => .int
  | 5 => .int
  | 6 => .int
  | 7 => .int
  | 8 => .int
  | 9 => .int
  | 10 => .int
  | _ => .int
theorem nmX10 : ∀ a, a < 12 → ∀ b, b < 12 → a ≠ b → (TX10 a).2.1 ≠ (TX10 b).2.1 := by decide +kernel
theorem tyX10_ok : ∀ k, k < 12 → parseFieldDescriptor (TX10 k).2.2.1 = some (tyX10 k) := by decide +kernel
abbrev cX10_init : ByteArray := prog_12_method_1_code
def yX10_init : MethodName := ⟨RX10, "<init>", "()V"⟩
abbrev cX10_refusalOfBuying : ByteArray := prog_12_method_2_code
def yX10_refusalOfBuying : MethodName := ⟨RX10, "refusalOfBuying", "(III)LYarnMill$Refusal;"⟩
abbrev cX10_takeBale : ByteArray := prog_12_method_3_code
def yX10_takeBale : MethodName := ⟨RX10, "takeBale", "(III)I"⟩
abbrev cX10_useBales : ByteArray := prog_12_method_4_code
def yX10_useBales : MethodName := ⟨RX10, "useBales", "(I)I"⟩
abbrev cX10_changeMachines : ByteArray := prog_12_method_5_code
def yX10_changeMachines : MethodName := ⟨RX10, "changeMachines", "(I)I"⟩
abbrev cX10_refusalOfSpinning : ByteArray := prog_12_method_6_code
def yX10_refusalOfSpinning : MethodName := ⟨RX10, "refusalOfSpinning", "(I)LYarnMill$Refusal;"⟩
abbrev cX10_spinAt : ByteArray := prog_12_method_7_code
def yX10_spinAt : MethodName := ⟨RX10, "spinAt", "(I)I"⟩
abbrev cX10_spliceAt : ByteArray := prog_12_method_8_code
def yX10_spliceAt : MethodName := ⟨RX10, "spliceAt", "(I)I"⟩
abbrev cX10_joinPieces : ByteArray := prog_12_method_9_code
def yX10_joinPieces : MethodName := ⟨RX10, "joinPieces", "(I)I"⟩
abbrev cX10_worthAt : ByteArray := prog_12_method_10_code
def yX10_worthAt : MethodName := ⟨RX10, "worthAt", "(I)I"⟩
abbrev cX10_sellAt : ByteArray := prog_12_method_11_code
def yX10_sellAt : MethodName := ⟨RX10, "sellAt", "(I)I"⟩
abbrev cX10_accountedCoins : ByteArray := prog_12_method_13_code
def yX10_accountedCoins : MethodName := ⟨RX10, "accountedCoins", "()I"⟩
abbrev cX10_accountedLength : ByteArray := prog_12_method_14_code
def yX10_accountedLength : MethodName := ⟨RX10, "accountedLength", "()I"⟩
abbrev cX10_copyFrom : ByteArray := prog_12_method_15_code
def yX10_copyFrom : MethodName := ⟨RX10, "copyFrom", "(LYarnMill$Stock;)V"⟩
def RX11 : String := "YarnMill$TimeFinder"
def TX11 : u_T := fun k => match k with
  | 0 => ("YarnMill$TimeFinder", "sums", "[I", true)
  | 1 => ("YarnMill$TimeFinder", "least", "[I", true)
  | 2 => ("YarnMill$TimeFinder", "loads", "LYarnMill$Row;", true)
  | _ => ("YarnMill$TimeFinder", "shortest", "I", false)
def tyX11 : Nat → FieldType := fun k => match k with
  | 0 => .array .int
  | 1 => .array .int
  | 2 => .object "YarnMill$Row"
  | _ => .int
theorem nmX11 : ∀ a, a < 4 → ∀ b, b < 4 → a ≠ b → (TX11 a).2.1 ≠ (TX11 b).2.1 := by decide +kernel
theorem tyX11_ok : ∀ k, k < 4 → parseFieldDescriptor (TX11 k).2.2.1 = some (tyX11 k) := by decide +kernel
abbrev cX11_init : ByteArray := prog_13_method_1_code
def yX11_init : MethodName := ⟨RX11, "<init>", "()V"⟩
abbrev cX11_shortestBySets : ByteArray := prog_13_method_2_code
def yX11_shortestBySets : MethodName := ⟨RX11, "shortestBySets", "(LYarnMill$Orders;I)I"⟩
abbrev cX11_addUpSets : ByteArray := prog_13_method_3_code
def yX11_addUpSets : MethodName := ⟨RX11, "addUpSets", "(LYarnMill$Orders;)V"⟩
abbrev cX11_leastWithOneMore : ByteArray := prog_13_method_4_code
def yX11_leastWithOneMore : MethodName := ⟨RX11, "leastWithOneMore", "(I)I"⟩
abbrev cX11_shortestBySearch : ByteArray := prog_13_method_5_code
def yX11_shortestBySearch : MethodName := ⟨RX11, "shortestBySearch", "(LYarnMill$Orders;I)I"⟩
abbrev cX11_search : ByteArray := prog_13_method_6_code
def yX11_search : MethodName := ⟨RX11, "search", "(LYarnMill$TimeFinder;LYarnMill$Orders;II)V"⟩
def RX12 : String := "YarnMill"
def TX12 : u_T := fun k => match k with
  | 0 => ("YarnMill", "stock", "LYarnMill$Stock;", true)
  | 1 => ("YarnMill", "beforeScript", "LYarnMill$Stock;", true)
  | 2 => ("YarnMill", "snapshot", "LYarnMill$Stock;", true)
  | 3 => ("YarnMill", "hasSnapshot", "Z", false)
  | 4 => ("YarnMill", "history", "LYarnMill$History;", true)
  | 5 => ("YarnMill", "blends", "LYarnMill$BlendFinder;", true)
  | 6 => ("YarnMill", "times", "LYarnMill$TimeFinder;", true)
  | 7 => ("YarnMill", "splices", "LYarnMill$SpliceFinder;", true)
  | 8 => ("YarnMill", "keys", "LYarnMill$Row;", true)
  | 9 => ("YarnMill", "script", "LYarnMill$Script;", true)
  | 10 => ("YarnMill", "output", "Ljava/lang/StringBuilder;", true)
  | 11 => ("YarnMill", "errorAt", "I", false)
  | _ => ("YarnMill", "failedAt", "I", false)
def tyX12 : Nat → FieldType := fun k => match k with
  | 0 => .object "YarnMill$Stock"
  | 1 => .object "YarnMill$Stock"
  | 2 => .object "YarnMill$Stock"
  | 3 => .boolean
  | 4 => .object "YarnMill$History"
  | 5 => .object "YarnMill$BlendFinder"
  | 6 => .object "YarnMill$TimeFinder"
  | 7 => .object "YarnMill$SpliceFinder"
  | 8 => .object "YarnMill$Row"
  | 9 => .object "YarnMill$Script"
  | 10 => .object "java/lang/StringBuilder"
  | 11 => .int
  | _ => .int
theorem nmX12 : ∀ a, a < 13 → ∀ b, b < 13 → a ≠ b → (TX12 a).2.1 ≠ (TX12 b).2.1 := by decide +kernel
theorem tyX12_ok : ∀ k, k < 13 → parseFieldDescriptor (TX12 k).2.2.1 = some (tyX12 k) := by decide +kernel
abbrev cX12_init : ByteArray := prog_1_method_1_code
def yX12_init : MethodName := ⟨RX12, "<init>", "()V"⟩
abbrev cX12_buyBale : ByteArray := prog_1_method_2_code
def yX12_buyBale : MethodName := ⟨RX12, "buyBale", "(III)I"⟩
abbrev cX12_blend : ByteArray := prog_1_method_3_code
def yX12_blend : MethodName := ⟨RX12, "blend", "(II)I"⟩
abbrev cX12_addOrder : ByteArray := prog_1_method_4_code
def yX12_addOrder : MethodName := ⟨RX12, "addOrder", "(II)I"⟩
abbrev cX12_cancelOrder : ByteArray := prog_1_method_5_code
def yX12_cancelOrder : MethodName := ⟨RX12, "cancelOrder", "(I)I"⟩
abbrev cX12_setMachines : ByteArray := prog_1_method_6_code
def yX12_setMachines : MethodName := ⟨RX12, "setMachines", "(I)I"⟩
abbrev cX12_spin : ByteArray := prog_1_method_7_code
def yX12_spin : MethodName := ⟨RX12, "spin", "(I)I"⟩
abbrev cX12_splice : ByteArray := prog_1_method_8_code
def yX12_splice : MethodName := ⟨RX12, "splice", "(I)I"⟩
abbrev cX12_spliceAll : ByteArray := prog_1_method_9_code
def yX12_spliceAll : MethodName := ⟨RX12, "spliceAll", "()I"⟩
abbrev cX12_sell : ByteArray := prog_1_method_10_code
def yX12_sell : MethodName := ⟨RX12, "sell", "(I)I"⟩
abbrev cX12_baleCount : ByteArray := prog_1_method_11_code
def yX12_baleCount : MethodName := ⟨RX12, "baleCount", "()I"⟩
abbrev cX12_baleAt : ByteArray := prog_1_method_12_code
def yX12_baleAt : MethodName := ⟨RX12, "baleAt", "(I)I"⟩
abbrev cX12_weight : ByteArray := prog_1_method_13_code
def yX12_weight : MethodName := ⟨RX12, "weight", "(I)I"⟩
abbrev cX12_staple : ByteArray := prog_1_method_14_code
def yX12_staple : MethodName := ⟨RX12, "staple", "(I)I"⟩
abbrev cX12_price : ByteArray := prog_1_method_15_code
def yX12_price : MethodName := ⟨RX12, "price", "(I)I"⟩
abbrev cX12_blendValue : ByteArray := prog_1_method_17_code
def yX12_blendValue : MethodName := ⟨RX12, "blendValue", "(II)I"⟩
abbrev cX12_blendValueBySearch : ByteArray := prog_1_method_18_code
def yX12_blendValueBySearch : MethodName := ⟨RX12, "blendValueBySearch", "(II)I"⟩
abbrev cX12_isInBlend : ByteArray := prog_1_method_19_code
def yX12_isInBlend : MethodName := ⟨RX12, "isInBlend", "(III)Z"⟩
abbrev cX12_orderCount : ByteArray := prog_1_method_20_code
def yX12_orderCount : MethodName := ⟨RX12, "orderCount", "()I"⟩
abbrev cX12_orderAt : ByteArray := prog_1_method_21_code
def yX12_orderAt : MethodName := ⟨RX12, "orderAt", "(I)I"⟩
abbrev cX12_lengthOf : ByteArray := prog_1_method_22_code
def yX12_lengthOf : MethodName := ⟨RX12, "lengthOf", "(I)I"⟩
abbrev cX12_twistOf : ByteArray := prog_1_method_23_code
def yX12_twistOf : MethodName := ⟨RX12, "twistOf", "(I)I"⟩
abbrev cX12_minutesOf : ByteArray := prog_1_method_24_code
def yX12_minutesOf : MethodName := ⟨RX12, "minutesOf", "(I)I"⟩
abbrev cX12_canSpin : ByteArray := prog_1_method_25_code
def yX12_canSpin : MethodName := ⟨RX12, "canSpin", "(I)Z"⟩
abbrev cX12_kinds : ByteArray := prog_1_method_26_code
def yX12_kinds : MethodName := ⟨RX12, "kinds", "()I"⟩
abbrev cX12_orderByTime : ByteArray := prog_1_method_27_code
def yX12_orderByTime : MethodName := ⟨RX12, "orderByTime", "(I)I"⟩
abbrev cX12_shortestTime : ByteArray := prog_1_method_28_code
def yX12_shortestTime : MethodName := ⟨RX12, "shortestTime", "()I"⟩
abbrev cX12_shortestTimeBySearch : ByteArray := prog_1_method_29_code
def yX12_shortestTimeBySearch : MethodName := ⟨RX12, "shortestTimeBySearch", "()I"⟩
abbrev cX12_pieceCount : ByteArray := prog_1_method_30_code
def yX12_pieceCount : MethodName := ⟨RX12, "pieceCount", "()I"⟩
abbrev cX12_pieceLength : ByteArray := prog_1_method_31_code
def yX12_pieceLength : MethodName := ⟨RX12, "pieceLength", "(I)I"⟩
abbrev cX12_longestPiece : ByteArray := prog_1_method_32_code
def yX12_longestPiece : MethodName := ⟨RX12, "longestPiece", "()I"⟩
abbrev cX12_pieceByLength : ByteArray := prog_1_method_33_code
def yX12_pieceByLength : MethodName := ⟨RX12, "pieceByLength", "(I)I"⟩
abbrev cX12_worthOf : ByteArray := prog_1_method_34_code
def yX12_worthOf : MethodName := ⟨RX12, "worthOf", "(I)I"⟩
abbrev cX12_spliceCost : ByteArray := prog_1_method_35_code
def yX12_spliceCost : MethodName := ⟨RX12, "spliceCost", "()I"⟩
abbrev cX12_spliceCostByMemory : ByteArray := prog_1_method_36_code
def yX12_spliceCostByMemory : MethodName := ⟨RX12, "spliceCostByMemory", "()I"⟩
abbrev cX12_roving : ByteArray := prog_1_method_37_code
def yX12_roving : MethodName := ⟨RX12, "roving", "()I"⟩
abbrev cX12_machines : ByteArray := prog_1_method_38_code
def yX12_machines : MethodName := ⟨RX12, "machines", "()I"⟩
abbrev cX12_clock : ByteArray := prog_1_method_39_code
def yX12_clock : MethodName := ⟨RX12, "clock", "()I"⟩
abbrev cX12_coins : ByteArray := prog_1_method_40_code
def yX12_coins : MethodName := ⟨RX12, "coins", "()I"⟩
abbrev cX12_coinsByAccounts : ByteArray := prog_1_method_41_code
def yX12_coinsByAccounts : MethodName := ⟨RX12, "coinsByAccounts", "()I"⟩
abbrev cX12_spunTotal : ByteArray := prog_1_method_42_code
def yX12_spunTotal : MethodName := ⟨RX12, "spunTotal", "()I"⟩
abbrev cX12_wasteTotal : ByteArray := prog_1_method_43_code
def yX12_wasteTotal : MethodName := ⟨RX12, "wasteTotal", "()I"⟩
abbrev cX12_soldTotal : ByteArray := prog_1_method_44_code
def yX12_soldTotal : MethodName := ⟨RX12, "soldTotal", "()I"⟩
abbrev cX12_shelfLength : ByteArray := prog_1_method_45_code
def yX12_shelfLength : MethodName := ⟨RX12, "shelfLength", "()I"⟩
abbrev cX12_shelfLengthByAccounts : ByteArray := prog_1_method_46_code
def yX12_shelfLengthByAccounts : MethodName := ⟨RX12, "shelfLengthByAccounts", "()I"⟩
abbrev cX12_isConsistent : ByteArray := prog_1_method_49_code
def yX12_isConsistent : MethodName := ⟨RX12, "isConsistent", "()Z"⟩
abbrev cX12_renderShelf : ByteArray := prog_1_method_50_code
def yX12_renderShelf : MethodName := ⟨RX12, "renderShelf", "()I"⟩
abbrev cX12_type : ByteArray := prog_1_method_53_code
def yX12_type : MethodName := ⟨RX12, "type", "(C)I"⟩
abbrev cX12_runScript : ByteArray := prog_1_method_54_code
def yX12_runScript : MethodName := ⟨RX12, "runScript", "()I"⟩
abbrev cX12_undo : ByteArray := prog_1_method_57_code
def yX12_undo : MethodName := ⟨RX12, "undo", "()I"⟩
abbrev cX12_save : ByteArray := prog_1_method_58_code
def yX12_save : MethodName := ⟨RX12, "save", "()I"⟩
abbrev cX12_restore : ByteArray := prog_1_method_59_code
def yX12_restore : MethodName := ⟨RX12, "restore", "()I"⟩
abbrev cX12_change : ByteArray := prog_1_method_60_code
def yX12_change : MethodName := ⟨RX12, "change", "(LYarnMill$Command;III)I"⟩
abbrev cX12_throwFor : ByteArray := prog_1_method_61_code
def yX12_throwFor : MethodName := ⟨RX12, "throwFor", "(LYarnMill$Refusal;)V"⟩
abbrev cX12_refusalOf : ByteArray := prog_1_method_62_code
def yX12_refusalOf : MethodName := ⟨RX12, "refusalOf", "(LYarnMill$Command;III)LYarnMill$Refusal;"⟩
abbrev cX12_carryOut : ByteArray := prog_1_method_63_code
def yX12_carryOut : MethodName := ⟨RX12, "carryOut", "(LYarnMill$Command;III)I"⟩
abbrev cX12_refusalOfBlending : ByteArray := prog_1_method_64_code
def yX12_refusalOfBlending : MethodName := ⟨RX12, "refusalOfBlending", "(II)LYarnMill$Refusal;"⟩
abbrev cX12_runCommands : ByteArray := prog_1_method_65_code
def yX12_runCommands : MethodName := ⟨RX12, "runCommands", "()I"⟩
abbrev cX12_positionOfBale : ByteArray := prog_1_method_66_code
def yX12_positionOfBale : MethodName := ⟨RX12, "positionOfBale", "(I)I"⟩
abbrev cX12_positionOfOrder : ByteArray := prog_1_method_67_code
def yX12_positionOfOrder : MethodName := ⟨RX12, "positionOfOrder", "(I)I"⟩
abbrev cX12_positionAtRank : ByteArray := prog_1_method_68_code
def yX12_positionAtRank : MethodName := ⟨RX12, "positionAtRank", "(LYarnMill$Row;I)I"⟩
abbrev cX12_testPiece : ByteArray := prog_1_method_69_code
def yX12_testPiece : MethodName := ⟨RX12, "testPiece", "(I)V"⟩
abbrev cX12_testBlend : ByteArray := prog_1_method_71_code
def yX12_testBlend : MethodName := ⟨RX12, "testBlend", "(II)V"⟩
abbrev cX12_blendValueFound : ByteArray := prog_1_method_72_code
def yX12_blendValueFound : MethodName := ⟨RX12, "blendValueFound", "(I)I"⟩
abbrev cX12_blendWaysAgree : ByteArray := prog_1_method_73_code
def yX12_blendWaysAgree : MethodName := ⟨RX12, "blendWaysAgree", "(II)Z"⟩
abbrev cX12_canBeBlend : ByteArray := prog_1_method_74_code
def yX12_canBeBlend : MethodName := ⟨RX12, "canBeBlend", "(II)Z"⟩
abbrev cX12_isBetween : ByteArray := prog_1_method_75_code
def yX12_isBetween : MethodName := ⟨RX12, "isBetween", "(III)Z"⟩
def RX13 : String := "YarnMillModel"
def TX13 : u_T := fun k => match k with
  | _ => ("", "", "", false)
def tyX13 : Nat → FieldType := fun k => match k with
  | _ => .int
theorem nmX13 : ∀ a, a < 0 → ∀ b, b < 0 → a ≠ b → (TX13 a).2.1 ≠ (TX13 b).2.1 := by decide +kernel
theorem tyX13_ok : ∀ k, k < 0 → parseFieldDescriptor (TX13 k).2.2.1 = some (tyX13 k) := by decide +kernel
def RJx145de : String := "java/io/Serializable"
def TJx145de : u_T := fun k => match k with
  | _ => ("", "", "", false)
def tyJx145de : Nat → FieldType := fun k => match k with
  | _ => .int
theorem nmJx145de : ∀ a, a < 0 → ∀ b, b < 0 → a ≠ b → (TJx145de a).2.1 ≠ (TJx145de b).2.1 := by decide +kernel
theorem tyJx145de_ok : ∀ k, k < 0 → parseFieldDescriptor (TJx145de k).2.2.1 = some (tyJx145de k) := by decide +kernel
def RJ5 : String := "java/lang/AbstractStringBuilder"
def TJ5 : u_T := fun k => match k with
  | _ => ("", "", "", false)
def tyJ5 : Nat → FieldType := fun k => match k with
  | _ => .int
theorem nmJ5 : ∀ a, a < 0 → ∀ b, b < 0 → a ≠ b → (TJ5 a).2.1 ≠ (TJ5 b).2.1 := by decide +kernel
theorem tyJ5_ok : ∀ k, k < 0 → parseFieldDescriptor (TJ5 k).2.2.1 = some (tyJ5 k) := by decide +kernel
abbrev cJ5_init_d00df : ByteArray := prog_17_method_2_code
def yJ5_init_d00df : MethodName := ⟨RJ5, "<init>", "(I)V"⟩
abbrev cJ5_length_8abf5 : ByteArray := prog_17_method_6_code
def yJ5_length_8abf5 : MethodName := ⟨RJ5, "length", "()I"⟩
abbrev cJ5_ensureCapacityInternal_d00df : ByteArray := prog_17_method_9_code
def yJ5_ensureCapacityInternal_d00df : MethodName := ⟨RJ5, "ensureCapacityInternal", "(I)V"⟩
abbrev cJ5_newCapacity_0f7a4 : ByteArray := prog_17_method_10_code
def yJ5_newCapacity_0f7a4 : MethodName := ⟨RJ5, "newCapacity", "(I)I"⟩
abbrev cJ5_inflate_da8c8 : ByteArray := prog_17_method_11_code
def yJ5_inflate_da8c8 : MethodName := ⟨RJ5, "inflate", "()V"⟩
abbrev cJ5_setLength_d00df : ByteArray := prog_17_method_13_code
def yJ5_setLength_d00df : MethodName := ⟨RJ5, "setLength", "(I)V"⟩
abbrev cJ5_charAt_5068e : ByteArray := prog_17_method_14_code
def yJ5_charAt_5068e : MethodName := ⟨RJ5, "charAt", "(I)C"⟩
abbrev cJ5_append_cf1ce : ByteArray := prog_17_method_22_code
def yJ5_append_cf1ce : MethodName := ⟨RJ5, "append", "(Ljava/lang/String;)Ljava/lang/AbstractStringBuilder;"⟩
abbrev cJ5_appendNull_278bc : ByteArray := prog_17_method_26_code
def yJ5_appendNull_278bc : MethodName := ⟨RJ5, "appendNull", "()Ljava/lang/AbstractStringBuilder;"⟩
abbrev cJ5_append_3fe6f : ByteArray := prog_17_method_31_code
def yJ5_append_3fe6f : MethodName := ⟨RJ5, "append", "(C)Ljava/lang/AbstractStringBuilder;"⟩
abbrev cJ5_append_c97b9 : ByteArray := prog_17_method_32_code
def yJ5_append_c97b9 : MethodName := ⟨RJ5, "append", "(I)Ljava/lang/AbstractStringBuilder;"⟩
abbrev cJ5_getValue_6d5f1 : ByteArray := prog_17_method_64_code
def yJ5_getValue_6d5f1 : MethodName := ⟨RJ5, "getValue", "()[B"⟩
abbrev cJ5_isLatin1_aae02 : ByteArray := prog_17_method_68_code
def yJ5_isLatin1_aae02 : MethodName := ⟨RJ5, "isLatin1", "()Z"⟩
abbrev cJ5_inflateIfNeededFor_a7421 : ByteArray := prog_17_method_71_code
def yJ5_inflateIfNeededFor_a7421 : MethodName := ⟨RJ5, "inflateIfNeededFor", "(Ljava/lang/String;)V"⟩
abbrev cJ5_putStringAt_47b60 : ByteArray := prog_17_method_73_code
def yJ5_putStringAt_47b60 : MethodName := ⟨RJ5, "putStringAt", "(ILjava/lang/String;)V"⟩
def RJx2cfe8 : String := "java/lang/Appendable"
def TJx2cfe8 : u_T := fun k => match k with
  | _ => ("", "", "", false)
def tyJx2cfe8 : Nat → FieldType := fun k => match k with
  | _ => .int
theorem nmJx2cfe8 : ∀ a, a < 0 → ∀ b, b < 0 → a ≠ b → (TJx2cfe8 a).2.1 ≠ (TJx2cfe8 b).2.1 := by decide +kernel
theorem tyJx2cfe8_ok : ∀ k, k < 0 → parseFieldDescriptor (TJx2cfe8 k).2.2.1 = some (tyJx2cfe8 k) := by decide +kernel
def RJx00060 : String := "java/lang/ArrayIndexOutOfBoundsException"
def TJx00060 : u_T := fun k => match k with
  | 0 => ("java/lang/Throwable", "cause", "Ljava/lang/Throwable;", false)
  | 1 => ("java/lang/Throwable", "stackTrace", "[Ljava/lang/StackTraceElement;", false)
  | 2 => ("java/lang/Throwable", "suppressedExceptions", "Ljava/util/List;", false)
  | 3 => ("java/lang/Throwable", "detailMessage", "Ljava/lang/String;", false)
  | 4 => ("java/lang/Throwable", "backtrace", "Ljava/lang/Object;", false)
  | _ => ("java/lang/Throwable", "depth", "I", false)
def tyJx00060 : Nat → FieldType := fun k => match k with
  | 0 => .object "java/lang/Throwable"
  | 1 => .array (.object "java/lang/StackTraceElement")
  | 2 => .object "java/util/List"
  | 3 => .object "java/lang/String"
  | 4 => .object "java/lang/Object"
  | _ => .int
theorem nmJx00060 : ∀ a, a < 6 → ∀ b, b < 6 → a ≠ b → (TJx00060 a).2.1 ≠ (TJx00060 b).2.1 := by decide +kernel
theorem tyJx00060_ok : ∀ k, k < 6 → parseFieldDescriptor (TJx00060 k).2.2.1 = some (tyJx00060 k) := by decide +kernel
abbrev cJx00060_init_a7421 : ByteArray := prog_19_method_2_code
def yJx00060_init_a7421 : MethodName := ⟨RJx00060, "<init>", "(Ljava/lang/String;)V"⟩
abbrev cJx00060_init_d00df : ByteArray := prog_19_method_3_code
def yJx00060_init_d00df : MethodName := ⟨RJx00060, "<init>", "(I)V"⟩
def RJx9f9b0 : String := "java/lang/CharSequence"
def TJx9f9b0 : u_T := fun k => match k with
  | _ => ("", "", "", false)
def tyJx9f9b0 : Nat → FieldType := fun k => match k with
  | _ => .int
theorem nmJx9f9b0 : ∀ a, a < 0 → ∀ b, b < 0 → a ≠ b → (TJx9f9b0 a).2.1 ≠ (TJx9f9b0 b).2.1 := by decide +kernel
theorem tyJx9f9b0_ok : ∀ k, k < 0 → parseFieldDescriptor (TJx9f9b0 k).2.2.1 = some (tyJx9f9b0 k) := by decide +kernel
def RJx8e188 : String := "java/lang/Cloneable"
def TJx8e188 : u_T := fun k => match k with
  | _ => ("", "", "", false)
def tyJx8e188 : Nat → FieldType := fun k => match k with
  | _ => .int
theorem nmJx8e188 : ∀ a, a < 0 → ∀ b, b < 0 → a ≠ b → (TJx8e188 a).2.1 ≠ (TJx8e188 b).2.1 := by decide +kernel
theorem tyJx8e188_ok : ∀ k, k < 0 → parseFieldDescriptor (TJx8e188 k).2.2.1 = some (tyJx8e188 k) := by decide +kernel
def RJxb160c : String := "java/lang/Comparable"
def TJxb160c : u_T := fun k => match k with
  | _ => ("", "", "", false)
def tyJxb160c : Nat → FieldType := fun k => match k with
  | _ => .int
theorem nmJxb160c : ∀ a, a < 0 → ∀ b, b < 0 → a ≠ b → (TJxb160c a).2.1 ≠ (TJxb160c b).2.1 := by decide +kernel
theorem tyJxb160c_ok : ∀ k, k < 0 → parseFieldDescriptor (TJxb160c k).2.2.1 = some (tyJxb160c k) := by decide +kernel
def RJx29ce0 : String := "java/lang/Enum"
def TJx29ce0 : u_T := fun k => match k with
  | _ => ("", "", "", false)
def tyJx29ce0 : Nat → FieldType := fun k => match k with
  | _ => .int
theorem nmJx29ce0 : ∀ a, a < 0 → ∀ b, b < 0 → a ≠ b → (TJx29ce0 a).2.1 ≠ (TJx29ce0 b).2.1 := by decide +kernel
theorem tyJx29ce0_ok : ∀ k, k < 0 → parseFieldDescriptor (TJx29ce0 k).2.2.1 = some (tyJx29ce0 k) := by decide +kernel
abbrev cJx29ce0_ordinal_8abf5 : ByteArray := prog_23_method_2_code
def yJx29ce0_ordinal_8abf5 : MethodName := ⟨RJx29ce0, "ordinal", "()I"⟩
def RJ6 : String := "java/lang/Integer"
def TJ6 : u_T := fun k => match k with
  | _ => ("", "", "", false)
def tyJ6 : Nat → FieldType := fun k => match k with
  | _ => .int
theorem nmJ6 : ∀ a, a < 0 → ∀ b, b < 0 → a ≠ b → (TJ6 a).2.1 ≠ (TJ6 b).2.1 := by decide +kernel
theorem tyJ6_ok : ∀ k, k < 0 → parseFieldDescriptor (TJ6 k).2.2.1 = some (tyJ6 k) := by decide +kernel
abbrev cJ6_getChars_ba4f3 : ByteArray := prog_28_method_12_code
def yJ6_getChars_ba4f3 : MethodName := ⟨RJ6, "getChars", "(II[B)I"⟩
abbrev cJ6_stringSize_0f7a4 : ByteArray := prog_28_method_13_code
def yJ6_stringSize_0f7a4 : MethodName := ⟨RJ6, "stringSize", "(I)I"⟩
def RJ9 : String := "java/lang/Math"
def TJ9 : u_T := fun k => match k with
  | _ => ("", "", "", false)
def tyJ9 : Nat → FieldType := fun k => match k with
  | _ => .int
theorem nmJ9 : ∀ a, a < 0 → ∀ b, b < 0 → a ≠ b → (TJ9 a).2.1 ≠ (TJ9 b).2.1 := by decide +kernel
theorem tyJ9_ok : ∀ k, k < 0 → parseFieldDescriptor (TJ9 k).2.2.1 = some (tyJ9 k) := by decide +kernel
abbrev cJ9_max_7cf53 : ByteArray := prog_29_method_65_code
def yJ9_max_7cf53 : MethodName := ⟨RJ9, "max", "(II)I"⟩
abbrev cJ9_min_7cf53 : ByteArray := prog_29_method_69_code
def yJ9_min_7cf53 : MethodName := ⟨RJ9, "min", "(II)I"⟩
def RJxd2413 : String := "java/lang/Number"
def TJxd2413 : u_T := fun k => match k with
  | _ => ("", "", "", false)
def tyJxd2413 : Nat → FieldType := fun k => match k with
  | _ => .int
theorem nmJxd2413 : ∀ a, a < 0 → ∀ b, b < 0 → a ≠ b → (TJxd2413 a).2.1 ≠ (TJxd2413 b).2.1 := by decide +kernel
theorem tyJxd2413_ok : ∀ k, k < 0 → parseFieldDescriptor (TJxd2413 k).2.2.1 = some (tyJxd2413 k) := by decide +kernel
def RJ0 : String := "java/lang/String"
def TJ0 : u_T := fun k => match k with
  | 0 => ("java/lang/String", "value", "[B", true)
  | 1 => ("java/lang/String", "coder", "B", true)
  | 2 => ("java/lang/String", "hash", "I", false)
  | _ => ("java/lang/String", "hashIsZero", "Z", false)
def tyJ0 : Nat → FieldType := fun k => match k with
  | 0 => .array .byte
  | 1 => .byte
  | 2 => .int
  | _ => .boolean
theorem nmJ0 : ∀ a, a < 4 → ∀ b, b < 4 → a ≠ b → (TJ0 a).2.1 ≠ (TJ0 b).2.1 := by decide +kernel
theorem tyJ0_ok : ∀ k, k < 4 → parseFieldDescriptor (TJ0 k).2.2.1 = some (tyJ0 k) := by decide +kernel
abbrev cJ0_init_81219 : ByteArray := prog_32_method_53_code
def yJ0_init_81219 : MethodName := ⟨RJ0, "<init>", "(Ljava/lang/StringBuilder;)V"⟩
abbrev cJ0_length_8abf5 : ByteArray := prog_32_method_54_code
def yJ0_length_8abf5 : MethodName := ⟨RJ0, "length", "()I"⟩
abbrev cJ0_charAt_5068e : ByteArray := prog_32_method_56_code
def yJ0_charAt_5068e : MethodName := ⟨RJ0, "charAt", "(I)C"⟩
abbrev cJ0_getBytes_840e7 : ByteArray := prog_32_method_147_code
def yJ0_getBytes_840e7 : MethodName := ⟨RJ0, "getBytes", "([BIB)V"⟩
abbrev cJ0_init_db425 : ByteArray := prog_32_method_150_code
def yJ0_init_db425 : MethodName := ⟨RJ0, "<init>", "(Ljava/lang/AbstractStringBuilder;Ljava/lang/Void;)V"⟩
abbrev cJ0_coder_7d493 : ByteArray := prog_32_method_152_code
def yJ0_coder_7d493 : MethodName := ⟨RJ0, "coder", "()B"⟩
abbrev cJ0_isLatin1_aae02 : ByteArray := prog_32_method_154_code
def yJ0_isLatin1_aae02 : MethodName := ⟨RJ0, "isLatin1", "()Z"⟩
abbrev cJ0_checkIndex_df160 : ByteArray := prog_32_method_155_code
def yJ0_checkIndex_df160 : MethodName := ⟨RJ0, "checkIndex", "(II)V"⟩
abbrev cJ0_checkBoundsOffCount_cabcc : ByteArray := prog_32_method_157_code
def yJ0_checkBoundsOffCount_cabcc : MethodName := ⟨RJ0, "checkBoundsOffCount", "(III)I"⟩
abbrev cJ0_checkBoundsBeginEnd_23922 : ByteArray := prog_32_method_158_code
def yJ0_checkBoundsBeginEnd_23922 : MethodName := ⟨RJ0, "checkBoundsBeginEnd", "(III)V"⟩
def RJ4 : String := "java/lang/StringBuilder"
def TJ4 : u_T := fun k => match k with
  | 0 => ("java/lang/AbstractStringBuilder", "value", "[B", false)
  | 1 => ("java/lang/AbstractStringBuilder", "coder", "B", false)
  | 2 => ("java/lang/AbstractStringBuilder", "maybeLatin1", "Z", false)
  | _ => ("java/lang/AbstractStringBuilder", "count", "I", false)
def tyJ4 : Nat → FieldType := fun k => match k with
  | 0 => .array .byte
  | 1 => .byte
  | 2 => .boolean
  | _ => .int
theorem nmJ4 : ∀ a, a < 4 → ∀ b, b < 4 → a ≠ b → (TJ4 a).2.1 ≠ (TJ4 b).2.1 := by decide +kernel
theorem tyJ4_ok : ∀ k, k < 4 → parseFieldDescriptor (TJ4 k).2.2.1 = some (tyJ4 k) := by decide +kernel
abbrev cJ4_init_da8c8 : ByteArray := prog_33_method_1_code
def yJ4_init_da8c8 : MethodName := ⟨RJ4, "<init>", "()V"⟩
abbrev cJ4_append_15ec4 : ByteArray := prog_33_method_7_code
def yJ4_append_15ec4 : MethodName := ⟨RJ4, "append", "(Ljava/lang/String;)Ljava/lang/StringBuilder;"⟩
abbrev cJ4_append_cf468 : ByteArray := prog_33_method_14_code
def yJ4_append_cf468 : MethodName := ⟨RJ4, "append", "(C)Ljava/lang/StringBuilder;"⟩
abbrev cJ4_append_bf812 : ByteArray := prog_33_method_15_code
def yJ4_append_bf812 : MethodName := ⟨RJ4, "append", "(I)Ljava/lang/StringBuilder;"⟩
abbrev cJ4_toString_0e30d : ByteArray := prog_33_method_42_code
def yJ4_toString_0e30d : MethodName := ⟨RJ4, "toString", "()Ljava/lang/String;"⟩
abbrev cJ4_charAt_5068e : ByteArray := prog_33_method_88_code
def yJ4_charAt_5068e : MethodName := ⟨RJ4, "charAt", "(I)C"⟩
abbrev cJ4_setLength_d00df : ByteArray := prog_33_method_89_code
def yJ4_setLength_d00df : MethodName := ⟨RJ4, "setLength", "(I)V"⟩
abbrev cJ4_length_8abf5 : ByteArray := prog_33_method_93_code
def yJ4_length_8abf5 : MethodName := ⟨RJ4, "length", "()I"⟩
def RJx7c733 : String := "java/lang/StringIndexOutOfBoundsException"
def TJx7c733 : u_T := fun k => match k with
  | 0 => ("java/lang/Throwable", "backtrace", "Ljava/lang/Object;", false)
  | 1 => ("java/lang/Throwable", "detailMessage", "Ljava/lang/String;", false)
  | 2 => ("java/lang/Throwable", "cause", "Ljava/lang/Throwable;", false)
  | 3 => ("java/lang/Throwable", "stackTrace", "[Ljava/lang/StackTraceElement;", false)
  | 4 => ("java/lang/Throwable", "depth", "I", false)
  | _ => ("java/lang/Throwable", "suppressedExceptions", "Ljava/util/List;", false)
def tyJx7c733 : Nat → FieldType := fun k => match k with
  | 0 => .object "java/lang/Object"
  | 1 => .object "java/lang/String"
  | 2 => .object "java/lang/Throwable"
  | 3 => .array (.object "java/lang/StackTraceElement")
  | 4 => .int
  | _ => .object "java/util/List"
theorem nmJx7c733 : ∀ a, a < 6 → ∀ b, b < 6 → a ≠ b → (TJx7c733 a).2.1 ≠ (TJx7c733 b).2.1 := by decide +kernel
theorem tyJx7c733_ok : ∀ k, k < 6 → parseFieldDescriptor (TJx7c733 k).2.2.1 = some (tyJx7c733 k) := by decide +kernel
abbrev cJx7c733_init_d00df : ByteArray := prog_34_method_3_code
def yJx7c733_init_d00df : MethodName := ⟨RJx7c733, "<init>", "(I)V"⟩
def RJ1 : String := "java/lang/StringLatin1"
def TJ1 : u_T := fun k => match k with
  | _ => ("", "", "", false)
def tyJ1 : Nat → FieldType := fun k => match k with
  | _ => .int
theorem nmJ1 : ∀ a, a < 0 → ∀ b, b < 0 → a ≠ b → (TJ1 a).2.1 ≠ (TJ1 b).2.1 := by decide +kernel
theorem tyJ1_ok : ∀ k, k < 0 → parseFieldDescriptor (TJ1 k).2.2.1 = some (tyJ1 k) := by decide +kernel
abbrev cJ1_charAt_3b067 : ByteArray := prog_35_method_2_code
def yJ1_charAt_3b067 : MethodName := ⟨RJ1, "charAt", "([BI)C"⟩
abbrev cJ1_canEncode_fc78d : ByteArray := prog_35_method_3_code
def yJ1_canEncode_fc78d : MethodName := ⟨RJ1, "canEncode", "(C)Z"⟩
abbrev cJ1_fillNull_b72d1 : ByteArray := prog_35_method_48_code
def yJ1_fillNull_b72d1 : MethodName := ⟨RJ1, "fillNull", "([BII)V"⟩
abbrev cJ1_inflate_0e8fd : ByteArray := prog_35_method_50_code
def yJ1_inflate_0e8fd : MethodName := ⟨RJ1, "inflate", "([BI[BII)V"⟩
def RJ2 : String := "java/lang/StringUTF16"
def TJ2 : u_T := fun k => match k with
  | _ => ("", "", "", false)
def tyJ2 : Nat → FieldType := fun k => match k with
  | _ => .int
theorem nmJ2 : ∀ a, a < 0 → ∀ b, b < 0 → a ≠ b → (TJ2 a).2.1 ≠ (TJ2 b).2.1 := by decide +kernel
theorem tyJ2_ok : ∀ k, k < 0 → parseFieldDescriptor (TJ2 k).2.2.1 = some (tyJ2 k) := by decide +kernel
abbrev cJ2_newBytesFor_77867 : ByteArray := prog_36_method_2_code
def yJ2_newBytesFor_77867 : MethodName := ⟨RJ2, "newBytesFor", "(I)[B"⟩
abbrev cJ2_newBytesLength_0f7a4 : ByteArray := prog_36_method_3_code
def yJ2_newBytesLength_0f7a4 : MethodName := ⟨RJ2, "newBytesLength", "(I)I"⟩
abbrev cJ2_putChar_b72d1 : ByteArray := prog_36_method_4_code
def yJ2_putChar_b72d1 : MethodName := ⟨RJ2, "putChar", "([BII)V"⟩
abbrev cJ2_getChar_3b067 : ByteArray := prog_36_method_5_code
def yJ2_getChar_3b067 : MethodName := ⟨RJ2, "getChar", "([BI)C"⟩
abbrev cJ2_length_9d52b : ByteArray := prog_36_method_6_code
def yJ2_length_9d52b : MethodName := ⟨RJ2, "length", "([B)I"⟩
abbrev cJ2_coderFromArrayLen_85cad : ByteArray := prog_36_method_15_code
def yJ2_coderFromArrayLen_85cad : MethodName := ⟨RJ2, "coderFromArrayLen", "([BI)B"⟩
abbrev cJ2_compress_39247 : ByteArray := prog_36_method_17_code
def yJ2_compress_39247 : MethodName := ⟨RJ2, "compress", "([BII)[B"⟩
abbrev cJ2_compress_5af95 : ByteArray := prog_36_method_22_code
def yJ2_compress_5af95 : MethodName := ⟨RJ2, "compress", "([BI[BII)I"⟩
abbrev cJ2_fillNull_b72d1 : ByteArray := prog_36_method_70_code
def yJ2_fillNull_b72d1 : MethodName := ⟨RJ2, "fillNull", "([BII)V"⟩
abbrev cJ2_putCharSB_b72d1 : ByteArray := prog_36_method_71_code
def yJ2_putCharSB_b72d1 : MethodName := ⟨RJ2, "putCharSB", "([BII)V"⟩
abbrev cJ2_getChars_46870 : ByteArray := prog_36_method_77_code
def yJ2_getChars_46870 : MethodName := ⟨RJ2, "getChars", "(III[B)I"⟩
abbrev cJ2_putCharsAt_cd4e5 : ByteArray := prog_36_method_81_code
def yJ2_putCharsAt_cd4e5 : MethodName := ⟨RJ2, "putCharsAt", "([BICCCC)I"⟩
abbrev cJ2_charAt_3b067 : ByteArray := prog_36_method_83_code
def yJ2_charAt_3b067 : MethodName := ⟨RJ2, "charAt", "([BI)C"⟩
abbrev cJ2_inflate_0e8fd : ByteArray := prog_36_method_86_code
def yJ2_inflate_0e8fd : MethodName := ⟨RJ2, "inflate", "([BI[BII)V"⟩
abbrev cJ2_getChars_ba4f3 : ByteArray := prog_36_method_89_code
def yJ2_getChars_ba4f3 : MethodName := ⟨RJ2, "getChars", "(II[B)I"⟩
abbrev cJ2_checkIndex_2214a : ByteArray := prog_36_method_91_code
def yJ2_checkIndex_2214a : MethodName := ⟨RJ2, "checkIndex", "(I[B)V"⟩
abbrev cJ2_checkBoundsBeginEnd_d044e : ByteArray := prog_36_method_93_code
def yJ2_checkBoundsBeginEnd_d044e : MethodName := ⟨RJ2, "checkBoundsBeginEnd", "(II[B)V"⟩
abbrev cJ2_checkBoundsOffCount_d044e : ByteArray := prog_36_method_94_code
def yJ2_checkBoundsOffCount_d044e : MethodName := ⟨RJ2, "checkBoundsOffCount", "(II[B)V"⟩
def RJ10 : String := "java/lang/System"
def TJ10 : u_T := fun k => match k with
  | _ => ("", "", "", false)
def tyJ10 : Nat → FieldType := fun k => match k with
  | _ => .int
theorem nmJ10 : ∀ a, a < 0 → ∀ b, b < 0 → a ≠ b → (TJ10 a).2.1 ≠ (TJ10 b).2.1 := by decide +kernel
theorem tyJ10_ok : ∀ k, k < 0 → parseFieldDescriptor (TJ10 k).2.2.1 = some (tyJ10 k) := by decide +kernel
def RJxfd54e : String := "java/lang/constant/Constable"
def TJxfd54e : u_T := fun k => match k with
  | _ => ("", "", "", false)
def tyJxfd54e : Nat → FieldType := fun k => match k with
  | _ => .int
theorem nmJxfd54e : ∀ a, a < 0 → ∀ b, b < 0 → a ≠ b → (TJxfd54e a).2.1 ≠ (TJxfd54e b).2.1 := by decide +kernel
theorem tyJxfd54e_ok : ∀ k, k < 0 → parseFieldDescriptor (TJxfd54e k).2.2.1 = some (tyJxfd54e k) := by decide +kernel
def RJx3cf43 : String := "java/lang/constant/ConstantDesc"
def TJx3cf43 : u_T := fun k => match k with
  | _ => ("", "", "", false)
def tyJx3cf43 : Nat → FieldType := fun k => match k with
  | _ => .int
theorem nmJx3cf43 : ∀ a, a < 0 → ∀ b, b < 0 → a ≠ b → (TJx3cf43 a).2.1 ≠ (TJx3cf43 b).2.1 := by decide +kernel
theorem tyJx3cf43_ok : ∀ k, k < 0 → parseFieldDescriptor (TJx3cf43 k).2.2.1 = some (tyJx3cf43 k) := by decide +kernel
def RJ7 : String := "java/util/Arrays"
def TJ7 : u_T := fun k => match k with
  | _ => ("", "", "", false)
def tyJ7 : Nat → FieldType := fun k => match k with
  | _ => .int
theorem nmJ7 : ∀ a, a < 0 → ∀ b, b < 0 → a ≠ b → (TJ7 a).2.1 ≠ (TJ7 b).2.1 := by decide +kernel
theorem tyJ7_ok : ∀ k, k < 0 → parseFieldDescriptor (TJ7 k).2.2.1 = some (tyJ7 k) := by decide +kernel
abbrev cJ7_rangeCheck_23922 : ByteArray := prog_42_method_30_code
def yJ7_rangeCheck_23922 : MethodName := ⟨RJ7, "rangeCheck", "(III)V"⟩
abbrev cJ7_fill_eb02e : ByteArray := prog_42_method_110_code
def yJ7_fill_eb02e : MethodName := ⟨RJ7, "fill", "([BIIB)V"⟩
abbrev cJ7_copyOf_9075b : ByteArray := prog_42_method_121_code
def yJ7_copyOf_9075b : MethodName := ⟨RJ7, "copyOf", "([BI)[B"⟩
abbrev cJ7_checkLength_df160 : ByteArray := prog_42_method_131_code
def yJ7_checkLength_df160 : MethodName := ⟨RJ7, "checkLength", "(II)V"⟩
abbrev cJ7_copyOfRange_39247 : ByteArray := prog_42_method_132_code
def yJ7_copyOfRange_39247 : MethodName := ⟨RJ7, "copyOfRange", "([BII)[B"⟩
abbrev cJ7_copyOfRangeByte_39247 : ByteArray := prog_42_method_133_code
def yJ7_copyOfRangeByte_39247 : MethodName := ⟨RJ7, "copyOfRangeByte", "([BII)[B"⟩
def RJ8 : String := "jdk/internal/util/ArraysSupport"
def TJ8 : u_T := fun k => match k with
  | _ => ("", "", "", false)
def tyJ8 : Nat → FieldType := fun k => match k with
  | _ => .int
theorem nmJ8 : ∀ a, a < 0 → ∀ b, b < 0 → a ≠ b → (TJ8 a).2.1 ≠ (TJ8 b).2.1 := by decide +kernel
theorem tyJ8_ok : ∀ k, k < 0 → parseFieldDescriptor (TJ8 k).2.2.1 = some (tyJ8 k) := by decide +kernel
abbrev cJ8_newLength_cabcc : ByteArray := prog_44_method_27_code
def yJ8_newLength_cabcc : MethodName := ⟨RJ8, "newLength", "(III)I"⟩
abbrev cJ8_hugeLength_7cf53 : ByteArray := prog_44_method_28_code
def yJ8_hugeLength_7cf53 : MethodName := ⟨RJ8, "hugeLength", "(II)I"⟩
def RJ3 : String := "jdk/internal/util/Preconditions"
def TJ3 : u_T := fun k => match k with
  | _ => ("", "", "", false)
def tyJ3 : Nat → FieldType := fun k => match k with
  | _ => .int
theorem nmJ3 : ∀ a, a < 0 → ∀ b, b < 0 → a ≠ b → (TJ3 a).2.1 ≠ (TJ3 b).2.1 := by decide +kernel
theorem tyJ3_ok : ∀ k, k < 0 → parseFieldDescriptor (TJ3 k).2.2.1 = some (tyJ3 k) := by decide +kernel
abbrev cJ3_checkIndex_8e157 : ByteArray := prog_45_method_11_code
def yJ3_checkIndex_8e157 : MethodName := ⟨RJ3, "checkIndex", "(IILjava/util/function/BiFunction;)I"⟩
abbrev cJ3_checkFromToIndex_8c36e : ByteArray := prog_45_method_12_code
def yJ3_checkFromToIndex_8c36e : MethodName := ⟨RJ3, "checkFromToIndex", "(IIILjava/util/function/BiFunction;)I"⟩
abbrev cJ3_checkFromIndexSize_8c36e : ByteArray := prog_45_method_13_code
def yJ3_checkFromIndexSize_8c36e : MethodName := ⟨RJ3, "checkFromIndexSize", "(IIILjava/util/function/BiFunction;)I"⟩
def RL : String := "YarnMillLaw"
abbrev cL_cell : ByteArray := method_2_code
def yL_cell : MethodName := ⟨RL, "cell", "([II)I"⟩
abbrev cL_buyBale : ByteArray := method_3_code
def yL_buyBale : MethodName := ⟨RL, "buyBale", "(LYarnMill;III)I"⟩
abbrev cL_blend : ByteArray := method_4_code
def yL_blend : MethodName := ⟨RL, "blend", "(LYarnMill;II)I"⟩
abbrev cL_addOrder : ByteArray := method_5_code
def yL_addOrder : MethodName := ⟨RL, "addOrder", "(LYarnMill;II)I"⟩
abbrev cL_cancelOrder : ByteArray := method_6_code
def yL_cancelOrder : MethodName := ⟨RL, "cancelOrder", "(LYarnMill;I)I"⟩
abbrev cL_setMachines : ByteArray := method_7_code
def yL_setMachines : MethodName := ⟨RL, "setMachines", "(LYarnMill;I)I"⟩
abbrev cL_spin : ByteArray := method_8_code
def yL_spin : MethodName := ⟨RL, "spin", "(LYarnMill;I)I"⟩
abbrev cL_splice : ByteArray := method_9_code
def yL_splice : MethodName := ⟨RL, "splice", "(LYarnMill;I)I"⟩
abbrev cL_spliceAll : ByteArray := method_10_code
def yL_spliceAll : MethodName := ⟨RL, "spliceAll", "(LYarnMill;)I"⟩
abbrev cL_sell : ByteArray := method_11_code
def yL_sell : MethodName := ⟨RL, "sell", "(LYarnMill;I)I"⟩
abbrev cL_blendValue : ByteArray := method_12_code
def yL_blendValue : MethodName := ⟨RL, "blendValue", "(LYarnMill;II)I"⟩
abbrev cL_blendValueBySearch : ByteArray := method_13_code
def yL_blendValueBySearch : MethodName := ⟨RL, "blendValueBySearch", "(LYarnMill;II)I"⟩
abbrev cL_orderByTime : ByteArray := method_14_code
def yL_orderByTime : MethodName := ⟨RL, "orderByTime", "(LYarnMill;I)I"⟩
abbrev cL_longestPiece : ByteArray := method_15_code
def yL_longestPiece : MethodName := ⟨RL, "longestPiece", "(LYarnMill;)I"⟩
abbrev cL_pieceByLength : ByteArray := method_16_code
def yL_pieceByLength : MethodName := ⟨RL, "pieceByLength", "(LYarnMill;I)I"⟩
abbrev cL_runScript : ByteArray := method_17_code
def yL_runScript : MethodName := ⟨RL, "runScript", "(LYarnMill;)I"⟩
abbrev cL_undo : ByteArray := method_18_code
def yL_undo : MethodName := ⟨RL, "undo", "(LYarnMill;)I"⟩
abbrev cL_restore : ByteArray := method_19_code
def yL_restore : MethodName := ⟨RL, "restore", "(LYarnMill;)I"⟩
abbrev cL_isIn : ByteArray := method_20_code
def yL_isIn : MethodName := ⟨RL, "isIn", "(LYarnMill;III)I"⟩
abbrev cL_in : ByteArray := method_21_code
def yL_in : MethodName := ⟨RL, "in", "([III)I"⟩
abbrev cL_does : ByteArray := method_22_code
def yL_does : MethodName := ⟨RL, "does", "(LYarnMill;Ljava/lang/String;)I"⟩
abbrev cL_begun : ByteArray := method_23_code
def yL_begun : MethodName := ⟨RL, "begun", "([I)LYarnMill;"⟩
abbrev cL_bale : ByteArray := method_24_code
def yL_bale : MethodName := ⟨RL, "bale", "(LYarnMill;I)I"⟩
abbrev cL_order : ByteArray := method_25_code
def yL_order : MethodName := ⟨RL, "order", "(LYarnMill;I)I"⟩
abbrev cL_acts : ByteArray := method_26_code
def yL_acts : MethodName := ⟨RL, "acts", "(LYarnMill;[II)I"⟩
abbrev cL_seen : ByteArray := method_27_code
def yL_seen : MethodName := ⟨RL, "seen", "(LYarnMill;)[I"⟩
abbrev cL_areAlike : ByteArray := method_28_code
def yL_areAlike : MethodName := ⟨RL, "areAlike", "([I[I)Z"⟩
abbrev cL_isWell : ByteArray := method_29_code
def yL_isWell : MethodName := ⟨RL, "isWell", "(LYarnMill;II)Z"⟩
abbrev cL_law : ByteArray := code
def yL_law : MethodName := ⟨RL, "law", "([I)Z"⟩
abbrev vwCl : List vw_C := [(RJ0, TJ0, 4), (RJ4, TJ4, 4), (RJx00060, TJx00060, 6), (RJx7c733, TJx7c733, 6), (RX1, TX1, 6), (RX2, TX2, 6), (RX4, TX4, 3), (RX5, TX5, 5), (RX7, TX7, 2), (RX8, TX8, 5), (RX9, TX9, 2), (RX10, TX10, 12), (RX11, TX11, 4), (RX12, TX12, 13)]
