def RJ4 : String := "java/lang/StringBuilder"
def TJ4 : u_T := fun k => match k with
  | 0 => ("java/lang/AbstractStringBuilder", "value", "[B", false)
  | 1 => ("java/lang/AbstractStringBuilder", "coder", "B", false)
  | 2 => ("java/lang/AbstractStringBuilder", "maybeLatin1", "Z", false)
  | _ => ("java/lang/AbstractStringBuilder", "count", "I", false)
def tyJ4 : Nat → FieldType := fun k => match k with
  | 0 => .array .byte
  | 1 => .byte
  | 2 => .boolean
  | _ => .int
theorem nmJ4 : ∀ a, a < 4 → ∀ b, b < 4 → a ≠ b → (TJ4 a).2.1 ≠ (TJ4 b).2.1 := by decide +kernel
theorem tyJ4_ok : ∀ k, k < 4 → parseFieldDescriptor (TJ4 k).2.2.1 = some (tyJ4 k) := by decide +kernel
def RX0 : String := "OuterRows$Board"
def TX0 : u_T := fun k => match k with
  | 0 => ("OuterRows$Board", "nets", "[I", true)
  | 1 => ("OuterRows$Board", "sums", "[I", true)
  | 2 => ("OuterRows$Board", "turns", "[I", true)
  | 3 => ("OuterRows$Board", "ledger", "LOuterRows$Ledger;", true)
  | _ => ("OuterRows$Board", "how", "I", false)
def tyX0 : Nat → FieldType := fun k => match k with
  | 0 => .array .int
  | 1 => .array .int
  | 2 => .array .int
  | 3 => .object "OuterRows$Ledger"
  | _ => .int
theorem nmX0 : ∀ a, a < 5 → ∀ b, b < 5 → a ≠ b → (TX0 a).2.1 ≠ (TX0 b).2.1 := by decide +kernel
theorem tyX0_ok : ∀ k, k < 5 → parseFieldDescriptor (TX0 k).2.2.1 = some (tyX0 k) := by decide +kernel
def RX1 : String := "OuterRows$Books"
def TX1 : u_T := fun k => match k with
  | 0 => ("OuterRows$Books", "keys", "LOuterRows$Words;", true)
  | 1 => ("OuterRows$Books", "values", "LOuterRows$Words;", true)
  | 2 => ("OuterRows$Books", "board", "LOuterRows$Board;", true)
  | 3 => ("OuterRows$Books", "store", "LOuterRows$Store;", true)
  | 4 => ("OuterRows$Books", "subscribers", "LOuterRows$Subscribers;", true)
  | 5 => ("OuterRows$Books", "latest", "[I", true)
  | 6 => ("OuterRows$Books", "lapses", "[I", true)
  | 7 => ("OuterRows$Books", "keep", "I", false)
  | 8 => ("OuterRows$Books", "late", "I", false)
  | 9 => ("OuterRows$Books", "clock", "I", false)
  | 10 => ("OuterRows$Books", "tooLate", "I", false)
  | _ => ("OuterRows$Books", "lapsed", "I", false)
def tyX1 : Nat → FieldType := fun k => match k with
  | 0 => .object "OuterRows$Words"
  | 1 => .object "OuterRows$Words"
  | 2 => .object "OuterRows$Board"
  | 3 => .object "OuterRows$Store"
  | 4 => .object "OuterRows$Subscribers"
  | 5 => .array .int
  | 6 => .array .int
  | 7 => .int
  | 8 => .int
  | 9 => .int
  | 10 => .int
  | _ => .int
theorem nmX1 : ∀ a, a < 12 → ∀ b, b < 12 → a ≠ b → (TX1 a).2.1 ≠ (TX1 b).2.1 := by decide +kernel
theorem tyX1_ok : ∀ k, k < 12 → parseFieldDescriptor (TX1 k).2.2.1 = some (tyX1 k) := by decide +kernel
def RX2 : String := "OuterRows$Ledger"
def TX2 : u_T := fun k => match k with
  | 0 => ("OuterRows$Ledger", "places", "[I", true)
  | 1 => ("OuterRows$Ledger", "amounts", "[I", true)
  | 2 => ("OuterRows$Ledger", "numbers", "[I", true)
  | 3 => ("OuterRows$Ledger", "byKey", "[I", true)
  | 4 => ("OuterRows$Ledger", "total", "I", false)
  | 5 => ("OuterRows$Ledger", "came", "I", false)
  | 6 => ("OuterRows$Ledger", "went", "I", false)
  | 7 => ("OuterRows$Ledger", "acts", "I", false)
  | 8 => ("OuterRows$Ledger", "inAct", "I", false)
  | 9 => ("OuterRows$Ledger", "most", "I", false)
  | _ => ("OuterRows$Ledger", "actOfMost", "I", false)
def tyX2 : Nat → FieldType := fun k => match k with
  | 0 => .array .int
  | 1 => .array .int
  | 2 => .array .int
  | 3 => .array .int
  | 4 => .int
  | 5 => .int
  | 6 => .int
  | 7 => .int
  | 8 => .int
  | 9 => .int
  | _ => .int
theorem nmX2 : ∀ a, a < 11 → ∀ b, b < 11 → a ≠ b → (TX2 a).2.1 ≠ (TX2 b).2.1 := by decide +kernel
theorem tyX2_ok : ∀ k, k < 11 → parseFieldDescriptor (TX2 k).2.2.1 = some (tyX2 k) := by decide +kernel
def RX3 : String := "OuterRows$Reader"
def TX3 : u_T := fun k => match k with
  | 0 => ("OuterRows$Reader", "tape", "LOuterRows$Tape;", true)
  | 1 => ("OuterRows$Reader", "keys", "LOuterRows$Words;", true)
  | 2 => ("OuterRows$Reader", "values", "LOuterRows$Words;", true)
  | 3 => ("OuterRows$Reader", "lines", "[I", true)
  | 4 => ("OuterRows$Reader", "count", "I", false)
  | 5 => ("OuterRows$Reader", "hasDesk", "Z", false)
  | 6 => ("OuterRows$Reader", "how", "I", false)
  | 7 => ("OuterRows$Reader", "keep", "I", false)
  | 8 => ("OuterRows$Reader", "late", "I", false)
  | 9 => ("OuterRows$Reader", "number", "I", false)
  | 10 => ("OuterRows$Reader", "fault", "I", false)
  | _ => ("OuterRows$Reader", "place", "I", false)
def tyX3 : Nat → FieldType := fun k => match k with
  | 0 => .object "OuterRows$Tape"
  | 1 => .object "OuterRows$Words"
  | 2 => .object "OuterRows$Words"
  | 3 => .array .int
  | 4 => .int
  | 5 => .boolean
  | 6 => .int
  | 7 => .int
  | 8 => .int
  | 9 => .int
  | 10 => .int
  | _ => .int
theorem nmX3 : ∀ a, a < 12 → ∀ b, b < 12 → a ≠ b → (TX3 a).2.1 ≠ (TX3 b).2.1 := by decide +kernel
theorem tyX3_ok : ∀ k, k < 12 → parseFieldDescriptor (TX3 k).2.2.1 = some (tyX3 k) := by decide +kernel
def RX4 : String := "OuterRows$Store"
def TX4 : u_T := fun k => match k with
  | 0 => ("OuterRows$Store", "sides", "[I", true)
  | 1 => ("OuterRows$Store", "keys", "[I", true)
  | 2 => ("OuterRows$Store", "values", "[I", true)
  | 3 => ("OuterRows$Store", "manies", "[I", true)
  | _ => ("OuterRows$Store", "count", "I", false)
def tyX4 : Nat → FieldType := fun k => match k with
  | 0 => .array .int
  | 1 => .array .int
  | 2 => .array .int
  | 3 => .array .int
  | _ => .int
theorem nmX4 : ∀ a, a < 5 → ∀ b, b < 5 → a ≠ b → (TX4 a).2.1 ≠ (TX4 b).2.1 := by decide +kernel
theorem tyX4_ok : ∀ k, k < 5 → parseFieldDescriptor (TX4 k).2.2.1 = some (tyX4 k) := by decide +kernel
def RX5 : String := "OuterRows$Subscribers"
def TX5 : u_T := fun k => match k with
  | 0 => ("OuterRows$Subscribers", "seen", "[I", true)
  | 1 => ("OuterRows$Subscribers", "holds", "[I", true)
  | _ => ("OuterRows$Subscribers", "differences", "[I", true)
def tyX5 : Nat → FieldType := fun k => match k with
  | 0 => .array .int
  | 1 => .array .int
  | _ => .array .int
theorem nmX5 : ∀ a, a < 3 → ∀ b, b < 3 → a ≠ b → (TX5 a).2.1 ≠ (TX5 b).2.1 := by decide +kernel
theorem tyX5_ok : ∀ k, k < 3 → parseFieldDescriptor (TX5 k).2.2.1 = some (tyX5 k) := by decide +kernel
def RX6 : String := "OuterRows$Tape"
def TX6 : u_T := fun k => match k with
  | 0 => ("OuterRows$Tape", "bytes", "[B", true)
  | 1 => ("OuterRows$Tape", "length", "I", false)
  | 2 => ("OuterRows$Tape", "end", "I", false)
  | 3 => ("OuterRows$Tape", "at", "I", false)
  | 4 => ("OuterRows$Tape", "kind", "I", false)
  | 5 => ("OuterRows$Tape", "start", "I", false)
  | 6 => ("OuterRows$Tape", "word", "J", false)
  | _ => ("OuterRows$Tape", "whole", "I", false)
def tyX6 : Nat → FieldType := fun k => match k with
  | 0 => .array .byte
  | 1 => .int
  | 2 => .int
  | 3 => .int
  | 4 => .int
  | 5 => .int
  | 6 => .long
  | _ => .int
theorem nmX6 : ∀ a, a < 8 → ∀ b, b < 8 → a ≠ b → (TX6 a).2.1 ≠ (TX6 b).2.1 := by decide +kernel
theorem tyX6_ok : ∀ k, k < 8 → parseFieldDescriptor (TX6 k).2.2.1 = some (tyX6 k) := by decide +kernel
def RX7 : String := "OuterRows$Words"
def TX7 : u_T := fun k => match k with
  | 0 => ("OuterRows$Words", "packs", "[J", true)
  | _ => ("OuterRows$Words", "count", "I", false)
def tyX7 : Nat → FieldType := fun k => match k with
  | 0 => .array .long
  | _ => .int
theorem nmX7 : ∀ a, a < 2 → ∀ b, b < 2 → a ≠ b → (TX7 a).2.1 ≠ (TX7 b).2.1 := by decide +kernel
theorem tyX7_ok : ∀ k, k < 2 → parseFieldDescriptor (TX7 k).2.2.1 = some (tyX7 k) := by decide +kernel
def RX8 : String := "OuterRows"
def TX8 : u_T := fun k => match k with
  | 0 => ("OuterRows", "reader", "LOuterRows$Reader;", true)
  | 1 => ("OuterRows", "trial", "LOuterRows$Board;", true)
  | 2 => ("OuterRows", "order", "[I", true)
  | 3 => ("OuterRows", "books", "LOuterRows$Books;", false)
  | 4 => ("OuterRows", "shelf", "LOuterRows$Books;", false)
  | 5 => ("OuterRows", "isKept", "Z", false)
  | 6 => ("OuterRows", "trouble", "I", false)
  | 7 => ("OuterRows", "fault", "I", false)
  | _ => ("OuterRows", "place", "I", false)
def tyX8 : Nat → FieldType := fun k => match k with
  | 0 => .object "OuterRows$Reader"
  | 1 => .object "OuterRows$Board"
  | 2 => .array .int
  | 3 => .object "OuterRows$Books"
  | 4 => .object "OuterRows$Books"
  | 5 => .boolean
  | 6 => .int
  | 7 => .int
  | _ => .int
theorem nmX8 : ∀ a, a < 9 → ∀ b, b < 9 → a ≠ b → (TX8 a).2.1 ≠ (TX8 b).2.1 := by decide +kernel
theorem tyX8_ok : ∀ k, k < 9 → parseFieldDescriptor (TX8 k).2.2.1 = some (tyX8 k) := by decide +kernel
def RX9 : String := "OuterRowsModel"
def TX9 : u_T := fun k => match k with
  | 0 => ("OuterRowsModel", "thrown", "I", false)
  | 1 => ("OuterRowsModel", "trouble", "I", false)
  | 2 => ("OuterRowsModel", "wrongAt", "I", false)
  | 3 => ("OuterRowsModel", "x", "[I", true)
  | 4 => ("OuterRowsModel", "isThere", "Z", false)
  | 5 => ("OuterRowsModel", "hasImage", "Z", false)
  | 6 => ("OuterRowsModel", "tape", "[B", true)
  | 7 => ("OuterRowsModel", "taped", "I", false)
  | 8 => ("OuterRowsModel", "size", "I", false)
  | 9 => ("OuterRowsModel", "spot", "I", false)
  | 10 => ("OuterRowsModel", "token", "I", false)
  | 11 => ("OuterRowsModel", "at", "I", false)
  | 12 => ("OuterRowsModel", "number", "I", false)
  | 13 => ("OuterRowsModel", "fault", "I", false)
  | 14 => ("OuterRowsModel", "word", "J", false)
  | 15 => ("OuterRowsModel", "words", "[J", true)
  | 16 => ("OuterRowsModel", "readWords", "[J", true)
  | 17 => ("OuterRowsModel", "readMany", "[I", true)
  | 18 => ("OuterRowsModel", "lineKind", "[I", true)
  | 19 => ("OuterRowsModel", "lineSide", "[I", true)
  | 20 => ("OuterRowsModel", "lineKey", "[I", true)
  | 21 => ("OuterRowsModel", "lineValue", "[I", true)
  | 22 => ("OuterRowsModel", "lineMany", "[I", true)
  | 23 => ("OuterRowsModel", "lineTime", "[I", true)
  | 24 => ("OuterRowsModel", "lines", "I", false)
  | 25 => ("OuterRowsModel", "readHow", "I", false)
  | 26 => ("OuterRowsModel", "readKeep", "I", false)
  | 27 => ("OuterRowsModel", "readLate", "I", false)
  | 28 => ("OuterRowsModel", "hasDesk", "Z", false)
  | 29 => ("OuterRowsModel", "foundKey", "I", false)
  | 30 => ("OuterRowsModel", "foundLeft", "I", false)
  | 31 => ("OuterRowsModel", "foundRight", "I", false)
  | 32 => ("OuterRowsModel", "sumSent", "I", false)
  | 33 => ("OuterRowsModel", "spelt", "[I", true)
  | 34 => ("OuterRowsModel", "speltMany", "I", false)
  | _ => ("OuterRowsModel", "order", "[I", true)
def tyX9 : Nat → FieldType := fun k => match k with
  | 0 => .int
  | 1 => .int
  | 2 => .int
  | 3 => .array .int
  | 4 => .boolean
  | 5 => .boolean
  | 6 => .array .byte
  | 7 => .int
  | 8 => .int
  | 9 => .int
  | 10 => .int
  | 11 => .int
  | 12 => .int
  | 13 => .int
  | 14 => .long
  | 15 => .array .long
  | 16 => .array .long
  | 17 => .array .int
  | 18 => .array .int
  | 19 => .array .int
  | 20 => .array .int
  | 21 => .array .int
  | 22 => .array .int
  | 23 => .array .int
  | 24 => .int
  | 25 => .int
  | 26 => .int
  | 27 => .int
  | 28 => .boolean
  | 29 => .int
  | 30 => .int
  | 31 => .int
  | 32 => .int
  | 33 => .array .int
  | 34 => .int
  | _ => .array .int
theorem nmX9 : ∀ a, a < 36 → ∀ b, b < 36 → a ≠ b → (TX9 a).2.1 ≠ (TX9 b).2.1 := by decide +kernel
theorem tyX9_ok : ∀ k, k < 36 → parseFieldDescriptor (TX9 k).2.2.1 = some (tyX9 k) := by decide +kernel
def RL : String := "OuterRowsLaw"
def RJ0 : String := "java/lang/String"
def RJ1 : String := "java/lang/StringLatin1"
def RJ2 : String := "java/lang/StringUTF16"
def RJ3 : String := "jdk/internal/util/Preconditions"
def RJ5 : String := "java/lang/AbstractStringBuilder"
def RJ6 : String := "java/lang/Integer"
def RJ7 : String := "java/util/Arrays"
def RJ8 : String := "jdk/internal/util/ArraysSupport"
def RJ9 : String := "java/lang/Math"
def RJ10 : String := "java/lang/System"
abbrev cX0_init : ByteArray := prog_2_method_1_code
def yX0_init : MethodName := ⟨RX0, "<init>", "()V"⟩
abbrev cX0_netPlace : ByteArray := prog_2_method_2_code
def yX0_netPlace : MethodName := ⟨RX0, "netPlace", "(III)I"⟩
abbrev cX0_netOf : ByteArray := prog_2_method_3_code
def yX0_netOf : MethodName := ⟨RX0, "netOf", "(III)I"⟩
abbrev cX0_thereOf : ByteArray := prog_2_method_4_code
def yX0_thereOf : MethodName := ⟨RX0, "thereOf", "(III)I"⟩
abbrev cX0_thereOfAll : ByteArray := prog_2_method_5_code
def yX0_thereOfAll : MethodName := ⟨RX0, "thereOfAll", "(II)I"⟩
abbrev cX0_has : ByteArray := prog_2_method_6_code
def yX0_has : MethodName := ⟨RX0, "has", "(II)Z"⟩
abbrev cX0_countDebts : ByteArray := prog_2_method_7_code
def yX0_countDebts : MethodName := ⟨RX0, "countDebts", "(I)I"⟩
abbrev cX0_hasOuter : ByteArray := prog_2_method_8_code
def yX0_hasOuter : MethodName := ⟨RX0, "hasOuter", "(II)Z"⟩
abbrev cX0_outerOf : ByteArray := prog_2_method_9_code
def yX0_outerOf : MethodName := ⟨RX0, "outerOf", "(III)I"⟩
abbrev cX0_joined : ByteArray := prog_2_method_10_code
def yX0_joined : MethodName := ⟨RX0, "joined", "(III)I"⟩
abbrev cX0_change : ByteArray := prog_2_method_11_code
def yX0_change : MethodName := ⟨RX0, "change", "(IIII)V"⟩
abbrev cX0_sendRowsWith : ByteArray := prog_2_method_12_code
def yX0_sendRowsWith : MethodName := ⟨RX0, "sendRowsWith", "(IIII)V"⟩
abbrev cX0_sendOuters : ByteArray := prog_2_method_13_code
def yX0_sendOuters : MethodName := ⟨RX0, "sendOuters", "(III)V"⟩
abbrev cX0_send : ByteArray := prog_2_method_14_code
def yX0_send : MethodName := ⟨RX0, "send", "(IIIII)V"⟩
abbrev cX0_exchangeOuters : ByteArray := prog_2_method_15_code
def yX0_exchangeOuters : MethodName := ⟨RX0, "exchangeOuters", "(II)V"⟩
abbrev cX0_emptyKey : ByteArray := prog_2_method_16_code
def yX0_emptyKey : MethodName := ⟨RX0, "emptyKey", "(I)V"⟩
abbrev cX0_takeKeyFrom : ByteArray := prog_2_method_17_code
def yX0_takeKeyFrom : MethodName := ⟨RX0, "takeKeyFrom", "(LOuterRows$Board;I)V"⟩
abbrev cX0_sumOfAll : ByteArray := prog_2_method_18_code
def yX0_sumOfAll : MethodName := ⟨RX0, "sumOfAll", "()I"⟩
abbrev cX0_clear : ByteArray := prog_2_method_19_code
def yX0_clear : MethodName := ⟨RX0, "clear", "(I)V"⟩
abbrev cX0_copyFrom : ByteArray := prog_2_method_20_code
def yX0_copyFrom : MethodName := ⟨RX0, "copyFrom", "(LOuterRows$Board;)V"⟩
abbrev cX1_init : ByteArray := prog_3_method_1_code
def yX1_init : MethodName := ⟨RX1, "<init>", "()V"⟩
abbrev cX1_clear : ByteArray := prog_3_method_2_code
def yX1_clear : MethodName := ⟨RX1, "clear", "(III)V"⟩
abbrev cX1_copyFrom : ByteArray := prog_3_method_3_code
def yX1_copyFrom : MethodName := ⟨RX1, "copyFrom", "(LOuterRows$Books;)V"⟩
abbrev cX1_lives : ByteArray := prog_3_method_4_code
def yX1_lives : MethodName := ⟨RX1, "lives", "(I)Z"⟩
abbrev cX1_lapsesAt : ByteArray := prog_3_method_5_code
def yX1_lapsesAt : MethodName := ⟨RX1, "lapsesAt", "(II)Z"⟩
abbrev cX1_isTooLate : ByteArray := prog_3_method_6_code
def yX1_isTooLate : MethodName := ⟨RX1, "isTooLate", "(I)Z"⟩
abbrev cX1_happen : ByteArray := prog_3_method_7_code
def yX1_happen : MethodName := ⟨RX1, "happen", "(IIIII)I"⟩
abbrev cX1_advance : ByteArray := prog_3_method_8_code
def yX1_advance : MethodName := ⟨RX1, "advance", "(I)I"⟩
abbrev cX1_exchange : ByteArray := prog_3_method_9_code
def yX1_exchange : MethodName := ⟨RX1, "exchange", "(I)I"⟩
abbrev cX1_told : ByteArray := prog_3_method_10_code
def yX1_told : MethodName := ⟨RX1, "told", "(I)I"⟩
abbrev cX1_toldOfKey : ByteArray := prog_3_method_11_code
def yX1_toldOfKey : MethodName := ⟨RX1, "toldOfKey", "(II)I"⟩
abbrev cX1_countLiving : ByteArray := prog_3_method_12_code
def yX1_countLiving : MethodName := ⟨RX1, "countLiving", "()I"⟩
abbrev cX1_keyOfNextLapse : ByteArray := prog_3_method_13_code
def yX1_keyOfNextLapse : MethodName := ⟨RX1, "keyOfNextLapse", "()I"⟩
abbrev cX1_lonelyKey : ByteArray := prog_3_method_14_code
def yX1_lonelyKey : MethodName := ⟨RX1, "lonelyKey", "(I)I"⟩
abbrev cX1_textOfRow : ByteArray := prog_3_method_15_code
def yX1_textOfRow : MethodName := ⟨RX1, "textOfRow", "(I)Ljava/lang/StringBuilder;"⟩
abbrev cX2_init : ByteArray := prog_4_method_1_code
def yX2_init : MethodName := ⟨RX2, "<init>", "()V"⟩
abbrev cX2_openAct : ByteArray := prog_4_method_2_code
def yX2_openAct : MethodName := ⟨RX2, "openAct", "()V"⟩
abbrev cX2_note : ByteArray := prog_4_method_3_code
def yX2_note : MethodName := ⟨RX2, "note", "(III)V"⟩
abbrev cX2_remembered : ByteArray := prog_4_method_4_code
def yX2_remembered : MethodName := ⟨RX2, "remembered", "()I"⟩
abbrev cX2_remembers : ByteArray := prog_4_method_5_code
def yX2_remembers : MethodName := ⟨RX2, "remembers", "(I)Z"⟩
abbrev cX2_toldOfChange : ByteArray := prog_4_method_6_code
def yX2_toldOfChange : MethodName := ⟨RX2, "toldOfChange", "(II)I"⟩
abbrev cX2_told : ByteArray := prog_4_method_7_code
def yX2_told : MethodName := ⟨RX2, "told", "(I)I"⟩
abbrev cX2_keyOfMost : ByteArray := prog_4_method_8_code
def yX2_keyOfMost : MethodName := ⟨RX2, "keyOfMost", "()I"⟩
abbrev cX2_clear : ByteArray := prog_4_method_9_code
def yX2_clear : MethodName := ⟨RX2, "clear", "()V"⟩
abbrev cX2_copyFrom : ByteArray := prog_4_method_10_code
def yX2_copyFrom : MethodName := ⟨RX2, "copyFrom", "(LOuterRows$Ledger;)V"⟩
abbrev cX3_init : ByteArray := prog_5_method_1_code
def yX3_init : MethodName := ⟨RX3, "<init>", "()V"⟩
abbrev cX3_expectDesk : ByteArray := prog_5_method_2_code
def yX3_expectDesk : MethodName := ⟨RX3, "expectDesk", "()V"⟩
abbrev cX3_expectMore : ByteArray := prog_5_method_3_code
def yX3_expectMore : MethodName := ⟨RX3, "expectMore", "(LOuterRows$Words;LOuterRows$Words;)V"⟩
abbrev cX3_readLines : ByteArray := prog_5_method_4_code
def yX3_readLines : MethodName := ⟨RX3, "readLines", "(I)Z"⟩
abbrev cX3_fail : ByteArray := prog_5_method_5_code
def yX3_fail : MethodName := ⟨RX3, "fail", "(I)Z"⟩
abbrev cX3_readLine : ByteArray := prog_5_method_6_code
def yX3_readLine : MethodName := ⟨RX3, "readLine", "()Z"⟩
abbrev cX3_readDeskLine : ByteArray := prog_5_method_7_code
def yX3_readDeskLine : MethodName := ⟨RX3, "readDeskLine", "()Z"⟩
abbrev cX3_readTick : ByteArray := prog_5_method_8_code
def yX3_readTick : MethodName := ⟨RX3, "readTick", "()Z"⟩
abbrev cX3_readEvent : ByteArray := prog_5_method_9_code
def yX3_readEvent : MethodName := ⟨RX3, "readEvent", "(I)Z"⟩
abbrev cX3_addLine : ByteArray := prog_5_method_10_code
def yX3_addLine : MethodName := ⟨RX3, "addLine", "(IIIII)V"⟩
abbrev cX3_readWord : ByteArray := prog_5_method_11_code
def yX3_readWord : MethodName := ⟨RX3, "readWord", "(J)Z"⟩
abbrev cX3_readWhole : ByteArray := prog_5_method_12_code
def yX3_readWhole : MethodName := ⟨RX3, "readWhole", "(II)Z"⟩
abbrev cX3_readSide : ByteArray := prog_5_method_13_code
def yX3_readSide : MethodName := ⟨RX3, "readSide", "()Z"⟩
abbrev cX3_readHow : ByteArray := prog_5_method_14_code
def yX3_readHow : MethodName := ⟨RX3, "readHow", "()Z"⟩
abbrev cX3_readName : ByteArray := prog_5_method_15_code
def yX3_readName : MethodName := ⟨RX3, "readName", "(LOuterRows$Words;)Z"⟩
abbrev cX3_isReserved : ByteArray := prog_5_method_16_code
def yX3_isReserved : MethodName := ⟨RX3, "isReserved", "()Z"⟩
abbrev cX4_init : ByteArray := prog_6_method_1_code
def yX4_init : MethodName := ⟨RX4, "<init>", "()V"⟩
abbrev cX4_add : ByteArray := prog_6_method_2_code
def yX4_add : MethodName := ⟨RX4, "add", "(IIII)V"⟩
abbrev cX4_copyFrom : ByteArray := prog_6_method_3_code
def yX4_copyFrom : MethodName := ⟨RX4, "copyFrom", "(LOuterRows$Store;)V"⟩
abbrev cX5_init : ByteArray := prog_7_method_1_code
def yX5_init : MethodName := ⟨RX5, "<init>", "()V"⟩
abbrev cX5_start : ByteArray := prog_7_method_2_code
def yX5_start : MethodName := ⟨RX5, "start", "(ILOuterRows$Board;)V"⟩
abbrev cX5_hasBegun : ByteArray := prog_7_method_3_code
def yX5_hasBegun : MethodName := ⟨RX5, "hasBegun", "(I)Z"⟩
abbrev cX5_catchUp : ByteArray := prog_7_method_4_code
def yX5_catchUp : MethodName := ⟨RX5, "catchUp", "(ILOuterRows$Board;)V"⟩
abbrev cX5_told : ByteArray := prog_7_method_5_code
def yX5_told : MethodName := ⟨RX5, "told", "(IILOuterRows$Board;)I"⟩
abbrev cX5_countOtherwise : ByteArray := prog_7_method_6_code
def yX5_countOtherwise : MethodName := ⟨RX5, "countOtherwise", "(ILOuterRows$Board;)I"⟩
abbrev cX5_countBegun : ByteArray := prog_7_method_7_code
def yX5_countBegun : MethodName := ⟨RX5, "countBegun", "()I"⟩
abbrev cX5_clear : ByteArray := prog_7_method_8_code
def yX5_clear : MethodName := ⟨RX5, "clear", "()V"⟩
abbrev cX5_copyFrom : ByteArray := prog_7_method_9_code
def yX5_copyFrom : MethodName := ⟨RX5, "copyFrom", "(LOuterRows$Subscribers;)V"⟩
abbrev cX6_init : ByteArray := prog_8_method_1_code
def yX6_init : MethodName := ⟨RX6, "<init>", "()V"⟩
abbrev cX6_hasRoomFor : ByteArray := prog_8_method_2_code
def yX6_hasRoomFor : MethodName := ⟨RX6, "hasRoomFor", "(I)Z"⟩
abbrev cX6_put : ByteArray := prog_8_method_3_code
def yX6_put : MethodName := ⟨RX6, "put", "(I)V"⟩
abbrev cX6_rewind : ByteArray := prog_8_method_4_code
def yX6_rewind : MethodName := ⟨RX6, "rewind", "(I)V"⟩
abbrev cX6_next : ByteArray := prog_8_method_5_code
def yX6_next : MethodName := ⟨RX6, "next", "()V"⟩
abbrev cX6_passRun : ByteArray := prog_8_method_6_code
def yX6_passRun : MethodName := ⟨RX6, "passRun", "(CC)Z"⟩
abbrev cX6_takeWord : ByteArray := prog_8_method_7_code
def yX6_takeWord : MethodName := ⟨RX6, "takeWord", "()V"⟩
abbrev cX6_takeWhole : ByteArray := prog_8_method_8_code
def yX6_takeWhole : MethodName := ⟨RX6, "takeWhole", "()V"⟩
abbrev cX6_says : ByteArray := prog_8_method_9_code
def yX6_says : MethodName := ⟨RX6, "says", "(J)Z"⟩
abbrev cX7_init : ByteArray := prog_9_method_1_code
def yX7_init : MethodName := ⟨RX7, "<init>", "()V"⟩
abbrev cX7_knows : ByteArray := prog_9_method_2_code
def yX7_knows : MethodName := ⟨RX7, "knows", "(I)Z"⟩
abbrev cX7_isFull : ByteArray := prog_9_method_3_code
def yX7_isFull : MethodName := ⟨RX7, "isFull", "()Z"⟩
abbrev cX7_numberOf : ByteArray := prog_9_method_4_code
def yX7_numberOf : MethodName := ⟨RX7, "numberOf", "(J)I"⟩
abbrev cX7_add : ByteArray := prog_9_method_5_code
def yX7_add : MethodName := ⟨RX7, "add", "(J)I"⟩
abbrev cX7_letterAt : ByteArray := prog_9_method_6_code
def yX7_letterAt : MethodName := ⟨RX7, "letterAt", "(II)I"⟩
abbrev cX7_appendTo : ByteArray := prog_9_method_7_code
def yX7_appendTo : MethodName := ⟨RX7, "appendTo", "(Ljava/lang/StringBuilder;I)V"⟩
abbrev cX7_clear : ByteArray := prog_9_method_8_code
def yX7_clear : MethodName := ⟨RX7, "clear", "()V"⟩
abbrev cX7_copyFrom : ByteArray := prog_9_method_9_code
def yX7_copyFrom : MethodName := ⟨RX7, "copyFrom", "(LOuterRows$Words;)V"⟩
abbrev cX8_init : ByteArray := prog_1_method_1_code
def yX8_init : MethodName := ⟨RX8, "<init>", "()V"⟩
abbrev cX8_feed : ByteArray := prog_1_method_2_code
def yX8_feed : MethodName := ⟨RX8, "feed", "(IIIII)I"⟩
abbrev cX8_desk : ByteArray := prog_1_method_3_code
def yX8_desk : MethodName := ⟨RX8, "desk", "(I)I"⟩
abbrev cX8_more : ByteArray := prog_1_method_4_code
def yX8_more : MethodName := ⟨RX8, "more", "(I)I"⟩
abbrev cX8_fault : ByteArray := prog_1_method_5_code
def yX8_fault : MethodName := ⟨RX8, "fault", "()I"⟩
abbrev cX8_where : ByteArray := prog_1_method_6_code
def yX8_where : MethodName := ⟨RX8, "where", "()I"⟩
abbrev cX8_about : ByteArray := prog_1_method_7_code
def yX8_about : MethodName := ⟨RX8, "about", "(I)I"⟩
abbrev cX8_letter : ByteArray := prog_1_method_8_code
def yX8_letter : MethodName := ⟨RX8, "letter", "(III)I"⟩
abbrev cX8_net : ByteArray := prog_1_method_9_code
def yX8_net : MethodName := ⟨RX8, "net", "(III)I"⟩
abbrev cX8_there : ByteArray := prog_1_method_10_code
def yX8_there : MethodName := ⟨RX8, "there", "(II)I"⟩
abbrev cX8_key : ByteArray := prog_1_method_11_code
def yX8_key : MethodName := ⟨RX8, "key", "(II)I"⟩
abbrev cX8_debts : ByteArray := prog_1_method_12_code
def yX8_debts : MethodName := ⟨RX8, "debts", "(I)I"⟩
abbrev cX8_sent : ByteArray := prog_1_method_13_code
def yX8_sent : MethodName := ⟨RX8, "sent", "(III)I"⟩
abbrev cX8_join : ByteArray := prog_1_method_14_code
def yX8_join : MethodName := ⟨RX8, "join", "(III)I"⟩
abbrev cX8_closed : ByteArray := prog_1_method_15_code
def yX8_closed : MethodName := ⟨RX8, "closed", "(III)I"⟩
abbrev cX8_rows : ByteArray := prog_1_method_16_code
def yX8_rows : MethodName := ⟨RX8, "rows", "()I"⟩
abbrev cX8_row : ByteArray := prog_1_method_17_code
def yX8_row : MethodName := ⟨RX8, "row", "(II)I"⟩
abbrev cX8_spell : ByteArray := prog_1_method_18_code
def yX8_spell : MethodName := ⟨RX8, "spell", "(II)I"⟩
abbrev cX8_traffic : ByteArray := prog_1_method_19_code
def yX8_traffic : MethodName := ⟨RX8, "traffic", "(I)I"⟩
abbrev cX8_log : ByteArray := prog_1_method_20_code
def yX8_log : MethodName := ⟨RX8, "log", "(II)I"⟩
abbrev cX8_flips : ByteArray := prog_1_method_21_code
def yX8_flips : MethodName := ⟨RX8, "flips", "(II)I"⟩
abbrev cX8_busiest : ByteArray := prog_1_method_22_code
def yX8_busiest : MethodName := ⟨RX8, "busiest", "()I"⟩
abbrev cX8_dearest : ByteArray := prog_1_method_23_code
def yX8_dearest : MethodName := ⟨RX8, "dearest", "()I"⟩
abbrev cX8_begin : ByteArray := prog_1_method_24_code
def yX8_begin : MethodName := ⟨RX8, "begin", "(I)I"⟩
abbrev cX8_pull : ByteArray := prog_1_method_25_code
def yX8_pull : MethodName := ⟨RX8, "pull", "(I)I"⟩
abbrev cX8_pulled : ByteArray := prog_1_method_26_code
def yX8_pulled : MethodName := ⟨RX8, "pulled", "(III)I"⟩
abbrev cX8_held : ByteArray := prog_1_method_27_code
def yX8_held : MethodName := ⟨RX8, "held", "(IIII)I"⟩
abbrev cX8_lag : ByteArray := prog_1_method_28_code
def yX8_lag : MethodName := ⟨RX8, "lag", "(II)I"⟩
abbrev cX8_would : ByteArray := prog_1_method_29_code
def yX8_would : MethodName := ⟨RX8, "would", "(IIIII)I"⟩
abbrev cX8_nextLapse : ByteArray := prog_1_method_30_code
def yX8_nextLapse : MethodName := ⟨RX8, "nextLapse", "()I"⟩
abbrev cX8_replay : ByteArray := prog_1_method_31_code
def yX8_replay : MethodName := ⟨RX8, "replay", "(II)I"⟩
abbrev cX8_cost : ByteArray := prog_1_method_32_code
def yX8_cost : MethodName := ⟨RX8, "cost", "(I)I"⟩
abbrev cX8_event : ByteArray := prog_1_method_33_code
def yX8_event : MethodName := ⟨RX8, "event", "(IIIII)I"⟩
abbrev cX8_tick : ByteArray := prog_1_method_34_code
def yX8_tick : MethodName := ⟨RX8, "tick", "(I)I"⟩
abbrev cX8_how : ByteArray := prog_1_method_35_code
def yX8_how : MethodName := ⟨RX8, "how", "(I)I"⟩
abbrev cX8_bounds : ByteArray := prog_1_method_36_code
def yX8_bounds : MethodName := ⟨RX8, "bounds", "(II)Z"⟩
abbrev cX8_keep : ByteArray := prog_1_method_37_code
def yX8_keep : MethodName := ⟨RX8, "keep", "()Z"⟩
abbrev cX8_back : ByteArray := prog_1_method_38_code
def yX8_back : MethodName := ⟨RX8, "back", "()Z"⟩
abbrev cX8_single : ByteArray := prog_1_method_39_code
def yX8_single : MethodName := ⟨RX8, "single", "(I)I"⟩
abbrev cX8_size : ByteArray := prog_1_method_40_code
def yX8_size : MethodName := ⟨RX8, "size", "(I)I"⟩
abbrev cX8_trouble : ByteArray := prog_1_method_41_code
def yX8_trouble : MethodName := ⟨RX8, "trouble", "()I"⟩
abbrev cX8_refuse : ByteArray := prog_1_method_42_code
def yX8_refuse : MethodName := ⟨RX8, "refuse", "(II)I"⟩
abbrev cX8_accept : ByteArray := prog_1_method_43_code
def yX8_accept : MethodName := ⟨RX8, "accept", "(I)I"⟩
abbrev cX8_isSide : ByteArray := prog_1_method_44_code
def yX8_isSide : MethodName := ⟨RX8, "isSide", "(I)Z"⟩
abbrev cX8_isHow : ByteArray := prog_1_method_45_code
def yX8_isHow : MethodName := ⟨RX8, "isHow", "(I)Z"⟩
abbrev cX8_isTime : ByteArray := prog_1_method_46_code
def yX8_isTime : MethodName := ⟨RX8, "isTime", "(I)Z"⟩
abbrev cX8_isKey : ByteArray := prog_1_method_47_code
def yX8_isKey : MethodName := ⟨RX8, "isKey", "(I)Z"⟩
abbrev cX8_isValue : ByteArray := prog_1_method_48_code
def yX8_isValue : MethodName := ⟨RX8, "isValue", "(I)Z"⟩
abbrev cX8_isRow : ByteArray := prog_1_method_49_code
def yX8_isRow : MethodName := ⟨RX8, "isRow", "(III)Z"⟩
abbrev cX8_isSubscribed : ByteArray := prog_1_method_50_code
def yX8_isSubscribed : MethodName := ⟨RX8, "isSubscribed", "(I)Z"⟩
abbrev cX8_refusalOfEvent : ByteArray := prog_1_method_51_code
def yX8_refusalOfEvent : MethodName := ⟨RX8, "refusalOfEvent", "(IIIII)I"⟩
abbrev cX8_tookText : ByteArray := prog_1_method_52_code
def yX8_tookText : MethodName := ⟨RX8, "tookText", "(Z)Z"⟩
abbrev cX8_doLines : ByteArray := prog_1_method_53_code
def yX8_doLines : MethodName := ⟨RX8, "doLines", "(LOuterRows$Books;)I"⟩
abbrev cX8_orderAsStored : ByteArray := prog_1_method_54_code
def yX8_orderAsStored : MethodName := ⟨RX8, "orderAsStored", "()V"⟩
abbrev cX8_mix : ByteArray := prog_1_method_55_code
def yX8_mix : MethodName := ⟨RX8, "mix", "(II)V"⟩
abbrev cX8_tryStore : ByteArray := prog_1_method_56_code
def yX8_tryStore : MethodName := ⟨RX8, "tryStore", "(LOuterRows$Store;I)V"⟩
abbrev cX8_placeOf : ByteArray := prog_1_method_57_code
def yX8_placeOf : MethodName := ⟨RX8, "placeOf", "(III)I"⟩
abbrev cX8_keyOfPlace : ByteArray := prog_1_method_58_code
def yX8_keyOfPlace : MethodName := ⟨RX8, "keyOfPlace", "(I)I"⟩
abbrev cX8_leftOfPlace : ByteArray := prog_1_method_59_code
def yX8_leftOfPlace : MethodName := ⟨RX8, "leftOfPlace", "(I)I"⟩
abbrev cX8_rightOfPlace : ByteArray := prog_1_method_60_code
def yX8_rightOfPlace : MethodName := ⟨RX8, "rightOfPlace", "(I)I"⟩
abbrev cX8_partOfRow : ByteArray := prog_1_method_61_code
def yX8_partOfRow : MethodName := ⟨RX8, "partOfRow", "(III)I"⟩
abbrev cX8_countFilled : ByteArray := prog_1_method_62_code
def yX8_countFilled : MethodName := ⟨RX8, "countFilled", "([II)I"⟩
abbrev cX8_filledPlace : ByteArray := prog_1_method_63_code
def yX8_filledPlace : MethodName := ⟨RX8, "filledPlace", "([III)I"⟩
abbrev cX9_init : ByteArray := prog_11_method_1_code
def yX9_init : MethodName := ⟨RX9, "<init>", "()V"⟩
abbrev cX9_thrown : ByteArray := prog_11_method_2_code
def yX9_thrown : MethodName := ⟨RX9, "thrown", "()I"⟩
abbrev cX9_refused : ByteArray := prog_11_method_3_code
def yX9_refused : MethodName := ⟨RX9, "refused", "(I)I"⟩
abbrev cX9_refusedLow : ByteArray := prog_11_method_4_code
def yX9_refusedLow : MethodName := ⟨RX9, "refusedLow", "(I)I"⟩
abbrev cX9_good : ByteArray := prog_11_method_5_code
def yX9_good : MethodName := ⟨RX9, "good", "(I)I"⟩
abbrev cX9_in : ByteArray := prog_11_method_6_code
def yX9_in : MethodName := ⟨RX9, "in", "(III)Z"⟩
abbrev cX9_get : ByteArray := prog_11_method_7_code
def yX9_get : MethodName := ⟨RX9, "get", "(II)I"⟩
abbrev cX9_set : ByteArray := prog_11_method_8_code
def yX9_set : MethodName := ⟨RX9, "set", "(III)V"⟩
abbrev cX9_more : ByteArray := prog_11_method_9_code
def yX9_more : MethodName := ⟨RX9, "more", "(III)V"⟩
abbrev cX9_copies : ByteArray := prog_11_method_10_code
def yX9_copies : MethodName := ⟨RX9, "copies", "(II)V"⟩
abbrev cX9_begins : ByteArray := prog_11_method_11_code
def yX9_begins : MethodName := ⟨RX9, "begins", "(IIII)V"⟩
abbrev cX9_byteAt : ByteArray := prog_11_method_12_code
def yX9_byteAt : MethodName := ⟨RX9, "byteAt", "(I)I"⟩
abbrev cX9_next : ByteArray := prog_11_method_13_code
def yX9_next : MethodName := ⟨RX9, "next", "()V"⟩
abbrev cX9_nextWord : ByteArray := prog_11_method_14_code
def yX9_nextWord : MethodName := ⟨RX9, "nextWord", "()V"⟩
abbrev cX9_nextWhole : ByteArray := prog_11_method_15_code
def yX9_nextWhole : MethodName := ⟨RX9, "nextWhole", "()V"⟩
abbrev cX9_flaw : ByteArray := prog_11_method_16_code
def yX9_flaw : MethodName := ⟨RX9, "flaw", "(I)V"⟩
abbrev cX9_isWord : ByteArray := prog_11_method_17_code
def yX9_isWord : MethodName := ⟨RX9, "isWord", "(Ljava/lang/String;)Z"⟩
abbrev cX9_needs : ByteArray := prog_11_method_18_code
def yX9_needs : MethodName := ⟨RX9, "needs", "(Ljava/lang/String;)V"⟩
abbrev cX9_readWhole : ByteArray := prog_11_method_19_code
def yX9_readWhole : MethodName := ⟨RX9, "readWhole", "(II)I"⟩
abbrev cX9_readAll : ByteArray := prog_11_method_20_code
def yX9_readAll : MethodName := ⟨RX9, "readAll", "(Z)V"⟩
abbrev cX9_readLine : ByteArray := prog_11_method_21_code
def yX9_readLine : MethodName := ⟨RX9, "readLine", "()V"⟩
abbrev cX9_readDesk : ByteArray := prog_11_method_22_code
def yX9_readDesk : MethodName := ⟨RX9, "readDesk", "()V"⟩
abbrev cX9_begins_ : ByteArray := prog_11_method_23_code
def yX9_begins_ : MethodName := ⟨RX9, "begins", "()V"⟩
abbrev cX9_readName : ByteArray := prog_11_method_24_code
def yX9_readName : MethodName := ⟨RX9, "readName", "(I)I"⟩
abbrev cX9_readEvent : ByteArray := prog_11_method_25_code
def yX9_readEvent : MethodName := ⟨RX9, "readEvent", "(I)V"⟩
abbrev cX9_readTick : ByteArray := prog_11_method_26_code
def yX9_readTick : MethodName := ⟨RX9, "readTick", "()V"⟩
abbrev cX9_addsLine : ByteArray := prog_11_method_27_code
def yX9_addsLine : MethodName := ⟨RX9, "addsLine", "(IIIIII)V"⟩
abbrev cX9_reads : ByteArray := prog_11_method_28_code
def yX9_reads : MethodName := ⟨RX9, "reads", "(IZ)Z"⟩
abbrev cX9_doesAll : ByteArray := prog_11_method_29_code
def yX9_doesAll : MethodName := ⟨RX9, "doesAll", "()I"⟩
abbrev cX9_feed : ByteArray := prog_11_method_30_code
def yX9_feed : MethodName := ⟨RX9, "feed", "(IIIII)I"⟩
abbrev cX9_desk : ByteArray := prog_11_method_31_code
def yX9_desk : MethodName := ⟨RX9, "desk", "(I)I"⟩
abbrev cX9_more_ : ByteArray := prog_11_method_32_code
def yX9_more_ : MethodName := ⟨RX9, "more", "(I)I"⟩
abbrev cX9_fault : ByteArray := prog_11_method_33_code
def yX9_fault : MethodName := ⟨RX9, "fault", "()I"⟩
abbrev cX9_where : ByteArray := prog_11_method_34_code
def yX9_where : MethodName := ⟨RX9, "where", "()I"⟩
abbrev cX9_netAt : ByteArray := prog_11_method_35_code
def yX9_netAt : MethodName := ⟨RX9, "netAt", "(III)I"⟩
abbrev cX9_thereOf : ByteArray := prog_11_method_36_code
def yX9_thereOf : MethodName := ⟨RX9, "thereOf", "(IIII)I"⟩
abbrev cX9_thereAll : ByteArray := prog_11_method_37_code
def yX9_thereAll : MethodName := ⟨RX9, "thereAll", "(III)I"⟩
abbrev cX9_has : ByteArray := prog_11_method_38_code
def yX9_has : MethodName := ⟨RX9, "has", "(III)Z"⟩
abbrev cX9_isOuter : ByteArray := prog_11_method_39_code
def yX9_isOuter : MethodName := ⟨RX9, "isOuter", "(II)Z"⟩
abbrev cX9_joined : ByteArray := prog_11_method_40_code
def yX9_joined : MethodName := ⟨RX9, "joined", "(IIII)I"⟩
abbrev cX9_closedAt : ByteArray := prog_11_method_41_code
def yX9_closedAt : MethodName := ⟨RX9, "closedAt", "(III)I"⟩
abbrev cX9_sentOf : ByteArray := prog_11_method_42_code
def yX9_sentOf : MethodName := ⟨RX9, "sentOf", "(IIII)I"⟩
abbrev cX9_sends : ByteArray := prog_11_method_43_code
def yX9_sends : MethodName := ⟨RX9, "sends", "(IIIII)V"⟩
abbrev cX9_sendsBy : ByteArray := prog_11_method_44_code
def yX9_sendsBy : MethodName := ⟨RX9, "sendsBy", "(IIIIII)V"⟩
abbrev cX9_sendsOuter : ByteArray := prog_11_method_45_code
def yX9_sendsOuter : MethodName := ⟨RX9, "sendsOuter", "(IIII)V"⟩
abbrev cX9_changes : ByteArray := prog_11_method_46_code
def yX9_changes : MethodName := ⟨RX9, "changes", "(IIIII)V"⟩
abbrev cX9_countsMost : ByteArray := prog_11_method_47_code
def yX9_countsMost : MethodName := ⟨RX9, "countsMost", "(II)I"⟩
abbrev cX9_lives : ByteArray := prog_11_method_48_code
def yX9_lives : MethodName := ⟨RX9, "lives", "(II)Z"⟩
abbrev cX9_lapses : ByteArray := prog_11_method_49_code
def yX9_lapses : MethodName := ⟨RX9, "lapses", "(I)I"⟩
abbrev cX9_closes : ByteArray := prog_11_method_50_code
def yX9_closes : MethodName := ⟨RX9, "closes", "(IIII)V"⟩
abbrev cX9_ticks : ByteArray := prog_11_method_51_code
def yX9_ticks : MethodName := ⟨RX9, "ticks", "(II)I"⟩
abbrev cX9_does : ByteArray := prog_11_method_52_code
def yX9_does : MethodName := ⟨RX9, "does", "(IIIIII)I"⟩
abbrev cX9_isKey : ByteArray := prog_11_method_53_code
def yX9_isKey : MethodName := ⟨RX9, "isKey", "(I)Z"⟩
abbrev cX9_isValue : ByteArray := prog_11_method_54_code
def yX9_isValue : MethodName := ⟨RX9, "isValue", "(I)Z"⟩
abbrev cX9_isSide : ByteArray := prog_11_method_55_code
def yX9_isSide : MethodName := ⟨RX9, "isSide", "(I)Z"⟩
abbrev cX9_living : ByteArray := prog_11_method_56_code
def yX9_living : MethodName := ⟨RX9, "living", "()I"⟩
abbrev cX9_about : ByteArray := prog_11_method_57_code
def yX9_about : MethodName := ⟨RX9, "about", "(I)I"⟩
abbrev cX9_letters : ByteArray := prog_11_method_58_code
def yX9_letters : MethodName := ⟨RX9, "letters", "(II)I"⟩
abbrev cX9_letterOf : ByteArray := prog_11_method_59_code
def yX9_letterOf : MethodName := ⟨RX9, "letterOf", "(III)I"⟩
abbrev cX9_letter : ByteArray := prog_11_method_60_code
def yX9_letter : MethodName := ⟨RX9, "letter", "(III)I"⟩
abbrev cX9_net : ByteArray := prog_11_method_61_code
def yX9_net : MethodName := ⟨RX9, "net", "(III)I"⟩
abbrev cX9_there : ByteArray := prog_11_method_62_code
def yX9_there : MethodName := ⟨RX9, "there", "(II)I"⟩
abbrev cX9_key : ByteArray := prog_11_method_63_code
def yX9_key : MethodName := ⟨RX9, "key", "(II)I"⟩
abbrev cX9_debts : ByteArray := prog_11_method_64_code
def yX9_debts : MethodName := ⟨RX9, "debts", "(I)I"⟩
abbrev cX9_isRow : ByteArray := prog_11_method_65_code
def yX9_isRow : MethodName := ⟨RX9, "isRow", "(III)Z"⟩
abbrev cX9_place : ByteArray := prog_11_method_66_code
def yX9_place : MethodName := ⟨RX9, "place", "(I)I"⟩
abbrev cX9_sent : ByteArray := prog_11_method_67_code
def yX9_sent : MethodName := ⟨RX9, "sent", "(III)I"⟩
abbrev cX9_join : ByteArray := prog_11_method_68_code
def yX9_join : MethodName := ⟨RX9, "join", "(III)I"⟩
abbrev cX9_closed : ByteArray := prog_11_method_69_code
def yX9_closed : MethodName := ⟨RX9, "closed", "(III)I"⟩
abbrev cX9_finds : ByteArray := prog_11_method_70_code
def yX9_finds : MethodName := ⟨RX9, "finds", "(II)I"⟩
abbrev cX9_rows : ByteArray := prog_11_method_71_code
def yX9_rows : MethodName := ⟨RX9, "rows", "()I"⟩
abbrev cX9_isFound : ByteArray := prog_11_method_72_code
def yX9_isFound : MethodName := ⟨RX9, "isFound", "(I)Z"⟩
abbrev cX9_told : ByteArray := prog_11_method_73_code
def yX9_told : MethodName := ⟨RX9, "told", "(I)I"⟩
abbrev cX9_row : ByteArray := prog_11_method_74_code
def yX9_row : MethodName := ⟨RX9, "row", "(II)I"⟩
abbrev cX9_spells : ByteArray := prog_11_method_75_code
def yX9_spells : MethodName := ⟨RX9, "spells", "(I)V"⟩
abbrev cX9_spellsWord : ByteArray := prog_11_method_76_code
def yX9_spellsWord : MethodName := ⟨RX9, "spellsWord", "(II)V"⟩
abbrev cX9_spellsNumber : ByteArray := prog_11_method_77_code
def yX9_spellsNumber : MethodName := ⟨RX9, "spellsNumber", "(I)V"⟩
abbrev cX9_spell : ByteArray := prog_11_method_78_code
def yX9_spell : MethodName := ⟨RX9, "spell", "(II)I"⟩
abbrev cX9_traffic : ByteArray := prog_11_method_79_code
def yX9_traffic : MethodName := ⟨RX9, "traffic", "(I)I"⟩
abbrev cX9_logged : ByteArray := prog_11_method_80_code
def yX9_logged : MethodName := ⟨RX9, "logged", "()I"⟩
abbrev cX9_log : ByteArray := prog_11_method_81_code
def yX9_log : MethodName := ⟨RX9, "log", "(II)I"⟩
abbrev cX9_flips : ByteArray := prog_11_method_82_code
def yX9_flips : MethodName := ⟨RX9, "flips", "(II)I"⟩
abbrev cX9_busiest : ByteArray := prog_11_method_83_code
def yX9_busiest : MethodName := ⟨RX9, "busiest", "()I"⟩
abbrev cX9_dearest : ByteArray := prog_11_method_84_code
def yX9_dearest : MethodName := ⟨RX9, "dearest", "()I"⟩
abbrev cX9_subAt : ByteArray := prog_11_method_85_code
def yX9_subAt : MethodName := ⟨RX9, "subAt", "(II)I"⟩
abbrev cX9_hasBegun : ByteArray := prog_11_method_86_code
def yX9_hasBegun : MethodName := ⟨RX9, "hasBegun", "(I)Z"⟩
abbrev cX9_sentAt : ByteArray := prog_11_method_87_code
def yX9_sentAt : MethodName := ⟨RX9, "sentAt", "(I)I"⟩
abbrev cX9_looks : ByteArray := prog_11_method_88_code
def yX9_looks : MethodName := ⟨RX9, "looks", "(I)I"⟩
abbrev cX9_begin : ByteArray := prog_11_method_89_code
def yX9_begin : MethodName := ⟨RX9, "begin", "(I)I"⟩
abbrev cX9_pull : ByteArray := prog_11_method_90_code
def yX9_pull : MethodName := ⟨RX9, "pull", "(I)I"⟩
abbrev cX9_differences : ByteArray := prog_11_method_91_code
def yX9_differences : MethodName := ⟨RX9, "differences", "(I)I"⟩
abbrev cX9_pulled : ByteArray := prog_11_method_92_code
def yX9_pulled : MethodName := ⟨RX9, "pulled", "(III)I"⟩
abbrev cX9_held : ByteArray := prog_11_method_93_code
def yX9_held : MethodName := ⟨RX9, "held", "(IIII)I"⟩
abbrev cX9_otherwise : ByteArray := prog_11_method_94_code
def yX9_otherwise : MethodName := ⟨RX9, "otherwise", "(I)I"⟩
abbrev cX9_lag : ByteArray := prog_11_method_95_code
def yX9_lag : MethodName := ⟨RX9, "lag", "(II)I"⟩
abbrev cX9_begun : ByteArray := prog_11_method_96_code
def yX9_begun : MethodName := ⟨RX9, "begun", "()I"⟩
abbrev cX9_refusesEvent : ByteArray := prog_11_method_97_code
def yX9_refusesEvent : MethodName := ⟨RX9, "refusesEvent", "(IIIII)I"⟩
abbrev cX9_would : ByteArray := prog_11_method_98_code
def yX9_would : MethodName := ⟨RX9, "would", "(IIIII)I"⟩
abbrev cX9_nextLapse : ByteArray := prog_11_method_99_code
def yX9_nextLapse : MethodName := ⟨RX9, "nextLapse", "()I"⟩
abbrev cX9_replays : ByteArray := prog_11_method_100_code
def yX9_replays : MethodName := ⟨RX9, "replays", "(I)V"⟩
abbrev cX9_replay : ByteArray := prog_11_method_101_code
def yX9_replay : MethodName := ⟨RX9, "replay", "(II)I"⟩
abbrev cX9_cost : ByteArray := prog_11_method_102_code
def yX9_cost : MethodName := ⟨RX9, "cost", "(I)I"⟩
abbrev cX9_event : ByteArray := prog_11_method_103_code
def yX9_event : MethodName := ⟨RX9, "event", "(IIIII)I"⟩
abbrev cX9_tick : ByteArray := prog_11_method_104_code
def yX9_tick : MethodName := ⟨RX9, "tick", "(I)I"⟩
abbrev cX9_exchanges : ByteArray := prog_11_method_105_code
def yX9_exchanges : MethodName := ⟨RX9, "exchanges", "(IIIII)V"⟩
abbrev cX9_how : ByteArray := prog_11_method_106_code
def yX9_how : MethodName := ⟨RX9, "how", "(I)I"⟩
abbrev cX9_bounds : ByteArray := prog_11_method_107_code
def yX9_bounds : MethodName := ⟨RX9, "bounds", "(II)Z"⟩
abbrev cX9_keep : ByteArray := prog_11_method_108_code
def yX9_keep : MethodName := ⟨RX9, "keep", "()Z"⟩
abbrev cX9_back : ByteArray := prog_11_method_109_code
def yX9_back : MethodName := ⟨RX9, "back", "()Z"⟩
abbrev cX9_single : ByteArray := prog_11_method_110_code
def yX9_single : MethodName := ⟨RX9, "single", "(I)I"⟩
abbrev cX9_size : ByteArray := prog_11_method_111_code
def yX9_size : MethodName := ⟨RX9, "size", "(I)I"⟩
abbrev cX9_trouble : ByteArray := prog_11_method_112_code
def yX9_trouble : MethodName := ⟨RX9, "trouble", "()I"⟩
abbrev cJ5_init_d00df : ByteArray := prog_13_method_2_code
def yJ5_init_d00df : MethodName := ⟨RJ5, "<init>", "(I)V"⟩
abbrev cJ5_length_8abf5 : ByteArray := prog_13_method_6_code
def yJ5_length_8abf5 : MethodName := ⟨RJ5, "length", "()I"⟩
abbrev cJ5_ensureCapacityInternal_d00df : ByteArray := prog_13_method_9_code
def yJ5_ensureCapacityInternal_d00df : MethodName := ⟨RJ5, "ensureCapacityInternal", "(I)V"⟩
abbrev cJ5_newCapacity_0f7a4 : ByteArray := prog_13_method_10_code
def yJ5_newCapacity_0f7a4 : MethodName := ⟨RJ5, "newCapacity", "(I)I"⟩
abbrev cJ5_inflate_da8c8 : ByteArray := prog_13_method_11_code
def yJ5_inflate_da8c8 : MethodName := ⟨RJ5, "inflate", "()V"⟩
abbrev cJ5_charAt_5068e : ByteArray := prog_13_method_14_code
def yJ5_charAt_5068e : MethodName := ⟨RJ5, "charAt", "(I)C"⟩
abbrev cJ5_append_3fe6f : ByteArray := prog_13_method_31_code
def yJ5_append_3fe6f : MethodName := ⟨RJ5, "append", "(C)Ljava/lang/AbstractStringBuilder;"⟩
abbrev cJ5_append_c97b9 : ByteArray := prog_13_method_32_code
def yJ5_append_c97b9 : MethodName := ⟨RJ5, "append", "(I)Ljava/lang/AbstractStringBuilder;"⟩
abbrev cJ5_isLatin1_aae02 : ByteArray := prog_13_method_68_code
def yJ5_isLatin1_aae02 : MethodName := ⟨RJ5, "isLatin1", "()Z"⟩
abbrev cJ6_getChars_ba4f3 : ByteArray := prog_19_method_12_code
def yJ6_getChars_ba4f3 : MethodName := ⟨RJ6, "getChars", "(II[B)I"⟩
abbrev cJ6_stringSize_0f7a4 : ByteArray := prog_19_method_13_code
def yJ6_stringSize_0f7a4 : MethodName := ⟨RJ6, "stringSize", "(I)I"⟩
abbrev cJ9_max_7cf53 : ByteArray := prog_20_method_65_code
def yJ9_max_7cf53 : MethodName := ⟨RJ9, "max", "(II)I"⟩
abbrev cJ9_min_7cf53 : ByteArray := prog_20_method_69_code
def yJ9_min_7cf53 : MethodName := ⟨RJ9, "min", "(II)I"⟩
abbrev cJ0_length_8abf5 : ByteArray := prog_23_method_54_code
def yJ0_length_8abf5 : MethodName := ⟨RJ0, "length", "()I"⟩
abbrev cJ0_charAt_5068e : ByteArray := prog_23_method_56_code
def yJ0_charAt_5068e : MethodName := ⟨RJ0, "charAt", "(I)C"⟩
abbrev cJ0_coder_7d493 : ByteArray := prog_23_method_152_code
def yJ0_coder_7d493 : MethodName := ⟨RJ0, "coder", "()B"⟩
abbrev cJ0_isLatin1_aae02 : ByteArray := prog_23_method_154_code
def yJ0_isLatin1_aae02 : MethodName := ⟨RJ0, "isLatin1", "()Z"⟩
abbrev cJ0_checkIndex_df160 : ByteArray := prog_23_method_155_code
def yJ0_checkIndex_df160 : MethodName := ⟨RJ0, "checkIndex", "(II)V"⟩
abbrev cJ0_checkBoundsOffCount_cabcc : ByteArray := prog_23_method_157_code
def yJ0_checkBoundsOffCount_cabcc : MethodName := ⟨RJ0, "checkBoundsOffCount", "(III)I"⟩
abbrev cJ0_checkBoundsBeginEnd_23922 : ByteArray := prog_23_method_158_code
def yJ0_checkBoundsBeginEnd_23922 : MethodName := ⟨RJ0, "checkBoundsBeginEnd", "(III)V"⟩
abbrev cJ4_init_da8c8 : ByteArray := prog_24_method_1_code
def yJ4_init_da8c8 : MethodName := ⟨RJ4, "<init>", "()V"⟩
abbrev cJ4_append_cf468 : ByteArray := prog_24_method_14_code
def yJ4_append_cf468 : MethodName := ⟨RJ4, "append", "(C)Ljava/lang/StringBuilder;"⟩
abbrev cJ4_append_bf812 : ByteArray := prog_24_method_15_code
def yJ4_append_bf812 : MethodName := ⟨RJ4, "append", "(I)Ljava/lang/StringBuilder;"⟩
abbrev cJ4_charAt_5068e : ByteArray := prog_24_method_88_code
def yJ4_charAt_5068e : MethodName := ⟨RJ4, "charAt", "(I)C"⟩
abbrev cJ4_length_8abf5 : ByteArray := prog_24_method_93_code
def yJ4_length_8abf5 : MethodName := ⟨RJ4, "length", "()I"⟩
abbrev cJ1_charAt_3b067 : ByteArray := prog_25_method_2_code
def yJ1_charAt_3b067 : MethodName := ⟨RJ1, "charAt", "([BI)C"⟩
abbrev cJ1_canEncode_fc78d : ByteArray := prog_25_method_3_code
def yJ1_canEncode_fc78d : MethodName := ⟨RJ1, "canEncode", "(C)Z"⟩
abbrev cJ1_inflate_0e8fd : ByteArray := prog_25_method_50_code
def yJ1_inflate_0e8fd : MethodName := ⟨RJ1, "inflate", "([BI[BII)V"⟩
abbrev cJ2_newBytesFor_77867 : ByteArray := prog_26_method_2_code
def yJ2_newBytesFor_77867 : MethodName := ⟨RJ2, "newBytesFor", "(I)[B"⟩
abbrev cJ2_newBytesLength_0f7a4 : ByteArray := prog_26_method_3_code
def yJ2_newBytesLength_0f7a4 : MethodName := ⟨RJ2, "newBytesLength", "(I)I"⟩
abbrev cJ2_putChar_b72d1 : ByteArray := prog_26_method_4_code
def yJ2_putChar_b72d1 : MethodName := ⟨RJ2, "putChar", "([BII)V"⟩
abbrev cJ2_getChar_3b067 : ByteArray := prog_26_method_5_code
def yJ2_getChar_3b067 : MethodName := ⟨RJ2, "getChar", "([BI)C"⟩
abbrev cJ2_length_9d52b : ByteArray := prog_26_method_6_code
def yJ2_length_9d52b : MethodName := ⟨RJ2, "length", "([B)I"⟩
abbrev cJ2_putCharSB_b72d1 : ByteArray := prog_26_method_71_code
def yJ2_putCharSB_b72d1 : MethodName := ⟨RJ2, "putCharSB", "([BII)V"⟩
abbrev cJ2_getChars_46870 : ByteArray := prog_26_method_77_code
def yJ2_getChars_46870 : MethodName := ⟨RJ2, "getChars", "(III[B)I"⟩
abbrev cJ2_charAt_3b067 : ByteArray := prog_26_method_83_code
def yJ2_charAt_3b067 : MethodName := ⟨RJ2, "charAt", "([BI)C"⟩
abbrev cJ2_inflate_0e8fd : ByteArray := prog_26_method_86_code
def yJ2_inflate_0e8fd : MethodName := ⟨RJ2, "inflate", "([BI[BII)V"⟩
abbrev cJ2_getChars_ba4f3 : ByteArray := prog_26_method_89_code
def yJ2_getChars_ba4f3 : MethodName := ⟨RJ2, "getChars", "(II[B)I"⟩
abbrev cJ2_checkIndex_2214a : ByteArray := prog_26_method_91_code
def yJ2_checkIndex_2214a : MethodName := ⟨RJ2, "checkIndex", "(I[B)V"⟩
abbrev cJ2_checkBoundsBeginEnd_d044e : ByteArray := prog_26_method_93_code
def yJ2_checkBoundsBeginEnd_d044e : MethodName := ⟨RJ2, "checkBoundsBeginEnd", "(II[B)V"⟩
abbrev cJ2_checkBoundsOffCount_d044e : ByteArray := prog_26_method_94_code
def yJ2_checkBoundsOffCount_d044e : MethodName := ⟨RJ2, "checkBoundsOffCount", "(II[B)V"⟩
abbrev cJ7_fill_53178 : ByteArray := prog_31_method_103_code
def yJ7_fill_53178 : MethodName := ⟨RJ7, "fill", "([II)V"⟩
abbrev cJ7_copyOf_9075b : ByteArray := prog_31_method_121_code
def yJ7_copyOf_9075b : MethodName := ⟨RJ7, "copyOf", "([BI)[B"⟩
abbrev cJ8_newLength_cabcc : ByteArray := prog_33_method_27_code
def yJ8_newLength_cabcc : MethodName := ⟨RJ8, "newLength", "(III)I"⟩
abbrev cJ8_hugeLength_7cf53 : ByteArray := prog_33_method_28_code
def yJ8_hugeLength_7cf53 : MethodName := ⟨RJ8, "hugeLength", "(II)I"⟩
abbrev cJ3_checkIndex_8e157 : ByteArray := prog_34_method_11_code
def yJ3_checkIndex_8e157 : MethodName := ⟨RJ3, "checkIndex", "(IILjava/util/function/BiFunction;)I"⟩
abbrev cJ3_checkFromToIndex_8c36e : ByteArray := prog_34_method_12_code
def yJ3_checkFromToIndex_8c36e : MethodName := ⟨RJ3, "checkFromToIndex", "(IIILjava/util/function/BiFunction;)I"⟩
abbrev cJ3_checkFromIndexSize_8c36e : ByteArray := prog_34_method_13_code
def yJ3_checkFromIndexSize_8c36e : MethodName := ⟨RJ3, "checkFromIndexSize", "(IIILjava/util/function/BiFunction;)I"⟩
abbrev cL_single : ByteArray := method_3_code
def yL_single : MethodName := ⟨RL, "single", "(LOuterRows;I[J)I"⟩
abbrev cL_law : ByteArray := code
def yL_law : MethodName := ⟨RL, "law", "([I)Z"⟩
abbrev vwCl : List vw_C := [(RJ4, TJ4, 4), (RX0, TX0, 5), (RX1, TX1, 12), (RX2, TX2, 11), (RX3, TX3, 12), (RX4, TX4, 5), (RX5, TX5, 3), (RX6, TX6, 8), (RX7, TX7, 2), (RX8, TX8, 9), (RX9, TX9, 36)]
/-- a class of ours: its row among the classes, its words in the tables -/
def GCls (C : String) (T : u_T) (N ci : Nat) (ty0 : Nat → FieldType) : Prop := vwCl[ci]? = some (C, T, N) ∧ (∀ w ∈ u_ws C T N, w ∈ TBL) ∧ (∀ k, k < N → parseFieldDescriptor (T k).2.2.1 = some (ty0 k)) ∧ (∀ a, a < N → ∀ b, b < N → a ≠ b → (T a).2.1 ≠ (T b).2.1)
def GFld (own : String) (idx : Nat) (T : u_T) (k N : Nat) : Prop := k < N ∧ Cond.fieldLink own idx (T k).1 (T k).2.1 (T k).2.2.1 ∈ TBL
def GDesc (y : MethodName) (n : Nat) : Prop := y.cls ≠ "java/lang/invoke/MethodHandle" ∧ y.cls ≠ "java/lang/invoke/VarHandle" ∧ (parseMethodDescriptor y.desc).map (fun d => d.parameters.length) = some n
def GCV (own : String) (idx : Nat) (y : MethodName) (cc : ByteArray) (nL : Nat) (ret : Option FieldType) (n : Nat) : Prop := Cond.methodLink own idx y ∈ TBL ∧ Cond.instanceMethod y ∈ TBL ∧ Cond.selects y.cls y y ∈ TBL ∧ Cond.initialized y.cls ∈ TBL ∧ Cond.code y cc nL ret ∈ TBL ∧ GDesc y n
def GCS (own : String) (idx : Nat) (y : MethodName) (cc : ByteArray) (nL : Nat) (ret : Option FieldType) (n : Nat) : Prop := Cond.methodLink own idx y ∈ TBL ∧ Cond.static y ∈ TBL ∧ Cond.initialized y.cls ∈ TBL ∧ Cond.code y cc nL ret ∈ TBL ∧ GDesc y n
def nst : List (String × Nat × MethodName × String) := [(RX8, 13, yX3_init, "OuterRows"), (RX3, 11, yX6_init, "OuterRows"), (RX3, 20, yX7_init, "OuterRows"), (RX8, 20, yX0_init, "OuterRows"), (RX0, 23, yX2_init, "OuterRows"), (RX8, 85, yX1_init, "OuterRows"), (RX1, 11, yX7_init, "OuterRows"), (RX1, 23, yX0_init, "OuterRows"), (RX1, 30, yX4_init, "OuterRows"), (RX1, 37, yX5_init, "OuterRows"), (RX0, 61, yX8_placeOf, "OuterRows"), (RX1, 167, yX8_keyOfPlace, "OuterRows"), (RX1, 178, yX8_leftOfPlace, "OuterRows"), (RX1, 181, yX8_rightOfPlace, "OuterRows"), (RX2, 61, yX8_partOfRow, "OuterRows"), (RX5, 48, yX8_countFilled, "OuterRows")]
def GCN (own : String) (idx : Nat) (y : MethodName) (host : String) (cc : ByteArray) (nL : Nat) (ret : Option FieldType) (n : Nat) : Prop := (own, idx, y, host) ∈ nst ∧ Cond.static y ∈ TBL ∧ Cond.initialized y.cls ∈ TBL ∧ Cond.code y cc nL ret ∈ TBL ∧ GDesc y n
def GCI (own : String) (idx : Nat) (y : MethodName) (cc : ByteArray) (nL : Nat) (n : Nat) : Prop := Cond.methodLink own idx y ∈ TBL ∧ Cond.instanceMethod y ∈ TBL ∧ y.name = "<init>" ∧ Cond.initialized y.cls ∈ TBL ∧ Cond.code y cc nL none ∈ TBL ∧ GDesc y n
def GCIN (own : String) (idx : Nat) (y : MethodName) (host : String) (cc : ByteArray) (nL : Nat) (n : Nat) : Prop := (own, idx, y, host) ∈ nst ∧ Cond.instanceMethod y ∈ TBL ∧ y.name = "<init>" ∧ Cond.initialized y.cls ∈ TBL ∧ Cond.code y cc nL none ∈ TBL ∧ GDesc y n
theorem okX0 : GCls RX0 TX0 5 1 tyX0 := ⟨rfl, fun w h => (fun z => tb (inT z.1) z.2) (goodIn_z (big := tables_1) _ [207, 209, 211, 213, 215] (by decide +kernel) (by decide +kernel) w h), tyX0_ok, nmX0⟩
theorem okX1 : GCls RX1 TX1 12 2 tyX1 := ⟨rfl, fun w h => (fun z => tb (inT z.1) z.2) (goodIn_z (big := tables_1) _ [457, 459, 461, 463, 465, 467, 469, 471, 473, 475, 477, 479] (by decide +kernel) (by decide +kernel) w h), tyX1_ok, nmX1⟩
theorem okX2 : GCls RX2 TX2 11 3 tyX2 := ⟨rfl, fun w h => (fun z => tb (inT z.1) z.2) (goodIn_z (big := tables_1) _ [170, 172, 174, 176, 178, 180, 182, 184, 186, 188, 190] (by decide +kernel) (by decide +kernel) w h), tyX2_ok, nmX2⟩
theorem okX3 : GCls RX3 TX3 12 4 tyX3 := ⟨rfl, fun w h => (fun z => tb (inT z.1) z.2) (goodIn_z (big := tables_1) _ [115, 117, 119, 121, 123, 125, 127, 129, 131, 133, 135, 137] (by decide +kernel) (by decide +kernel) w h), tyX3_ok, nmX3⟩
theorem okX4 : GCls RX4 TX4 5 5 tyX4 := ⟨rfl, fun w h => (fun z => tb (inT z.1) z.2) (goodIn_z (big := tables_1) _ [408, 410, 412, 414, 416] (by decide +kernel) (by decide +kernel) w h), tyX4_ok, nmX4⟩
theorem okX5 : GCls RX5 TX5 3 6 tyX5 := ⟨rfl, fun w h => (fun z => tb (inT z.1) z.2) (goodIn_z (big := tables_1) _ [430, 432, 434] (by decide +kernel) (by decide +kernel) w h), tyX5_ok, nmX5⟩
theorem okX6 : GCls RX6 TX6 8 7 tyX6 := ⟨rfl, fun w h => (fun z => tb (inT z.1) z.2) (goodIn_z (big := tables_1) _ [60, 62, 64, 66, 68, 70, 72, 74] (by decide +kernel) (by decide +kernel) w h), tyX6_ok, nmX6⟩
theorem okX7 : GCls RX7 TX7 2 8 tyX7 := ⟨rfl, fun w h => (fun z => tb (inT z.1) z.2) (goodIn_z (big := tables_1) _ [87, 89] (by decide +kernel) (by decide +kernel) w h), tyX7_ok, nmX7⟩
theorem okX8 : GCls RX8 TX8 9 9 tyX8 := ⟨rfl, fun w h => (fun z => tb (inT z.1) z.2) (goodIn_z (big := tables_1) _ [227, 229, 231, 233, 235, 237, 239, 241, 243] (by decide +kernel) (by decide +kernel) w h), tyX8_ok, nmX8⟩
theorem okX9 : GCls RX9 TX9 36 10 tyX9 := ⟨rfl, fun w h => (fun z => tb (inT z.1) z.2) (goodIn_z (big := tables_1) _ [1263, 1265, 1267, 1269, 1271, 1273, 1275, 1277, 1279, 1281, 1283, 1285, 1287, 1289, 1291, 1293, 1295, 1297, 1299, 1301, 1303, 1305, 1307, 1309, 1311, 1313, 1315, 1317, 1319, 1321, 1323, 1325, 1327, 1329, 1331, 1333] (by decide +kernel) (by decide +kernel) w h), tyX9_ok, nmX9⟩
theorem fl_X6_9 : GFld RX6 9 TX6 0 8 := ⟨by decide, tb (in1 (List.mem_of_getElem? (i := 47) (by decide +kernel))) (by decide +kernel)⟩
theorem fl_X6_13 : GFld RX6 13 TX6 1 8 := ⟨by decide, tb (in1 (List.mem_of_getElem? (i := 48) (by decide +kernel))) (by decide +kernel)⟩
theorem fl_X8_66 : GFld RX8 66 TX6 1 8 := ⟨by decide, tb (in1 (List.mem_of_getElem? (i := 49) (by decide +kernel))) (by decide +kernel)⟩
theorem fl_X6_17 : GFld RX6 17 TX6 2 8 := ⟨by decide, tb (in1 (List.mem_of_getElem? (i := 50) (by decide +kernel))) (by decide +kernel)⟩
theorem fl_X6_20 : GFld RX6 20 TX6 3 8 := ⟨by decide, tb (in1 (List.mem_of_getElem? (i := 51) (by decide +kernel))) (by decide +kernel)⟩
theorem fl_X6_23 : GFld RX6 23 TX6 4 8 := ⟨by decide, tb (in1 (List.mem_of_getElem? (i := 52) (by decide +kernel))) (by decide +kernel)⟩
theorem fl_X3_73 : GFld RX3 73 TX6 4 8 := ⟨by decide, tb (in1 (List.mem_of_getElem? (i := 53) (by decide +kernel))) (by decide +kernel)⟩
theorem fl_X6_26 : GFld RX6 26 TX6 5 8 := ⟨by decide, tb (in1 (List.mem_of_getElem? (i := 54) (by decide +kernel))) (by decide +kernel)⟩
theorem fl_X3_83 : GFld RX3 83 TX6 5 8 := ⟨by decide, tb (in1 (List.mem_of_getElem? (i := 55) (by decide +kernel))) (by decide +kernel)⟩
theorem fl_X6_29 : GFld RX6 29 TX6 6 8 := ⟨by decide, tb (in1 (List.mem_of_getElem? (i := 56) (by decide +kernel))) (by decide +kernel)⟩
theorem fl_X3_150 : GFld RX3 150 TX6 6 8 := ⟨by decide, tb (in1 (List.mem_of_getElem? (i := 57) (by decide +kernel))) (by decide +kernel)⟩
theorem fl_X6_33 : GFld RX6 33 TX6 7 8 := ⟨by decide, tb (in1 (List.mem_of_getElem? (i := 58) (by decide +kernel))) (by decide +kernel)⟩
theorem fl_X3_136 : GFld RX3 136 TX6 7 8 := ⟨by decide, tb (in1 (List.mem_of_getElem? (i := 59) (by decide +kernel))) (by decide +kernel)⟩
theorem fl_X7_9 : GFld RX7 9 TX7 0 2 := ⟨by decide, tb (in1 (List.mem_of_getElem? (i := 84) (by decide +kernel))) (by decide +kernel)⟩
theorem fl_X7_15 : GFld RX7 15 TX7 1 2 := ⟨by decide, tb (in1 (List.mem_of_getElem? (i := 85) (by decide +kernel))) (by decide +kernel)⟩
theorem fl_X1_150 : GFld RX1 150 TX7 1 2 := ⟨by decide, tb (in1 (List.mem_of_getElem? (i := 86) (by decide +kernel))) (by decide +kernel)⟩
theorem fl_X3_12 : GFld RX3 12 TX3 0 12 := ⟨by decide, tb (in1 (List.mem_of_getElem? (i := 93) (by decide +kernel))) (by decide +kernel)⟩
theorem fl_X8_52 : GFld RX8 52 TX3 0 12 := ⟨by decide, tb (in1 (List.mem_of_getElem? (i := 94) (by decide +kernel))) (by decide +kernel)⟩
theorem fl_X3_21 : GFld RX3 21 TX3 1 12 := ⟨by decide, tb (in1 (List.mem_of_getElem? (i := 95) (by decide +kernel))) (by decide +kernel)⟩
theorem fl_X8_339 : GFld RX8 339 TX3 1 12 := ⟨by decide, tb (in1 (List.mem_of_getElem? (i := 96) (by decide +kernel))) (by decide +kernel)⟩
theorem fl_X3_25 : GFld RX3 25 TX3 2 12 := ⟨by decide, tb (in1 (List.mem_of_getElem? (i := 97) (by decide +kernel))) (by decide +kernel)⟩
theorem fl_X8_343 : GFld RX8 343 TX3 2 12 := ⟨by decide, tb (in1 (List.mem_of_getElem? (i := 98) (by decide +kernel))) (by decide +kernel)⟩
theorem fl_X3_28 : GFld RX3 28 TX3 3 12 := ⟨by decide, tb (in1 (List.mem_of_getElem? (i := 99) (by decide +kernel))) (by decide +kernel)⟩
theorem fl_X8_345 : GFld RX8 345 TX3 3 12 := ⟨by decide, tb (in1 (List.mem_of_getElem? (i := 100) (by decide +kernel))) (by decide +kernel)⟩
theorem fl_X3_32 : GFld RX3 32 TX3 4 12 := ⟨by decide, tb (in1 (List.mem_of_getElem? (i := 101) (by decide +kernel))) (by decide +kernel)⟩
theorem fl_X8_344 : GFld RX8 344 TX3 4 12 := ⟨by decide, tb (in1 (List.mem_of_getElem? (i := 102) (by decide +kernel))) (by decide +kernel)⟩
theorem fl_X3_36 : GFld RX3 36 TX3 5 12 := ⟨by decide, tb (in1 (List.mem_of_getElem? (i := 103) (by decide +kernel))) (by decide +kernel)⟩
theorem fl_X3_40 : GFld RX3 40 TX3 6 12 := ⟨by decide, tb (in1 (List.mem_of_getElem? (i := 104) (by decide +kernel))) (by decide +kernel)⟩
theorem fl_X8_86 : GFld RX8 86 TX3 6 12 := ⟨by decide, tb (in1 (List.mem_of_getElem? (i := 105) (by decide +kernel))) (by decide +kernel)⟩
theorem fl_X3_43 : GFld RX3 43 TX3 7 12 := ⟨by decide, tb (in1 (List.mem_of_getElem? (i := 106) (by decide +kernel))) (by decide +kernel)⟩
theorem fl_X8_89 : GFld RX8 89 TX3 7 12 := ⟨by decide, tb (in1 (List.mem_of_getElem? (i := 107) (by decide +kernel))) (by decide +kernel)⟩
theorem fl_X3_46 : GFld RX3 46 TX3 8 12 := ⟨by decide, tb (in1 (List.mem_of_getElem? (i := 108) (by decide +kernel))) (by decide +kernel)⟩
theorem fl_X8_92 : GFld RX8 92 TX3 8 12 := ⟨by decide, tb (in1 (List.mem_of_getElem? (i := 109) (by decide +kernel))) (by decide +kernel)⟩
theorem fl_X3_49 : GFld RX3 49 TX3 9 12 := ⟨by decide, tb (in1 (List.mem_of_getElem? (i := 110) (by decide +kernel))) (by decide +kernel)⟩
theorem fl_X3_52 : GFld RX3 52 TX3 10 12 := ⟨by decide, tb (in1 (List.mem_of_getElem? (i := 111) (by decide +kernel))) (by decide +kernel)⟩
theorem fl_X8_337 : GFld RX8 337 TX3 10 12 := ⟨by decide, tb (in1 (List.mem_of_getElem? (i := 112) (by decide +kernel))) (by decide +kernel)⟩
theorem fl_X3_55 : GFld RX3 55 TX3 11 12 := ⟨by decide, tb (in1 (List.mem_of_getElem? (i := 113) (by decide +kernel))) (by decide +kernel)⟩
theorem fl_X8_338 : GFld RX8 338 TX3 11 12 := ⟨by decide, tb (in1 (List.mem_of_getElem? (i := 114) (by decide +kernel))) (by decide +kernel)⟩
theorem fl_X2_11 : GFld RX2 11 TX2 0 11 := ⟨by decide, tb (in1 (List.mem_of_getElem? (i := 153) (by decide +kernel))) (by decide +kernel)⟩
theorem fl_X2_15 : GFld RX2 15 TX2 1 11 := ⟨by decide, tb (in1 (List.mem_of_getElem? (i := 154) (by decide +kernel))) (by decide +kernel)⟩
theorem fl_X2_18 : GFld RX2 18 TX2 2 11 := ⟨by decide, tb (in1 (List.mem_of_getElem? (i := 155) (by decide +kernel))) (by decide +kernel)⟩
theorem fl_X2_21 : GFld RX2 21 TX2 3 11 := ⟨by decide, tb (in1 (List.mem_of_getElem? (i := 156) (by decide +kernel))) (by decide +kernel)⟩
theorem fl_X1_158 : GFld RX1 158 TX2 3 11 := ⟨by decide, tb (in1 (List.mem_of_getElem? (i := 157) (by decide +kernel))) (by decide +kernel)⟩
theorem fl_X2_24 : GFld RX2 24 TX2 4 11 := ⟨by decide, tb (in1 (List.mem_of_getElem? (i := 158) (by decide +kernel))) (by decide +kernel)⟩
theorem fl_X5_34 : GFld RX5 34 TX2 4 11 := ⟨by decide, tb (in1 (List.mem_of_getElem? (i := 159) (by decide +kernel))) (by decide +kernel)⟩
theorem fl_X8_269 : GFld RX8 269 TX2 4 11 := ⟨by decide, tb (in1 (List.mem_of_getElem? (i := 160) (by decide +kernel))) (by decide +kernel)⟩
theorem fl_X2_28 : GFld RX2 28 TX2 5 11 := ⟨by decide, tb (in1 (List.mem_of_getElem? (i := 161) (by decide +kernel))) (by decide +kernel)⟩
theorem fl_X2_31 : GFld RX2 31 TX2 6 11 := ⟨by decide, tb (in1 (List.mem_of_getElem? (i := 162) (by decide +kernel))) (by decide +kernel)⟩
theorem fl_X2_34 : GFld RX2 34 TX2 7 11 := ⟨by decide, tb (in1 (List.mem_of_getElem? (i := 163) (by decide +kernel))) (by decide +kernel)⟩
theorem fl_X1_155 : GFld RX1 155 TX2 7 11 := ⟨by decide, tb (in1 (List.mem_of_getElem? (i := 164) (by decide +kernel))) (by decide +kernel)⟩
theorem fl_X2_37 : GFld RX2 37 TX2 8 11 := ⟨by decide, tb (in1 (List.mem_of_getElem? (i := 165) (by decide +kernel))) (by decide +kernel)⟩
theorem fl_X1_133 : GFld RX1 133 TX2 8 11 := ⟨by decide, tb (in1 (List.mem_of_getElem? (i := 166) (by decide +kernel))) (by decide +kernel)⟩
theorem fl_X2_40 : GFld RX2 40 TX2 9 11 := ⟨by decide, tb (in1 (List.mem_of_getElem? (i := 167) (by decide +kernel))) (by decide +kernel)⟩
theorem fl_X2_43 : GFld RX2 43 TX2 10 11 := ⟨by decide, tb (in1 (List.mem_of_getElem? (i := 168) (by decide +kernel))) (by decide +kernel)⟩
theorem fl_X8_211 : GFld RX8 211 TX2 10 11 := ⟨by decide, tb (in1 (List.mem_of_getElem? (i := 169) (by decide +kernel))) (by decide +kernel)⟩
theorem fl_X0_9 : GFld RX0 9 TX0 0 5 := ⟨by decide, tb (in1 (List.mem_of_getElem? (i := 193) (by decide +kernel))) (by decide +kernel)⟩
theorem fl_X0_15 : GFld RX0 15 TX0 1 5 := ⟨by decide, tb (in1 (List.mem_of_getElem? (i := 194) (by decide +kernel))) (by decide +kernel)⟩
theorem fl_X5_25 : GFld RX5 25 TX0 1 5 := ⟨by decide, tb (in1 (List.mem_of_getElem? (i := 195) (by decide +kernel))) (by decide +kernel)⟩
theorem fl_X8_159 : GFld RX8 159 TX0 1 5 := ⟨by decide, tb (in1 (List.mem_of_getElem? (i := 196) (by decide +kernel))) (by decide +kernel)⟩
theorem fl_X1_184 : GFld RX1 184 TX0 1 5 := ⟨by decide, tb (in1 (List.mem_of_getElem? (i := 197) (by decide +kernel))) (by decide +kernel)⟩
theorem fl_X0_18 : GFld RX0 18 TX0 2 5 := ⟨by decide, tb (in1 (List.mem_of_getElem? (i := 198) (by decide +kernel))) (by decide +kernel)⟩
theorem fl_X8_205 : GFld RX8 205 TX0 2 5 := ⟨by decide, tb (in1 (List.mem_of_getElem? (i := 199) (by decide +kernel))) (by decide +kernel)⟩
theorem fl_X0_24 : GFld RX0 24 TX0 3 5 := ⟨by decide, tb (in1 (List.mem_of_getElem? (i := 200) (by decide +kernel))) (by decide +kernel)⟩
theorem fl_X5_30 : GFld RX5 30 TX0 3 5 := ⟨by decide, tb (in1 (List.mem_of_getElem? (i := 201) (by decide +kernel))) (by decide +kernel)⟩
theorem fl_X1_111 : GFld RX1 111 TX0 3 5 := ⟨by decide, tb (in1 (List.mem_of_getElem? (i := 202) (by decide +kernel))) (by decide +kernel)⟩
theorem fl_X8_192 : GFld RX8 192 TX0 3 5 := ⟨by decide, tb (in1 (List.mem_of_getElem? (i := 203) (by decide +kernel))) (by decide +kernel)⟩
theorem fl_X0_28 : GFld RX0 28 TX0 4 5 := ⟨by decide, tb (in1 (List.mem_of_getElem? (i := 204) (by decide +kernel))) (by decide +kernel)⟩
theorem fl_X1_147 : GFld RX1 147 TX0 4 5 := ⟨by decide, tb (in1 (List.mem_of_getElem? (i := 205) (by decide +kernel))) (by decide +kernel)⟩
theorem fl_X8_246 : GFld RX8 246 TX0 4 5 := ⟨by decide, tb (in1 (List.mem_of_getElem? (i := 206) (by decide +kernel))) (by decide +kernel)⟩
theorem fl_X8_14 : GFld RX8 14 TX8 0 9 := ⟨by decide, tb (in1 (List.mem_of_getElem? (i := 218) (by decide +kernel))) (by decide +kernel)⟩
theorem fl_X8_21 : GFld RX8 21 TX8 1 9 := ⟨by decide, tb (in1 (List.mem_of_getElem? (i := 219) (by decide +kernel))) (by decide +kernel)⟩
theorem fl_X8_27 : GFld RX8 27 TX8 2 9 := ⟨by decide, tb (in1 (List.mem_of_getElem? (i := 220) (by decide +kernel))) (by decide +kernel)⟩
theorem fl_X8_31 : GFld RX8 31 TX8 3 9 := ⟨by decide, tb (in1 (List.mem_of_getElem? (i := 221) (by decide +kernel))) (by decide +kernel)⟩
theorem fl_X8_35 : GFld RX8 35 TX8 4 9 := ⟨by decide, tb (in1 (List.mem_of_getElem? (i := 222) (by decide +kernel))) (by decide +kernel)⟩
theorem fl_X8_38 : GFld RX8 38 TX8 5 9 := ⟨by decide, tb (in1 (List.mem_of_getElem? (i := 223) (by decide +kernel))) (by decide +kernel)⟩
theorem fl_X8_42 : GFld RX8 42 TX8 6 9 := ⟨by decide, tb (in1 (List.mem_of_getElem? (i := 224) (by decide +kernel))) (by decide +kernel)⟩
theorem fl_X8_46 : GFld RX8 46 TX8 7 9 := ⟨by decide, tb (in1 (List.mem_of_getElem? (i := 225) (by decide +kernel))) (by decide +kernel)⟩
theorem fl_X8_49 : GFld RX8 49 TX8 8 9 := ⟨by decide, tb (in1 (List.mem_of_getElem? (i := 226) (by decide +kernel))) (by decide +kernel)⟩
theorem fl_X4_9 : GFld RX4 9 TX4 0 5 := ⟨by decide, tb (in2 (List.mem_of_getElem? (i := 157) (by decide +kernel))) (by decide +kernel)⟩
theorem fl_X8_349 : GFld RX8 349 TX4 0 5 := ⟨by decide, tb (in2 (List.mem_of_getElem? (i := 158) (by decide +kernel))) (by decide +kernel)⟩
theorem fl_X4_13 : GFld RX4 13 TX4 1 5 := ⟨by decide, tb (in2 (List.mem_of_getElem? (i := 159) (by decide +kernel))) (by decide +kernel)⟩
theorem fl_X8_352 : GFld RX8 352 TX4 1 5 := ⟨by decide, tb (in2 (List.mem_of_getElem? (i := 160) (by decide +kernel))) (by decide +kernel)⟩
theorem fl_X4_16 : GFld RX4 16 TX4 2 5 := ⟨by decide, tb (in2 (List.mem_of_getElem? (i := 161) (by decide +kernel))) (by decide +kernel)⟩
theorem fl_X8_354 : GFld RX8 354 TX4 2 5 := ⟨by decide, tb (in2 (List.mem_of_getElem? (i := 162) (by decide +kernel))) (by decide +kernel)⟩
theorem fl_X4_19 : GFld RX4 19 TX4 3 5 := ⟨by decide, tb (in2 (List.mem_of_getElem? (i := 163) (by decide +kernel))) (by decide +kernel)⟩
theorem fl_X8_356 : GFld RX8 356 TX4 3 5 := ⟨by decide, tb (in2 (List.mem_of_getElem? (i := 164) (by decide +kernel))) (by decide +kernel)⟩
theorem fl_X4_22 : GFld RX4 22 TX4 4 5 := ⟨by decide, tb (in2 (List.mem_of_getElem? (i := 165) (by decide +kernel))) (by decide +kernel)⟩
theorem fl_X1_71 : GFld RX1 71 TX4 4 5 := ⟨by decide, tb (in2 (List.mem_of_getElem? (i := 166) (by decide +kernel))) (by decide +kernel)⟩
theorem fl_X8_283 : GFld RX8 283 TX4 4 5 := ⟨by decide, tb (in2 (List.mem_of_getElem? (i := 167) (by decide +kernel))) (by decide +kernel)⟩
theorem fl_X5_11 : GFld RX5 11 TX5 0 3 := ⟨by decide, tb (in2 (List.mem_of_getElem? (i := 185) (by decide +kernel))) (by decide +kernel)⟩
theorem fl_X5_15 : GFld RX5 15 TX5 1 3 := ⟨by decide, tb (in2 (List.mem_of_getElem? (i := 186) (by decide +kernel))) (by decide +kernel)⟩
theorem fl_X8_233 : GFld RX8 233 TX5 1 3 := ⟨by decide, tb (in2 (List.mem_of_getElem? (i := 187) (by decide +kernel))) (by decide +kernel)⟩
theorem fl_X5_18 : GFld RX5 18 TX5 2 3 := ⟨by decide, tb (in2 (List.mem_of_getElem? (i := 188) (by decide +kernel))) (by decide +kernel)⟩
theorem fl_X8_230 : GFld RX8 230 TX5 2 3 := ⟨by decide, tb (in2 (List.mem_of_getElem? (i := 189) (by decide +kernel))) (by decide +kernel)⟩
theorem fl_X1_12 : GFld RX1 12 TX1 0 12 := ⟨by decide, tb (in2 (List.mem_of_getElem? (i := 197) (by decide +kernel))) (by decide +kernel)⟩
theorem fl_X8_107 : GFld RX8 107 TX1 0 12 := ⟨by decide, tb (in2 (List.mem_of_getElem? (i := 198) (by decide +kernel))) (by decide +kernel)⟩
theorem fl_X1_18 : GFld RX1 18 TX1 1 12 := ⟨by decide, tb (in2 (List.mem_of_getElem? (i := 199) (by decide +kernel))) (by decide +kernel)⟩
theorem fl_X8_111 : GFld RX8 111 TX1 1 12 := ⟨by decide, tb (in2 (List.mem_of_getElem? (i := 200) (by decide +kernel))) (by decide +kernel)⟩
theorem fl_X1_24 : GFld RX1 24 TX1 2 12 := ⟨by decide, tb (in2 (List.mem_of_getElem? (i := 201) (by decide +kernel))) (by decide +kernel)⟩
theorem fl_X8_139 : GFld RX8 139 TX1 2 12 := ⟨by decide, tb (in2 (List.mem_of_getElem? (i := 202) (by decide +kernel))) (by decide +kernel)⟩
theorem fl_X1_31 : GFld RX1 31 TX1 3 12 := ⟨by decide, tb (in2 (List.mem_of_getElem? (i := 203) (by decide +kernel))) (by decide +kernel)⟩
theorem fl_X8_279 : GFld RX8 279 TX1 3 12 := ⟨by decide, tb (in2 (List.mem_of_getElem? (i := 204) (by decide +kernel))) (by decide +kernel)⟩
theorem fl_X1_38 : GFld RX1 38 TX1 4 12 := ⟨by decide, tb (in2 (List.mem_of_getElem? (i := 205) (by decide +kernel))) (by decide +kernel)⟩
theorem fl_X8_216 : GFld RX8 216 TX1 4 12 := ⟨by decide, tb (in2 (List.mem_of_getElem? (i := 206) (by decide +kernel))) (by decide +kernel)⟩
theorem fl_X1_42 : GFld RX1 42 TX1 5 12 := ⟨by decide, tb (in2 (List.mem_of_getElem? (i := 207) (by decide +kernel))) (by decide +kernel)⟩
theorem fl_X1_46 : GFld RX1 46 TX1 6 12 := ⟨by decide, tb (in2 (List.mem_of_getElem? (i := 208) (by decide +kernel))) (by decide +kernel)⟩
theorem fl_X1_49 : GFld RX1 49 TX1 7 12 := ⟨by decide, tb (in2 (List.mem_of_getElem? (i := 209) (by decide +kernel))) (by decide +kernel)⟩
theorem fl_X8_312 : GFld RX8 312 TX1 7 12 := ⟨by decide, tb (in2 (List.mem_of_getElem? (i := 210) (by decide +kernel))) (by decide +kernel)⟩
theorem fl_X1_53 : GFld RX1 53 TX1 8 12 := ⟨by decide, tb (in2 (List.mem_of_getElem? (i := 211) (by decide +kernel))) (by decide +kernel)⟩
theorem fl_X8_313 : GFld RX8 313 TX1 8 12 := ⟨by decide, tb (in2 (List.mem_of_getElem? (i := 212) (by decide +kernel))) (by decide +kernel)⟩
theorem fl_X1_56 : GFld RX1 56 TX1 9 12 := ⟨by decide, tb (in2 (List.mem_of_getElem? (i := 213) (by decide +kernel))) (by decide +kernel)⟩
theorem fl_X8_249 : GFld RX8 249 TX1 9 12 := ⟨by decide, tb (in2 (List.mem_of_getElem? (i := 214) (by decide +kernel))) (by decide +kernel)⟩
theorem fl_X1_59 : GFld RX1 59 TX1 10 12 := ⟨by decide, tb (in2 (List.mem_of_getElem? (i := 215) (by decide +kernel))) (by decide +kernel)⟩
theorem fl_X1_62 : GFld RX1 62 TX1 11 12 := ⟨by decide, tb (in2 (List.mem_of_getElem? (i := 216) (by decide +kernel))) (by decide +kernel)⟩
theorem fl_X9_55 : GFld RX9 55 TX9 0 36 := ⟨by decide, tb (in6 (List.mem_of_getElem? (i := 27) (by decide +kernel))) (by decide +kernel)⟩
theorem fl_X9_58 : GFld RX9 58 TX9 1 36 := ⟨by decide, tb (in6 (List.mem_of_getElem? (i := 28) (by decide +kernel))) (by decide +kernel)⟩
theorem fl_X9_9 : GFld RX9 9 TX9 2 36 := ⟨by decide, tb (in6 (List.mem_of_getElem? (i := 29) (by decide +kernel))) (by decide +kernel)⟩
theorem fl_X9_13 : GFld RX9 13 TX9 3 36 := ⟨by decide, tb (in6 (List.mem_of_getElem? (i := 30) (by decide +kernel))) (by decide +kernel)⟩
theorem fl_X9_218 : GFld RX9 218 TX9 4 36 := ⟨by decide, tb (in6 (List.mem_of_getElem? (i := 31) (by decide +kernel))) (by decide +kernel)⟩
theorem fl_X9_221 : GFld RX9 221 TX9 5 36 := ⟨by decide, tb (in6 (List.mem_of_getElem? (i := 32) (by decide +kernel))) (by decide +kernel)⟩
theorem fl_X9_17 : GFld RX9 17 TX9 6 36 := ⟨by decide, tb (in6 (List.mem_of_getElem? (i := 33) (by decide +kernel))) (by decide +kernel)⟩
theorem fl_X9_197 : GFld RX9 197 TX9 7 36 := ⟨by decide, tb (in6 (List.mem_of_getElem? (i := 34) (by decide +kernel))) (by decide +kernel)⟩
theorem fl_X9_72 : GFld RX9 72 TX9 8 36 := ⟨by decide, tb (in6 (List.mem_of_getElem? (i := 35) (by decide +kernel))) (by decide +kernel)⟩
theorem fl_X9_78 : GFld RX9 78 TX9 9 36 := ⟨by decide, tb (in6 (List.mem_of_getElem? (i := 36) (by decide +kernel))) (by decide +kernel)⟩
theorem fl_X9_87 : GFld RX9 87 TX9 10 36 := ⟨by decide, tb (in6 (List.mem_of_getElem? (i := 37) (by decide +kernel))) (by decide +kernel)⟩
theorem fl_X9_84 : GFld RX9 84 TX9 11 36 := ⟨by decide, tb (in6 (List.mem_of_getElem? (i := 38) (by decide +kernel))) (by decide +kernel)⟩
theorem fl_X9_104 : GFld RX9 104 TX9 12 36 := ⟨by decide, tb (in6 (List.mem_of_getElem? (i := 39) (by decide +kernel))) (by decide +kernel)⟩
theorem fl_X9_75 : GFld RX9 75 TX9 13 36 := ⟨by decide, tb (in6 (List.mem_of_getElem? (i := 40) (by decide +kernel))) (by decide +kernel)⟩
theorem fl_X9_100 : GFld RX9 100 TX9 14 36 := ⟨by decide, tb (in6 (List.mem_of_getElem? (i := 41) (by decide +kernel))) (by decide +kernel)⟩
theorem fl_X9_21 : GFld RX9 21 TX9 15 36 := ⟨by decide, tb (in6 (List.mem_of_getElem? (i := 42) (by decide +kernel))) (by decide +kernel)⟩
theorem fl_X9_25 : GFld RX9 25 TX9 16 36 := ⟨by decide, tb (in6 (List.mem_of_getElem? (i := 43) (by decide +kernel))) (by decide +kernel)⟩
theorem fl_X9_28 : GFld RX9 28 TX9 17 36 := ⟨by decide, tb (in6 (List.mem_of_getElem? (i := 44) (by decide +kernel))) (by decide +kernel)⟩
theorem fl_X9_31 : GFld RX9 31 TX9 18 36 := ⟨by decide, tb (in6 (List.mem_of_getElem? (i := 45) (by decide +kernel))) (by decide +kernel)⟩
theorem fl_X9_34 : GFld RX9 34 TX9 19 36 := ⟨by decide, tb (in6 (List.mem_of_getElem? (i := 46) (by decide +kernel))) (by decide +kernel)⟩
theorem fl_X9_37 : GFld RX9 37 TX9 20 36 := ⟨by decide, tb (in6 (List.mem_of_getElem? (i := 47) (by decide +kernel))) (by decide +kernel)⟩
theorem fl_X9_40 : GFld RX9 40 TX9 21 36 := ⟨by decide, tb (in6 (List.mem_of_getElem? (i := 48) (by decide +kernel))) (by decide +kernel)⟩
theorem fl_X9_43 : GFld RX9 43 TX9 22 36 := ⟨by decide, tb (in6 (List.mem_of_getElem? (i := 49) (by decide +kernel))) (by decide +kernel)⟩
theorem fl_X9_46 : GFld RX9 46 TX9 23 36 := ⟨by decide, tb (in6 (List.mem_of_getElem? (i := 50) (by decide +kernel))) (by decide +kernel)⟩
theorem fl_X9_132 : GFld RX9 132 TX9 24 36 := ⟨by decide, tb (in6 (List.mem_of_getElem? (i := 51) (by decide +kernel))) (by decide +kernel)⟩
theorem fl_X9_163 : GFld RX9 163 TX9 25 36 := ⟨by decide, tb (in6 (List.mem_of_getElem? (i := 52) (by decide +kernel))) (by decide +kernel)⟩
theorem fl_X9_176 : GFld RX9 176 TX9 26 36 := ⟨by decide, tb (in6 (List.mem_of_getElem? (i := 53) (by decide +kernel))) (by decide +kernel)⟩
theorem fl_X9_181 : GFld RX9 181 TX9 27 36 := ⟨by decide, tb (in6 (List.mem_of_getElem? (i := 54) (by decide +kernel))) (by decide +kernel)⟩
theorem fl_X9_128 : GFld RX9 128 TX9 28 36 := ⟨by decide, tb (in6 (List.mem_of_getElem? (i := 55) (by decide +kernel))) (by decide +kernel)⟩
theorem fl_X9_321 : GFld RX9 321 TX9 29 36 := ⟨by decide, tb (in6 (List.mem_of_getElem? (i := 56) (by decide +kernel))) (by decide +kernel)⟩
theorem fl_X9_324 : GFld RX9 324 TX9 30 36 := ⟨by decide, tb (in6 (List.mem_of_getElem? (i := 57) (by decide +kernel))) (by decide +kernel)⟩
theorem fl_X9_327 : GFld RX9 327 TX9 31 36 := ⟨by decide, tb (in6 (List.mem_of_getElem? (i := 58) (by decide +kernel))) (by decide +kernel)⟩
theorem fl_X9_318 : GFld RX9 318 TX9 32 36 := ⟨by decide, tb (in6 (List.mem_of_getElem? (i := 59) (by decide +kernel))) (by decide +kernel)⟩
theorem fl_X9_49 : GFld RX9 49 TX9 33 36 := ⟨by decide, tb (in6 (List.mem_of_getElem? (i := 60) (by decide +kernel))) (by decide +kernel)⟩
theorem fl_X9_339 : GFld RX9 339 TX9 34 36 := ⟨by decide, tb (in6 (List.mem_of_getElem? (i := 61) (by decide +kernel))) (by decide +kernel)⟩
theorem fl_X9_52 : GFld RX9 52 TX9 35 36 := ⟨by decide, tb (in6 (List.mem_of_getElem? (i := 62) (by decide +kernel))) (by decide +kernel)⟩
theorem ml_L_15 : GCI RL 15 yX8_init cX8_init 1 0 := ⟨tb (in1 (List.mem_of_getElem? (i := 29) (by decide +kernel))) (by decide +kernel), tb (in1 (List.mem_of_getElem? (i := 30) (by decide +kernel))) (by decide +kernel), rfl, tb (in1 (List.mem_of_getElem? (i := 1) (by decide +kernel))) (by decide +kernel), tb (in1 (List.mem_of_getElem? (i := 31) (by decide +kernel))) (by decide +kernel), ⟨by decide +kernel, by decide +kernel, by decide +kernel⟩⟩
theorem ml_X8_13 : GCIN RX8 13 yX3_init "OuterRows" cX3_init 1 0 := ⟨List.mem_of_getElem? (i := 0) rfl, tb (in1 (List.mem_of_getElem? (i := 38) (by decide +kernel))) (by decide +kernel), rfl, tb (in1 (List.mem_of_getElem? (i := 2) (by decide +kernel))) (by decide +kernel), tb (in1 (List.mem_of_getElem? (i := 39) (by decide +kernel))) (by decide +kernel), ⟨by decide +kernel, by decide +kernel, by decide +kernel⟩⟩
theorem ml_X3_11 : GCIN RX3 11 yX6_init "OuterRows" cX6_init 1 0 := ⟨List.mem_of_getElem? (i := 1) rfl, tb (in1 (List.mem_of_getElem? (i := 44) (by decide +kernel))) (by decide +kernel), rfl, tb (in1 (List.mem_of_getElem? (i := 3) (by decide +kernel))) (by decide +kernel), tb (in1 (List.mem_of_getElem? (i := 45) (by decide +kernel))) (by decide +kernel), ⟨by decide +kernel, by decide +kernel, by decide +kernel⟩⟩
theorem ml_X3_20 : GCIN RX3 20 yX7_init "OuterRows" cX7_init 1 0 := ⟨List.mem_of_getElem? (i := 2) rfl, tb (in1 (List.mem_of_getElem? (i := 81) (by decide +kernel))) (by decide +kernel), rfl, tb (in1 (List.mem_of_getElem? (i := 4) (by decide +kernel))) (by decide +kernel), tb (in1 (List.mem_of_getElem? (i := 82) (by decide +kernel))) (by decide +kernel), ⟨by decide +kernel, by decide +kernel, by decide +kernel⟩⟩
theorem ml_X8_20 : GCIN RX8 20 yX0_init "OuterRows" cX0_init 1 0 := ⟨List.mem_of_getElem? (i := 3) rfl, tb (in1 (List.mem_of_getElem? (i := 144) (by decide +kernel))) (by decide +kernel), rfl, tb (in1 (List.mem_of_getElem? (i := 5) (by decide +kernel))) (by decide +kernel), tb (in1 (List.mem_of_getElem? (i := 145) (by decide +kernel))) (by decide +kernel), ⟨by decide +kernel, by decide +kernel, by decide +kernel⟩⟩
theorem ml_X0_23 : GCIN RX0 23 yX2_init "OuterRows" cX2_init 1 0 := ⟨List.mem_of_getElem? (i := 4) rfl, tb (in1 (List.mem_of_getElem? (i := 150) (by decide +kernel))) (by decide +kernel), rfl, tb (in1 (List.mem_of_getElem? (i := 6) (by decide +kernel))) (by decide +kernel), tb (in1 (List.mem_of_getElem? (i := 151) (by decide +kernel))) (by decide +kernel), ⟨by decide +kernel, by decide +kernel, by decide +kernel⟩⟩
theorem ml_L_19 : GCV RL 19 yX8_feed cX8_feed 7 (some .int) 5 := ⟨tb (in2 (List.mem_of_getElem? (i := 6) (by decide +kernel))) (by decide +kernel), tb (in2 (List.mem_of_getElem? (i := 7) (by decide +kernel))) (by decide +kernel), tb (in2 (List.mem_of_getElem? (i := 8) (by decide +kernel))) (by decide +kernel), tb (in1 (List.mem_of_getElem? (i := 1) (by decide +kernel))) (by decide +kernel), tb (in2 (List.mem_of_getElem? (i := 9) (by decide +kernel))) (by decide +kernel), ⟨by decide +kernel, by decide +kernel, by decide +kernel⟩⟩
theorem ml_X8_56 : GCV RX8 56 yX6_hasRoomFor cX6_hasRoomFor 2 (some .boolean) 1 := ⟨tb (in2 (List.mem_of_getElem? (i := 10) (by decide +kernel))) (by decide +kernel), tb (in2 (List.mem_of_getElem? (i := 11) (by decide +kernel))) (by decide +kernel), tb (in2 (List.mem_of_getElem? (i := 12) (by decide +kernel))) (by decide +kernel), tb (in1 (List.mem_of_getElem? (i := 3) (by decide +kernel))) (by decide +kernel), tb (in2 (List.mem_of_getElem? (i := 13) (by decide +kernel))) (by decide +kernel), ⟨by decide +kernel, by decide +kernel, by decide +kernel⟩⟩
theorem ml_X8_62 : GCV RX8 62 yX6_put cX6_put 2 none 1 := ⟨tb (in2 (List.mem_of_getElem? (i := 14) (by decide +kernel))) (by decide +kernel), tb (in2 (List.mem_of_getElem? (i := 15) (by decide +kernel))) (by decide +kernel), tb (in2 (List.mem_of_getElem? (i := 16) (by decide +kernel))) (by decide +kernel), tb (in1 (List.mem_of_getElem? (i := 3) (by decide +kernel))) (by decide +kernel), tb (in2 (List.mem_of_getElem? (i := 17) (by decide +kernel))) (by decide +kernel), ⟨by decide +kernel, by decide +kernel, by decide +kernel⟩⟩
theorem ml_X6_36 : GCV RX6 36 yX6_hasRoomFor cX6_hasRoomFor 2 (some .boolean) 1 := ⟨tb (in2 (List.mem_of_getElem? (i := 18) (by decide +kernel))) (by decide +kernel), tb (in2 (List.mem_of_getElem? (i := 11) (by decide +kernel))) (by decide +kernel), tb (in2 (List.mem_of_getElem? (i := 12) (by decide +kernel))) (by decide +kernel), tb (in1 (List.mem_of_getElem? (i := 3) (by decide +kernel))) (by decide +kernel), tb (in2 (List.mem_of_getElem? (i := 13) (by decide +kernel))) (by decide +kernel), ⟨by decide +kernel, by decide +kernel, by decide +kernel⟩⟩
theorem ml_L_24 : GCV RL 24 yX8_desk cX8_desk 2 (some .int) 1 := ⟨tb (in2 (List.mem_of_getElem? (i := 19) (by decide +kernel))) (by decide +kernel), tb (in2 (List.mem_of_getElem? (i := 20) (by decide +kernel))) (by decide +kernel), tb (in2 (List.mem_of_getElem? (i := 21) (by decide +kernel))) (by decide +kernel), tb (in1 (List.mem_of_getElem? (i := 1) (by decide +kernel))) (by decide +kernel), tb (in2 (List.mem_of_getElem? (i := 22) (by decide +kernel))) (by decide +kernel), ⟨by decide +kernel, by decide +kernel, by decide +kernel⟩⟩
theorem ml_X8_69 : GCV RX8 69 yX8_refuse cX8_refuse 3 (some .int) 2 := ⟨tb (in2 (List.mem_of_getElem? (i := 23) (by decide +kernel))) (by decide +kernel), tb (in2 (List.mem_of_getElem? (i := 25) (by decide +kernel))) (by decide +kernel), tb (inS (List.mem_of_getElem? (i := 0) (by decide +kernel))) (by decide +kernel), tb (in1 (List.mem_of_getElem? (i := 1) (by decide +kernel))) (by decide +kernel), tb (in2 (List.mem_of_getElem? (i := 26) (by decide +kernel))) (by decide +kernel), ⟨by decide +kernel, by decide +kernel, by decide +kernel⟩⟩
theorem ml_X8_73 : GCV RX8 73 yX3_expectDesk cX3_expectDesk 1 none 0 := ⟨tb (in2 (List.mem_of_getElem? (i := 27) (by decide +kernel))) (by decide +kernel), tb (in2 (List.mem_of_getElem? (i := 28) (by decide +kernel))) (by decide +kernel), tb (in2 (List.mem_of_getElem? (i := 29) (by decide +kernel))) (by decide +kernel), tb (in1 (List.mem_of_getElem? (i := 2) (by decide +kernel))) (by decide +kernel), tb (in2 (List.mem_of_getElem? (i := 30) (by decide +kernel))) (by decide +kernel), ⟨by decide +kernel, by decide +kernel, by decide +kernel⟩⟩
theorem ml_X3_58 : GCV RX3 58 yX7_clear cX7_clear 1 none 0 := ⟨tb (in2 (List.mem_of_getElem? (i := 31) (by decide +kernel))) (by decide +kernel), tb (in2 (List.mem_of_getElem? (i := 32) (by decide +kernel))) (by decide +kernel), tb (in2 (List.mem_of_getElem? (i := 33) (by decide +kernel))) (by decide +kernel), tb (in1 (List.mem_of_getElem? (i := 4) (by decide +kernel))) (by decide +kernel), tb (in2 (List.mem_of_getElem? (i := 34) (by decide +kernel))) (by decide +kernel), ⟨by decide +kernel, by decide +kernel, by decide +kernel⟩⟩
theorem ml_X8_76 : GCV RX8 76 yX3_readLines cX3_readLines 4 (some .boolean) 1 := ⟨tb (in2 (List.mem_of_getElem? (i := 35) (by decide +kernel))) (by decide +kernel), tb (in2 (List.mem_of_getElem? (i := 36) (by decide +kernel))) (by decide +kernel), tb (in2 (List.mem_of_getElem? (i := 37) (by decide +kernel))) (by decide +kernel), tb (in1 (List.mem_of_getElem? (i := 2) (by decide +kernel))) (by decide +kernel), tb (in2 (List.mem_of_getElem? (i := 38) (by decide +kernel))) (by decide +kernel), ⟨by decide +kernel, by decide +kernel, by decide +kernel⟩⟩
theorem ml_X3_65 : GCV RX3 65 yX6_rewind cX6_rewind 2 none 1 := ⟨tb (in2 (List.mem_of_getElem? (i := 39) (by decide +kernel))) (by decide +kernel), tb (in2 (List.mem_of_getElem? (i := 40) (by decide +kernel))) (by decide +kernel), tb (in2 (List.mem_of_getElem? (i := 41) (by decide +kernel))) (by decide +kernel), tb (in1 (List.mem_of_getElem? (i := 3) (by decide +kernel))) (by decide +kernel), tb (in2 (List.mem_of_getElem? (i := 42) (by decide +kernel))) (by decide +kernel), ⟨by decide +kernel, by decide +kernel, by decide +kernel⟩⟩
theorem ml_X6_40 : GCV RX6 40 yX6_next cX6_next 1 none 0 := ⟨tb (in2 (List.mem_of_getElem? (i := 43) (by decide +kernel))) (by decide +kernel), tb (in2 (List.mem_of_getElem? (i := 44) (by decide +kernel))) (by decide +kernel), tb (in2 (List.mem_of_getElem? (i := 45) (by decide +kernel))) (by decide +kernel), tb (in1 (List.mem_of_getElem? (i := 3) (by decide +kernel))) (by decide +kernel), tb (in2 (List.mem_of_getElem? (i := 46) (by decide +kernel))) (by decide +kernel), ⟨by decide +kernel, by decide +kernel, by decide +kernel⟩⟩
theorem ml_X6_43 : GCV RX6 43 yX6_passRun cX6_passRun 3 (some .boolean) 2 := ⟨tb (in2 (List.mem_of_getElem? (i := 47) (by decide +kernel))) (by decide +kernel), tb (in2 (List.mem_of_getElem? (i := 49) (by decide +kernel))) (by decide +kernel), tb (inS (List.mem_of_getElem? (i := 1) (by decide +kernel))) (by decide +kernel), tb (in1 (List.mem_of_getElem? (i := 3) (by decide +kernel))) (by decide +kernel), tb (in2 (List.mem_of_getElem? (i := 50) (by decide +kernel))) (by decide +kernel), ⟨by decide +kernel, by decide +kernel, by decide +kernel⟩⟩
theorem ml_X6_47 : GCV RX6 47 yX6_takeWord cX6_takeWord 2 none 0 := ⟨tb (in2 (List.mem_of_getElem? (i := 51) (by decide +kernel))) (by decide +kernel), tb (in2 (List.mem_of_getElem? (i := 53) (by decide +kernel))) (by decide +kernel), tb (inS (List.mem_of_getElem? (i := 2) (by decide +kernel))) (by decide +kernel), tb (in1 (List.mem_of_getElem? (i := 3) (by decide +kernel))) (by decide +kernel), tb (in2 (List.mem_of_getElem? (i := 54) (by decide +kernel))) (by decide +kernel), ⟨by decide +kernel, by decide +kernel, by decide +kernel⟩⟩
theorem ml_X6_50 : GCV RX6 50 yX6_takeWhole cX6_takeWhole 2 none 0 := ⟨tb (in2 (List.mem_of_getElem? (i := 55) (by decide +kernel))) (by decide +kernel), tb (in2 (List.mem_of_getElem? (i := 57) (by decide +kernel))) (by decide +kernel), tb (inS (List.mem_of_getElem? (i := 3) (by decide +kernel))) (by decide +kernel), tb (in1 (List.mem_of_getElem? (i := 3) (by decide +kernel))) (by decide +kernel), tb (in2 (List.mem_of_getElem? (i := 58) (by decide +kernel))) (by decide +kernel), ⟨by decide +kernel, by decide +kernel, by decide +kernel⟩⟩
theorem ml_X3_69 : GCV RX3 69 yX3_readLine cX3_readLine 3 (some .boolean) 0 := ⟨tb (in2 (List.mem_of_getElem? (i := 59) (by decide +kernel))) (by decide +kernel), tb (in2 (List.mem_of_getElem? (i := 61) (by decide +kernel))) (by decide +kernel), tb (inS (List.mem_of_getElem? (i := 4) (by decide +kernel))) (by decide +kernel), tb (in1 (List.mem_of_getElem? (i := 2) (by decide +kernel))) (by decide +kernel), tb (in2 (List.mem_of_getElem? (i := 62) (by decide +kernel))) (by decide +kernel), ⟨by decide +kernel, by decide +kernel, by decide +kernel⟩⟩
theorem ml_X3_88 : GCV RX3 88 yX6_says cX6_says 3 (some .boolean) 1 := ⟨tb (in2 (List.mem_of_getElem? (i := 64) (by decide +kernel))) (by decide +kernel), tb (in2 (List.mem_of_getElem? (i := 65) (by decide +kernel))) (by decide +kernel), tb (in2 (List.mem_of_getElem? (i := 66) (by decide +kernel))) (by decide +kernel), tb (in1 (List.mem_of_getElem? (i := 3) (by decide +kernel))) (by decide +kernel), tb (in2 (List.mem_of_getElem? (i := 67) (by decide +kernel))) (by decide +kernel), ⟨by decide +kernel, by decide +kernel, by decide +kernel⟩⟩
theorem ml_X3_79 : GCV RX3 79 yX3_fail cX3_fail 2 (some .boolean) 1 := ⟨tb (in2 (List.mem_of_getElem? (i := 68) (by decide +kernel))) (by decide +kernel), tb (in2 (List.mem_of_getElem? (i := 70) (by decide +kernel))) (by decide +kernel), tb (inS (List.mem_of_getElem? (i := 5) (by decide +kernel))) (by decide +kernel), tb (in1 (List.mem_of_getElem? (i := 2) (by decide +kernel))) (by decide +kernel), tb (in2 (List.mem_of_getElem? (i := 71) (by decide +kernel))) (by decide +kernel), ⟨by decide +kernel, by decide +kernel, by decide +kernel⟩⟩
theorem ml_X3_92 : GCV RX3 92 yX3_readDeskLine cX3_readDeskLine 1 (some .boolean) 0 := ⟨tb (in2 (List.mem_of_getElem? (i := 72) (by decide +kernel))) (by decide +kernel), tb (in2 (List.mem_of_getElem? (i := 74) (by decide +kernel))) (by decide +kernel), tb (inS (List.mem_of_getElem? (i := 6) (by decide +kernel))) (by decide +kernel), tb (in1 (List.mem_of_getElem? (i := 2) (by decide +kernel))) (by decide +kernel), tb (in2 (List.mem_of_getElem? (i := 75) (by decide +kernel))) (by decide +kernel), ⟨by decide +kernel, by decide +kernel, by decide +kernel⟩⟩
theorem ml_X3_76 : GCV RX3 76 yX6_next cX6_next 1 none 0 := ⟨tb (in2 (List.mem_of_getElem? (i := 76) (by decide +kernel))) (by decide +kernel), tb (in2 (List.mem_of_getElem? (i := 44) (by decide +kernel))) (by decide +kernel), tb (in2 (List.mem_of_getElem? (i := 45) (by decide +kernel))) (by decide +kernel), tb (in1 (List.mem_of_getElem? (i := 3) (by decide +kernel))) (by decide +kernel), tb (in2 (List.mem_of_getElem? (i := 46) (by decide +kernel))) (by decide +kernel), ⟨by decide +kernel, by decide +kernel, by decide +kernel⟩⟩
theorem ml_X3_107 : GCV RX3 107 yX3_readHow cX3_readHow 1 (some .boolean) 0 := ⟨tb (in2 (List.mem_of_getElem? (i := 77) (by decide +kernel))) (by decide +kernel), tb (in2 (List.mem_of_getElem? (i := 79) (by decide +kernel))) (by decide +kernel), tb (inS (List.mem_of_getElem? (i := 7) (by decide +kernel))) (by decide +kernel), tb (in1 (List.mem_of_getElem? (i := 2) (by decide +kernel))) (by decide +kernel), tb (in2 (List.mem_of_getElem? (i := 80) (by decide +kernel))) (by decide +kernel), ⟨by decide +kernel, by decide +kernel, by decide +kernel⟩⟩
theorem ml_X3_112 : GCV RX3 112 yX3_readWord cX3_readWord 3 (some .boolean) 1 := ⟨tb (in2 (List.mem_of_getElem? (i := 86) (by decide +kernel))) (by decide +kernel), tb (in2 (List.mem_of_getElem? (i := 88) (by decide +kernel))) (by decide +kernel), tb (inS (List.mem_of_getElem? (i := 8) (by decide +kernel))) (by decide +kernel), tb (in1 (List.mem_of_getElem? (i := 2) (by decide +kernel))) (by decide +kernel), tb (in2 (List.mem_of_getElem? (i := 89) (by decide +kernel))) (by decide +kernel), ⟨by decide +kernel, by decide +kernel, by decide +kernel⟩⟩
theorem ml_X3_115 : GCV RX3 115 yX3_readWhole cX3_readWhole 3 (some .boolean) 2 := ⟨tb (in2 (List.mem_of_getElem? (i := 90) (by decide +kernel))) (by decide +kernel), tb (in2 (List.mem_of_getElem? (i := 92) (by decide +kernel))) (by decide +kernel), tb (inS (List.mem_of_getElem? (i := 9) (by decide +kernel))) (by decide +kernel), tb (in1 (List.mem_of_getElem? (i := 2) (by decide +kernel))) (by decide +kernel), tb (in2 (List.mem_of_getElem? (i := 93) (by decide +kernel))) (by decide +kernel), ⟨by decide +kernel, by decide +kernel, by decide +kernel⟩⟩
theorem ml_X3_101 : GCV RX3 101 yX3_readTick cX3_readTick 1 (some .boolean) 0 := ⟨tb (in2 (List.mem_of_getElem? (i := 98) (by decide +kernel))) (by decide +kernel), tb (in2 (List.mem_of_getElem? (i := 100) (by decide +kernel))) (by decide +kernel), tb (inS (List.mem_of_getElem? (i := 10) (by decide +kernel))) (by decide +kernel), tb (in1 (List.mem_of_getElem? (i := 2) (by decide +kernel))) (by decide +kernel), tb (in2 (List.mem_of_getElem? (i := 101) (by decide +kernel))) (by decide +kernel), ⟨by decide +kernel, by decide +kernel, by decide +kernel⟩⟩
theorem ml_X3_121 : GCV RX3 121 yX3_addLine cX3_addLine 7 none 5 := ⟨tb (in2 (List.mem_of_getElem? (i := 102) (by decide +kernel))) (by decide +kernel), tb (in2 (List.mem_of_getElem? (i := 104) (by decide +kernel))) (by decide +kernel), tb (inS (List.mem_of_getElem? (i := 11) (by decide +kernel))) (by decide +kernel), tb (in1 (List.mem_of_getElem? (i := 2) (by decide +kernel))) (by decide +kernel), tb (in2 (List.mem_of_getElem? (i := 105) (by decide +kernel))) (by decide +kernel), ⟨by decide +kernel, by decide +kernel, by decide +kernel⟩⟩
theorem ml_X3_104 : GCV RX3 104 yX3_readEvent cX3_readEvent 6 (some .boolean) 1 := ⟨tb (in2 (List.mem_of_getElem? (i := 106) (by decide +kernel))) (by decide +kernel), tb (in2 (List.mem_of_getElem? (i := 108) (by decide +kernel))) (by decide +kernel), tb (inS (List.mem_of_getElem? (i := 12) (by decide +kernel))) (by decide +kernel), tb (in1 (List.mem_of_getElem? (i := 2) (by decide +kernel))) (by decide +kernel), tb (in2 (List.mem_of_getElem? (i := 109) (by decide +kernel))) (by decide +kernel), ⟨by decide +kernel, by decide +kernel, by decide +kernel⟩⟩
theorem ml_X3_125 : GCV RX3 125 yX3_readSide cX3_readSide 1 (some .boolean) 0 := ⟨tb (in2 (List.mem_of_getElem? (i := 110) (by decide +kernel))) (by decide +kernel), tb (in2 (List.mem_of_getElem? (i := 112) (by decide +kernel))) (by decide +kernel), tb (inS (List.mem_of_getElem? (i := 13) (by decide +kernel))) (by decide +kernel), tb (in1 (List.mem_of_getElem? (i := 2) (by decide +kernel))) (by decide +kernel), tb (in2 (List.mem_of_getElem? (i := 113) (by decide +kernel))) (by decide +kernel), ⟨by decide +kernel, by decide +kernel, by decide +kernel⟩⟩
theorem ml_X3_128 : GCV RX3 128 yX3_readName cX3_readName 2 (some .boolean) 1 := ⟨tb (in2 (List.mem_of_getElem? (i := 114) (by decide +kernel))) (by decide +kernel), tb (in2 (List.mem_of_getElem? (i := 116) (by decide +kernel))) (by decide +kernel), tb (inS (List.mem_of_getElem? (i := 14) (by decide +kernel))) (by decide +kernel), tb (in1 (List.mem_of_getElem? (i := 2) (by decide +kernel))) (by decide +kernel), tb (in2 (List.mem_of_getElem? (i := 117) (by decide +kernel))) (by decide +kernel), ⟨by decide +kernel, by decide +kernel, by decide +kernel⟩⟩
theorem ml_X3_147 : GCV RX3 147 yX3_isReserved cX3_isReserved 1 (some .boolean) 0 := ⟨tb (in2 (List.mem_of_getElem? (i := 118) (by decide +kernel))) (by decide +kernel), tb (in2 (List.mem_of_getElem? (i := 120) (by decide +kernel))) (by decide +kernel), tb (inS (List.mem_of_getElem? (i := 15) (by decide +kernel))) (by decide +kernel), tb (in1 (List.mem_of_getElem? (i := 2) (by decide +kernel))) (by decide +kernel), tb (in2 (List.mem_of_getElem? (i := 121) (by decide +kernel))) (by decide +kernel), ⟨by decide +kernel, by decide +kernel, by decide +kernel⟩⟩
theorem ml_X3_154 : GCV RX3 154 yX7_numberOf cX7_numberOf 4 (some .int) 1 := ⟨tb (in2 (List.mem_of_getElem? (i := 124) (by decide +kernel))) (by decide +kernel), tb (in2 (List.mem_of_getElem? (i := 125) (by decide +kernel))) (by decide +kernel), tb (in2 (List.mem_of_getElem? (i := 126) (by decide +kernel))) (by decide +kernel), tb (in1 (List.mem_of_getElem? (i := 4) (by decide +kernel))) (by decide +kernel), tb (in2 (List.mem_of_getElem? (i := 127) (by decide +kernel))) (by decide +kernel), ⟨by decide +kernel, by decide +kernel, by decide +kernel⟩⟩
theorem ml_X3_158 : GCV RX3 158 yX7_isFull cX7_isFull 1 (some .boolean) 0 := ⟨tb (in2 (List.mem_of_getElem? (i := 128) (by decide +kernel))) (by decide +kernel), tb (in2 (List.mem_of_getElem? (i := 129) (by decide +kernel))) (by decide +kernel), tb (in2 (List.mem_of_getElem? (i := 130) (by decide +kernel))) (by decide +kernel), tb (in1 (List.mem_of_getElem? (i := 4) (by decide +kernel))) (by decide +kernel), tb (in2 (List.mem_of_getElem? (i := 131) (by decide +kernel))) (by decide +kernel), ⟨by decide +kernel, by decide +kernel, by decide +kernel⟩⟩
theorem ml_X3_161 : GCV RX3 161 yX7_add cX7_add 3 (some .int) 1 := ⟨tb (in2 (List.mem_of_getElem? (i := 132) (by decide +kernel))) (by decide +kernel), tb (in2 (List.mem_of_getElem? (i := 133) (by decide +kernel))) (by decide +kernel), tb (in2 (List.mem_of_getElem? (i := 134) (by decide +kernel))) (by decide +kernel), tb (in1 (List.mem_of_getElem? (i := 4) (by decide +kernel))) (by decide +kernel), tb (in2 (List.mem_of_getElem? (i := 135) (by decide +kernel))) (by decide +kernel), ⟨by decide +kernel, by decide +kernel, by decide +kernel⟩⟩
theorem ml_X7_19 : GCV RX7 19 yX7_isFull cX7_isFull 1 (some .boolean) 0 := ⟨tb (in2 (List.mem_of_getElem? (i := 136) (by decide +kernel))) (by decide +kernel), tb (in2 (List.mem_of_getElem? (i := 129) (by decide +kernel))) (by decide +kernel), tb (in2 (List.mem_of_getElem? (i := 130) (by decide +kernel))) (by decide +kernel), tb (in1 (List.mem_of_getElem? (i := 4) (by decide +kernel))) (by decide +kernel), tb (in2 (List.mem_of_getElem? (i := 131) (by decide +kernel))) (by decide +kernel), ⟨by decide +kernel, by decide +kernel, by decide +kernel⟩⟩
theorem ml_X8_79 : GCV RX8 79 yX8_tookText cX8_tookText 2 (some .boolean) 1 := ⟨tb (in2 (List.mem_of_getElem? (i := 137) (by decide +kernel))) (by decide +kernel), tb (in2 (List.mem_of_getElem? (i := 139) (by decide +kernel))) (by decide +kernel), tb (inS (List.mem_of_getElem? (i := 16) (by decide +kernel))) (by decide +kernel), tb (in1 (List.mem_of_getElem? (i := 1) (by decide +kernel))) (by decide +kernel), tb (in2 (List.mem_of_getElem? (i := 140) (by decide +kernel))) (by decide +kernel), ⟨by decide +kernel, by decide +kernel, by decide +kernel⟩⟩
theorem ml_X8_85 : GCIN RX8 85 yX1_init "OuterRows" cX1_init 1 0 := ⟨List.mem_of_getElem? (i := 5) rfl, tb (in2 (List.mem_of_getElem? (i := 144) (by decide +kernel))) (by decide +kernel), rfl, tb (in1 (List.mem_of_getElem? (i := 8) (by decide +kernel))) (by decide +kernel), tb (in2 (List.mem_of_getElem? (i := 145) (by decide +kernel))) (by decide +kernel), ⟨by decide +kernel, by decide +kernel, by decide +kernel⟩⟩
theorem ml_X1_11 : GCIN RX1 11 yX7_init "OuterRows" cX7_init 1 0 := ⟨List.mem_of_getElem? (i := 6) rfl, tb (in1 (List.mem_of_getElem? (i := 81) (by decide +kernel))) (by decide +kernel), rfl, tb (in1 (List.mem_of_getElem? (i := 4) (by decide +kernel))) (by decide +kernel), tb (in1 (List.mem_of_getElem? (i := 82) (by decide +kernel))) (by decide +kernel), ⟨by decide +kernel, by decide +kernel, by decide +kernel⟩⟩
theorem ml_X1_23 : GCIN RX1 23 yX0_init "OuterRows" cX0_init 1 0 := ⟨List.mem_of_getElem? (i := 7) rfl, tb (in1 (List.mem_of_getElem? (i := 144) (by decide +kernel))) (by decide +kernel), rfl, tb (in1 (List.mem_of_getElem? (i := 5) (by decide +kernel))) (by decide +kernel), tb (in1 (List.mem_of_getElem? (i := 145) (by decide +kernel))) (by decide +kernel), ⟨by decide +kernel, by decide +kernel, by decide +kernel⟩⟩
theorem ml_X1_30 : GCIN RX1 30 yX4_init "OuterRows" cX4_init 1 0 := ⟨List.mem_of_getElem? (i := 8) rfl, tb (in2 (List.mem_of_getElem? (i := 154) (by decide +kernel))) (by decide +kernel), rfl, tb (in1 (List.mem_of_getElem? (i := 9) (by decide +kernel))) (by decide +kernel), tb (in2 (List.mem_of_getElem? (i := 155) (by decide +kernel))) (by decide +kernel), ⟨by decide +kernel, by decide +kernel, by decide +kernel⟩⟩
theorem ml_X1_37 : GCIN RX1 37 yX5_init "OuterRows" cX5_init 1 0 := ⟨List.mem_of_getElem? (i := 9) rfl, tb (in2 (List.mem_of_getElem? (i := 182) (by decide +kernel))) (by decide +kernel), rfl, tb (in1 (List.mem_of_getElem? (i := 10) (by decide +kernel))) (by decide +kernel), tb (in2 (List.mem_of_getElem? (i := 183) (by decide +kernel))) (by decide +kernel), ⟨by decide +kernel, by decide +kernel, by decide +kernel⟩⟩
theorem ml_X8_95 : GCV RX8 95 yX1_clear cX1_clear 4 none 3 := ⟨tb (in3 (List.mem_of_getElem? (i := 2) (by decide +kernel))) (by decide +kernel), tb (in3 (List.mem_of_getElem? (i := 3) (by decide +kernel))) (by decide +kernel), tb (in3 (List.mem_of_getElem? (i := 4) (by decide +kernel))) (by decide +kernel), tb (in1 (List.mem_of_getElem? (i := 8) (by decide +kernel))) (by decide +kernel), tb (in3 (List.mem_of_getElem? (i := 5) (by decide +kernel))) (by decide +kernel), ⟨by decide +kernel, by decide +kernel, by decide +kernel⟩⟩
theorem ml_X1_65 : GCV RX1 65 yX7_clear cX7_clear 1 none 0 := ⟨tb (in3 (List.mem_of_getElem? (i := 6) (by decide +kernel))) (by decide +kernel), tb (in2 (List.mem_of_getElem? (i := 32) (by decide +kernel))) (by decide +kernel), tb (in2 (List.mem_of_getElem? (i := 33) (by decide +kernel))) (by decide +kernel), tb (in1 (List.mem_of_getElem? (i := 4) (by decide +kernel))) (by decide +kernel), tb (in2 (List.mem_of_getElem? (i := 34) (by decide +kernel))) (by decide +kernel), ⟨by decide +kernel, by decide +kernel, by decide +kernel⟩⟩
theorem ml_X1_68 : GCV RX1 68 yX0_clear cX0_clear 2 none 1 := ⟨tb (in3 (List.mem_of_getElem? (i := 7) (by decide +kernel))) (by decide +kernel), tb (in3 (List.mem_of_getElem? (i := 8) (by decide +kernel))) (by decide +kernel), tb (in3 (List.mem_of_getElem? (i := 9) (by decide +kernel))) (by decide +kernel), tb (in1 (List.mem_of_getElem? (i := 5) (by decide +kernel))) (by decide +kernel), tb (in3 (List.mem_of_getElem? (i := 10) (by decide +kernel))) (by decide +kernel), ⟨by decide +kernel, by decide +kernel, by decide +kernel⟩⟩
theorem ml_X0_70 : GCS RX0 70 yJ7_fill_53178 cJ7_fill_53178 4 none 2 := ⟨tb (in3 (List.mem_of_getElem? (i := 11) (by decide +kernel))) (by decide +kernel), tb (in3 (List.mem_of_getElem? (i := 12) (by decide +kernel))) (by decide +kernel), tb (in1 (List.mem_of_getElem? (i := 11) (by decide +kernel))) (by decide +kernel), tb (in3 (List.mem_of_getElem? (i := 13) (by decide +kernel))) (by decide +kernel), ⟨by decide +kernel, by decide +kernel, by decide +kernel⟩⟩
theorem ml_X0_76 : GCV RX0 76 yX2_clear cX2_clear 1 none 0 := ⟨tb (in3 (List.mem_of_getElem? (i := 14) (by decide +kernel))) (by decide +kernel), tb (in3 (List.mem_of_getElem? (i := 15) (by decide +kernel))) (by decide +kernel), tb (in3 (List.mem_of_getElem? (i := 16) (by decide +kernel))) (by decide +kernel), tb (in1 (List.mem_of_getElem? (i := 6) (by decide +kernel))) (by decide +kernel), tb (in3 (List.mem_of_getElem? (i := 17) (by decide +kernel))) (by decide +kernel), ⟨by decide +kernel, by decide +kernel, by decide +kernel⟩⟩
theorem ml_X2_65 : GCS RX2 65 yJ7_fill_53178 cJ7_fill_53178 4 none 2 := ⟨tb (in3 (List.mem_of_getElem? (i := 18) (by decide +kernel))) (by decide +kernel), tb (in3 (List.mem_of_getElem? (i := 12) (by decide +kernel))) (by decide +kernel), tb (in1 (List.mem_of_getElem? (i := 11) (by decide +kernel))) (by decide +kernel), tb (in3 (List.mem_of_getElem? (i := 13) (by decide +kernel))) (by decide +kernel), ⟨by decide +kernel, by decide +kernel, by decide +kernel⟩⟩
theorem ml_X1_74 : GCV RX1 74 yX5_clear cX5_clear 1 none 0 := ⟨tb (in3 (List.mem_of_getElem? (i := 19) (by decide +kernel))) (by decide +kernel), tb (in3 (List.mem_of_getElem? (i := 20) (by decide +kernel))) (by decide +kernel), tb (in3 (List.mem_of_getElem? (i := 21) (by decide +kernel))) (by decide +kernel), tb (in1 (List.mem_of_getElem? (i := 10) (by decide +kernel))) (by decide +kernel), tb (in3 (List.mem_of_getElem? (i := 22) (by decide +kernel))) (by decide +kernel), ⟨by decide +kernel, by decide +kernel, by decide +kernel⟩⟩
theorem ml_X5_56 : GCS RX5 56 yJ7_fill_53178 cJ7_fill_53178 4 none 2 := ⟨tb (in3 (List.mem_of_getElem? (i := 23) (by decide +kernel))) (by decide +kernel), tb (in3 (List.mem_of_getElem? (i := 12) (by decide +kernel))) (by decide +kernel), tb (in1 (List.mem_of_getElem? (i := 11) (by decide +kernel))) (by decide +kernel), tb (in3 (List.mem_of_getElem? (i := 13) (by decide +kernel))) (by decide +kernel), ⟨by decide +kernel, by decide +kernel, by decide +kernel⟩⟩
theorem ml_X1_75 : GCS RX1 75 yJ7_fill_53178 cJ7_fill_53178 4 none 2 := ⟨tb (in3 (List.mem_of_getElem? (i := 24) (by decide +kernel))) (by decide +kernel), tb (in3 (List.mem_of_getElem? (i := 12) (by decide +kernel))) (by decide +kernel), tb (in1 (List.mem_of_getElem? (i := 11) (by decide +kernel))) (by decide +kernel), tb (in3 (List.mem_of_getElem? (i := 13) (by decide +kernel))) (by decide +kernel), ⟨by decide +kernel, by decide +kernel, by decide +kernel⟩⟩
theorem ml_X8_99 : GCV RX8 99 yX8_doLines cX8_doLines 6 (some .int) 1 := ⟨tb (in3 (List.mem_of_getElem? (i := 25) (by decide +kernel))) (by decide +kernel), tb (in3 (List.mem_of_getElem? (i := 27) (by decide +kernel))) (by decide +kernel), tb (inS (List.mem_of_getElem? (i := 17) (by decide +kernel))) (by decide +kernel), tb (in1 (List.mem_of_getElem? (i := 1) (by decide +kernel))) (by decide +kernel), tb (in3 (List.mem_of_getElem? (i := 28) (by decide +kernel))) (by decide +kernel), ⟨by decide +kernel, by decide +kernel, by decide +kernel⟩⟩
theorem ml_X8_340 : GCV RX8 340 yX7_copyFrom cX7_copyFrom 2 none 1 := ⟨tb (in3 (List.mem_of_getElem? (i := 29) (by decide +kernel))) (by decide +kernel), tb (in3 (List.mem_of_getElem? (i := 30) (by decide +kernel))) (by decide +kernel), tb (in3 (List.mem_of_getElem? (i := 31) (by decide +kernel))) (by decide +kernel), tb (in1 (List.mem_of_getElem? (i := 4) (by decide +kernel))) (by decide +kernel), tb (in3 (List.mem_of_getElem? (i := 32) (by decide +kernel))) (by decide +kernel), ⟨by decide +kernel, by decide +kernel, by decide +kernel⟩⟩
theorem ml_X8_306 : GCV RX8 306 yX1_advance cX1_advance 4 (some .int) 1 := ⟨tb (in3 (List.mem_of_getElem? (i := 36) (by decide +kernel))) (by decide +kernel), tb (in3 (List.mem_of_getElem? (i := 37) (by decide +kernel))) (by decide +kernel), tb (in3 (List.mem_of_getElem? (i := 38) (by decide +kernel))) (by decide +kernel), tb (in1 (List.mem_of_getElem? (i := 8) (by decide +kernel))) (by decide +kernel), tb (in3 (List.mem_of_getElem? (i := 39) (by decide +kernel))) (by decide +kernel), ⟨by decide +kernel, by decide +kernel, by decide +kernel⟩⟩
theorem ml_X1_136 : GCV RX1 136 yX1_lapsesAt cX1_lapsesAt 3 (some .boolean) 2 := ⟨tb (in3 (List.mem_of_getElem? (i := 43) (by decide +kernel))) (by decide +kernel), tb (in3 (List.mem_of_getElem? (i := 44) (by decide +kernel))) (by decide +kernel), tb (in3 (List.mem_of_getElem? (i := 45) (by decide +kernel))) (by decide +kernel), tb (in1 (List.mem_of_getElem? (i := 8) (by decide +kernel))) (by decide +kernel), tb (in3 (List.mem_of_getElem? (i := 46) (by decide +kernel))) (by decide +kernel), ⟨by decide +kernel, by decide +kernel, by decide +kernel⟩⟩
theorem ml_X1_100 : GCV RX1 100 yX1_lives cX1_lives 2 (some .boolean) 1 := ⟨tb (in3 (List.mem_of_getElem? (i := 47) (by decide +kernel))) (by decide +kernel), tb (in3 (List.mem_of_getElem? (i := 48) (by decide +kernel))) (by decide +kernel), tb (in3 (List.mem_of_getElem? (i := 49) (by decide +kernel))) (by decide +kernel), tb (in1 (List.mem_of_getElem? (i := 8) (by decide +kernel))) (by decide +kernel), tb (in3 (List.mem_of_getElem? (i := 50) (by decide +kernel))) (by decide +kernel), ⟨by decide +kernel, by decide +kernel, by decide +kernel⟩⟩
theorem ml_X1_140 : GCV RX1 140 yX0_emptyKey cX0_emptyKey 4 none 1 := ⟨tb (in3 (List.mem_of_getElem? (i := 51) (by decide +kernel))) (by decide +kernel), tb (in3 (List.mem_of_getElem? (i := 52) (by decide +kernel))) (by decide +kernel), tb (in3 (List.mem_of_getElem? (i := 53) (by decide +kernel))) (by decide +kernel), tb (in1 (List.mem_of_getElem? (i := 5) (by decide +kernel))) (by decide +kernel), tb (in3 (List.mem_of_getElem? (i := 54) (by decide +kernel))) (by decide +kernel), ⟨by decide +kernel, by decide +kernel, by decide +kernel⟩⟩
theorem ml_X0_43 : GCV RX0 43 yX0_has cX0_has 4 (some .boolean) 2 := ⟨tb (in3 (List.mem_of_getElem? (i := 55) (by decide +kernel))) (by decide +kernel), tb (in3 (List.mem_of_getElem? (i := 56) (by decide +kernel))) (by decide +kernel), tb (in3 (List.mem_of_getElem? (i := 57) (by decide +kernel))) (by decide +kernel), tb (in1 (List.mem_of_getElem? (i := 5) (by decide +kernel))) (by decide +kernel), tb (in3 (List.mem_of_getElem? (i := 58) (by decide +kernel))) (by decide +kernel), ⟨by decide +kernel, by decide +kernel, by decide +kernel⟩⟩
theorem ml_X0_32 : GCS RX0 32 yX0_netPlace cX0_netPlace 3 (some .int) 3 := ⟨tb (in3 (List.mem_of_getElem? (i := 59) (by decide +kernel))) (by decide +kernel), tb (in3 (List.mem_of_getElem? (i := 60) (by decide +kernel))) (by decide +kernel), tb (in1 (List.mem_of_getElem? (i := 5) (by decide +kernel))) (by decide +kernel), tb (in3 (List.mem_of_getElem? (i := 61) (by decide +kernel))) (by decide +kernel), ⟨by decide +kernel, by decide +kernel, by decide +kernel⟩⟩
theorem ml_X8_300 : GCV RX8 300 yX1_happen cX1_happen 6 (some .int) 5 := ⟨tb (in3 (List.mem_of_getElem? (i := 62) (by decide +kernel))) (by decide +kernel), tb (in3 (List.mem_of_getElem? (i := 63) (by decide +kernel))) (by decide +kernel), tb (in3 (List.mem_of_getElem? (i := 64) (by decide +kernel))) (by decide +kernel), tb (in1 (List.mem_of_getElem? (i := 8) (by decide +kernel))) (by decide +kernel), tb (in3 (List.mem_of_getElem? (i := 65) (by decide +kernel))) (by decide +kernel), ⟨by decide +kernel, by decide +kernel, by decide +kernel⟩⟩
theorem ml_X1_104 : GCV RX1 104 yX1_isTooLate cX1_isTooLate 2 (some .boolean) 1 := ⟨tb (in3 (List.mem_of_getElem? (i := 66) (by decide +kernel))) (by decide +kernel), tb (in3 (List.mem_of_getElem? (i := 67) (by decide +kernel))) (by decide +kernel), tb (in3 (List.mem_of_getElem? (i := 68) (by decide +kernel))) (by decide +kernel), tb (in1 (List.mem_of_getElem? (i := 8) (by decide +kernel))) (by decide +kernel), tb (in3 (List.mem_of_getElem? (i := 69) (by decide +kernel))) (by decide +kernel), ⟨by decide +kernel, by decide +kernel, by decide +kernel⟩⟩
theorem ml_X1_107 : GCV RX1 107 yX1_advance cX1_advance 4 (some .int) 1 := ⟨tb (in3 (List.mem_of_getElem? (i := 70) (by decide +kernel))) (by decide +kernel), tb (in3 (List.mem_of_getElem? (i := 37) (by decide +kernel))) (by decide +kernel), tb (in3 (List.mem_of_getElem? (i := 38) (by decide +kernel))) (by decide +kernel), tb (in1 (List.mem_of_getElem? (i := 8) (by decide +kernel))) (by decide +kernel), tb (in3 (List.mem_of_getElem? (i := 39) (by decide +kernel))) (by decide +kernel), ⟨by decide +kernel, by decide +kernel, by decide +kernel⟩⟩
theorem ml_X1_115 : GCV RX1 115 yX2_openAct cX2_openAct 1 none 0 := ⟨tb (in3 (List.mem_of_getElem? (i := 71) (by decide +kernel))) (by decide +kernel), tb (in3 (List.mem_of_getElem? (i := 72) (by decide +kernel))) (by decide +kernel), tb (in3 (List.mem_of_getElem? (i := 73) (by decide +kernel))) (by decide +kernel), tb (in1 (List.mem_of_getElem? (i := 6) (by decide +kernel))) (by decide +kernel), tb (in3 (List.mem_of_getElem? (i := 74) (by decide +kernel))) (by decide +kernel), ⟨by decide +kernel, by decide +kernel, by decide +kernel⟩⟩
theorem ml_X1_120 : GCV RX1 120 yX0_change cX0_change 10 none 4 := ⟨tb (in3 (List.mem_of_getElem? (i := 75) (by decide +kernel))) (by decide +kernel), tb (in3 (List.mem_of_getElem? (i := 76) (by decide +kernel))) (by decide +kernel), tb (in3 (List.mem_of_getElem? (i := 77) (by decide +kernel))) (by decide +kernel), tb (in1 (List.mem_of_getElem? (i := 5) (by decide +kernel))) (by decide +kernel), tb (in3 (List.mem_of_getElem? (i := 78) (by decide +kernel))) (by decide +kernel), ⟨by decide +kernel, by decide +kernel, by decide +kernel⟩⟩
theorem ml_X0_36 : GCV RX0 36 yX0_thereOf cX0_thereOf 5 (some .int) 3 := ⟨tb (in3 (List.mem_of_getElem? (i := 79) (by decide +kernel))) (by decide +kernel), tb (in3 (List.mem_of_getElem? (i := 81) (by decide +kernel))) (by decide +kernel), tb (inS (List.mem_of_getElem? (i := 18) (by decide +kernel))) (by decide +kernel), tb (in1 (List.mem_of_getElem? (i := 5) (by decide +kernel))) (by decide +kernel), tb (in3 (List.mem_of_getElem? (i := 82) (by decide +kernel))) (by decide +kernel), ⟨by decide +kernel, by decide +kernel, by decide +kernel⟩⟩
theorem ml_X0_39 : GCS RX0 39 yX0_hasOuter cX0_hasOuter 2 (some .boolean) 2 := ⟨tb (in3 (List.mem_of_getElem? (i := 83) (by decide +kernel))) (by decide +kernel), tb (in3 (List.mem_of_getElem? (i := 84) (by decide +kernel))) (by decide +kernel), tb (in1 (List.mem_of_getElem? (i := 5) (by decide +kernel))) (by decide +kernel), tb (in3 (List.mem_of_getElem? (i := 85) (by decide +kernel))) (by decide +kernel), ⟨by decide +kernel, by decide +kernel, by decide +kernel⟩⟩
theorem ml_X0_49 : GCV RX0 49 yX0_sendOuters cX0_sendOuters 5 none 3 := ⟨tb (in3 (List.mem_of_getElem? (i := 86) (by decide +kernel))) (by decide +kernel), tb (in3 (List.mem_of_getElem? (i := 88) (by decide +kernel))) (by decide +kernel), tb (inS (List.mem_of_getElem? (i := 19) (by decide +kernel))) (by decide +kernel), tb (in1 (List.mem_of_getElem? (i := 5) (by decide +kernel))) (by decide +kernel), tb (in3 (List.mem_of_getElem? (i := 89) (by decide +kernel))) (by decide +kernel), ⟨by decide +kernel, by decide +kernel, by decide +kernel⟩⟩
theorem ml_X0_57 : GCV RX0 57 yX0_send cX0_send 7 none 5 := ⟨tb (in3 (List.mem_of_getElem? (i := 90) (by decide +kernel))) (by decide +kernel), tb (in3 (List.mem_of_getElem? (i := 92) (by decide +kernel))) (by decide +kernel), tb (inS (List.mem_of_getElem? (i := 20) (by decide +kernel))) (by decide +kernel), tb (in1 (List.mem_of_getElem? (i := 5) (by decide +kernel))) (by decide +kernel), tb (in3 (List.mem_of_getElem? (i := 93) (by decide +kernel))) (by decide +kernel), ⟨by decide +kernel, by decide +kernel, by decide +kernel⟩⟩
theorem ml_X0_61 : GCN RX0 61 yX8_placeOf "OuterRows" cX8_placeOf 5 (some .int) 3 := ⟨List.mem_of_getElem? (i := 10) rfl, tb (in3 (List.mem_of_getElem? (i := 95) (by decide +kernel))) (by decide +kernel), tb (in1 (List.mem_of_getElem? (i := 1) (by decide +kernel))) (by decide +kernel), tb (in3 (List.mem_of_getElem? (i := 96) (by decide +kernel))) (by decide +kernel), ⟨by decide +kernel, by decide +kernel, by decide +kernel⟩⟩
theorem ml_X0_64 : GCV RX0 64 yX2_note cX2_note 5 none 3 := ⟨tb (in3 (List.mem_of_getElem? (i := 97) (by decide +kernel))) (by decide +kernel), tb (in3 (List.mem_of_getElem? (i := 98) (by decide +kernel))) (by decide +kernel), tb (in3 (List.mem_of_getElem? (i := 99) (by decide +kernel))) (by decide +kernel), tb (in1 (List.mem_of_getElem? (i := 6) (by decide +kernel))) (by decide +kernel), tb (in3 (List.mem_of_getElem? (i := 100) (by decide +kernel))) (by decide +kernel), ⟨by decide +kernel, by decide +kernel, by decide +kernel⟩⟩
theorem ml_X0_53 : GCV RX0 53 yX0_sendRowsWith cX0_sendRowsWith 7 none 4 := ⟨tb (in3 (List.mem_of_getElem? (i := 101) (by decide +kernel))) (by decide +kernel), tb (in3 (List.mem_of_getElem? (i := 103) (by decide +kernel))) (by decide +kernel), tb (inS (List.mem_of_getElem? (i := 21) (by decide +kernel))) (by decide +kernel), tb (in1 (List.mem_of_getElem? (i := 5) (by decide +kernel))) (by decide +kernel), tb (in3 (List.mem_of_getElem? (i := 104) (by decide +kernel))) (by decide +kernel), ⟨by decide +kernel, by decide +kernel, by decide +kernel⟩⟩
theorem ml_X1_130 : GCV RX1 130 yX4_add cX4_add 5 none 4 := ⟨tb (in3 (List.mem_of_getElem? (i := 105) (by decide +kernel))) (by decide +kernel), tb (in3 (List.mem_of_getElem? (i := 106) (by decide +kernel))) (by decide +kernel), tb (in3 (List.mem_of_getElem? (i := 107) (by decide +kernel))) (by decide +kernel), tb (in1 (List.mem_of_getElem? (i := 9) (by decide +kernel))) (by decide +kernel), tb (in3 (List.mem_of_getElem? (i := 108) (by decide +kernel))) (by decide +kernel), ⟨by decide +kernel, by decide +kernel, by decide +kernel⟩⟩
theorem ml_X8_103 : GCV RX8 103 yX8_accept cX8_accept 2 (some .int) 1 := ⟨tb (in3 (List.mem_of_getElem? (i := 109) (by decide +kernel))) (by decide +kernel), tb (in3 (List.mem_of_getElem? (i := 111) (by decide +kernel))) (by decide +kernel), tb (inS (List.mem_of_getElem? (i := 22) (by decide +kernel))) (by decide +kernel), tb (in1 (List.mem_of_getElem? (i := 1) (by decide +kernel))) (by decide +kernel), tb (in3 (List.mem_of_getElem? (i := 112) (by decide +kernel))) (by decide +kernel), ⟨by decide +kernel, by decide +kernel, by decide +kernel⟩⟩
theorem ml_L_28 : GCV RL 28 yX8_more cX8_more 2 (some .int) 1 := ⟨tb (in3 (List.mem_of_getElem? (i := 113) (by decide +kernel))) (by decide +kernel), tb (in3 (List.mem_of_getElem? (i := 114) (by decide +kernel))) (by decide +kernel), tb (in3 (List.mem_of_getElem? (i := 115) (by decide +kernel))) (by decide +kernel), tb (in1 (List.mem_of_getElem? (i := 1) (by decide +kernel))) (by decide +kernel), tb (in3 (List.mem_of_getElem? (i := 116) (by decide +kernel))) (by decide +kernel), ⟨by decide +kernel, by decide +kernel, by decide +kernel⟩⟩
theorem ml_X8_114 : GCV RX8 114 yX3_expectMore cX3_expectMore 3 none 2 := ⟨tb (in3 (List.mem_of_getElem? (i := 117) (by decide +kernel))) (by decide +kernel), tb (in3 (List.mem_of_getElem? (i := 118) (by decide +kernel))) (by decide +kernel), tb (in3 (List.mem_of_getElem? (i := 119) (by decide +kernel))) (by decide +kernel), tb (in1 (List.mem_of_getElem? (i := 2) (by decide +kernel))) (by decide +kernel), tb (in3 (List.mem_of_getElem? (i := 120) (by decide +kernel))) (by decide +kernel), ⟨by decide +kernel, by decide +kernel, by decide +kernel⟩⟩
theorem ml_X3_61 : GCV RX3 61 yX7_copyFrom cX7_copyFrom 2 none 1 := ⟨tb (in3 (List.mem_of_getElem? (i := 121) (by decide +kernel))) (by decide +kernel), tb (in3 (List.mem_of_getElem? (i := 30) (by decide +kernel))) (by decide +kernel), tb (in3 (List.mem_of_getElem? (i := 31) (by decide +kernel))) (by decide +kernel), tb (in1 (List.mem_of_getElem? (i := 4) (by decide +kernel))) (by decide +kernel), tb (in3 (List.mem_of_getElem? (i := 32) (by decide +kernel))) (by decide +kernel), ⟨by decide +kernel, by decide +kernel, by decide +kernel⟩⟩
theorem ml_L_32 : GCV RL 32 yX8_fault cX8_fault 1 (some .int) 0 := ⟨tb (in3 (List.mem_of_getElem? (i := 122) (by decide +kernel))) (by decide +kernel), tb (in3 (List.mem_of_getElem? (i := 123) (by decide +kernel))) (by decide +kernel), tb (in3 (List.mem_of_getElem? (i := 124) (by decide +kernel))) (by decide +kernel), tb (in1 (List.mem_of_getElem? (i := 1) (by decide +kernel))) (by decide +kernel), tb (in3 (List.mem_of_getElem? (i := 125) (by decide +kernel))) (by decide +kernel), ⟨by decide +kernel, by decide +kernel, by decide +kernel⟩⟩
theorem ml_L_37 : GCV RL 37 yX8_where cX8_where 1 (some .int) 0 := ⟨tb (in3 (List.mem_of_getElem? (i := 126) (by decide +kernel))) (by decide +kernel), tb (in3 (List.mem_of_getElem? (i := 127) (by decide +kernel))) (by decide +kernel), tb (in3 (List.mem_of_getElem? (i := 128) (by decide +kernel))) (by decide +kernel), tb (in1 (List.mem_of_getElem? (i := 1) (by decide +kernel))) (by decide +kernel), tb (in3 (List.mem_of_getElem? (i := 129) (by decide +kernel))) (by decide +kernel), ⟨by decide +kernel, by decide +kernel, by decide +kernel⟩⟩
theorem ml_L_41 : GCV RL 41 yX8_about cX8_about 2 (some .int) 1 := ⟨tb (in3 (List.mem_of_getElem? (i := 130) (by decide +kernel))) (by decide +kernel), tb (in3 (List.mem_of_getElem? (i := 131) (by decide +kernel))) (by decide +kernel), tb (in3 (List.mem_of_getElem? (i := 132) (by decide +kernel))) (by decide +kernel), tb (in1 (List.mem_of_getElem? (i := 1) (by decide +kernel))) (by decide +kernel), tb (in3 (List.mem_of_getElem? (i := 133) (by decide +kernel))) (by decide +kernel), ⟨by decide +kernel, by decide +kernel, by decide +kernel⟩⟩
theorem ml_X8_118 : GCV RX8 118 yX1_told cX1_told 2 (some .int) 1 := ⟨tb (in3 (List.mem_of_getElem? (i := 134) (by decide +kernel))) (by decide +kernel), tb (in3 (List.mem_of_getElem? (i := 135) (by decide +kernel))) (by decide +kernel), tb (in3 (List.mem_of_getElem? (i := 136) (by decide +kernel))) (by decide +kernel), tb (in1 (List.mem_of_getElem? (i := 8) (by decide +kernel))) (by decide +kernel), tb (in3 (List.mem_of_getElem? (i := 137) (by decide +kernel))) (by decide +kernel), ⟨by decide +kernel, by decide +kernel, by decide +kernel⟩⟩
theorem ml_X1_151 : GCV RX1 151 yX1_countLiving cX1_countLiving 3 (some .int) 0 := ⟨tb (in3 (List.mem_of_getElem? (i := 138) (by decide +kernel))) (by decide +kernel), tb (in3 (List.mem_of_getElem? (i := 140) (by decide +kernel))) (by decide +kernel), tb (inS (List.mem_of_getElem? (i := 23) (by decide +kernel))) (by decide +kernel), tb (in1 (List.mem_of_getElem? (i := 8) (by decide +kernel))) (by decide +kernel), tb (in3 (List.mem_of_getElem? (i := 141) (by decide +kernel))) (by decide +kernel), ⟨by decide +kernel, by decide +kernel, by decide +kernel⟩⟩
theorem ml_L_45 : GCV RL 45 yX8_letter cX8_letter 5 (some .int) 3 := ⟨tb (in3 (List.mem_of_getElem? (i := 142) (by decide +kernel))) (by decide +kernel), tb (in3 (List.mem_of_getElem? (i := 143) (by decide +kernel))) (by decide +kernel), tb (in3 (List.mem_of_getElem? (i := 144) (by decide +kernel))) (by decide +kernel), tb (in1 (List.mem_of_getElem? (i := 1) (by decide +kernel))) (by decide +kernel), tb (in3 (List.mem_of_getElem? (i := 145) (by decide +kernel))) (by decide +kernel), ⟨by decide +kernel, by decide +kernel, by decide +kernel⟩⟩
theorem ml_X8_121 : GCV RX8 121 yX7_knows cX7_knows 2 (some .boolean) 1 := ⟨tb (in3 (List.mem_of_getElem? (i := 146) (by decide +kernel))) (by decide +kernel), tb (in3 (List.mem_of_getElem? (i := 147) (by decide +kernel))) (by decide +kernel), tb (in3 (List.mem_of_getElem? (i := 148) (by decide +kernel))) (by decide +kernel), tb (in1 (List.mem_of_getElem? (i := 4) (by decide +kernel))) (by decide +kernel), tb (in3 (List.mem_of_getElem? (i := 149) (by decide +kernel))) (by decide +kernel), ⟨by decide +kernel, by decide +kernel, by decide +kernel⟩⟩
theorem ml_X8_126 : GCV RX8 126 yX7_letterAt cX7_letterAt 3 (some .int) 2 := ⟨tb (in3 (List.mem_of_getElem? (i := 150) (by decide +kernel))) (by decide +kernel), tb (in3 (List.mem_of_getElem? (i := 151) (by decide +kernel))) (by decide +kernel), tb (in3 (List.mem_of_getElem? (i := 152) (by decide +kernel))) (by decide +kernel), tb (in1 (List.mem_of_getElem? (i := 4) (by decide +kernel))) (by decide +kernel), tb (in3 (List.mem_of_getElem? (i := 153) (by decide +kernel))) (by decide +kernel), ⟨by decide +kernel, by decide +kernel, by decide +kernel⟩⟩
theorem ml_X7_23 : GCV RX7 23 yX7_knows cX7_knows 2 (some .boolean) 1 := ⟨tb (in3 (List.mem_of_getElem? (i := 154) (by decide +kernel))) (by decide +kernel), tb (in3 (List.mem_of_getElem? (i := 147) (by decide +kernel))) (by decide +kernel), tb (in3 (List.mem_of_getElem? (i := 148) (by decide +kernel))) (by decide +kernel), tb (in1 (List.mem_of_getElem? (i := 4) (by decide +kernel))) (by decide +kernel), tb (in3 (List.mem_of_getElem? (i := 149) (by decide +kernel))) (by decide +kernel), ⟨by decide +kernel, by decide +kernel, by decide +kernel⟩⟩
theorem ml_L_50 : GCV RL 50 yX8_net cX8_net 4 (some .int) 3 := ⟨tb (in3 (List.mem_of_getElem? (i := 156) (by decide +kernel))) (by decide +kernel), tb (in3 (List.mem_of_getElem? (i := 157) (by decide +kernel))) (by decide +kernel), tb (in3 (List.mem_of_getElem? (i := 158) (by decide +kernel))) (by decide +kernel), tb (in1 (List.mem_of_getElem? (i := 1) (by decide +kernel))) (by decide +kernel), tb (in3 (List.mem_of_getElem? (i := 159) (by decide +kernel))) (by decide +kernel), ⟨by decide +kernel, by decide +kernel, by decide +kernel⟩⟩
theorem ml_X8_129 : GCS RX8 129 yX8_isSide cX8_isSide 1 (some .boolean) 1 := ⟨tb (in3 (List.mem_of_getElem? (i := 160) (by decide +kernel))) (by decide +kernel), tb (in3 (List.mem_of_getElem? (i := 161) (by decide +kernel))) (by decide +kernel), tb (in1 (List.mem_of_getElem? (i := 1) (by decide +kernel))) (by decide +kernel), tb (in3 (List.mem_of_getElem? (i := 162) (by decide +kernel))) (by decide +kernel), ⟨by decide +kernel, by decide +kernel, by decide +kernel⟩⟩
theorem ml_X8_132 : GCV RX8 132 yX8_isKey cX8_isKey 2 (some .boolean) 1 := ⟨tb (in3 (List.mem_of_getElem? (i := 163) (by decide +kernel))) (by decide +kernel), tb (in3 (List.mem_of_getElem? (i := 165) (by decide +kernel))) (by decide +kernel), tb (inS (List.mem_of_getElem? (i := 24) (by decide +kernel))) (by decide +kernel), tb (in1 (List.mem_of_getElem? (i := 1) (by decide +kernel))) (by decide +kernel), tb (in3 (List.mem_of_getElem? (i := 166) (by decide +kernel))) (by decide +kernel), ⟨by decide +kernel, by decide +kernel, by decide +kernel⟩⟩
theorem ml_X8_135 : GCV RX8 135 yX8_isValue cX8_isValue 2 (some .boolean) 1 := ⟨tb (in3 (List.mem_of_getElem? (i := 167) (by decide +kernel))) (by decide +kernel), tb (in3 (List.mem_of_getElem? (i := 169) (by decide +kernel))) (by decide +kernel), tb (inS (List.mem_of_getElem? (i := 25) (by decide +kernel))) (by decide +kernel), tb (in1 (List.mem_of_getElem? (i := 1) (by decide +kernel))) (by decide +kernel), tb (in3 (List.mem_of_getElem? (i := 170) (by decide +kernel))) (by decide +kernel), ⟨by decide +kernel, by decide +kernel, by decide +kernel⟩⟩
theorem ml_X8_142 : GCV RX8 142 yX0_netOf cX0_netOf 4 (some .int) 3 := ⟨tb (in3 (List.mem_of_getElem? (i := 172) (by decide +kernel))) (by decide +kernel), tb (in3 (List.mem_of_getElem? (i := 173) (by decide +kernel))) (by decide +kernel), tb (in3 (List.mem_of_getElem? (i := 174) (by decide +kernel))) (by decide +kernel), tb (in1 (List.mem_of_getElem? (i := 5) (by decide +kernel))) (by decide +kernel), tb (in3 (List.mem_of_getElem? (i := 175) (by decide +kernel))) (by decide +kernel), ⟨by decide +kernel, by decide +kernel, by decide +kernel⟩⟩
theorem ml_L_54 : GCV RL 54 yX8_there cX8_there 3 (some .int) 2 := ⟨tb (in3 (List.mem_of_getElem? (i := 176) (by decide +kernel))) (by decide +kernel), tb (in3 (List.mem_of_getElem? (i := 177) (by decide +kernel))) (by decide +kernel), tb (in3 (List.mem_of_getElem? (i := 178) (by decide +kernel))) (by decide +kernel), tb (in1 (List.mem_of_getElem? (i := 1) (by decide +kernel))) (by decide +kernel), tb (in3 (List.mem_of_getElem? (i := 179) (by decide +kernel))) (by decide +kernel), ⟨by decide +kernel, by decide +kernel, by decide +kernel⟩⟩
theorem ml_X8_146 : GCV RX8 146 yX0_thereOfAll cX0_thereOfAll 5 (some .int) 2 := ⟨tb (in3 (List.mem_of_getElem? (i := 180) (by decide +kernel))) (by decide +kernel), tb (in3 (List.mem_of_getElem? (i := 181) (by decide +kernel))) (by decide +kernel), tb (in3 (List.mem_of_getElem? (i := 182) (by decide +kernel))) (by decide +kernel), tb (in1 (List.mem_of_getElem? (i := 5) (by decide +kernel))) (by decide +kernel), tb (in3 (List.mem_of_getElem? (i := 183) (by decide +kernel))) (by decide +kernel), ⟨by decide +kernel, by decide +kernel, by decide +kernel⟩⟩
theorem ml_L_59 : GCV RL 59 yX8_key cX8_key 3 (some .int) 2 := ⟨tb (in3 (List.mem_of_getElem? (i := 184) (by decide +kernel))) (by decide +kernel), tb (in3 (List.mem_of_getElem? (i := 185) (by decide +kernel))) (by decide +kernel), tb (in3 (List.mem_of_getElem? (i := 186) (by decide +kernel))) (by decide +kernel), tb (in1 (List.mem_of_getElem? (i := 1) (by decide +kernel))) (by decide +kernel), tb (in3 (List.mem_of_getElem? (i := 187) (by decide +kernel))) (by decide +kernel), ⟨by decide +kernel, by decide +kernel, by decide +kernel⟩⟩
theorem ml_X8_149 : GCV RX8 149 yX1_toldOfKey cX1_toldOfKey 3 (some .int) 2 := ⟨tb (in3 (List.mem_of_getElem? (i := 188) (by decide +kernel))) (by decide +kernel), tb (in3 (List.mem_of_getElem? (i := 189) (by decide +kernel))) (by decide +kernel), tb (in3 (List.mem_of_getElem? (i := 190) (by decide +kernel))) (by decide +kernel), tb (in1 (List.mem_of_getElem? (i := 8) (by decide +kernel))) (by decide +kernel), tb (in3 (List.mem_of_getElem? (i := 191) (by decide +kernel))) (by decide +kernel), ⟨by decide +kernel, by decide +kernel, by decide +kernel⟩⟩
theorem ml_L_63 : GCV RL 63 yX8_debts cX8_debts 2 (some .int) 1 := ⟨tb (in3 (List.mem_of_getElem? (i := 192) (by decide +kernel))) (by decide +kernel), tb (in3 (List.mem_of_getElem? (i := 193) (by decide +kernel))) (by decide +kernel), tb (in3 (List.mem_of_getElem? (i := 194) (by decide +kernel))) (by decide +kernel), tb (in1 (List.mem_of_getElem? (i := 1) (by decide +kernel))) (by decide +kernel), tb (in3 (List.mem_of_getElem? (i := 195) (by decide +kernel))) (by decide +kernel), ⟨by decide +kernel, by decide +kernel, by decide +kernel⟩⟩
theorem ml_X8_152 : GCV RX8 152 yX0_countDebts cX0_countDebts 4 (some .int) 1 := ⟨tb (in3 (List.mem_of_getElem? (i := 196) (by decide +kernel))) (by decide +kernel), tb (in3 (List.mem_of_getElem? (i := 197) (by decide +kernel))) (by decide +kernel), tb (in3 (List.mem_of_getElem? (i := 198) (by decide +kernel))) (by decide +kernel), tb (in1 (List.mem_of_getElem? (i := 5) (by decide +kernel))) (by decide +kernel), tb (in3 (List.mem_of_getElem? (i := 199) (by decide +kernel))) (by decide +kernel), ⟨by decide +kernel, by decide +kernel, by decide +kernel⟩⟩
theorem ml_L_67 : GCV RL 67 yX8_sent cX8_sent 4 (some .int) 3 := ⟨tb (in3 (List.mem_of_getElem? (i := 200) (by decide +kernel))) (by decide +kernel), tb (in3 (List.mem_of_getElem? (i := 201) (by decide +kernel))) (by decide +kernel), tb (in3 (List.mem_of_getElem? (i := 202) (by decide +kernel))) (by decide +kernel), tb (in1 (List.mem_of_getElem? (i := 1) (by decide +kernel))) (by decide +kernel), tb (in3 (List.mem_of_getElem? (i := 203) (by decide +kernel))) (by decide +kernel), ⟨by decide +kernel, by decide +kernel, by decide +kernel⟩⟩
theorem ml_X8_155 : GCV RX8 155 yX8_isRow cX8_isRow 4 (some .boolean) 3 := ⟨tb (in3 (List.mem_of_getElem? (i := 204) (by decide +kernel))) (by decide +kernel), tb (in3 (List.mem_of_getElem? (i := 206) (by decide +kernel))) (by decide +kernel), tb (inS (List.mem_of_getElem? (i := 26) (by decide +kernel))) (by decide +kernel), tb (in1 (List.mem_of_getElem? (i := 1) (by decide +kernel))) (by decide +kernel), tb (in3 (List.mem_of_getElem? (i := 207) (by decide +kernel))) (by decide +kernel), ⟨by decide +kernel, by decide +kernel, by decide +kernel⟩⟩
theorem ml_X8_162 : GCS RX8 162 yX8_placeOf cX8_placeOf 5 (some .int) 3 := ⟨tb (in3 (List.mem_of_getElem? (i := 208) (by decide +kernel))) (by decide +kernel), tb (in3 (List.mem_of_getElem? (i := 95) (by decide +kernel))) (by decide +kernel), tb (in1 (List.mem_of_getElem? (i := 1) (by decide +kernel))) (by decide +kernel), tb (in3 (List.mem_of_getElem? (i := 96) (by decide +kernel))) (by decide +kernel), ⟨by decide +kernel, by decide +kernel, by decide +kernel⟩⟩
theorem ml_L_71 : GCV RL 71 yX8_join cX8_join 4 (some .int) 3 := ⟨tb (in3 (List.mem_of_getElem? (i := 209) (by decide +kernel))) (by decide +kernel), tb (in3 (List.mem_of_getElem? (i := 210) (by decide +kernel))) (by decide +kernel), tb (in3 (List.mem_of_getElem? (i := 211) (by decide +kernel))) (by decide +kernel), tb (in1 (List.mem_of_getElem? (i := 1) (by decide +kernel))) (by decide +kernel), tb (in3 (List.mem_of_getElem? (i := 212) (by decide +kernel))) (by decide +kernel), ⟨by decide +kernel, by decide +kernel, by decide +kernel⟩⟩
theorem ml_X8_165 : GCV RX8 165 yX0_joined cX0_joined 4 (some .int) 3 := ⟨tb (in3 (List.mem_of_getElem? (i := 213) (by decide +kernel))) (by decide +kernel), tb (in3 (List.mem_of_getElem? (i := 214) (by decide +kernel))) (by decide +kernel), tb (in3 (List.mem_of_getElem? (i := 215) (by decide +kernel))) (by decide +kernel), tb (in1 (List.mem_of_getElem? (i := 5) (by decide +kernel))) (by decide +kernel), tb (in3 (List.mem_of_getElem? (i := 216) (by decide +kernel))) (by decide +kernel), ⟨by decide +kernel, by decide +kernel, by decide +kernel⟩⟩
theorem ml_X0_46 : GCV RX0 46 yX0_outerOf cX0_outerOf 4 (some .int) 3 := ⟨tb (in3 (List.mem_of_getElem? (i := 217) (by decide +kernel))) (by decide +kernel), tb (in3 (List.mem_of_getElem? (i := 219) (by decide +kernel))) (by decide +kernel), tb (inS (List.mem_of_getElem? (i := 27) (by decide +kernel))) (by decide +kernel), tb (in1 (List.mem_of_getElem? (i := 5) (by decide +kernel))) (by decide +kernel), tb (in3 (List.mem_of_getElem? (i := 220) (by decide +kernel))) (by decide +kernel), ⟨by decide +kernel, by decide +kernel, by decide +kernel⟩⟩
theorem ml_L_75 : GCV RL 75 yX8_closed cX8_closed 5 (some .int) 3 := ⟨tb (in3 (List.mem_of_getElem? (i := 221) (by decide +kernel))) (by decide +kernel), tb (in3 (List.mem_of_getElem? (i := 222) (by decide +kernel))) (by decide +kernel), tb (in3 (List.mem_of_getElem? (i := 223) (by decide +kernel))) (by decide +kernel), tb (in1 (List.mem_of_getElem? (i := 1) (by decide +kernel))) (by decide +kernel), tb (in3 (List.mem_of_getElem? (i := 224) (by decide +kernel))) (by decide +kernel), ⟨by decide +kernel, by decide +kernel, by decide +kernel⟩⟩
theorem ml_L_79 : GCV RL 79 yX8_rows cX8_rows 1 (some .int) 0 := ⟨tb (in3 (List.mem_of_getElem? (i := 225) (by decide +kernel))) (by decide +kernel), tb (in3 (List.mem_of_getElem? (i := 226) (by decide +kernel))) (by decide +kernel), tb (in3 (List.mem_of_getElem? (i := 227) (by decide +kernel))) (by decide +kernel), tb (in1 (List.mem_of_getElem? (i := 1) (by decide +kernel))) (by decide +kernel), tb (in3 (List.mem_of_getElem? (i := 228) (by decide +kernel))) (by decide +kernel), ⟨by decide +kernel, by decide +kernel, by decide +kernel⟩⟩
theorem ml_X8_168 : GCS RX8 168 yX8_countFilled cX8_countFilled 4 (some .int) 2 := ⟨tb (in3 (List.mem_of_getElem? (i := 229) (by decide +kernel))) (by decide +kernel), tb (in3 (List.mem_of_getElem? (i := 230) (by decide +kernel))) (by decide +kernel), tb (in1 (List.mem_of_getElem? (i := 1) (by decide +kernel))) (by decide +kernel), tb (in3 (List.mem_of_getElem? (i := 231) (by decide +kernel))) (by decide +kernel), ⟨by decide +kernel, by decide +kernel, by decide +kernel⟩⟩
theorem ml_L_83 : GCV RL 83 yX8_row cX8_row 4 (some .int) 2 := ⟨tb (in3 (List.mem_of_getElem? (i := 232) (by decide +kernel))) (by decide +kernel), tb (in3 (List.mem_of_getElem? (i := 233) (by decide +kernel))) (by decide +kernel), tb (in3 (List.mem_of_getElem? (i := 234) (by decide +kernel))) (by decide +kernel), tb (in1 (List.mem_of_getElem? (i := 1) (by decide +kernel))) (by decide +kernel), tb (in3 (List.mem_of_getElem? (i := 235) (by decide +kernel))) (by decide +kernel), ⟨by decide +kernel, by decide +kernel, by decide +kernel⟩⟩
theorem ml_X8_172 : GCS RX8 172 yX8_filledPlace cX8_filledPlace 5 (some .int) 3 := ⟨tb (in3 (List.mem_of_getElem? (i := 236) (by decide +kernel))) (by decide +kernel), tb (in3 (List.mem_of_getElem? (i := 237) (by decide +kernel))) (by decide +kernel), tb (in1 (List.mem_of_getElem? (i := 1) (by decide +kernel))) (by decide +kernel), tb (in3 (List.mem_of_getElem? (i := 238) (by decide +kernel))) (by decide +kernel), ⟨by decide +kernel, by decide +kernel, by decide +kernel⟩⟩
theorem ml_X8_176 : GCS RX8 176 yX8_partOfRow cX8_partOfRow 3 (some .int) 3 := ⟨tb (in3 (List.mem_of_getElem? (i := 239) (by decide +kernel))) (by decide +kernel), tb (in4 (List.mem_of_getElem? (i := 0) (by decide +kernel))) (by decide +kernel), tb (in1 (List.mem_of_getElem? (i := 1) (by decide +kernel))) (by decide +kernel), tb (in4 (List.mem_of_getElem? (i := 1) (by decide +kernel))) (by decide +kernel), ⟨by decide +kernel, by decide +kernel, by decide +kernel⟩⟩
theorem ml_X8_359 : GCS RX8 359 yX8_keyOfPlace cX8_keyOfPlace 1 (some .int) 1 := ⟨tb (in4 (List.mem_of_getElem? (i := 2) (by decide +kernel))) (by decide +kernel), tb (in4 (List.mem_of_getElem? (i := 3) (by decide +kernel))) (by decide +kernel), tb (in1 (List.mem_of_getElem? (i := 1) (by decide +kernel))) (by decide +kernel), tb (in4 (List.mem_of_getElem? (i := 4) (by decide +kernel))) (by decide +kernel), ⟨by decide +kernel, by decide +kernel, by decide +kernel⟩⟩
theorem ml_X8_362 : GCS RX8 362 yX8_leftOfPlace cX8_leftOfPlace 2 (some .int) 1 := ⟨tb (in4 (List.mem_of_getElem? (i := 5) (by decide +kernel))) (by decide +kernel), tb (in4 (List.mem_of_getElem? (i := 6) (by decide +kernel))) (by decide +kernel), tb (in1 (List.mem_of_getElem? (i := 1) (by decide +kernel))) (by decide +kernel), tb (in4 (List.mem_of_getElem? (i := 7) (by decide +kernel))) (by decide +kernel), ⟨by decide +kernel, by decide +kernel, by decide +kernel⟩⟩
theorem ml_X8_365 : GCS RX8 365 yX8_rightOfPlace cX8_rightOfPlace 2 (some .int) 1 := ⟨tb (in4 (List.mem_of_getElem? (i := 8) (by decide +kernel))) (by decide +kernel), tb (in4 (List.mem_of_getElem? (i := 9) (by decide +kernel))) (by decide +kernel), tb (in1 (List.mem_of_getElem? (i := 1) (by decide +kernel))) (by decide +kernel), tb (in4 (List.mem_of_getElem? (i := 10) (by decide +kernel))) (by decide +kernel), ⟨by decide +kernel, by decide +kernel, by decide +kernel⟩⟩
theorem ml_L_87 : GCV RL 87 yX8_spell cX8_spell 5 (some .int) 2 := ⟨tb (in4 (List.mem_of_getElem? (i := 11) (by decide +kernel))) (by decide +kernel), tb (in4 (List.mem_of_getElem? (i := 12) (by decide +kernel))) (by decide +kernel), tb (in4 (List.mem_of_getElem? (i := 13) (by decide +kernel))) (by decide +kernel), tb (in1 (List.mem_of_getElem? (i := 1) (by decide +kernel))) (by decide +kernel), tb (in4 (List.mem_of_getElem? (i := 14) (by decide +kernel))) (by decide +kernel), ⟨by decide +kernel, by decide +kernel, by decide +kernel⟩⟩
theorem ml_X8_179 : GCV RX8 179 yX1_textOfRow cX1_textOfRow 3 (some (.object "java/lang/StringBuilder")) 1 := ⟨tb (in4 (List.mem_of_getElem? (i := 15) (by decide +kernel))) (by decide +kernel), tb (in4 (List.mem_of_getElem? (i := 16) (by decide +kernel))) (by decide +kernel), tb (in4 (List.mem_of_getElem? (i := 17) (by decide +kernel))) (by decide +kernel), tb (in1 (List.mem_of_getElem? (i := 8) (by decide +kernel))) (by decide +kernel), tb (in4 (List.mem_of_getElem? (i := 18) (by decide +kernel))) (by decide +kernel), ⟨by decide +kernel, by decide +kernel, by decide +kernel⟩⟩
theorem ml_X1_167 : GCN RX1 167 yX8_keyOfPlace "OuterRows" cX8_keyOfPlace 1 (some .int) 1 := ⟨List.mem_of_getElem? (i := 11) rfl, tb (in4 (List.mem_of_getElem? (i := 3) (by decide +kernel))) (by decide +kernel), tb (in1 (List.mem_of_getElem? (i := 1) (by decide +kernel))) (by decide +kernel), tb (in4 (List.mem_of_getElem? (i := 4) (by decide +kernel))) (by decide +kernel), ⟨by decide +kernel, by decide +kernel, by decide +kernel⟩⟩
theorem ml_X1_170 : GCV RX1 170 yX7_appendTo cX7_appendTo 5 none 2 := ⟨tb (in4 (List.mem_of_getElem? (i := 50) (by decide +kernel))) (by decide +kernel), tb (in4 (List.mem_of_getElem? (i := 51) (by decide +kernel))) (by decide +kernel), tb (in4 (List.mem_of_getElem? (i := 52) (by decide +kernel))) (by decide +kernel), tb (in1 (List.mem_of_getElem? (i := 4) (by decide +kernel))) (by decide +kernel), tb (in4 (List.mem_of_getElem? (i := 53) (by decide +kernel))) (by decide +kernel), ⟨by decide +kernel, by decide +kernel, by decide +kernel⟩⟩
theorem ml_X7_35 : GCV RX7 35 yX7_letterAt cX7_letterAt 3 (some .int) 2 := ⟨tb (in4 (List.mem_of_getElem? (i := 145) (by decide +kernel))) (by decide +kernel), tb (in3 (List.mem_of_getElem? (i := 151) (by decide +kernel))) (by decide +kernel), tb (in3 (List.mem_of_getElem? (i := 152) (by decide +kernel))) (by decide +kernel), tb (in1 (List.mem_of_getElem? (i := 4) (by decide +kernel))) (by decide +kernel), tb (in3 (List.mem_of_getElem? (i := 153) (by decide +kernel))) (by decide +kernel), ⟨by decide +kernel, by decide +kernel, by decide +kernel⟩⟩
theorem ml_X1_178 : GCN RX1 178 yX8_leftOfPlace "OuterRows" cX8_leftOfPlace 2 (some .int) 1 := ⟨List.mem_of_getElem? (i := 12) rfl, tb (in4 (List.mem_of_getElem? (i := 6) (by decide +kernel))) (by decide +kernel), tb (in1 (List.mem_of_getElem? (i := 1) (by decide +kernel))) (by decide +kernel), tb (in4 (List.mem_of_getElem? (i := 7) (by decide +kernel))) (by decide +kernel), ⟨by decide +kernel, by decide +kernel, by decide +kernel⟩⟩
theorem ml_X1_181 : GCN RX1 181 yX8_rightOfPlace "OuterRows" cX8_rightOfPlace 2 (some .int) 1 := ⟨List.mem_of_getElem? (i := 13) rfl, tb (in4 (List.mem_of_getElem? (i := 9) (by decide +kernel))) (by decide +kernel), tb (in1 (List.mem_of_getElem? (i := 1) (by decide +kernel))) (by decide +kernel), tb (in4 (List.mem_of_getElem? (i := 10) (by decide +kernel))) (by decide +kernel), ⟨by decide +kernel, by decide +kernel, by decide +kernel⟩⟩
theorem ml_L_91 : GCV RL 91 yX8_traffic cX8_traffic 2 (some .int) 1 := ⟨tb (in4 (List.mem_of_getElem? (i := 202) (by decide +kernel))) (by decide +kernel), tb (in4 (List.mem_of_getElem? (i := 203) (by decide +kernel))) (by decide +kernel), tb (in4 (List.mem_of_getElem? (i := 204) (by decide +kernel))) (by decide +kernel), tb (in1 (List.mem_of_getElem? (i := 1) (by decide +kernel))) (by decide +kernel), tb (in4 (List.mem_of_getElem? (i := 205) (by decide +kernel))) (by decide +kernel), ⟨by decide +kernel, by decide +kernel, by decide +kernel⟩⟩
theorem ml_X8_196 : GCV RX8 196 yX2_told cX2_told 2 (some .int) 1 := ⟨tb (in4 (List.mem_of_getElem? (i := 206) (by decide +kernel))) (by decide +kernel), tb (in4 (List.mem_of_getElem? (i := 207) (by decide +kernel))) (by decide +kernel), tb (in4 (List.mem_of_getElem? (i := 208) (by decide +kernel))) (by decide +kernel), tb (in1 (List.mem_of_getElem? (i := 6) (by decide +kernel))) (by decide +kernel), tb (in4 (List.mem_of_getElem? (i := 209) (by decide +kernel))) (by decide +kernel), ⟨by decide +kernel, by decide +kernel, by decide +kernel⟩⟩
theorem ml_L_95 : GCV RL 95 yX8_log cX8_log 3 (some .int) 2 := ⟨tb (in4 (List.mem_of_getElem? (i := 210) (by decide +kernel))) (by decide +kernel), tb (in4 (List.mem_of_getElem? (i := 211) (by decide +kernel))) (by decide +kernel), tb (in4 (List.mem_of_getElem? (i := 212) (by decide +kernel))) (by decide +kernel), tb (in1 (List.mem_of_getElem? (i := 1) (by decide +kernel))) (by decide +kernel), tb (in4 (List.mem_of_getElem? (i := 213) (by decide +kernel))) (by decide +kernel), ⟨by decide +kernel, by decide +kernel, by decide +kernel⟩⟩
theorem ml_X8_199 : GCV RX8 199 yX2_remembers cX2_remembers 2 (some .boolean) 1 := ⟨tb (in4 (List.mem_of_getElem? (i := 214) (by decide +kernel))) (by decide +kernel), tb (in4 (List.mem_of_getElem? (i := 215) (by decide +kernel))) (by decide +kernel), tb (in4 (List.mem_of_getElem? (i := 216) (by decide +kernel))) (by decide +kernel), tb (in1 (List.mem_of_getElem? (i := 6) (by decide +kernel))) (by decide +kernel), tb (in4 (List.mem_of_getElem? (i := 217) (by decide +kernel))) (by decide +kernel), ⟨by decide +kernel, by decide +kernel, by decide +kernel⟩⟩
theorem ml_X2_52 : GCV RX2 52 yX2_remembered cX2_remembered 1 (some .int) 0 := ⟨tb (in4 (List.mem_of_getElem? (i := 218) (by decide +kernel))) (by decide +kernel), tb (in4 (List.mem_of_getElem? (i := 219) (by decide +kernel))) (by decide +kernel), tb (in4 (List.mem_of_getElem? (i := 220) (by decide +kernel))) (by decide +kernel), tb (in1 (List.mem_of_getElem? (i := 6) (by decide +kernel))) (by decide +kernel), tb (in4 (List.mem_of_getElem? (i := 221) (by decide +kernel))) (by decide +kernel), ⟨by decide +kernel, by decide +kernel, by decide +kernel⟩⟩
theorem ml_X8_202 : GCV RX8 202 yX2_toldOfChange cX2_toldOfChange 4 (some .int) 2 := ⟨tb (in4 (List.mem_of_getElem? (i := 223) (by decide +kernel))) (by decide +kernel), tb (in4 (List.mem_of_getElem? (i := 224) (by decide +kernel))) (by decide +kernel), tb (in4 (List.mem_of_getElem? (i := 225) (by decide +kernel))) (by decide +kernel), tb (in1 (List.mem_of_getElem? (i := 6) (by decide +kernel))) (by decide +kernel), tb (in4 (List.mem_of_getElem? (i := 226) (by decide +kernel))) (by decide +kernel), ⟨by decide +kernel, by decide +kernel, by decide +kernel⟩⟩
theorem ml_X2_56 : GCV RX2 56 yX2_remembers cX2_remembers 2 (some .boolean) 1 := ⟨tb (in4 (List.mem_of_getElem? (i := 227) (by decide +kernel))) (by decide +kernel), tb (in4 (List.mem_of_getElem? (i := 215) (by decide +kernel))) (by decide +kernel), tb (in4 (List.mem_of_getElem? (i := 216) (by decide +kernel))) (by decide +kernel), tb (in1 (List.mem_of_getElem? (i := 6) (by decide +kernel))) (by decide +kernel), tb (in4 (List.mem_of_getElem? (i := 217) (by decide +kernel))) (by decide +kernel), ⟨by decide +kernel, by decide +kernel, by decide +kernel⟩⟩
theorem ml_X2_61 : GCN RX2 61 yX8_partOfRow "OuterRows" cX8_partOfRow 3 (some .int) 3 := ⟨List.mem_of_getElem? (i := 14) rfl, tb (in4 (List.mem_of_getElem? (i := 0) (by decide +kernel))) (by decide +kernel), tb (in1 (List.mem_of_getElem? (i := 1) (by decide +kernel))) (by decide +kernel), tb (in4 (List.mem_of_getElem? (i := 1) (by decide +kernel))) (by decide +kernel), ⟨by decide +kernel, by decide +kernel, by decide +kernel⟩⟩
theorem ml_L_99 : GCV RL 99 yX8_flips cX8_flips 3 (some .int) 2 := ⟨tb (in4 (List.mem_of_getElem? (i := 230) (by decide +kernel))) (by decide +kernel), tb (in4 (List.mem_of_getElem? (i := 231) (by decide +kernel))) (by decide +kernel), tb (in4 (List.mem_of_getElem? (i := 232) (by decide +kernel))) (by decide +kernel), tb (in1 (List.mem_of_getElem? (i := 1) (by decide +kernel))) (by decide +kernel), tb (in4 (List.mem_of_getElem? (i := 233) (by decide +kernel))) (by decide +kernel), ⟨by decide +kernel, by decide +kernel, by decide +kernel⟩⟩
theorem ml_L_103 : GCV RL 103 yX8_busiest cX8_busiest 1 (some .int) 0 := ⟨tb (in4 (List.mem_of_getElem? (i := 234) (by decide +kernel))) (by decide +kernel), tb (in4 (List.mem_of_getElem? (i := 235) (by decide +kernel))) (by decide +kernel), tb (in4 (List.mem_of_getElem? (i := 236) (by decide +kernel))) (by decide +kernel), tb (in1 (List.mem_of_getElem? (i := 1) (by decide +kernel))) (by decide +kernel), tb (in4 (List.mem_of_getElem? (i := 237) (by decide +kernel))) (by decide +kernel), ⟨by decide +kernel, by decide +kernel, by decide +kernel⟩⟩
theorem ml_X8_208 : GCV RX8 208 yX2_keyOfMost cX2_keyOfMost 3 (some .int) 0 := ⟨tb (in4 (List.mem_of_getElem? (i := 238) (by decide +kernel))) (by decide +kernel), tb (in4 (List.mem_of_getElem? (i := 239) (by decide +kernel))) (by decide +kernel), tb (in5 (List.mem_of_getElem? (i := 0) (by decide +kernel))) (by decide +kernel), tb (in1 (List.mem_of_getElem? (i := 6) (by decide +kernel))) (by decide +kernel), tb (in5 (List.mem_of_getElem? (i := 1) (by decide +kernel))) (by decide +kernel), ⟨by decide +kernel, by decide +kernel, by decide +kernel⟩⟩
theorem ml_L_107 : GCV RL 107 yX8_dearest cX8_dearest 1 (some .int) 0 := ⟨tb (in5 (List.mem_of_getElem? (i := 2) (by decide +kernel))) (by decide +kernel), tb (in5 (List.mem_of_getElem? (i := 3) (by decide +kernel))) (by decide +kernel), tb (in5 (List.mem_of_getElem? (i := 4) (by decide +kernel))) (by decide +kernel), tb (in1 (List.mem_of_getElem? (i := 1) (by decide +kernel))) (by decide +kernel), tb (in5 (List.mem_of_getElem? (i := 5) (by decide +kernel))) (by decide +kernel), ⟨by decide +kernel, by decide +kernel, by decide +kernel⟩⟩
theorem ml_L_111 : GCV RL 111 yX8_begin cX8_begin 2 (some .int) 1 := ⟨tb (in5 (List.mem_of_getElem? (i := 6) (by decide +kernel))) (by decide +kernel), tb (in5 (List.mem_of_getElem? (i := 7) (by decide +kernel))) (by decide +kernel), tb (in5 (List.mem_of_getElem? (i := 8) (by decide +kernel))) (by decide +kernel), tb (in1 (List.mem_of_getElem? (i := 1) (by decide +kernel))) (by decide +kernel), tb (in5 (List.mem_of_getElem? (i := 9) (by decide +kernel))) (by decide +kernel), ⟨by decide +kernel, by decide +kernel, by decide +kernel⟩⟩
theorem ml_X8_220 : GCV RX8 220 yX5_start cX5_start 4 none 2 := ⟨tb (in5 (List.mem_of_getElem? (i := 10) (by decide +kernel))) (by decide +kernel), tb (in5 (List.mem_of_getElem? (i := 11) (by decide +kernel))) (by decide +kernel), tb (in5 (List.mem_of_getElem? (i := 12) (by decide +kernel))) (by decide +kernel), tb (in1 (List.mem_of_getElem? (i := 10) (by decide +kernel))) (by decide +kernel), tb (in5 (List.mem_of_getElem? (i := 13) (by decide +kernel))) (by decide +kernel), ⟨by decide +kernel, by decide +kernel, by decide +kernel⟩⟩
theorem ml_X5_21 : GCV RX5 21 yX5_catchUp cX5_catchUp 5 none 2 := ⟨tb (in5 (List.mem_of_getElem? (i := 14) (by decide +kernel))) (by decide +kernel), tb (in5 (List.mem_of_getElem? (i := 15) (by decide +kernel))) (by decide +kernel), tb (in5 (List.mem_of_getElem? (i := 16) (by decide +kernel))) (by decide +kernel), tb (in1 (List.mem_of_getElem? (i := 10) (by decide +kernel))) (by decide +kernel), tb (in5 (List.mem_of_getElem? (i := 17) (by decide +kernel))) (by decide +kernel), ⟨by decide +kernel, by decide +kernel, by decide +kernel⟩⟩
theorem ml_L_115 : GCV RL 115 yX8_pull cX8_pull 2 (some .int) 1 := ⟨tb (in5 (List.mem_of_getElem? (i := 18) (by decide +kernel))) (by decide +kernel), tb (in5 (List.mem_of_getElem? (i := 19) (by decide +kernel))) (by decide +kernel), tb (in5 (List.mem_of_getElem? (i := 20) (by decide +kernel))) (by decide +kernel), tb (in1 (List.mem_of_getElem? (i := 1) (by decide +kernel))) (by decide +kernel), tb (in5 (List.mem_of_getElem? (i := 21) (by decide +kernel))) (by decide +kernel), ⟨by decide +kernel, by decide +kernel, by decide +kernel⟩⟩
theorem ml_X8_224 : GCV RX8 224 yX8_isSubscribed cX8_isSubscribed 2 (some .boolean) 1 := ⟨tb (in5 (List.mem_of_getElem? (i := 22) (by decide +kernel))) (by decide +kernel), tb (in5 (List.mem_of_getElem? (i := 24) (by decide +kernel))) (by decide +kernel), tb (inS (List.mem_of_getElem? (i := 28) (by decide +kernel))) (by decide +kernel), tb (in1 (List.mem_of_getElem? (i := 1) (by decide +kernel))) (by decide +kernel), tb (in5 (List.mem_of_getElem? (i := 25) (by decide +kernel))) (by decide +kernel), ⟨by decide +kernel, by decide +kernel, by decide +kernel⟩⟩
theorem ml_X8_334 : GCV RX8 334 yX5_hasBegun cX5_hasBegun 2 (some .boolean) 1 := ⟨tb (in5 (List.mem_of_getElem? (i := 26) (by decide +kernel))) (by decide +kernel), tb (in5 (List.mem_of_getElem? (i := 27) (by decide +kernel))) (by decide +kernel), tb (in5 (List.mem_of_getElem? (i := 28) (by decide +kernel))) (by decide +kernel), tb (in1 (List.mem_of_getElem? (i := 10) (by decide +kernel))) (by decide +kernel), tb (in5 (List.mem_of_getElem? (i := 29) (by decide +kernel))) (by decide +kernel), ⟨by decide +kernel, by decide +kernel, by decide +kernel⟩⟩
theorem ml_X8_227 : GCV RX8 227 yX5_catchUp cX5_catchUp 5 none 2 := ⟨tb (in5 (List.mem_of_getElem? (i := 30) (by decide +kernel))) (by decide +kernel), tb (in5 (List.mem_of_getElem? (i := 15) (by decide +kernel))) (by decide +kernel), tb (in5 (List.mem_of_getElem? (i := 16) (by decide +kernel))) (by decide +kernel), tb (in1 (List.mem_of_getElem? (i := 10) (by decide +kernel))) (by decide +kernel), tb (in5 (List.mem_of_getElem? (i := 17) (by decide +kernel))) (by decide +kernel), ⟨by decide +kernel, by decide +kernel, by decide +kernel⟩⟩
theorem ml_L_119 : GCV RL 119 yX8_pulled cX8_pulled 6 (some .int) 3 := ⟨tb (in5 (List.mem_of_getElem? (i := 31) (by decide +kernel))) (by decide +kernel), tb (in5 (List.mem_of_getElem? (i := 32) (by decide +kernel))) (by decide +kernel), tb (in5 (List.mem_of_getElem? (i := 33) (by decide +kernel))) (by decide +kernel), tb (in1 (List.mem_of_getElem? (i := 1) (by decide +kernel))) (by decide +kernel), tb (in5 (List.mem_of_getElem? (i := 34) (by decide +kernel))) (by decide +kernel), ⟨by decide +kernel, by decide +kernel, by decide +kernel⟩⟩
theorem ml_L_123 : GCV RL 123 yX8_held cX8_held 5 (some .int) 4 := ⟨tb (in5 (List.mem_of_getElem? (i := 35) (by decide +kernel))) (by decide +kernel), tb (in5 (List.mem_of_getElem? (i := 36) (by decide +kernel))) (by decide +kernel), tb (in5 (List.mem_of_getElem? (i := 37) (by decide +kernel))) (by decide +kernel), tb (in1 (List.mem_of_getElem? (i := 1) (by decide +kernel))) (by decide +kernel), tb (in5 (List.mem_of_getElem? (i := 38) (by decide +kernel))) (by decide +kernel), ⟨by decide +kernel, by decide +kernel, by decide +kernel⟩⟩
theorem ml_L_128 : GCV RL 128 yX8_lag cX8_lag 3 (some .int) 2 := ⟨tb (in5 (List.mem_of_getElem? (i := 39) (by decide +kernel))) (by decide +kernel), tb (in5 (List.mem_of_getElem? (i := 40) (by decide +kernel))) (by decide +kernel), tb (in5 (List.mem_of_getElem? (i := 41) (by decide +kernel))) (by decide +kernel), tb (in1 (List.mem_of_getElem? (i := 1) (by decide +kernel))) (by decide +kernel), tb (in5 (List.mem_of_getElem? (i := 42) (by decide +kernel))) (by decide +kernel), ⟨by decide +kernel, by decide +kernel, by decide +kernel⟩⟩
theorem ml_X8_236 : GCV RX8 236 yX5_told cX5_told 5 (some .int) 3 := ⟨tb (in5 (List.mem_of_getElem? (i := 43) (by decide +kernel))) (by decide +kernel), tb (in5 (List.mem_of_getElem? (i := 44) (by decide +kernel))) (by decide +kernel), tb (in5 (List.mem_of_getElem? (i := 45) (by decide +kernel))) (by decide +kernel), tb (in1 (List.mem_of_getElem? (i := 10) (by decide +kernel))) (by decide +kernel), tb (in5 (List.mem_of_getElem? (i := 46) (by decide +kernel))) (by decide +kernel), ⟨by decide +kernel, by decide +kernel, by decide +kernel⟩⟩
theorem ml_X5_40 : GCV RX5 40 yX2_remembered cX2_remembered 1 (some .int) 0 := ⟨tb (in5 (List.mem_of_getElem? (i := 47) (by decide +kernel))) (by decide +kernel), tb (in4 (List.mem_of_getElem? (i := 219) (by decide +kernel))) (by decide +kernel), tb (in4 (List.mem_of_getElem? (i := 220) (by decide +kernel))) (by decide +kernel), tb (in1 (List.mem_of_getElem? (i := 6) (by decide +kernel))) (by decide +kernel), tb (in4 (List.mem_of_getElem? (i := 221) (by decide +kernel))) (by decide +kernel), ⟨by decide +kernel, by decide +kernel, by decide +kernel⟩⟩
theorem ml_X5_44 : GCV RX5 44 yX5_countOtherwise cX5_countOtherwise 5 (some .int) 2 := ⟨tb (in5 (List.mem_of_getElem? (i := 48) (by decide +kernel))) (by decide +kernel), tb (in5 (List.mem_of_getElem? (i := 50) (by decide +kernel))) (by decide +kernel), tb (inS (List.mem_of_getElem? (i := 29) (by decide +kernel))) (by decide +kernel), tb (in1 (List.mem_of_getElem? (i := 10) (by decide +kernel))) (by decide +kernel), tb (in5 (List.mem_of_getElem? (i := 51) (by decide +kernel))) (by decide +kernel), ⟨by decide +kernel, by decide +kernel, by decide +kernel⟩⟩
theorem ml_X5_48 : GCN RX5 48 yX8_countFilled "OuterRows" cX8_countFilled 4 (some .int) 2 := ⟨List.mem_of_getElem? (i := 15) rfl, tb (in3 (List.mem_of_getElem? (i := 230) (by decide +kernel))) (by decide +kernel), tb (in1 (List.mem_of_getElem? (i := 1) (by decide +kernel))) (by decide +kernel), tb (in3 (List.mem_of_getElem? (i := 231) (by decide +kernel))) (by decide +kernel), ⟨by decide +kernel, by decide +kernel, by decide +kernel⟩⟩
theorem ml_L_132 : GCV RL 132 yX8_would cX8_would 7 (some .int) 5 := ⟨tb (in5 (List.mem_of_getElem? (i := 53) (by decide +kernel))) (by decide +kernel), tb (in5 (List.mem_of_getElem? (i := 54) (by decide +kernel))) (by decide +kernel), tb (in5 (List.mem_of_getElem? (i := 55) (by decide +kernel))) (by decide +kernel), tb (in1 (List.mem_of_getElem? (i := 1) (by decide +kernel))) (by decide +kernel), tb (in5 (List.mem_of_getElem? (i := 56) (by decide +kernel))) (by decide +kernel), ⟨by decide +kernel, by decide +kernel, by decide +kernel⟩⟩
theorem ml_X8_239 : GCV RX8 239 yX8_refusalOfEvent cX8_refusalOfEvent 6 (some .int) 5 := ⟨tb (in5 (List.mem_of_getElem? (i := 57) (by decide +kernel))) (by decide +kernel), tb (in5 (List.mem_of_getElem? (i := 59) (by decide +kernel))) (by decide +kernel), tb (inS (List.mem_of_getElem? (i := 30) (by decide +kernel))) (by decide +kernel), tb (in1 (List.mem_of_getElem? (i := 1) (by decide +kernel))) (by decide +kernel), tb (in5 (List.mem_of_getElem? (i := 60) (by decide +kernel))) (by decide +kernel), ⟨by decide +kernel, by decide +kernel, by decide +kernel⟩⟩
theorem ml_X8_303 : GCS RX8 303 yX8_isTime cX8_isTime 1 (some .boolean) 1 := ⟨tb (in5 (List.mem_of_getElem? (i := 61) (by decide +kernel))) (by decide +kernel), tb (in5 (List.mem_of_getElem? (i := 62) (by decide +kernel))) (by decide +kernel), tb (in1 (List.mem_of_getElem? (i := 1) (by decide +kernel))) (by decide +kernel), tb (in5 (List.mem_of_getElem? (i := 63) (by decide +kernel))) (by decide +kernel), ⟨by decide +kernel, by decide +kernel, by decide +kernel⟩⟩
theorem ml_X8_243 : GCV RX8 243 yX1_isTooLate cX1_isTooLate 2 (some .boolean) 1 := ⟨tb (in5 (List.mem_of_getElem? (i := 64) (by decide +kernel))) (by decide +kernel), tb (in3 (List.mem_of_getElem? (i := 67) (by decide +kernel))) (by decide +kernel), tb (in3 (List.mem_of_getElem? (i := 68) (by decide +kernel))) (by decide +kernel), tb (in1 (List.mem_of_getElem? (i := 8) (by decide +kernel))) (by decide +kernel), tb (in3 (List.mem_of_getElem? (i := 69) (by decide +kernel))) (by decide +kernel), ⟨by decide +kernel, by decide +kernel, by decide +kernel⟩⟩
theorem ml_X8_247 : GCV RX8 247 yX0_clear cX0_clear 2 none 1 := ⟨tb (in5 (List.mem_of_getElem? (i := 65) (by decide +kernel))) (by decide +kernel), tb (in3 (List.mem_of_getElem? (i := 8) (by decide +kernel))) (by decide +kernel), tb (in3 (List.mem_of_getElem? (i := 9) (by decide +kernel))) (by decide +kernel), tb (in1 (List.mem_of_getElem? (i := 5) (by decide +kernel))) (by decide +kernel), tb (in3 (List.mem_of_getElem? (i := 10) (by decide +kernel))) (by decide +kernel), ⟨by decide +kernel, by decide +kernel, by decide +kernel⟩⟩
theorem ml_X8_257 : GCV RX8 257 yX1_lapsesAt cX1_lapsesAt 3 (some .boolean) 2 := ⟨tb (in5 (List.mem_of_getElem? (i := 67) (by decide +kernel))) (by decide +kernel), tb (in3 (List.mem_of_getElem? (i := 44) (by decide +kernel))) (by decide +kernel), tb (in3 (List.mem_of_getElem? (i := 45) (by decide +kernel))) (by decide +kernel), tb (in1 (List.mem_of_getElem? (i := 8) (by decide +kernel))) (by decide +kernel), tb (in3 (List.mem_of_getElem? (i := 46) (by decide +kernel))) (by decide +kernel), ⟨by decide +kernel, by decide +kernel, by decide +kernel⟩⟩
theorem ml_X8_261 : GCV RX8 261 yX0_takeKeyFrom cX0_takeKeyFrom 5 none 2 := ⟨tb (in5 (List.mem_of_getElem? (i := 68) (by decide +kernel))) (by decide +kernel), tb (in5 (List.mem_of_getElem? (i := 69) (by decide +kernel))) (by decide +kernel), tb (in5 (List.mem_of_getElem? (i := 70) (by decide +kernel))) (by decide +kernel), tb (in1 (List.mem_of_getElem? (i := 5) (by decide +kernel))) (by decide +kernel), tb (in5 (List.mem_of_getElem? (i := 71) (by decide +kernel))) (by decide +kernel), ⟨by decide +kernel, by decide +kernel, by decide +kernel⟩⟩
theorem ml_X0_67 : GCV RX0 67 yX0_netOf cX0_netOf 4 (some .int) 3 := ⟨tb (in5 (List.mem_of_getElem? (i := 72) (by decide +kernel))) (by decide +kernel), tb (in3 (List.mem_of_getElem? (i := 173) (by decide +kernel))) (by decide +kernel), tb (in3 (List.mem_of_getElem? (i := 174) (by decide +kernel))) (by decide +kernel), tb (in1 (List.mem_of_getElem? (i := 5) (by decide +kernel))) (by decide +kernel), tb (in3 (List.mem_of_getElem? (i := 175) (by decide +kernel))) (by decide +kernel), ⟨by decide +kernel, by decide +kernel, by decide +kernel⟩⟩
theorem ml_X8_265 : GCV RX8 265 yX0_change cX0_change 10 none 4 := ⟨tb (in5 (List.mem_of_getElem? (i := 73) (by decide +kernel))) (by decide +kernel), tb (in3 (List.mem_of_getElem? (i := 76) (by decide +kernel))) (by decide +kernel), tb (in3 (List.mem_of_getElem? (i := 77) (by decide +kernel))) (by decide +kernel), tb (in1 (List.mem_of_getElem? (i := 5) (by decide +kernel))) (by decide +kernel), tb (in3 (List.mem_of_getElem? (i := 78) (by decide +kernel))) (by decide +kernel), ⟨by decide +kernel, by decide +kernel, by decide +kernel⟩⟩
theorem ml_L_136 : GCV RL 136 yX8_nextLapse cX8_nextLapse 1 (some .int) 0 := ⟨tb (in5 (List.mem_of_getElem? (i := 74) (by decide +kernel))) (by decide +kernel), tb (in5 (List.mem_of_getElem? (i := 75) (by decide +kernel))) (by decide +kernel), tb (in5 (List.mem_of_getElem? (i := 76) (by decide +kernel))) (by decide +kernel), tb (in1 (List.mem_of_getElem? (i := 1) (by decide +kernel))) (by decide +kernel), tb (in5 (List.mem_of_getElem? (i := 77) (by decide +kernel))) (by decide +kernel), ⟨by decide +kernel, by decide +kernel, by decide +kernel⟩⟩
theorem ml_X8_272 : GCV RX8 272 yX1_keyOfNextLapse cX1_keyOfNextLapse 3 (some .int) 0 := ⟨tb (in5 (List.mem_of_getElem? (i := 78) (by decide +kernel))) (by decide +kernel), tb (in5 (List.mem_of_getElem? (i := 79) (by decide +kernel))) (by decide +kernel), tb (in5 (List.mem_of_getElem? (i := 80) (by decide +kernel))) (by decide +kernel), tb (in1 (List.mem_of_getElem? (i := 8) (by decide +kernel))) (by decide +kernel), tb (in5 (List.mem_of_getElem? (i := 81) (by decide +kernel))) (by decide +kernel), ⟨by decide +kernel, by decide +kernel, by decide +kernel⟩⟩
theorem ml_L_140 : GCV RL 140 yX8_replay cX8_replay 3 (some .int) 2 := ⟨tb (in5 (List.mem_of_getElem? (i := 82) (by decide +kernel))) (by decide +kernel), tb (in5 (List.mem_of_getElem? (i := 83) (by decide +kernel))) (by decide +kernel), tb (in5 (List.mem_of_getElem? (i := 84) (by decide +kernel))) (by decide +kernel), tb (in1 (List.mem_of_getElem? (i := 1) (by decide +kernel))) (by decide +kernel), tb (in5 (List.mem_of_getElem? (i := 85) (by decide +kernel))) (by decide +kernel), ⟨by decide +kernel, by decide +kernel, by decide +kernel⟩⟩
theorem ml_X8_276 : GCV RX8 276 yX8_orderAsStored cX8_orderAsStored 2 none 0 := ⟨tb (in5 (List.mem_of_getElem? (i := 87) (by decide +kernel))) (by decide +kernel), tb (in5 (List.mem_of_getElem? (i := 89) (by decide +kernel))) (by decide +kernel), tb (inS (List.mem_of_getElem? (i := 31) (by decide +kernel))) (by decide +kernel), tb (in1 (List.mem_of_getElem? (i := 1) (by decide +kernel))) (by decide +kernel), tb (in5 (List.mem_of_getElem? (i := 90) (by decide +kernel))) (by decide +kernel), ⟨by decide +kernel, by decide +kernel, by decide +kernel⟩⟩
theorem ml_X8_286 : GCV RX8 286 yX8_mix cX8_mix 7 none 2 := ⟨tb (in5 (List.mem_of_getElem? (i := 91) (by decide +kernel))) (by decide +kernel), tb (in5 (List.mem_of_getElem? (i := 93) (by decide +kernel))) (by decide +kernel), tb (inS (List.mem_of_getElem? (i := 32) (by decide +kernel))) (by decide +kernel), tb (in1 (List.mem_of_getElem? (i := 1) (by decide +kernel))) (by decide +kernel), tb (in5 (List.mem_of_getElem? (i := 94) (by decide +kernel))) (by decide +kernel), ⟨by decide +kernel, by decide +kernel, by decide +kernel⟩⟩
theorem ml_X8_290 : GCV RX8 290 yX8_tryStore cX8_tryStore 5 none 2 := ⟨tb (in5 (List.mem_of_getElem? (i := 96) (by decide +kernel))) (by decide +kernel), tb (in5 (List.mem_of_getElem? (i := 98) (by decide +kernel))) (by decide +kernel), tb (inS (List.mem_of_getElem? (i := 33) (by decide +kernel))) (by decide +kernel), tb (in1 (List.mem_of_getElem? (i := 1) (by decide +kernel))) (by decide +kernel), tb (in5 (List.mem_of_getElem? (i := 99) (by decide +kernel))) (by decide +kernel), ⟨by decide +kernel, by decide +kernel, by decide +kernel⟩⟩
theorem ml_X8_294 : GCV RX8 294 yX0_sumOfAll cX0_sumOfAll 3 (some .int) 0 := ⟨tb (in5 (List.mem_of_getElem? (i := 100) (by decide +kernel))) (by decide +kernel), tb (in5 (List.mem_of_getElem? (i := 101) (by decide +kernel))) (by decide +kernel), tb (in5 (List.mem_of_getElem? (i := 102) (by decide +kernel))) (by decide +kernel), tb (in1 (List.mem_of_getElem? (i := 5) (by decide +kernel))) (by decide +kernel), tb (in5 (List.mem_of_getElem? (i := 103) (by decide +kernel))) (by decide +kernel), ⟨by decide +kernel, by decide +kernel, by decide +kernel⟩⟩
theorem ml_L_144 : GCV RL 144 yX8_cost cX8_cost 2 (some .int) 1 := ⟨tb (in5 (List.mem_of_getElem? (i := 104) (by decide +kernel))) (by decide +kernel), tb (in5 (List.mem_of_getElem? (i := 105) (by decide +kernel))) (by decide +kernel), tb (in5 (List.mem_of_getElem? (i := 106) (by decide +kernel))) (by decide +kernel), tb (in1 (List.mem_of_getElem? (i := 1) (by decide +kernel))) (by decide +kernel), tb (in5 (List.mem_of_getElem? (i := 107) (by decide +kernel))) (by decide +kernel), ⟨by decide +kernel, by decide +kernel, by decide +kernel⟩⟩
theorem ml_X8_297 : GCS RX8 297 yX8_isHow cX8_isHow 1 (some .boolean) 1 := ⟨tb (in5 (List.mem_of_getElem? (i := 108) (by decide +kernel))) (by decide +kernel), tb (in5 (List.mem_of_getElem? (i := 109) (by decide +kernel))) (by decide +kernel), tb (in1 (List.mem_of_getElem? (i := 1) (by decide +kernel))) (by decide +kernel), tb (in5 (List.mem_of_getElem? (i := 110) (by decide +kernel))) (by decide +kernel), ⟨by decide +kernel, by decide +kernel, by decide +kernel⟩⟩
theorem ml_L_148 : GCV RL 148 yX8_event cX8_event 7 (some .int) 5 := ⟨tb (in5 (List.mem_of_getElem? (i := 111) (by decide +kernel))) (by decide +kernel), tb (in5 (List.mem_of_getElem? (i := 112) (by decide +kernel))) (by decide +kernel), tb (in5 (List.mem_of_getElem? (i := 113) (by decide +kernel))) (by decide +kernel), tb (in1 (List.mem_of_getElem? (i := 1) (by decide +kernel))) (by decide +kernel), tb (in5 (List.mem_of_getElem? (i := 114) (by decide +kernel))) (by decide +kernel), ⟨by decide +kernel, by decide +kernel, by decide +kernel⟩⟩
theorem ml_L_152 : GCV RL 152 yX8_tick cX8_tick 2 (some .int) 1 := ⟨tb (in5 (List.mem_of_getElem? (i := 115) (by decide +kernel))) (by decide +kernel), tb (in5 (List.mem_of_getElem? (i := 116) (by decide +kernel))) (by decide +kernel), tb (in5 (List.mem_of_getElem? (i := 117) (by decide +kernel))) (by decide +kernel), tb (in1 (List.mem_of_getElem? (i := 1) (by decide +kernel))) (by decide +kernel), tb (in5 (List.mem_of_getElem? (i := 118) (by decide +kernel))) (by decide +kernel), ⟨by decide +kernel, by decide +kernel, by decide +kernel⟩⟩
theorem ml_L_156 : GCV RL 156 yX8_how cX8_how 2 (some .int) 1 := ⟨tb (in5 (List.mem_of_getElem? (i := 119) (by decide +kernel))) (by decide +kernel), tb (in5 (List.mem_of_getElem? (i := 120) (by decide +kernel))) (by decide +kernel), tb (in5 (List.mem_of_getElem? (i := 121) (by decide +kernel))) (by decide +kernel), tb (in1 (List.mem_of_getElem? (i := 1) (by decide +kernel))) (by decide +kernel), tb (in5 (List.mem_of_getElem? (i := 122) (by decide +kernel))) (by decide +kernel), ⟨by decide +kernel, by decide +kernel, by decide +kernel⟩⟩
theorem ml_X8_309 : GCV RX8 309 yX1_exchange cX1_exchange 3 (some .int) 1 := ⟨tb (in5 (List.mem_of_getElem? (i := 123) (by decide +kernel))) (by decide +kernel), tb (in5 (List.mem_of_getElem? (i := 124) (by decide +kernel))) (by decide +kernel), tb (in5 (List.mem_of_getElem? (i := 125) (by decide +kernel))) (by decide +kernel), tb (in1 (List.mem_of_getElem? (i := 8) (by decide +kernel))) (by decide +kernel), tb (in5 (List.mem_of_getElem? (i := 126) (by decide +kernel))) (by decide +kernel), ⟨by decide +kernel, by decide +kernel, by decide +kernel⟩⟩
theorem ml_X1_143 : GCV RX1 143 yX0_exchangeOuters cX0_exchangeOuters 4 none 2 := ⟨tb (in5 (List.mem_of_getElem? (i := 127) (by decide +kernel))) (by decide +kernel), tb (in5 (List.mem_of_getElem? (i := 128) (by decide +kernel))) (by decide +kernel), tb (in5 (List.mem_of_getElem? (i := 129) (by decide +kernel))) (by decide +kernel), tb (in1 (List.mem_of_getElem? (i := 5) (by decide +kernel))) (by decide +kernel), tb (in5 (List.mem_of_getElem? (i := 130) (by decide +kernel))) (by decide +kernel), ⟨by decide +kernel, by decide +kernel, by decide +kernel⟩⟩
theorem ml_L_160 : GCV RL 160 yX8_bounds cX8_bounds 3 (some .boolean) 2 := ⟨tb (in5 (List.mem_of_getElem? (i := 131) (by decide +kernel))) (by decide +kernel), tb (in5 (List.mem_of_getElem? (i := 132) (by decide +kernel))) (by decide +kernel), tb (in5 (List.mem_of_getElem? (i := 133) (by decide +kernel))) (by decide +kernel), tb (in1 (List.mem_of_getElem? (i := 1) (by decide +kernel))) (by decide +kernel), tb (in5 (List.mem_of_getElem? (i := 134) (by decide +kernel))) (by decide +kernel), ⟨by decide +kernel, by decide +kernel, by decide +kernel⟩⟩
theorem ml_L_165 : GCV RL 165 yX8_keep cX8_keep 1 (some .boolean) 0 := ⟨tb (in5 (List.mem_of_getElem? (i := 135) (by decide +kernel))) (by decide +kernel), tb (in5 (List.mem_of_getElem? (i := 136) (by decide +kernel))) (by decide +kernel), tb (in5 (List.mem_of_getElem? (i := 137) (by decide +kernel))) (by decide +kernel), tb (in1 (List.mem_of_getElem? (i := 1) (by decide +kernel))) (by decide +kernel), tb (in5 (List.mem_of_getElem? (i := 138) (by decide +kernel))) (by decide +kernel), ⟨by decide +kernel, by decide +kernel, by decide +kernel⟩⟩
theorem ml_X8_314 : GCV RX8 314 yX1_copyFrom cX1_copyFrom 2 none 1 := ⟨tb (in5 (List.mem_of_getElem? (i := 139) (by decide +kernel))) (by decide +kernel), tb (in5 (List.mem_of_getElem? (i := 140) (by decide +kernel))) (by decide +kernel), tb (in5 (List.mem_of_getElem? (i := 141) (by decide +kernel))) (by decide +kernel), tb (in1 (List.mem_of_getElem? (i := 8) (by decide +kernel))) (by decide +kernel), tb (in5 (List.mem_of_getElem? (i := 142) (by decide +kernel))) (by decide +kernel), ⟨by decide +kernel, by decide +kernel, by decide +kernel⟩⟩
theorem ml_X1_81 : GCV RX1 81 yX7_copyFrom cX7_copyFrom 2 none 1 := ⟨tb (in5 (List.mem_of_getElem? (i := 143) (by decide +kernel))) (by decide +kernel), tb (in3 (List.mem_of_getElem? (i := 30) (by decide +kernel))) (by decide +kernel), tb (in3 (List.mem_of_getElem? (i := 31) (by decide +kernel))) (by decide +kernel), tb (in1 (List.mem_of_getElem? (i := 4) (by decide +kernel))) (by decide +kernel), tb (in3 (List.mem_of_getElem? (i := 32) (by decide +kernel))) (by decide +kernel), ⟨by decide +kernel, by decide +kernel, by decide +kernel⟩⟩
theorem ml_X1_85 : GCV RX1 85 yX0_copyFrom cX0_copyFrom 2 none 1 := ⟨tb (in5 (List.mem_of_getElem? (i := 144) (by decide +kernel))) (by decide +kernel), tb (in5 (List.mem_of_getElem? (i := 145) (by decide +kernel))) (by decide +kernel), tb (in5 (List.mem_of_getElem? (i := 146) (by decide +kernel))) (by decide +kernel), tb (in1 (List.mem_of_getElem? (i := 5) (by decide +kernel))) (by decide +kernel), tb (in5 (List.mem_of_getElem? (i := 147) (by decide +kernel))) (by decide +kernel), ⟨by decide +kernel, by decide +kernel, by decide +kernel⟩⟩
theorem ml_X0_85 : GCV RX0 85 yX2_copyFrom cX2_copyFrom 2 none 1 := ⟨tb (in5 (List.mem_of_getElem? (i := 149) (by decide +kernel))) (by decide +kernel), tb (in5 (List.mem_of_getElem? (i := 150) (by decide +kernel))) (by decide +kernel), tb (in5 (List.mem_of_getElem? (i := 151) (by decide +kernel))) (by decide +kernel), tb (in1 (List.mem_of_getElem? (i := 6) (by decide +kernel))) (by decide +kernel), tb (in5 (List.mem_of_getElem? (i := 152) (by decide +kernel))) (by decide +kernel), ⟨by decide +kernel, by decide +kernel, by decide +kernel⟩⟩
theorem ml_X1_88 : GCV RX1 88 yX4_copyFrom cX4_copyFrom 2 none 1 := ⟨tb (in5 (List.mem_of_getElem? (i := 154) (by decide +kernel))) (by decide +kernel), tb (in5 (List.mem_of_getElem? (i := 155) (by decide +kernel))) (by decide +kernel), tb (in5 (List.mem_of_getElem? (i := 156) (by decide +kernel))) (by decide +kernel), tb (in1 (List.mem_of_getElem? (i := 9) (by decide +kernel))) (by decide +kernel), tb (in5 (List.mem_of_getElem? (i := 157) (by decide +kernel))) (by decide +kernel), ⟨by decide +kernel, by decide +kernel, by decide +kernel⟩⟩
theorem ml_X1_91 : GCV RX1 91 yX5_copyFrom cX5_copyFrom 2 none 1 := ⟨tb (in5 (List.mem_of_getElem? (i := 159) (by decide +kernel))) (by decide +kernel), tb (in5 (List.mem_of_getElem? (i := 160) (by decide +kernel))) (by decide +kernel), tb (in5 (List.mem_of_getElem? (i := 161) (by decide +kernel))) (by decide +kernel), tb (in1 (List.mem_of_getElem? (i := 10) (by decide +kernel))) (by decide +kernel), tb (in5 (List.mem_of_getElem? (i := 162) (by decide +kernel))) (by decide +kernel), ⟨by decide +kernel, by decide +kernel, by decide +kernel⟩⟩
theorem ml_L_170 : GCV RL 170 yX8_back cX8_back 1 (some .boolean) 0 := ⟨tb (in5 (List.mem_of_getElem? (i := 165) (by decide +kernel))) (by decide +kernel), tb (in5 (List.mem_of_getElem? (i := 166) (by decide +kernel))) (by decide +kernel), tb (in5 (List.mem_of_getElem? (i := 167) (by decide +kernel))) (by decide +kernel), tb (in1 (List.mem_of_getElem? (i := 1) (by decide +kernel))) (by decide +kernel), tb (in5 (List.mem_of_getElem? (i := 168) (by decide +kernel))) (by decide +kernel), ⟨by decide +kernel, by decide +kernel, by decide +kernel⟩⟩
theorem ml_L_183 : GCV RL 183 yX8_size cX8_size 2 (some .int) 1 := ⟨tb (in5 (List.mem_of_getElem? (i := 169) (by decide +kernel))) (by decide +kernel), tb (in5 (List.mem_of_getElem? (i := 170) (by decide +kernel))) (by decide +kernel), tb (in5 (List.mem_of_getElem? (i := 171) (by decide +kernel))) (by decide +kernel), tb (in1 (List.mem_of_getElem? (i := 1) (by decide +kernel))) (by decide +kernel), tb (in5 (List.mem_of_getElem? (i := 172) (by decide +kernel))) (by decide +kernel), ⟨by decide +kernel, by decide +kernel, by decide +kernel⟩⟩
theorem ml_X8_328 : GCV RX8 328 yX2_remembered cX2_remembered 1 (some .int) 0 := ⟨tb (in5 (List.mem_of_getElem? (i := 173) (by decide +kernel))) (by decide +kernel), tb (in4 (List.mem_of_getElem? (i := 219) (by decide +kernel))) (by decide +kernel), tb (in4 (List.mem_of_getElem? (i := 220) (by decide +kernel))) (by decide +kernel), tb (in1 (List.mem_of_getElem? (i := 6) (by decide +kernel))) (by decide +kernel), tb (in4 (List.mem_of_getElem? (i := 221) (by decide +kernel))) (by decide +kernel), ⟨by decide +kernel, by decide +kernel, by decide +kernel⟩⟩
theorem ml_X8_331 : GCV RX8 331 yX5_countBegun cX5_countBegun 3 (some .int) 0 := ⟨tb (in5 (List.mem_of_getElem? (i := 174) (by decide +kernel))) (by decide +kernel), tb (in5 (List.mem_of_getElem? (i := 175) (by decide +kernel))) (by decide +kernel), tb (in5 (List.mem_of_getElem? (i := 176) (by decide +kernel))) (by decide +kernel), tb (in1 (List.mem_of_getElem? (i := 10) (by decide +kernel))) (by decide +kernel), tb (in5 (List.mem_of_getElem? (i := 177) (by decide +kernel))) (by decide +kernel), ⟨by decide +kernel, by decide +kernel, by decide +kernel⟩⟩
theorem ml_X5_52 : GCV RX5 52 yX5_hasBegun cX5_hasBegun 2 (some .boolean) 1 := ⟨tb (in5 (List.mem_of_getElem? (i := 178) (by decide +kernel))) (by decide +kernel), tb (in5 (List.mem_of_getElem? (i := 27) (by decide +kernel))) (by decide +kernel), tb (in5 (List.mem_of_getElem? (i := 28) (by decide +kernel))) (by decide +kernel), tb (in1 (List.mem_of_getElem? (i := 10) (by decide +kernel))) (by decide +kernel), tb (in5 (List.mem_of_getElem? (i := 29) (by decide +kernel))) (by decide +kernel), ⟨by decide +kernel, by decide +kernel, by decide +kernel⟩⟩
theorem ml_L_187 : GCV RL 187 yX8_trouble cX8_trouble 1 (some .int) 0 := ⟨tb (in5 (List.mem_of_getElem? (i := 179) (by decide +kernel))) (by decide +kernel), tb (in5 (List.mem_of_getElem? (i := 180) (by decide +kernel))) (by decide +kernel), tb (in5 (List.mem_of_getElem? (i := 181) (by decide +kernel))) (by decide +kernel), tb (in1 (List.mem_of_getElem? (i := 1) (by decide +kernel))) (by decide +kernel), tb (in5 (List.mem_of_getElem? (i := 182) (by decide +kernel))) (by decide +kernel), ⟨by decide +kernel, by decide +kernel, by decide +kernel⟩⟩
theorem ml_L_7 : GCV RL 7 yX8_single cX8_single 3 (some .int) 1 := ⟨tb (in5 (List.mem_of_getElem? (i := 187) (by decide +kernel))) (by decide +kernel), tb (in5 (List.mem_of_getElem? (i := 188) (by decide +kernel))) (by decide +kernel), tb (in5 (List.mem_of_getElem? (i := 189) (by decide +kernel))) (by decide +kernel), tb (in1 (List.mem_of_getElem? (i := 1) (by decide +kernel))) (by decide +kernel), tb (in5 (List.mem_of_getElem? (i := 190) (by decide +kernel))) (by decide +kernel), ⟨by decide +kernel, by decide +kernel, by decide +kernel⟩⟩
theorem ml_X8_318 : GCV RX8 318 yX1_lonelyKey cX1_lonelyKey 4 (some .int) 1 := ⟨tb (in5 (List.mem_of_getElem? (i := 191) (by decide +kernel))) (by decide +kernel), tb (in5 (List.mem_of_getElem? (i := 192) (by decide +kernel))) (by decide +kernel), tb (in5 (List.mem_of_getElem? (i := 193) (by decide +kernel))) (by decide +kernel), tb (in1 (List.mem_of_getElem? (i := 8) (by decide +kernel))) (by decide +kernel), tb (in5 (List.mem_of_getElem? (i := 194) (by decide +kernel))) (by decide +kernel), ⟨by decide +kernel, by decide +kernel, by decide +kernel⟩⟩
theorem ml_X1_161 : GCV RX1 161 yX0_has cX0_has 4 (some .boolean) 2 := ⟨tb (in5 (List.mem_of_getElem? (i := 195) (by decide +kernel))) (by decide +kernel), tb (in3 (List.mem_of_getElem? (i := 56) (by decide +kernel))) (by decide +kernel), tb (in3 (List.mem_of_getElem? (i := 57) (by decide +kernel))) (by decide +kernel), tb (in1 (List.mem_of_getElem? (i := 5) (by decide +kernel))) (by decide +kernel), tb (in3 (List.mem_of_getElem? (i := 58) (by decide +kernel))) (by decide +kernel), ⟨by decide +kernel, by decide +kernel, by decide +kernel⟩⟩
theorem ml_L_18 : GCI RL 18 yX9_init cX9_init 1 0 := ⟨tb (in6 (List.mem_of_getElem? (i := 23) (by decide +kernel))) (by decide +kernel), tb (in6 (List.mem_of_getElem? (i := 24) (by decide +kernel))) (by decide +kernel), rfl, tb (in1 (List.mem_of_getElem? (i := 7) (by decide +kernel))) (by decide +kernel), tb (in6 (List.mem_of_getElem? (i := 25) (by decide +kernel))) (by decide +kernel), ⟨by decide +kernel, by decide +kernel, by decide +kernel⟩⟩
theorem ml_L_180 : GCV RL 180 yX9_thrown cX9_thrown 1 (some .int) 0 := ⟨tb (in6 (List.mem_of_getElem? (i := 136) (by decide +kernel))) (by decide +kernel), tb (in6 (List.mem_of_getElem? (i := 137) (by decide +kernel))) (by decide +kernel), tb (in6 (List.mem_of_getElem? (i := 138) (by decide +kernel))) (by decide +kernel), tb (in1 (List.mem_of_getElem? (i := 7) (by decide +kernel))) (by decide +kernel), tb (in6 (List.mem_of_getElem? (i := 139) (by decide +kernel))) (by decide +kernel), ⟨by decide +kernel, by decide +kernel, by decide +kernel⟩⟩
theorem ml_L_23 : GCV RL 23 yX9_feed cX9_feed 8 (some .int) 5 := ⟨tb (in6 (List.mem_of_getElem? (i := 140) (by decide +kernel))) (by decide +kernel), tb (in6 (List.mem_of_getElem? (i := 141) (by decide +kernel))) (by decide +kernel), tb (in6 (List.mem_of_getElem? (i := 142) (by decide +kernel))) (by decide +kernel), tb (in1 (List.mem_of_getElem? (i := 7) (by decide +kernel))) (by decide +kernel), tb (in6 (List.mem_of_getElem? (i := 143) (by decide +kernel))) (by decide +kernel), ⟨by decide +kernel, by decide +kernel, by decide +kernel⟩⟩
theorem ml_L_27 : GCV RL 27 yX9_desk cX9_desk 2 (some .int) 1 := ⟨tb (in6 (List.mem_of_getElem? (i := 144) (by decide +kernel))) (by decide +kernel), tb (in6 (List.mem_of_getElem? (i := 145) (by decide +kernel))) (by decide +kernel), tb (in6 (List.mem_of_getElem? (i := 146) (by decide +kernel))) (by decide +kernel), tb (in1 (List.mem_of_getElem? (i := 7) (by decide +kernel))) (by decide +kernel), tb (in6 (List.mem_of_getElem? (i := 147) (by decide +kernel))) (by decide +kernel), ⟨by decide +kernel, by decide +kernel, by decide +kernel⟩⟩
theorem ml_X9_61 : GCV RX9 61 yX9_refused cX9_refused 2 (some .int) 1 := ⟨tb (in6 (List.mem_of_getElem? (i := 148) (by decide +kernel))) (by decide +kernel), tb (in6 (List.mem_of_getElem? (i := 150) (by decide +kernel))) (by decide +kernel), tb (inS (List.mem_of_getElem? (i := 35) (by decide +kernel))) (by decide +kernel), tb (in1 (List.mem_of_getElem? (i := 7) (by decide +kernel))) (by decide +kernel), tb (in6 (List.mem_of_getElem? (i := 151) (by decide +kernel))) (by decide +kernel), ⟨by decide +kernel, by decide +kernel, by decide +kernel⟩⟩
theorem ml_X9_214 : GCV RX9 214 yX9_reads cX9_reads 5 (some .boolean) 2 := ⟨tb (in6 (List.mem_of_getElem? (i := 152) (by decide +kernel))) (by decide +kernel), tb (in6 (List.mem_of_getElem? (i := 154) (by decide +kernel))) (by decide +kernel), tb (inS (List.mem_of_getElem? (i := 36) (by decide +kernel))) (by decide +kernel), tb (in1 (List.mem_of_getElem? (i := 7) (by decide +kernel))) (by decide +kernel), tb (in6 (List.mem_of_getElem? (i := 155) (by decide +kernel))) (by decide +kernel), ⟨by decide +kernel, by decide +kernel, by decide +kernel⟩⟩
theorem ml_X9_200 : GCV RX9 200 yX9_get cX9_get 3 (some .int) 2 := ⟨tb (in6 (List.mem_of_getElem? (i := 156) (by decide +kernel))) (by decide +kernel), tb (in6 (List.mem_of_getElem? (i := 158) (by decide +kernel))) (by decide +kernel), tb (inS (List.mem_of_getElem? (i := 37) (by decide +kernel))) (by decide +kernel), tb (in1 (List.mem_of_getElem? (i := 7) (by decide +kernel))) (by decide +kernel), tb (in6 (List.mem_of_getElem? (i := 159) (by decide +kernel))) (by decide +kernel), ⟨by decide +kernel, by decide +kernel, by decide +kernel⟩⟩
theorem ml_X9_203 : GCV RX9 203 yX9_readAll cX9_readAll 2 none 1 := ⟨tb (in6 (List.mem_of_getElem? (i := 160) (by decide +kernel))) (by decide +kernel), tb (in6 (List.mem_of_getElem? (i := 162) (by decide +kernel))) (by decide +kernel), tb (inS (List.mem_of_getElem? (i := 38) (by decide +kernel))) (by decide +kernel), tb (in1 (List.mem_of_getElem? (i := 7) (by decide +kernel))) (by decide +kernel), tb (in6 (List.mem_of_getElem? (i := 163) (by decide +kernel))) (by decide +kernel), ⟨by decide +kernel, by decide +kernel, by decide +kernel⟩⟩
theorem ml_X9_125 : GCV RX9 125 yX9_next cX9_next 2 none 0 := ⟨tb (in6 (List.mem_of_getElem? (i := 164) (by decide +kernel))) (by decide +kernel), tb (in6 (List.mem_of_getElem? (i := 166) (by decide +kernel))) (by decide +kernel), tb (inS (List.mem_of_getElem? (i := 39) (by decide +kernel))) (by decide +kernel), tb (in1 (List.mem_of_getElem? (i := 7) (by decide +kernel))) (by decide +kernel), tb (in6 (List.mem_of_getElem? (i := 167) (by decide +kernel))) (by decide +kernel), ⟨by decide +kernel, by decide +kernel, by decide +kernel⟩⟩
theorem ml_X9_81 : GCV RX9 81 yX9_byteAt cX9_byteAt 2 (some .int) 1 := ⟨tb (in6 (List.mem_of_getElem? (i := 168) (by decide +kernel))) (by decide +kernel), tb (in6 (List.mem_of_getElem? (i := 170) (by decide +kernel))) (by decide +kernel), tb (inS (List.mem_of_getElem? (i := 40) (by decide +kernel))) (by decide +kernel), tb (in1 (List.mem_of_getElem? (i := 7) (by decide +kernel))) (by decide +kernel), tb (in6 (List.mem_of_getElem? (i := 171) (by decide +kernel))) (by decide +kernel), ⟨by decide +kernel, by decide +kernel, by decide +kernel⟩⟩
theorem ml_X9_90 : GCS RX9 90 yX9_in cX9_in 3 (some .boolean) 3 := ⟨tb (in6 (List.mem_of_getElem? (i := 172) (by decide +kernel))) (by decide +kernel), tb (in6 (List.mem_of_getElem? (i := 173) (by decide +kernel))) (by decide +kernel), tb (in1 (List.mem_of_getElem? (i := 7) (by decide +kernel))) (by decide +kernel), tb (in6 (List.mem_of_getElem? (i := 174) (by decide +kernel))) (by decide +kernel), ⟨by decide +kernel, by decide +kernel, by decide +kernel⟩⟩
theorem ml_X9_94 : GCV RX9 94 yX9_nextWord cX9_nextWord 1 none 0 := ⟨tb (in6 (List.mem_of_getElem? (i := 175) (by decide +kernel))) (by decide +kernel), tb (in6 (List.mem_of_getElem? (i := 177) (by decide +kernel))) (by decide +kernel), tb (inS (List.mem_of_getElem? (i := 41) (by decide +kernel))) (by decide +kernel), tb (in1 (List.mem_of_getElem? (i := 7) (by decide +kernel))) (by decide +kernel), tb (in6 (List.mem_of_getElem? (i := 178) (by decide +kernel))) (by decide +kernel), ⟨by decide +kernel, by decide +kernel, by decide +kernel⟩⟩
theorem ml_X9_97 : GCV RX9 97 yX9_nextWhole cX9_nextWhole 1 none 0 := ⟨tb (in6 (List.mem_of_getElem? (i := 179) (by decide +kernel))) (by decide +kernel), tb (in6 (List.mem_of_getElem? (i := 181) (by decide +kernel))) (by decide +kernel), tb (inS (List.mem_of_getElem? (i := 42) (by decide +kernel))) (by decide +kernel), tb (in1 (List.mem_of_getElem? (i := 7) (by decide +kernel))) (by decide +kernel), tb (in6 (List.mem_of_getElem? (i := 182) (by decide +kernel))) (by decide +kernel), ⟨by decide +kernel, by decide +kernel, by decide +kernel⟩⟩
theorem ml_X9_135 : GCV RX9 135 yX9_readLine cX9_readLine 1 none 0 := ⟨tb (in6 (List.mem_of_getElem? (i := 183) (by decide +kernel))) (by decide +kernel), tb (in6 (List.mem_of_getElem? (i := 185) (by decide +kernel))) (by decide +kernel), tb (inS (List.mem_of_getElem? (i := 43) (by decide +kernel))) (by decide +kernel), tb (in1 (List.mem_of_getElem? (i := 7) (by decide +kernel))) (by decide +kernel), tb (in6 (List.mem_of_getElem? (i := 186) (by decide +kernel))) (by decide +kernel), ⟨by decide +kernel, by decide +kernel, by decide +kernel⟩⟩
theorem ml_X9_117 : GCV RX9 117 yX9_isWord cX9_isWord 5 (some .boolean) 1 := ⟨tb (in6 (List.mem_of_getElem? (i := 188) (by decide +kernel))) (by decide +kernel), tb (in6 (List.mem_of_getElem? (i := 190) (by decide +kernel))) (by decide +kernel), tb (inS (List.mem_of_getElem? (i := 44) (by decide +kernel))) (by decide +kernel), tb (in1 (List.mem_of_getElem? (i := 7) (by decide +kernel))) (by decide +kernel), tb (in6 (List.mem_of_getElem? (i := 191) (by decide +kernel))) (by decide +kernel), ⟨by decide +kernel, by decide +kernel, by decide +kernel⟩⟩
theorem ml_X9_140 : GCV RX9 140 yX9_readDesk cX9_readDesk 1 none 0 := ⟨tb (in6 (List.mem_of_getElem? (i := 217) (by decide +kernel))) (by decide +kernel), tb (in6 (List.mem_of_getElem? (i := 219) (by decide +kernel))) (by decide +kernel), tb (inS (List.mem_of_getElem? (i := 45) (by decide +kernel))) (by decide +kernel), tb (in1 (List.mem_of_getElem? (i := 7) (by decide +kernel))) (by decide +kernel), tb (in6 (List.mem_of_getElem? (i := 220) (by decide +kernel))) (by decide +kernel), ⟨by decide +kernel, by decide +kernel, by decide +kernel⟩⟩
theorem ml_X9_121 : GCV RX9 121 yX9_flaw cX9_flaw 2 none 1 := ⟨tb (in6 (List.mem_of_getElem? (i := 221) (by decide +kernel))) (by decide +kernel), tb (in6 (List.mem_of_getElem? (i := 223) (by decide +kernel))) (by decide +kernel), tb (inS (List.mem_of_getElem? (i := 46) (by decide +kernel))) (by decide +kernel), tb (in1 (List.mem_of_getElem? (i := 7) (by decide +kernel))) (by decide +kernel), tb (in6 (List.mem_of_getElem? (i := 224) (by decide +kernel))) (by decide +kernel), ⟨by decide +kernel, by decide +kernel, by decide +kernel⟩⟩
theorem ml_X9_168 : GCV RX9 168 yX9_needs cX9_needs 2 none 1 := ⟨tb (in6 (List.mem_of_getElem? (i := 230) (by decide +kernel))) (by decide +kernel), tb (in6 (List.mem_of_getElem? (i := 232) (by decide +kernel))) (by decide +kernel), tb (inS (List.mem_of_getElem? (i := 47) (by decide +kernel))) (by decide +kernel), tb (in1 (List.mem_of_getElem? (i := 7) (by decide +kernel))) (by decide +kernel), tb (in6 (List.mem_of_getElem? (i := 233) (by decide +kernel))) (by decide +kernel), ⟨by decide +kernel, by decide +kernel, by decide +kernel⟩⟩
theorem ml_X9_172 : GCV RX9 172 yX9_readWhole cX9_readWhole 4 (some .int) 2 := ⟨tb (in6 (List.mem_of_getElem? (i := 234) (by decide +kernel))) (by decide +kernel), tb (in6 (List.mem_of_getElem? (i := 236) (by decide +kernel))) (by decide +kernel), tb (inS (List.mem_of_getElem? (i := 48) (by decide +kernel))) (by decide +kernel), tb (in1 (List.mem_of_getElem? (i := 7) (by decide +kernel))) (by decide +kernel), tb (in6 (List.mem_of_getElem? (i := 237) (by decide +kernel))) (by decide +kernel), ⟨by decide +kernel, by decide +kernel, by decide +kernel⟩⟩
theorem ml_X9_145 : GCV RX9 145 yX9_readEvent cX9_readEvent 7 none 1 := ⟨tb (in7 (List.mem_of_getElem? (i := 0) (by decide +kernel))) (by decide +kernel), tb (in7 (List.mem_of_getElem? (i := 2) (by decide +kernel))) (by decide +kernel), tb (inS (List.mem_of_getElem? (i := 49) (by decide +kernel))) (by decide +kernel), tb (in1 (List.mem_of_getElem? (i := 7) (by decide +kernel))) (by decide +kernel), tb (in7 (List.mem_of_getElem? (i := 3) (by decide +kernel))) (by decide +kernel), ⟨by decide +kernel, by decide +kernel, by decide +kernel⟩⟩
theorem ml_X9_187 : GCV RX9 187 yX9_begins_ cX9_begins_ 1 none 0 := ⟨tb (in7 (List.mem_of_getElem? (i := 4) (by decide +kernel))) (by decide +kernel), tb (in7 (List.mem_of_getElem? (i := 6) (by decide +kernel))) (by decide +kernel), tb (inS (List.mem_of_getElem? (i := 50) (by decide +kernel))) (by decide +kernel), tb (in1 (List.mem_of_getElem? (i := 7) (by decide +kernel))) (by decide +kernel), tb (in7 (List.mem_of_getElem? (i := 7) (by decide +kernel))) (by decide +kernel), ⟨by decide +kernel, by decide +kernel, by decide +kernel⟩⟩
theorem ml_X9_190 : GCV RX9 190 yX9_readName cX9_readName 3 (some .int) 1 := ⟨tb (in7 (List.mem_of_getElem? (i := 8) (by decide +kernel))) (by decide +kernel), tb (in7 (List.mem_of_getElem? (i := 10) (by decide +kernel))) (by decide +kernel), tb (inS (List.mem_of_getElem? (i := 51) (by decide +kernel))) (by decide +kernel), tb (in1 (List.mem_of_getElem? (i := 7) (by decide +kernel))) (by decide +kernel), tb (in7 (List.mem_of_getElem? (i := 11) (by decide +kernel))) (by decide +kernel), ⟨by decide +kernel, by decide +kernel, by decide +kernel⟩⟩
theorem ml_X9_193 : GCV RX9 193 yX9_addsLine cX9_addsLine 7 none 6 := ⟨tb (in7 (List.mem_of_getElem? (i := 16) (by decide +kernel))) (by decide +kernel), tb (in7 (List.mem_of_getElem? (i := 18) (by decide +kernel))) (by decide +kernel), tb (inS (List.mem_of_getElem? (i := 52) (by decide +kernel))) (by decide +kernel), tb (in1 (List.mem_of_getElem? (i := 7) (by decide +kernel))) (by decide +kernel), tb (in7 (List.mem_of_getElem? (i := 19) (by decide +kernel))) (by decide +kernel), ⟨by decide +kernel, by decide +kernel, by decide +kernel⟩⟩
theorem ml_X9_152 : GCV RX9 152 yX9_readTick cX9_readTick 2 none 0 := ⟨tb (in7 (List.mem_of_getElem? (i := 20) (by decide +kernel))) (by decide +kernel), tb (in7 (List.mem_of_getElem? (i := 22) (by decide +kernel))) (by decide +kernel), tb (inS (List.mem_of_getElem? (i := 53) (by decide +kernel))) (by decide +kernel), tb (in1 (List.mem_of_getElem? (i := 7) (by decide +kernel))) (by decide +kernel), tb (in7 (List.mem_of_getElem? (i := 23) (by decide +kernel))) (by decide +kernel), ⟨by decide +kernel, by decide +kernel, by decide +kernel⟩⟩
theorem ml_X9_224 : GCV RX9 224 yX9_begins cX9_begins 6 none 4 := ⟨tb (in7 (List.mem_of_getElem? (i := 24) (by decide +kernel))) (by decide +kernel), tb (in7 (List.mem_of_getElem? (i := 26) (by decide +kernel))) (by decide +kernel), tb (inS (List.mem_of_getElem? (i := 54) (by decide +kernel))) (by decide +kernel), tb (in1 (List.mem_of_getElem? (i := 7) (by decide +kernel))) (by decide +kernel), tb (in7 (List.mem_of_getElem? (i := 27) (by decide +kernel))) (by decide +kernel), ⟨by decide +kernel, by decide +kernel, by decide +kernel⟩⟩
theorem ml_X9_68 : GCV RX9 68 yX9_set cX9_set 4 none 3 := ⟨tb (in7 (List.mem_of_getElem? (i := 28) (by decide +kernel))) (by decide +kernel), tb (in7 (List.mem_of_getElem? (i := 30) (by decide +kernel))) (by decide +kernel), tb (inS (List.mem_of_getElem? (i := 55) (by decide +kernel))) (by decide +kernel), tb (in1 (List.mem_of_getElem? (i := 7) (by decide +kernel))) (by decide +kernel), tb (in7 (List.mem_of_getElem? (i := 31) (by decide +kernel))) (by decide +kernel), ⟨by decide +kernel, by decide +kernel, by decide +kernel⟩⟩
theorem ml_X9_227 : GCV RX9 227 yX9_doesAll cX9_doesAll 3 (some .int) 0 := ⟨tb (in7 (List.mem_of_getElem? (i := 32) (by decide +kernel))) (by decide +kernel), tb (in7 (List.mem_of_getElem? (i := 34) (by decide +kernel))) (by decide +kernel), tb (inS (List.mem_of_getElem? (i := 56) (by decide +kernel))) (by decide +kernel), tb (in1 (List.mem_of_getElem? (i := 7) (by decide +kernel))) (by decide +kernel), tb (in7 (List.mem_of_getElem? (i := 35) (by decide +kernel))) (by decide +kernel), ⟨by decide +kernel, by decide +kernel, by decide +kernel⟩⟩
theorem ml_X9_207 : GCV RX9 207 yX9_ticks cX9_ticks 3 (some .int) 2 := ⟨tb (in7 (List.mem_of_getElem? (i := 36) (by decide +kernel))) (by decide +kernel), tb (in7 (List.mem_of_getElem? (i := 38) (by decide +kernel))) (by decide +kernel), tb (inS (List.mem_of_getElem? (i := 57) (by decide +kernel))) (by decide +kernel), tb (in1 (List.mem_of_getElem? (i := 7) (by decide +kernel))) (by decide +kernel), tb (in7 (List.mem_of_getElem? (i := 39) (by decide +kernel))) (by decide +kernel), ⟨by decide +kernel, by decide +kernel, by decide +kernel⟩⟩
theorem ml_X9_276 : GCV RX9 276 yX9_lapses cX9_lapses 6 (some .int) 1 := ⟨tb (in7 (List.mem_of_getElem? (i := 40) (by decide +kernel))) (by decide +kernel), tb (in7 (List.mem_of_getElem? (i := 42) (by decide +kernel))) (by decide +kernel), tb (inS (List.mem_of_getElem? (i := 58) (by decide +kernel))) (by decide +kernel), tb (in1 (List.mem_of_getElem? (i := 7) (by decide +kernel))) (by decide +kernel), tb (in7 (List.mem_of_getElem? (i := 43) (by decide +kernel))) (by decide +kernel), ⟨by decide +kernel, by decide +kernel, by decide +kernel⟩⟩
theorem ml_X9_270 : GCV RX9 270 yX9_lives cX9_lives 3 (some .boolean) 2 := ⟨tb (in7 (List.mem_of_getElem? (i := 44) (by decide +kernel))) (by decide +kernel), tb (in7 (List.mem_of_getElem? (i := 46) (by decide +kernel))) (by decide +kernel), tb (inS (List.mem_of_getElem? (i := 59) (by decide +kernel))) (by decide +kernel), tb (in1 (List.mem_of_getElem? (i := 7) (by decide +kernel))) (by decide +kernel), tb (in7 (List.mem_of_getElem? (i := 47) (by decide +kernel))) (by decide +kernel), ⟨by decide +kernel, by decide +kernel, by decide +kernel⟩⟩
theorem ml_X9_273 : GCV RX9 273 yX9_closes cX9_closes 5 none 4 := ⟨tb (in7 (List.mem_of_getElem? (i := 48) (by decide +kernel))) (by decide +kernel), tb (in7 (List.mem_of_getElem? (i := 50) (by decide +kernel))) (by decide +kernel), tb (inS (List.mem_of_getElem? (i := 60) (by decide +kernel))) (by decide +kernel), tb (in1 (List.mem_of_getElem? (i := 7) (by decide +kernel))) (by decide +kernel), tb (in7 (List.mem_of_getElem? (i := 51) (by decide +kernel))) (by decide +kernel), ⟨by decide +kernel, by decide +kernel, by decide +kernel⟩⟩
theorem ml_X9_254 : GCS RX9 254 yX9_closedAt cX9_closedAt 3 (some .int) 3 := ⟨tb (in7 (List.mem_of_getElem? (i := 52) (by decide +kernel))) (by decide +kernel), tb (in7 (List.mem_of_getElem? (i := 53) (by decide +kernel))) (by decide +kernel), tb (in1 (List.mem_of_getElem? (i := 7) (by decide +kernel))) (by decide +kernel), tb (in7 (List.mem_of_getElem? (i := 54) (by decide +kernel))) (by decide +kernel), ⟨by decide +kernel, by decide +kernel, by decide +kernel⟩⟩
theorem ml_X9_251 : GCV RX9 251 yX9_joined cX9_joined 6 (some .int) 4 := ⟨tb (in7 (List.mem_of_getElem? (i := 55) (by decide +kernel))) (by decide +kernel), tb (in7 (List.mem_of_getElem? (i := 57) (by decide +kernel))) (by decide +kernel), tb (inS (List.mem_of_getElem? (i := 61) (by decide +kernel))) (by decide +kernel), tb (in1 (List.mem_of_getElem? (i := 7) (by decide +kernel))) (by decide +kernel), tb (in7 (List.mem_of_getElem? (i := 58) (by decide +kernel))) (by decide +kernel), ⟨by decide +kernel, by decide +kernel, by decide +kernel⟩⟩
theorem ml_X9_237 : GCV RX9 237 yX9_thereOf cX9_thereOf 6 (some .int) 4 := ⟨tb (in7 (List.mem_of_getElem? (i := 59) (by decide +kernel))) (by decide +kernel), tb (in7 (List.mem_of_getElem? (i := 61) (by decide +kernel))) (by decide +kernel), tb (inS (List.mem_of_getElem? (i := 62) (by decide +kernel))) (by decide +kernel), tb (in1 (List.mem_of_getElem? (i := 7) (by decide +kernel))) (by decide +kernel), tb (in7 (List.mem_of_getElem? (i := 62) (by decide +kernel))) (by decide +kernel), ⟨by decide +kernel, by decide +kernel, by decide +kernel⟩⟩
theorem ml_X9_233 : GCS RX9 233 yX9_netAt cX9_netAt 3 (some .int) 3 := ⟨tb (in7 (List.mem_of_getElem? (i := 63) (by decide +kernel))) (by decide +kernel), tb (in7 (List.mem_of_getElem? (i := 64) (by decide +kernel))) (by decide +kernel), tb (in1 (List.mem_of_getElem? (i := 7) (by decide +kernel))) (by decide +kernel), tb (in7 (List.mem_of_getElem? (i := 65) (by decide +kernel))) (by decide +kernel), ⟨by decide +kernel, by decide +kernel, by decide +kernel⟩⟩
theorem ml_X9_244 : GCS RX9 244 yX9_isOuter cX9_isOuter 2 (some .boolean) 2 := ⟨tb (in7 (List.mem_of_getElem? (i := 66) (by decide +kernel))) (by decide +kernel), tb (in7 (List.mem_of_getElem? (i := 67) (by decide +kernel))) (by decide +kernel), tb (in1 (List.mem_of_getElem? (i := 7) (by decide +kernel))) (by decide +kernel), tb (in7 (List.mem_of_getElem? (i := 68) (by decide +kernel))) (by decide +kernel), ⟨by decide +kernel, by decide +kernel, by decide +kernel⟩⟩
theorem ml_X9_248 : GCV RX9 248 yX9_has cX9_has 4 (some .boolean) 3 := ⟨tb (in7 (List.mem_of_getElem? (i := 69) (by decide +kernel))) (by decide +kernel), tb (in7 (List.mem_of_getElem? (i := 71) (by decide +kernel))) (by decide +kernel), tb (inS (List.mem_of_getElem? (i := 63) (by decide +kernel))) (by decide +kernel), tb (in1 (List.mem_of_getElem? (i := 7) (by decide +kernel))) (by decide +kernel), tb (in7 (List.mem_of_getElem? (i := 72) (by decide +kernel))) (by decide +kernel), ⟨by decide +kernel, by decide +kernel, by decide +kernel⟩⟩
theorem ml_X9_241 : GCV RX9 241 yX9_thereAll cX9_thereAll 6 (some .int) 3 := ⟨tb (in7 (List.mem_of_getElem? (i := 73) (by decide +kernel))) (by decide +kernel), tb (in7 (List.mem_of_getElem? (i := 75) (by decide +kernel))) (by decide +kernel), tb (inS (List.mem_of_getElem? (i := 64) (by decide +kernel))) (by decide +kernel), tb (in1 (List.mem_of_getElem? (i := 7) (by decide +kernel))) (by decide +kernel), tb (in7 (List.mem_of_getElem? (i := 76) (by decide +kernel))) (by decide +kernel), ⟨by decide +kernel, by decide +kernel, by decide +kernel⟩⟩
theorem ml_X9_257 : GCV RX9 257 yX9_more cX9_more 4 none 3 := ⟨tb (in7 (List.mem_of_getElem? (i := 77) (by decide +kernel))) (by decide +kernel), tb (in7 (List.mem_of_getElem? (i := 79) (by decide +kernel))) (by decide +kernel), tb (inS (List.mem_of_getElem? (i := 65) (by decide +kernel))) (by decide +kernel), tb (in1 (List.mem_of_getElem? (i := 7) (by decide +kernel))) (by decide +kernel), tb (in7 (List.mem_of_getElem? (i := 80) (by decide +kernel))) (by decide +kernel), ⟨by decide +kernel, by decide +kernel, by decide +kernel⟩⟩
theorem ml_X9_210 : GCV RX9 210 yX9_does cX9_does 8 (some .int) 6 := ⟨tb (in7 (List.mem_of_getElem? (i := 81) (by decide +kernel))) (by decide +kernel), tb (in7 (List.mem_of_getElem? (i := 83) (by decide +kernel))) (by decide +kernel), tb (inS (List.mem_of_getElem? (i := 66) (by decide +kernel))) (by decide +kernel), tb (in1 (List.mem_of_getElem? (i := 7) (by decide +kernel))) (by decide +kernel), tb (in7 (List.mem_of_getElem? (i := 84) (by decide +kernel))) (by decide +kernel), ⟨by decide +kernel, by decide +kernel, by decide +kernel⟩⟩
theorem ml_X9_279 : GCV RX9 279 yX9_changes cX9_changes 13 none 5 := ⟨tb (in7 (List.mem_of_getElem? (i := 85) (by decide +kernel))) (by decide +kernel), tb (in7 (List.mem_of_getElem? (i := 87) (by decide +kernel))) (by decide +kernel), tb (inS (List.mem_of_getElem? (i := 67) (by decide +kernel))) (by decide +kernel), tb (in1 (List.mem_of_getElem? (i := 7) (by decide +kernel))) (by decide +kernel), tb (in7 (List.mem_of_getElem? (i := 88) (by decide +kernel))) (by decide +kernel), ⟨by decide +kernel, by decide +kernel, by decide +kernel⟩⟩
theorem ml_X9_267 : GCV RX9 267 yX9_sendsOuter cX9_sendsOuter 6 none 4 := ⟨tb (in7 (List.mem_of_getElem? (i := 89) (by decide +kernel))) (by decide +kernel), tb (in7 (List.mem_of_getElem? (i := 91) (by decide +kernel))) (by decide +kernel), tb (inS (List.mem_of_getElem? (i := 68) (by decide +kernel))) (by decide +kernel), tb (in1 (List.mem_of_getElem? (i := 7) (by decide +kernel))) (by decide +kernel), tb (in7 (List.mem_of_getElem? (i := 92) (by decide +kernel))) (by decide +kernel), ⟨by decide +kernel, by decide +kernel, by decide +kernel⟩⟩
theorem ml_X9_264 : GCV RX9 264 yX9_sendsBy cX9_sendsBy 7 none 6 := ⟨tb (in7 (List.mem_of_getElem? (i := 93) (by decide +kernel))) (by decide +kernel), tb (in7 (List.mem_of_getElem? (i := 95) (by decide +kernel))) (by decide +kernel), tb (inS (List.mem_of_getElem? (i := 69) (by decide +kernel))) (by decide +kernel), tb (in1 (List.mem_of_getElem? (i := 7) (by decide +kernel))) (by decide +kernel), tb (in7 (List.mem_of_getElem? (i := 96) (by decide +kernel))) (by decide +kernel), ⟨by decide +kernel, by decide +kernel, by decide +kernel⟩⟩
theorem ml_X9_260 : GCV RX9 260 yX9_sends cX9_sends 7 none 5 := ⟨tb (in7 (List.mem_of_getElem? (i := 97) (by decide +kernel))) (by decide +kernel), tb (in7 (List.mem_of_getElem? (i := 99) (by decide +kernel))) (by decide +kernel), tb (inS (List.mem_of_getElem? (i := 70) (by decide +kernel))) (by decide +kernel), tb (in1 (List.mem_of_getElem? (i := 7) (by decide +kernel))) (by decide +kernel), tb (in7 (List.mem_of_getElem? (i := 100) (by decide +kernel))) (by decide +kernel), ⟨by decide +kernel, by decide +kernel, by decide +kernel⟩⟩
theorem ml_X9_282 : GCV RX9 282 yX9_countsMost cX9_countsMost 4 (some .int) 2 := ⟨tb (in7 (List.mem_of_getElem? (i := 101) (by decide +kernel))) (by decide +kernel), tb (in7 (List.mem_of_getElem? (i := 103) (by decide +kernel))) (by decide +kernel), tb (inS (List.mem_of_getElem? (i := 71) (by decide +kernel))) (by decide +kernel), tb (in1 (List.mem_of_getElem? (i := 7) (by decide +kernel))) (by decide +kernel), tb (in7 (List.mem_of_getElem? (i := 104) (by decide +kernel))) (by decide +kernel), ⟨by decide +kernel, by decide +kernel, by decide +kernel⟩⟩
theorem ml_X9_230 : GCV RX9 230 yX9_good cX9_good 2 (some .int) 1 := ⟨tb (in7 (List.mem_of_getElem? (i := 105) (by decide +kernel))) (by decide +kernel), tb (in7 (List.mem_of_getElem? (i := 107) (by decide +kernel))) (by decide +kernel), tb (inS (List.mem_of_getElem? (i := 72) (by decide +kernel))) (by decide +kernel), tb (in1 (List.mem_of_getElem? (i := 7) (by decide +kernel))) (by decide +kernel), tb (in7 (List.mem_of_getElem? (i := 108) (by decide +kernel))) (by decide +kernel), ⟨by decide +kernel, by decide +kernel, by decide +kernel⟩⟩
theorem ml_L_31 : GCV RL 31 yX9_more_ cX9_more_ 2 (some .int) 1 := ⟨tb (in7 (List.mem_of_getElem? (i := 109) (by decide +kernel))) (by decide +kernel), tb (in7 (List.mem_of_getElem? (i := 110) (by decide +kernel))) (by decide +kernel), tb (in7 (List.mem_of_getElem? (i := 111) (by decide +kernel))) (by decide +kernel), tb (in1 (List.mem_of_getElem? (i := 7) (by decide +kernel))) (by decide +kernel), tb (in7 (List.mem_of_getElem? (i := 112) (by decide +kernel))) (by decide +kernel), ⟨by decide +kernel, by decide +kernel, by decide +kernel⟩⟩
theorem ml_L_36 : GCV RL 36 yX9_fault cX9_fault 1 (some .int) 0 := ⟨tb (in7 (List.mem_of_getElem? (i := 113) (by decide +kernel))) (by decide +kernel), tb (in7 (List.mem_of_getElem? (i := 114) (by decide +kernel))) (by decide +kernel), tb (in7 (List.mem_of_getElem? (i := 115) (by decide +kernel))) (by decide +kernel), tb (in1 (List.mem_of_getElem? (i := 7) (by decide +kernel))) (by decide +kernel), tb (in7 (List.mem_of_getElem? (i := 116) (by decide +kernel))) (by decide +kernel), ⟨by decide +kernel, by decide +kernel, by decide +kernel⟩⟩
theorem ml_L_40 : GCV RL 40 yX9_where cX9_where 1 (some .int) 0 := ⟨tb (in7 (List.mem_of_getElem? (i := 117) (by decide +kernel))) (by decide +kernel), tb (in7 (List.mem_of_getElem? (i := 118) (by decide +kernel))) (by decide +kernel), tb (in7 (List.mem_of_getElem? (i := 119) (by decide +kernel))) (by decide +kernel), tb (in1 (List.mem_of_getElem? (i := 7) (by decide +kernel))) (by decide +kernel), tb (in7 (List.mem_of_getElem? (i := 120) (by decide +kernel))) (by decide +kernel), ⟨by decide +kernel, by decide +kernel, by decide +kernel⟩⟩
theorem ml_L_44 : GCV RL 44 yX9_about cX9_about 2 (some .int) 1 := ⟨tb (in7 (List.mem_of_getElem? (i := 121) (by decide +kernel))) (by decide +kernel), tb (in7 (List.mem_of_getElem? (i := 122) (by decide +kernel))) (by decide +kernel), tb (in7 (List.mem_of_getElem? (i := 123) (by decide +kernel))) (by decide +kernel), tb (in1 (List.mem_of_getElem? (i := 7) (by decide +kernel))) (by decide +kernel), tb (in7 (List.mem_of_getElem? (i := 124) (by decide +kernel))) (by decide +kernel), ⟨by decide +kernel, by decide +kernel, by decide +kernel⟩⟩
theorem ml_X9_285 : GCV RX9 285 yX9_living cX9_living 3 (some .int) 0 := ⟨tb (in7 (List.mem_of_getElem? (i := 125) (by decide +kernel))) (by decide +kernel), tb (in7 (List.mem_of_getElem? (i := 127) (by decide +kernel))) (by decide +kernel), tb (inS (List.mem_of_getElem? (i := 73) (by decide +kernel))) (by decide +kernel), tb (in1 (List.mem_of_getElem? (i := 7) (by decide +kernel))) (by decide +kernel), tb (in7 (List.mem_of_getElem? (i := 128) (by decide +kernel))) (by decide +kernel), ⟨by decide +kernel, by decide +kernel, by decide +kernel⟩⟩
theorem ml_L_49 : GCV RL 49 yX9_letter cX9_letter 4 (some .int) 3 := ⟨tb (in7 (List.mem_of_getElem? (i := 129) (by decide +kernel))) (by decide +kernel), tb (in7 (List.mem_of_getElem? (i := 130) (by decide +kernel))) (by decide +kernel), tb (in7 (List.mem_of_getElem? (i := 131) (by decide +kernel))) (by decide +kernel), tb (in1 (List.mem_of_getElem? (i := 7) (by decide +kernel))) (by decide +kernel), tb (in7 (List.mem_of_getElem? (i := 132) (by decide +kernel))) (by decide +kernel), ⟨by decide +kernel, by decide +kernel, by decide +kernel⟩⟩
theorem ml_X9_293 : GCV RX9 293 yX9_isKey cX9_isKey 2 (some .boolean) 1 := ⟨tb (in7 (List.mem_of_getElem? (i := 133) (by decide +kernel))) (by decide +kernel), tb (in7 (List.mem_of_getElem? (i := 135) (by decide +kernel))) (by decide +kernel), tb (inS (List.mem_of_getElem? (i := 74) (by decide +kernel))) (by decide +kernel), tb (in1 (List.mem_of_getElem? (i := 7) (by decide +kernel))) (by decide +kernel), tb (in7 (List.mem_of_getElem? (i := 136) (by decide +kernel))) (by decide +kernel), ⟨by decide +kernel, by decide +kernel, by decide +kernel⟩⟩
theorem ml_X9_297 : GCV RX9 297 yX9_isValue cX9_isValue 2 (some .boolean) 1 := ⟨tb (in7 (List.mem_of_getElem? (i := 137) (by decide +kernel))) (by decide +kernel), tb (in7 (List.mem_of_getElem? (i := 139) (by decide +kernel))) (by decide +kernel), tb (inS (List.mem_of_getElem? (i := 75) (by decide +kernel))) (by decide +kernel), tb (in1 (List.mem_of_getElem? (i := 7) (by decide +kernel))) (by decide +kernel), tb (in7 (List.mem_of_getElem? (i := 140) (by decide +kernel))) (by decide +kernel), ⟨by decide +kernel, by decide +kernel, by decide +kernel⟩⟩
theorem ml_X9_288 : GCV RX9 288 yX9_letters cX9_letters 4 (some .int) 2 := ⟨tb (in7 (List.mem_of_getElem? (i := 141) (by decide +kernel))) (by decide +kernel), tb (in7 (List.mem_of_getElem? (i := 143) (by decide +kernel))) (by decide +kernel), tb (inS (List.mem_of_getElem? (i := 76) (by decide +kernel))) (by decide +kernel), tb (in1 (List.mem_of_getElem? (i := 7) (by decide +kernel))) (by decide +kernel), tb (in7 (List.mem_of_getElem? (i := 144) (by decide +kernel))) (by decide +kernel), ⟨by decide +kernel, by decide +kernel, by decide +kernel⟩⟩
theorem ml_X9_300 : GCV RX9 300 yX9_letterOf cX9_letterOf 4 (some .int) 3 := ⟨tb (in7 (List.mem_of_getElem? (i := 145) (by decide +kernel))) (by decide +kernel), tb (in7 (List.mem_of_getElem? (i := 147) (by decide +kernel))) (by decide +kernel), tb (inS (List.mem_of_getElem? (i := 77) (by decide +kernel))) (by decide +kernel), tb (in1 (List.mem_of_getElem? (i := 7) (by decide +kernel))) (by decide +kernel), tb (in7 (List.mem_of_getElem? (i := 148) (by decide +kernel))) (by decide +kernel), ⟨by decide +kernel, by decide +kernel, by decide +kernel⟩⟩
theorem ml_L_53 : GCV RL 53 yX9_net cX9_net 4 (some .int) 3 := ⟨tb (in7 (List.mem_of_getElem? (i := 150) (by decide +kernel))) (by decide +kernel), tb (in7 (List.mem_of_getElem? (i := 151) (by decide +kernel))) (by decide +kernel), tb (in7 (List.mem_of_getElem? (i := 152) (by decide +kernel))) (by decide +kernel), tb (in1 (List.mem_of_getElem? (i := 7) (by decide +kernel))) (by decide +kernel), tb (in7 (List.mem_of_getElem? (i := 153) (by decide +kernel))) (by decide +kernel), ⟨by decide +kernel, by decide +kernel, by decide +kernel⟩⟩
theorem ml_X9_303 : GCS RX9 303 yX9_isSide cX9_isSide 1 (some .boolean) 1 := ⟨tb (in7 (List.mem_of_getElem? (i := 154) (by decide +kernel))) (by decide +kernel), tb (in7 (List.mem_of_getElem? (i := 155) (by decide +kernel))) (by decide +kernel), tb (in1 (List.mem_of_getElem? (i := 7) (by decide +kernel))) (by decide +kernel), tb (in7 (List.mem_of_getElem? (i := 156) (by decide +kernel))) (by decide +kernel), ⟨by decide +kernel, by decide +kernel, by decide +kernel⟩⟩
theorem ml_X9_306 : GCV RX9 306 yX9_refusedLow cX9_refusedLow 2 (some .int) 1 := ⟨tb (in7 (List.mem_of_getElem? (i := 157) (by decide +kernel))) (by decide +kernel), tb (in7 (List.mem_of_getElem? (i := 159) (by decide +kernel))) (by decide +kernel), tb (inS (List.mem_of_getElem? (i := 78) (by decide +kernel))) (by decide +kernel), tb (in1 (List.mem_of_getElem? (i := 7) (by decide +kernel))) (by decide +kernel), tb (in7 (List.mem_of_getElem? (i := 160) (by decide +kernel))) (by decide +kernel), ⟨by decide +kernel, by decide +kernel, by decide +kernel⟩⟩
theorem ml_L_58 : GCV RL 58 yX9_there cX9_there 3 (some .int) 2 := ⟨tb (in7 (List.mem_of_getElem? (i := 162) (by decide +kernel))) (by decide +kernel), tb (in7 (List.mem_of_getElem? (i := 163) (by decide +kernel))) (by decide +kernel), tb (in7 (List.mem_of_getElem? (i := 164) (by decide +kernel))) (by decide +kernel), tb (in1 (List.mem_of_getElem? (i := 7) (by decide +kernel))) (by decide +kernel), tb (in7 (List.mem_of_getElem? (i := 165) (by decide +kernel))) (by decide +kernel), ⟨by decide +kernel, by decide +kernel, by decide +kernel⟩⟩
theorem ml_L_62 : GCV RL 62 yX9_key cX9_key 4 (some .int) 2 := ⟨tb (in7 (List.mem_of_getElem? (i := 166) (by decide +kernel))) (by decide +kernel), tb (in7 (List.mem_of_getElem? (i := 167) (by decide +kernel))) (by decide +kernel), tb (in7 (List.mem_of_getElem? (i := 168) (by decide +kernel))) (by decide +kernel), tb (in1 (List.mem_of_getElem? (i := 7) (by decide +kernel))) (by decide +kernel), tb (in7 (List.mem_of_getElem? (i := 169) (by decide +kernel))) (by decide +kernel), ⟨by decide +kernel, by decide +kernel, by decide +kernel⟩⟩
theorem ml_L_66 : GCV RL 66 yX9_debts cX9_debts 5 (some .int) 1 := ⟨tb (in7 (List.mem_of_getElem? (i := 170) (by decide +kernel))) (by decide +kernel), tb (in7 (List.mem_of_getElem? (i := 171) (by decide +kernel))) (by decide +kernel), tb (in7 (List.mem_of_getElem? (i := 172) (by decide +kernel))) (by decide +kernel), tb (in1 (List.mem_of_getElem? (i := 7) (by decide +kernel))) (by decide +kernel), tb (in7 (List.mem_of_getElem? (i := 173) (by decide +kernel))) (by decide +kernel), ⟨by decide +kernel, by decide +kernel, by decide +kernel⟩⟩
theorem ml_L_70 : GCV RL 70 yX9_sent cX9_sent 4 (some .int) 3 := ⟨tb (in7 (List.mem_of_getElem? (i := 174) (by decide +kernel))) (by decide +kernel), tb (in7 (List.mem_of_getElem? (i := 175) (by decide +kernel))) (by decide +kernel), tb (in7 (List.mem_of_getElem? (i := 176) (by decide +kernel))) (by decide +kernel), tb (in1 (List.mem_of_getElem? (i := 7) (by decide +kernel))) (by decide +kernel), tb (in7 (List.mem_of_getElem? (i := 177) (by decide +kernel))) (by decide +kernel), ⟨by decide +kernel, by decide +kernel, by decide +kernel⟩⟩
theorem ml_X9_309 : GCV RX9 309 yX9_isRow cX9_isRow 4 (some .boolean) 3 := ⟨tb (in7 (List.mem_of_getElem? (i := 178) (by decide +kernel))) (by decide +kernel), tb (in7 (List.mem_of_getElem? (i := 180) (by decide +kernel))) (by decide +kernel), tb (inS (List.mem_of_getElem? (i := 79) (by decide +kernel))) (by decide +kernel), tb (in1 (List.mem_of_getElem? (i := 7) (by decide +kernel))) (by decide +kernel), tb (in7 (List.mem_of_getElem? (i := 181) (by decide +kernel))) (by decide +kernel), ⟨by decide +kernel, by decide +kernel, by decide +kernel⟩⟩
theorem ml_X9_312 : GCS RX9 312 yX9_place cX9_place 1 (some .int) 1 := ⟨tb (in7 (List.mem_of_getElem? (i := 182) (by decide +kernel))) (by decide +kernel), tb (in7 (List.mem_of_getElem? (i := 183) (by decide +kernel))) (by decide +kernel), tb (in1 (List.mem_of_getElem? (i := 7) (by decide +kernel))) (by decide +kernel), tb (in7 (List.mem_of_getElem? (i := 184) (by decide +kernel))) (by decide +kernel), ⟨by decide +kernel, by decide +kernel, by decide +kernel⟩⟩
theorem ml_X9_315 : GCV RX9 315 yX9_sentOf cX9_sentOf 5 (some .int) 4 := ⟨tb (in7 (List.mem_of_getElem? (i := 185) (by decide +kernel))) (by decide +kernel), tb (in7 (List.mem_of_getElem? (i := 187) (by decide +kernel))) (by decide +kernel), tb (inS (List.mem_of_getElem? (i := 80) (by decide +kernel))) (by decide +kernel), tb (in1 (List.mem_of_getElem? (i := 7) (by decide +kernel))) (by decide +kernel), tb (in7 (List.mem_of_getElem? (i := 188) (by decide +kernel))) (by decide +kernel), ⟨by decide +kernel, by decide +kernel, by decide +kernel⟩⟩
theorem ml_L_74 : GCV RL 74 yX9_join cX9_join 4 (some .int) 3 := ⟨tb (in7 (List.mem_of_getElem? (i := 189) (by decide +kernel))) (by decide +kernel), tb (in7 (List.mem_of_getElem? (i := 190) (by decide +kernel))) (by decide +kernel), tb (in7 (List.mem_of_getElem? (i := 191) (by decide +kernel))) (by decide +kernel), tb (in1 (List.mem_of_getElem? (i := 7) (by decide +kernel))) (by decide +kernel), tb (in7 (List.mem_of_getElem? (i := 192) (by decide +kernel))) (by decide +kernel), ⟨by decide +kernel, by decide +kernel, by decide +kernel⟩⟩
theorem ml_L_78 : GCV RL 78 yX9_closed cX9_closed 4 (some .int) 3 := ⟨tb (in7 (List.mem_of_getElem? (i := 193) (by decide +kernel))) (by decide +kernel), tb (in7 (List.mem_of_getElem? (i := 194) (by decide +kernel))) (by decide +kernel), tb (in7 (List.mem_of_getElem? (i := 195) (by decide +kernel))) (by decide +kernel), tb (in1 (List.mem_of_getElem? (i := 7) (by decide +kernel))) (by decide +kernel), tb (in7 (List.mem_of_getElem? (i := 196) (by decide +kernel))) (by decide +kernel), ⟨by decide +kernel, by decide +kernel, by decide +kernel⟩⟩
theorem ml_L_82 : GCV RL 82 yX9_rows cX9_rows 1 (some .int) 0 := ⟨tb (in7 (List.mem_of_getElem? (i := 197) (by decide +kernel))) (by decide +kernel), tb (in7 (List.mem_of_getElem? (i := 198) (by decide +kernel))) (by decide +kernel), tb (in7 (List.mem_of_getElem? (i := 199) (by decide +kernel))) (by decide +kernel), tb (in1 (List.mem_of_getElem? (i := 7) (by decide +kernel))) (by decide +kernel), tb (in7 (List.mem_of_getElem? (i := 200) (by decide +kernel))) (by decide +kernel), ⟨by decide +kernel, by decide +kernel, by decide +kernel⟩⟩
theorem ml_X9_330 : GCV RX9 330 yX9_finds cX9_finds 8 (some .int) 2 := ⟨tb (in7 (List.mem_of_getElem? (i := 201) (by decide +kernel))) (by decide +kernel), tb (in7 (List.mem_of_getElem? (i := 203) (by decide +kernel))) (by decide +kernel), tb (inS (List.mem_of_getElem? (i := 81) (by decide +kernel))) (by decide +kernel), tb (in1 (List.mem_of_getElem? (i := 7) (by decide +kernel))) (by decide +kernel), tb (in7 (List.mem_of_getElem? (i := 204) (by decide +kernel))) (by decide +kernel), ⟨by decide +kernel, by decide +kernel, by decide +kernel⟩⟩
theorem ml_L_86 : GCV RL 86 yX9_row cX9_row 3 (some .int) 2 := ⟨tb (in7 (List.mem_of_getElem? (i := 205) (by decide +kernel))) (by decide +kernel), tb (in7 (List.mem_of_getElem? (i := 206) (by decide +kernel))) (by decide +kernel), tb (in7 (List.mem_of_getElem? (i := 207) (by decide +kernel))) (by decide +kernel), tb (in1 (List.mem_of_getElem? (i := 7) (by decide +kernel))) (by decide +kernel), tb (in7 (List.mem_of_getElem? (i := 208) (by decide +kernel))) (by decide +kernel), ⟨by decide +kernel, by decide +kernel, by decide +kernel⟩⟩
theorem ml_X9_333 : GCV RX9 333 yX9_isFound cX9_isFound 2 (some .boolean) 1 := ⟨tb (in7 (List.mem_of_getElem? (i := 209) (by decide +kernel))) (by decide +kernel), tb (in7 (List.mem_of_getElem? (i := 211) (by decide +kernel))) (by decide +kernel), tb (inS (List.mem_of_getElem? (i := 82) (by decide +kernel))) (by decide +kernel), tb (in1 (List.mem_of_getElem? (i := 7) (by decide +kernel))) (by decide +kernel), tb (in7 (List.mem_of_getElem? (i := 212) (by decide +kernel))) (by decide +kernel), ⟨by decide +kernel, by decide +kernel, by decide +kernel⟩⟩
theorem ml_X9_336 : GCS RX9 336 yX9_told cX9_told 1 (some .int) 1 := ⟨tb (in7 (List.mem_of_getElem? (i := 213) (by decide +kernel))) (by decide +kernel), tb (in7 (List.mem_of_getElem? (i := 214) (by decide +kernel))) (by decide +kernel), tb (in1 (List.mem_of_getElem? (i := 7) (by decide +kernel))) (by decide +kernel), tb (in7 (List.mem_of_getElem? (i := 215) (by decide +kernel))) (by decide +kernel), ⟨by decide +kernel, by decide +kernel, by decide +kernel⟩⟩
theorem ml_L_90 : GCV RL 90 yX9_spell cX9_spell 3 (some .int) 2 := ⟨tb (in7 (List.mem_of_getElem? (i := 216) (by decide +kernel))) (by decide +kernel), tb (in7 (List.mem_of_getElem? (i := 217) (by decide +kernel))) (by decide +kernel), tb (in7 (List.mem_of_getElem? (i := 218) (by decide +kernel))) (by decide +kernel), tb (in1 (List.mem_of_getElem? (i := 7) (by decide +kernel))) (by decide +kernel), tb (in7 (List.mem_of_getElem? (i := 219) (by decide +kernel))) (by decide +kernel), ⟨by decide +kernel, by decide +kernel, by decide +kernel⟩⟩
theorem ml_X9_349 : GCV RX9 349 yX9_spellsWord cX9_spellsWord 4 none 2 := ⟨tb (in7 (List.mem_of_getElem? (i := 220) (by decide +kernel))) (by decide +kernel), tb (in7 (List.mem_of_getElem? (i := 222) (by decide +kernel))) (by decide +kernel), tb (inS (List.mem_of_getElem? (i := 83) (by decide +kernel))) (by decide +kernel), tb (in1 (List.mem_of_getElem? (i := 7) (by decide +kernel))) (by decide +kernel), tb (in7 (List.mem_of_getElem? (i := 223) (by decide +kernel))) (by decide +kernel), ⟨by decide +kernel, by decide +kernel, by decide +kernel⟩⟩
theorem ml_X9_342 : GCV RX9 342 yX9_spells cX9_spells 2 none 1 := ⟨tb (in7 (List.mem_of_getElem? (i := 224) (by decide +kernel))) (by decide +kernel), tb (in7 (List.mem_of_getElem? (i := 226) (by decide +kernel))) (by decide +kernel), tb (inS (List.mem_of_getElem? (i := 84) (by decide +kernel))) (by decide +kernel), tb (in1 (List.mem_of_getElem? (i := 7) (by decide +kernel))) (by decide +kernel), tb (in7 (List.mem_of_getElem? (i := 227) (by decide +kernel))) (by decide +kernel), ⟨by decide +kernel, by decide +kernel, by decide +kernel⟩⟩
theorem ml_X9_353 : GCV RX9 353 yX9_spellsNumber cX9_spellsNumber 6 none 1 := ⟨tb (in7 (List.mem_of_getElem? (i := 228) (by decide +kernel))) (by decide +kernel), tb (in7 (List.mem_of_getElem? (i := 230) (by decide +kernel))) (by decide +kernel), tb (inS (List.mem_of_getElem? (i := 85) (by decide +kernel))) (by decide +kernel), tb (in1 (List.mem_of_getElem? (i := 7) (by decide +kernel))) (by decide +kernel), tb (in7 (List.mem_of_getElem? (i := 231) (by decide +kernel))) (by decide +kernel), ⟨by decide +kernel, by decide +kernel, by decide +kernel⟩⟩
theorem ml_L_94 : GCV RL 94 yX9_traffic cX9_traffic 2 (some .int) 1 := ⟨tb (in7 (List.mem_of_getElem? (i := 234) (by decide +kernel))) (by decide +kernel), tb (in7 (List.mem_of_getElem? (i := 235) (by decide +kernel))) (by decide +kernel), tb (in7 (List.mem_of_getElem? (i := 236) (by decide +kernel))) (by decide +kernel), tb (in1 (List.mem_of_getElem? (i := 7) (by decide +kernel))) (by decide +kernel), tb (in7 (List.mem_of_getElem? (i := 237) (by decide +kernel))) (by decide +kernel), ⟨by decide +kernel, by decide +kernel, by decide +kernel⟩⟩
theorem ml_L_98 : GCV RL 98 yX9_log cX9_log 4 (some .int) 2 := ⟨tb (in7 (List.mem_of_getElem? (i := 238) (by decide +kernel))) (by decide +kernel), tb (in7 (List.mem_of_getElem? (i := 239) (by decide +kernel))) (by decide +kernel), tb (in8 (List.mem_of_getElem? (i := 0) (by decide +kernel))) (by decide +kernel), tb (in1 (List.mem_of_getElem? (i := 7) (by decide +kernel))) (by decide +kernel), tb (in8 (List.mem_of_getElem? (i := 1) (by decide +kernel))) (by decide +kernel), ⟨by decide +kernel, by decide +kernel, by decide +kernel⟩⟩
theorem ml_X9_356 : GCV RX9 356 yX9_logged cX9_logged 1 (some .int) 0 := ⟨tb (in8 (List.mem_of_getElem? (i := 2) (by decide +kernel))) (by decide +kernel), tb (in8 (List.mem_of_getElem? (i := 4) (by decide +kernel))) (by decide +kernel), tb (inS (List.mem_of_getElem? (i := 86) (by decide +kernel))) (by decide +kernel), tb (in1 (List.mem_of_getElem? (i := 7) (by decide +kernel))) (by decide +kernel), tb (in8 (List.mem_of_getElem? (i := 5) (by decide +kernel))) (by decide +kernel), ⟨by decide +kernel, by decide +kernel, by decide +kernel⟩⟩
theorem ml_L_102 : GCV RL 102 yX9_flips cX9_flips 3 (some .int) 2 := ⟨tb (in8 (List.mem_of_getElem? (i := 6) (by decide +kernel))) (by decide +kernel), tb (in8 (List.mem_of_getElem? (i := 7) (by decide +kernel))) (by decide +kernel), tb (in8 (List.mem_of_getElem? (i := 8) (by decide +kernel))) (by decide +kernel), tb (in1 (List.mem_of_getElem? (i := 7) (by decide +kernel))) (by decide +kernel), tb (in8 (List.mem_of_getElem? (i := 9) (by decide +kernel))) (by decide +kernel), ⟨by decide +kernel, by decide +kernel, by decide +kernel⟩⟩
theorem ml_L_106 : GCV RL 106 yX9_busiest cX9_busiest 4 (some .int) 0 := ⟨tb (in8 (List.mem_of_getElem? (i := 10) (by decide +kernel))) (by decide +kernel), tb (in8 (List.mem_of_getElem? (i := 11) (by decide +kernel))) (by decide +kernel), tb (in8 (List.mem_of_getElem? (i := 12) (by decide +kernel))) (by decide +kernel), tb (in1 (List.mem_of_getElem? (i := 7) (by decide +kernel))) (by decide +kernel), tb (in8 (List.mem_of_getElem? (i := 13) (by decide +kernel))) (by decide +kernel), ⟨by decide +kernel, by decide +kernel, by decide +kernel⟩⟩
theorem ml_L_110 : GCV RL 110 yX9_dearest cX9_dearest 1 (some .int) 0 := ⟨tb (in8 (List.mem_of_getElem? (i := 14) (by decide +kernel))) (by decide +kernel), tb (in8 (List.mem_of_getElem? (i := 15) (by decide +kernel))) (by decide +kernel), tb (in8 (List.mem_of_getElem? (i := 16) (by decide +kernel))) (by decide +kernel), tb (in1 (List.mem_of_getElem? (i := 7) (by decide +kernel))) (by decide +kernel), tb (in8 (List.mem_of_getElem? (i := 17) (by decide +kernel))) (by decide +kernel), ⟨by decide +kernel, by decide +kernel, by decide +kernel⟩⟩
theorem ml_L_114 : GCV RL 114 yX9_begin cX9_begin 4 (some .int) 1 := ⟨tb (in8 (List.mem_of_getElem? (i := 18) (by decide +kernel))) (by decide +kernel), tb (in8 (List.mem_of_getElem? (i := 19) (by decide +kernel))) (by decide +kernel), tb (in8 (List.mem_of_getElem? (i := 20) (by decide +kernel))) (by decide +kernel), tb (in1 (List.mem_of_getElem? (i := 7) (by decide +kernel))) (by decide +kernel), tb (in8 (List.mem_of_getElem? (i := 21) (by decide +kernel))) (by decide +kernel), ⟨by decide +kernel, by decide +kernel, by decide +kernel⟩⟩
theorem ml_X9_359 : GCS RX9 359 yX9_subAt cX9_subAt 2 (some .int) 2 := ⟨tb (in8 (List.mem_of_getElem? (i := 22) (by decide +kernel))) (by decide +kernel), tb (in8 (List.mem_of_getElem? (i := 23) (by decide +kernel))) (by decide +kernel), tb (in1 (List.mem_of_getElem? (i := 7) (by decide +kernel))) (by decide +kernel), tb (in8 (List.mem_of_getElem? (i := 24) (by decide +kernel))) (by decide +kernel), ⟨by decide +kernel, by decide +kernel, by decide +kernel⟩⟩
theorem ml_X9_365 : GCV RX9 365 yX9_looks cX9_looks 5 (some .int) 1 := ⟨tb (in8 (List.mem_of_getElem? (i := 25) (by decide +kernel))) (by decide +kernel), tb (in8 (List.mem_of_getElem? (i := 27) (by decide +kernel))) (by decide +kernel), tb (inS (List.mem_of_getElem? (i := 87) (by decide +kernel))) (by decide +kernel), tb (in1 (List.mem_of_getElem? (i := 7) (by decide +kernel))) (by decide +kernel), tb (in8 (List.mem_of_getElem? (i := 28) (by decide +kernel))) (by decide +kernel), ⟨by decide +kernel, by decide +kernel, by decide +kernel⟩⟩
theorem ml_X9_362 : GCV RX9 362 yX9_sentAt cX9_sentAt 4 (some .int) 1 := ⟨tb (in8 (List.mem_of_getElem? (i := 29) (by decide +kernel))) (by decide +kernel), tb (in8 (List.mem_of_getElem? (i := 31) (by decide +kernel))) (by decide +kernel), tb (inS (List.mem_of_getElem? (i := 88) (by decide +kernel))) (by decide +kernel), tb (in1 (List.mem_of_getElem? (i := 7) (by decide +kernel))) (by decide +kernel), tb (in8 (List.mem_of_getElem? (i := 32) (by decide +kernel))) (by decide +kernel), ⟨by decide +kernel, by decide +kernel, by decide +kernel⟩⟩
theorem ml_L_118 : GCV RL 118 yX9_pull cX9_pull 2 (some .int) 1 := ⟨tb (in8 (List.mem_of_getElem? (i := 33) (by decide +kernel))) (by decide +kernel), tb (in8 (List.mem_of_getElem? (i := 34) (by decide +kernel))) (by decide +kernel), tb (in8 (List.mem_of_getElem? (i := 35) (by decide +kernel))) (by decide +kernel), tb (in1 (List.mem_of_getElem? (i := 7) (by decide +kernel))) (by decide +kernel), tb (in8 (List.mem_of_getElem? (i := 36) (by decide +kernel))) (by decide +kernel), ⟨by decide +kernel, by decide +kernel, by decide +kernel⟩⟩
theorem ml_X9_368 : GCV RX9 368 yX9_hasBegun cX9_hasBegun 2 (some .boolean) 1 := ⟨tb (in8 (List.mem_of_getElem? (i := 37) (by decide +kernel))) (by decide +kernel), tb (in8 (List.mem_of_getElem? (i := 39) (by decide +kernel))) (by decide +kernel), tb (inS (List.mem_of_getElem? (i := 89) (by decide +kernel))) (by decide +kernel), tb (in1 (List.mem_of_getElem? (i := 7) (by decide +kernel))) (by decide +kernel), tb (in8 (List.mem_of_getElem? (i := 40) (by decide +kernel))) (by decide +kernel), ⟨by decide +kernel, by decide +kernel, by decide +kernel⟩⟩
theorem ml_L_122 : GCV RL 122 yX9_pulled cX9_pulled 6 (some .int) 3 := ⟨tb (in8 (List.mem_of_getElem? (i := 41) (by decide +kernel))) (by decide +kernel), tb (in8 (List.mem_of_getElem? (i := 42) (by decide +kernel))) (by decide +kernel), tb (in8 (List.mem_of_getElem? (i := 43) (by decide +kernel))) (by decide +kernel), tb (in1 (List.mem_of_getElem? (i := 7) (by decide +kernel))) (by decide +kernel), tb (in8 (List.mem_of_getElem? (i := 44) (by decide +kernel))) (by decide +kernel), ⟨by decide +kernel, by decide +kernel, by decide +kernel⟩⟩
theorem ml_X9_371 : GCV RX9 371 yX9_differences cX9_differences 4 (some .int) 1 := ⟨tb (in8 (List.mem_of_getElem? (i := 45) (by decide +kernel))) (by decide +kernel), tb (in8 (List.mem_of_getElem? (i := 47) (by decide +kernel))) (by decide +kernel), tb (inS (List.mem_of_getElem? (i := 90) (by decide +kernel))) (by decide +kernel), tb (in1 (List.mem_of_getElem? (i := 7) (by decide +kernel))) (by decide +kernel), tb (in8 (List.mem_of_getElem? (i := 48) (by decide +kernel))) (by decide +kernel), ⟨by decide +kernel, by decide +kernel, by decide +kernel⟩⟩
theorem ml_L_127 : GCV RL 127 yX9_held cX9_held 5 (some .int) 4 := ⟨tb (in8 (List.mem_of_getElem? (i := 49) (by decide +kernel))) (by decide +kernel), tb (in8 (List.mem_of_getElem? (i := 50) (by decide +kernel))) (by decide +kernel), tb (in8 (List.mem_of_getElem? (i := 51) (by decide +kernel))) (by decide +kernel), tb (in1 (List.mem_of_getElem? (i := 7) (by decide +kernel))) (by decide +kernel), tb (in8 (List.mem_of_getElem? (i := 52) (by decide +kernel))) (by decide +kernel), ⟨by decide +kernel, by decide +kernel, by decide +kernel⟩⟩
theorem ml_L_131 : GCV RL 131 yX9_lag cX9_lag 4 (some .int) 2 := ⟨tb (in8 (List.mem_of_getElem? (i := 53) (by decide +kernel))) (by decide +kernel), tb (in8 (List.mem_of_getElem? (i := 54) (by decide +kernel))) (by decide +kernel), tb (in8 (List.mem_of_getElem? (i := 55) (by decide +kernel))) (by decide +kernel), tb (in1 (List.mem_of_getElem? (i := 7) (by decide +kernel))) (by decide +kernel), tb (in8 (List.mem_of_getElem? (i := 56) (by decide +kernel))) (by decide +kernel), ⟨by decide +kernel, by decide +kernel, by decide +kernel⟩⟩
theorem ml_X9_374 : GCV RX9 374 yX9_otherwise cX9_otherwise 4 (some .int) 1 := ⟨tb (in8 (List.mem_of_getElem? (i := 57) (by decide +kernel))) (by decide +kernel), tb (in8 (List.mem_of_getElem? (i := 59) (by decide +kernel))) (by decide +kernel), tb (inS (List.mem_of_getElem? (i := 91) (by decide +kernel))) (by decide +kernel), tb (in1 (List.mem_of_getElem? (i := 7) (by decide +kernel))) (by decide +kernel), tb (in8 (List.mem_of_getElem? (i := 60) (by decide +kernel))) (by decide +kernel), ⟨by decide +kernel, by decide +kernel, by decide +kernel⟩⟩
theorem ml_L_135 : GCV RL 135 yX9_would cX9_would 7 (some .int) 5 := ⟨tb (in8 (List.mem_of_getElem? (i := 61) (by decide +kernel))) (by decide +kernel), tb (in8 (List.mem_of_getElem? (i := 62) (by decide +kernel))) (by decide +kernel), tb (in8 (List.mem_of_getElem? (i := 63) (by decide +kernel))) (by decide +kernel), tb (in1 (List.mem_of_getElem? (i := 7) (by decide +kernel))) (by decide +kernel), tb (in8 (List.mem_of_getElem? (i := 64) (by decide +kernel))) (by decide +kernel), ⟨by decide +kernel, by decide +kernel, by decide +kernel⟩⟩
theorem ml_X9_377 : GCV RX9 377 yX9_refusesEvent cX9_refusesEvent 6 (some .int) 5 := ⟨tb (in8 (List.mem_of_getElem? (i := 65) (by decide +kernel))) (by decide +kernel), tb (in8 (List.mem_of_getElem? (i := 67) (by decide +kernel))) (by decide +kernel), tb (inS (List.mem_of_getElem? (i := 92) (by decide +kernel))) (by decide +kernel), tb (in1 (List.mem_of_getElem? (i := 7) (by decide +kernel))) (by decide +kernel), tb (in8 (List.mem_of_getElem? (i := 68) (by decide +kernel))) (by decide +kernel), ⟨by decide +kernel, by decide +kernel, by decide +kernel⟩⟩
theorem ml_X9_381 : GCV RX9 381 yX9_copies cX9_copies 4 none 2 := ⟨tb (in8 (List.mem_of_getElem? (i := 69) (by decide +kernel))) (by decide +kernel), tb (in8 (List.mem_of_getElem? (i := 71) (by decide +kernel))) (by decide +kernel), tb (inS (List.mem_of_getElem? (i := 93) (by decide +kernel))) (by decide +kernel), tb (in1 (List.mem_of_getElem? (i := 7) (by decide +kernel))) (by decide +kernel), tb (in8 (List.mem_of_getElem? (i := 72) (by decide +kernel))) (by decide +kernel), ⟨by decide +kernel, by decide +kernel, by decide +kernel⟩⟩
theorem ml_L_139 : GCV RL 139 yX9_nextLapse cX9_nextLapse 3 (some .int) 0 := ⟨tb (in8 (List.mem_of_getElem? (i := 73) (by decide +kernel))) (by decide +kernel), tb (in8 (List.mem_of_getElem? (i := 74) (by decide +kernel))) (by decide +kernel), tb (in8 (List.mem_of_getElem? (i := 75) (by decide +kernel))) (by decide +kernel), tb (in1 (List.mem_of_getElem? (i := 7) (by decide +kernel))) (by decide +kernel), tb (in8 (List.mem_of_getElem? (i := 76) (by decide +kernel))) (by decide +kernel), ⟨by decide +kernel, by decide +kernel, by decide +kernel⟩⟩
theorem ml_L_143 : GCV RL 143 yX9_replay cX9_replay 8 (some .int) 2 := ⟨tb (in8 (List.mem_of_getElem? (i := 77) (by decide +kernel))) (by decide +kernel), tb (in8 (List.mem_of_getElem? (i := 78) (by decide +kernel))) (by decide +kernel), tb (in8 (List.mem_of_getElem? (i := 79) (by decide +kernel))) (by decide +kernel), tb (in1 (List.mem_of_getElem? (i := 7) (by decide +kernel))) (by decide +kernel), tb (in8 (List.mem_of_getElem? (i := 80) (by decide +kernel))) (by decide +kernel), ⟨by decide +kernel, by decide +kernel, by decide +kernel⟩⟩
theorem ml_X9_386 : GCV RX9 386 yX9_replays cX9_replays 4 none 1 := ⟨tb (in8 (List.mem_of_getElem? (i := 83) (by decide +kernel))) (by decide +kernel), tb (in8 (List.mem_of_getElem? (i := 85) (by decide +kernel))) (by decide +kernel), tb (inS (List.mem_of_getElem? (i := 94) (by decide +kernel))) (by decide +kernel), tb (in1 (List.mem_of_getElem? (i := 7) (by decide +kernel))) (by decide +kernel), tb (in8 (List.mem_of_getElem? (i := 86) (by decide +kernel))) (by decide +kernel), ⟨by decide +kernel, by decide +kernel, by decide +kernel⟩⟩
theorem ml_L_147 : GCV RL 147 yX9_cost cX9_cost 3 (some .int) 1 := ⟨tb (in8 (List.mem_of_getElem? (i := 87) (by decide +kernel))) (by decide +kernel), tb (in8 (List.mem_of_getElem? (i := 88) (by decide +kernel))) (by decide +kernel), tb (in8 (List.mem_of_getElem? (i := 89) (by decide +kernel))) (by decide +kernel), tb (in1 (List.mem_of_getElem? (i := 7) (by decide +kernel))) (by decide +kernel), tb (in8 (List.mem_of_getElem? (i := 90) (by decide +kernel))) (by decide +kernel), ⟨by decide +kernel, by decide +kernel, by decide +kernel⟩⟩
theorem ml_L_151 : GCV RL 151 yX9_event cX9_event 7 (some .int) 5 := ⟨tb (in8 (List.mem_of_getElem? (i := 91) (by decide +kernel))) (by decide +kernel), tb (in8 (List.mem_of_getElem? (i := 92) (by decide +kernel))) (by decide +kernel), tb (in8 (List.mem_of_getElem? (i := 93) (by decide +kernel))) (by decide +kernel), tb (in1 (List.mem_of_getElem? (i := 7) (by decide +kernel))) (by decide +kernel), tb (in8 (List.mem_of_getElem? (i := 94) (by decide +kernel))) (by decide +kernel), ⟨by decide +kernel, by decide +kernel, by decide +kernel⟩⟩
theorem ml_L_155 : GCV RL 155 yX9_tick cX9_tick 2 (some .int) 1 := ⟨tb (in8 (List.mem_of_getElem? (i := 95) (by decide +kernel))) (by decide +kernel), tb (in8 (List.mem_of_getElem? (i := 96) (by decide +kernel))) (by decide +kernel), tb (in8 (List.mem_of_getElem? (i := 97) (by decide +kernel))) (by decide +kernel), tb (in1 (List.mem_of_getElem? (i := 7) (by decide +kernel))) (by decide +kernel), tb (in8 (List.mem_of_getElem? (i := 98) (by decide +kernel))) (by decide +kernel), ⟨by decide +kernel, by decide +kernel, by decide +kernel⟩⟩
theorem ml_L_159 : GCV RL 159 yX9_how cX9_how 6 (some .int) 1 := ⟨tb (in8 (List.mem_of_getElem? (i := 99) (by decide +kernel))) (by decide +kernel), tb (in8 (List.mem_of_getElem? (i := 100) (by decide +kernel))) (by decide +kernel), tb (in8 (List.mem_of_getElem? (i := 101) (by decide +kernel))) (by decide +kernel), tb (in1 (List.mem_of_getElem? (i := 7) (by decide +kernel))) (by decide +kernel), tb (in8 (List.mem_of_getElem? (i := 102) (by decide +kernel))) (by decide +kernel), ⟨by decide +kernel, by decide +kernel, by decide +kernel⟩⟩
theorem ml_X9_389 : GCV RX9 389 yX9_exchanges cX9_exchanges 6 none 5 := ⟨tb (in8 (List.mem_of_getElem? (i := 103) (by decide +kernel))) (by decide +kernel), tb (in8 (List.mem_of_getElem? (i := 105) (by decide +kernel))) (by decide +kernel), tb (inS (List.mem_of_getElem? (i := 95) (by decide +kernel))) (by decide +kernel), tb (in1 (List.mem_of_getElem? (i := 7) (by decide +kernel))) (by decide +kernel), tb (in8 (List.mem_of_getElem? (i := 106) (by decide +kernel))) (by decide +kernel), ⟨by decide +kernel, by decide +kernel, by decide +kernel⟩⟩
theorem ml_L_164 : GCV RL 164 yX9_bounds cX9_bounds 4 (some .boolean) 2 := ⟨tb (in8 (List.mem_of_getElem? (i := 107) (by decide +kernel))) (by decide +kernel), tb (in8 (List.mem_of_getElem? (i := 108) (by decide +kernel))) (by decide +kernel), tb (in8 (List.mem_of_getElem? (i := 109) (by decide +kernel))) (by decide +kernel), tb (in1 (List.mem_of_getElem? (i := 7) (by decide +kernel))) (by decide +kernel), tb (in8 (List.mem_of_getElem? (i := 110) (by decide +kernel))) (by decide +kernel), ⟨by decide +kernel, by decide +kernel, by decide +kernel⟩⟩
theorem ml_L_169 : GCV RL 169 yX9_keep cX9_keep 1 (some .boolean) 0 := ⟨tb (in8 (List.mem_of_getElem? (i := 111) (by decide +kernel))) (by decide +kernel), tb (in8 (List.mem_of_getElem? (i := 112) (by decide +kernel))) (by decide +kernel), tb (in8 (List.mem_of_getElem? (i := 113) (by decide +kernel))) (by decide +kernel), tb (in1 (List.mem_of_getElem? (i := 7) (by decide +kernel))) (by decide +kernel), tb (in8 (List.mem_of_getElem? (i := 114) (by decide +kernel))) (by decide +kernel), ⟨by decide +kernel, by decide +kernel, by decide +kernel⟩⟩
theorem ml_L_173 : GCV RL 173 yX9_back cX9_back 1 (some .boolean) 0 := ⟨tb (in8 (List.mem_of_getElem? (i := 115) (by decide +kernel))) (by decide +kernel), tb (in8 (List.mem_of_getElem? (i := 116) (by decide +kernel))) (by decide +kernel), tb (in8 (List.mem_of_getElem? (i := 117) (by decide +kernel))) (by decide +kernel), tb (in1 (List.mem_of_getElem? (i := 7) (by decide +kernel))) (by decide +kernel), tb (in8 (List.mem_of_getElem? (i := 118) (by decide +kernel))) (by decide +kernel), ⟨by decide +kernel, by decide +kernel, by decide +kernel⟩⟩
theorem ml_L_179 : GCV RL 179 yX9_single cX9_single 4 (some .int) 1 := ⟨tb (in8 (List.mem_of_getElem? (i := 119) (by decide +kernel))) (by decide +kernel), tb (in8 (List.mem_of_getElem? (i := 120) (by decide +kernel))) (by decide +kernel), tb (in8 (List.mem_of_getElem? (i := 121) (by decide +kernel))) (by decide +kernel), tb (in1 (List.mem_of_getElem? (i := 7) (by decide +kernel))) (by decide +kernel), tb (in8 (List.mem_of_getElem? (i := 122) (by decide +kernel))) (by decide +kernel), ⟨by decide +kernel, by decide +kernel, by decide +kernel⟩⟩
theorem ml_L_186 : GCV RL 186 yX9_size cX9_size 2 (some .int) 1 := ⟨tb (in8 (List.mem_of_getElem? (i := 123) (by decide +kernel))) (by decide +kernel), tb (in8 (List.mem_of_getElem? (i := 124) (by decide +kernel))) (by decide +kernel), tb (in8 (List.mem_of_getElem? (i := 125) (by decide +kernel))) (by decide +kernel), tb (in1 (List.mem_of_getElem? (i := 7) (by decide +kernel))) (by decide +kernel), tb (in8 (List.mem_of_getElem? (i := 126) (by decide +kernel))) (by decide +kernel), ⟨by decide +kernel, by decide +kernel, by decide +kernel⟩⟩
theorem ml_X9_392 : GCV RX9 392 yX9_begun cX9_begun 3 (some .int) 0 := ⟨tb (in8 (List.mem_of_getElem? (i := 127) (by decide +kernel))) (by decide +kernel), tb (in8 (List.mem_of_getElem? (i := 129) (by decide +kernel))) (by decide +kernel), tb (inS (List.mem_of_getElem? (i := 96) (by decide +kernel))) (by decide +kernel), tb (in1 (List.mem_of_getElem? (i := 7) (by decide +kernel))) (by decide +kernel), tb (in8 (List.mem_of_getElem? (i := 130) (by decide +kernel))) (by decide +kernel), ⟨by decide +kernel, by decide +kernel, by decide +kernel⟩⟩
theorem ml_L_190 : GCV RL 190 yX9_trouble cX9_trouble 1 (some .int) 0 := ⟨tb (in8 (List.mem_of_getElem? (i := 131) (by decide +kernel))) (by decide +kernel), tb (in8 (List.mem_of_getElem? (i := 132) (by decide +kernel))) (by decide +kernel), tb (in8 (List.mem_of_getElem? (i := 133) (by decide +kernel))) (by decide +kernel), tb (in1 (List.mem_of_getElem? (i := 7) (by decide +kernel))) (by decide +kernel), tb (in8 (List.mem_of_getElem? (i := 134) (by decide +kernel))) (by decide +kernel), ⟨by decide +kernel, by decide +kernel, by decide +kernel⟩⟩
