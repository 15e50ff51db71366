/-! ===== THE CLASSES, THE METHODS, THE LINKS: read off the printed claim by program (names, fields, types as printed there) ===== -/
def RX0 : String := "SoupTable$Refusal"
def TX0 : u_T := fun k => match k with
  | 0 => ("SoupTable$Refusal", "reason", "I", false)
  | 1 => ("SoupTable$Refusal", "detail", "I", false)
  | _ => ("SoupTable$Refusal", "command", "I", false)
def tyX0 : Nat → FieldType := fun k => match k with
  | 0 => .int
  | 1 => .int
  | _ => .int
theorem nmX0 : ∀ a, a < 3 → ∀ b, b < 3 → a ≠ b → (TX0 a).2.1 ≠ (TX0 b).2.1 := by decide +kernel
theorem tyX0_ok : ∀ k, k < 3 → parseFieldDescriptor (TX0 k).2.2.1 = some (tyX0 k) := by decide +kernel
def RX1 : String := "SoupTable$Seat"
def TX1 : u_T := fun k => match k with
  | 0 => ("SoupTable$Seat", "manner", "I", false)
  | 1 => ("SoupTable$Seat", "think", "I", false)
  | 2 => ("SoupTable$Seat", "eat", "I", false)
  | 3 => ("SoupTable$Seat", "how", "I", false)
  | 4 => ("SoupTable$Seat", "left", "I", false)
  | 5 => ("SoupTable$Seat", "meals", "I", false)
  | 6 => ("SoupTable$Seat", "waited", "I", false)
  | 7 => ("SoupTable$Seat", "waitedNow", "I", false)
  | _ => ("SoupTable$Seat", "waitedMost", "I", false)
def tyX1 : Nat → FieldType := fun k => match k with
  | 0 => .int
  | 1 => .int
  | 2 => .int
  | 3 => .int
  | 4 => .int
  | 5 => .int
  | 6 => .int
  | 7 => .int
  | _ => .int
theorem nmX1 : ∀ a, a < 9 → ∀ b, b < 9 → a ≠ b → (TX1 a).2.1 ≠ (TX1 b).2.1 := by decide +kernel
theorem tyX1_ok : ∀ k, k < 9 → parseFieldDescriptor (TX1 k).2.2.1 = some (tyX1 k) := by decide +kernel
def RX2 : String := "SoupTable$Table"
def TX2 : u_T := fun k => match k with
  | 0 => ("SoupTable$Table", "seats", "[LSoupTable$Seat;", true)
  | 1 => ("SoupTable$Table", "holders", "[I", true)
  | 2 => ("SoupTable$Table", "count", "I", false)
  | 3 => ("SoupTable$Table", "waiterNumber", "I", false)
  | 4 => ("SoupTable$Table", "bowls", "I", false)
  | 5 => ("SoupTable$Table", "ticks", "I", false)
  | 6 => ("SoupTable$Table", "bowlsTaken", "I", false)
  | _ => ("SoupTable$Table", "ladlesTaken", "I", false)
def tyX2 : Nat → FieldType := fun k => match k with
  | 0 => .array (.object "SoupTable$Seat")
  | 1 => .array .int
  | 2 => .int
  | 3 => .int
  | 4 => .int
  | 5 => .int
  | 6 => .int
  | _ => .int
theorem nmX2 : ∀ a, a < 8 → ∀ b, b < 8 → a ≠ b → (TX2 a).2.1 ≠ (TX2 b).2.1 := by decide +kernel
theorem tyX2_ok : ∀ k, k < 8 → parseFieldDescriptor (TX2 k).2.2.1 = some (tyX2 k) := by decide +kernel
def RX3 : String := "SoupTable$Text"
def TX3 : u_T := fun k => match k with
  | 0 => ("SoupTable$Text", "signs", "[C", true)
  | 1 => ("SoupTable$Text", "length", "I", false)
  | 2 => ("SoupTable$Text", "place", "I", false)
  | 3 => ("SoupTable$Text", "kind", "I", false)
  | _ => ("SoupTable$Text", "numbers", "[I", true)
def tyX3 : Nat → FieldType := fun k => match k with
  | 0 => .array .char
  | 1 => .int
  | 2 => .int
  | 3 => .int
  | _ => .array .int
theorem nmX3 : ∀ a, a < 5 → ∀ b, b < 5 → a ≠ b → (TX3 a).2.1 ≠ (TX3 b).2.1 := by decide +kernel
theorem tyX3_ok : ∀ k, k < 5 → parseFieldDescriptor (TX3 k).2.2.1 = some (tyX3 k) := by decide +kernel
def RX5 : String := "SoupTable"
def TX5 : u_T := fun k => match k with
  | 0 => ("SoupTable", "table", "LSoupTable$Table;", true)
  | 1 => ("SoupTable", "ahead", "LSoupTable$Table;", true)
  | 2 => ("SoupTable", "saved", "LSoupTable$Table;", true)
  | 3 => ("SoupTable", "isSaved", "Z", false)
  | 4 => ("SoupTable", "past", "[LSoupTable$Table;", true)
  | 5 => ("SoupTable", "changes", "I", false)
  | 6 => ("SoupTable", "before", "LSoupTable$Table;", false)
  | 7 => ("SoupTable", "text", "LSoupTable$Text;", true)
  | 8 => ("SoupTable", "fault", "I", false)
  | 9 => ("SoupTable", "refusal", "LSoupTable$Refusal;", true)
  | 10 => ("SoupTable", "letters", "[C", true)
  | _ => ("SoupTable", "letterCount", "I", false)
def tyX5 : Nat → FieldType := fun k => match k with
  | 0 => .object "SoupTable$Table"
  | 1 => .object "SoupTable$Table"
  | 2 => .object "SoupTable$Table"
  | 3 => .boolean
  | 4 => .array (.object "SoupTable$Table")
  | 5 => .int
  | 6 => .object "SoupTable$Table"
  | 7 => .object "SoupTable$Text"
  | 8 => .int
  | 9 => .object "SoupTable$Refusal"
  | 10 => .array .char
  | _ => .int
theorem nmX5 : ∀ a, a < 12 → ∀ b, b < 12 → a ≠ b → (TX5 a).2.1 ≠ (TX5 b).2.1 := by decide +kernel
theorem tyX5_ok : ∀ k, k < 12 → parseFieldDescriptor (TX5 k).2.2.1 = some (tyX5 k) := by decide +kernel
def RX6 : String := "SoupTableModel"
def TX6 : u_T := fun k => match k with
  | 0 => ("SoupTableModel", "now", "[I", true)
  | 1 => ("SoupTableModel", "tried", "[I", true)
  | 2 => ("SoupTableModel", "thought", "[I", true)
  | 3 => ("SoupTableModel", "kept", "[I", true)
  | 4 => ("SoupTableModel", "undos", "I", false)
  | 5 => ("SoupTableModel", "saved", "[I", true)
  | 6 => ("SoupTableModel", "isSaved", "Z", false)
  | 7 => ("SoupTableModel", "line", "[C", true)
  | 8 => ("SoupTableModel", "lined", "I", false)
  | 9 => ("SoupTableModel", "text", "[C", true)
  | 10 => ("SoupTableModel", "length", "I", false)
  | 11 => ("SoupTableModel", "at", "I", false)
  | 12 => ("SoupTableModel", "order", "C", false)
  | 13 => ("SoupTableModel", "told", "[I", true)
  | 14 => ("SoupTableModel", "fault", "I", false)
  | 15 => ("SoupTableModel", "reason", "I", false)
  | 16 => ("SoupTableModel", "detail", "I", false)
  | 17 => ("SoupTableModel", "index", "I", false)
  | 18 => ("SoupTableModel", "answer", "I", false)
  | _ => ("SoupTableModel", "thrown", "I", false)
def tyX6 : Nat → FieldType := fun k => match k with
  | 0 => .array .int
  | 1 => .array .int
  | 2 => .array .int
  | 3 => .array .int
  | 4 => .int
  | 5 => .array .int
  | 6 => .boolean
  | 7 => .array .char
  | 8 => .int
  | 9 => .array .char
  | 10 => .int
  | 11 => .int
  | 12 => .char
  | 13 => .array .int
  | 14 => .int
  | 15 => .int
  | 16 => .int
  | 17 => .int
  | 18 => .int
  | _ => .int
theorem nmX6 : ∀ a, a < 20 → ∀ b, b < 20 → a ≠ b → (TX6 a).2.1 ≠ (TX6 b).2.1 := by decide +kernel
theorem tyX6_ok : ∀ k, k < 20 → parseFieldDescriptor (TX6 k).2.2.1 = some (tyX6 k) := by decide +kernel
def KL : List vw_C := [(RX0, TX0, 3), (RX1, TX1, 9), (RX2, TX2, 8), (RX3, TX3, 5), (RX5, TX5, 12), (RX6, TX6, 20)]
def KTY : List (Nat → FieldType) := [tyX0, tyX1, tyX2, tyX3, tyX5, tyX6]
def CN : List String := ["SoupTable$Refusal", "SoupTable$Seat", "SoupTable$Table", "SoupTable$Text", "SoupTable$Waiting", "SoupTable", "SoupTableModel", "SoupTableLaw", "java/lang/String", "java/lang/StringLatin1", "java/lang/Integer", "java/lang/Math", "jdk/internal/util/Preconditions"]
def MT_0 : List (MethodName × ByteArray × Nat × Option FieldType × (Nat × Nat × Nat × Nat) × (Bool × Nat × Nat) × List (Nat × Nat × Nat × Nat)) := [
  (⟨"SoupTable$Seat", "<init>", "()V"⟩, prog_3_method_1_code, 1, none, (1, 20, 0, 0), (false, 0, 1), []),
  (⟨"SoupTable$Table", "<init>", "()V"⟩, prog_4_method_1_code, 2, none, (2, 40, 10, 88), (false, 0, 2), []),
  (⟨"SoupTable$Text", "<init>", "()V"⟩, prog_5_method_1_code, 1, none, (1, 20, 2, 63), (false, 0, 3), []),
  (⟨"SoupTable$Refusal", "<init>", "()V"⟩, prog_2_method_1_code, 1, none, (1, 20, 0, 0), (false, 0, 0), []),
  (⟨"SoupTable", "<init>", "()V"⟩, prog_1_method_1_code, 2, none, (3, 61, 138, 1271), (false, 0, 5), []),
  (⟨"SoupTableModel", "<init>", "()V"⟩, prog_8_method_1_code, 1, none, (1, 20, 8, 1359), (false, 0, 6), []),
  (⟨"SoupTable$Seat", "copyFrom", "(LSoupTable$Seat;)V"⟩, prog_3_method_8_code, 2, none, (0, 0, 0, 0), (false, 0, 1), []),
  (⟨"SoupTable$Table", "copyFrom", "(LSoupTable$Table;)V"⟩, prog_4_method_2_code, 3, none, (1, 21, 0, 0), (false, 0, 2), []),
  (⟨"SoupTable$Table", "isManner", "(I)Z"⟩, prog_4_method_36_code, 1, Option.some Jvm.ClassFile.FieldType.boolean, (0, 0, 0, 0), (false, 0, 2), []),
  (⟨"SoupTable$Table", "isClock", "(I)Z"⟩, prog_4_method_37_code, 1, Option.some Jvm.ClassFile.FieldType.boolean, (0, 0, 0, 0), (false, 0, 2), []),
  (⟨"SoupTable$Refusal", "refuse", "(II)I"⟩, prog_2_method_2_code, 3, Option.some Jvm.ClassFile.FieldType.int, (0, 0, 0, 0), (false, 0, 0), []),
  (⟨"SoupTable$Table", "heldLadles", "()I"⟩, prog_4_method_29_code, 3, Option.some Jvm.ClassFile.FieldType.int, (0, 0, 0, 0), (false, 0, 2), []),
  (⟨"SoupTable$Seat", "beginToThink", "()V"⟩, prog_3_method_3_code, 1, none, (0, 0, 0, 0), (false, 0, 1), []),
  (⟨"SoupTable$Seat", "begin", "(III)V"⟩, prog_3_method_2_code, 4, none, (1, 20, 0, 0), (false, 0, 1), []),
  (⟨"SoupTable$Table", "addSeat", "(IIILSoupTable$Refusal;)I"⟩, prog_4_method_4_code, 5, Option.some Jvm.ClassFile.FieldType.int, (2, 43, 0, 0), (false, 0, 2), []),
  (⟨"SoupTable", "keepBefore", "()V"⟩, prog_1_method_38_code, 3, none, (0, 0, 0, 0), (false, 0, 5), []),
  (⟨"SoupTable", "kept", "(I)I"⟩, prog_1_method_37_code, 2, Option.some Jvm.ClassFile.FieldType.int, (8, 120, 1, 6), (false, 0, 5), []),
  (⟨"SoupTable", "join", "(III)I"⟩, prog_1_method_2_code, 4, Option.some Jvm.ClassFile.FieldType.int, (9, 141, 1, 6), (false, 0, 5), []),
  (⟨"SoupTableLaw", "join", "(LSoupTable;III[J)I"⟩, method_3_code, 6, Option.some Jvm.ClassFile.FieldType.int, (10, 164, 1, 6), (false, 0, 7), [((0 : Nat), (12 : Nat), (15 : Nat), (13 : Nat))]),
  (⟨"SoupTableModel", "tries", "()V"⟩, prog_8_method_5_code, 2, none, (0, 0, 0, 0), (false, 0, 6), []),
  (⟨"SoupTableModel", "in", "(III)Z"⟩, prog_8_method_4_code, 3, Option.some Jvm.ClassFile.FieldType.boolean, (0, 0, 0, 0), (false, 0, 6), []),
  (⟨"SoupTableModel", "refuses", "(II)Z"⟩, prog_8_method_11_code, 3, Option.some Jvm.ClassFile.FieldType.boolean, (0, 0, 0, 0), (false, 0, 6), []),
  (⟨"SoupTableModel", "held", "()I"⟩, prog_8_method_20_code, 3, Option.some Jvm.ClassFile.FieldType.int, (0, 0, 0, 0), (false, 0, 6), []),
  (⟨"SoupTableModel", "sets", "(III)V"⟩, prog_8_method_15_code, 4, none, (0, 0, 0, 0), (false, 0, 6), []),
  (⟨"SoupTableModel", "does", "(I)Z"⟩, prog_8_method_10_code, 2, Option.some Jvm.ClassFile.FieldType.boolean, (0, 0, 0, 0), (false, 0, 6), []),
  (⟨"SoupTableModel", "joins", "(III)Z"⟩, prog_8_method_24_code, 6, Option.some Jvm.ClassFile.FieldType.boolean, (1, 23, 0, 0), (false, 0, 6), []),
  (⟨"SoupTableModel", "keeps", "(I)I"⟩, prog_8_method_7_code, 3, Option.some Jvm.ClassFile.FieldType.int, (0, 0, 0, 0), (false, 0, 6), []),
  (⟨"SoupTableModel", "raises", "(I)I"⟩, prog_8_method_3_code, 2, Option.some Jvm.ClassFile.FieldType.int, (0, 0, 0, 0), (false, 0, 6), []),
  (⟨"SoupTableModel", "ends", "(Z)I"⟩, prog_8_method_12_code, 2, Option.some Jvm.ClassFile.FieldType.int, (1, 22, 0, 0), (false, 0, 6), []),
  (⟨"SoupTableModel", "join", "(III)I"⟩, prog_8_method_25_code, 4, Option.some Jvm.ClassFile.FieldType.int, (2, 48, 0, 0), (false, 0, 6), []),
  (⟨"SoupTableModel", "thrown", "()I"⟩, prog_8_method_2_code, 1, Option.some Jvm.ClassFile.FieldType.int, (0, 0, 0, 0), (false, 0, 6), []),
  (⟨"SoupTable$Table", "removeSeat", "(LSoupTable$Refusal;)I"⟩, prog_4_method_5_code, 2, Option.some Jvm.ClassFile.FieldType.int, (1, 22, 0, 0), (false, 0, 2), [])]
def MT_1 : List (MethodName × ByteArray × Nat × Option FieldType × (Nat × Nat × Nat × Nat) × (Bool × Nat × Nat) × List (Nat × Nat × Nat × Nat)) := [
  (⟨"SoupTable", "leave", "()I"⟩, prog_1_method_3_code, 1, Option.some Jvm.ClassFile.FieldType.int, (9, 141, 1, 6), (false, 0, 5), []),
  (⟨"SoupTableLaw", "leave", "(LSoupTable;[J)I"⟩, method_4_code, 3, Option.some Jvm.ClassFile.FieldType.int, (10, 161, 1, 6), (false, 0, 7), [((0 : Nat), (8 : Nat), (11 : Nat), (13 : Nat))]),
  (⟨"SoupTableModel", "drops", "(I)V"⟩, prog_8_method_26_code, 4, none, (0, 0, 0, 0), (false, 0, 6), []),
  (⟨"SoupTableModel", "leaves", "()Z"⟩, prog_8_method_27_code, 1, Option.some Jvm.ClassFile.FieldType.boolean, (1, 23, 0, 0), (false, 0, 6), []),
  (⟨"SoupTableModel", "leave", "()I"⟩, prog_8_method_28_code, 1, Option.some Jvm.ClassFile.FieldType.int, (2, 43, 0, 0), (false, 0, 6), []),
  (⟨"SoupTable$Table", "hasSeat", "(I)Z"⟩, prog_4_method_16_code, 2, Option.some Jvm.ClassFile.FieldType.boolean, (0, 0, 0, 0), (false, 0, 2), []),
  (⟨"SoupTable$Table", "setManner", "(IILSoupTable$Refusal;)I"⟩, prog_4_method_6_code, 4, Option.some Jvm.ClassFile.FieldType.int, (1, 22, 0, 0), (false, 0, 2), []),
  (⟨"SoupTable", "manner", "(II)I"⟩, prog_1_method_4_code, 3, Option.some Jvm.ClassFile.FieldType.int, (9, 141, 1, 6), (false, 0, 5), []),
  (⟨"SoupTableLaw", "manner", "(LSoupTable;II[J)I"⟩, method_5_code, 5, Option.some Jvm.ClassFile.FieldType.int, (10, 163, 1, 6), (false, 0, 7), [((0 : Nat), (10 : Nat), (13 : Nat), (13 : Nat))]),
  (⟨"SoupTableModel", "isSeat", "(I)Z"⟩, prog_8_method_13_code, 2, Option.some Jvm.ClassFile.FieldType.boolean, (1, 22, 0, 0), (false, 0, 6), []),
  (⟨"SoupTableModel", "of", "(II)I"⟩, prog_8_method_14_code, 3, Option.some Jvm.ClassFile.FieldType.int, (0, 0, 0, 0), (false, 0, 6), []),
  (⟨"SoupTableModel", "how", "(I)I"⟩, prog_8_method_16_code, 2, Option.some Jvm.ClassFile.FieldType.int, (1, 22, 0, 0), (false, 0, 6), []),
  (⟨"SoupTableModel", "turns", "(II)Z"⟩, prog_8_method_29_code, 3, Option.some Jvm.ClassFile.FieldType.boolean, (2, 43, 0, 0), (false, 0, 6), []),
  (⟨"SoupTableModel", "manner", "(II)I"⟩, prog_8_method_30_code, 3, Option.some Jvm.ClassFile.FieldType.int, (3, 65, 0, 0), (false, 0, 6), []),
  (⟨"SoupTable$Table", "setClocks", "(IIILSoupTable$Refusal;)I"⟩, prog_4_method_7_code, 6, Option.some Jvm.ClassFile.FieldType.int, (1, 22, 0, 0), (false, 0, 2), []),
  (⟨"SoupTable", "clocks", "(III)I"⟩, prog_1_method_5_code, 4, Option.some Jvm.ClassFile.FieldType.int, (9, 141, 1, 6), (false, 0, 5), []),
  (⟨"SoupTableLaw", "clocks", "(LSoupTable;III[J)I"⟩, method_6_code, 6, Option.some Jvm.ClassFile.FieldType.int, (10, 164, 1, 6), (false, 0, 7), [((0 : Nat), (12 : Nat), (15 : Nat), (13 : Nat))]),
  (⟨"SoupTableModel", "times", "(III)Z"⟩, prog_8_method_31_code, 5, Option.some Jvm.ClassFile.FieldType.boolean, (2, 43, 0, 0), (false, 0, 6), []),
  (⟨"SoupTableModel", "clocks", "(III)I"⟩, prog_8_method_32_code, 4, Option.some Jvm.ClassFile.FieldType.int, (3, 67, 0, 0), (false, 0, 6), []),
  (⟨"SoupTable$Table", "setWaiter", "(ILSoupTable$Refusal;)I"⟩, prog_4_method_8_code, 4, Option.some Jvm.ClassFile.FieldType.int, (1, 22, 0, 0), (false, 0, 2), []),
  (⟨"SoupTable", "waiter", "(I)I"⟩, prog_1_method_6_code, 2, Option.some Jvm.ClassFile.FieldType.int, (9, 141, 1, 6), (false, 0, 5), []),
  (⟨"SoupTableLaw", "waiter", "(LSoupTable;I[J)I"⟩, method_7_code, 4, Option.some Jvm.ClassFile.FieldType.int, (10, 162, 1, 6), (false, 0, 7), [((0 : Nat), (9 : Nat), (12 : Nat), (13 : Nat))]),
  (⟨"SoupTableModel", "tells", "(I)Z"⟩, prog_8_method_33_code, 3, Option.some Jvm.ClassFile.FieldType.boolean, (1, 22, 0, 0), (false, 0, 6), []),
  (⟨"SoupTableModel", "waiter", "(I)I"⟩, prog_8_method_34_code, 2, Option.some Jvm.ClassFile.FieldType.int, (2, 44, 0, 0), (false, 0, 6), []),
  (⟨"SoupTable$Table", "addBowls", "(ILSoupTable$Refusal;)I"⟩, prog_4_method_9_code, 3, Option.some Jvm.ClassFile.FieldType.int, (1, 22, 0, 0), (false, 0, 2), []),
  (⟨"SoupTable", "bring", "(I)I"⟩, prog_1_method_7_code, 2, Option.some Jvm.ClassFile.FieldType.int, (9, 141, 1, 6), (false, 0, 5), []),
  (⟨"SoupTableLaw", "bring", "(LSoupTable;I[J)I"⟩, method_8_code, 4, Option.some Jvm.ClassFile.FieldType.int, (10, 162, 1, 6), (false, 0, 7), [((0 : Nat), (9 : Nat), (12 : Nat), (13 : Nat))]),
  (⟨"SoupTableModel", "brings", "(I)Z"⟩, prog_8_method_35_code, 2, Option.some Jvm.ClassFile.FieldType.boolean, (1, 22, 0, 0), (false, 0, 6), []),
  (⟨"SoupTableModel", "bring", "(I)I"⟩, prog_8_method_36_code, 2, Option.some Jvm.ClassFile.FieldType.int, (2, 43, 0, 0), (false, 0, 6), []),
  (⟨"SoupTable$Table", "ladleOf", "(IZ)I"⟩, prog_4_method_19_code, 4, Option.some Jvm.ClassFile.FieldType.int, (0, 0, 0, 0), (false, 0, 2), []),
  (⟨"SoupTable$Table", "takeAway", "(ILSoupTable$Refusal;)I"⟩, prog_4_method_10_code, 5, Option.some Jvm.ClassFile.FieldType.int, (1, 23, 0, 0), (false, 0, 2), []),
  (⟨"SoupTable", "take", "(I)I"⟩, prog_1_method_8_code, 2, Option.some Jvm.ClassFile.FieldType.int, (9, 141, 1, 6), (false, 0, 5), [])]
def MT_2 : List (MethodName × ByteArray × Nat × Option FieldType × (Nat × Nat × Nat × Nat) × (Bool × Nat × Nat) × List (Nat × Nat × Nat × Nat)) := [
  (⟨"SoupTableLaw", "take", "(LSoupTable;I[J)I"⟩, method_9_code, 4, Option.some Jvm.ClassFile.FieldType.int, (10, 162, 1, 6), (false, 0, 7), [((0 : Nat), (9 : Nat), (12 : Nat), (13 : Nat))]),
  (⟨"SoupTableModel", "by", "(I)I"⟩, prog_8_method_19_code, 2, Option.some Jvm.ClassFile.FieldType.int, (0, 0, 0, 0), (false, 0, 6), []),
  (⟨"SoupTableModel", "left", "(I)I"⟩, prog_8_method_17_code, 2, Option.some Jvm.ClassFile.FieldType.int, (0, 0, 0, 0), (false, 0, 6), []),
  (⟨"SoupTableModel", "takes", "(I)Z"⟩, prog_8_method_37_code, 3, Option.some Jvm.ClassFile.FieldType.boolean, (2, 43, 0, 0), (false, 0, 6), []),
  (⟨"SoupTableModel", "take", "(I)I"⟩, prog_8_method_38_code, 2, Option.some Jvm.ClassFile.FieldType.int, (3, 65, 0, 0), (false, 0, 6), []),
  (⟨"SoupTable$Table", "canTick", "()Z"⟩, prog_4_method_17_code, 1, Option.some Jvm.ClassFile.FieldType.boolean, (0, 0, 0, 0), (false, 0, 2), []),
  (⟨"SoupTable$Table", "mealsOfAll", "()I"⟩, prog_4_method_32_code, 3, Option.some Jvm.ClassFile.FieldType.int, (0, 0, 0, 0), (false, 0, 2), []),
  (⟨"SoupTable$Table", "thinkOrEat", "(I)V"⟩, prog_4_method_13_code, 3, none, (1, 23, 0, 0), (false, 0, 2), []),
  (⟨"SoupTable$Table", "askersBefore", "(I)I"⟩, prog_4_method_25_code, 5, Option.some Jvm.ClassFile.FieldType.int, (0, 0, 0, 0), (false, 0, 2), []),
  (⟨"SoupTable$Table", "askerAt", "(I)I"⟩, prog_4_method_24_code, 3, Option.some Jvm.ClassFile.FieldType.int, (1, 24, 0, 0), (false, 0, 2), []),
  (⟨"SoupTable$Table", "setWithLeave", "()I"⟩, prog_4_method_30_code, 3, Option.some Jvm.ClassFile.FieldType.int, (0, 0, 0, 0), (false, 0, 2), []),
  (⟨"java/lang/Integer", "bitCount", "(I)I"⟩, prog_19_method_49_code, 1, Option.some Jvm.ClassFile.FieldType.int, (0, 0, 0, 0), (false, 1, 10), []),
  (⟨"SoupTable$Table", "waiterLetsMore", "()Z"⟩, prog_4_method_23_code, 1, Option.some Jvm.ClassFile.FieldType.boolean, (1, 22, 0, 0), (false, 0, 2), []),
  (⟨"SoupTable$Table", "giveLeave", "()V"⟩, prog_4_method_14_code, 3, none, (2, 46, 0, 0), (false, 0, 2), []),
  (⟨"SoupTable$Table", "wantedLadle", "(I)I"⟩, prog_4_method_21_code, 3, Option.some Jvm.ClassFile.FieldType.int, (1, 23, 0, 0), (false, 0, 2), []),
  (⟨"SoupTable$Table", "isFree", "(I)Z"⟩, prog_4_method_20_code, 2, Option.some Jvm.ClassFile.FieldType.boolean, (1, 21, 0, 0), (false, 0, 2), []),
  (⟨"SoupTable$Seat", "beginToEat", "()V"⟩, prog_3_method_4_code, 1, none, (0, 0, 0, 0), (false, 0, 1), []),
  (⟨"SoupTable$Table", "takeLadles", "(I)V"⟩, prog_4_method_15_code, 5, none, (2, 45, 0, 0), (false, 0, 2), []),
  (⟨"java/lang/Math", "max", "(II)I"⟩, prog_20_method_65_code, 2, Option.some Jvm.ClassFile.FieldType.int, (0, 0, 0, 0), (false, 1, 11), []),
  (⟨"SoupTable$Seat", "waitIfHungry", "()V"⟩, prog_3_method_5_code, 1, none, (1, 21, 0, 0), (false, 0, 1), []),
  (⟨"SoupTable$Table", "tick", "()V"⟩, prog_4_method_12_code, 2, none, (3, 69, 0, 0), (false, 0, 2), []),
  (⟨"SoupTable$Table", "passTicks", "(ILSoupTable$Refusal;)I"⟩, prog_4_method_11_code, 5, Option.some Jvm.ClassFile.FieldType.int, (4, 90, 0, 0), (false, 0, 2), []),
  (⟨"SoupTable", "pass", "(I)I"⟩, prog_1_method_9_code, 2, Option.some Jvm.ClassFile.FieldType.int, (9, 141, 1, 6), (false, 0, 5), []),
  (⟨"SoupTableLaw", "pass", "(LSoupTable;I[J)I"⟩, method_10_code, 4, Option.some Jvm.ClassFile.FieldType.int, (10, 162, 1, 6), (false, 0, 7), [((0 : Nat), (9 : Nat), (12 : Nat), (13 : Nat))]),
  (⟨"SoupTableModel", "isDone", "(I)Z"⟩, prog_8_method_39_code, 2, Option.some Jvm.ClassFile.FieldType.boolean, (1, 23, 0, 0), (false, 0, 6), []),
  (⟨"SoupTableModel", "withLeave", "()I"⟩, prog_8_method_22_code, 3, Option.some Jvm.ClassFile.FieldType.int, (1, 22, 0, 0), (false, 0, 6), []),
  (⟨"SoupTableModel", "lets", "()Z"⟩, prog_8_method_23_code, 1, Option.some Jvm.ClassFile.FieldType.boolean, (2, 44, 0, 0), (false, 0, 6), []),
  (⟨"SoupTableModel", "ladleOf", "(IZ)I"⟩, prog_8_method_18_code, 3, Option.some Jvm.ClassFile.FieldType.int, (1, 22, 0, 0), (false, 0, 6), []),
  (⟨"SoupTableModel", "wanted", "(I)I"⟩, prog_8_method_21_code, 2, Option.some Jvm.ClassFile.FieldType.int, (2, 44, 0, 0), (false, 0, 6), []),
  (⟨"SoupTableModel", "grabs", "(I)V"⟩, prog_8_method_40_code, 2, none, (3, 65, 0, 0), (false, 0, 6), []),
  (⟨"SoupTableModel", "tickGoes", "()I"⟩, prog_8_method_41_code, 3, Option.some Jvm.ClassFile.FieldType.int, (4, 86, 0, 0), (false, 0, 6), []),
  (⟨"SoupTableModel", "ticks", "(I)I"⟩, prog_8_method_42_code, 4, Option.some Jvm.ClassFile.FieldType.int, (5, 108, 0, 0), (false, 0, 6), [])]
def MT_3 : List (MethodName × ByteArray × Nat × Option FieldType × (Nat × Nat × Nat × Nat) × (Bool × Nat × Nat) × List (Nat × Nat × Nat × Nat)) := [
  (⟨"SoupTableModel", "passes", "(I)Z"⟩, prog_8_method_43_code, 2, Option.some Jvm.ClassFile.FieldType.boolean, (6, 131, 0, 0), (false, 0, 6), []),
  (⟨"SoupTableModel", "pass", "(I)I"⟩, prog_8_method_44_code, 2, Option.some Jvm.ClassFile.FieldType.int, (7, 152, 0, 0), (false, 0, 6), []),
  (⟨"SoupTable$Seat", "number", "(I)I"⟩, prog_3_method_7_code, 2, Option.some Jvm.ClassFile.FieldType.int, (0, 0, 0, 0), (false, 0, 1), []),
  (⟨"SoupTable", "seatOf", "(II)I"⟩, prog_1_method_10_code, 3, Option.some Jvm.ClassFile.FieldType.int, (8, 120, 1, 6), (false, 0, 5), []),
  (⟨"SoupTableLaw", "seatOf", "(LSoupTable;II[J)I"⟩, method_11_code, 5, Option.some Jvm.ClassFile.FieldType.int, (9, 142, 1, 6), (false, 0, 7), [((0 : Nat), (10 : Nat), (13 : Nat), (42 : Nat)), ((0 : Nat), (10 : Nat), (17 : Nat), (44 : Nat))]),
  (⟨"SoupTableModel", "seatOf", "(II)I"⟩, prog_8_method_45_code, 3, Option.some Jvm.ClassFile.FieldType.int, (2, 43, 0, 0), (false, 0, 6), []),
  (⟨"SoupTable", "ladle", "(IZ)I"⟩, prog_1_method_11_code, 3, Option.some Jvm.ClassFile.FieldType.int, (8, 120, 1, 6), (false, 0, 5), []),
  (⟨"SoupTableLaw", "ladle", "(LSoupTable;IZ[J)I"⟩, method_12_code, 5, Option.some Jvm.ClassFile.FieldType.int, (9, 142, 1, 6), (false, 0, 7), [((0 : Nat), (10 : Nat), (13 : Nat), (42 : Nat))]),
  (⟨"SoupTableModel", "ladle", "(IZ)I"⟩, prog_8_method_46_code, 3, Option.some Jvm.ClassFile.FieldType.int, (2, 44, 0, 0), (false, 0, 6), []),
  (⟨"SoupTable", "holder", "(I)I"⟩, prog_1_method_12_code, 2, Option.some Jvm.ClassFile.FieldType.int, (8, 120, 1, 6), (false, 0, 5), []),
  (⟨"SoupTableLaw", "holder", "(LSoupTable;I[J)I"⟩, method_13_code, 4, Option.some Jvm.ClassFile.FieldType.int, (9, 141, 1, 6), (false, 0, 7), [((0 : Nat), (9 : Nat), (12 : Nat), (42 : Nat))]),
  (⟨"SoupTableModel", "holder", "(I)I"⟩, prog_8_method_47_code, 2, Option.some Jvm.ClassFile.FieldType.int, (2, 43, 0, 0), (false, 0, 6), []),
  (⟨"SoupTable$Table", "awaitedSeat", "(I)I"⟩, prog_4_method_22_code, 3, Option.some Jvm.ClassFile.FieldType.int, (2, 45, 0, 0), (false, 0, 2), []),
  (⟨"SoupTable", "waitsFor", "(I)I"⟩, prog_1_method_13_code, 3, Option.some Jvm.ClassFile.FieldType.int, (8, 120, 1, 6), (false, 0, 5), []),
  (⟨"SoupTableLaw", "waitsFor", "(LSoupTable;I[J)I"⟩, method_14_code, 4, Option.some Jvm.ClassFile.FieldType.int, (9, 142, 1, 6), (false, 0, 7), [((0 : Nat), (9 : Nat), (12 : Nat), (42 : Nat)), ((0 : Nat), (9 : Nat), (15 : Nat), (56 : Nat))]),
  (⟨"SoupTableModel", "other", "(I)I"⟩, prog_8_method_48_code, 3, Option.some Jvm.ClassFile.FieldType.int, (3, 65, 0, 0), (false, 0, 6), []),
  (⟨"SoupTableModel", "waitsFor", "(I)I"⟩, prog_8_method_49_code, 2, Option.some Jvm.ClassFile.FieldType.int, (4, 87, 0, 0), (false, 0, 6), []),
  (⟨"SoupTable", "asking", "(I)I"⟩, prog_1_method_14_code, 3, Option.some Jvm.ClassFile.FieldType.int, (8, 120, 1, 6), (false, 0, 5), []),
  (⟨"SoupTableLaw", "asking", "(LSoupTable;I[J)I"⟩, method_15_code, 4, Option.some Jvm.ClassFile.FieldType.int, (9, 142, 1, 6), (false, 0, 7), [((0 : Nat), (9 : Nat), (12 : Nat), (56 : Nat))]),
  (⟨"SoupTableModel", "asking", "(I)I"⟩, prog_8_method_50_code, 2, Option.some Jvm.ClassFile.FieldType.int, (1, 22, 0, 0), (false, 0, 6), []),
  (⟨"SoupTable", "eaters", "()I"⟩, prog_1_method_15_code, 3, Option.some Jvm.ClassFile.FieldType.int, (0, 0, 0, 0), (false, 0, 5), []),
  (⟨"SoupTableModel", "those", "(I)I"⟩, prog_8_method_51_code, 4, Option.some Jvm.ClassFile.FieldType.int, (2, 43, 0, 0), (false, 0, 6), []),
  (⟨"SoupTableModel", "eaters", "()I"⟩, prog_8_method_52_code, 1, Option.some Jvm.ClassFile.FieldType.int, (3, 66, 0, 0), (false, 0, 6), []),
  (⟨"SoupTable$Waiting", "comesBackTo", "(LSoupTable$Table;I)Z"⟩, prog_6_method_3_code, 4, Option.some Jvm.ClassFile.FieldType.boolean, (3, 67, 0, 0), (false, 0, 4), []),
  (⟨"SoupTable$Waiting", "ringOf", "(LSoupTable$Table;)I"⟩, prog_6_method_2_code, 3, Option.some Jvm.ClassFile.FieldType.int, (4, 90, 0, 0), (false, 0, 4), []),
  (⟨"SoupTable", "ring", "()I"⟩, prog_1_method_16_code, 1, Option.some Jvm.ClassFile.FieldType.int, (5, 112, 0, 0), (false, 0, 5), []),
  (⟨"SoupTableModel", "rings", "()I"⟩, prog_8_method_53_code, 5, Option.some Jvm.ClassFile.FieldType.int, (4, 87, 0, 0), (false, 0, 6), []),
  (⟨"SoupTableModel", "ring", "()I"⟩, prog_8_method_54_code, 1, Option.some Jvm.ClassFile.FieldType.int, (5, 111, 0, 0), (false, 0, 6), []),
  (⟨"SoupTable$Waiting", "waitingForOneIn", "(LSoupTable$Table;I)I"⟩, prog_6_method_5_code, 5, Option.some Jvm.ClassFile.FieldType.int, (3, 67, 0, 0), (false, 0, 4), []),
  (⟨"SoupTable$Waiting", "stuckOf", "(LSoupTable$Table;)I"⟩, prog_6_method_4_code, 4, Option.some Jvm.ClassFile.FieldType.int, (5, 112, 0, 0), (false, 0, 4), []),
  (⟨"SoupTable", "stuck", "()I"⟩, prog_1_method_17_code, 1, Option.some Jvm.ClassFile.FieldType.int, (6, 135, 0, 0), (false, 0, 5), []),
  (⟨"SoupTableModel", "stuckOnes", "()I"⟩, prog_8_method_55_code, 5, Option.some Jvm.ClassFile.FieldType.int, (5, 111, 0, 0), (false, 0, 6), [])]
def MT_4 : List (MethodName × ByteArray × Nat × Option FieldType × (Nat × Nat × Nat × Nat) × (Bool × Nat × Nat) × List (Nat × Nat × Nat × Nat)) := [
  (⟨"SoupTableModel", "stuck", "()I"⟩, prog_8_method_56_code, 1, Option.some Jvm.ClassFile.FieldType.int, (6, 135, 0, 0), (false, 0, 6), []),
  (⟨"SoupTable$Waiting", "canGoOn", "(LSoupTable$Table;II)Z"⟩, prog_6_method_7_code, 5, Option.some Jvm.ClassFile.FieldType.boolean, (3, 67, 0, 0), (false, 0, 4), []),
  (⟨"SoupTable$Waiting", "remainingOf", "(LSoupTable$Table;)I"⟩, prog_6_method_6_code, 4, Option.some Jvm.ClassFile.FieldType.int, (4, 91, 0, 0), (false, 0, 4), []),
  (⟨"SoupTable", "stuckAgain", "()I"⟩, prog_1_method_18_code, 1, Option.some Jvm.ClassFile.FieldType.int, (5, 114, 0, 0), (false, 0, 5), []),
  (⟨"SoupTableModel", "stuckAgain", "()I"⟩, prog_8_method_57_code, 1, Option.some Jvm.ClassFile.FieldType.int, (7, 155, 0, 0), (false, 0, 6), []),
  (⟨"SoupTable$Table", "hasBothManners", "()Z"⟩, prog_4_method_28_code, 2, Option.some Jvm.ClassFile.FieldType.boolean, (0, 0, 0, 0), (false, 0, 2), []),
  (⟨"SoupTable", "isSure", "()Z"⟩, prog_1_method_19_code, 2, Option.some Jvm.ClassFile.FieldType.boolean, (1, 21, 0, 0), (false, 0, 5), []),
  (⟨"SoupTableModel", "isSure", "()Z"⟩, prog_8_method_58_code, 3, Option.some Jvm.ClassFile.FieldType.boolean, (1, 22, 0, 0), (false, 0, 6), []),
  (⟨"SoupTable", "mealsIn", "(I)I"⟩, prog_1_method_20_code, 3, Option.some Jvm.ClassFile.FieldType.int, (8, 120, 1, 6), (false, 0, 5), []),
  (⟨"SoupTableLaw", "mealsIn", "(LSoupTable;I[J)I"⟩, method_16_code, 4, Option.some Jvm.ClassFile.FieldType.int, (9, 142, 1, 6), (false, 0, 7), [((0 : Nat), (9 : Nat), (12 : Nat), (44 : Nat))]),
  (⟨"SoupTableModel", "thinks", "()V"⟩, prog_8_method_8_code, 2, none, (0, 0, 0, 0), (false, 0, 6), []),
  (⟨"SoupTableModel", "thinksNoMore", "()V"⟩, prog_8_method_9_code, 2, none, (0, 0, 0, 0), (false, 0, 6), []),
  (⟨"SoupTableModel", "mealsIn", "(I)I"⟩, prog_8_method_59_code, 3, Option.some Jvm.ClassFile.FieldType.int, (6, 131, 0, 0), (false, 0, 6), []),
  (⟨"SoupTable", "stuckIn", "()I"⟩, prog_1_method_21_code, 2, Option.some Jvm.ClassFile.FieldType.int, (8, 135, 1, 6), (false, 0, 5), []),
  (⟨"SoupTableLaw", "stuckIn", "(LSoupTable;[J)I"⟩, method_17_code, 3, Option.some Jvm.ClassFile.FieldType.int, (9, 156, 1, 6), (false, 0, 7), [((0 : Nat), (8 : Nat), (11 : Nat), (56 : Nat))]),
  (⟨"SoupTableModel", "stuckIn", "()I"⟩, prog_8_method_60_code, 3, Option.some Jvm.ClassFile.FieldType.int, (6, 135, 0, 0), (false, 0, 6), []),
  (⟨"SoupTable$Seat", "isHungrierThan", "(LSoupTable$Seat;)Z"⟩, prog_3_method_6_code, 2, Option.some Jvm.ClassFile.FieldType.boolean, (0, 0, 0, 0), (false, 0, 1), []),
  (⟨"SoupTable$Table", "hungrierThan", "(I)I"⟩, prog_4_method_27_code, 5, Option.some Jvm.ClassFile.FieldType.int, (1, 21, 0, 0), (false, 0, 2), []),
  (⟨"SoupTable$Table", "hungriestAt", "(I)I"⟩, prog_4_method_26_code, 3, Option.some Jvm.ClassFile.FieldType.int, (2, 45, 0, 0), (false, 0, 2), []),
  (⟨"SoupTable", "hungriest", "(I)I"⟩, prog_1_method_22_code, 3, Option.some Jvm.ClassFile.FieldType.int, (8, 120, 1, 6), (false, 0, 5), []),
  (⟨"SoupTableLaw", "hungriest", "(LSoupTable;I[J)I"⟩, method_18_code, 4, Option.some Jvm.ClassFile.FieldType.int, (9, 142, 1, 6), (false, 0, 7), [((0 : Nat), (9 : Nat), (12 : Nat), (56 : Nat))]),
  (⟨"SoupTableModel", "isAhead", "(II)Z"⟩, prog_8_method_61_code, 4, Option.some Jvm.ClassFile.FieldType.boolean, (1, 22, 0, 0), (false, 0, 6), []),
  (⟨"SoupTableModel", "hungriest", "(I)I"⟩, prog_8_method_62_code, 5, Option.some Jvm.ClassFile.FieldType.int, (2, 45, 0, 0), (false, 0, 6), []),
  (⟨"java/lang/Math", "min", "(II)I"⟩, prog_20_method_69_code, 2, Option.some Jvm.ClassFile.FieldType.int, (0, 0, 0, 0), (false, 1, 11), []),
  (⟨"SoupTable$Table", "fewestMeals", "()I"⟩, prog_4_method_33_code, 3, Option.some Jvm.ClassFile.FieldType.int, (1, 21, 0, 0), (false, 0, 2), []),
  (⟨"SoupTable", "rounds", "()I"⟩, prog_1_method_23_code, 1, Option.some Jvm.ClassFile.FieldType.int, (2, 43, 0, 0), (false, 0, 5), []),
  (⟨"SoupTableModel", "meals", "(Z)I"⟩, prog_8_method_63_code, 4, Option.some Jvm.ClassFile.FieldType.int, (1, 22, 0, 0), (false, 0, 6), []),
  (⟨"SoupTableModel", "rounds", "()I"⟩, prog_8_method_64_code, 1, Option.some Jvm.ClassFile.FieldType.int, (2, 45, 0, 0), (false, 0, 6), []),
  (⟨"SoupTable$Table", "isNext", "(II)Z"⟩, prog_4_method_18_code, 3, Option.some Jvm.ClassFile.FieldType.boolean, (0, 0, 0, 0), (false, 0, 2), []),
  (⟨"SoupTable", "areNeighbours", "(II)Z"⟩, prog_1_method_24_code, 3, Option.some Jvm.ClassFile.FieldType.boolean, (8, 120, 1, 6), (false, 0, 5), []),
  (⟨"SoupTableLaw", "areNeighbours", "(LSoupTable;II[J)I"⟩, method_19_code, 5, Option.some Jvm.ClassFile.FieldType.int, (9, 142, 1, 6), (false, 0, 7), [((0 : Nat), (17 : Nat), (20 : Nat), (42 : Nat))]),
  (⟨"SoupTableModel", "areNeighbours", "(II)Z"⟩, prog_8_method_65_code, 3, Option.some Jvm.ClassFile.FieldType.boolean, (2, 43, 0, 0), (false, 0, 6), [])]
def MT_5 : List (MethodName × ByteArray × Nat × Option FieldType × (Nat × Nat × Nat × Nat) × (Bool × Nat × Nat) × List (Nat × Nat × Nat × Nat)) := [
  (⟨"SoupTable", "append", "(C)I"⟩, prog_1_method_25_code, 2, Option.some Jvm.ClassFile.FieldType.int, (8, 120, 1, 6), (false, 0, 5), []),
  (⟨"SoupTableLaw", "append", "(LSoupTable;C[J)I"⟩, method_20_code, 4, Option.some Jvm.ClassFile.FieldType.int, (9, 141, 1, 6), (false, 0, 7), [((0 : Nat), (9 : Nat), (12 : Nat), (78 : Nat))]),
  (⟨"SoupTableModel", "append", "(C)I"⟩, prog_8_method_66_code, 2, Option.some Jvm.ClassFile.FieldType.int, (1, 21, 0, 0), (false, 0, 6), []),
  (⟨"java/lang/String", "isLatin1", "()Z"⟩, prog_22_method_154_code, 1, Option.some Jvm.ClassFile.FieldType.boolean, (0, 0, 0, 0), (false, 1, 8), []),
  (⟨"java/lang/String", "coder", "()B"⟩, prog_22_method_152_code, 1, Option.some Jvm.ClassFile.FieldType.byte, (0, 0, 0, 0), (false, 1, 8), []),
  (⟨"java/lang/String", "length", "()I"⟩, prog_22_method_54_code, 1, Option.some Jvm.ClassFile.FieldType.int, (1, 20, 0, 0), (false, 1, 8), []),
  (⟨"java/lang/StringLatin1", "canEncode", "(I)Z"⟩, prog_23_method_4_code, 1, Option.some Jvm.ClassFile.FieldType.boolean, (0, 0, 0, 0), (false, 1, 9), []),
  (⟨"java/lang/StringLatin1", "indexOfChar", "([BIII)I"⟩, prog_23_method_23_code, 6, Option.some Jvm.ClassFile.FieldType.int, (0, 0, 0, 0), (false, 1, 9), []),
  (⟨"java/lang/StringLatin1", "indexOf", "([BIII)I"⟩, prog_23_method_22_code, 4, Option.some Jvm.ClassFile.FieldType.int, (1, 25, 0, 0), (false, 1, 9), []),
  (⟨"java/lang/String", "indexOf", "(II)I"⟩, prog_22_method_80_code, 3, Option.some Jvm.ClassFile.FieldType.int, (2, 48, 0, 0), (false, 1, 8), []),
  (⟨"java/lang/String", "indexOf", "(I)I"⟩, prog_22_method_79_code, 2, Option.some Jvm.ClassFile.FieldType.int, (3, 70, 0, 0), (false, 1, 8), []),
  (⟨"SoupTable$Text", "shapeOf", "(I)Ljava/lang/String;"⟩, prog_5_method_4_code, 1, Option.some (Jvm.ClassFile.FieldType.object "java/lang/String"), (0, 0, 0, 0), (false, 0, 3), []),
  (⟨"jdk/internal/util/Preconditions", "checkIndex", "(IILjava/util/function/BiFunction;)I"⟩, prog_30_method_11_code, 3, Option.some Jvm.ClassFile.FieldType.int, (0, 0, 0, 0), (false, 1, 12), []),
  (⟨"java/lang/String", "checkIndex", "(II)V"⟩, prog_22_method_155_code, 2, none, (1, 22, 0, 0), (false, 1, 8), []),
  (⟨"java/lang/StringLatin1", "charAt", "([BI)C"⟩, prog_23_method_2_code, 2, Option.some Jvm.ClassFile.FieldType.char, (2, 43, 0, 0), (false, 1, 9), []),
  (⟨"java/lang/String", "charAt", "(I)C"⟩, prog_22_method_56_code, 2, Option.some Jvm.ClassFile.FieldType.char, (3, 64, 0, 0), (false, 1, 8), []),
  (⟨"SoupTable$Text", "handHere", "()I"⟩, prog_5_method_6_code, 1, Option.some Jvm.ClassFile.FieldType.int, (0, 0, 0, 0), (false, 0, 3), []),
  (⟨"SoupTable$Text", "digitHere", "()I"⟩, prog_5_method_7_code, 2, Option.some Jvm.ClassFile.FieldType.int, (0, 0, 0, 0), (false, 0, 3), []),
  (⟨"SoupTable$Text", "readsNumber", "(CI)Z"⟩, prog_5_method_5_code, 5, Option.some Jvm.ClassFile.FieldType.boolean, (1, 21, 0, 0), (false, 0, 3), []),
  (⟨"SoupTable$Text", "readsCommand", "()Z"⟩, prog_5_method_3_code, 3, Option.some Jvm.ClassFile.FieldType.boolean, (4, 91, 0, 0), (false, 0, 3), []),
  (⟨"SoupTable$Text", "skipSemicolon", "()Z"⟩, prog_5_method_8_code, 2, Option.some Jvm.ClassFile.FieldType.boolean, (0, 0, 0, 0), (false, 0, 3), []),
  (⟨"SoupTable$Text", "findFault", "()I"⟩, prog_5_method_2_code, 2, Option.some Jvm.ClassFile.FieldType.int, (5, 113, 0, 0), (false, 0, 3), []),
  (⟨"SoupTable$Table", "obey", "(LSoupTable$Text;LSoupTable$Refusal;)I"⟩, prog_4_method_3_code, 6, Option.some Jvm.ClassFile.FieldType.int, (5, 114, 0, 0), (false, 0, 2), []),
  (⟨"SoupTable", "commands", "()I"⟩, prog_1_method_26_code, 3, Option.some Jvm.ClassFile.FieldType.int, (8, 139, 1, 6), (false, 0, 5), []),
  (⟨"SoupTableLaw", "commands", "(LSoupTable;[J)I"⟩, method_21_code, 3, Option.some Jvm.ClassFile.FieldType.int, (9, 161, 1, 6), (false, 0, 7), [((0 : Nat), (8 : Nat), (11 : Nat), (44 : Nat)), ((0 : Nat), (8 : Nat), (14 : Nat), (13 : Nat))]),
  (⟨"SoupTableModel", "sign", "(C)Z"⟩, prog_8_method_67_code, 2, Option.some Jvm.ClassFile.FieldType.boolean, (0, 0, 0, 0), (false, 0, 6), []),
  (⟨"SoupTableModel", "manners", "(I)Z"⟩, prog_8_method_69_code, 2, Option.some Jvm.ClassFile.FieldType.boolean, (1, 21, 0, 0), (false, 0, 6), []),
  (⟨"SoupTableModel", "digits", "(II)Z"⟩, prog_8_method_68_code, 4, Option.some Jvm.ClassFile.FieldType.boolean, (1, 22, 0, 0), (false, 0, 6), []),
  (⟨"SoupTableModel", "isCommand", "()Z"⟩, prog_8_method_70_code, 1, Option.some Jvm.ClassFile.FieldType.boolean, (2, 45, 0, 0), (false, 0, 6), []),
  (⟨"SoupTableModel", "carries", "()Z"⟩, prog_8_method_71_code, 1, Option.some Jvm.ClassFile.FieldType.boolean, (7, 152, 0, 0), (false, 0, 6), []),
  (⟨"SoupTableModel", "comesBack", "()V"⟩, prog_8_method_6_code, 2, none, (0, 0, 0, 0), (false, 0, 6), []),
  (⟨"SoupTableModel", "commands", "()I"⟩, prog_8_method_72_code, 4, Option.some Jvm.ClassFile.FieldType.int, (8, 172, 0, 0), (false, 0, 6), [])]
def MT_6 : List (MethodName × ByteArray × Nat × Option FieldType × (Nat × Nat × Nat × Nat) × (Bool × Nat × Nat) × List (Nat × Nat × Nat × Nat)) := [
  (⟨"SoupTable", "faultPosition", "()I"⟩, prog_1_method_27_code, 1, Option.some Jvm.ClassFile.FieldType.int, (0, 0, 0, 0), (false, 0, 5), []),
  (⟨"SoupTableModel", "faultPosition", "()I"⟩, prog_8_method_73_code, 1, Option.some Jvm.ClassFile.FieldType.int, (0, 0, 0, 0), (false, 0, 6), []),
  (⟨"SoupTable", "reason", "(I)I"⟩, prog_1_method_28_code, 2, Option.some Jvm.ClassFile.FieldType.int, (8, 120, 1, 6), (false, 0, 5), []),
  (⟨"SoupTableLaw", "reason", "(LSoupTable;I[J)I"⟩, method_22_code, 4, Option.some Jvm.ClassFile.FieldType.int, (9, 141, 1, 6), (false, 0, 7), [((0 : Nat), (9 : Nat), (12 : Nat), (44 : Nat)), ((0 : Nat), (9 : Nat), (15 : Nat), (56 : Nat))]),
  (⟨"SoupTableModel", "reason", "(I)I"⟩, prog_8_method_74_code, 2, Option.some Jvm.ClassFile.FieldType.int, (1, 22, 0, 0), (false, 0, 6), []),
  (⟨"SoupTable", "write", "(C)V"⟩, prog_1_method_40_code, 2, none, (0, 0, 0, 0), (false, 0, 5), []),
  (⟨"SoupTable", "writeSeat", "(IZ)V"⟩, prog_1_method_39_code, 4, none, (4, 85, 0, 0), (false, 0, 5), []),
  (⟨"SoupTable", "line", "()I"⟩, prog_1_method_29_code, 3, Option.some Jvm.ClassFile.FieldType.int, (6, 135, 0, 0), (false, 0, 5), []),
  (⟨"SoupTableModel", "line", "()I"⟩, prog_8_method_75_code, 3, Option.some Jvm.ClassFile.FieldType.int, (6, 135, 0, 0), (false, 0, 6), []),
  (⟨"SoupTable", "character", "(I)C"⟩, prog_1_method_30_code, 2, Option.some Jvm.ClassFile.FieldType.char, (8, 120, 1, 6), (false, 0, 5), []),
  (⟨"SoupTableLaw", "character", "(LSoupTable;I[J)I"⟩, method_23_code, 4, Option.some Jvm.ClassFile.FieldType.int, (9, 141, 1, 6), (false, 0, 7), [((0 : Nat), (9 : Nat), (12 : Nat), (42 : Nat))]),
  (⟨"SoupTableModel", "character", "(I)C"⟩, prog_8_method_76_code, 2, Option.some Jvm.ClassFile.FieldType.char, (1, 22, 0, 0), (false, 0, 6), []),
  (⟨"SoupTable$Table", "waitsOfAll", "()I"⟩, prog_4_method_35_code, 3, Option.some Jvm.ClassFile.FieldType.int, (0, 0, 0, 0), (false, 0, 2), []),
  (⟨"SoupTable", "meanWait", "()D"⟩, prog_1_method_31_code, 2, Option.some Jvm.ClassFile.FieldType.double, (8, 120, 1, 6), (false, 0, 5), []),
  (⟨"SoupTableLaw", "meanWait", "(LSoupTable;[D)I"⟩, method_24_code, 3, Option.some Jvm.ClassFile.FieldType.int, (9, 141, 1, 6), (false, 0, 7), [((0 : Nat), (7 : Nat), (10 : Nat), (94 : Nat))]),
  (⟨"SoupTableModel", "all", "(I)I"⟩, prog_8_method_77_code, 4, Option.some Jvm.ClassFile.FieldType.int, (1, 22, 0, 0), (false, 0, 6), []),
  (⟨"SoupTableModel", "meanWait", "()D"⟩, prog_8_method_78_code, 1, Option.some Jvm.ClassFile.FieldType.double, (2, 45, 0, 0), (false, 0, 6), []),
  (⟨"SoupTable$Table", "mostMeals", "()I"⟩, prog_4_method_34_code, 3, Option.some Jvm.ClassFile.FieldType.int, (1, 21, 0, 0), (false, 0, 2), []),
  (⟨"SoupTable", "fairness", "()F"⟩, prog_1_method_32_code, 2, Option.some Jvm.ClassFile.FieldType.float, (8, 120, 1, 6), (false, 0, 5), []),
  (⟨"SoupTableLaw", "fairness", "(LSoupTable;[D)I"⟩, method_25_code, 3, Option.some Jvm.ClassFile.FieldType.int, (9, 141, 1, 6), (false, 0, 7), [((0 : Nat), (8 : Nat), (11 : Nat), (94 : Nat))]),
  (⟨"SoupTableModel", "fairness", "()F"⟩, prog_8_method_79_code, 1, Option.some Jvm.ClassFile.FieldType.float, (2, 45, 0, 0), (false, 0, 6), []),
  (⟨"SoupTable$Table", "askers", "()I"⟩, prog_4_method_31_code, 3, Option.some Jvm.ClassFile.FieldType.int, (0, 0, 0, 0), (false, 0, 2), []),
  (⟨"SoupTable", "account", "(I)I"⟩, prog_1_method_33_code, 2, Option.some Jvm.ClassFile.FieldType.int, (8, 120, 1, 6), (false, 0, 5), []),
  (⟨"SoupTableLaw", "account", "(LSoupTable;I[J)I"⟩, method_26_code, 4, Option.some Jvm.ClassFile.FieldType.int, (9, 141, 1, 6), (false, 0, 7), [((0 : Nat), (9 : Nat), (12 : Nat), (44 : Nat))]),
  (⟨"SoupTableModel", "account", "(I)I"⟩, prog_8_method_80_code, 2, Option.some Jvm.ClassFile.FieldType.int, (2, 45, 0, 0), (false, 0, 6), []),
  (⟨"SoupTable", "undo", "()I"⟩, prog_1_method_34_code, 1, Option.some Jvm.ClassFile.FieldType.int, (8, 120, 1, 6), (false, 0, 5), []),
  (⟨"SoupTableLaw", "undo", "(LSoupTable;[J)I"⟩, method_27_code, 3, Option.some Jvm.ClassFile.FieldType.int, (9, 140, 1, 6), (false, 0, 7), [((0 : Nat), (8 : Nat), (11 : Nat), (78 : Nat))]),
  (⟨"SoupTableModel", "undo", "()I"⟩, prog_8_method_81_code, 2, Option.some Jvm.ClassFile.FieldType.int, (1, 21, 0, 0), (false, 0, 6), []),
  (⟨"SoupTable", "save", "()I"⟩, prog_1_method_35_code, 1, Option.some Jvm.ClassFile.FieldType.int, (2, 43, 0, 0), (false, 0, 5), []),
  (⟨"SoupTableModel", "save", "()I"⟩, prog_8_method_82_code, 2, Option.some Jvm.ClassFile.FieldType.int, (0, 0, 0, 0), (false, 0, 6), []),
  (⟨"SoupTable", "restore", "()I"⟩, prog_1_method_36_code, 1, Option.some Jvm.ClassFile.FieldType.int, (8, 120, 1, 6), (false, 0, 5), []),
  (⟨"SoupTableLaw", "restore", "(LSoupTable;[J)I"⟩, method_28_code, 3, Option.some Jvm.ClassFile.FieldType.int, (9, 140, 1, 6), (false, 0, 7), [((0 : Nat), (8 : Nat), (11 : Nat), (78 : Nat))])]
def MT_7 : List (MethodName × ByteArray × Nat × Option FieldType × (Nat × Nat × Nat × Nat) × (Bool × Nat × Nat) × List (Nat × Nat × Nat × Nat)) := [
  (⟨"SoupTableModel", "restore", "()I"⟩, prog_8_method_83_code, 2, Option.some Jvm.ClassFile.FieldType.int, (1, 21, 0, 0), (false, 0, 6), []),
  (⟨"SoupTableLaw", "law", "([I)Z"⟩, code, 9, ret, (21, 10892, 603072, 7219306), (true, 2, 7), [])]
def MT : List (MethodName × ByteArray × Nat × Option FieldType × (Nat × Nat × Nat × Nat) × (Bool × Nat × Nat) × List (Nat × Nat × Nat × Nat)) := MT_0 ++ (MT_1 ++ (MT_2 ++ (MT_3 ++ (MT_4 ++ (MT_5 ++ (MT_6 ++ (MT_7)))))))
def MD : MethodName × ByteArray × Nat × Option FieldType × (Nat × Nat × Nat × Nat) × (Bool × Nat × Nat) × List (Nat × Nat × Nat × Nat) := (⟨"", "", ""⟩, ⟨#[]⟩, 0, none, (0, 0, 0, 0), (false, 0, 0), [])
def mI (M : Nat) : MethodName × ByteArray × Nat × Option FieldType × (Nat × Nat × Nat × Nat) × (Bool × Nat × Nat) × List (Nat × Nat × Nat × Nat) := MT.getD M MD
def mY (M : Nat) : MethodName := (mI M).1
def mB (M : Nat) : ByteArray := (mI M).2.1
def mL (M : Nat) : Nat := (mI M).2.2.1
def mR (M : Nat) : Option FieldType := (mI M).2.2.2.1
def mF (M : Nat) : Nat := (mI M).2.2.2.2.1.1
def mO (M : Nat) : Nat := (mI M).2.2.2.2.1.2.1
def mC (M : Nat) : Nat := (mI M).2.2.2.2.1.2.2.1
def mS (M : Nat) : Nat := (mI M).2.2.2.2.1.2.2.2
def m2 (M : Nat) : Bool := (mI M).2.2.2.2.2.1.1
def mK (M : Nat) : Nat := (mI M).2.2.2.2.2.1.2.1
def mN (M : Nat) : Nat := (mI M).2.2.2.2.2.1.2.2
def mH (M : Nat) : List (Nat × Nat × Nat × Nat) := (mI M).2.2.2.2.2.2
def cname (k : Nat) : String := CN.getD k ""
def CT_0 : List (Nat × Nat × (Nat × Nat × Nat) × (Nat × Nat × Nat × Nat)) := [
  (1, 3, (5, 0, 0), (95, 0, 0, 0)),
  (2, 3, (5, 0, 0), (88, 0, 0, 0)),
  (2, 28, (3, 0, 0), (92, 53, 93, 0)),
  (3, 3, (5, 0, 0), (177, 0, 0, 0)),
  (0, 3, (5, 0, 0), (205, 0, 0, 0)),
  (5, 3, (5, 0, 0), (80, 0, 0, 0)),
  (5, 11, (2, 1, 0), (85, 52, 86, 0)),
  (5, 31, (3, 2, 0), (174, 54, 175, 0)),
  (5, 42, (3, 3, 0), (202, 55, 203, 0)),
  (6, 3, (5, 0, 0), (1054, 0, 0, 0)),
  (2, 29, (0, 6, 1), (410, 53, 411, 412)),
  (1, 33, (0, 12, 0), (444, 53, 445, 446)),
  (2, 81, (1, 8, 1), (426, 52, 427, 0)),
  (2, 85, (1, 9, 1), (429, 52, 430, 0)),
  (2, 88, (0, 10, 2), (432, 55, 433, 434)),
  (2, 94, (0, 11, 0), (436, 52, 437, 438)),
  (2, 98, (0, 13, 3), (440, 53, 441, 442)),
  (5, 223, (0, 15, 0), (523, 51, 525, 4)),
  (5, 51, (0, 7, 1), (406, 52, 407, 408)),
  (5, 55, (0, 14, 4), (422, 52, 423, 424)),
  (5, 59, (0, 16, 1), (448, 51, 450, 2)),
  (7, 7, (0, 17, 3), (418, 51, 419, 420)),
  (6, 64, (1, 20, 3), (1132, 56, 1133, 0)),
  (6, 89, (0, 21, 2), (1135, 56, 1137, 7)),
  (6, 93, (0, 22, 0), (1139, 56, 1141, 8)),
  (6, 96, (0, 23, 3), (1143, 56, 1145, 9)),
  (6, 100, (0, 24, 1), (1147, 56, 1149, 10)),
  (6, 57, (0, 26, 1), (1155, 56, 1157, 12)),
  (6, 61, (0, 27, 1), (1159, 56, 1161, 13)),
  (6, 104, (0, 19, 0), (1124, 56, 1126, 5)),
  (6, 107, (0, 25, 3), (1128, 56, 1130, 6)),
  (6, 110, (0, 28, 1), (1151, 56, 1153, 11)),
  (5, 63, (0, 31, 1), (534, 52, 535, 536)),
  (7, 15, (0, 32, 0), (530, 51, 531, 532)),
  (6, 114, (0, 34, 1), (1171, 56, 1173, 15)),
  (6, 118, (0, 35, 0), (1167, 56, 1169, 14)),
  (2, 102, (0, 37, 1), (273, 52, 274, 275)),
  (5, 67, (0, 38, 3), (545, 52, 546, 547)),
  (7, 19, (0, 39, 2), (541, 51, 542, 543)),
  (6, 68, (0, 42, 2), (1187, 56, 1189, 18)),
  (6, 122, (0, 41, 1), (1183, 56, 1185, 17)),
  (6, 75, (0, 43, 1), (1191, 56, 1193, 19)),
  (6, 125, (0, 44, 2), (1179, 56, 1181, 16)),
  (5, 71, (0, 46, 4), (556, 52, 557, 558)),
  (7, 23, (0, 47, 3), (552, 51, 553, 554)),
  (6, 128, (0, 49, 3), (1199, 56, 1201, 20)),
  (5, 74, (0, 51, 2), (567, 52, 568, 569)),
  (7, 26, (0, 52, 1), (563, 51, 564, 565)),
  (6, 131, (0, 54, 1), (1207, 56, 1209, 21)),
  (5, 78, (0, 56, 2), (578, 52, 579, 580)),
  (7, 30, (0, 57, 1), (574, 51, 575, 576)),
  (6, 134, (0, 59, 1), (1215, 56, 1217, 22)),
  (2, 117, (0, 61, 2), (281, 52, 282, 283)),
  (5, 81, (0, 62, 2), (589, 52, 590, 591)),
  (7, 33, (0, 63, 1), (585, 51, 586, 587)),
  (6, 82, (0, 65, 1), (1227, 56, 1229, 24)),
  (6, 72, (0, 66, 1), (1231, 56, 1233, 25)),
  (6, 137, (0, 67, 1), (1223, 56, 1225, 23)),
  (2, 150, (0, 12, 0), (617, 53, 445, 446)),
  (2, 177, (0, 72, 1), (626, 52, 627, 628)),
  (2, 169, (0, 74, 0), (304, 52, 297, 298)),
  (2, 172, (1, 75, 1), (305, 61, 306, 0)),
  (2, 153, (0, 73, 1), (622, 52, 623, 624)),
  (2, 157, (0, 76, 0), (630, 52, 301, 302))]
def CT_1 : List (Nat × Nat × (Nat × Nat × Nat) × (Nat × Nat × Nat × Nat)) := [
  (2, 160, (0, 78, 1), (277, 52, 278, 279)),
  (2, 163, (0, 79, 1), (635, 52, 636, 637)),
  (2, 166, (0, 80, 0), (639, 53, 640, 641)),
  (1, 42, (1, 82, 2), (647, 62, 648, 0)),
  (2, 131, (0, 71, 1), (613, 52, 614, 615)),
  (2, 135, (0, 77, 0), (618, 52, 619, 620)),
  (2, 138, (0, 81, 1), (631, 52, 632, 633)),
  (2, 141, (0, 83, 0), (643, 53, 644, 645)),
  (2, 121, (0, 69, 0), (604, 52, 326, 327)),
  (2, 125, (0, 70, 0), (605, 52, 606, 607)),
  (2, 128, (0, 84, 0), (609, 52, 610, 611)),
  (5, 84, (0, 85, 2), (600, 52, 601, 602)),
  (7, 36, (0, 86, 1), (596, 51, 597, 598)),
  (6, 85, (0, 89, 0), (1259, 56, 1261, 31)),
  (6, 78, (0, 91, 2), (1267, 56, 1269, 33)),
  (6, 140, (0, 92, 1), (1271, 56, 1273, 34)),
  (6, 143, (0, 88, 1), (1251, 56, 1253, 29)),
  (6, 146, (0, 90, 0), (1255, 56, 1257, 30)),
  (6, 149, (0, 93, 1), (1263, 56, 1265, 32)),
  (6, 152, (1, 82, 2), (1275, 62, 648, 0)),
  (6, 157, (0, 94, 0), (1247, 56, 1249, 28)),
  (6, 160, (0, 95, 1), (1243, 56, 1245, 27)),
  (6, 163, (0, 96, 1), (1239, 56, 1241, 26)),
  (5, 87, (0, 37, 1), (682, 52, 274, 275)),
  (5, 107, (0, 98, 1), (712, 53, 713, 714)),
  (7, 39, (0, 99, 2), (678, 51, 679, 680)),
  (5, 112, (0, 61, 2), (723, 52, 282, 283)),
  (7, 46, (0, 102, 2), (719, 51, 720, 721)),
  (7, 50, (0, 105, 1), (727, 51, 728, 729)),
  (5, 122, (0, 108, 1), (740, 52, 270, 271)),
  (7, 53, (0, 109, 1), (736, 51, 737, 738)),
  (6, 166, (0, 111, 1), (1292, 56, 1294, 35)),
  (5, 130, (0, 73, 1), (764, 52, 623, 624)),
  (7, 58, (0, 113, 1), (760, 51, 761, 762)),
  (6, 169, (0, 117, 1), (1304, 56, 1306, 36)),
  (4, 21, (0, 108, 1), (269, 52, 270, 271)),
  (4, 15, (1, 119, 2), (266, 68, 267, 0)),
  (5, 141, (1, 120, 1), (263, 68, 264, 0)),
  (6, 172, (0, 122, 0), (1312, 56, 1314, 37)),
  (4, 25, (1, 120, 1), (292, 68, 264, 0)),
  (4, 29, (1, 124, 2), (293, 68, 294, 0)),
  (4, 33, (0, 74, 0), (296, 52, 297, 298)),
  (4, 46, (0, 76, 0), (300, 52, 301, 302)),
  (5, 147, (1, 125, 1), (289, 68, 290, 0)),
  (6, 175, (0, 127, 0), (1320, 56, 1322, 38)),
  (4, 50, (1, 129, 3), (318, 68, 319, 0)),
  (5, 150, (1, 130, 1), (315, 68, 316, 0)),
  (6, 178, (0, 128, 0), (1328, 56, 1317, 1318)),
  (5, 156, (0, 69, 0), (325, 52, 326, 327)),
  (5, 160, (0, 133, 0), (329, 52, 330, 331)),
  (5, 165, (0, 84, 0), (774, 52, 610, 611)),
  (5, 168, (0, 70, 0), (775, 52, 606, 607)),
  (7, 61, (0, 136, 1), (769, 51, 770, 771)),
  (6, 181, (0, 138, 0), (1337, 56, 1339, 39)),
  (6, 184, (0, 139, 0), (1341, 56, 1343, 40)),
  (7, 64, (0, 141, 0), (779, 51, 780, 781)),
  (2, 186, (0, 144, 1), (799, 53, 800, 801)),
  (2, 183, (0, 145, 1), (795, 52, 796, 797)),
  (5, 174, (0, 146, 1), (791, 52, 792, 793)),
  (7, 67, (0, 147, 1), (787, 51, 788, 789)),
  (6, 187, (0, 149, 2), (1353, 56, 1355, 41)),
  (2, 190, (1, 151, 2), (341, 62, 342, 0)),
  (5, 179, (0, 152, 0), (337, 52, 338, 339)),
  (6, 190, (1, 151, 2), (1365, 62, 342, 0))]
def CT_2 : List (Nat × Nat × (Nat × Nat × Nat) × (Nat × Nat × Nat × Nat)) := [
  (6, 193, (0, 154, 1), (1361, 56, 1363, 42)),
  (5, 182, (0, 156, 2), (811, 52, 812, 813)),
  (7, 70, (0, 157, 2), (807, 51, 808, 809)),
  (7, 74, (0, 160, 1), (819, 51, 820, 821)),
  (8, 335, (0, 164, 0), (867, 65, 868, 869)),
  (9, 88, (1, 166, 1), (874, 70, 875, 0)),
  (9, 92, (1, 82, 2), (877, 62, 648, 0)),
  (9, 38, (1, 151, 2), (878, 62, 342, 0)),
  (9, 95, (1, 167, 4), (879, 70, 880, 0)),
  (8, 492, (0, 163, 0), (365, 65, 366, 367)),
  (8, 505, (0, 165, 0), (863, 65, 864, 865)),
  (8, 637, (1, 168, 4), (871, 70, 872, 0)),
  (8, 633, (0, 169, 2), (859, 65, 860, 861)),
  (8, 1059, (1, 172, 3), (379, 72, 380, 0)),
  (9, 9, (1, 173, 2), (374, 65, 375, 0)),
  (8, 495, (1, 174, 2), (371, 70, 372, 0)),
  (3, 71, (0, 176, 0), (932, 54, 933, 934)),
  (3, 74, (0, 177, 0), (936, 54, 937, 938)),
  (3, 35, (0, 170, 1), (855, 65, 856, 857)),
  (3, 44, (1, 171, 1), (917, 54, 918, 0)),
  (3, 48, (0, 165, 0), (926, 65, 864, 865)),
  (3, 51, (0, 175, 1), (927, 65, 362, 363)),
  (3, 55, (0, 178, 2), (928, 54, 929, 930)),
  (3, 23, (0, 179, 0), (850, 54, 851, 852)),
  (3, 30, (0, 180, 0), (940, 54, 941, 942)),
  (2, 53, (0, 14, 4), (950, 52, 423, 424)),
  (2, 57, (0, 31, 1), (951, 52, 535, 536)),
  (2, 61, (0, 38, 3), (952, 52, 546, 547)),
  (2, 65, (0, 46, 4), (953, 52, 557, 558)),
  (2, 68, (0, 51, 2), (954, 52, 568, 569)),
  (2, 72, (0, 56, 2), (955, 52, 579, 580)),
  (2, 75, (0, 62, 2), (956, 52, 590, 591)),
  (2, 78, (0, 85, 2), (957, 52, 601, 602)),
  (5, 197, (0, 181, 0), (846, 54, 847, 848)),
  (5, 205, (0, 179, 0), (945, 54, 851, 852)),
  (5, 208, (0, 182, 2), (946, 52, 947, 948)),
  (5, 212, (0, 180, 0), (958, 54, 941, 942)),
  (7, 80, (0, 183, 0), (842, 51, 843, 844)),
  (6, 202, (0, 185, 1), (1386, 56, 1388, 45)),
  (6, 210, (0, 186, 1), (1382, 56, 1384, 44)),
  (6, 213, (0, 187, 2), (1390, 56, 1392, 46)),
  (6, 216, (0, 188, 0), (1378, 56, 1380, 43)),
  (6, 219, (0, 189, 0), (1394, 56, 1396, 47)),
  (6, 222, (0, 190, 0), (1398, 56, 1400, 48)),
  (7, 83, (0, 194, 1), (963, 51, 964, 965)),
  (5, 239, (0, 197, 1), (352, 51, 354, 0)),
  (5, 308, (0, 175, 1), (361, 65, 362, 363)),
  (5, 243, (0, 198, 2), (356, 51, 358, 1)),
  (6, 230, (0, 175, 1), (1415, 65, 362, 363)),
  (7, 86, (0, 201, 1), (972, 51, 973, 974)),
  (5, 254, (0, 204, 0), (1001, 52, 1002, 1003)),
  (7, 90, (0, 205, 0), (994, 51, 995, 996)),
  (6, 236, (0, 207, 1), (1424, 56, 1426, 49)),
  (2, 195, (1, 82, 2), (1016, 62, 648, 0)),
  (5, 257, (0, 209, 0), (1012, 52, 1013, 1014)),
  (7, 96, (0, 210, 0), (1008, 51, 1009, 1010)),
  (5, 271, (0, 11, 0), (1025, 52, 437, 438)),
  (5, 274, (0, 74, 0), (1026, 52, 297, 298)),
  (5, 277, (1, 75, 1), (1027, 61, 306, 0)),
  (5, 282, (0, 213, 0), (1028, 52, 1029, 1030)),
  (7, 100, (0, 214, 1), (1021, 51, 1022, 1023)),
  (7, 103, (0, 217, 0), (1036, 51, 1037, 1038)),
  (7, 106, (0, 222, 0), (1044, 51, 1045, 1046)),
  (7, 109, (2, 4, 0), (77, 51, 78, 0))]
def CT_3 : List (Nat × Nat × (Nat × Nat × Nat) × (Nat × Nat × Nat × Nat)) := [
  (7, 112, (2, 5, 0), (1051, 56, 1052, 0)),
  (7, 113, (1, 18, 5), (414, 50, 415, 0)),
  (7, 118, (0, 29, 3), (1120, 56, 1121, 1122)),
  (7, 119, (0, 30, 0), (1116, 56, 1117, 1118)),
  (7, 122, (1, 33, 2), (527, 50, 528, 0)),
  (7, 125, (0, 36, 0), (1163, 56, 1164, 1165)),
  (7, 126, (1, 40, 4), (538, 50, 539, 0)),
  (7, 129, (0, 45, 2), (1175, 56, 1176, 1177)),
  (7, 130, (1, 48, 5), (549, 50, 550, 0)),
  (7, 132, (0, 50, 3), (1195, 56, 1196, 1197)),
  (7, 133, (1, 53, 3), (560, 50, 561, 0)),
  (7, 136, (0, 55, 1), (1203, 56, 1204, 1205)),
  (7, 137, (1, 58, 3), (571, 50, 572, 0)),
  (7, 139, (0, 60, 1), (1211, 56, 1212, 1213)),
  (7, 140, (1, 64, 3), (582, 50, 583, 0)),
  (7, 142, (0, 68, 1), (1219, 56, 1220, 1221)),
  (7, 143, (1, 87, 3), (593, 50, 594, 0)),
  (7, 145, (0, 97, 1), (1235, 56, 1236, 1237)),
  (7, 146, (1, 100, 4), (650, 50, 651, 0)),
  (7, 148, (0, 101, 2), (1276, 56, 1277, 1278)),
  (7, 149, (1, 103, 4), (716, 50, 717, 0)),
  (7, 152, (0, 104, 2), (1280, 56, 1281, 1282)),
  (7, 153, (1, 106, 3), (724, 50, 725, 0)),
  (7, 155, (0, 107, 1), (1284, 56, 1285, 1286)),
  (7, 156, (1, 110, 3), (732, 50, 733, 0)),
  (7, 158, (0, 112, 1), (1288, 56, 1289, 1290)),
  (7, 159, (1, 114, 3), (757, 50, 758, 0)),
  (7, 161, (0, 115, 1), (1296, 56, 1297, 1298)),
  (7, 162, (0, 116, 0), (255, 51, 256, 257)),
  (7, 165, (0, 118, 0), (1300, 56, 1301, 1302)),
  (7, 166, (0, 121, 0), (259, 51, 260, 261)),
  (7, 169, (0, 123, 0), (1308, 56, 1309, 1310)),
  (7, 170, (0, 126, 0), (285, 51, 286, 287)),
  (7, 173, (0, 128, 0), (1316, 56, 1317, 1318)),
  (7, 174, (0, 131, 0), (311, 51, 312, 313)),
  (7, 177, (0, 132, 0), (1324, 56, 1325, 1326)),
  (7, 178, (0, 134, 0), (321, 51, 322, 323)),
  (7, 182, (0, 135, 0), (1329, 56, 1330, 1331)),
  (7, 183, (1, 137, 3), (766, 50, 767, 0)),
  (7, 185, (0, 140, 1), (1333, 56, 1334, 1335)),
  (7, 186, (1, 142, 2), (776, 50, 777, 0)),
  (7, 188, (0, 143, 0), (1345, 56, 1346, 1347)),
  (7, 189, (1, 148, 3), (784, 50, 785, 0)),
  (7, 191, (0, 150, 1), (1349, 56, 1350, 1351)),
  (7, 192, (0, 153, 0), (333, 51, 334, 335)),
  (7, 195, (0, 155, 0), (1357, 56, 1358, 1359)),
  (7, 196, (1, 158, 4), (804, 50, 805, 0)),
  (7, 198, (0, 159, 2), (1366, 56, 1367, 1368)),
  (7, 199, (1, 161, 3), (815, 50, 816, 0)),
  (7, 202, (0, 162, 1), (1370, 56, 1371, 1372)),
  (7, 203, (1, 184, 2), (839, 50, 840, 0)),
  (7, 205, (0, 191, 0), (1374, 56, 1375, 1376)),
  (7, 206, (0, 192, 0), (344, 51, 345, 346)),
  (7, 209, (0, 193, 0), (1402, 56, 1403, 1404)),
  (7, 210, (1, 195, 3), (960, 50, 961, 0)),
  (7, 212, (0, 196, 1), (1406, 56, 1407, 1408)),
  (7, 213, (0, 199, 0), (348, 51, 349, 350)),
  (7, 216, (0, 200, 0), (1410, 56, 1411, 1412)),
  (7, 217, (1, 202, 3), (969, 50, 970, 0)),
  (7, 219, (0, 203, 1), (1416, 56, 1417, 1418)),
  (7, 220, (1, 206, 2), (977, 50, 978, 0)),
  (7, 223, (0, 208, 0), (1420, 56, 1421, 1422)),
  (7, 224, (1, 211, 2), (1005, 50, 1006, 0)),
  (7, 226, (0, 212, 0), (1428, 56, 1429, 1430))]
def CT_4 : List (Nat × Nat × (Nat × Nat × Nat) × (Nat × Nat × Nat × Nat)) := [
  (7, 227, (1, 215, 3), (1018, 50, 1019, 0)),
  (7, 229, (0, 216, 1), (1432, 56, 1433, 1434)),
  (7, 230, (1, 218, 2), (1033, 50, 1034, 0)),
  (7, 232, (0, 219, 0), (1436, 56, 1437, 1438)),
  (7, 233, (0, 220, 0), (402, 51, 403, 404)),
  (7, 236, (0, 221, 0), (1440, 56, 1441, 1442)),
  (7, 237, (1, 223, 2), (1041, 50, 1042, 0)),
  (7, 239, (0, 224, 0), (1444, 56, 1445, 1446))]
/-- calls: the class that calls, the entry, (kind, method, how many arguments), the words by their places -/
def CT : List (Nat × Nat × (Nat × Nat × Nat) × (Nat × Nat × Nat × Nat)) := CT_0 ++ (CT_1 ++ (CT_2 ++ (CT_3 ++ (CT_4))))
def cpos : List Nat := [94, 87, 176, 204, 79, 1053, 413, 409, 428, 431, 435, 439, 447, 443, 425, 526, 451, 421, 416, 1127, 1134, 1138, 1142, 1146, 1150, 1131, 1158, 1162, 1154, 1123, 1119, 537, 533, 529, 1174, 1170, 1166, 276, 548, 544, 540, 1186, 1190, 1194, 1182, 1178, 559, 555, 551, 1202, 1198, 570, 566, 562, 1210, 1206, 581, 577, 573, 1218, 1214, 284, 592, 588, 584, 1230, 1234, 1226, 1222, 328, 608, 616, 629, 625, 299, 307, 303, 621, 280, 638, 642, 634, 649, 646, 612, 603, 599, 595, 1254, 1262, 1258, 1270, 1274, 1266, 1250, 1246, 1242, 1238, 715, 681, 652, 1279, 722, 718, 1283, 730, 726, 1287, 272, 739, 734, 1295, 1291, 763, 759, 1299, 258, 1307, 1303, 268, 265, 262, 1315, 1311, 295, 291, 288, 1323, 1319, 320, 317, 314, 1327, 332, 324, 1332, 772, 768, 1340, 1344, 1336, 782, 778, 1348, 802, 798, 794, 790, 786, 1356, 1352, 343, 340, 336, 1364, 1360, 814, 810, 806, 1369, 822, 817, 1373, 368, 870, 866, 876, 881, 873, 862, 858, 919, 381, 376, 373, 364, 935, 939, 931, 853, 943, 849, 949, 845, 841, 1389, 1385, 1393, 1381, 1397, 1401, 1377, 347, 1405, 966, 962, 1409, 355, 359, 351, 1413, 975, 971, 1419, 1004, 997, 979, 1427, 1423, 1015, 1011, 1007, 1431, 1031, 1024, 1020, 1435, 1039, 1035, 1439, 405, 1443, 1047, 1043, 1447, 0]
def ctf (k idx : Nat) : Option (Nat × Nat × (Nat × Nat × Nat) × (Nat × Nat × Nat × Nat)) := CT.find? fun q => q.1 == k && q.2.1 == idx
def call (k idx : Nat) : Option (Nat × Nat × Nat) := (ctf k idx).map fun q => q.2.2.1
/-- fields: the class whose code speaks, the entry, the object's class, the place, the word's place -/
def FT : List (Nat × Nat × Nat × Nat × Nat) := [(2, 11, 2, 0, 136), (2, 17, 2, 1, 139), (2, 21, 2, 3, 144), (2, 25, 2, 4, 146), (3, 9, 3, 0, 178), (3, 15, 3, 4, 186), (5, 12, 4, 0, 218), (5, 16, 4, 1, 219), (5, 19, 4, 2, 220), (5, 22, 4, 4, 222), (5, 26, 4, 6, 224), (5, 32, 4, 7, 225), (5, 36, 4, 8, 226), (5, 43, 4, 9, 227), (5, 47, 4, 10, 228), (6, 9, 5, 0, 1055), (6, 13, 5, 1, 1056), (6, 16, 5, 2, 1057), (6, 19, 5, 3, 1058), (6, 22, 5, 5, 1060), (6, 25, 5, 7, 1062), (6, 29, 5, 9, 1064), (6, 32, 5, 13, 1068), (6, 35, 5, 14, 1069), (1, 9, 1, 0, 96), (1, 15, 1, 1, 99), (1, 18, 1, 2, 101), (1, 36, 1, 3, 103), (1, 39, 1, 4, 107), (1, 21, 1, 5, 109), (1, 24, 1, 6, 111), (1, 27, 1, 7, 113), (1, 30, 1, 8, 115), (2, 33, 2, 2, 142), (2, 36, 2, 5, 148), (2, 39, 2, 6, 150), (2, 42, 2, 7, 152), (0, 9, 0, 0, 206), (0, 15, 0, 1, 208), (5, 288, 4, 5, 223), (5, 215, 0, 2, 210), (6, 39, 5, 19, 1074), (6, 48, 5, 15, 1070), (6, 51, 5, 16, 1071), (6, 54, 5, 17, 1072), (6, 45, 5, 18, 1073), (6, 42, 5, 4, 1059), (2, 105, 1, 0, 97), (2, 108, 1, 3, 105), (2, 111, 1, 1, 100), (2, 114, 1, 2, 102), (2, 147, 1, 5, 110), (2, 144, 1, 4, 108), (2, 180, 1, 7, 114), (5, 103, 2, 0, 138), (5, 118, 2, 1, 140), (5, 135, 2, 2, 143), (5, 138, 1, 3, 106), (4, 9, 2, 2, 141), (4, 37, 2, 0, 137), (4, 41, 1, 3, 104), (5, 153, 2, 3, 145), (5, 186, 3, 1, 181), (5, 194, 3, 0, 179), (6, 196, 5, 10, 1065), (3, 19, 3, 2, 182), (3, 27, 3, 1, 180), (3, 41, 3, 3, 185), (2, 45, 3, 4, 187), (2, 50, 3, 3, 184), (5, 202, 3, 2, 183), (6, 199, 5, 11, 1066), (6, 206, 5, 12, 1067), (5, 228, 0, 0, 207), (5, 233, 0, 1, 209), (5, 236, 4, 11, 229), (5, 303, 1, 0, 98), (6, 225, 5, 8, 1063), (2, 198, 1, 6, 112), (5, 262, 2, 5, 149), (5, 265, 2, 4, 147), (5, 268, 2, 6, 151), (5, 285, 2, 7, 153), (5, 295, 4, 3, 221), (6, 239, 5, 6, 1061)]
def ftf (k idx : Nat) : Option (Nat × Nat × Nat × Nat × Nat) := FT.find? fun q => q.1 == k && q.2.1 == idx
def fld (k idx : Nat) : Option (Nat × Nat) := (ftf k idx).map fun q => (q.2.2.1, q.2.2.2.1)
def NT : List (Nat × Nat × Nat × Nat) := [(2, 9, 1, 89), (5, 9, 2, 83), (5, 29, 3, 172), (5, 40, 0, 200), (7, 8, 4, 75), (7, 110, 5, 1049)]
def ntf (k idx : Nat) : Option (Nat × Nat × Nat × Nat) := NT.find? fun q => q.1 == k && q.2.1 == idx
def newc (k idx : Nat) : Option Nat := (ntf k idx).map fun q => q.2.2.1
def kn (ci : Nat) : Nat := (KL.getD ci ("", TX0, 0)).2.2
def dflt (ci : Nat) : List Value := (List.range (kn ci)).map fun j => defaultValue ((KTY.getD ci tyX0) j)
def LTX : List String := ["+-mkwpdt", ".?_12", "hdd", "", "dh", "ddd", "n", "d"]
def LBY : List (List Int32) := [[43, 45, 109, 107, 119, 112, 100, 116], [46, 63, 95, 49, 50], [104, 100, 100], [], [100, 104], [100, 100, 100], [110], [100]]
def LT : List (Nat × Nat × Nat × Nat) := [(5, 306, 1, 360), (3, 33, 0, 854), (3, 59, 2, 920), (3, 61, 3, 921), (3, 63, 4, 922), (3, 65, 5, 923), (3, 67, 6, 924), (3, 69, 7, 925), (6, 228, 1, 1414)]
def ltf (k idx : Nat) : Option (Nat × Nat × Nat × Nat) := LT.find? fun q => q.1 == k && q.2.1 == idx
def lit (k idx : Nat) : Option Nat := (ltf k idx).map fun q => q.2.2.1
def IT : List (Nat × Nat × Int32 × Nat) := [(10, 265, 1431655765, 308), (10, 266, 858993459, 309), (10, 267, 252645135, 310)]
def itf (k idx : Nat) : Option (Nat × Nat × Int32 × Nat) := IT.find? fun q => q.1 == k && q.2.1 == idx
def icst (k idx : Nat) : Option Int32 := (itf k idx).map fun q => q.2.2.1
def EXN : List String := ["java/lang/ArithmeticException", "java/lang/IllegalArgumentException", "java/lang/IllegalStateException", "java/lang/IndexOutOfBoundsException", "java/lang/UnsupportedOperationException", "java/util/NoSuchElementException"]
/-- throws: the method, where, 0 for ldc and 1 for ldc_w, which exception, the entries -/
def TT : List (Nat × Nat × Nat × Nat × Nat × Nat × Nat) := [(16, 13, 1, 4, 218, 301, 222), (99, 11, 0, 3, 91, 93, 95), (99, 31, 0, 1, 98, 100, 102), (102, 11, 0, 3, 91, 93, 95), (105, 11, 0, 3, 91, 116, 95), (109, 11, 0, 3, 91, 93, 95), (109, 35, 0, 5, 125, 127, 129), (113, 14, 0, 5, 125, 133, 129), (136, 10, 0, 1, 98, 163, 102), (141, 54, 0, 5, 125, 172, 129), (147, 14, 0, 5, 125, 177, 129), (157, 22, 0, 3, 91, 93, 95), (160, 12, 0, 2, 189, 191, 193), (183, 27, 0, 1, 98, 200, 102), (183, 152, 0, 4, 218, 220, 222), (194, 9, 0, 1, 98, 226, 102), (194, 29, 0, 5, 125, 231, 129), (201, 12, 0, 3, 91, 247, 95), (205, 12, 0, 0, 249, 251, 253), (210, 12, 1, 0, 249, 260, 253), (214, 160, 1, 1, 98, 291, 102), (217, 7, 1, 2, 189, 293, 193), (222, 7, 1, 2, 189, 299, 193)]
def ttf (M pc : Nat) : Option (Nat × Nat × Nat × Nat × Nat × Nat × Nat) := TT.find? fun q => q.1 == M && q.2.1 == pc
def thr (M pc : Nat) : Option String := (ttf M pc).map fun q => EXN.getD q.2.2.2.1 ""
/-- handlers: the method, the exception, the handler, the local that takes it, where it goes on -/
def HT : List (Nat × Nat × Nat × Nat × Nat) := [(18, 4, 15, 5, 17), (33, 4, 11, 2, 12), (40, 4, 13, 4, 15), (48, 4, 15, 5, 17), (53, 4, 12, 3, 13), (58, 4, 12, 3, 13), (64, 4, 12, 3, 13), (87, 4, 12, 3, 13), (100, 3, 13, 4, 15), (100, 1, 17, 4, 19), (103, 3, 13, 4, 15), (106, 3, 12, 3, 13), (110, 3, 12, 3, 13), (110, 5, 15, 3, 16), (114, 5, 12, 3, 13), (137, 1, 12, 3, 13), (142, 5, 11, 2, 12), (148, 5, 12, 3, 13), (158, 3, 20, 4, 22), (161, 2, 12, 3, 13), (184, 1, 11, 2, 12), (184, 4, 14, 2, 15), (195, 1, 12, 3, 13), (195, 5, 15, 3, 16), (202, 3, 12, 3, 13), (206, 0, 10, 2, 11), (211, 0, 11, 2, 12), (215, 1, 12, 3, 13), (218, 2, 11, 2, 12), (223, 2, 11, 2, 12)]
def hdl (M : Nat) (E : String) : Option (Nat × Nat) := (HT.find? fun q => q.1 == M && EXN.getD q.2.1 "" == E).map fun q => (q.2.2.2.1, q.2.2.2.2)
def SGT : List (Nat × Nat × Nat × Nat) := [(8, 38, 0, 369), (8, 1053, 1, 377)]
def sgf (k idx : Nat) : Option Nat := (SGT.find? fun q => q.1 == k && q.2.1 == idx).map fun q => q.2.2.1
def SFT : List (Nat × Nat × Nat) := [(15, 1, 1467), (9, 0, 1468)]
def sff (idx : Nat) : Option Nat := (SFT.find? fun q => q.1 == idx).map fun q => q.2.1
def LAWM : Nat := 225
/-! ===== THE ABSTRACT MACHINE ===== -/
/-- what it takes as given: the String constants' addresses, String → its bytes' address, bytes → (length, what they hold), the static formatter, the script (address, length, ints) -/
abbrev Cxt : Type := (Nat → Nat) × (Nat → Option Nat) × (Nat → Option (Nat × (Nat → Int32))) × Option Nat × (Nat × Nat × (Nat → Int32))
abbrev Nxt : Type := Nat × Lcs × Stk × Wld × Option Nat × Nat × Nat
abbrev Cll : Type := Nat × List Value × Stk
def gf (w : Wld) (a ci k : Nat) : Option Value := match w a with
  | some (.inr (ci2, fs)) => if ci2 = ci then fs[k]? else none
  | _ => none
def okv (ty : FieldType) (v : Value) : Bool := match ty, v with
  | .int, .int _ => true
  | .boolean, .int x => decide (narrow .boolean (.int x) = .int x) && fits .boolean (.int x)
  | .char, .int x => decide (narrow .char (.int x) = .int x) && fits .char (.int x)
  | .object _, .ref _ => true
  | .array _, .ref _ => true
  | _, _ => false
def fty (ci k : Nat) : FieldType := (KTY.getD ci tyX0) k
def pf (w : Wld) (a ci k : Nat) (v : Value) : Option Wld := match w a with
  | some (.inr (ci2, fs)) => if ci2 = ci ∧ k < fs.length ∧ okv (fty ci k) v = true then some (wset w a (.inr (ci2, fs.set k v))) else none
  | _ => none
/-- a final field is written in its own class's constructor alone -/
def pok (M ci k : Nat) : Bool := match KL[ci]? with
  | some q => !(q.2.1 k).2.2.2 || ((mY M).name == "<init>" && cname (mN M) == (q.2.1 k).1)
  | none => false
def inr_ (i : Int32) (n : Nat) : Bool := decide (¬ (i < 0 ∨ n ≤ i.toNatClampNeg))
def ga (w : Wld) (a t : Nat) (i : Int32) : Option Value := match w a with
  | some (.inl (t2, n, f)) => if t2 = t ∧ inr_ i n = true then some (f i.toNatClampNeg) else none
  | _ => none
def sa (w : Wld) (a t : Nat) (i : Int32) (v : Value) : Option Wld := match w a with
  | some (.inl (t2, n, f)) => if t2 = t ∧ inr_ i n = true then some (wset w a (.inl (t2, n, updV f i.toNatClampNeg v))) else none
  | _ => none
def hasc (w : Wld) (a ci : Nat) : Bool := match w a with
  | some (.inr (ci2, _)) => decide (ci2 = ci)
  | _ => false
/-- the kinds of arrays -/
def ATY : List FieldType := [.int, .char, .long, .double, .object "SoupTable$Seat", .object "SoupTable$Table"]
def atg (ty : ArrayType) : Option (Nat × Value) := match ty with
  | .int => some (0, .int 0)
  | .char => some (1, .int 0)
  | .long => some (2, .long 0)
  | .double => some (3, .double 0)
  | _ => none
def popv : Nat → Stk → List Value → Option (List Value × Stk)
  | 0, st, acc => some (acc, st)
  | k + 1, v :: st, acc => if v.category = 1 then popv k st (v :: acc) else none
  | _ + 1, [], _ => none
def okr (ty : Option FieldType) (x : Int32) : Bool := match ty with
  | some .int => true
  | some .boolean => decide (narrow .boolean (.int x) = .int x)
  | some .char => decide (narrow .char (.int x) = .int x)
  | some .byte => decide (narrow .byte (.int x) = .int x)
  | _ => false
def isob (ty : Option FieldType) : Bool := match ty with
  | some (.object _) => true
  | _ => false
/-- the method fits into its caller's room -/
def fits2 (M M2 : Nat) : Bool := decide (mF M2 + 1 ≤ mF M ∧ 8 + (mL M2 + 11) + mO M2 ≤ mO M)
def rcv (X : Cxt) (w : Wld) (M2 b : Nat) : Bool := match mK M2 with
  | 1 => (X.2.1 b).isSome
  | _ => match w b with
    | some (.inr (ci, _)) => decide ((KL.getD ci ("", TX0, 0)).1 = (mY M2).cls)
    | _ => false
def nxt (pc : Nat) (ls : Lcs) (st : Stk) (w : Wld) (n : Option Nat) (c sl : Nat) : Option (Nxt ⊕ (Otc ⊕ Cll)) := some (.inl (pc, ls, st, w, n, c, sl))
def xcl (M M2 : Nat) (vs : List Value) (r : Stk) : Option (Nxt ⊕ (Otc ⊕ Cll)) := if fits2 M M2 = true ∧ r.length ≤ 4 then some (.inr (.inr (M2, vs, r))) else none
def xst (X : Cxt) (M pc : Nat) (i : Instr) (len : Nat) (ls : Lcs) (st : Stk) (w : Wld) (n : Option Nat) (c sl : Nat) : Option (Nxt ⊕ (Otc ⊕ Cll)) := match i with
  | .getfield idx => g1 len 3 (qr st fun a r => match mK M with
    | 1 => match X.2.1 a, sff idx with
      | some v, some 0 => nxt (pc + 3) ls (.ref v :: r) w n c sl
      | some _, some _ => nxt (pc + 3) ls (.int 0 :: r) w n c sl
      | _, _ => none
    | _ => match fld (mN M) idx with
      | some q => match gf w a q.1 q.2 with
        | some v => nxt (pc + 3) ls (v :: r) w n c sl
        | none => none
      | none => none)
  | .putfield idx => g1 len 3 (q1 st fun v r => qr r fun a r => match fld (mN M) idx with
      | some q => match pf w a q.1 q.2 v with
        | some w2 => gc (pok M q.1 q.2) (nxt (pc + 3) ls r w2 n c sl)
        | none => none
      | none => none)
  | .iaload => g1 len 1 (qi st fun j r => qr r fun a r => match mK M with
    | 2 => if a = X.2.2.2.2.1 ∧ inr_ j X.2.2.2.2.2.1 = true then nxt (pc + 1) ls (.int (X.2.2.2.2.2.2 j.toNatClampNeg) :: r) w n c sl else none
    | _ => match ga w a 0 j with
      | some v => nxt (pc + 1) ls (v :: r) w n c sl
      | none => none)
  | .caload => g1 len 1 (qi st fun j r => qr r fun a r => match ga w a 1 j with
      | some v => nxt (pc + 1) ls (v :: r) w n c sl
      | none => none)
  | .laload => g1 len 1 (qi st fun j r => qr r fun a r => match ga w a 2 j with
      | some v => nxt (pc + 1) ls (v :: r) w n c sl
      | none => none)
  | .daload => g1 len 1 (qi st fun j r => qr r fun a r => match ga w a 3 j with
      | some v => nxt (pc + 1) ls (v :: r) w n c sl
      | none => none)
  | .aaload => g1 len 1 (qi st fun j r => qr r fun a r => match ga w a 4 j with
      | some v => nxt (pc + 1) ls (v :: r) w n c sl
      | none => match ga w a 5 j with
        | some v => nxt (pc + 1) ls (v :: r) w n c sl
        | none => none)
  | .iastore => g1 len 1 (qi st fun v r => qi r fun j r => qr r fun a r => match sa w a 0 j (.int v) with
      | some w2 => nxt (pc + 1) ls r w2 n c sl
      | none => none)
  | .castore => g1 len 1 (qi st fun v r => qi r fun j r => qr r fun a r => match sa w a 1 j (narrow .char (.int v)) with
      | some w2 => nxt (pc + 1) ls r w2 n c sl
      | none => none)
  | .lastore => g1 len 1 (ql st fun v r => qi r fun j r => qr r fun a r => match sa w a 2 j (.long v) with
      | some w2 => nxt (pc + 1) ls r w2 n c sl
      | none => none)
  | .dastore => g1 len 1 (qd st fun v r => qi r fun j r => qr r fun a r => match sa w a 3 j (.double v) with
      | some w2 => nxt (pc + 1) ls r w2 n c sl
      | none => none)
  | .aastore => g1 len 1 (qr st fun v r => qi r fun j r => qr r fun a r => match hasc w v 1, sa w a 4 j (.ref v) with
      | true, some w2 => nxt (pc + 1) ls r w2 n c sl
      | _, _ => match hasc w v 2, sa w a 5 j (.ref v) with
        | true, some w2 => nxt (pc + 1) ls r w2 n c sl
        | _, _ => none)
  | .arraylength => g1 len 1 (qr st fun a r => match mK M with
    | 2 => if a = X.2.2.2.2.1 then nxt (pc + 1) ls (.int (Int32.ofNat X.2.2.2.2.2.1) :: r) w n c sl else none
    | 1 => match X.2.2.1 a with
      | some q => nxt (pc + 1) ls (.int (Int32.ofNat q.1) :: r) w n c sl
      | none => none
    | _ => none)
  | .baload => g1 len 1 (qi st fun j r => qr r fun a r => match X.2.2.1 a with
      | some q => if inr_ j q.1 = true then nxt (pc + 1) ls (.int (q.2 j.toNatClampNeg) :: r) w n c sl else none
      | none => none)
  | .getstatic idx => g1 len 3 (match sgf (mN M) idx with
    | some 0 => nxt (pc + 3) ls (.int 1 :: st) w n c sl
    | some _ => nxt (pc + 3) ls (va_rf X.2.2.2.1 :: st) w n c sl
    | none => none)
  | .ldc idx => g1 len 2 (match lit (mN M) idx with
    | some j => nxt (pc + 2) ls (.ref (X.1 j) :: st) w n c sl
    | none => none)
  | .ldc_w idx => g1 len 3 (match icst (mN M) idx with
    | some v => nxt (pc + 3) ls (.int v :: st) w n c sl
    | none => none)
  | .new idx => g1 len 3 (match thr M pc with
    | some e => if c + 1 ≤ mC M ∧ sl + 6 ≤ mS M ∧ st.length ≤ 4 then some (.inr (.inl (.inr e, w, none))) else none
    | none => match newc (mN M) idx, n with
      | some ci, some q => if c + 1 ≤ mC M ∧ sl + kn ci ≤ mS M then nxt (pc + 3) ls (.ref q :: st) (wset w q (.inr (ci, dflt ci))) (some (q + 1)) (c + 1) (sl + kn ci) else none
      | _, _ => none)
  | .newarray ty => g1 len 2 (qi st fun x r => match atg ty, n with
      | some t, some q => if ¬ x < 0 ∧ x.toNatClampNeg ≤ 1000 ∧ c + 1 ≤ mC M ∧ sl + x.toNatClampNeg ≤ mS M then nxt (pc + 2) ls (.ref q :: r) (wset w q (.inl (t.1, x.toNatClampNeg, fun _ => t.2))) (some (q + 1)) (c + 1) (sl + x.toNatClampNeg) else none
      | _, _ => none)
  | .anewarray idx => g1 len 3 (qi st fun x r => match newc (mN M) idx, n with
      | some ci, some q => if (ci = 1 ∨ ci = 2) ∧ ¬ x < 0 ∧ x.toNatClampNeg ≤ 1000 ∧ c + 1 ≤ mC M ∧ sl + x.toNatClampNeg ≤ mS M then nxt (pc + 3) ls (.ref q :: r) (wset w q (.inl (ci + 3, x.toNatClampNeg, fun _ => .null))) (some (q + 1)) (c + 1) (sl + x.toNatClampNeg) else none
      | _, _ => none)
  | .ireturn => g1 len 1 (qi st fun x r => match r with
    | [] => gc (okr (mR M) x) (some (.inr (.inl (.inl (some (.int x)), w, n))))
    | _ => none)
  | .freturn => g1 len 1 (qf st fun x r => match r with
    | [] => gc (decide (mR M = some .float)) (some (.inr (.inl (.inl (some (.float x)), w, n))))
    | _ => none)
  | .dreturn => g1 len 1 (qd st fun x r => match r with
    | [] => gc (decide (mR M = some .double)) (some (.inr (.inl (.inl (some (.double x)), w, n))))
    | _ => none)
  | .areturn => g1 len 1 (qr st fun x r => match r with
    | [] => gc (isob (mR M)) (some (.inr (.inl (.inl (some (.ref x)), w, n))))
    | _ => none)
  | .return_ => g1 len 1 (match st with
    | [] => gc (decide (mR M = none)) (some (.inr (.inl (.inl none, w, n))))
    | _ => none)
  | .invokestatic idx => g1 len 3 (match call (mN M) idx with
    | some (1, M2, k) => match popv k st [] with
      | some (vs, r) => xcl M M2 vs r
      | none => none
    | _ => none)
  | .invokevirtual idx => g1 len 3 (match call (mN M) idx with
    | some (0, M2, k) => match popv k st [] with
      | some (vs, r) => qr r fun b r => gc (rcv X w M2 b) (xcl M M2 (.ref b :: vs) r)
      | none => none
    | _ => none)
  | .invokespecial idx => g1 len 3 (match call (mN M) idx with
    | some (5, _, _) => qr st fun _ r => if 1 ≤ mF M ∧ 2 * r.length + 12 ≤ mO M then nxt (pc + 3) ls r w n c sl else none
    | some (2, M2, k) => match popv k st [] with
      | some (vs, r) => qr r fun b r => xcl M M2 (.ref b :: vs) r
      | none => none
    | some (3, M2, k) => match popv k st [] with
      | some (vs, r) => qr r fun b r => xcl M M2 (.ref b :: vs) r
      | none => none
    | _ => none)
  | _ => match pst (m2 M) i len pc ls st with
    | some q => nxt q.1 q.2.1 q.2.2 w n c sl
    | none => none
/-- at the law's loop its own numbers of a turn are forgotten -/
def e_mk (M pc : Nat) (ls : Lcs) : Lcs := if M = 225 ∧ pc = 28 then ls.take 6 ++ [none, none, none] else ls
def entl (M : Nat) (vs : List Value) : Lcs := vs.map some ++ List.replicate (mL M - vs.length) none
def ex (X : Cxt) : Nat → Nat → Nat → Lcs → Stk → Wld → Option Nat → Nat → Nat → Option Otc
  | 0, _, _, _, _, _, _, _, _ => none
  | f + 1, M, pc, ls, st, w, n, c, sl => match decode (mB M) pc with
    | .error _ => none
    | .ok (i, len) => match xst X M pc i len (e_mk M pc ls) st w n c sl with
      | none => none
      | some (.inl q) => ex X f M q.1 q.2.1 q.2.2.1 q.2.2.2.1 q.2.2.2.2.1 q.2.2.2.2.2.1 q.2.2.2.2.2.2
      | some (.inr (.inl o)) => some o
      | some (.inr (.inr q)) => match ex X f q.1 0 (entl q.1 q.2.1) [] w n 0 0 with
        | none => none
        | some o => if c + mC q.1 ≤ mC M ∧ sl + mS q.1 ≤ mS M ∧ q.2.1.length ≤ mL q.1 then
            match o.1 with
            | .inl v => ex X f M (pc + 3) (e_mk M pc ls) (v.toList ++ q.2.2) o.2.1 o.2.2 (c + mC q.1) (sl + mS q.1)
            | .inr e => match mH M with
              | [] => some (.inr e, o.2.1, o.2.2)
              | _ => match hdl M e with
                | some k => ex X f M k.2 ((e_mk M pc ls).set k.1 none) [] o.2.1 o.2.2 (c + mC q.1) (sl + mS q.1)
                | none => none
          else none
theorem ex_mono (X : Cxt) : ∀ (f M pc : Nat) (ls : Lcs) (st : Stk) (w : Wld) (n : Option Nat) (c sl : Nat) (o : Otc), ex X f M pc ls st w n c sl = some o → ex X (f + 1) M pc ls st w n c sl = some o := by
  intro f
  induction f with
  | zero => intro M pc ls st w n c sl o h; cases h
  | succ f ih =>
    intro M pc ls st w n c sl o h
    rw [ex] at h
    rw [ex]
    split at h
    · cases h
    · rename_i i len hd
      (try rw [hd])
      (try dsimp only)
      split at h
      · cases h
      · rename_i q hq
        (try rw [hq])
        exact ih _ _ _ _ _ _ _ _ _ h
      · rename_i q hq
        (try rw [hq])
        exact h
      · rename_i q hq
        (try rw [hq])
        (try dsimp only)
        split at h
        · cases h
        · rename_i o2 ho2
          rw [ih _ _ _ _ _ _ _ _ _ ho2]
          (try dsimp only)
          split at h
          · rename_i hg
            rw [if_pos hg]
            split at h
            · rename_i v hv
              (try rw [hv])
              exact ih _ _ _ _ _ _ _ _ _ h
            · rename_i e9 he
              (try rw [he])
              (try dsimp only)
              split at h
              · rename_i hm
                (try rw [hm])
                exact h
              · rename_i hm
                split at h
                · rename_i k hk
                  (try rw [hk])
                  exact ih _ _ _ _ _ _ _ _ _ h
                · cases h
          · cases h
theorem ex_up (X : Cxt) {f g M pc : Nat} {ls : Lcs} {st : Stk} {w : Wld} {n : Option Nat} {c sl : Nat} {o : Otc} (h : ex X f M pc ls st w n c sl = some o) (hg : f ≤ g) : ex X g M pc ls st w n c sl = some o := by
  induction hg with
  | refl => exact h
  | step _ ih => exact ex_mono X _ _ _ _ _ _ _ _ _ _ ih
/-- from here the method ends, with Q -/
def Ev (X : Cxt) (M pc : Nat) (ls : Lcs) (st : Stk) (w : Wld) (n : Option Nat) (c sl : Nat) (Q : (Option Value ⊕ String) → Wld → Option Nat → Prop) : Prop := ∃ (f : Nat) (o : Otc), ex X f M pc ls st w n c sl = some o ∧ Q o.1 o.2.1 o.2.2
