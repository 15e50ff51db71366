/-! ===== THE CLASSES, THE METHODS, THE LINKS: read off the printed claim by program (names, fields, types as printed there) ===== -/
def RX0 : String := "SoupTable$Refusal"
def TX0 : u_T := fun k => match k with
  | 0 => ("SoupTable$Refusal", "reason", "I", false)
  | 1 => ("SoupTable$Refusal", "detail", "I", false)
  | _ => ("SoupTable$Refusal", "command", "I", false)
def tyX0 : Nat → FieldType := fun k => match k with
  | 0 => .int
  | 1 => .int
  | _ => .int
theorem nmX0 : ∀ a, a < 3 → ∀ b, b < 3 → a ≠ b → (TX0 a).2.1 ≠ (TX0 b).2.1 := by decide +kernel
theorem tyX0_ok : ∀ k, k < 3 → parseFieldDescriptor (TX0 k).2.2.1 = some (tyX0 k) := by decide +kernel
def RX1 : String := "SoupTable$Seat"
def TX1 : u_T := fun k => match k with
  | 0 => ("SoupTable$Seat", "manner", "I", false)
  | 1 => ("SoupTable$Seat", "think", "I", false)
  | 2 => ("SoupTable$Seat", "eat", "I", false)
  | 3 => ("SoupTable$Seat", "how", "I", false)
  | 4 => ("SoupTable$Seat", "left", "I", false)
  | 5 => ("SoupTable$Seat", "meals", "I", false)
  | 6 => ("SoupTable$Seat", "waited", "I", false)
  | 7 => ("SoupTable$Seat", "waitedNow", "I", false)
  | _ => ("SoupTable$Seat", "waitedMost", "I", false)
def tyX1 : Nat → FieldType := fun k => match k with
  | 0 => .int
  | 1 => .int
  | 2 => .int
  | 3 => .int
  | 4 => .int
  | 5 => .int
  | 6 => .int
  | 7 => .int
  | _ => .int
theorem nmX1 : ∀ a, a < 9 → ∀ b, b < 9 → a ≠ b → (TX1 a).2.1 ≠ (TX1 b).2.1 := by decide +kernel
theorem tyX1_ok : ∀ k, k < 9 → parseFieldDescriptor (TX1 k).2.2.1 = some (tyX1 k) := by decide +kernel
def RX2 : String := "SoupTable$Table"
def TX2 : u_T := fun k => match k with
  | 0 => ("SoupTable$Table", "seats", "[LSoupTable$Seat;", true)
  | 1 => ("SoupTable$Table", "holders", "[I", true)
  | 2 => ("SoupTable$Table", "count", "I", false)
  | 3 => ("SoupTable$Table", "waiterNumber", "I", false)
  | 4 => ("SoupTable$Table", "bowls", "I", false)
  | 5 => ("SoupTable$Table", "ticks", "I", false)
  | 6 => ("SoupTable$Table", "bowlsTaken", "I", false)
  | _ => ("SoupTable$Table", "ladlesTaken", "I", false)
def tyX2 : Nat → FieldType := fun k => match k with
  | 0 => .array (.object "SoupTable$Seat")
  | 1 => .array .int
  | 2 => .int
  | 3 => .int
  | 4 => .int
  | 5 => .int
  | 6 => .int
  | _ => .int
theorem nmX2 : ∀ a, a < 8 → ∀ b, b < 8 → a ≠ b → (TX2 a).2.1 ≠ (TX2 b).2.1 := by decide +kernel
theorem tyX2_ok : ∀ k, k < 8 → parseFieldDescriptor (TX2 k).2.2.1 = some (tyX2 k) := by decide +kernel
def RX3 : String := "SoupTable$Text"
def TX3 : u_T := fun k => match k with
  | 0 => ("SoupTable$Text", "signs", "[C", true)
  | 1 => ("SoupTable$Text", "length", "I", false)
  | 2 => ("SoupTable$Text", "place", "I", false)
  | 3 => ("SoupTable$Text", "kind", "I", false)
  | _ => ("SoupTable$Text", "numbers", "[I", true)
def tyX3 : Nat → FieldType := fun k => match k with
  | 0 => .array .char
  | 1 => .int
  | 2 => .int
  | 3 => .int
  | _ => .array .int
theorem nmX3 : ∀ a, a < 5 → ∀ b, b < 5 → a ≠ b → (TX3 a).2.1 ≠ (TX3 b).2.1 := by decide +kernel
theorem tyX3_ok : ∀ k, k < 5 → parseFieldDescriptor (TX3 k).2.2.1 = some (tyX3 k) := by decide +kernel
def RX5 : String := "SoupTable"
def TX5 : u_T := fun k => match k with
  | 0 => ("SoupTable", "table", "LSoupTable$Table;", true)
  | 1 => ("SoupTable", "ahead", "LSoupTable$Table;", true)
  | 2 => ("SoupTable", "saved", "LSoupTable$Table;", true)
  | 3 => ("SoupTable", "isSaved", "Z", false)
  | 4 => ("SoupTable", "past", "[LSoupTable$Table;", true)
  | 5 => ("SoupTable", "changes", "I", false)
  | 6 => ("SoupTable", "before", "LSoupTable$Table;", false)
  | 7 => ("SoupTable", "text", "LSoupTable$Text;", true)
  | 8 => ("SoupTable", "fault", "I", false)
  | 9 => ("SoupTable", "refusal", "LSoupTable$Refusal;", true)
  | 10 => ("SoupTable", "letters", "[C", true)
  | _ => ("SoupTable", "letterCount", "I", false)
def tyX5 : Nat → FieldType := fun k => match k with
  | 0 => .object "SoupTable$Table"
  | 1 => .object "SoupTable$Table"
  | 2 => .object "SoupTable$Table"
  | 3 => .boolean
  | 4 => .array (.object "SoupTable$Table")
  | 5 => .int
  | 6 => .object "SoupTable$Table"
  | 7 => .object "SoupTable$Text"
  | 8 => .int
  | 9 => .object "SoupTable$Refusal"
  | 10 => .array .char
  | _ => .int
theorem nmX5 : ∀ a, a < 12 → ∀ b, b < 12 → a ≠ b → (TX5 a).2.1 ≠ (TX5 b).2.1 := by decide +kernel
theorem tyX5_ok : ∀ k, k < 12 → parseFieldDescriptor (TX5 k).2.2.1 = some (tyX5 k) := by decide +kernel
def RX6 : String := "SoupTableModel"
def TX6 : u_T := fun k => match k with
  | 0 => ("SoupTableModel", "now", "[I", true)
  | 1 => ("SoupTableModel", "tried", "[I", true)
  | 2 => ("SoupTableModel", "thought", "[I", true)
  | 3 => ("SoupTableModel", "kept", "[I", true)
  | 4 => ("SoupTableModel", "undos", "I", false)
  | 5 => ("SoupTableModel", "saved", "[I", true)
  | 6 => ("SoupTableModel", "isSaved", "Z", false)
  | 7 => ("SoupTableModel", "line", "[C", true)
  | 8 => ("SoupTableModel", "lined", "I", false)
  | 9 => ("SoupTableModel", "text", "[C", true)
  | 10 => ("SoupTableModel", "length", "I", false)
  | 11 => ("SoupTableModel", "at", "I", false)
  | 12 => ("SoupTableModel", "order", "C", false)
  | 13 => ("SoupTableModel", "told", "[I", true)
  | 14 => ("SoupTableModel", "fault", "I", false)
  | 15 => ("SoupTableModel", "reason", "I", false)
  | 16 => ("SoupTableModel", "detail", "I", false)
  | 17 => ("SoupTableModel", "index", "I", false)
  | 18 => ("SoupTableModel", "answer", "I", false)
  | _ => ("SoupTableModel", "thrown", "I", false)
def tyX6 : Nat → FieldType := fun k => match k with
  | 0 => .array .int
  | 1 => .array .int
  | 2 => .array .int
  | 3 => .array .int
  | 4 => .int
  | 5 => .array .int
  | 6 => .boolean
  | 7 => .array .char
  | 8 => .int
  | 9 => .array .char
  | 10 => .int
  | 11 => .int
  | 12 => .char
  | 13 => .array .int
  | 14 => .int
  | 15 => .int
  | 16 => .int
  | 17 => .int
  | 18 => .int
  | _ => .int
theorem nmX6 : ∀ a, a < 20 → ∀ b, b < 20 → a ≠ b → (TX6 a).2.1 ≠ (TX6 b).2.1 := by decide +kernel
theorem tyX6_ok : ∀ k, k < 20 → parseFieldDescriptor (TX6 k).2.2.1 = some (tyX6 k) := by decide +kernel
def KL : List vw_C := [(RX0, TX0, 3), (RX1, TX1, 9), (RX2, TX2, 8), (RX3, TX3, 5), (RX5, TX5, 12), (RX6, TX6, 20)]
def KTY : List (Nat → FieldType) := [tyX0, tyX1, tyX2, tyX3, tyX5, tyX6]
def CN : List String := ["SoupTable$Refusal", "SoupTable$Seat", "SoupTable$Table", "SoupTable$Text", "SoupTable$Waiting", "SoupTable", "SoupTableModel", "SoupTableLaw", "java/lang/String", "java/lang/StringLatin1", "java/lang/Integer", "jdk/internal/util/Preconditions"]
def MT_0 : List (MethodName × ByteArray × Nat × Option FieldType × (Nat × Nat × Nat × Nat) × (Bool × Bool × Nat × Nat) × List (Nat × Nat × Nat × Nat)) := [
  (⟨"SoupTable$Seat", "<init>", "()V"⟩, prog_3_method_1_code, 1, none, (1, 20, 0, 0), (false, false, 0, 1), []),
  (⟨"SoupTable$Table", "<init>", "()V"⟩, prog_4_method_1_code, 2, none, (2, 40, 10, 88), (false, false, 0, 2), []),
  (⟨"SoupTable$Text", "<init>", "()V"⟩, prog_5_method_1_code, 1, none, (1, 20, 2, 63), (false, false, 0, 3), []),
  (⟨"SoupTable$Refusal", "<init>", "()V"⟩, prog_2_method_1_code, 1, none, (1, 20, 0, 0), (false, false, 0, 0), []),
  (⟨"SoupTable", "<init>", "()V"⟩, prog_1_method_1_code, 2, none, (3, 61, 138, 1271), (false, false, 0, 5), []),
  (⟨"SoupTableModel", "<init>", "()V"⟩, prog_8_method_1_code, 1, none, (1, 20, 8, 1359), (false, false, 0, 6), []),
  (⟨"SoupTable$Seat", "copyFrom", "(LSoupTable$Seat;)V"⟩, prog_3_method_8_code, 2, none, (0, 0, 0, 0), (false, false, 0, 1), []),
  (⟨"SoupTable$Table", "copyFrom", "(LSoupTable$Table;)V"⟩, prog_4_method_2_code, 3, none, (1, 21, 0, 0), (false, false, 0, 2), []),
  (⟨"SoupTable$Table", "isManner", "(I)Z"⟩, prog_4_method_36_code, 1, Option.some Jvm.ClassFile.FieldType.boolean, (0, 0, 0, 0), (false, true, 0, 2), []),
  (⟨"SoupTable$Table", "isClock", "(I)Z"⟩, prog_4_method_37_code, 1, Option.some Jvm.ClassFile.FieldType.boolean, (0, 0, 0, 0), (false, true, 0, 2), []),
  (⟨"SoupTable$Refusal", "refuse", "(II)I"⟩, prog_2_method_2_code, 3, Option.some Jvm.ClassFile.FieldType.int, (0, 0, 0, 0), (false, false, 0, 0), []),
  (⟨"SoupTable$Table", "heldLadles", "()I"⟩, prog_4_method_29_code, 3, Option.some Jvm.ClassFile.FieldType.int, (0, 0, 0, 0), (false, false, 0, 2), []),
  (⟨"SoupTable$Seat", "beginToThink", "()V"⟩, prog_3_method_3_code, 1, none, (0, 0, 0, 0), (false, false, 0, 1), []),
  (⟨"SoupTable$Seat", "begin", "(III)V"⟩, prog_3_method_2_code, 4, none, (1, 20, 0, 0), (false, false, 0, 1), []),
  (⟨"SoupTable$Table", "addSeat", "(IIILSoupTable$Refusal;)I"⟩, prog_4_method_4_code, 5, Option.some Jvm.ClassFile.FieldType.int, (2, 43, 0, 0), (false, false, 0, 2), []),
  (⟨"SoupTable", "keepBefore", "()V"⟩, prog_1_method_38_code, 3, none, (0, 0, 0, 0), (false, false, 0, 5), []),
  (⟨"SoupTable", "kept", "(I)I"⟩, prog_1_method_37_code, 2, Option.some Jvm.ClassFile.FieldType.int, (8, 120, 1, 6), (false, false, 0, 5), []),
  (⟨"SoupTable", "join", "(III)I"⟩, prog_1_method_2_code, 4, Option.some Jvm.ClassFile.FieldType.int, (9, 141, 1, 6), (false, false, 0, 5), []),
  (⟨"SoupTableLaw", "join", "(LSoupTable;III[J)I"⟩, method_3_code, 6, Option.some Jvm.ClassFile.FieldType.int, (10, 164, 1, 6), (false, true, 0, 7), [((0 : Nat), (12 : Nat), (15 : Nat), (13 : Nat))]),
  (⟨"SoupTableModel", "tries", "()V"⟩, prog_8_method_5_code, 2, none, (0, 0, 0, 0), (false, false, 0, 6), []),
  (⟨"SoupTableModel", "in", "(III)Z"⟩, prog_8_method_4_code, 3, Option.some Jvm.ClassFile.FieldType.boolean, (0, 0, 0, 0), (false, true, 0, 6), []),
  (⟨"SoupTableModel", "refuses", "(II)Z"⟩, prog_8_method_11_code, 3, Option.some Jvm.ClassFile.FieldType.boolean, (0, 0, 0, 0), (false, false, 0, 6), []),
  (⟨"SoupTableModel", "held", "()I"⟩, prog_8_method_20_code, 3, Option.some Jvm.ClassFile.FieldType.int, (0, 0, 0, 0), (false, false, 0, 6), []),
  (⟨"SoupTableModel", "sets", "(III)V"⟩, prog_8_method_15_code, 4, none, (0, 0, 0, 0), (false, false, 0, 6), []),
  (⟨"SoupTableModel", "does", "(I)Z"⟩, prog_8_method_10_code, 2, Option.some Jvm.ClassFile.FieldType.boolean, (0, 0, 0, 0), (false, false, 0, 6), []),
  (⟨"SoupTableModel", "joins", "(III)Z"⟩, prog_8_method_24_code, 6, Option.some Jvm.ClassFile.FieldType.boolean, (1, 23, 0, 0), (false, false, 0, 6), []),
  (⟨"SoupTableModel", "keeps", "(I)I"⟩, prog_8_method_7_code, 3, Option.some Jvm.ClassFile.FieldType.int, (0, 0, 0, 0), (false, false, 0, 6), []),
  (⟨"SoupTableModel", "raises", "(I)I"⟩, prog_8_method_3_code, 2, Option.some Jvm.ClassFile.FieldType.int, (0, 0, 0, 0), (false, false, 0, 6), []),
  (⟨"SoupTableModel", "ends", "(Z)I"⟩, prog_8_method_12_code, 2, Option.some Jvm.ClassFile.FieldType.int, (1, 22, 0, 0), (false, false, 0, 6), []),
  (⟨"SoupTableModel", "join", "(III)I"⟩, prog_8_method_25_code, 4, Option.some Jvm.ClassFile.FieldType.int, (2, 48, 0, 0), (false, false, 0, 6), []),
  (⟨"SoupTableModel", "thrown", "()I"⟩, prog_8_method_2_code, 1, Option.some Jvm.ClassFile.FieldType.int, (0, 0, 0, 0), (false, false, 0, 6), []),
  (⟨"SoupTable$Table", "removeSeat", "(LSoupTable$Refusal;)I"⟩, prog_4_method_5_code, 2, Option.some Jvm.ClassFile.FieldType.int, (1, 22, 0, 0), (false, false, 0, 2), [])]
def MT_1 : List (MethodName × ByteArray × Nat × Option FieldType × (Nat × Nat × Nat × Nat) × (Bool × Bool × Nat × Nat) × List (Nat × Nat × Nat × Nat)) := [
  (⟨"SoupTable", "leave", "()I"⟩, prog_1_method_3_code, 1, Option.some Jvm.ClassFile.FieldType.int, (9, 141, 1, 6), (false, false, 0, 5), []),
  (⟨"SoupTableLaw", "leave", "(LSoupTable;[J)I"⟩, method_4_code, 3, Option.some Jvm.ClassFile.FieldType.int, (10, 161, 1, 6), (false, true, 0, 7), [((0 : Nat), (8 : Nat), (11 : Nat), (13 : Nat))]),
  (⟨"SoupTableModel", "drops", "(I)V"⟩, prog_8_method_26_code, 4, none, (0, 0, 0, 0), (false, false, 0, 6), []),
  (⟨"SoupTableModel", "leaves", "()Z"⟩, prog_8_method_27_code, 1, Option.some Jvm.ClassFile.FieldType.boolean, (1, 23, 0, 0), (false, false, 0, 6), []),
  (⟨"SoupTableModel", "leave", "()I"⟩, prog_8_method_28_code, 1, Option.some Jvm.ClassFile.FieldType.int, (2, 43, 0, 0), (false, false, 0, 6), []),
  (⟨"SoupTable$Table", "hasSeat", "(I)Z"⟩, prog_4_method_16_code, 2, Option.some Jvm.ClassFile.FieldType.boolean, (0, 0, 0, 0), (false, false, 0, 2), []),
  (⟨"SoupTable$Table", "setManner", "(IILSoupTable$Refusal;)I"⟩, prog_4_method_6_code, 4, Option.some Jvm.ClassFile.FieldType.int, (1, 22, 0, 0), (false, false, 0, 2), []),
  (⟨"SoupTable", "manner", "(II)I"⟩, prog_1_method_4_code, 3, Option.some Jvm.ClassFile.FieldType.int, (9, 141, 1, 6), (false, false, 0, 5), []),
  (⟨"SoupTableLaw", "manner", "(LSoupTable;II[J)I"⟩, method_5_code, 5, Option.some Jvm.ClassFile.FieldType.int, (10, 163, 1, 6), (false, true, 0, 7), [((0 : Nat), (10 : Nat), (13 : Nat), (13 : Nat))]),
  (⟨"SoupTableModel", "isSeat", "(I)Z"⟩, prog_8_method_13_code, 2, Option.some Jvm.ClassFile.FieldType.boolean, (1, 22, 0, 0), (false, false, 0, 6), []),
  (⟨"SoupTableModel", "of", "(II)I"⟩, prog_8_method_14_code, 3, Option.some Jvm.ClassFile.FieldType.int, (0, 0, 0, 0), (false, false, 0, 6), []),
  (⟨"SoupTableModel", "how", "(I)I"⟩, prog_8_method_16_code, 2, Option.some Jvm.ClassFile.FieldType.int, (1, 22, 0, 0), (false, false, 0, 6), []),
  (⟨"SoupTableModel", "turns", "(II)Z"⟩, prog_8_method_29_code, 3, Option.some Jvm.ClassFile.FieldType.boolean, (2, 43, 0, 0), (false, false, 0, 6), []),
  (⟨"SoupTableModel", "manner", "(II)I"⟩, prog_8_method_30_code, 3, Option.some Jvm.ClassFile.FieldType.int, (3, 65, 0, 0), (false, false, 0, 6), []),
  (⟨"SoupTable$Table", "setClocks", "(IIILSoupTable$Refusal;)I"⟩, prog_4_method_7_code, 6, Option.some Jvm.ClassFile.FieldType.int, (1, 22, 0, 0), (false, false, 0, 2), []),
  (⟨"SoupTable", "clocks", "(III)I"⟩, prog_1_method_5_code, 4, Option.some Jvm.ClassFile.FieldType.int, (9, 141, 1, 6), (false, false, 0, 5), []),
  (⟨"SoupTableLaw", "clocks", "(LSoupTable;III[J)I"⟩, method_6_code, 6, Option.some Jvm.ClassFile.FieldType.int, (10, 164, 1, 6), (false, true, 0, 7), [((0 : Nat), (12 : Nat), (15 : Nat), (13 : Nat))]),
  (⟨"SoupTableModel", "times", "(III)Z"⟩, prog_8_method_31_code, 5, Option.some Jvm.ClassFile.FieldType.boolean, (2, 43, 0, 0), (false, false, 0, 6), []),
  (⟨"SoupTableModel", "clocks", "(III)I"⟩, prog_8_method_32_code, 4, Option.some Jvm.ClassFile.FieldType.int, (3, 67, 0, 0), (false, false, 0, 6), []),
  (⟨"SoupTable$Table", "setWaiter", "(ILSoupTable$Refusal;)I"⟩, prog_4_method_8_code, 4, Option.some Jvm.ClassFile.FieldType.int, (1, 22, 0, 0), (false, false, 0, 2), []),
  (⟨"SoupTable", "waiter", "(I)I"⟩, prog_1_method_6_code, 2, Option.some Jvm.ClassFile.FieldType.int, (9, 141, 1, 6), (false, false, 0, 5), []),
  (⟨"SoupTableLaw", "waiter", "(LSoupTable;I[J)I"⟩, method_7_code, 4, Option.some Jvm.ClassFile.FieldType.int, (10, 162, 1, 6), (false, true, 0, 7), [((0 : Nat), (9 : Nat), (12 : Nat), (13 : Nat))]),
  (⟨"SoupTableModel", "tells", "(I)Z"⟩, prog_8_method_33_code, 3, Option.some Jvm.ClassFile.FieldType.boolean, (1, 22, 0, 0), (false, false, 0, 6), []),
  (⟨"SoupTableModel", "waiter", "(I)I"⟩, prog_8_method_34_code, 2, Option.some Jvm.ClassFile.FieldType.int, (2, 44, 0, 0), (false, false, 0, 6), []),
  (⟨"SoupTable$Table", "addBowls", "(ILSoupTable$Refusal;)I"⟩, prog_4_method_9_code, 3, Option.some Jvm.ClassFile.FieldType.int, (1, 22, 0, 0), (false, false, 0, 2), []),
  (⟨"SoupTable", "bring", "(I)I"⟩, prog_1_method_7_code, 2, Option.some Jvm.ClassFile.FieldType.int, (9, 141, 1, 6), (false, false, 0, 5), []),
  (⟨"SoupTableLaw", "bring", "(LSoupTable;I[J)I"⟩, method_8_code, 4, Option.some Jvm.ClassFile.FieldType.int, (10, 162, 1, 6), (false, true, 0, 7), [((0 : Nat), (9 : Nat), (12 : Nat), (13 : Nat))]),
  (⟨"SoupTableModel", "brings", "(I)Z"⟩, prog_8_method_35_code, 2, Option.some Jvm.ClassFile.FieldType.boolean, (1, 22, 0, 0), (false, false, 0, 6), []),
  (⟨"SoupTableModel", "bring", "(I)I"⟩, prog_8_method_36_code, 2, Option.some Jvm.ClassFile.FieldType.int, (2, 43, 0, 0), (false, false, 0, 6), []),
  (⟨"SoupTable$Table", "ladleOf", "(IZ)I"⟩, prog_4_method_19_code, 4, Option.some Jvm.ClassFile.FieldType.int, (0, 0, 0, 0), (false, false, 0, 2), []),
  (⟨"SoupTable$Table", "takeAway", "(ILSoupTable$Refusal;)I"⟩, prog_4_method_10_code, 5, Option.some Jvm.ClassFile.FieldType.int, (1, 23, 0, 0), (false, false, 0, 2), []),
  (⟨"SoupTable", "take", "(I)I"⟩, prog_1_method_8_code, 2, Option.some Jvm.ClassFile.FieldType.int, (9, 141, 1, 6), (false, false, 0, 5), [])]
def MT_2 : List (MethodName × ByteArray × Nat × Option FieldType × (Nat × Nat × Nat × Nat) × (Bool × Bool × Nat × Nat) × List (Nat × Nat × Nat × Nat)) := [
  (⟨"SoupTableLaw", "take", "(LSoupTable;I[J)I"⟩, method_9_code, 4, Option.some Jvm.ClassFile.FieldType.int, (10, 162, 1, 6), (false, true, 0, 7), [((0 : Nat), (9 : Nat), (12 : Nat), (13 : Nat))]),
  (⟨"SoupTableModel", "by", "(I)I"⟩, prog_8_method_19_code, 2, Option.some Jvm.ClassFile.FieldType.int, (0, 0, 0, 0), (false, false, 0, 6), []),
  (⟨"SoupTableModel", "left", "(I)I"⟩, prog_8_method_17_code, 2, Option.some Jvm.ClassFile.FieldType.int, (0, 0, 0, 0), (false, false, 0, 6), []),
  (⟨"SoupTableModel", "takes", "(I)Z"⟩, prog_8_method_37_code, 3, Option.some Jvm.ClassFile.FieldType.boolean, (2, 43, 0, 0), (false, false, 0, 6), []),
  (⟨"SoupTableModel", "take", "(I)I"⟩, prog_8_method_38_code, 2, Option.some Jvm.ClassFile.FieldType.int, (3, 65, 0, 0), (false, false, 0, 6), []),
  (⟨"SoupTable$Table", "canTick", "()Z"⟩, prog_4_method_17_code, 1, Option.some Jvm.ClassFile.FieldType.boolean, (0, 0, 0, 0), (false, false, 0, 2), []),
  (⟨"SoupTable$Table", "mealsOfAll", "()I"⟩, prog_4_method_32_code, 3, Option.some Jvm.ClassFile.FieldType.int, (0, 0, 0, 0), (false, false, 0, 2), []),
  (⟨"SoupTable$Table", "thinkOrEat", "(I)V"⟩, prog_4_method_13_code, 3, none, (1, 23, 0, 0), (false, false, 0, 2), []),
  (⟨"SoupTable$Table", "askersBefore", "(I)I"⟩, prog_4_method_25_code, 5, Option.some Jvm.ClassFile.FieldType.int, (0, 0, 0, 0), (false, false, 0, 2), []),
  (⟨"SoupTable$Table", "askerAt", "(I)I"⟩, prog_4_method_24_code, 3, Option.some Jvm.ClassFile.FieldType.int, (1, 24, 0, 0), (false, false, 0, 2), []),
  (⟨"SoupTable$Table", "setWithLeave", "()I"⟩, prog_4_method_30_code, 3, Option.some Jvm.ClassFile.FieldType.int, (0, 0, 0, 0), (false, false, 0, 2), []),
  (⟨"java/lang/Integer", "bitCount", "(I)I"⟩, prog_19_method_49_code, 1, Option.some Jvm.ClassFile.FieldType.int, (0, 0, 0, 0), (false, true, 1, 10), []),
  (⟨"SoupTable$Table", "waiterLetsMore", "()Z"⟩, prog_4_method_23_code, 1, Option.some Jvm.ClassFile.FieldType.boolean, (1, 22, 0, 0), (false, false, 0, 2), []),
  (⟨"SoupTable$Table", "giveLeave", "()V"⟩, prog_4_method_14_code, 3, none, (2, 46, 0, 0), (false, false, 0, 2), []),
  (⟨"SoupTable$Table", "wantedLadle", "(I)I"⟩, prog_4_method_21_code, 3, Option.some Jvm.ClassFile.FieldType.int, (1, 23, 0, 0), (false, false, 0, 2), []),
  (⟨"SoupTable$Table", "isFree", "(I)Z"⟩, prog_4_method_20_code, 2, Option.some Jvm.ClassFile.FieldType.boolean, (1, 21, 0, 0), (false, false, 0, 2), []),
  (⟨"SoupTable$Seat", "beginToEat", "()V"⟩, prog_3_method_4_code, 1, none, (0, 0, 0, 0), (false, false, 0, 1), []),
  (⟨"SoupTable$Table", "takeLadles", "(I)V"⟩, prog_4_method_15_code, 5, none, (2, 45, 0, 0), (false, false, 0, 2), []),
  (⟨"SoupTable$Seat", "waitIfHungry", "()V"⟩, prog_3_method_5_code, 1, none, (1, 30, 0, 0), (false, false, 0, 1), []),
  (⟨"SoupTable$Table", "tick", "()V"⟩, prog_4_method_12_code, 2, none, (3, 69, 0, 0), (false, false, 0, 2), []),
  (⟨"SoupTable$Table", "passTicks", "(ILSoupTable$Refusal;)I"⟩, prog_4_method_11_code, 5, Option.some Jvm.ClassFile.FieldType.int, (4, 90, 0, 0), (false, false, 0, 2), []),
  (⟨"SoupTable", "pass", "(I)I"⟩, prog_1_method_9_code, 2, Option.some Jvm.ClassFile.FieldType.int, (9, 141, 1, 6), (false, false, 0, 5), []),
  (⟨"SoupTableLaw", "pass", "(LSoupTable;I[J)I"⟩, method_10_code, 4, Option.some Jvm.ClassFile.FieldType.int, (10, 162, 1, 6), (false, true, 0, 7), [((0 : Nat), (9 : Nat), (12 : Nat), (13 : Nat))]),
  (⟨"SoupTableModel", "isDone", "(I)Z"⟩, prog_8_method_39_code, 2, Option.some Jvm.ClassFile.FieldType.boolean, (1, 23, 0, 0), (false, false, 0, 6), []),
  (⟨"SoupTableModel", "withLeave", "()I"⟩, prog_8_method_22_code, 3, Option.some Jvm.ClassFile.FieldType.int, (1, 22, 0, 0), (false, false, 0, 6), []),
  (⟨"SoupTableModel", "lets", "()Z"⟩, prog_8_method_23_code, 1, Option.some Jvm.ClassFile.FieldType.boolean, (2, 44, 0, 0), (false, false, 0, 6), []),
  (⟨"SoupTableModel", "ladleOf", "(IZ)I"⟩, prog_8_method_18_code, 3, Option.some Jvm.ClassFile.FieldType.int, (1, 22, 0, 0), (false, false, 0, 6), []),
  (⟨"SoupTableModel", "wanted", "(I)I"⟩, prog_8_method_21_code, 2, Option.some Jvm.ClassFile.FieldType.int, (2, 44, 0, 0), (false, false, 0, 6), []),
  (⟨"SoupTableModel", "grabs", "(I)V"⟩, prog_8_method_40_code, 2, none, (3, 65, 0, 0), (false, false, 0, 6), []),
  (⟨"SoupTableModel", "tickGoes", "()I"⟩, prog_8_method_41_code, 3, Option.some Jvm.ClassFile.FieldType.int, (4, 86, 0, 0), (false, false, 0, 6), []),
  (⟨"SoupTableModel", "ticks", "(I)I"⟩, prog_8_method_42_code, 4, Option.some Jvm.ClassFile.FieldType.int, (5, 108, 0, 0), (false, false, 0, 6), []),
  (⟨"SoupTableModel", "passes", "(I)Z"⟩, prog_8_method_43_code, 2, Option.some Jvm.ClassFile.FieldType.boolean, (6, 131, 0, 0), (false, false, 0, 6), [])]
def MT_3 : List (MethodName × ByteArray × Nat × Option FieldType × (Nat × Nat × Nat × Nat) × (Bool × Bool × Nat × Nat) × List (Nat × Nat × Nat × Nat)) := [
  (⟨"SoupTableModel", "pass", "(I)I"⟩, prog_8_method_44_code, 2, Option.some Jvm.ClassFile.FieldType.int, (7, 152, 0, 0), (false, false, 0, 6), []),
  (⟨"SoupTable$Seat", "number", "(I)I"⟩, prog_3_method_7_code, 2, Option.some Jvm.ClassFile.FieldType.int, (0, 0, 0, 0), (false, false, 0, 1), []),
  (⟨"SoupTable", "seatOf", "(II)I"⟩, prog_1_method_10_code, 3, Option.some Jvm.ClassFile.FieldType.int, (8, 120, 1, 6), (false, false, 0, 5), []),
  (⟨"SoupTableLaw", "seatOf", "(LSoupTable;II[J)I"⟩, method_11_code, 5, Option.some Jvm.ClassFile.FieldType.int, (9, 142, 1, 6), (false, true, 0, 7), [((0 : Nat), (10 : Nat), (13 : Nat), (42 : Nat)), ((0 : Nat), (10 : Nat), (17 : Nat), (44 : Nat))]),
  (⟨"SoupTableModel", "seatOf", "(II)I"⟩, prog_8_method_45_code, 3, Option.some Jvm.ClassFile.FieldType.int, (2, 43, 0, 0), (false, false, 0, 6), []),
  (⟨"SoupTable", "ladle", "(IZ)I"⟩, prog_1_method_11_code, 3, Option.some Jvm.ClassFile.FieldType.int, (8, 120, 1, 6), (false, false, 0, 5), []),
  (⟨"SoupTableLaw", "ladle", "(LSoupTable;IZ[J)I"⟩, method_12_code, 5, Option.some Jvm.ClassFile.FieldType.int, (9, 142, 1, 6), (false, true, 0, 7), [((0 : Nat), (10 : Nat), (13 : Nat), (42 : Nat))]),
  (⟨"SoupTableModel", "ladle", "(IZ)I"⟩, prog_8_method_46_code, 3, Option.some Jvm.ClassFile.FieldType.int, (2, 44, 0, 0), (false, false, 0, 6), []),
  (⟨"SoupTable", "holder", "(I)I"⟩, prog_1_method_12_code, 2, Option.some Jvm.ClassFile.FieldType.int, (8, 120, 1, 6), (false, false, 0, 5), []),
  (⟨"SoupTableLaw", "holder", "(LSoupTable;I[J)I"⟩, method_13_code, 4, Option.some Jvm.ClassFile.FieldType.int, (9, 141, 1, 6), (false, true, 0, 7), [((0 : Nat), (9 : Nat), (12 : Nat), (42 : Nat))]),
  (⟨"SoupTableModel", "holder", "(I)I"⟩, prog_8_method_47_code, 2, Option.some Jvm.ClassFile.FieldType.int, (2, 43, 0, 0), (false, false, 0, 6), []),
  (⟨"SoupTable$Table", "awaitedSeat", "(I)I"⟩, prog_4_method_22_code, 3, Option.some Jvm.ClassFile.FieldType.int, (2, 45, 0, 0), (false, false, 0, 2), []),
  (⟨"SoupTable", "waitsFor", "(I)I"⟩, prog_1_method_13_code, 3, Option.some Jvm.ClassFile.FieldType.int, (8, 120, 1, 6), (false, false, 0, 5), []),
  (⟨"SoupTableLaw", "waitsFor", "(LSoupTable;I[J)I"⟩, method_14_code, 4, Option.some Jvm.ClassFile.FieldType.int, (9, 142, 1, 6), (false, true, 0, 7), [((0 : Nat), (9 : Nat), (12 : Nat), (42 : Nat)), ((0 : Nat), (9 : Nat), (15 : Nat), (56 : Nat))]),
  (⟨"SoupTableModel", "other", "(I)I"⟩, prog_8_method_48_code, 3, Option.some Jvm.ClassFile.FieldType.int, (3, 65, 0, 0), (false, false, 0, 6), []),
  (⟨"SoupTableModel", "waitsFor", "(I)I"⟩, prog_8_method_49_code, 2, Option.some Jvm.ClassFile.FieldType.int, (4, 87, 0, 0), (false, false, 0, 6), []),
  (⟨"SoupTable", "asking", "(I)I"⟩, prog_1_method_14_code, 3, Option.some Jvm.ClassFile.FieldType.int, (8, 120, 1, 6), (false, false, 0, 5), []),
  (⟨"SoupTableLaw", "asking", "(LSoupTable;I[J)I"⟩, method_15_code, 4, Option.some Jvm.ClassFile.FieldType.int, (9, 142, 1, 6), (false, true, 0, 7), [((0 : Nat), (9 : Nat), (12 : Nat), (56 : Nat))]),
  (⟨"SoupTableModel", "asking", "(I)I"⟩, prog_8_method_50_code, 2, Option.some Jvm.ClassFile.FieldType.int, (1, 22, 0, 0), (false, false, 0, 6), []),
  (⟨"SoupTable", "eaters", "()I"⟩, prog_1_method_15_code, 3, Option.some Jvm.ClassFile.FieldType.int, (0, 0, 0, 0), (false, false, 0, 5), []),
  (⟨"SoupTableModel", "those", "(I)I"⟩, prog_8_method_51_code, 4, Option.some Jvm.ClassFile.FieldType.int, (2, 43, 0, 0), (false, false, 0, 6), []),
  (⟨"SoupTableModel", "eaters", "()I"⟩, prog_8_method_52_code, 1, Option.some Jvm.ClassFile.FieldType.int, (3, 66, 0, 0), (false, false, 0, 6), []),
  (⟨"SoupTable$Waiting", "comesBackTo", "(LSoupTable$Table;I)Z"⟩, prog_6_method_3_code, 4, Option.some Jvm.ClassFile.FieldType.boolean, (3, 67, 0, 0), (false, true, 0, 4), []),
  (⟨"SoupTable$Waiting", "ringOf", "(LSoupTable$Table;)I"⟩, prog_6_method_2_code, 3, Option.some Jvm.ClassFile.FieldType.int, (4, 90, 0, 0), (false, true, 0, 4), []),
  (⟨"SoupTable", "ring", "()I"⟩, prog_1_method_16_code, 1, Option.some Jvm.ClassFile.FieldType.int, (5, 112, 0, 0), (false, false, 0, 5), []),
  (⟨"SoupTableModel", "rings", "()I"⟩, prog_8_method_53_code, 5, Option.some Jvm.ClassFile.FieldType.int, (4, 87, 0, 0), (false, false, 0, 6), []),
  (⟨"SoupTableModel", "ring", "()I"⟩, prog_8_method_54_code, 1, Option.some Jvm.ClassFile.FieldType.int, (5, 111, 0, 0), (false, false, 0, 6), []),
  (⟨"SoupTable$Waiting", "waitingForOneIn", "(LSoupTable$Table;I)I"⟩, prog_6_method_5_code, 5, Option.some Jvm.ClassFile.FieldType.int, (3, 67, 0, 0), (false, true, 0, 4), []),
  (⟨"SoupTable$Waiting", "stuckOf", "(LSoupTable$Table;)I"⟩, prog_6_method_4_code, 4, Option.some Jvm.ClassFile.FieldType.int, (5, 112, 0, 0), (false, true, 0, 4), []),
  (⟨"SoupTable", "stuck", "()I"⟩, prog_1_method_17_code, 1, Option.some Jvm.ClassFile.FieldType.int, (6, 135, 0, 0), (false, false, 0, 5), []),
  (⟨"SoupTableModel", "stuckOnes", "()I"⟩, prog_8_method_55_code, 5, Option.some Jvm.ClassFile.FieldType.int, (5, 111, 0, 0), (false, false, 0, 6), []),
  (⟨"SoupTableModel", "stuck", "()I"⟩, prog_8_method_56_code, 1, Option.some Jvm.ClassFile.FieldType.int, (6, 135, 0, 0), (false, false, 0, 6), [])]
def MT_4 : List (MethodName × ByteArray × Nat × Option FieldType × (Nat × Nat × Nat × Nat) × (Bool × Bool × Nat × Nat) × List (Nat × Nat × Nat × Nat)) := [
  (⟨"SoupTable$Waiting", "canGoOn", "(LSoupTable$Table;II)Z"⟩, prog_6_method_7_code, 5, Option.some Jvm.ClassFile.FieldType.boolean, (3, 67, 0, 0), (false, true, 0, 4), []),
  (⟨"SoupTable$Waiting", "remainingOf", "(LSoupTable$Table;)I"⟩, prog_6_method_6_code, 4, Option.some Jvm.ClassFile.FieldType.int, (4, 91, 0, 0), (false, true, 0, 4), []),
  (⟨"SoupTable", "stuckAgain", "()I"⟩, prog_1_method_18_code, 1, Option.some Jvm.ClassFile.FieldType.int, (5, 114, 0, 0), (false, false, 0, 5), []),
  (⟨"SoupTableModel", "stuckAgain", "()I"⟩, prog_8_method_57_code, 1, Option.some Jvm.ClassFile.FieldType.int, (7, 155, 0, 0), (false, false, 0, 6), []),
  (⟨"SoupTable$Table", "hasBothManners", "()Z"⟩, prog_4_method_28_code, 2, Option.some Jvm.ClassFile.FieldType.boolean, (0, 0, 0, 0), (false, false, 0, 2), []),
  (⟨"SoupTable", "isSure", "()Z"⟩, prog_1_method_19_code, 2, Option.some Jvm.ClassFile.FieldType.boolean, (1, 21, 0, 0), (false, false, 0, 5), []),
  (⟨"SoupTableModel", "isSure", "()Z"⟩, prog_8_method_58_code, 3, Option.some Jvm.ClassFile.FieldType.boolean, (1, 22, 0, 0), (false, false, 0, 6), []),
  (⟨"SoupTable", "mealsIn", "(I)I"⟩, prog_1_method_20_code, 3, Option.some Jvm.ClassFile.FieldType.int, (8, 120, 1, 6), (false, false, 0, 5), []),
  (⟨"SoupTableLaw", "mealsIn", "(LSoupTable;I[J)I"⟩, method_16_code, 4, Option.some Jvm.ClassFile.FieldType.int, (9, 142, 1, 6), (false, true, 0, 7), [((0 : Nat), (9 : Nat), (12 : Nat), (44 : Nat))]),
  (⟨"SoupTableModel", "thinks", "()V"⟩, prog_8_method_8_code, 2, none, (0, 0, 0, 0), (false, false, 0, 6), []),
  (⟨"SoupTableModel", "thinksNoMore", "()V"⟩, prog_8_method_9_code, 2, none, (0, 0, 0, 0), (false, false, 0, 6), []),
  (⟨"SoupTableModel", "mealsIn", "(I)I"⟩, prog_8_method_59_code, 3, Option.some Jvm.ClassFile.FieldType.int, (6, 131, 0, 0), (false, false, 0, 6), []),
  (⟨"SoupTable", "stuckIn", "()I"⟩, prog_1_method_21_code, 2, Option.some Jvm.ClassFile.FieldType.int, (8, 135, 1, 6), (false, false, 0, 5), []),
  (⟨"SoupTableLaw", "stuckIn", "(LSoupTable;[J)I"⟩, method_17_code, 3, Option.some Jvm.ClassFile.FieldType.int, (9, 156, 1, 6), (false, true, 0, 7), [((0 : Nat), (8 : Nat), (11 : Nat), (56 : Nat))]),
  (⟨"SoupTableModel", "stuckIn", "()I"⟩, prog_8_method_60_code, 3, Option.some Jvm.ClassFile.FieldType.int, (6, 135, 0, 0), (false, false, 0, 6), []),
  (⟨"SoupTable$Seat", "isHungrierThan", "(LSoupTable$Seat;)Z"⟩, prog_3_method_6_code, 2, Option.some Jvm.ClassFile.FieldType.boolean, (0, 0, 0, 0), (false, false, 0, 1), []),
  (⟨"SoupTable$Table", "hungrierThan", "(I)I"⟩, prog_4_method_27_code, 5, Option.some Jvm.ClassFile.FieldType.int, (1, 21, 0, 0), (false, false, 0, 2), []),
  (⟨"SoupTable$Table", "hungriestAt", "(I)I"⟩, prog_4_method_26_code, 3, Option.some Jvm.ClassFile.FieldType.int, (2, 45, 0, 0), (false, false, 0, 2), []),
  (⟨"SoupTable", "hungriest", "(I)I"⟩, prog_1_method_22_code, 3, Option.some Jvm.ClassFile.FieldType.int, (8, 120, 1, 6), (false, false, 0, 5), []),
  (⟨"SoupTableLaw", "hungriest", "(LSoupTable;I[J)I"⟩, method_18_code, 4, Option.some Jvm.ClassFile.FieldType.int, (9, 142, 1, 6), (false, true, 0, 7), [((0 : Nat), (9 : Nat), (12 : Nat), (56 : Nat))]),
  (⟨"SoupTableModel", "isAhead", "(II)Z"⟩, prog_8_method_61_code, 4, Option.some Jvm.ClassFile.FieldType.boolean, (1, 22, 0, 0), (false, false, 0, 6), []),
  (⟨"SoupTableModel", "hungriest", "(I)I"⟩, prog_8_method_62_code, 5, Option.some Jvm.ClassFile.FieldType.int, (2, 45, 0, 0), (false, false, 0, 6), []),
  (⟨"SoupTable$Table", "fewestMeals", "()I"⟩, prog_4_method_33_code, 3, Option.some Jvm.ClassFile.FieldType.int, (1, 30, 0, 0), (false, false, 0, 2), []),
  (⟨"SoupTable", "rounds", "()I"⟩, prog_1_method_23_code, 1, Option.some Jvm.ClassFile.FieldType.int, (2, 52, 0, 0), (false, false, 0, 5), []),
  (⟨"SoupTableModel", "meals", "(Z)I"⟩, prog_8_method_63_code, 4, Option.some Jvm.ClassFile.FieldType.int, (1, 30, 0, 0), (false, false, 0, 6), []),
  (⟨"SoupTableModel", "rounds", "()I"⟩, prog_8_method_64_code, 1, Option.some Jvm.ClassFile.FieldType.int, (2, 53, 0, 0), (false, false, 0, 6), []),
  (⟨"SoupTable$Table", "isNext", "(II)Z"⟩, prog_4_method_18_code, 3, Option.some Jvm.ClassFile.FieldType.boolean, (0, 0, 0, 0), (false, false, 0, 2), []),
  (⟨"SoupTable", "areNeighbours", "(II)Z"⟩, prog_1_method_24_code, 3, Option.some Jvm.ClassFile.FieldType.boolean, (8, 120, 1, 6), (false, false, 0, 5), []),
  (⟨"SoupTableLaw", "areNeighbours", "(LSoupTable;II[J)I"⟩, method_19_code, 5, Option.some Jvm.ClassFile.FieldType.int, (9, 142, 1, 6), (false, true, 0, 7), [((0 : Nat), (17 : Nat), (20 : Nat), (42 : Nat))]),
  (⟨"SoupTableModel", "areNeighbours", "(II)Z"⟩, prog_8_method_65_code, 3, Option.some Jvm.ClassFile.FieldType.boolean, (2, 43, 0, 0), (false, false, 0, 6), []),
  (⟨"SoupTable", "append", "(C)I"⟩, prog_1_method_25_code, 2, Option.some Jvm.ClassFile.FieldType.int, (8, 120, 1, 6), (false, false, 0, 5), []),
  (⟨"SoupTableLaw", "append", "(LSoupTable;C[J)I"⟩, method_20_code, 4, Option.some Jvm.ClassFile.FieldType.int, (9, 141, 1, 6), (false, true, 0, 7), [((0 : Nat), (9 : Nat), (12 : Nat), (78 : Nat))])]
def MT_5 : List (MethodName × ByteArray × Nat × Option FieldType × (Nat × Nat × Nat × Nat) × (Bool × Bool × Nat × Nat) × List (Nat × Nat × Nat × Nat)) := [
  (⟨"SoupTableModel", "append", "(C)I"⟩, prog_8_method_66_code, 2, Option.some Jvm.ClassFile.FieldType.int, (1, 21, 0, 0), (false, false, 0, 6), []),
  (⟨"java/lang/String", "isLatin1", "()Z"⟩, prog_22_method_154_code, 1, Option.some Jvm.ClassFile.FieldType.boolean, (0, 0, 0, 0), (false, false, 1, 8), []),
  (⟨"java/lang/String", "coder", "()B"⟩, prog_22_method_152_code, 1, Option.some Jvm.ClassFile.FieldType.byte, (0, 0, 0, 0), (false, false, 1, 8), []),
  (⟨"java/lang/String", "length", "()I"⟩, prog_22_method_54_code, 1, Option.some Jvm.ClassFile.FieldType.int, (1, 20, 0, 0), (false, false, 1, 8), []),
  (⟨"java/lang/StringLatin1", "canEncode", "(I)Z"⟩, prog_23_method_4_code, 1, Option.some Jvm.ClassFile.FieldType.boolean, (0, 0, 0, 0), (false, true, 1, 9), []),
  (⟨"java/lang/StringLatin1", "indexOfChar", "([BIII)I"⟩, prog_23_method_23_code, 6, Option.some Jvm.ClassFile.FieldType.int, (0, 0, 0, 0), (false, true, 1, 9), []),
  (⟨"java/lang/StringLatin1", "indexOf", "([BIII)I"⟩, prog_23_method_22_code, 4, Option.some Jvm.ClassFile.FieldType.int, (1, 30, 0, 0), (false, true, 1, 9), []),
  (⟨"java/lang/String", "indexOf", "(II)I"⟩, prog_22_method_80_code, 3, Option.some Jvm.ClassFile.FieldType.int, (2, 53, 0, 0), (false, false, 1, 8), []),
  (⟨"java/lang/String", "indexOf", "(I)I"⟩, prog_22_method_79_code, 2, Option.some Jvm.ClassFile.FieldType.int, (3, 75, 0, 0), (false, false, 1, 8), []),
  (⟨"SoupTable$Text", "shapeOf", "(I)Ljava/lang/String;"⟩, prog_5_method_4_code, 1, Option.some (Jvm.ClassFile.FieldType.object "java/lang/String"), (0, 0, 0, 0), (false, true, 0, 3), []),
  (⟨"jdk/internal/util/Preconditions", "checkIndex", "(IILjava/util/function/BiFunction;)I"⟩, prog_30_method_11_code, 3, Option.some Jvm.ClassFile.FieldType.int, (0, 0, 0, 0), (false, true, 1, 11), []),
  (⟨"java/lang/String", "checkIndex", "(II)V"⟩, prog_22_method_155_code, 2, none, (1, 22, 0, 0), (false, true, 1, 8), []),
  (⟨"java/lang/StringLatin1", "charAt", "([BI)C"⟩, prog_23_method_2_code, 2, Option.some Jvm.ClassFile.FieldType.char, (2, 43, 0, 0), (false, true, 1, 9), []),
  (⟨"java/lang/String", "charAt", "(I)C"⟩, prog_22_method_56_code, 2, Option.some Jvm.ClassFile.FieldType.char, (3, 64, 0, 0), (false, false, 1, 8), []),
  (⟨"SoupTable$Text", "handHere", "()I"⟩, prog_5_method_6_code, 1, Option.some Jvm.ClassFile.FieldType.int, (0, 0, 0, 0), (false, false, 0, 3), []),
  (⟨"SoupTable$Text", "digitHere", "()I"⟩, prog_5_method_7_code, 2, Option.some Jvm.ClassFile.FieldType.int, (0, 0, 0, 0), (false, false, 0, 3), []),
  (⟨"SoupTable$Text", "readsNumber", "(CI)Z"⟩, prog_5_method_5_code, 5, Option.some Jvm.ClassFile.FieldType.boolean, (1, 21, 0, 0), (false, false, 0, 3), []),
  (⟨"SoupTable$Text", "readsCommand", "()Z"⟩, prog_5_method_3_code, 3, Option.some Jvm.ClassFile.FieldType.boolean, (4, 96, 0, 0), (false, false, 0, 3), []),
  (⟨"SoupTable$Text", "skipSemicolon", "()Z"⟩, prog_5_method_8_code, 2, Option.some Jvm.ClassFile.FieldType.boolean, (0, 0, 0, 0), (false, false, 0, 3), []),
  (⟨"SoupTable$Text", "findFault", "()I"⟩, prog_5_method_2_code, 2, Option.some Jvm.ClassFile.FieldType.int, (5, 118, 0, 0), (false, false, 0, 3), []),
  (⟨"SoupTable$Table", "obey", "(LSoupTable$Text;LSoupTable$Refusal;)I"⟩, prog_4_method_3_code, 6, Option.some Jvm.ClassFile.FieldType.int, (5, 114, 0, 0), (false, false, 0, 2), []),
  (⟨"SoupTable", "commands", "()I"⟩, prog_1_method_26_code, 3, Option.some Jvm.ClassFile.FieldType.int, (8, 139, 1, 6), (false, false, 0, 5), []),
  (⟨"SoupTableLaw", "commands", "(LSoupTable;[J)I"⟩, method_21_code, 3, Option.some Jvm.ClassFile.FieldType.int, (9, 161, 1, 6), (false, true, 0, 7), [((0 : Nat), (8 : Nat), (11 : Nat), (44 : Nat)), ((0 : Nat), (8 : Nat), (14 : Nat), (13 : Nat))]),
  (⟨"SoupTableModel", "sign", "(C)Z"⟩, prog_8_method_67_code, 2, Option.some Jvm.ClassFile.FieldType.boolean, (0, 0, 0, 0), (false, false, 0, 6), []),
  (⟨"SoupTableModel", "manners", "(I)Z"⟩, prog_8_method_69_code, 2, Option.some Jvm.ClassFile.FieldType.boolean, (1, 21, 0, 0), (false, false, 0, 6), []),
  (⟨"SoupTableModel", "digits", "(II)Z"⟩, prog_8_method_68_code, 4, Option.some Jvm.ClassFile.FieldType.boolean, (1, 22, 0, 0), (false, false, 0, 6), []),
  (⟨"SoupTableModel", "isCommand", "()Z"⟩, prog_8_method_70_code, 1, Option.some Jvm.ClassFile.FieldType.boolean, (2, 45, 0, 0), (false, false, 0, 6), []),
  (⟨"SoupTableModel", "carries", "()Z"⟩, prog_8_method_71_code, 1, Option.some Jvm.ClassFile.FieldType.boolean, (7, 152, 0, 0), (false, false, 0, 6), []),
  (⟨"SoupTableModel", "comesBack", "()V"⟩, prog_8_method_6_code, 2, none, (0, 0, 0, 0), (false, false, 0, 6), []),
  (⟨"SoupTableModel", "commands", "()I"⟩, prog_8_method_72_code, 4, Option.some Jvm.ClassFile.FieldType.int, (8, 172, 0, 0), (false, false, 0, 6), []),
  (⟨"SoupTable", "faultPosition", "()I"⟩, prog_1_method_27_code, 1, Option.some Jvm.ClassFile.FieldType.int, (0, 0, 0, 0), (false, false, 0, 5), []),
  (⟨"SoupTableModel", "faultPosition", "()I"⟩, prog_8_method_73_code, 1, Option.some Jvm.ClassFile.FieldType.int, (0, 0, 0, 0), (false, false, 0, 6), [])]
def MT_6 : List (MethodName × ByteArray × Nat × Option FieldType × (Nat × Nat × Nat × Nat) × (Bool × Bool × Nat × Nat) × List (Nat × Nat × Nat × Nat)) := [
  (⟨"SoupTable", "reason", "(I)I"⟩, prog_1_method_28_code, 2, Option.some Jvm.ClassFile.FieldType.int, (8, 120, 1, 6), (false, false, 0, 5), []),
  (⟨"SoupTableLaw", "reason", "(LSoupTable;I[J)I"⟩, method_22_code, 4, Option.some Jvm.ClassFile.FieldType.int, (9, 141, 1, 6), (false, true, 0, 7), [((0 : Nat), (9 : Nat), (12 : Nat), (44 : Nat)), ((0 : Nat), (9 : Nat), (15 : Nat), (56 : Nat))]),
  (⟨"SoupTableModel", "reason", "(I)I"⟩, prog_8_method_74_code, 2, Option.some Jvm.ClassFile.FieldType.int, (1, 22, 0, 0), (false, false, 0, 6), []),
  (⟨"SoupTable", "write", "(C)V"⟩, prog_1_method_40_code, 2, none, (0, 0, 0, 0), (false, false, 0, 5), []),
  (⟨"SoupTable", "writeSeat", "(IZ)V"⟩, prog_1_method_39_code, 4, none, (4, 85, 0, 0), (false, false, 0, 5), []),
  (⟨"SoupTable", "line", "()I"⟩, prog_1_method_29_code, 3, Option.some Jvm.ClassFile.FieldType.int, (6, 135, 0, 0), (false, false, 0, 5), []),
  (⟨"SoupTableModel", "line", "()I"⟩, prog_8_method_75_code, 3, Option.some Jvm.ClassFile.FieldType.int, (6, 135, 0, 0), (false, false, 0, 6), []),
  (⟨"SoupTable", "character", "(I)C"⟩, prog_1_method_30_code, 2, Option.some Jvm.ClassFile.FieldType.char, (8, 120, 1, 6), (false, false, 0, 5), []),
  (⟨"SoupTableLaw", "character", "(LSoupTable;I[J)I"⟩, method_23_code, 4, Option.some Jvm.ClassFile.FieldType.int, (9, 141, 1, 6), (false, true, 0, 7), [((0 : Nat), (9 : Nat), (12 : Nat), (42 : Nat))]),
  (⟨"SoupTableModel", "character", "(I)C"⟩, prog_8_method_76_code, 2, Option.some Jvm.ClassFile.FieldType.char, (1, 22, 0, 0), (false, false, 0, 6), []),
  (⟨"SoupTable$Table", "waitsOfAll", "()I"⟩, prog_4_method_35_code, 3, Option.some Jvm.ClassFile.FieldType.int, (0, 0, 0, 0), (false, false, 0, 2), []),
  (⟨"SoupTable", "meanWait", "()D"⟩, prog_1_method_31_code, 2, Option.some Jvm.ClassFile.FieldType.double, (8, 120, 1, 6), (false, false, 0, 5), []),
  (⟨"SoupTableLaw", "meanWait", "(LSoupTable;[D)I"⟩, method_24_code, 3, Option.some Jvm.ClassFile.FieldType.int, (9, 141, 1, 6), (false, true, 0, 7), [((0 : Nat), (7 : Nat), (10 : Nat), (94 : Nat))]),
  (⟨"SoupTableModel", "all", "(I)I"⟩, prog_8_method_77_code, 4, Option.some Jvm.ClassFile.FieldType.int, (1, 22, 0, 0), (false, false, 0, 6), []),
  (⟨"SoupTableModel", "meanWait", "()D"⟩, prog_8_method_78_code, 1, Option.some Jvm.ClassFile.FieldType.double, (2, 45, 0, 0), (false, false, 0, 6), []),
  (⟨"SoupTable$Table", "mostMeals", "()I"⟩, prog_4_method_34_code, 3, Option.some Jvm.ClassFile.FieldType.int, (1, 30, 0, 0), (false, false, 0, 2), []),
  (⟨"SoupTable", "fairness", "()F"⟩, prog_1_method_32_code, 2, Option.some Jvm.ClassFile.FieldType.float, (8, 120, 1, 6), (false, false, 0, 5), []),
  (⟨"SoupTableLaw", "fairness", "(LSoupTable;[D)I"⟩, method_25_code, 3, Option.some Jvm.ClassFile.FieldType.int, (9, 141, 1, 6), (false, true, 0, 7), [((0 : Nat), (8 : Nat), (11 : Nat), (94 : Nat))]),
  (⟨"SoupTableModel", "fairness", "()F"⟩, prog_8_method_79_code, 1, Option.some Jvm.ClassFile.FieldType.float, (2, 53, 0, 0), (false, false, 0, 6), []),
  (⟨"SoupTable$Table", "askers", "()I"⟩, prog_4_method_31_code, 3, Option.some Jvm.ClassFile.FieldType.int, (0, 0, 0, 0), (false, false, 0, 2), []),
  (⟨"SoupTable", "account", "(I)I"⟩, prog_1_method_33_code, 2, Option.some Jvm.ClassFile.FieldType.int, (8, 120, 1, 6), (false, false, 0, 5), []),
  (⟨"SoupTableLaw", "account", "(LSoupTable;I[J)I"⟩, method_26_code, 4, Option.some Jvm.ClassFile.FieldType.int, (9, 141, 1, 6), (false, true, 0, 7), [((0 : Nat), (9 : Nat), (12 : Nat), (44 : Nat))]),
  (⟨"SoupTableModel", "account", "(I)I"⟩, prog_8_method_80_code, 2, Option.some Jvm.ClassFile.FieldType.int, (2, 45, 0, 0), (false, false, 0, 6), []),
  (⟨"SoupTable", "undo", "()I"⟩, prog_1_method_34_code, 1, Option.some Jvm.ClassFile.FieldType.int, (8, 120, 1, 6), (false, false, 0, 5), []),
  (⟨"SoupTableLaw", "undo", "(LSoupTable;[J)I"⟩, method_27_code, 3, Option.some Jvm.ClassFile.FieldType.int, (9, 140, 1, 6), (false, true, 0, 7), [((0 : Nat), (8 : Nat), (11 : Nat), (78 : Nat))]),
  (⟨"SoupTableModel", "undo", "()I"⟩, prog_8_method_81_code, 2, Option.some Jvm.ClassFile.FieldType.int, (1, 21, 0, 0), (false, false, 0, 6), []),
  (⟨"SoupTable", "save", "()I"⟩, prog_1_method_35_code, 1, Option.some Jvm.ClassFile.FieldType.int, (2, 43, 0, 0), (false, false, 0, 5), []),
  (⟨"SoupTableModel", "save", "()I"⟩, prog_8_method_82_code, 2, Option.some Jvm.ClassFile.FieldType.int, (0, 0, 0, 0), (false, false, 0, 6), []),
  (⟨"SoupTable", "restore", "()I"⟩, prog_1_method_36_code, 1, Option.some Jvm.ClassFile.FieldType.int, (8, 120, 1, 6), (false, false, 0, 5), []),
  (⟨"SoupTableLaw", "restore", "(LSoupTable;[J)I"⟩, method_28_code, 3, Option.some Jvm.ClassFile.FieldType.int, (9, 140, 1, 6), (false, true, 0, 7), [((0 : Nat), (8 : Nat), (11 : Nat), (78 : Nat))]),
  (⟨"SoupTableModel", "restore", "()I"⟩, prog_8_method_83_code, 2, Option.some Jvm.ClassFile.FieldType.int, (1, 21, 0, 0), (false, false, 0, 6), []),
  (⟨"SoupTableLaw", "law", "([I)Z"⟩, code, 9, ret, (21, 10892, 603072, 7219306), (true, true, 2, 7), [])]
def MT : List (MethodName × ByteArray × Nat × Option FieldType × (Nat × Nat × Nat × Nat) × (Bool × Bool × Nat × Nat) × List (Nat × Nat × Nat × Nat)) := MT_0 ++ (MT_1 ++ (MT_2 ++ (MT_3 ++ (MT_4 ++ (MT_5 ++ (MT_6))))))
def MD : MethodName × ByteArray × Nat × Option FieldType × (Nat × Nat × Nat × Nat) × (Bool × Bool × Nat × Nat) × List (Nat × Nat × Nat × Nat) := (⟨"", "", ""⟩, ⟨#[]⟩, 0, none, (0, 0, 0, 0), (false, false, 0, 0), [])
def mI (M : Nat) : MethodName × ByteArray × Nat × Option FieldType × (Nat × Nat × Nat × Nat) × (Bool × Bool × Nat × Nat) × List (Nat × Nat × Nat × Nat) := MT.getD M MD
def mY (M : Nat) : MethodName := (mI M).1
def mB (M : Nat) : ByteArray := (mI M).2.1
def mL (M : Nat) : Nat := (mI M).2.2.1
def mR (M : Nat) : Option FieldType := (mI M).2.2.2.1
def mF (M : Nat) : Nat := (mI M).2.2.2.2.1.1
def mO (M : Nat) : Nat := (mI M).2.2.2.2.1.2.1
def mC (M : Nat) : Nat := (mI M).2.2.2.2.1.2.2.1
def mS (M : Nat) : Nat := (mI M).2.2.2.2.1.2.2.2
def m2 (M : Nat) : Bool := (mI M).2.2.2.2.2.1.1
def mT (M : Nat) : Bool := (mI M).2.2.2.2.2.1.2.1
def mK (M : Nat) : Nat := (mI M).2.2.2.2.2.1.2.2.1
def mN (M : Nat) : Nat := (mI M).2.2.2.2.2.1.2.2.2
def mH (M : Nat) : List (Nat × Nat × Nat × Nat) := (mI M).2.2.2.2.2.2
def cname (k : Nat) : String := CN.getD k ""
def CT_0 : List (Nat × Nat × (Nat × Nat × Nat) × Nat) := [
  (7, 109, (2, 4, 0), 77),
  (5, 3, (5, 0, 0), 80),
  (5, 11, (2, 1, 0), 85),
  (2, 3, (5, 0, 0), 88),
  (1, 3, (5, 0, 0), 95),
  (3, 3, (5, 0, 0), 177),
  (0, 3, (5, 0, 0), 205),
  (7, 162, (0, 115, 0), 255),
  (7, 166, (0, 120, 0), 259),
  (5, 141, (1, 119, 1), 263),
  (4, 15, (1, 118, 2), 266),
  (4, 21, (0, 107, 1), 269),
  (2, 102, (0, 37, 1), 273),
  (2, 160, (0, 78, 1), 277),
  (2, 117, (0, 61, 2), 281),
  (7, 170, (0, 125, 0), 285),
  (5, 147, (1, 124, 1), 289),
  (4, 25, (1, 119, 1), 292),
  (4, 29, (1, 123, 2), 293),
  (4, 33, (0, 74, 0), 296),
  (4, 46, (0, 76, 0), 300),
  (2, 169, (0, 74, 0), 304),
  (2, 172, (1, 75, 1), 305),
  (7, 174, (0, 130, 0), 311),
  (5, 150, (1, 129, 1), 315),
  (4, 50, (1, 128, 3), 318),
  (7, 178, (0, 133, 0), 321),
  (5, 156, (0, 69, 0), 325),
  (5, 160, (0, 132, 0), 329),
  (7, 192, (0, 151, 0), 333),
  (5, 179, (0, 150, 0), 337),
  (2, 190, (7, 0, 0), 341),
  (7, 206, (0, 190, 0), 344),
  (7, 213, (0, 197, 0), 348),
  (5, 239, (0, 195, 1), 352),
  (5, 243, (0, 196, 2), 356),
  (5, 308, (0, 173, 1), 361),
  (8, 492, (0, 161, 0), 365),
  (8, 495, (1, 172, 2), 371),
  (9, 9, (1, 171, 2), 374),
  (8, 1059, (1, 170, 3), 379),
  (7, 233, (0, 218, 0), 402),
  (5, 51, (0, 7, 1), 406),
  (2, 29, (0, 6, 1), 410),
  (7, 113, (1, 18, 5), 414),
  (7, 7, (0, 17, 3), 418),
  (5, 55, (0, 14, 4), 422),
  (2, 81, (1, 8, 1), 426),
  (2, 85, (1, 9, 1), 429),
  (2, 88, (0, 10, 2), 432),
  (2, 94, (0, 11, 0), 436),
  (2, 98, (0, 13, 3), 440),
  (1, 33, (0, 12, 0), 444),
  (5, 59, (0, 16, 1), 448),
  (5, 223, (0, 15, 0), 523),
  (7, 122, (1, 33, 2), 527),
  (7, 15, (0, 32, 0), 530),
  (5, 63, (0, 31, 1), 534),
  (7, 126, (1, 40, 4), 538),
  (7, 19, (0, 39, 2), 541),
  (5, 67, (0, 38, 3), 545),
  (7, 130, (1, 48, 5), 549),
  (7, 23, (0, 47, 3), 552),
  (5, 71, (0, 46, 4), 556)]
def CT_1 : List (Nat × Nat × (Nat × Nat × Nat) × Nat) := [
  (7, 133, (1, 53, 3), 560),
  (7, 26, (0, 52, 1), 563),
  (5, 74, (0, 51, 2), 567),
  (7, 137, (1, 58, 3), 571),
  (7, 30, (0, 57, 1), 574),
  (5, 78, (0, 56, 2), 578),
  (7, 140, (1, 64, 3), 582),
  (7, 33, (0, 63, 1), 585),
  (5, 81, (0, 62, 2), 589),
  (7, 143, (1, 86, 3), 593),
  (7, 36, (0, 85, 1), 596),
  (5, 84, (0, 84, 2), 600),
  (2, 121, (0, 69, 0), 604),
  (2, 125, (0, 70, 0), 605),
  (2, 128, (0, 83, 0), 609),
  (2, 131, (0, 71, 1), 613),
  (2, 150, (0, 12, 0), 617),
  (2, 135, (0, 77, 0), 618),
  (2, 153, (0, 73, 1), 622),
  (2, 177, (0, 72, 1), 626),
  (2, 157, (0, 76, 0), 630),
  (2, 138, (0, 81, 1), 631),
  (2, 163, (0, 79, 1), 635),
  (2, 166, (0, 80, 0), 639),
  (2, 141, (0, 82, 0), 643),
  (1, 42, (6, 0, 0), 647),
  (7, 146, (1, 99, 4), 650),
  (7, 39, (0, 98, 2), 678),
  (5, 87, (0, 37, 1), 682),
  (5, 107, (0, 97, 1), 712),
  (7, 149, (1, 102, 4), 716),
  (7, 46, (0, 101, 2), 719),
  (5, 112, (0, 61, 2), 723),
  (7, 153, (1, 105, 3), 724),
  (7, 50, (0, 104, 1), 727),
  (7, 156, (1, 109, 3), 732),
  (7, 53, (0, 108, 1), 736),
  (5, 122, (0, 107, 1), 740),
  (7, 159, (1, 113, 3), 757),
  (7, 58, (0, 112, 1), 760),
  (5, 130, (0, 73, 1), 764),
  (7, 183, (1, 136, 3), 766),
  (7, 61, (0, 135, 1), 769),
  (5, 165, (0, 83, 0), 774),
  (5, 168, (0, 70, 0), 775),
  (7, 186, (1, 141, 2), 776),
  (7, 64, (0, 140, 0), 779),
  (7, 189, (1, 147, 3), 784),
  (7, 67, (0, 146, 1), 787),
  (5, 174, (0, 145, 1), 791),
  (2, 183, (0, 144, 1), 795),
  (2, 186, (0, 143, 1), 799),
  (7, 196, (1, 156, 4), 804),
  (7, 70, (0, 155, 2), 807),
  (5, 182, (0, 154, 2), 811),
  (7, 199, (1, 159, 3), 815),
  (7, 74, (0, 158, 1), 819),
  (7, 203, (1, 182, 2), 839),
  (7, 80, (0, 181, 0), 842),
  (5, 197, (0, 179, 0), 846),
  (3, 23, (0, 177, 0), 850),
  (3, 35, (0, 168, 1), 855),
  (8, 633, (0, 167, 2), 859),
  (8, 505, (0, 163, 0), 863)]
def CT_2 : List (Nat × Nat × (Nat × Nat × Nat) × Nat) := [
  (8, 335, (0, 162, 0), 867),
  (8, 637, (1, 166, 4), 871),
  (9, 88, (1, 164, 1), 874),
  (9, 92, (6, 0, 0), 877),
  (9, 38, (7, 0, 0), 878),
  (9, 95, (1, 165, 4), 879),
  (3, 44, (1, 169, 1), 917),
  (3, 48, (0, 163, 0), 926),
  (3, 51, (0, 173, 1), 927),
  (3, 55, (0, 176, 2), 928),
  (3, 71, (0, 174, 0), 932),
  (3, 74, (0, 175, 0), 936),
  (3, 30, (0, 178, 0), 940),
  (5, 205, (0, 177, 0), 945),
  (5, 208, (0, 180, 2), 946),
  (2, 53, (0, 14, 4), 950),
  (2, 57, (0, 31, 1), 951),
  (2, 61, (0, 38, 3), 952),
  (2, 65, (0, 46, 4), 953),
  (2, 68, (0, 51, 2), 954),
  (2, 72, (0, 56, 2), 955),
  (2, 75, (0, 62, 2), 956),
  (2, 78, (0, 84, 2), 957),
  (5, 212, (0, 178, 0), 958),
  (7, 210, (1, 193, 3), 960),
  (7, 83, (0, 192, 1), 963),
  (7, 217, (1, 200, 3), 969),
  (7, 86, (0, 199, 1), 972),
  (7, 220, (1, 204, 2), 977),
  (7, 90, (0, 203, 0), 994),
  (5, 254, (0, 202, 0), 1001),
  (7, 224, (1, 209, 2), 1005),
  (7, 96, (0, 208, 0), 1008),
  (5, 257, (0, 207, 0), 1012),
  (2, 195, (6, 0, 0), 1016),
  (7, 227, (1, 213, 3), 1018),
  (7, 100, (0, 212, 1), 1021),
  (5, 271, (0, 11, 0), 1025),
  (5, 274, (0, 74, 0), 1026),
  (5, 277, (1, 75, 1), 1027),
  (5, 282, (0, 211, 0), 1028),
  (7, 230, (1, 216, 2), 1033),
  (7, 103, (0, 215, 0), 1036),
  (7, 237, (1, 221, 2), 1041),
  (7, 106, (0, 220, 0), 1044),
  (7, 112, (2, 5, 0), 1051),
  (6, 3, (5, 0, 0), 1054),
  (7, 119, (0, 30, 0), 1116),
  (7, 118, (0, 29, 3), 1120),
  (6, 104, (0, 19, 0), 1124),
  (6, 107, (0, 25, 3), 1128),
  (6, 64, (1, 20, 3), 1132),
  (6, 89, (0, 21, 2), 1135),
  (6, 93, (0, 22, 0), 1139),
  (6, 96, (0, 23, 3), 1143),
  (6, 100, (0, 24, 1), 1147),
  (6, 110, (0, 28, 1), 1151),
  (6, 57, (0, 26, 1), 1155),
  (6, 61, (0, 27, 1), 1159),
  (7, 125, (0, 36, 0), 1163),
  (6, 118, (0, 35, 0), 1167),
  (6, 114, (0, 34, 1), 1171),
  (7, 129, (0, 45, 2), 1175),
  (6, 125, (0, 44, 2), 1179)]
def CT_3 : List (Nat × Nat × (Nat × Nat × Nat) × Nat) := [
  (6, 122, (0, 41, 1), 1183),
  (6, 68, (0, 42, 2), 1187),
  (6, 75, (0, 43, 1), 1191),
  (7, 132, (0, 50, 3), 1195),
  (6, 128, (0, 49, 3), 1199),
  (7, 136, (0, 55, 1), 1203),
  (6, 131, (0, 54, 1), 1207),
  (7, 139, (0, 60, 1), 1211),
  (6, 134, (0, 59, 1), 1215),
  (7, 142, (0, 68, 1), 1219),
  (6, 137, (0, 67, 1), 1223),
  (6, 82, (0, 65, 1), 1227),
  (6, 72, (0, 66, 1), 1231),
  (7, 145, (0, 96, 1), 1235),
  (6, 163, (0, 95, 1), 1239),
  (6, 160, (0, 94, 1), 1243),
  (6, 157, (0, 93, 0), 1247),
  (6, 143, (0, 87, 1), 1251),
  (6, 146, (0, 89, 0), 1255),
  (6, 85, (0, 88, 0), 1259),
  (6, 149, (0, 92, 1), 1263),
  (6, 78, (0, 90, 2), 1267),
  (6, 140, (0, 91, 1), 1271),
  (6, 152, (6, 0, 0), 1275),
  (7, 148, (0, 100, 2), 1276),
  (7, 152, (0, 103, 2), 1280),
  (7, 155, (0, 106, 1), 1284),
  (7, 158, (0, 111, 1), 1288),
  (6, 166, (0, 110, 1), 1292),
  (7, 161, (0, 114, 1), 1296),
  (7, 165, (0, 117, 0), 1300),
  (6, 169, (0, 116, 1), 1304),
  (7, 169, (0, 122, 0), 1308),
  (6, 172, (0, 121, 0), 1312),
  (7, 173, (0, 127, 0), 1316),
  (6, 175, (0, 126, 0), 1320),
  (7, 177, (0, 131, 0), 1324),
  (6, 178, (0, 127, 0), 1328),
  (7, 182, (0, 134, 0), 1329),
  (7, 185, (0, 139, 1), 1333),
  (6, 181, (0, 137, 0), 1337),
  (6, 184, (0, 138, 0), 1341),
  (7, 188, (0, 142, 0), 1345),
  (7, 191, (0, 149, 1), 1349),
  (6, 187, (0, 148, 2), 1353),
  (7, 195, (0, 153, 0), 1357),
  (6, 193, (0, 152, 1), 1361),
  (6, 190, (7, 0, 0), 1365),
  (7, 198, (0, 157, 2), 1366),
  (7, 202, (0, 160, 1), 1370),
  (7, 205, (0, 189, 0), 1374),
  (6, 216, (0, 186, 0), 1378),
  (6, 210, (0, 184, 1), 1382),
  (6, 202, (0, 183, 1), 1386),
  (6, 213, (0, 185, 2), 1390),
  (6, 219, (0, 187, 0), 1394),
  (6, 222, (0, 188, 0), 1398),
  (7, 209, (0, 191, 0), 1402),
  (7, 212, (0, 194, 1), 1406),
  (7, 216, (0, 198, 0), 1410),
  (6, 230, (0, 173, 1), 1415),
  (7, 219, (0, 201, 1), 1416),
  (7, 223, (0, 206, 0), 1420),
  (6, 236, (0, 205, 1), 1424)]
def CT_4 : List (Nat × Nat × (Nat × Nat × Nat) × Nat) := [
  (7, 226, (0, 210, 0), 1428),
  (7, 229, (0, 214, 1), 1432),
  (7, 232, (0, 217, 0), 1436),
  (7, 236, (0, 219, 0), 1440),
  (7, 239, (0, 222, 0), 1444)]
/-- calls: the class that calls, the entry, (kind, method, how many arguments), the word by its place -/
def CTA : List (Nat × Nat × (Nat × Nat × Nat) × Nat) := CT_0 ++ (CT_1 ++ (CT_2 ++ (CT_3 ++ (CT_4))))
def CTN : List (Nat × Nat × (Nat × Nat × Nat) × Nat) := [(2, 28, (3, 0, 0), 92), (5, 31, (3, 2, 0), 174), (5, 42, (3, 3, 0), 202)]
def CT : List (Nat × Nat × (Nat × Nat × Nat) × Nat) := CTN ++ CTA
def MCL : List (Nat × Nat) := [(79, 4), (87, 1), (94, 0), (176, 2), (204, 3), (258, 115), (262, 120), (265, 119), (268, 118), (272, 107), (276, 37), (280, 78), (284, 61), (288, 125), (291, 124), (295, 123), (299, 74), (303, 76), (307, 75), (314, 130), (317, 129), (320, 128), (324, 133), (328, 69), (332, 132), (336, 151), (340, 150), (347, 190), (351, 197), (355, 195), (359, 196), (364, 173), (368, 161), (373, 172), (376, 171), (381, 170), (405, 218), (409, 7), (413, 6), (416, 18), (421, 17), (425, 14), (428, 8), (431, 9), (435, 10), (439, 11), (443, 13), (447, 12), (451, 16), (526, 15), (529, 33), (533, 32), (537, 31), (540, 40), (544, 39), (548, 38), (551, 48), (555, 47), (559, 46), (562, 53), (566, 52), (570, 51), (573, 58), (577, 57), (581, 56), (584, 64), (588, 63), (592, 62), (595, 86), (599, 85), (603, 84), (608, 70), (612, 83), (616, 71), (621, 77), (625, 73), (629, 72), (634, 81), (638, 79), (642, 80), (646, 82), (652, 99), (681, 98), (715, 97), (718, 102), (722, 101), (726, 105), (730, 104), (734, 109), (739, 108), (759, 113), (763, 112), (768, 136), (772, 135), (778, 141), (782, 140), (786, 147), (790, 146), (794, 145), (798, 144), (802, 143), (806, 156), (810, 155), (814, 154), (817, 159), (822, 158), (841, 182), (845, 181), (849, 179), (853, 177), (858, 168), (862, 167), (866, 163), (870, 162), (873, 166), (876, 164), (881, 165), (919, 169), (931, 176), (935, 174), (939, 175), (943, 178), (949, 180), (962, 193), (966, 192), (971, 200), (975, 199), (979, 204), (997, 203), (1004, 202), (1007, 209), (1011, 208), (1015, 207), (1020, 213), (1024, 212), (1031, 211), (1035, 216), (1039, 215), (1043, 221), (1047, 220), (1053, 5), (1119, 30), (1123, 29), (1127, 19), (1131, 25), (1134, 20), (1138, 21), (1142, 22), (1146, 23), (1150, 24), (1154, 28), (1158, 26), (1162, 27), (1166, 36), (1170, 35), (1174, 34), (1178, 45), (1182, 44), (1186, 41), (1190, 42), (1194, 43), (1198, 50), (1202, 49), (1206, 55), (1210, 54), (1214, 60), (1218, 59), (1222, 68), (1226, 67), (1230, 65), (1234, 66), (1238, 96), (1242, 95), (1246, 94), (1250, 93), (1254, 87), (1258, 89), (1262, 88), (1266, 92), (1270, 90), (1274, 91), (1279, 100), (1283, 103), (1287, 106), (1291, 111), (1295, 110), (1299, 114), (1303, 117), (1307, 116), (1311, 122), (1315, 121), (1319, 127), (1323, 126), (1327, 131), (1332, 134), (1336, 139), (1340, 137), (1344, 138), (1348, 142), (1352, 149), (1356, 148), (1360, 153), (1364, 152), (1369, 157), (1373, 160), (1377, 189), (1381, 186), (1385, 184), (1389, 183), (1393, 185), (1397, 187), (1401, 188), (1405, 191), (1409, 194), (1413, 198), (1419, 201), (1423, 206), (1427, 205), (1431, 210), (1435, 214), (1439, 217), (1443, 219), (1447, 222)]
def MSL : List (Nat × Nat) := [(78, 4), (86, 1), (93, 0), (175, 2), (203, 3), (256, 115), (260, 120), (264, 119), (267, 118), (270, 107), (274, 37), (278, 78), (282, 61), (286, 125), (290, 124), (294, 123), (297, 74), (301, 76), (306, 75), (312, 130), (316, 129), (319, 128), (322, 133), (326, 69), (330, 132), (334, 151), (338, 150), (345, 190), (349, 197), (354, 195), (358, 196), (362, 173), (366, 161), (372, 172), (375, 171), (380, 170), (403, 218), (407, 7), (411, 6), (415, 18), (419, 17), (423, 14), (427, 8), (430, 9), (433, 10), (437, 11), (441, 13), (445, 12), (450, 16), (525, 15), (528, 33), (531, 32), (535, 31), (539, 40), (542, 39), (546, 38), (550, 48), (553, 47), (557, 46), (561, 53), (564, 52), (568, 51), (572, 58), (575, 57), (579, 56), (583, 64), (586, 63), (590, 62), (594, 86), (597, 85), (601, 84), (606, 70), (610, 83), (614, 71), (619, 77), (623, 73), (627, 72), (632, 81), (636, 79), (640, 80), (644, 82), (651, 99), (679, 98), (713, 97), (717, 102), (720, 101), (725, 105), (728, 104), (733, 109), (737, 108), (758, 113), (761, 112), (767, 136), (770, 135), (777, 141), (780, 140), (785, 147), (788, 146), (792, 145), (796, 144), (800, 143), (805, 156), (808, 155), (812, 154), (816, 159), (820, 158), (840, 182), (843, 181), (847, 179), (851, 177), (856, 168), (860, 167), (864, 163), (868, 162), (872, 166), (875, 164), (880, 165), (918, 169), (929, 176), (933, 174), (937, 175), (941, 178), (947, 180), (961, 193), (964, 192), (970, 200), (973, 199), (978, 204), (995, 203), (1002, 202), (1006, 209), (1009, 208), (1013, 207), (1019, 213), (1022, 212), (1029, 211), (1034, 216), (1037, 215), (1042, 221), (1045, 220), (1052, 5), (1117, 30), (1121, 29), (1126, 19), (1130, 25), (1133, 20), (1137, 21), (1141, 22), (1145, 23), (1149, 24), (1153, 28), (1157, 26), (1161, 27), (1164, 36), (1169, 35), (1173, 34), (1176, 45), (1181, 44), (1185, 41), (1189, 42), (1193, 43), (1196, 50), (1201, 49), (1204, 55), (1209, 54), (1212, 60), (1217, 59), (1220, 68), (1225, 67), (1229, 65), (1233, 66), (1236, 96), (1241, 95), (1245, 94), (1249, 93), (1253, 87), (1257, 89), (1261, 88), (1265, 92), (1269, 90), (1273, 91), (1277, 100), (1281, 103), (1285, 106), (1289, 111), (1294, 110), (1297, 114), (1301, 117), (1306, 116), (1309, 122), (1314, 121), (1317, 127), (1322, 126), (1325, 131), (1330, 134), (1334, 139), (1339, 137), (1343, 138), (1346, 142), (1350, 149), (1355, 148), (1358, 153), (1363, 152), (1367, 157), (1371, 160), (1375, 189), (1380, 186), (1384, 184), (1388, 183), (1392, 185), (1396, 187), (1400, 188), (1403, 191), (1407, 194), (1411, 198), (1417, 201), (1421, 206), (1426, 205), (1429, 210), (1433, 214), (1437, 217), (1441, 219), (1445, 222)]
def MEL : List (Nat × Nat) := [(0, 195), (1, 196), (2, 16), (4, 15), (5, 19), (6, 25), (7, 21), (8, 22), (9, 23), (10, 24), (11, 28), (12, 26), (13, 27), (14, 35), (15, 34), (16, 44), (17, 41), (18, 42), (19, 43), (20, 49), (21, 54), (22, 59), (23, 67), (24, 65), (25, 66), (26, 95), (27, 94), (28, 93), (29, 87), (30, 89), (31, 88), (32, 92), (33, 90), (34, 91), (35, 110), (36, 116), (37, 121), (38, 126), (39, 137), (40, 138), (41, 148), (42, 152), (43, 186), (44, 184), (45, 183), (46, 185), (47, 187), (48, 188), (49, 205), (257, 115), (261, 120), (271, 107), (275, 37), (279, 78), (283, 61), (287, 125), (298, 74), (302, 76), (313, 130), (323, 133), (327, 69), (331, 132), (335, 151), (339, 150), (346, 190), (350, 197), (363, 173), (367, 161), (404, 218), (408, 7), (412, 6), (420, 17), (424, 14), (434, 10), (438, 11), (442, 13), (446, 12), (532, 32), (536, 31), (543, 39), (547, 38), (554, 47), (558, 46), (565, 52), (569, 51), (576, 57), (580, 56), (587, 63), (591, 62), (598, 85), (602, 84), (607, 70), (611, 83), (615, 71), (620, 77), (624, 73), (628, 72), (633, 81), (637, 79), (641, 80), (645, 82), (680, 98), (714, 97), (721, 101), (729, 104), (738, 108), (762, 112), (771, 135), (781, 140), (789, 146), (793, 145), (797, 144), (801, 143), (809, 155), (813, 154), (821, 158), (844, 181), (848, 179), (852, 177), (857, 168), (861, 167), (865, 163), (869, 162), (930, 176), (934, 174), (938, 175), (942, 178), (948, 180), (965, 192), (974, 199), (996, 203), (1003, 202), (1010, 208), (1014, 207), (1023, 212), (1030, 211), (1038, 215), (1046, 220), (1118, 30), (1122, 29), (1165, 36), (1177, 45), (1197, 50), (1205, 55), (1213, 60), (1221, 68), (1237, 96), (1278, 100), (1282, 103), (1286, 106), (1290, 111), (1298, 114), (1302, 117), (1310, 122), (1318, 127), (1326, 131), (1331, 134), (1335, 139), (1347, 142), (1351, 149), (1359, 153), (1368, 157), (1372, 160), (1376, 189), (1404, 191), (1408, 194), (1412, 198), (1418, 201), (1422, 206), (1430, 210), (1434, 214), (1438, 217), (1442, 219), (1446, 222)]
def MIL : List (Nat × Nat) := [(50, 7), (51, 5), (52, 2), (53, 1), (54, 3), (55, 0), (56, 6), (61, 10), (65, 8), (68, 4), (70, 9), (72, 11)]
def MAL : List Nat := [0, 0, 0, 0, 0, 0, 1, 1, 1, 1, 2, 0, 0, 3, 4, 0, 1, 3, 5, 0, 3, 2, 0, 3, 1, 3, 1, 1, 1, 3, 0, 1, 0, 2, 1, 0, 0, 1, 3, 2, 4, 1, 2, 1, 2, 2, 4, 3, 5, 3, 3, 2, 1, 3, 1, 1, 2, 1, 3, 1, 1, 2, 2, 1, 3, 1, 1, 1, 1, 0, 0, 1, 1, 1, 0, 1, 0, 0, 1, 1, 0, 1, 0, 0, 2, 1, 3, 1, 0, 0, 2, 1, 1, 0, 1, 1, 1, 1, 2, 4, 2, 2, 4, 2, 1, 3, 1, 1, 1, 3, 1, 1, 1, 3, 1, 0, 1, 0, 2, 1, 0, 0, 0, 2, 1, 0, 0, 0, 3, 1, 0, 0, 0, 0, 0, 1, 3, 0, 0, 1, 0, 2, 0, 1, 1, 1, 1, 3, 2, 1, 0, 0, 1, 0, 2, 2, 4, 2, 1, 3, 1, 0, 0, 0, 1, 4, 4, 2, 1, 1, 3, 2, 2, 1, 0, 0, 2, 0, 0, 0, 2, 0, 2, 1, 1, 2, 0, 0, 0, 0, 0, 0, 1, 3, 1, 1, 2, 0, 0, 1, 3, 1, 0, 0, 2, 1, 0, 0, 0, 2, 0, 0, 1, 3, 1, 0, 2, 0, 0, 0, 0, 2, 0, 1]
def ctf (k idx : Nat) : Option (Nat × Nat × (Nat × Nat × Nat) × Nat) := CT.find? fun q => q.1 == k && q.2.1 == idx
def call (k idx : Nat) : Option (Nat × Nat × Nat) := (ctf k idx).map fun q => q.2.2.1
/-- fields: the class whose code speaks, the entry, the object's class, the place, the word's place -/
def FT : List (Nat × Nat × Nat × Nat × Nat) := [(1, 9, 1, 0, 96), (2, 105, 1, 0, 97), (5, 303, 1, 0, 98), (1, 15, 1, 1, 99), (2, 111, 1, 1, 100), (1, 18, 1, 2, 101), (2, 114, 1, 2, 102), (1, 36, 1, 3, 103), (4, 41, 1, 3, 104), (2, 108, 1, 3, 105), (5, 138, 1, 3, 106), (1, 39, 1, 4, 107), (2, 144, 1, 4, 108), (1, 21, 1, 5, 109), (2, 147, 1, 5, 110), (1, 24, 1, 6, 111), (2, 198, 1, 6, 112), (1, 27, 1, 7, 113), (2, 180, 1, 7, 114), (1, 30, 1, 8, 115), (2, 11, 2, 0, 136), (4, 37, 2, 0, 137), (5, 103, 2, 0, 138), (2, 17, 2, 1, 139), (5, 118, 2, 1, 140), (4, 9, 2, 2, 141), (2, 33, 2, 2, 142), (5, 135, 2, 2, 143), (2, 21, 2, 3, 144), (5, 153, 2, 3, 145), (2, 25, 2, 4, 146), (5, 265, 2, 4, 147), (2, 36, 2, 5, 148), (5, 262, 2, 5, 149), (2, 39, 2, 6, 150), (5, 268, 2, 6, 151), (2, 42, 2, 7, 152), (5, 285, 2, 7, 153), (3, 9, 3, 0, 178), (5, 194, 3, 0, 179), (3, 27, 3, 1, 180), (5, 186, 3, 1, 181), (3, 19, 3, 2, 182), (5, 202, 3, 2, 183), (2, 50, 3, 3, 184), (3, 41, 3, 3, 185), (3, 15, 3, 4, 186), (2, 45, 3, 4, 187), (0, 9, 0, 0, 206), (5, 228, 0, 0, 207), (0, 15, 0, 1, 208), (5, 233, 0, 1, 209), (5, 215, 0, 2, 210), (5, 12, 4, 0, 218), (5, 16, 4, 1, 219), (5, 19, 4, 2, 220), (5, 295, 4, 3, 221), (5, 22, 4, 4, 222), (5, 288, 4, 5, 223), (5, 26, 4, 6, 224), (5, 32, 4, 7, 225), (5, 36, 4, 8, 226), (5, 43, 4, 9, 227), (5, 47, 4, 10, 228), (5, 236, 4, 11, 229), (6, 9, 5, 0, 1055), (6, 13, 5, 1, 1056), (6, 16, 5, 2, 1057), (6, 19, 5, 3, 1058), (6, 42, 5, 4, 1059), (6, 22, 5, 5, 1060), (6, 239, 5, 6, 1061), (6, 25, 5, 7, 1062), (6, 225, 5, 8, 1063), (6, 29, 5, 9, 1064), (6, 196, 5, 10, 1065), (6, 199, 5, 11, 1066), (6, 206, 5, 12, 1067), (6, 32, 5, 13, 1068), (6, 35, 5, 14, 1069), (6, 48, 5, 15, 1070), (6, 51, 5, 16, 1071), (6, 54, 5, 17, 1072), (6, 45, 5, 18, 1073), (6, 39, 5, 19, 1074)]
def ftf (k idx : Nat) : Option (Nat × Nat × Nat × Nat × Nat) := FT.find? fun q => q.1 == k && q.2.1 == idx
def fld (k idx : Nat) : Option (Nat × Nat) := (ftf k idx).map fun q => (q.2.2.1, q.2.2.2.1)
def NT : List (Nat × Nat × Nat × Nat) := [(2, 9, 1, 89), (5, 9, 2, 83), (5, 29, 3, 172), (5, 40, 0, 200), (7, 8, 4, 75), (7, 110, 5, 1049)]
def ntf (k idx : Nat) : Option (Nat × Nat × Nat × Nat) := NT.find? fun q => q.1 == k && q.2.1 == idx
def newc (k idx : Nat) : Option Nat := (ntf k idx).map fun q => q.2.2.1
def kn (ci : Nat) : Nat := (KL.getD ci ("", TX0, 0)).2.2
def dflt (ci : Nat) : List Value := (List.range (kn ci)).map fun j => defaultValue ((KTY.getD ci tyX0) j)
def LTX : List String := ["+-mkwpdt", ".?_12", "hdd", "", "dh", "ddd", "n", "d"]
def LBY : List (List Int32) := [[43, 45, 109, 107, 119, 112, 100, 116], [46, 63, 95, 49, 50], [104, 100, 100], [], [100, 104], [100, 100, 100], [110], [100]]
def LT : List (Nat × Nat × Nat × Nat) := [(5, 306, 1, 360), (3, 33, 0, 854), (3, 59, 2, 920), (3, 61, 3, 921), (3, 63, 4, 922), (3, 65, 5, 923), (3, 67, 6, 924), (3, 69, 7, 925), (6, 228, 1, 1414)]
def ltf (k idx : Nat) : Option (Nat × Nat × Nat × Nat) := LT.find? fun q => q.1 == k && q.2.1 == idx
def lit (k idx : Nat) : Option Nat := (ltf k idx).map fun q => q.2.2.1
def IT : List (Nat × Nat × Int32 × Nat) := [(10, 265, 1431655765, 308), (10, 266, 858993459, 309), (10, 267, 252645135, 310)]
def itf (k idx : Nat) : Option (Nat × Nat × Int32 × Nat) := IT.find? fun q => q.1 == k && q.2.1 == idx
def icst (k idx : Nat) : Option Int32 := (itf k idx).map fun q => q.2.2.1
def EXN : List String := ["java/lang/ArithmeticException", "java/lang/IllegalArgumentException", "java/lang/IllegalStateException", "java/lang/IndexOutOfBoundsException", "java/lang/UnsupportedOperationException", "java/util/NoSuchElementException"]
/-- throws: the method, where, 0 for ldc and 1 for ldc_w, which exception, the entries -/
def TT : List (Nat × Nat × Nat × Nat × Nat × Nat × Nat) := [(16, 13, 1, 4, 218, 301, 222), (98, 11, 0, 3, 91, 93, 95), (98, 31, 0, 1, 98, 100, 102), (101, 11, 0, 3, 91, 93, 95), (104, 11, 0, 3, 91, 116, 95), (108, 11, 0, 3, 91, 93, 95), (108, 35, 0, 5, 125, 127, 129), (112, 14, 0, 5, 125, 133, 129), (135, 10, 0, 1, 98, 163, 102), (140, 54, 0, 5, 125, 172, 129), (146, 14, 0, 5, 125, 177, 129), (155, 22, 0, 3, 91, 93, 95), (158, 12, 0, 2, 189, 191, 193), (181, 27, 0, 1, 98, 200, 102), (181, 152, 0, 4, 218, 220, 222), (192, 9, 0, 1, 98, 226, 102), (192, 29, 0, 5, 125, 231, 129), (199, 12, 0, 3, 91, 247, 95), (203, 12, 0, 0, 249, 251, 253), (208, 12, 1, 0, 249, 260, 253), (212, 160, 1, 1, 98, 291, 102), (215, 7, 1, 2, 189, 293, 193), (220, 7, 1, 2, 189, 299, 193)]
def ttf (M pc : Nat) : Option (Nat × Nat × Nat × Nat × Nat × Nat × Nat) := TT.find? fun q => q.1 == M && q.2.1 == pc
def thr (M pc : Nat) : Option String := (ttf M pc).map fun q => EXN.getD q.2.2.2.1 ""
/-- handlers: the method, the exception, the handler, the local that takes it, where it goes on, from, to, the entry, its length, the words' places, the place in the table, the exception before it and its word's place -/
abbrev Hrw : Type := Nat × Nat × Nat × Nat × Nat × Nat × Nat × Nat × Nat × Nat × Nat × Nat × Nat × Nat
def HT : List Hrw := [(18, 4, 15, 5, 17, 0, 12, 13, 2, 417, 454, 0, 0, 0), (33, 4, 11, 2, 12, 0, 8, 13, 1, 417, 454, 0, 0, 0), (40, 4, 13, 4, 15, 0, 10, 13, 2, 417, 454, 0, 0, 0), (48, 4, 15, 5, 17, 0, 12, 13, 2, 417, 454, 0, 0, 0), (53, 4, 12, 3, 13, 0, 9, 13, 1, 417, 454, 0, 0, 0), (58, 4, 12, 3, 13, 0, 9, 13, 1, 417, 454, 0, 0, 0), (64, 4, 12, 3, 13, 0, 9, 13, 1, 417, 454, 0, 0, 0), (86, 4, 12, 3, 13, 0, 9, 13, 1, 417, 454, 0, 0, 0), (99, 3, 13, 4, 15, 0, 10, 42, 2, 653, 685, 0, 0, 0), (99, 1, 17, 4, 19, 0, 10, 44, 2, 677, 698, 1, 3, 653), (102, 3, 13, 4, 15, 0, 10, 42, 2, 653, 685, 0, 0, 0), (105, 3, 12, 3, 13, 0, 9, 42, 1, 653, 685, 0, 0, 0), (109, 3, 12, 3, 13, 0, 9, 42, 1, 653, 685, 0, 0, 0), (109, 5, 15, 3, 16, 0, 9, 56, 1, 735, 743, 1, 3, 653), (113, 5, 12, 3, 13, 0, 9, 56, 1, 735, 743, 0, 0, 0), (136, 1, 12, 3, 13, 0, 9, 44, 1, 677, 698, 0, 0, 0), (141, 5, 11, 2, 12, 0, 8, 56, 1, 735, 743, 0, 0, 0), (147, 5, 12, 3, 13, 0, 9, 56, 1, 735, 743, 0, 0, 0), (156, 3, 20, 4, 22, 0, 17, 42, 2, 653, 685, 0, 0, 0), (159, 2, 12, 3, 13, 0, 9, 78, 1, 818, 825, 0, 0, 0), (182, 1, 11, 2, 12, 0, 8, 44, 1, 677, 698, 0, 0, 0), (182, 4, 14, 2, 15, 0, 8, 13, 1, 417, 454, 1, 1, 677), (193, 1, 12, 3, 13, 0, 9, 44, 1, 677, 698, 0, 0, 0), (193, 5, 15, 3, 16, 0, 9, 56, 1, 735, 743, 1, 1, 677), (200, 3, 12, 3, 13, 0, 9, 42, 1, 653, 685, 0, 0, 0), (204, 0, 10, 2, 11, 0, 7, 94, 1, 980, 992, 0, 0, 0), (209, 0, 11, 2, 12, 0, 8, 94, 1, 980, 992, 0, 0, 0), (213, 1, 12, 3, 13, 0, 9, 44, 1, 677, 698, 0, 0, 0), (216, 2, 11, 2, 12, 0, 8, 78, 1, 818, 825, 0, 0, 0), (221, 2, 11, 2, 12, 0, 8, 78, 1, 818, 825, 0, 0, 0)]
def NCP : List (Nat × Nat) := [(1, 3), (5, 3), (4, 1), (5, 1)]
def hdf (M pc : Nat) (E : String) : Option Hrw := HT.find? fun q => q.1 == M && EXN.getD q.2.1 "" == E && decide (q.2.2.2.2.2.1 ≤ pc) && decide (pc < q.2.2.2.2.2.2.1)
def hdl (M pc : Nat) (E : String) : Option (Nat × Nat) := (hdf M pc E).map fun q => (q.2.2.2.1, q.2.2.2.2.1)
def MXP : Nat × Nat × Nat × Nat × Nat := (648, 649, 342, 343, 62)
def POI : Nat × Nat := (81, 82)
def SGT : List (Nat × Nat × Nat × Nat) := [(8, 38, 0, 369), (8, 1053, 1, 377)]
def sgf (k idx : Nat) : Option Nat := (SGT.find? fun q => q.1 == k && q.2.1 == idx).map fun q => q.2.2.1
def SFT : List (Nat × Nat × Nat × Nat) := [(8, 15, 1, 1467), (8, 9, 0, 1468)]
def sff (k idx : Nat) : Option Nat := (SFT.find? fun q => q.1 == k && q.2.1 == idx).map fun q => q.2.2.1
def LAWM : Nat := 223
/-! ===== THE ABSTRACT MACHINE ===== -/
/-- what it takes as given: the String constants' addresses, String → its bytes' address, bytes → (length, what they hold), the static formatter, the script (address, length, ints) -/
abbrev Cxt : Type := (Nat → Nat) × (Nat → Option Nat) × (Nat → Option (Nat × (Nat → Int32))) × Option Nat × (Nat × Nat × (Nat → Int32))
abbrev Nxt : Type := Nat × Lcs × Stk × Wld × Option Nat × Nat × Nat
abbrev Cll : Type := Nat × List Value × Stk
def gf (w : Wld) (a ci k : Nat) : Option Value := match w a with
  | some (.inr (ci2, fs)) => if ci2 = ci then fs[k]? else none
  | _ => none
def okv (ty : FieldType) (v : Value) : Bool := match ty, v with
  | .int, .int _ => true
  | .boolean, .int x => decide (narrow .boolean (.int x) = .int x) && fits .boolean (.int x)
  | .char, .int x => decide (narrow .char (.int x) = .int x) && fits .char (.int x)
  | .object _, .ref _ => true
  | .array _, .ref _ => true
  | _, _ => false
def fty (ci k : Nat) : FieldType := (KTY.getD ci tyX0) k
def pf (w : Wld) (a ci k : Nat) (v : Value) : Option Wld := match w a with
  | some (.inr (ci2, fs)) => if ci2 = ci ∧ k < fs.length ∧ okv (fty ci k) v = true then some (wset w a (.inr (ci2, fs.set k v))) else none
  | _ => none
/-- a final field is written in its own class's constructor alone -/
def pok (M ci k : Nat) : Bool := match KL[ci]? with
  | some q => !(q.2.1 k).2.2.2 || ((mY M).name == "<init>" && cname (mN M) == (q.2.1 k).1)
  | none => false
def inr_ (i : Int32) (n : Nat) : Bool := decide (¬ (i < 0 ∨ n ≤ i.toNatClampNeg))
def ga (w : Wld) (a t : Nat) (i : Int32) : Option Value := match w a with
  | some (.inl (t2, n, f)) => if t2 = t ∧ inr_ i n = true then some (f i.toNatClampNeg) else none
  | _ => none
def sa (w : Wld) (a t : Nat) (i : Int32) (v : Value) : Option Wld := match w a with
  | some (.inl (t2, n, f)) => if t2 = t ∧ inr_ i n = true then some (wset w a (.inl (t2, n, updV f i.toNatClampNeg v))) else none
  | _ => none
def hasc (w : Wld) (a ci : Nat) : Bool := match w a with
  | some (.inr (ci2, _)) => decide (ci2 = ci)
  | _ => false
/-- the kinds of arrays -/
def ATY : List FieldType := [.int, .char, .long, .double, .object "SoupTable$Seat", .object "SoupTable$Table"]
def atg (ty : ArrayType) : Option (Nat × Value) := match ty with
  | .int => some (0, .int 0)
  | .char => some (1, .int 0)
  | .long => some (2, .long 0)
  | .double => some (3, .double 0)
  | _ => none
def popv : Nat → Stk → List Value → Option (List Value × Stk)
  | 0, st, acc => some (acc, st)
  | k + 1, v :: st, acc => if v.category = 1 then popv k st (v :: acc) else none
  | _ + 1, [], _ => none
def okr (ty : Option FieldType) (x : Int32) : Bool := match ty with
  | some .int => true
  | some .boolean => decide (narrow .boolean (.int x) = .int x)
  | some .char => decide (narrow .char (.int x) = .int x)
  | some .byte => decide (narrow .byte (.int x) = .int x)
  | _ => false
def isob (ty : Option FieldType) : Bool := match ty with
  | some (.object _) => true
  | _ => false
def imx (x y : Int32) : Int32 := if x < y then y else x
def imn (x y : Int32) : Int32 := if y < x then y else x
/-- the method fits into its caller's room -/
def fits2 (M M2 : Nat) : Bool := decide (mF M2 + 1 ≤ mF M ∧ 8 + (mL M2 + 11) + mO M2 ≤ mO M)
def rcv (X : Cxt) (w : Wld) (M2 b : Nat) : Bool := match mK M2 with
  | 1 => (X.2.1 b).isSome
  | _ => match w b with
    | some (.inr (ci, _)) => decide ((KL.getD ci ("", TX0, 0)).1 = (mY M2).cls)
    | _ => false
/-- what a new array of references holds: null up to its length; what stands behind it is never read -/
def anw (ci q m : Nat) : Nat → Value := fun j => if j < m then .null else .ref (if ci = 1 then q + 2 + j else q + 17 + 11 * j)
def nxt (pc : Nat) (ls : Lcs) (st : Stk) (w : Wld) (n : Option Nat) (c sl : Nat) : Option (Nxt ⊕ (Otc ⊕ Cll)) := some (.inl (pc, ls, st, w, n, c, sl))
def xcl (M M2 : Nat) (vs : List Value) (r : Stk) : Option (Nxt ⊕ (Otc ⊕ Cll)) := if fits2 M M2 = true ∧ r.length ≤ 4 then some (.inr (.inr (M2, vs, r))) else none
def xpst (M pc : Nat) (i : Instr) (len : Nat) (ls : Lcs) (st : Stk) (w : Wld) (n : Option Nat) (c sl : Nat) : Option (Nxt ⊕ (Otc ⊕ Cll)) := match pst (m2 M) i len pc ls st with
    | some q => nxt q.1 q.2.1 q.2.2 w n c sl
    | none => none
def xst (X : Cxt) (M pc : Nat) (i : Instr) (len : Nat) (ls : Lcs) (st : Stk) (w : Wld) (n : Option Nat) (c sl : Nat) : Option (Nxt ⊕ (Otc ⊕ Cll)) := match i with
  | .getfield idx => g1 len 3 (qr st fun a r => match mK M with
    | 1 => match X.2.1 a, sff (mN M) idx with
      | some v, some 0 => nxt (pc + 3) ls (.ref v :: r) w n c sl
      | some _, some _ => nxt (pc + 3) ls (.int 0 :: r) w n c sl
      | _, _ => none
    | _ => match fld (mN M) idx with
      | some q => match gf w a q.1 q.2 with
        | some v => nxt (pc + 3) ls (v :: r) w n c sl
        | none => none
      | none => none)
  | .putfield idx => g1 len 3 (q1 st fun v r => qr r fun a r => match fld (mN M) idx with
      | some q => match pf w a q.1 q.2 v with
        | some w2 => gc (pok M q.1 q.2) (nxt (pc + 3) ls r w2 n c sl)
        | none => none
      | none => none)
  | .iaload => g1 len 1 (qi st fun j r => qr r fun a r => match mK M with
    | 2 => if a = X.2.2.2.2.1 ∧ inr_ j X.2.2.2.2.2.1 = true then nxt (pc + 1) ls (.int (X.2.2.2.2.2.2 j.toNatClampNeg) :: r) w n c sl else none
    | _ => match ga w a 0 j with
      | some v => nxt (pc + 1) ls (v :: r) w n c sl
      | none => none)
  | .caload => g1 len 1 (qi st fun j r => qr r fun a r => match ga w a 1 j with
      | some v => nxt (pc + 1) ls (v :: r) w n c sl
      | none => none)
  | .laload => g1 len 1 (qi st fun j r => qr r fun a r => match ga w a 2 j with
      | some v => nxt (pc + 1) ls (v :: r) w n c sl
      | none => none)
  | .daload => g1 len 1 (qi st fun j r => qr r fun a r => match ga w a 3 j with
      | some v => nxt (pc + 1) ls (v :: r) w n c sl
      | none => none)
  | .aaload => g1 len 1 (qi st fun j r => qr r fun a r => match ga w a 4 j with
      | some v => nxt (pc + 1) ls (v :: r) w n c sl
      | none => match ga w a 5 j with
        | some v => nxt (pc + 1) ls (v :: r) w n c sl
        | none => none)
  | .iastore => g1 len 1 (qi st fun v r => qi r fun j r => qr r fun a r => match sa w a 0 j (.int v) with
      | some w2 => nxt (pc + 1) ls r w2 n c sl
      | none => none)
  | .castore => g1 len 1 (qi st fun v r => qi r fun j r => qr r fun a r => match sa w a 1 j (narrow .char (.int v)) with
      | some w2 => nxt (pc + 1) ls r w2 n c sl
      | none => none)
  | .lastore => g1 len 1 (ql st fun v r => qi r fun j r => qr r fun a r => match sa w a 2 j (.long v) with
      | some w2 => nxt (pc + 1) ls r w2 n c sl
      | none => none)
  | .dastore => g1 len 1 (qd st fun v r => qi r fun j r => qr r fun a r => match sa w a 3 j (.double v) with
      | some w2 => nxt (pc + 1) ls r w2 n c sl
      | none => none)
  | .aastore => g1 len 1 (qr st fun v r => qi r fun j r => qr r fun a r => match hasc w v 1, sa w a 4 j (.ref v) with
      | true, some w2 => nxt (pc + 1) ls r w2 n c sl
      | _, _ => match hasc w v 2, sa w a 5 j (.ref v) with
        | true, some w2 => nxt (pc + 1) ls r w2 n c sl
        | _, _ => none)
  | .arraylength => g1 len 1 (qr st fun a r => match mK M with
    | 2 => if a = X.2.2.2.2.1 then nxt (pc + 1) ls (.int (Int32.ofNat X.2.2.2.2.2.1) :: r) w n c sl else none
    | 1 => match X.2.2.1 a with
      | some q => nxt (pc + 1) ls (.int (Int32.ofNat q.1) :: r) w n c sl
      | none => none
    | _ => none)
  | .baload => g1 len 1 (qi st fun j r => qr r fun a r => match X.2.2.1 a with
      | some q => if inr_ j q.1 = true then nxt (pc + 1) ls (.int (q.2 j.toNatClampNeg) :: r) w n c sl else none
      | none => none)
  | .getstatic idx => g1 len 3 (match sgf (mN M) idx with
    | some 0 => nxt (pc + 3) ls (.int 1 :: st) w n c sl
    | some _ => nxt (pc + 3) ls (va_rf X.2.2.2.1 :: st) w n c sl
    | none => none)
  | .ldc idx => g1 len 2 (match lit (mN M) idx with
    | some j => nxt (pc + 2) ls (.ref (X.1 j) :: st) w n c sl
    | none => none)
  | .ldc_w idx => g1 len 3 (match icst (mN M) idx with
    | some v => nxt (pc + 3) ls (.int v :: st) w n c sl
    | none => match lit (mN M) idx with
      | some j => nxt (pc + 3) ls (.ref (X.1 j) :: st) w n c sl
      | none => none)
  | .new idx => g1 len 3 (match thr M pc with
    | some e => if c + 1 ≤ mC M ∧ sl + 6 ≤ mS M ∧ st.length ≤ 4 then some (.inr (.inl (.inr e, w, none))) else none
    | none => match newc (mN M) idx, n with
      | some ci, some q => if c + 1 ≤ mC M ∧ sl + kn ci ≤ mS M then nxt (pc + 3) ls (.ref q :: st) (wset w q (.inr (ci, dflt ci))) (some (q + 1)) (c + 1) (sl + kn ci) else none
      | _, _ => none)
  | .newarray ty => g1 len 2 (qi st fun x r => match atg ty, n with
      | some t, some q => if ¬ x < 0 ∧ x.toNatClampNeg ≤ 1000 ∧ c + 1 ≤ mC M ∧ sl + x.toNatClampNeg ≤ mS M then nxt (pc + 2) ls (.ref q :: r) (wset w q (.inl (t.1, x.toNatClampNeg, fun _ => t.2))) (some (q + 1)) (c + 1) (sl + x.toNatClampNeg) else none
      | _, _ => none)
  | .anewarray idx => g1 len 3 (qi st fun x r => match newc (mN M) idx, n with
      | some ci, some q => if (ci = 1 ∨ ci = 2) ∧ ¬ x < 0 ∧ x.toNatClampNeg ≤ 1000 ∧ c + 1 ≤ mC M ∧ sl + x.toNatClampNeg ≤ mS M then nxt (pc + 3) ls (.ref q :: r) (wset w q (.inl (ci + 3, x.toNatClampNeg, anw ci q x.toNatClampNeg))) (some (q + 1)) (c + 1) (sl + x.toNatClampNeg) else none
      | _, _ => none)
  | .ireturn => g1 len 1 (qi st fun x r => match r with
    | [] => gc (okr (mR M) x) (some (.inr (.inl (.inl (some (.int x)), w, n))))
    | _ => none)
  | .freturn => g1 len 1 (qf st fun x r => match r with
    | [] => gc (decide (mR M = some .float)) (some (.inr (.inl (.inl (some (.float x)), w, n))))
    | _ => none)
  | .dreturn => g1 len 1 (qd st fun x r => match r with
    | [] => gc (decide (mR M = some .double)) (some (.inr (.inl (.inl (some (.double x)), w, n))))
    | _ => none)
  | .areturn => g1 len 1 (qr st fun x r => match r with
    | [] => gc (isob (mR M)) (some (.inr (.inl (.inl (some (.ref x)), w, n))))
    | _ => none)
  | .return_ => g1 len 1 (match st with
    | [] => gc (decide (mR M = none)) (some (.inr (.inl (.inl none, w, n))))
    | _ => none)
  | .invokestatic idx => g1 len 3 (match call (mN M) idx with
    | some (1, M2, k) => match popv k st [] with
      | some (vs, r) => xcl M M2 vs r
      | none => none
    | some (6, _, _) => if 1 ≤ mF M ∧ 2 * st.length + 13 ≤ mO M then qi st fun y r => qi r fun x r => nxt (pc + 3) ls (.int (imx x y) :: r) w n c sl else none
    | some (7, _, _) => if 1 ≤ mF M ∧ 2 * st.length + 13 ≤ mO M then qi st fun y r => qi r fun x r => nxt (pc + 3) ls (.int (imn x y) :: r) w n c sl else none
    | _ => none)
  | .invokevirtual idx => g1 len 3 (match call (mN M) idx with
    | some (0, M2, k) => match popv k st [] with
      | some (vs, r) => qr r fun b r => gc (rcv X w M2 b) (xcl M M2 (.ref b :: vs) r)
      | none => none
    | _ => none)
  | .invokespecial idx => g1 len 3 (match call (mN M) idx with
    | some (5, _, _) => qr st fun _ r => if 1 ≤ mF M ∧ 2 * r.length + 12 ≤ mO M then nxt (pc + 3) ls r w n c sl else none
    | some (2, M2, k) => match popv k st [] with
      | some (vs, r) => qr r fun b r => xcl M M2 (.ref b :: vs) r
      | none => none
    | some (3, M2, k) => match popv k st [] with
      | some (vs, r) => qr r fun b r => xcl M M2 (.ref b :: vs) r
      | none => none
    | _ => none)
  | _ => xpst M pc i len ls st w n c sl
/-- at the law's loop its own numbers of a turn are forgotten -/
def e_mk (M pc : Nat) (ls : Lcs) : Lcs := if M = 223 ∧ pc = 28 then ls.take 6 ++ [none, none, none] else ls
def entl (M : Nat) (vs : List Value) : Lcs := vs.map some ++ List.replicate (mL M - vs.length) none
def ex (X : Cxt) : Nat → Nat → Nat → Lcs → Stk → Wld → Option Nat → Nat → Nat → Option Otc
  | 0, _, _, _, _, _, _, _, _ => none
  | f + 1, M, pc, ls, st, w, n, c, sl => match decode (mB M) pc with
    | .error _ => none
    | .ok (i, len) => match xst X M pc i len (e_mk M pc ls) st w n c sl with
      | none => none
      | some (.inl q) => ex X f M q.1 q.2.1 q.2.2.1 q.2.2.2.1 q.2.2.2.2.1 q.2.2.2.2.2.1 q.2.2.2.2.2.2
      | some (.inr (.inl o)) => some o
      | some (.inr (.inr q)) => match ex X f q.1 0 (entl q.1 q.2.1) [] w n 0 0 with
        | none => none
        | some o => if c + mC q.1 ≤ mC M ∧ sl + mS q.1 ≤ mS M ∧ q.2.1.length ≤ mL q.1 then
            match o.1 with
            | .inl v => ex X f M (pc + 3) (e_mk M pc ls) (v.toList ++ q.2.2) o.2.1 o.2.2 (c + mC q.1) (sl + mS q.1)
            | .inr e => match mH M with
              | [] => some (.inr e, o.2.1, o.2.2)
              | _ => match hdl M pc e with
                | some k => ex X f M k.2 ((e_mk M pc ls).set k.1 none) [] o.2.1 o.2.2 (c + mC q.1) (sl + mS q.1)
                | none => none
          else none
theorem ex_mono (X : Cxt) : ∀ (f M pc : Nat) (ls : Lcs) (st : Stk) (w : Wld) (n : Option Nat) (c sl : Nat) (o : Otc), ex X f M pc ls st w n c sl = some o → ex X (f + 1) M pc ls st w n c sl = some o := by
  intro f
  induction f with
  | zero => intro M pc ls st w n c sl o h; cases h
  | succ f ih =>
    intro M pc ls st w n c sl o h
    rw [ex] at h
    rw [ex]
    split at h
    · cases h
    · rename_i i len hd
      (try rw [hd])
      (try dsimp only)
      split at h
      · cases h
      · rename_i q hq
        (try rw [hq])
        exact ih _ _ _ _ _ _ _ _ _ h
      · rename_i q hq
        (try rw [hq])
        exact h
      · rename_i q hq
        (try rw [hq])
        (try dsimp only)
        split at h
        · cases h
        · rename_i o2 ho2
          rw [ih _ _ _ _ _ _ _ _ _ ho2]
          (try dsimp only)
          split at h
          · rename_i hg
            rw [if_pos hg]
            split at h
            · rename_i v hv
              (try rw [hv])
              exact ih _ _ _ _ _ _ _ _ _ h
            · rename_i e9 he
              (try rw [he])
              (try dsimp only)
              split at h
              · rename_i hm
                (try rw [hm])
                exact h
              · rename_i hm
                split at h
                · rename_i k hk
                  (try rw [hk])
                  exact ih _ _ _ _ _ _ _ _ _ h
                · cases h
          · cases h
theorem ex_up (X : Cxt) {f g M pc : Nat} {ls : Lcs} {st : Stk} {w : Wld} {n : Option Nat} {c sl : Nat} {o : Otc} (h : ex X f M pc ls st w n c sl = some o) (hg : f ≤ g) : ex X g M pc ls st w n c sl = some o := by
  induction hg with
  | refl => exact h
  | step _ ih => exact ex_mono X _ _ _ _ _ _ _ _ _ _ ih
/-- from here the method ends, with Q -/
def Ev (X : Cxt) (M pc : Nat) (ls : Lcs) (st : Stk) (w : Wld) (n : Option Nat) (c sl : Nat) (Q : (Option Value ⊕ String) → Wld → Option Nat → Prop) : Prop := ∃ (f : Nat) (o : Otc), ex X f M pc ls st w n c sl = some o ∧ Q o.1 o.2.1 o.2.2
