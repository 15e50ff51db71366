/-! ===== THE CLASSES, THE METHODS, THE LINKS: read off the printed claim by program (names, fields, types as printed there) ===== -/
def RX0 : String := "SoupTable$Refusal"
def TX0 : u_T := fun k => match k with
  | 0 => ("SoupTable$Refusal", "reason", "I", false)
  | 1 => ("SoupTable$Refusal", "detail", "I", false)
  | _ => ("SoupTable$Refusal", "command", "I", false)
def tyX0 : Nat → FieldType := fun k => match k with
  | 0 => .int
  | 1 => .int
  | _ => .int
theorem nmX0 : ∀ a, a < 3 → ∀ b, b < 3 → a ≠ b → (TX0 a).2.1 ≠ (TX0 b).2.1 := by decide +kernel
theorem tyX0_ok : ∀ k, k < 3 → parseFieldDescriptor (TX0 k).2.2.1 = some (tyX0 k) := by decide +kernel
def RX1 : String := "SoupTable$Seat"
def TX1 : u_T := fun k => match k with
  | 0 => ("SoupTable$Seat", "manner", "I", false)
  | 1 => ("SoupTable$Seat", "think", "I", false)
  | 2 => ("SoupTable$Seat", "eat", "I", false)
  | 3 => ("SoupTable$Seat", "how", "I", false)
  | 4 => ("SoupTable$Seat", "left", "I", false)
  | 5 => ("SoupTable$Seat", "meals", "I", false)
  | 6 => ("SoupTable$Seat", "waited", "I", false)
  | 7 => ("SoupTable$Seat", "waitedNow", "I", false)
  | _ => ("SoupTable$Seat", "waitedMost", "I", false)
def tyX1 : Nat → FieldType := fun k => match k with
  | 0 => .int
  | 1 => .int
  | 2 => .int
  | 3 => .int
  | 4 => .int
  | 5 => .int
  | 6 => .int
  | 7 => .int
  | _ => .int
theorem nmX1 : ∀ a, a < 9 → ∀ b, b < 9 → a ≠ b → (TX1 a).2.1 ≠ (TX1 b).2.1 := by decide +kernel
theorem tyX1_ok : ∀ k, k < 9 → parseFieldDescriptor (TX1 k).2.2.1 = some (tyX1 k) := by decide +kernel
def RX2 : String := "SoupTable$Table"
def TX2 : u_T := fun k => match k with
  | 0 => ("SoupTable$Table", "seats", "[LSoupTable$Seat;", true)
  | 1 => ("SoupTable$Table", "holders", "[I", true)
  | 2 => ("SoupTable$Table", "count", "I", false)
  | 3 => ("SoupTable$Table", "waiterNumber", "I", false)
  | 4 => ("SoupTable$Table", "bowls", "I", false)
  | 5 => ("SoupTable$Table", "ticks", "I", false)
  | 6 => ("SoupTable$Table", "bowlsTaken", "I", false)
  | _ => ("SoupTable$Table", "ladlesTaken", "I", false)
def tyX2 : Nat → FieldType := fun k => match k with
  | 0 => .array (.object "SoupTable$Seat")
  | 1 => .array .int
  | 2 => .int
  | 3 => .int
  | 4 => .int
  | 5 => .int
  | 6 => .int
  | _ => .int
theorem nmX2 : ∀ a, a < 8 → ∀ b, b < 8 → a ≠ b → (TX2 a).2.1 ≠ (TX2 b).2.1 := by decide +kernel
theorem tyX2_ok : ∀ k, k < 8 → parseFieldDescriptor (TX2 k).2.2.1 = some (tyX2 k) := by decide +kernel
def RX3 : String := "SoupTable$Text"
def TX3 : u_T := fun k => match k with
  | 0 => ("SoupTable$Text", "signs", "[C", true)
  | 1 => ("SoupTable$Text", "length", "I", false)
  | 2 => ("SoupTable$Text", "place", "I", false)
  | 3 => ("SoupTable$Text", "kind", "I", false)
  | _ => ("SoupTable$Text", "numbers", "[I", true)
def tyX3 : Nat → FieldType := fun k => match k with
  | 0 => .array .char
  | 1 => .int
  | 2 => .int
  | 3 => .int
  | _ => .array .int
theorem nmX3 : ∀ a, a < 5 → ∀ b, b < 5 → a ≠ b → (TX3 a).2.1 ≠ (TX3 b).2.1 := by decide +kernel
theorem tyX3_ok : ∀ k, k < 5 → parseFieldDescriptor (TX3 k).2.2.1 = some (tyX3 k) := by decide +kernel
def RX5 : String := "SoupTable"
def TX5 : u_T := fun k => match k with
  | 0 => ("SoupTable", "table", "LSoupTable$Table;", true)
  | 1 => ("SoupTable", "ahead", "LSoupTable$Table;", true)
  | 2 => ("SoupTable", "saved", "LSoupTable$Table;", true)
  | 3 => ("SoupTable", "isSaved", "Z", false)
  | 4 => ("SoupTable", "past", "[LSoupTable$Table;", true)
  | 5 => ("SoupTable", "changes", "I", false)
  | 6 => ("SoupTable", "before", "LSoupTable$Table;", false)
  | 7 => ("SoupTable", "text", "LSoupTable$Text;", true)
  | 8 => ("SoupTable", "fault", "I", false)
  | 9 => ("SoupTable", "refusal", "LSoupTable$Refusal;", true)
  | 10 => ("SoupTable", "letters", "[C", true)
  | _ => ("SoupTable", "letterCount", "I", false)
def tyX5 : Nat → FieldType := fun k => match k with
  | 0 => .object "SoupTable$Table"
  | 1 => .object "SoupTable$Table"
  | 2 => .object "SoupTable$Table"
  | 3 => .boolean
  | 4 => .array (.object "SoupTable$Table")
  | 5 => .int
  | 6 => .object "SoupTable$Table"
  | 7 => .object "SoupTable$Text"
  | 8 => .int
  | 9 => .object "SoupTable$Refusal"
  | 10 => .array .char
  | _ => .int
theorem nmX5 : ∀ a, a < 12 → ∀ b, b < 12 → a ≠ b → (TX5 a).2.1 ≠ (TX5 b).2.1 := by decide +kernel
theorem tyX5_ok : ∀ k, k < 12 → parseFieldDescriptor (TX5 k).2.2.1 = some (tyX5 k) := by decide +kernel
def RJ4 : String := "java/lang/StringBuilder"
def TJ4 : u_T := fun k => match k with
  | 0 => ("java/lang/AbstractStringBuilder", "value", "[B", false)
  | 1 => ("java/lang/AbstractStringBuilder", "coder", "B", false)
  | 2 => ("java/lang/AbstractStringBuilder", "maybeLatin1", "Z", false)
  | _ => ("java/lang/AbstractStringBuilder", "count", "I", false)
def tyJ4 : Nat → FieldType := fun k => match k with
  | 0 => .array .byte
  | 1 => .byte
  | 2 => .boolean
  | _ => .int
theorem nmJ4 : ∀ a, a < 4 → ∀ b, b < 4 → a ≠ b → (TJ4 a).2.1 ≠ (TJ4 b).2.1 := by decide +kernel
theorem tyJ4_ok : ∀ k, k < 4 → parseFieldDescriptor (TJ4 k).2.2.1 = some (tyJ4 k) := by decide +kernel
def RJ0 : String := "java/lang/String"
def TJ0 : u_T := fun k => match k with
  | 0 => ("java/lang/String", "value", "[B", true)
  | 1 => ("java/lang/String", "coder", "B", true)
  | 2 => ("java/lang/String", "hash", "I", false)
  | _ => ("java/lang/String", "hashIsZero", "Z", false)
def tyJ0 : Nat → FieldType := fun k => match k with
  | 0 => .array .byte
  | 1 => .byte
  | 2 => .int
  | _ => .boolean
theorem nmJ0 : ∀ a, a < 4 → ∀ b, b < 4 → a ≠ b → (TJ0 a).2.1 ≠ (TJ0 b).2.1 := by decide +kernel
theorem tyJ0_ok : ∀ k, k < 4 → parseFieldDescriptor (TJ0 k).2.2.1 = some (tyJ0 k) := by decide +kernel
def KL : List vw_C := [(RX0, TX0, 3), (RX1, TX1, 9), (RX2, TX2, 8), (RX3, TX3, 5), (RX5, TX5, 12), (RJ4, TJ4, 4), (RJ0, TJ0, 4)]
def KTY : List (Nat → FieldType) := [tyX0, tyX1, tyX2, tyX3, tyX5, tyJ4, tyJ0]
def CN : List String := ["SoupTable$Refusal", "SoupTable$Seat", "SoupTable$Table", "SoupTable$Text", "SoupTable$Waiting", "SoupTable", "java/lang/AbstractStringBuilder", "SoupTableLaw", "java/lang/String", "java/lang/StringLatin1", "java/lang/Integer", "jdk/internal/util/Preconditions", "java/lang/StringBuilder", "java/util/Arrays"]
def MT_0 : List (MethodName × ByteArray × Nat × Option FieldType × (Nat × Nat × Nat × Nat) × (Bool × Bool × Nat × Nat) × List (Nat × Nat × Nat × Nat)) := [
  (⟨"SoupTable$Seat", "<init>", "()V"⟩, prog_3_method_1_code, 1, none, (1, 20, 0, 0), (false, false, 0, 1), []),
  (⟨"SoupTable$Table", "<init>", "()V"⟩, prog_4_method_1_code, 2, none, (2, 48, 0, 0), (false, false, 0, 2), []),
  (⟨"SoupTable$Text", "<init>", "()V"⟩, prog_5_method_1_code, 1, none, (1, 20, 0, 0), (false, false, 0, 3), []),
  (⟨"SoupTable$Refusal", "<init>", "()V"⟩, prog_2_method_1_code, 1, none, (1, 20, 0, 0), (false, false, 0, 0), []),
  (⟨"SoupTable", "<init>", "()V"⟩, prog_1_method_1_code, 2, none, (3, 77, 0, 0), (false, false, 0, 5), []),
  (⟨"SoupTable$Seat", "copyFrom", "(LSoupTable$Seat;)V"⟩, prog_3_method_8_code, 2, none, (0, 0, 0, 0), (false, false, 0, 1), []),
  (⟨"SoupTable$Table", "copyFrom", "(LSoupTable$Table;)V"⟩, prog_4_method_2_code, 3, none, (1, 29, 0, 0), (false, false, 0, 2), []),
  (⟨"SoupTable", "undo", "()I"⟩, prog_1_method_34_code, 1, Option.some Jvm.ClassFile.FieldType.int, (8, 120, 0, 0), (false, false, 0, 5), []),
  (⟨"SoupTableLaw", "undo", "(LSoupTable;)I"⟩, method_28_code, 2, Option.some Jvm.ClassFile.FieldType.int, (9, 148, 0, 0), (false, true, 0, 7), [((0 : Nat), (4 : Nat), (5 : Nat), (78 : Nat))]),
  (⟨"SoupTable", "restore", "()I"⟩, prog_1_method_36_code, 1, Option.some Jvm.ClassFile.FieldType.int, (8, 120, 0, 0), (false, false, 0, 5), []),
  (⟨"SoupTableLaw", "restore", "(LSoupTable;)I"⟩, method_29_code, 2, Option.some Jvm.ClassFile.FieldType.int, (9, 148, 0, 0), (false, true, 0, 7), [((0 : Nat), (4 : Nat), (5 : Nat), (78 : Nat))]),
  (⟨"SoupTable", "save", "()I"⟩, prog_1_method_35_code, 1, Option.some Jvm.ClassFile.FieldType.int, (2, 59, 0, 0), (false, false, 0, 5), []),
  (⟨"SoupTable$Refusal", "refuse", "(II)I"⟩, prog_2_method_2_code, 3, Option.some Jvm.ClassFile.FieldType.int, (0, 0, 0, 0), (false, false, 0, 0), []),
  (⟨"SoupTable$Table", "addBowls", "(ILSoupTable$Refusal;)I"⟩, prog_4_method_9_code, 3, Option.some Jvm.ClassFile.FieldType.int, (1, 30, 0, 0), (false, false, 0, 2), []),
  (⟨"SoupTable", "keepBefore", "()V"⟩, prog_1_method_38_code, 3, none, (0, 0, 0, 0), (false, false, 0, 5), []),
  (⟨"SoupTable", "kept", "(I)I"⟩, prog_1_method_37_code, 2, Option.some Jvm.ClassFile.FieldType.int, (8, 120, 0, 0), (false, false, 0, 5), []),
  (⟨"SoupTable", "bring", "(I)I"⟩, prog_1_method_7_code, 2, Option.some Jvm.ClassFile.FieldType.int, (9, 149, 0, 0), (false, false, 0, 5), []),
  (⟨"SoupTableLaw", "bring", "(LSoupTable;I)I"⟩, method_9_code, 3, Option.some Jvm.ClassFile.FieldType.int, (10, 178, 0, 0), (false, true, 0, 7), [((0 : Nat), (5 : Nat), (6 : Nat), (13 : Nat))]),
  (⟨"SoupTable", "reason", "(I)I"⟩, prog_1_method_28_code, 2, Option.some Jvm.ClassFile.FieldType.int, (8, 120, 0, 0), (false, false, 0, 5), []),
  (⟨"SoupTableLaw", "reason", "(LSoupTable;I)I"⟩, method_23_code, 3, Option.some Jvm.ClassFile.FieldType.int, (9, 149, 0, 0), (false, true, 0, 7), [((0 : Nat), (5 : Nat), (6 : Nat), (44 : Nat)), ((0 : Nat), (5 : Nat), (11 : Nat), (56 : Nat))]),
  (⟨"SoupTableLaw", "is", "(LSoupTable;III)Z"⟩, method_31_code, 4, Option.some Jvm.ClassFile.FieldType.boolean, (10, 179, 0, 0), (false, true, 0, 7), []),
  (⟨"SoupTable", "append", "(C)I"⟩, prog_1_method_25_code, 2, Option.some Jvm.ClassFile.FieldType.int, (8, 120, 0, 0), (false, false, 0, 5), []),
  (⟨"SoupTableLaw", "append", "(LSoupTable;C)I"⟩, method_21_code, 3, Option.some Jvm.ClassFile.FieldType.int, (9, 149, 0, 0), (false, true, 0, 7), [((0 : Nat), (5 : Nat), (6 : Nat), (78 : Nat))]),
  (⟨"SoupTable$Table", "mealsOfAll", "()I"⟩, prog_4_method_32_code, 3, Option.some Jvm.ClassFile.FieldType.int, (0, 0, 0, 0), (false, false, 0, 2), []),
  (⟨"SoupTable$Table", "heldLadles", "()I"⟩, prog_4_method_29_code, 3, Option.some Jvm.ClassFile.FieldType.int, (0, 0, 0, 0), (false, false, 0, 2), []),
  (⟨"SoupTable$Table", "setWithLeave", "()I"⟩, prog_4_method_30_code, 3, Option.some Jvm.ClassFile.FieldType.int, (0, 0, 0, 0), (false, false, 0, 2), []),
  (⟨"java/lang/Integer", "bitCount", "(I)I"⟩, prog_24_method_49_code, 1, Option.some Jvm.ClassFile.FieldType.int, (0, 0, 0, 0), (false, true, 1, 10), []),
  (⟨"SoupTable$Table", "askers", "()I"⟩, prog_4_method_31_code, 3, Option.some Jvm.ClassFile.FieldType.int, (0, 0, 0, 0), (false, false, 0, 2), []),
  (⟨"SoupTable", "account", "(I)I"⟩, prog_1_method_33_code, 2, Option.some Jvm.ClassFile.FieldType.int, (8, 120, 0, 0), (false, false, 0, 5), []),
  (⟨"SoupTableLaw", "account", "(LSoupTable;I)I"⟩, method_27_code, 3, Option.some Jvm.ClassFile.FieldType.int, (9, 149, 0, 0), (false, true, 0, 7), [((0 : Nat), (5 : Nat), (6 : Nat), (44 : Nat))]),
  (⟨"java/lang/String", "isLatin1", "()Z"⟩, prog_28_method_154_code, 1, Option.some Jvm.ClassFile.FieldType.boolean, (0, 0, 0, 0), (false, false, 1, 8), []),
  (⟨"java/lang/String", "coder", "()B"⟩, prog_28_method_152_code, 1, Option.some Jvm.ClassFile.FieldType.byte, (0, 0, 0, 0), (false, false, 1, 8), [])]
def MT_1 : List (MethodName × ByteArray × Nat × Option FieldType × (Nat × Nat × Nat × Nat) × (Bool × Bool × Nat × Nat) × List (Nat × Nat × Nat × Nat)) := [
  (⟨"java/lang/String", "length", "()I"⟩, prog_28_method_54_code, 1, Option.some Jvm.ClassFile.FieldType.int, (1, 28, 0, 0), (false, false, 1, 8), []),
  (⟨"java/lang/StringLatin1", "canEncode", "(I)Z"⟩, prog_30_method_4_code, 1, Option.some Jvm.ClassFile.FieldType.boolean, (0, 0, 0, 0), (false, true, 1, 9), []),
  (⟨"java/lang/StringLatin1", "indexOfChar", "([BIII)I"⟩, prog_30_method_23_code, 6, Option.some Jvm.ClassFile.FieldType.int, (0, 0, 0, 0), (false, true, 1, 9), []),
  (⟨"java/lang/StringLatin1", "indexOf", "([BIII)I"⟩, prog_30_method_22_code, 4, Option.some Jvm.ClassFile.FieldType.int, (4, 80, 0, 0), (false, true, 1, 9), []),
  (⟨"java/lang/String", "indexOf", "(II)I"⟩, prog_28_method_80_code, 3, Option.some Jvm.ClassFile.FieldType.int, (5, 111, 0, 0), (false, false, 1, 8), []),
  (⟨"java/lang/String", "indexOf", "(I)I"⟩, prog_28_method_79_code, 2, Option.some Jvm.ClassFile.FieldType.int, (6, 141, 0, 0), (false, false, 1, 8), []),
  (⟨"SoupTable$Text", "shapeOf", "(I)Ljava/lang/String;"⟩, prog_5_method_4_code, 1, Option.some (Jvm.ClassFile.FieldType.object "java/lang/String"), (0, 0, 0, 0), (false, true, 0, 3), []),
  (⟨"jdk/internal/util/Preconditions", "checkIndex", "(IILjava/util/function/BiFunction;)I"⟩, prog_40_method_11_code, 3, Option.some Jvm.ClassFile.FieldType.int, (0, 0, 0, 0), (false, true, 1, 11), []),
  (⟨"java/lang/String", "checkIndex", "(II)V"⟩, prog_28_method_155_code, 2, none, (1, 30, 0, 0), (false, true, 1, 8), []),
  (⟨"java/lang/StringLatin1", "charAt", "([BI)C"⟩, prog_30_method_2_code, 2, Option.some Jvm.ClassFile.FieldType.char, (2, 59, 0, 0), (false, true, 1, 9), []),
  (⟨"java/lang/String", "charAt", "(I)C"⟩, prog_28_method_56_code, 2, Option.some Jvm.ClassFile.FieldType.char, (3, 88, 0, 0), (false, false, 1, 8), []),
  (⟨"SoupTable$Text", "handHere", "()I"⟩, prog_5_method_6_code, 1, Option.some Jvm.ClassFile.FieldType.int, (0, 0, 0, 0), (false, false, 0, 3), []),
  (⟨"SoupTable$Text", "digitHere", "()I"⟩, prog_5_method_7_code, 2, Option.some Jvm.ClassFile.FieldType.int, (0, 0, 0, 0), (false, false, 0, 3), []),
  (⟨"SoupTable$Text", "readsNumber", "(CI)Z"⟩, prog_5_method_5_code, 5, Option.some Jvm.ClassFile.FieldType.boolean, (1, 29, 0, 0), (false, false, 0, 3), []),
  (⟨"SoupTable$Text", "readsCommand", "()Z"⟩, prog_5_method_3_code, 3, Option.some Jvm.ClassFile.FieldType.boolean, (7, 170, 0, 0), (false, false, 0, 3), []),
  (⟨"SoupTable$Text", "skipSemicolon", "()Z"⟩, prog_5_method_8_code, 2, Option.some Jvm.ClassFile.FieldType.boolean, (0, 0, 0, 0), (false, false, 0, 3), []),
  (⟨"SoupTable$Text", "findFault", "()I"⟩, prog_5_method_2_code, 2, Option.some Jvm.ClassFile.FieldType.int, (8, 200, 0, 0), (false, false, 0, 3), []),
  (⟨"SoupTable$Table", "isManner", "(I)Z"⟩, prog_4_method_36_code, 1, Option.some Jvm.ClassFile.FieldType.boolean, (0, 0, 0, 0), (false, true, 0, 2), []),
  (⟨"SoupTable$Table", "isClock", "(I)Z"⟩, prog_4_method_37_code, 1, Option.some Jvm.ClassFile.FieldType.boolean, (0, 0, 0, 0), (false, true, 0, 2), []),
  (⟨"SoupTable$Seat", "beginToThink", "()V"⟩, prog_3_method_3_code, 1, none, (0, 0, 0, 0), (false, false, 0, 1), []),
  (⟨"SoupTable$Seat", "begin", "(III)V"⟩, prog_3_method_2_code, 4, none, (1, 28, 0, 0), (false, false, 0, 1), []),
  (⟨"SoupTable$Table", "addSeat", "(IIILSoupTable$Refusal;)I"⟩, prog_4_method_4_code, 5, Option.some Jvm.ClassFile.FieldType.int, (2, 59, 0, 0), (false, false, 0, 2), []),
  (⟨"SoupTable$Table", "removeSeat", "(LSoupTable$Refusal;)I"⟩, prog_4_method_5_code, 2, Option.some Jvm.ClassFile.FieldType.int, (1, 30, 0, 0), (false, false, 0, 2), []),
  (⟨"SoupTable$Table", "hasSeat", "(I)Z"⟩, prog_4_method_16_code, 2, Option.some Jvm.ClassFile.FieldType.boolean, (0, 0, 0, 0), (false, false, 0, 2), []),
  (⟨"SoupTable$Table", "setManner", "(IILSoupTable$Refusal;)I"⟩, prog_4_method_6_code, 4, Option.some Jvm.ClassFile.FieldType.int, (1, 30, 0, 0), (false, false, 0, 2), []),
  (⟨"SoupTable$Table", "setClocks", "(IIILSoupTable$Refusal;)I"⟩, prog_4_method_7_code, 6, Option.some Jvm.ClassFile.FieldType.int, (1, 30, 0, 0), (false, false, 0, 2), []),
  (⟨"SoupTable$Table", "setWaiter", "(ILSoupTable$Refusal;)I"⟩, prog_4_method_8_code, 4, Option.some Jvm.ClassFile.FieldType.int, (1, 30, 0, 0), (false, false, 0, 2), []),
  (⟨"SoupTable$Table", "ladleOf", "(IZ)I"⟩, prog_4_method_19_code, 4, Option.some Jvm.ClassFile.FieldType.int, (0, 0, 0, 0), (false, false, 0, 2), []),
  (⟨"SoupTable$Table", "takeAway", "(ILSoupTable$Refusal;)I"⟩, prog_4_method_10_code, 5, Option.some Jvm.ClassFile.FieldType.int, (1, 31, 0, 0), (false, false, 0, 2), []),
  (⟨"SoupTable$Table", "canTick", "()Z"⟩, prog_4_method_17_code, 1, Option.some Jvm.ClassFile.FieldType.boolean, (0, 0, 0, 0), (false, false, 0, 2), []),
  (⟨"SoupTable$Table", "thinkOrEat", "(I)V"⟩, prog_4_method_13_code, 3, none, (1, 31, 0, 0), (false, false, 0, 2), []),
  (⟨"SoupTable$Table", "askersBefore", "(I)I"⟩, prog_4_method_25_code, 5, Option.some Jvm.ClassFile.FieldType.int, (0, 0, 0, 0), (false, false, 0, 2), [])]
def MT_2 : List (MethodName × ByteArray × Nat × Option FieldType × (Nat × Nat × Nat × Nat) × (Bool × Bool × Nat × Nat) × List (Nat × Nat × Nat × Nat)) := [
  (⟨"SoupTable$Table", "askerAt", "(I)I"⟩, prog_4_method_24_code, 3, Option.some Jvm.ClassFile.FieldType.int, (1, 32, 0, 0), (false, false, 0, 2), []),
  (⟨"SoupTable$Table", "waiterLetsMore", "()Z"⟩, prog_4_method_23_code, 1, Option.some Jvm.ClassFile.FieldType.boolean, (1, 30, 0, 0), (false, false, 0, 2), []),
  (⟨"SoupTable$Table", "giveLeave", "()V"⟩, prog_4_method_14_code, 3, none, (2, 62, 0, 0), (false, false, 0, 2), []),
  (⟨"SoupTable$Table", "wantedLadle", "(I)I"⟩, prog_4_method_21_code, 3, Option.some Jvm.ClassFile.FieldType.int, (1, 31, 0, 0), (false, false, 0, 2), []),
  (⟨"SoupTable$Table", "isFree", "(I)Z"⟩, prog_4_method_20_code, 2, Option.some Jvm.ClassFile.FieldType.boolean, (1, 29, 0, 0), (false, false, 0, 2), []),
  (⟨"SoupTable$Seat", "beginToEat", "()V"⟩, prog_3_method_4_code, 1, none, (0, 0, 0, 0), (false, false, 0, 1), []),
  (⟨"SoupTable$Table", "takeLadles", "(I)V"⟩, prog_4_method_15_code, 5, none, (2, 61, 0, 0), (false, false, 0, 2), []),
  (⟨"SoupTable$Seat", "waitIfHungry", "()V"⟩, prog_3_method_5_code, 1, none, (4, 80, 0, 0), (false, false, 0, 1), []),
  (⟨"SoupTable$Table", "tick", "()V"⟩, prog_4_method_12_code, 2, none, (5, 108, 0, 0), (false, false, 0, 2), []),
  (⟨"SoupTable$Table", "passTicks", "(ILSoupTable$Refusal;)I"⟩, prog_4_method_11_code, 5, Option.some Jvm.ClassFile.FieldType.int, (6, 137, 0, 0), (false, false, 0, 2), []),
  (⟨"SoupTable$Table", "obey", "(LSoupTable$Text;LSoupTable$Refusal;)I"⟩, prog_4_method_3_code, 6, Option.some Jvm.ClassFile.FieldType.int, (7, 169, 0, 0), (false, false, 0, 2), []),
  (⟨"SoupTable", "commands", "()I"⟩, prog_1_method_26_code, 3, Option.some Jvm.ClassFile.FieldType.int, (9, 229, 0, 0), (false, false, 0, 5), []),
  (⟨"SoupTableLaw", "commands", "(LSoupTable;)I"⟩, method_22_code, 2, Option.some Jvm.ClassFile.FieldType.int, (10, 259, 0, 0), (false, true, 0, 7), [((0 : Nat), (4 : Nat), (5 : Nat), (44 : Nat)), ((0 : Nat), (4 : Nat), (10 : Nat), (13 : Nat))]),
  (⟨"SoupTable", "faultPosition", "()I"⟩, prog_1_method_27_code, 1, Option.some Jvm.ClassFile.FieldType.int, (0, 0, 0, 0), (false, false, 0, 5), []),
  (⟨"SoupTable", "join", "(III)I"⟩, prog_1_method_2_code, 4, Option.some Jvm.ClassFile.FieldType.int, (9, 149, 0, 0), (false, false, 0, 5), []),
  (⟨"SoupTableLaw", "join", "(LSoupTable;III)I"⟩, method_4_code, 5, Option.some Jvm.ClassFile.FieldType.int, (10, 180, 0, 0), (false, true, 0, 7), [((0 : Nat), (7 : Nat), (8 : Nat), (13 : Nat))]),
  (⟨"SoupTable", "leave", "()I"⟩, prog_1_method_3_code, 1, Option.some Jvm.ClassFile.FieldType.int, (9, 149, 0, 0), (false, false, 0, 5), []),
  (⟨"SoupTableLaw", "leave", "(LSoupTable;)I"⟩, method_5_code, 2, Option.some Jvm.ClassFile.FieldType.int, (10, 177, 0, 0), (false, true, 0, 7), [((0 : Nat), (4 : Nat), (5 : Nat), (13 : Nat))]),
  (⟨"SoupTable$Table", "hasBothManners", "()Z"⟩, prog_4_method_28_code, 2, Option.some Jvm.ClassFile.FieldType.boolean, (0, 0, 0, 0), (false, false, 0, 2), []),
  (⟨"SoupTable", "isSure", "()Z"⟩, prog_1_method_19_code, 2, Option.some Jvm.ClassFile.FieldType.boolean, (1, 29, 0, 0), (false, false, 0, 5), []),
  (⟨"SoupTable", "pass", "(I)I"⟩, prog_1_method_9_code, 2, Option.some Jvm.ClassFile.FieldType.int, (9, 169, 0, 0), (false, false, 0, 5), []),
  (⟨"SoupTableLaw", "pass", "(LSoupTable;I)I"⟩, method_11_code, 3, Option.some Jvm.ClassFile.FieldType.int, (10, 198, 0, 0), (false, true, 0, 7), [((0 : Nat), (5 : Nat), (6 : Nat), (13 : Nat))]),
  (⟨"SoupTable$Table", "awaitedSeat", "(I)I"⟩, prog_4_method_22_code, 3, Option.some Jvm.ClassFile.FieldType.int, (2, 61, 0, 0), (false, false, 0, 2), []),
  (⟨"SoupTable$Waiting", "comesBackTo", "(LSoupTable$Table;I)Z"⟩, prog_6_method_3_code, 4, Option.some Jvm.ClassFile.FieldType.boolean, (3, 91, 0, 0), (false, true, 0, 4), []),
  (⟨"SoupTable$Waiting", "ringOf", "(LSoupTable$Table;)I"⟩, prog_6_method_2_code, 3, Option.some Jvm.ClassFile.FieldType.int, (4, 122, 0, 0), (false, true, 0, 4), []),
  (⟨"SoupTable$Waiting", "waitingForOneIn", "(LSoupTable$Table;I)I"⟩, prog_6_method_5_code, 5, Option.some Jvm.ClassFile.FieldType.int, (3, 91, 0, 0), (false, true, 0, 4), []),
  (⟨"SoupTable$Waiting", "stuckOf", "(LSoupTable$Table;)I"⟩, prog_6_method_4_code, 4, Option.some Jvm.ClassFile.FieldType.int, (5, 152, 0, 0), (false, true, 0, 4), []),
  (⟨"SoupTable", "write", "(C)V"⟩, prog_1_method_40_code, 2, none, (0, 0, 0, 0), (false, false, 0, 5), []),
  (⟨"SoupTable", "writeSeat", "(IZ)V"⟩, prog_1_method_39_code, 4, none, (4, 117, 0, 0), (false, false, 0, 5), []),
  (⟨"SoupTable", "line", "()I"⟩, prog_1_method_29_code, 3, Option.some Jvm.ClassFile.FieldType.int, (6, 183, 0, 0), (false, false, 0, 5), []),
  (⟨"SoupTable", "character", "(I)C"⟩, prog_1_method_30_code, 2, Option.some Jvm.ClassFile.FieldType.char, (8, 120, 0, 0), (false, false, 0, 5), []),
  (⟨"SoupTableLaw", "character", "(LSoupTable;I)I"⟩, method_24_code, 3, Option.some Jvm.ClassFile.FieldType.int, (9, 149, 0, 0), (false, true, 0, 7), [((0 : Nat), (5 : Nat), (6 : Nat), (42 : Nat))])]
def MT_3 : List (MethodName × ByteArray × Nat × Option FieldType × (Nat × Nat × Nat × Nat) × (Bool × Bool × Nat × Nat) × List (Nat × Nat × Nat × Nat)) := [
  (⟨"SoupTableLaw", "isLine", "(LSoupTable;Ljava/lang/String;)Z"⟩, method_32_code, 3, Option.some Jvm.ClassFile.FieldType.boolean, (10, 213, 0, 0), (false, true, 0, 7), []),
  (⟨"SoupTable", "eaters", "()I"⟩, prog_1_method_15_code, 3, Option.some Jvm.ClassFile.FieldType.int, (0, 0, 0, 0), (false, false, 0, 5), []),
  (⟨"SoupTable", "stuck", "()I"⟩, prog_1_method_17_code, 1, Option.some Jvm.ClassFile.FieldType.int, (6, 183, 0, 0), (false, false, 0, 5), []),
  (⟨"SoupTable", "waitsFor", "(I)I"⟩, prog_1_method_13_code, 3, Option.some Jvm.ClassFile.FieldType.int, (8, 120, 0, 0), (false, false, 0, 5), []),
  (⟨"SoupTableLaw", "waitsFor", "(LSoupTable;I)I"⟩, method_15_code, 3, Option.some Jvm.ClassFile.FieldType.int, (9, 150, 0, 0), (false, true, 0, 7), [((0 : Nat), (5 : Nat), (6 : Nat), (42 : Nat)), ((0 : Nat), (5 : Nat), (11 : Nat), (56 : Nat))]),
  (⟨"SoupTableLaw", "at", "([II)I"⟩, method_2_code, 2, Option.some Jvm.ClassFile.FieldType.int, (0, 0, 0, 0), (false, true, 2, 7), []),
  (⟨"SoupTableLaw", "some", "(II)I"⟩, method_3_code, 3, Option.some Jvm.ClassFile.FieldType.int, (0, 0, 0, 0), (false, true, 0, 7), []),
  (⟨"SoupTable", "waiter", "(I)I"⟩, prog_1_method_6_code, 2, Option.some Jvm.ClassFile.FieldType.int, (9, 149, 0, 0), (false, false, 0, 5), []),
  (⟨"SoupTableLaw", "waiter", "(LSoupTable;I)I"⟩, method_8_code, 3, Option.some Jvm.ClassFile.FieldType.int, (10, 178, 0, 0), (false, true, 0, 7), [((0 : Nat), (5 : Nat), (6 : Nat), (13 : Nat))]),
  (⟨"SoupTableLaw", "makes", "(LSoupTable;[I)Z"⟩, method_33_code, 5, Option.some Jvm.ClassFile.FieldType.boolean, (11, 228, 0, 0), (false, true, 0, 7), []),
  (⟨"SoupTable$Table", "waitsOfAll", "()I"⟩, prog_4_method_35_code, 3, Option.some Jvm.ClassFile.FieldType.int, (0, 0, 0, 0), (false, false, 0, 2), []),
  (⟨"SoupTable", "meanWait", "()D"⟩, prog_1_method_31_code, 2, Option.some Jvm.ClassFile.FieldType.double, (8, 120, 0, 0), (false, false, 0, 5), []),
  (⟨"SoupTableLaw", "meanWait", "(LSoupTable;)D"⟩, method_25_code, 2, Option.some Jvm.ClassFile.FieldType.double, (9, 149, 0, 0), (false, true, 0, 7), [((0 : Nat), (4 : Nat), (5 : Nat), (94 : Nat))]),
  (⟨"SoupTable$Table", "mostMeals", "()I"⟩, prog_4_method_34_code, 3, Option.some Jvm.ClassFile.FieldType.int, (4, 80, 0, 0), (false, false, 0, 2), []),
  (⟨"SoupTable$Table", "fewestMeals", "()I"⟩, prog_4_method_33_code, 3, Option.some Jvm.ClassFile.FieldType.int, (4, 80, 0, 0), (false, false, 0, 2), []),
  (⟨"SoupTable", "fairness", "()F"⟩, prog_1_method_32_code, 2, Option.some Jvm.ClassFile.FieldType.float, (8, 120, 0, 0), (false, false, 0, 5), []),
  (⟨"SoupTableLaw", "fairness", "(LSoupTable;)F"⟩, method_26_code, 2, Option.some Jvm.ClassFile.FieldType.float, (9, 149, 0, 0), (false, true, 0, 7), [((0 : Nat), (4 : Nat), (5 : Nat), (94 : Nat))]),
  (⟨"SoupTable$Seat", "number", "(I)I"⟩, prog_3_method_7_code, 2, Option.some Jvm.ClassFile.FieldType.int, (0, 0, 0, 0), (false, false, 0, 1), []),
  (⟨"SoupTable", "seatOf", "(II)I"⟩, prog_1_method_10_code, 3, Option.some Jvm.ClassFile.FieldType.int, (8, 120, 0, 0), (false, false, 0, 5), []),
  (⟨"SoupTableLaw", "seatOf", "(LSoupTable;II)I"⟩, method_12_code, 4, Option.some Jvm.ClassFile.FieldType.int, (9, 150, 0, 0), (false, true, 0, 7), [((0 : Nat), (6 : Nat), (7 : Nat), (42 : Nat)), ((0 : Nat), (6 : Nat), (12 : Nat), (44 : Nat))]),
  (⟨"SoupTable", "ladle", "(IZ)I"⟩, prog_1_method_11_code, 3, Option.some Jvm.ClassFile.FieldType.int, (8, 120, 0, 0), (false, false, 0, 5), []),
  (⟨"SoupTableLaw", "ladle", "(LSoupTable;IZ)I"⟩, method_13_code, 4, Option.some Jvm.ClassFile.FieldType.int, (9, 150, 0, 0), (false, true, 0, 7), [((0 : Nat), (6 : Nat), (7 : Nat), (42 : Nat))]),
  (⟨"SoupTable", "holder", "(I)I"⟩, prog_1_method_12_code, 2, Option.some Jvm.ClassFile.FieldType.int, (8, 120, 0, 0), (false, false, 0, 5), []),
  (⟨"SoupTableLaw", "holder", "(LSoupTable;I)I"⟩, method_14_code, 3, Option.some Jvm.ClassFile.FieldType.int, (9, 149, 0, 0), (false, true, 0, 7), [((0 : Nat), (5 : Nat), (6 : Nat), (42 : Nat))]),
  (⟨"SoupTable", "asking", "(I)I"⟩, prog_1_method_14_code, 3, Option.some Jvm.ClassFile.FieldType.int, (8, 120, 0, 0), (false, false, 0, 5), []),
  (⟨"SoupTableLaw", "asking", "(LSoupTable;I)I"⟩, method_16_code, 3, Option.some Jvm.ClassFile.FieldType.int, (9, 150, 0, 0), (false, true, 0, 7), [((0 : Nat), (5 : Nat), (6 : Nat), (56 : Nat))]),
  (⟨"SoupTable$Seat", "isHungrierThan", "(LSoupTable$Seat;)Z"⟩, prog_3_method_6_code, 2, Option.some Jvm.ClassFile.FieldType.boolean, (0, 0, 0, 0), (false, false, 0, 1), []),
  (⟨"SoupTable$Table", "hungrierThan", "(I)I"⟩, prog_4_method_27_code, 5, Option.some Jvm.ClassFile.FieldType.int, (1, 29, 0, 0), (false, false, 0, 2), []),
  (⟨"SoupTable$Table", "hungriestAt", "(I)I"⟩, prog_4_method_26_code, 3, Option.some Jvm.ClassFile.FieldType.int, (2, 61, 0, 0), (false, false, 0, 2), []),
  (⟨"SoupTable", "hungriest", "(I)I"⟩, prog_1_method_22_code, 3, Option.some Jvm.ClassFile.FieldType.int, (8, 120, 0, 0), (false, false, 0, 5), []),
  (⟨"SoupTableLaw", "hungriest", "(LSoupTable;I)I"⟩, method_19_code, 3, Option.some Jvm.ClassFile.FieldType.int, (9, 150, 0, 0), (false, true, 0, 7), [((0 : Nat), (5 : Nat), (6 : Nat), (56 : Nat))]),
  (⟨"SoupTable$Table", "isNext", "(II)Z"⟩, prog_4_method_18_code, 3, Option.some Jvm.ClassFile.FieldType.boolean, (0, 0, 0, 0), (false, false, 0, 2), [])]
def MT_4 : List (MethodName × ByteArray × Nat × Option FieldType × (Nat × Nat × Nat × Nat) × (Bool × Bool × Nat × Nat) × List (Nat × Nat × Nat × Nat)) := [
  (⟨"SoupTable", "areNeighbours", "(II)Z"⟩, prog_1_method_24_code, 3, Option.some Jvm.ClassFile.FieldType.boolean, (8, 120, 0, 0), (false, false, 0, 5), []),
  (⟨"SoupTableLaw", "neighbours", "(LSoupTable;II)I"⟩, method_20_code, 4, Option.some Jvm.ClassFile.FieldType.int, (9, 150, 0, 0), (false, true, 0, 7), [((0 : Nat), (14 : Nat), (15 : Nat), (42 : Nat))]),
  (⟨"SoupTable", "ring", "()I"⟩, prog_1_method_16_code, 1, Option.some Jvm.ClassFile.FieldType.int, (5, 152, 0, 0), (false, false, 0, 5), []),
  (⟨"SoupTable$Waiting", "canGoOn", "(LSoupTable$Table;II)Z"⟩, prog_6_method_7_code, 5, Option.some Jvm.ClassFile.FieldType.boolean, (3, 91, 0, 0), (false, true, 0, 4), []),
  (⟨"SoupTable$Waiting", "remainingOf", "(LSoupTable$Table;)I"⟩, prog_6_method_6_code, 4, Option.some Jvm.ClassFile.FieldType.int, (4, 123, 0, 0), (false, true, 0, 4), []),
  (⟨"SoupTable", "stuckAgain", "()I"⟩, prog_1_method_18_code, 1, Option.some Jvm.ClassFile.FieldType.int, (5, 154, 0, 0), (false, false, 0, 5), []),
  (⟨"SoupTable", "mealsIn", "(I)I"⟩, prog_1_method_20_code, 3, Option.some Jvm.ClassFile.FieldType.int, (8, 137, 0, 0), (false, false, 0, 5), []),
  (⟨"SoupTableLaw", "mealsIn", "(LSoupTable;I)I"⟩, method_17_code, 3, Option.some Jvm.ClassFile.FieldType.int, (9, 167, 0, 0), (false, true, 0, 7), [((0 : Nat), (5 : Nat), (6 : Nat), (44 : Nat))]),
  (⟨"SoupTable", "stuckIn", "()I"⟩, prog_1_method_21_code, 2, Option.some Jvm.ClassFile.FieldType.int, (8, 183, 0, 0), (false, false, 0, 5), []),
  (⟨"SoupTableLaw", "stuckIn", "(LSoupTable;)I"⟩, method_18_code, 2, Option.some Jvm.ClassFile.FieldType.int, (9, 212, 0, 0), (false, true, 0, 7), [((0 : Nat), (4 : Nat), (5 : Nat), (56 : Nat))]),
  (⟨"SoupTable", "rounds", "()I"⟩, prog_1_method_23_code, 1, Option.some Jvm.ClassFile.FieldType.int, (5, 110, 0, 0), (false, false, 0, 5), []),
  (⟨"SoupTableLaw", "asks", "(LSoupTable;)J"⟩, method_34_code, 5, Option.some Jvm.ClassFile.FieldType.long, (10, 241, 0, 0), (true, true, 0, 7), []),
  (⟨"SoupTableLaw", "isRange", "(LSoupTable;I)Z"⟩, method_36_code, 2, Option.some Jvm.ClassFile.FieldType.boolean, (11, 210, 0, 0), (false, true, 0, 7), []),
  (⟨"SoupTable", "manner", "(II)I"⟩, prog_1_method_4_code, 3, Option.some Jvm.ClassFile.FieldType.int, (9, 149, 0, 0), (false, false, 0, 5), []),
  (⟨"SoupTableLaw", "manner", "(LSoupTable;II)I"⟩, method_6_code, 4, Option.some Jvm.ClassFile.FieldType.int, (10, 179, 0, 0), (false, true, 0, 7), [((0 : Nat), (6 : Nat), (7 : Nat), (13 : Nat))]),
  (⟨"SoupTable", "clocks", "(III)I"⟩, prog_1_method_5_code, 4, Option.some Jvm.ClassFile.FieldType.int, (9, 149, 0, 0), (false, false, 0, 5), []),
  (⟨"SoupTableLaw", "clocks", "(LSoupTable;III)I"⟩, method_7_code, 5, Option.some Jvm.ClassFile.FieldType.int, (10, 180, 0, 0), (false, true, 0, 7), [((0 : Nat), (7 : Nat), (8 : Nat), (13 : Nat))]),
  (⟨"SoupTable", "take", "(I)I"⟩, prog_1_method_8_code, 2, Option.some Jvm.ClassFile.FieldType.int, (9, 149, 0, 0), (false, false, 0, 5), []),
  (⟨"SoupTableLaw", "take", "(LSoupTable;I)I"⟩, method_10_code, 3, Option.some Jvm.ClassFile.FieldType.int, (10, 178, 0, 0), (false, true, 0, 7), [((0 : Nat), (5 : Nat), (6 : Nat), (13 : Nat))]),
  (⟨"SoupTableLaw", "reads", "(LSoupTable;Ljava/lang/String;)I"⟩, method_30_code, 3, Option.some Jvm.ClassFile.FieldType.int, (11, 288, 0, 0), (false, true, 0, 7), []),
  (⟨"SoupTableLaw", "refused", "(LSoupTable;)Z"⟩, method_37_code, 6, Option.some Jvm.ClassFile.FieldType.boolean, (12, 318, 0, 0), (true, true, 0, 7), []),
  (⟨"java/lang/AbstractStringBuilder", "<init>", "(I)V"⟩, prog_10_method_2_code, 2, none, (1, 20, 0, 0), (false, false, 1, 6), []),
  (⟨"java/lang/StringBuilder", "<init>", "()V"⟩, prog_29_method_1_code, 1, none, (2, 49, 0, 0), (false, false, 1, 12), []),
  (⟨"java/lang/AbstractStringBuilder", "ensureCapacityInternal", "(I)V"⟩, prog_10_method_9_code, 3, none, (0, 0, 0, 0), (false, false, 1, 6), []),
  (⟨"java/lang/AbstractStringBuilder", "inflateIfNeededFor", "(Ljava/lang/String;)V"⟩, prog_10_method_71_code, 2, none, (1, 28, 0, 0), (false, false, 1, 6), []),
  (⟨"java/lang/String", "getBytes", "([BIB)V"⟩, prog_28_method_147_code, 4, none, (4, 80, 0, 0), (false, false, 1, 8), []),
  (⟨"java/lang/AbstractStringBuilder", "putStringAt", "(ILjava/lang/String;)V"⟩, prog_10_method_73_code, 3, none, (5, 111, 0, 0), (false, false, 1, 6), []),
  (⟨"java/lang/AbstractStringBuilder", "append", "(Ljava/lang/String;)Ljava/lang/AbstractStringBuilder;"⟩, prog_10_method_22_code, 3, Option.some (Jvm.ClassFile.FieldType.object "java/lang/AbstractStringBuilder"), (6, 141, 0, 0), (false, false, 1, 6), []),
  (⟨"java/lang/StringBuilder", "append", "(Ljava/lang/String;)Ljava/lang/StringBuilder;"⟩, prog_29_method_7_code, 2, Option.some (Jvm.ClassFile.FieldType.object "java/lang/StringBuilder"), (7, 171, 0, 0), (false, false, 1, 12), []),
  (⟨"java/lang/Integer", "stringSize", "(I)I"⟩, prog_24_method_13_code, 4, Option.some Jvm.ClassFile.FieldType.int, (0, 0, 0, 0), (false, true, 1, 10), []),
  (⟨"java/lang/AbstractStringBuilder", "isLatin1", "()Z"⟩, prog_10_method_68_code, 1, Option.some Jvm.ClassFile.FieldType.boolean, (0, 0, 0, 0), (false, false, 1, 6), []),
  (⟨"java/lang/Integer", "getChars", "(II[B)I"⟩, prog_24_method_12_code, 7, Option.some Jvm.ClassFile.FieldType.int, (0, 0, 0, 0), (false, true, 1, 10), [])]
def MT_5 : List (MethodName × ByteArray × Nat × Option FieldType × (Nat × Nat × Nat × Nat) × (Bool × Bool × Nat × Nat) × List (Nat × Nat × Nat × Nat)) := [
  (⟨"java/lang/AbstractStringBuilder", "append", "(I)Ljava/lang/AbstractStringBuilder;"⟩, prog_10_method_32_code, 4, Option.some (Jvm.ClassFile.FieldType.object "java/lang/AbstractStringBuilder"), (1, 34, 0, 0), (false, false, 1, 6), []),
  (⟨"java/lang/StringBuilder", "append", "(I)Ljava/lang/StringBuilder;"⟩, prog_29_method_15_code, 2, Option.some (Jvm.ClassFile.FieldType.object "java/lang/StringBuilder"), (2, 65, 0, 0), (false, false, 1, 12), []),
  (⟨"java/lang/AbstractStringBuilder", "getValue", "()[B"⟩, prog_10_method_64_code, 1, Option.some (Jvm.ClassFile.FieldType.array Jvm.ClassFile.FieldType.byte), (0, 0, 0, 0), (false, false, 1, 6), []),
  (⟨"java/lang/AbstractStringBuilder", "length", "()I"⟩, prog_10_method_6_code, 1, Option.some Jvm.ClassFile.FieldType.int, (0, 0, 0, 0), (false, false, 1, 6), []),
  (⟨"java/lang/StringBuilder", "length", "()I"⟩, prog_29_method_93_code, 1, Option.some Jvm.ClassFile.FieldType.int, (1, 28, 0, 0), (false, false, 1, 12), []),
  (⟨"java/util/Arrays", "checkLength", "(II)V"⟩, prog_37_method_131_code, 2, none, (0, 0, 0, 0), (false, true, 1, 13), []),
  (⟨"java/util/Arrays", "copyOfRangeByte", "([BII)[B"⟩, prog_37_method_133_code, 5, Option.some (Jvm.ClassFile.FieldType.array Jvm.ClassFile.FieldType.byte), (4, 80, 0, 0), (false, true, 1, 13), []),
  (⟨"java/util/Arrays", "copyOfRange", "([BII)[B"⟩, prog_37_method_132_code, 3, Option.some (Jvm.ClassFile.FieldType.array Jvm.ClassFile.FieldType.byte), (5, 112, 0, 0), (false, true, 1, 13), []),
  (⟨"java/lang/String", "<init>", "(Ljava/lang/AbstractStringBuilder;Ljava/lang/Void;)V"⟩, prog_28_method_150_code, 5, none, (6, 142, 0, 0), (false, false, 1, 8), []),
  (⟨"java/lang/String", "<init>", "(Ljava/lang/StringBuilder;)V"⟩, prog_28_method_53_code, 2, none, (7, 174, 0, 0), (false, false, 1, 8), []),
  (⟨"java/lang/StringBuilder", "toString", "()Ljava/lang/String;"⟩, prog_29_method_42_code, 1, Option.some (Jvm.ClassFile.FieldType.object "java/lang/String"), (8, 203, 0, 0), (false, false, 1, 12), []),
  (⟨"SoupTableLaw", "changes", "(LSoupTable;I)Z"⟩, method_35_code, 3, Option.some Jvm.ClassFile.FieldType.boolean, (12, 318, 0, 0), (false, true, 0, 7), []),
  (⟨"SoupTableLaw", "law", "([I)Z"⟩, code, 11, ret, (13, 351, 0, 0), (true, true, 2, 7), [])]
def MT : List (MethodName × ByteArray × Nat × Option FieldType × (Nat × Nat × Nat × Nat) × (Bool × Bool × Nat × Nat) × List (Nat × Nat × Nat × Nat)) := MT_0 ++ (MT_1 ++ (MT_2 ++ (MT_3 ++ (MT_4 ++ (MT_5)))))
def MD : MethodName × ByteArray × Nat × Option FieldType × (Nat × Nat × Nat × Nat) × (Bool × Bool × Nat × Nat) × List (Nat × Nat × Nat × Nat) := (⟨"", "", ""⟩, ⟨#[]⟩, 0, none, (0, 0, 0, 0), (false, false, 0, 0), [])
def mI (M : Nat) : MethodName × ByteArray × Nat × Option FieldType × (Nat × Nat × Nat × Nat) × (Bool × Bool × Nat × Nat) × List (Nat × Nat × Nat × Nat) := MT.getD M MD
def mY (M : Nat) : MethodName := (mI M).1
def mB (M : Nat) : ByteArray := (mI M).2.1
def mL (M : Nat) : Nat := (mI M).2.2.1
def mR (M : Nat) : Option FieldType := (mI M).2.2.2.1
def mF (M : Nat) : Nat := (mI M).2.2.2.2.1.1
def mO (M : Nat) : Nat := (mI M).2.2.2.2.1.2.1
def mC (M : Nat) : Nat := (mI M).2.2.2.2.1.2.2.1
def mS (M : Nat) : Nat := (mI M).2.2.2.2.1.2.2.2
def m2 (M : Nat) : Bool := (mI M).2.2.2.2.2.1.1
def mT (M : Nat) : Bool := (mI M).2.2.2.2.2.1.2.1
def mK (M : Nat) : Nat := (mI M).2.2.2.2.2.1.2.2.1
def mN (M : Nat) : Nat := (mI M).2.2.2.2.2.1.2.2.2
def mH (M : Nat) : List (Nat × Nat × Nat × Nat) := (mI M).2.2.2.2.2.2
def cname (k : Nat) : String := CN.getD k ""
def CT_0 : List (Nat × Nat × (Nat × Nat × Nat) × Nat) := [
  (7, 270, (2, 4, 0), 39),
  (5, 3, (5, 0, 0), 42),
  (5, 11, (2, 1, 0), 47),
  (2, 3, (5, 0, 0), 50),
  (1, 3, (5, 0, 0), 57),
  (3, 3, (5, 0, 0), 139),
  (0, 3, (5, 0, 0), 167),
  (7, 189, (0, 97, 0), 217),
  (7, 195, (0, 98, 0), 221),
  (5, 147, (1, 90, 1), 225),
  (4, 25, (1, 88, 1), 228),
  (4, 15, (1, 87, 2), 231),
  (4, 21, (0, 86, 1), 234),
  (2, 102, (0, 55, 1), 238),
  (2, 160, (0, 67, 1), 242),
  (2, 117, (0, 59, 2), 246),
  (4, 29, (1, 89, 2), 250),
  (4, 33, (0, 25, 0), 253),
  (4, 46, (0, 65, 0), 257),
  (2, 169, (0, 25, 0), 261),
  (2, 172, (1, 26, 1), 262),
  (7, 201, (0, 83, 0), 268),
  (5, 156, (0, 61, 0), 272),
  (5, 160, (0, 82, 0), 276),
  (7, 263, (0, 77, 0), 280),
  (7, 275, (0, 11, 0), 284),
  (5, 51, (0, 6, 1), 288),
  (2, 29, (0, 5, 1), 292),
  (7, 136, (1, 101, 2), 296),
  (7, 143, (1, 79, 4), 299),
  (7, 7, (0, 78, 3), 303),
  (5, 55, (0, 53, 4), 307),
  (2, 81, (1, 49, 1), 311),
  (2, 85, (1, 50, 1), 314),
  (2, 88, (0, 12, 2), 317),
  (2, 94, (0, 24, 0), 321),
  (2, 98, (0, 52, 3), 325),
  (1, 33, (0, 51, 0), 329),
  (5, 59, (0, 15, 1), 333),
  (5, 223, (0, 14, 0), 409),
  (7, 212, (1, 81, 1), 413),
  (7, 15, (0, 80, 0), 416),
  (5, 63, (0, 54, 1), 420),
  (7, 218, (1, 17, 2), 424),
  (7, 30, (0, 16, 1), 427),
  (5, 78, (0, 13, 2), 431),
  (7, 148, (1, 85, 2), 435),
  (7, 36, (0, 84, 1), 438),
  (5, 84, (0, 73, 2), 442),
  (2, 121, (0, 61, 0), 446),
  (2, 125, (0, 23, 0), 447),
  (2, 128, (0, 72, 0), 451),
  (2, 131, (0, 62, 1), 455),
  (2, 150, (0, 51, 0), 459),
  (2, 135, (0, 66, 0), 460),
  (2, 153, (0, 64, 1), 464),
  (2, 177, (0, 63, 1), 468),
  (2, 157, (0, 65, 0), 472),
  (2, 138, (0, 70, 1), 473),
  (2, 163, (0, 68, 1), 477),
  (2, 166, (0, 69, 0), 481),
  (2, 141, (0, 71, 0), 485),
  (1, 42, (6, 0, 0), 489),
  (7, 180, (1, 100, 2), 492)]
def CT_1 : List (Nat × Nat × (Nat × Nat × Nat) × Nat) := [
  (7, 53, (0, 99, 1), 520),
  (5, 87, (0, 55, 1), 524),
  (5, 122, (0, 86, 1), 538),
  (7, 120, (1, 22, 2), 555),
  (7, 74, (0, 21, 1), 559),
  (7, 125, (1, 76, 1), 579),
  (7, 80, (0, 75, 0), 583),
  (5, 197, (0, 48, 0), 587),
  (3, 23, (0, 46, 0), 591),
  (3, 35, (0, 37, 1), 596),
  (8, 633, (0, 36, 2), 600),
  (8, 492, (0, 30, 0), 604),
  (8, 505, (0, 32, 0), 610),
  (8, 335, (0, 31, 0), 614),
  (8, 637, (1, 35, 4), 618),
  (9, 88, (1, 33, 1), 621),
  (9, 92, (6, 0, 0), 624),
  (9, 38, (7, 0, 0), 625),
  (9, 95, (1, 34, 4), 628),
  (3, 44, (1, 38, 1), 680),
  (3, 48, (0, 32, 0), 689),
  (3, 51, (0, 42, 1), 690),
  (8, 495, (1, 41, 2), 694),
  (9, 9, (1, 40, 2), 697),
  (8, 1059, (1, 39, 3), 700),
  (3, 55, (0, 45, 2), 710),
  (3, 71, (0, 43, 0), 714),
  (3, 74, (0, 44, 0), 718),
  (3, 30, (0, 47, 0), 722),
  (5, 205, (0, 46, 0), 742),
  (5, 208, (0, 74, 2), 743),
  (2, 53, (0, 53, 4), 747),
  (2, 57, (0, 54, 1), 748),
  (2, 61, (0, 56, 3), 749),
  (2, 65, (0, 57, 4), 753),
  (2, 68, (0, 58, 2), 757),
  (2, 72, (0, 13, 2), 761),
  (2, 75, (0, 60, 2), 762),
  (2, 78, (0, 73, 2), 766),
  (5, 212, (0, 47, 0), 767),
  (7, 170, (1, 29, 2), 769),
  (7, 103, (0, 28, 1), 772),
  (5, 168, (0, 23, 0), 776),
  (5, 271, (0, 24, 0), 777),
  (5, 274, (0, 25, 0), 778),
  (5, 277, (1, 26, 1), 779),
  (5, 282, (0, 27, 0), 780),
  (7, 271, (1, 8, 1), 785),
  (7, 106, (0, 7, 0), 788),
  (7, 273, (1, 10, 1), 793),
  (7, 109, (0, 9, 0), 796),
  (7, 249, (1, 20, 4), 801),
  (7, 128, (1, 19, 2), 804),
  (7, 83, (0, 18, 1), 807),
  (7, 280, (1, 96, 2), 813),
  (7, 131, (0, 93, 0), 816),
  (5, 239, (0, 91, 1), 820),
  (5, 243, (0, 92, 2), 824),
  (5, 308, (0, 42, 1), 829),
  (7, 112, (0, 32, 0), 830),
  (7, 134, (1, 95, 2), 831),
  (7, 86, (0, 94, 1), 834),
  (7, 117, (0, 42, 1), 839),
  (7, 284, (1, 105, 2), 840)]
def CT_2 : List (Nat × Nat × (Nat × Nat × Nat) × Nat) := [
  (7, 140, (1, 102, 2), 843),
  (7, 146, (1, 104, 2), 846),
  (7, 26, (0, 103, 1), 849),
  (5, 74, (0, 58, 2), 853),
  (7, 253, (1, 139, 1), 854),
  (7, 152, (1, 108, 1), 858),
  (7, 90, (0, 107, 0), 875),
  (5, 254, (0, 106, 0), 882),
  (7, 155, (8, 0, 0), 887),
  (7, 161, (1, 112, 1), 897),
  (7, 98, (0, 111, 0), 900),
  (5, 257, (0, 109, 0), 904),
  (2, 195, (6, 0, 0), 908),
  (5, 179, (0, 110, 0), 910),
  (2, 190, (7, 0, 0), 914),
  (7, 164, (9, 0, 0), 916),
  (7, 172, (1, 115, 3), 926),
  (7, 39, (0, 114, 2), 929),
  (5, 107, (0, 113, 1), 934),
  (7, 175, (1, 117, 3), 938),
  (7, 46, (0, 116, 2), 941),
  (5, 112, (0, 59, 2), 945),
  (7, 178, (1, 119, 2), 946),
  (7, 50, (0, 118, 1), 949),
  (7, 182, (1, 121, 2), 954),
  (7, 58, (0, 120, 1), 957),
  (5, 130, (0, 64, 1), 961),
  (7, 184, (1, 126, 2), 963),
  (7, 67, (0, 125, 1), 966),
  (5, 174, (0, 124, 1), 970),
  (2, 183, (0, 123, 1), 974),
  (2, 186, (0, 122, 1), 978),
  (7, 186, (1, 129, 3), 983),
  (7, 70, (0, 128, 2), 986),
  (5, 182, (0, 127, 2), 990),
  (7, 192, (0, 130, 0), 994),
  (5, 141, (1, 88, 1), 998),
  (7, 198, (0, 133, 0), 999),
  (5, 150, (1, 132, 1), 1003),
  (4, 50, (1, 131, 3), 1006),
  (7, 205, (1, 135, 2), 1009),
  (7, 61, (0, 134, 1), 1012),
  (5, 165, (0, 72, 0), 1017),
  (7, 207, (1, 137, 1), 1018),
  (7, 64, (0, 136, 0), 1021),
  (7, 209, (0, 138, 0), 1026),
  (7, 292, (1, 171, 2), 1030),
  (7, 214, (1, 142, 3), 1033),
  (7, 19, (0, 141, 2), 1036),
  (5, 67, (0, 56, 3), 1040),
  (7, 216, (1, 144, 4), 1041),
  (7, 23, (0, 143, 3), 1044),
  (5, 71, (0, 57, 4), 1048),
  (7, 220, (1, 146, 2), 1049),
  (7, 33, (0, 145, 1), 1052),
  (5, 81, (0, 60, 2), 1056),
  (7, 224, (2, 150, 0), 1059),
  (12, 1, (2, 149, 1), 1062),
  (6, 3, (5, 0, 0), 1065),
  (7, 227, (0, 156, 1), 1088),
  (12, 29, (14, 155, 1), 1092),
  (6, 100, (11, 151, 1), 1099),
  (13, 304, (7, 0, 0), 1126),
  (13, 150, (10, 0, 0), 1127)]
def CT_3 : List (Nat × Nat × (Nat × Nat × Nat) × Nat) := [
  (6, 83, (11, 158, 0), 1130),
  (6, 32, (0, 32, 0), 1141),
  (6, 208, (11, 154, 2), 1142),
  (6, 397, (11, 152, 1), 1146),
  (6, 40, (0, 31, 0), 1150),
  (6, 399, (0, 153, 3), 1170),
  (8, 212, (10, 0, 0), 1174),
  (7, 230, (0, 161, 1), 1176),
  (12, 53, (14, 160, 1), 1180),
  (6, 245, (1, 157, 1), 1183),
  (6, 248, (1, 159, 3), 1186),
  (7, 235, (0, 170, 0), 1202),
  (12, 137, (2, 169, 1), 1207),
  (8, 489, (2, 168, 2), 1210),
  (8, 1, (5, 0, 0), 1213),
  (8, 552, (11, 162, 0), 1214),
  (8, 549, (12, 164, 0), 1219),
  (12, 343, (14, 163, 0), 1225),
  (8, 1047, (11, 158, 0), 1227),
  (8, 54, (1, 167, 3), 1228),
  (13, 339, (1, 166, 3), 1231),
  (13, 343, (1, 165, 2), 1234),
  (7, 245, (1, 147, 2), 1265),
  (7, 288, (1, 148, 1), 1268),
  (7, 257, (1, 140, 2), 1271),
  (7, 295, (7, 0, 0), 1277)]
/-- calls: the class that calls, the entry, (kind, method, how many arguments), the word by its place -/
def CTA : List (Nat × Nat × (Nat × Nat × Nat) × Nat) := CT_0 ++ (CT_1 ++ (CT_2 ++ (CT_3)))
def CTN : List (Nat × Nat × (Nat × Nat × Nat) × Nat) := [(2, 28, (3, 0, 0), 54), (5, 31, (3, 2, 0), 136), (5, 42, (3, 3, 0), 164)]
def CT : List (Nat × Nat × (Nat × Nat × Nat) × Nat) := CTN ++ CTA
def MCL : List (Nat × Nat) := [(41, 4), (49, 1), (56, 0), (138, 2), (166, 3), (220, 97), (224, 98), (227, 90), (230, 88), (233, 87), (237, 86), (241, 55), (245, 67), (249, 59), (252, 89), (256, 25), (260, 65), (264, 26), (271, 83), (275, 61), (279, 82), (283, 77), (287, 11), (291, 6), (295, 5), (298, 101), (301, 79), (306, 78), (310, 53), (313, 49), (316, 50), (320, 12), (324, 24), (328, 52), (332, 51), (336, 15), (412, 14), (415, 81), (419, 80), (423, 54), (426, 17), (430, 16), (434, 13), (437, 85), (441, 84), (445, 73), (450, 23), (454, 72), (458, 62), (463, 66), (467, 64), (471, 63), (476, 70), (480, 68), (484, 69), (488, 71), (494, 100), (523, 99), (557, 22), (562, 21), (581, 76), (586, 75), (590, 48), (594, 46), (599, 37), (603, 36), (607, 30), (613, 32), (617, 31), (620, 35), (623, 33), (630, 34), (682, 38), (693, 42), (696, 41), (699, 40), (702, 39), (713, 45), (717, 43), (721, 44), (725, 47), (746, 74), (752, 56), (756, 57), (760, 58), (765, 60), (771, 29), (775, 28), (783, 27), (787, 8), (791, 7), (795, 10), (799, 9), (803, 20), (806, 19), (810, 18), (815, 96), (819, 93), (823, 91), (827, 92), (833, 95), (837, 94), (842, 105), (845, 102), (848, 104), (852, 103), (856, 139), (860, 108), (878, 107), (885, 106), (899, 112), (903, 111), (907, 109), (913, 110), (928, 115), (932, 114), (937, 113), (940, 117), (944, 116), (948, 119), (952, 118), (956, 121), (960, 120), (965, 126), (969, 125), (973, 124), (977, 123), (981, 122), (985, 129), (989, 128), (993, 127), (997, 130), (1002, 133), (1005, 132), (1008, 131), (1011, 135), (1015, 134), (1020, 137), (1024, 136), (1029, 138), (1032, 171), (1035, 142), (1039, 141), (1043, 144), (1047, 143), (1051, 146), (1055, 145), (1061, 150), (1064, 149), (1091, 156), (1094, 155), (1102, 151), (1134, 158), (1145, 154), (1149, 152), (1173, 153), (1179, 161), (1182, 160), (1185, 157), (1188, 159), (1205, 170), (1209, 169), (1212, 168), (1218, 162), (1224, 164), (1226, 163), (1230, 167), (1233, 166), (1236, 165), (1267, 147), (1270, 148), (1273, 140)]
def MSL : List (Nat × Nat) := [(40, 4), (48, 1), (55, 0), (137, 2), (165, 3), (218, 97), (222, 98), (226, 90), (229, 88), (232, 87), (235, 86), (239, 55), (243, 67), (247, 59), (251, 89), (254, 25), (258, 65), (263, 26), (269, 83), (273, 61), (277, 82), (281, 77), (285, 11), (289, 6), (293, 5), (297, 101), (300, 79), (304, 78), (308, 53), (312, 49), (315, 50), (318, 12), (322, 24), (326, 52), (330, 51), (335, 15), (411, 14), (414, 81), (417, 80), (421, 54), (425, 17), (428, 16), (432, 13), (436, 85), (439, 84), (443, 73), (448, 23), (452, 72), (456, 62), (461, 66), (465, 64), (469, 63), (474, 70), (478, 68), (482, 69), (486, 71), (493, 100), (521, 99), (556, 22), (560, 21), (580, 76), (584, 75), (588, 48), (592, 46), (597, 37), (601, 36), (605, 30), (611, 32), (615, 31), (619, 35), (622, 33), (629, 34), (681, 38), (691, 42), (695, 41), (698, 40), (701, 39), (711, 45), (715, 43), (719, 44), (723, 47), (744, 74), (750, 56), (754, 57), (758, 58), (763, 60), (770, 29), (773, 28), (781, 27), (786, 8), (789, 7), (794, 10), (797, 9), (802, 20), (805, 19), (808, 18), (814, 96), (817, 93), (822, 91), (826, 92), (832, 95), (835, 94), (841, 105), (844, 102), (847, 104), (850, 103), (855, 139), (859, 108), (876, 107), (883, 106), (898, 112), (901, 111), (905, 109), (911, 110), (927, 115), (930, 114), (935, 113), (939, 117), (942, 116), (947, 119), (950, 118), (955, 121), (958, 120), (964, 126), (967, 125), (971, 124), (975, 123), (979, 122), (984, 129), (987, 128), (991, 127), (995, 130), (1000, 133), (1004, 132), (1007, 131), (1010, 135), (1013, 134), (1019, 137), (1022, 136), (1027, 138), (1031, 171), (1034, 142), (1037, 141), (1042, 144), (1045, 143), (1050, 146), (1053, 145), (1060, 150), (1063, 149), (1089, 156), (1093, 155), (1101, 151), (1131, 158), (1144, 154), (1148, 152), (1171, 153), (1177, 161), (1181, 160), (1184, 157), (1187, 159), (1203, 170), (1208, 169), (1211, 168), (1215, 162), (1220, 163), (1223, 164), (1229, 167), (1232, 166), (1235, 165), (1266, 147), (1269, 148), (1272, 140)]
def MEL : List (Nat × Nat) := [(0, 15), (2, 14), (3, 91), (4, 92), (219, 97), (223, 98), (236, 86), (240, 55), (244, 67), (248, 59), (255, 25), (259, 65), (270, 83), (274, 61), (278, 82), (282, 77), (286, 11), (290, 6), (294, 5), (305, 78), (309, 53), (319, 12), (323, 24), (327, 52), (331, 51), (418, 80), (422, 54), (429, 16), (433, 13), (440, 84), (444, 73), (449, 23), (453, 72), (457, 62), (462, 66), (466, 64), (470, 63), (475, 70), (479, 68), (483, 69), (487, 71), (522, 99), (561, 21), (585, 75), (589, 48), (593, 46), (598, 37), (602, 36), (606, 30), (612, 32), (616, 31), (692, 42), (712, 45), (716, 43), (720, 44), (724, 47), (745, 74), (751, 56), (755, 57), (759, 58), (764, 60), (774, 28), (782, 27), (790, 7), (798, 9), (809, 18), (818, 93), (836, 94), (851, 103), (877, 107), (884, 106), (902, 111), (906, 109), (912, 110), (931, 114), (936, 113), (943, 116), (951, 118), (959, 120), (968, 125), (972, 124), (976, 123), (980, 122), (988, 128), (992, 127), (996, 130), (1001, 133), (1014, 134), (1023, 136), (1028, 138), (1038, 141), (1046, 143), (1054, 145), (1090, 156), (1172, 153), (1178, 161), (1204, 170)]
def MIL : List (Nat × Nat) := [(5, 7), (6, 5), (7, 2), (8, 1), (9, 3), (10, 0), (19, 10), (20, 8), (21, 9), (24, 11), (26, 4), (32, 6), (33, 12), (35, 13)]
def MAL : List Nat := [0, 0, 0, 0, 0, 1, 1, 0, 1, 0, 1, 0, 2, 2, 0, 1, 1, 2, 1, 2, 4, 1, 2, 0, 0, 0, 1, 0, 1, 2, 0, 0, 0, 1, 4, 4, 2, 1, 1, 3, 2, 2, 1, 0, 0, 2, 0, 0, 0, 1, 1, 0, 3, 4, 1, 1, 3, 4, 2, 2, 2, 0, 1, 1, 1, 0, 0, 1, 1, 0, 1, 0, 0, 2, 2, 0, 1, 0, 3, 4, 0, 1, 0, 0, 1, 2, 1, 2, 1, 2, 1, 1, 2, 0, 1, 2, 2, 0, 0, 1, 2, 2, 2, 1, 2, 2, 0, 0, 1, 0, 0, 0, 1, 1, 2, 3, 2, 3, 1, 2, 1, 2, 1, 1, 1, 1, 2, 2, 2, 3, 0, 3, 1, 0, 1, 2, 0, 1, 0, 1, 2, 2, 3, 3, 4, 1, 2, 2, 1, 1, 0, 1, 1, 3, 2, 1, 1, 1, 0, 3, 1, 1, 0, 0, 0, 2, 3, 3, 2, 1, 0, 2, 1]
def ctf (k idx : Nat) : Option (Nat × Nat × (Nat × Nat × Nat) × Nat) := CT.find? fun q => q.1 == k && q.2.1 == idx
def call (k idx : Nat) : Option (Nat × Nat × Nat) := (ctf k idx).map fun q => q.2.2.1
/-- fields: the class whose code speaks, the entry, the object's class, the place, the word's place -/
def FT : List (Nat × Nat × Nat × Nat × Nat) := [(1, 9, 1, 0, 58), (2, 105, 1, 0, 59), (5, 303, 1, 0, 60), (1, 15, 1, 1, 61), (2, 111, 1, 1, 62), (1, 18, 1, 2, 63), (2, 114, 1, 2, 64), (1, 36, 1, 3, 65), (4, 41, 1, 3, 66), (2, 108, 1, 3, 67), (5, 138, 1, 3, 68), (1, 39, 1, 4, 69), (2, 144, 1, 4, 70), (1, 21, 1, 5, 71), (2, 147, 1, 5, 72), (1, 24, 1, 6, 73), (2, 198, 1, 6, 74), (1, 27, 1, 7, 75), (2, 180, 1, 7, 76), (1, 30, 1, 8, 77), (2, 11, 2, 0, 98), (4, 37, 2, 0, 99), (5, 103, 2, 0, 100), (2, 17, 2, 1, 101), (5, 118, 2, 1, 102), (4, 9, 2, 2, 103), (2, 33, 2, 2, 104), (5, 135, 2, 2, 105), (2, 21, 2, 3, 106), (5, 153, 2, 3, 107), (2, 25, 2, 4, 108), (5, 265, 2, 4, 109), (2, 36, 2, 5, 110), (5, 262, 2, 5, 111), (2, 39, 2, 6, 112), (5, 268, 2, 6, 113), (2, 42, 2, 7, 114), (5, 285, 2, 7, 115), (3, 9, 3, 0, 140), (5, 194, 3, 0, 141), (3, 27, 3, 1, 142), (5, 186, 3, 1, 143), (3, 19, 3, 2, 144), (5, 202, 3, 2, 145), (2, 50, 3, 3, 146), (3, 41, 3, 3, 147), (3, 15, 3, 4, 148), (2, 45, 3, 4, 149), (0, 9, 0, 0, 168), (5, 228, 0, 0, 169), (0, 15, 0, 1, 170), (5, 233, 0, 1, 171), (5, 215, 0, 2, 172), (5, 12, 4, 0, 180), (5, 16, 4, 1, 181), (5, 19, 4, 2, 182), (5, 295, 4, 3, 183), (5, 22, 4, 4, 184), (5, 288, 4, 5, 185), (5, 26, 4, 6, 186), (5, 32, 4, 7, 187), (5, 36, 4, 8, 188), (5, 43, 4, 9, 189), (5, 47, 4, 10, 190), (5, 236, 4, 11, 191), (6, 15, 5, 0, 1074), (6, 22, 5, 1, 1075), (8, 1048, 5, 2, 1076), (6, 79, 5, 3, 1077), (8, 9, 6, 0, 1255), (8, 15, 6, 1, 1256)]
def ftf (k idx : Nat) : Option (Nat × Nat × Nat × Nat × Nat) := FT.find? fun q => q.1 == k && q.2.1 == idx
def fld (k idx : Nat) : Option (Nat × Nat) := (ftf k idx).map fun q => (q.2.2.1, q.2.2.2.1)
def NT : List (Nat × Nat × Nat × Nat) := [(2, 9, 1, 51), (5, 9, 2, 45), (5, 29, 3, 134), (5, 40, 0, 162), (13, 45, 5, 1238), (12, 18, 6, 1206), (7, 222, 5, 1057), (7, 8, 4, 37)]
def ntf (k idx : Nat) : Option (Nat × Nat × Nat × Nat) := NT.find? fun q => q.1 == k && q.2.1 == idx
def newc (k idx : Nat) : Option Nat := (ntf k idx).map fun q => q.2.2.1
def kn (ci : Nat) : Nat := (KL.getD ci ("", TX0, 0)).2.2
def dflt (ci : Nat) : List Value := (List.range (kn ci)).map fun j => defaultValue ((KTY.getD ci tyX0) j)
def LTX : List String := ["+-mkwpdt", ".?_12", "hdd", "", "dh", "ddd", "n", "d", "q", "t1;t2;t0", "t3;d9", "0l2 1r1 2l_ 3r2 4l_ 5r2 6l_ 7r_", "t", ";d", "w", ";t3;m", "r"]
def LBY : List (List Int32) := [[43, 45, 109, 107, 119, 112, 100, 116], [46, 63, 95, 49, 50], [104, 100, 100], [], [100, 104], [100, 100, 100], [110], [100], [113], [116, 49, 59, 116, 50, 59, 116, 48], [116, 51, 59, 100, 57], [48, 108, 50, 32, 49, 114, 49, 32, 50, 108, 95, 32, 51, 114, 50, 32, 52, 108, 95, 32, 53, 114, 50, 32, 54, 108, 95, 32, 55, 114, 95], [116], [59, 100], [119], [59, 116, 51, 59, 109], [114]]
def LT : List (Nat × Nat × Nat × Nat) := [(3, 33, 0, 595), (3, 59, 2, 683), (3, 61, 3, 684), (3, 63, 4, 685), (3, 65, 5, 686), (3, 67, 6, 687), (3, 69, 7, 688), (5, 306, 1, 828), (7, 225, 12, 1087), (7, 233, 13, 1201), (7, 239, 14, 1262), (7, 241, 15, 1263), (7, 243, 16, 1264), (7, 261, 8, 1274), (7, 266, 9, 1275), (7, 268, 10, 1276), (7, 278, 11, 1278)]
def ltf (k idx : Nat) : Option (Nat × Nat × Nat × Nat) := LT.find? fun q => q.1 == k && q.2.1 == idx
def lit (k idx : Nat) : Option Nat := (ltf k idx).map fun q => q.2.2.1
def IT : List (Nat × Nat × Int32 × Nat) := [(10, 265, 1431655765, 265), (10, 266, 858993459, 266), (10, 267, 252645135, 267), (6, 39, 2147483647, 1115)]
def itf (k idx : Nat) : Option (Nat × Nat × Int32 × Nat) := IT.find? fun q => q.1 == k && q.2.1 == idx
def icst (k idx : Nat) : Option Int32 := (itf k idx).map fun q => q.2.2.1
def FCT : List (Nat × Nat × UInt32 × Nat) := [(7, 102, 3296346112, 915)]
def Fctf (k idx : Nat) : Option (Nat × Nat × UInt32 × Nat) := FCT.find? fun q => q.1 == k && q.2.1 == idx
def fcst (k idx : Nat) : Option UInt32 := (Fctf k idx).map fun q => q.2.2.1
def LCT : List (Nat × Nat × Int64 × Nat) := [(7, 150, 31, 857)]
def Lctf (k idx : Nat) : Option (Nat × Nat × Int64 × Nat) := LCT.find? fun q => q.1 == k && q.2.1 == idx
def lcst (k idx : Nat) : Option Int64 := (Lctf k idx).map fun q => q.2.2.1
def DCT : List (Nat × Nat × UInt64 × Nat) := [(7, 96, 13875388141788987392, 886)]
def Dctf (k idx : Nat) : Option (Nat × Nat × UInt64 × Nat) := DCT.find? fun q => q.1 == k && q.2.1 == idx
def dcst (k idx : Nat) : Option UInt64 := (Dctf k idx).map fun q => q.2.2.1
def EXN : List String := ["java/lang/ArithmeticException", "java/lang/IllegalArgumentException", "java/lang/IllegalStateException", "java/lang/IndexOutOfBoundsException", "java/lang/UnsupportedOperationException", "java/util/NoSuchElementException"]
/-- throws: the method, where, 0 for ldc and 1 for ldc_w, which exception, the entries -/
def TT : List (Nat × Nat × Nat × Nat × Nat × Nat × Nat) := [(7, 7, 1, 2, 189, 293, 193), (9, 7, 1, 2, 189, 299, 193), (15, 13, 1, 4, 218, 301, 222), (18, 9, 0, 1, 98, 226, 102), (18, 29, 0, 5, 125, 231, 129), (21, 12, 0, 2, 189, 191, 193), (28, 160, 1, 1, 98, 291, 102), (75, 27, 0, 1, 98, 200, 102), (75, 152, 0, 4, 218, 220, 222), (94, 12, 0, 3, 91, 247, 95), (99, 11, 0, 3, 91, 93, 95), (99, 35, 0, 5, 125, 127, 129), (107, 12, 0, 0, 249, 251, 253), (111, 12, 1, 0, 249, 260, 253), (114, 11, 0, 3, 91, 93, 95), (114, 31, 0, 1, 98, 100, 102), (116, 11, 0, 3, 91, 93, 95), (118, 11, 0, 3, 91, 116, 95), (120, 14, 0, 5, 125, 133, 129), (125, 14, 0, 5, 125, 177, 129), (128, 22, 0, 3, 91, 93, 95), (134, 10, 0, 1, 98, 163, 102), (136, 54, 0, 5, 125, 172, 129)]
def ttf (M pc : Nat) : Option (Nat × Nat × Nat × Nat × Nat × Nat × Nat) := TT.find? fun q => q.1 == M && q.2.1 == pc
def thr (M pc : Nat) : Option String := (ttf M pc).map fun q => EXN.getD q.2.2.2.1 ""
/-- handlers: the method, the exception, the handler, the local that takes it, where it goes on, from, to, the entry, its length, the words' places, the place in the table, the exception before it and its word's place -/
abbrev Hrw : Type := Nat × Nat × Nat × Nat × Nat × Nat × Nat × Nat × Nat × Nat × Nat × Nat × Nat × Nat
def HT : List Hrw := [(8, 2, 5, 1, 6, 0, 4, 78, 1, 558, 565, 0, 0, 0), (10, 2, 5, 1, 6, 0, 4, 78, 1, 558, 565, 0, 0, 0), (17, 4, 6, 2, 7, 0, 5, 13, 1, 302, 339, 0, 0, 0), (19, 1, 6, 2, 7, 0, 5, 44, 1, 582, 728, 0, 0, 0), (19, 5, 11, 2, 12, 0, 5, 56, 1, 519, 541, 1, 1, 582), (22, 2, 6, 2, 7, 0, 5, 78, 1, 558, 565, 0, 0, 0), (29, 1, 6, 2, 7, 0, 5, 44, 1, 582, 728, 0, 0, 0), (76, 1, 5, 1, 6, 0, 4, 44, 1, 582, 728, 0, 0, 0), (76, 4, 10, 1, 11, 0, 4, 13, 1, 302, 339, 1, 1, 582), (79, 4, 8, 4, 10, 0, 7, 13, 2, 302, 339, 0, 0, 0), (81, 4, 5, 1, 6, 0, 4, 13, 1, 302, 339, 0, 0, 0), (85, 4, 6, 2, 7, 0, 5, 13, 1, 302, 339, 0, 0, 0), (95, 3, 6, 2, 7, 0, 5, 42, 1, 495, 527, 0, 0, 0), (100, 3, 6, 2, 7, 0, 5, 42, 1, 495, 527, 0, 0, 0), (100, 5, 11, 2, 12, 0, 5, 56, 1, 519, 541, 1, 3, 495), (104, 4, 6, 2, 7, 0, 5, 13, 1, 302, 339, 0, 0, 0), (108, 0, 5, 1, 6, 0, 4, 94, 1, 861, 873, 0, 0, 0), (112, 0, 5, 1, 6, 0, 4, 94, 1, 861, 873, 0, 0, 0), (115, 3, 7, 3, 8, 0, 6, 42, 1, 495, 527, 0, 0, 0), (115, 1, 12, 3, 13, 0, 6, 44, 1, 582, 728, 1, 3, 495), (117, 3, 7, 3, 8, 0, 6, 42, 1, 495, 527, 0, 0, 0), (119, 3, 6, 2, 7, 0, 5, 42, 1, 495, 527, 0, 0, 0), (121, 5, 6, 2, 7, 0, 5, 56, 1, 519, 541, 0, 0, 0), (126, 5, 6, 2, 7, 0, 5, 56, 1, 519, 541, 0, 0, 0), (129, 3, 15, 3, 16, 0, 14, 42, 1, 495, 527, 0, 0, 0), (135, 1, 6, 2, 7, 0, 5, 44, 1, 582, 728, 0, 0, 0), (137, 5, 5, 1, 6, 0, 4, 56, 1, 519, 541, 0, 0, 0), (142, 4, 7, 3, 8, 0, 6, 13, 1, 302, 339, 0, 0, 0), (144, 4, 8, 4, 10, 0, 7, 13, 2, 302, 339, 0, 0, 0), (146, 4, 6, 2, 7, 0, 5, 13, 1, 302, 339, 0, 0, 0)]
def NCP : List (Nat × Nat) := [(5, 1), (4, 1), (5, 3), (1, 3)]
def hdf (M pc : Nat) (E : String) : Option Hrw := HT.find? fun q => q.1 == M && EXN.getD q.2.1 "" == E && decide (q.2.2.2.2.2.1 ≤ pc) && decide (pc < q.2.2.2.2.2.2.1)
def hdl (M pc : Nat) (E : String) : Option (Nat × Nat) := (hdf M pc E).map fun q => (q.2.2.2.1, q.2.2.2.2.1)
def MXP : Nat × Nat × Nat × Nat × Nat := (490, 491, 626, 627, 22)
def POI : Nat × Nat := (43, 44)
def SGT : List (Nat × Nat × Nat × Nat) := [(8, 38, 0, 608), (8, 1053, 1, 649), (6, 18, 0, 1066), (10, 83, 2, 1189)]
def sgf (k idx : Nat) : Option Nat := (SGT.find? fun q => q.1 == k && q.2.1 == idx).map fun q => q.2.2.1
def SFT : List (Nat × Nat × Nat × Nat) := [(8, 9, 0, 1255), (8, 15, 1, 1256)]
def sff (k idx : Nat) : Option Nat := (SFT.find? fun q => q.1 == k && q.2.1 == idx).map fun q => q.2.2.1
def LAWM : Nat := 172
/-- where a loop begins: the locals that are remembered there -/
def MKT : List (Nat × Nat × List Bool) := [(139, 50, [true, true, true, true, false]), (105, 14, [true, true, true, true, false]), (172, 551, [true, true, true, true, true, true, true, true, true, false, false]), (172, 630, [true, true, true, true, true, true, true, true, true, true, false])]
/-! ===== THE ABSTRACT MACHINE ===== -/
/-- what it takes as given: the String constants' addresses, String → its bytes' address, bytes → (length, what they hold), the static formatter, the script (address, length, ints) -/
abbrev Cxt : Type := (Nat → Nat) × (Nat → Option Nat) × (Nat → Option (Nat × (Nat → Int32))) × Option Nat × (Nat × Nat × (Nat → Int32))
abbrev Nxt : Type := Nat × Lcs × Stk × Wld × Option Nat × Nat × Nat
abbrev Cll : Type := Nat × List Value × Stk
def gf (w : Wld) (a ci k : Nat) : Option Value := match w a with
  | some (.inr (ci2, fs)) => if ci2 = ci then fs[k]? else none
  | _ => none
def okv (ty : FieldType) (v : Value) : Bool := match ty, v with
  | .int, .int _ => true
  | .boolean, .int x => decide (narrow .boolean (.int x) = .int x) && fits .boolean (.int x)
  | .char, .int x => decide (narrow .char (.int x) = .int x) && fits .char (.int x)
  | .byte, .int x => decide (narrow .byte (.int x) = .int x) && fits .byte (.int x)
  | .object _, .ref _ => true
  | .array _, .ref _ => true
  | _, _ => false
def fty (ci k : Nat) : FieldType := (KTY.getD ci tyX0) k
def pf (w : Wld) (a ci k : Nat) (v : Value) : Option Wld := match w a with
  | some (.inr (ci2, fs)) => if ci2 = ci ∧ k < fs.length ∧ okv (fty ci k) v = true then some (wset w a (.inr (ci2, fs.set k v))) else none
  | _ => none
/-- a final field is written in its own class's constructor alone -/
def pok (M ci k : Nat) : Bool := match KL[ci]? with
  | some q => !(q.2.1 k).2.2.2 || ((mY M).name == "<init>" && cname (mN M) == (q.2.1 k).1)
  | none => false
def inr_ (i : Int32) (n : Nat) : Bool := decide (¬ (i < 0 ∨ n ≤ i.toNatClampNeg))
def ga (w : Wld) (a t : Nat) (i : Int32) : Option Value := match w a with
  | some (.inl (t2, n, f)) => if t2 = t ∧ inr_ i n = true then some (f i.toNatClampNeg) else none
  | _ => none
def sa (w : Wld) (a t : Nat) (i : Int32) (v : Value) : Option Wld := match w a with
  | some (.inl (t2, n, f)) => if t2 = t ∧ inr_ i n = true then some (wset w a (.inl (t2, n, updV f i.toNatClampNeg v))) else none
  | _ => none
def hasc (w : Wld) (a ci : Nat) : Bool := match w a with
  | some (.inr (ci2, _)) => decide (ci2 = ci)
  | _ => false
/-- the kinds of arrays -/
def ATY : List FieldType := [.int, .char, .long, .byte, .object "SoupTable$Seat", .object "SoupTable$Table"]
def atg (ty : ArrayType) : Option (Nat × Value) := match ty with
  | .int => some (0, .int 0)
  | .char => some (1, .int 0)
  | .long => some (2, .long 0)
  | .byte => some (3, .int 0)
  | _ => none
def popv : Nat → Stk → List Value → Option (List Value × Stk)
  | 0, st, acc => some (acc, st)
  | k + 1, v :: st, acc => if v.category = 1 then popv k st (v :: acc) else none
  | _ + 1, [], _ => none
def okr (ty : Option FieldType) (x : Int32) : Bool := match ty with
  | some .int => true
  | some .boolean => decide (narrow .boolean (.int x) = .int x)
  | some .char => decide (narrow .char (.int x) = .int x)
  | some .byte => decide (narrow .byte (.int x) = .int x)
  | _ => false
def isob (ty : Option FieldType) : Bool := match ty with
  | some (.object _) => true
  | some (.array _) => true
  | _ => false
def imx (x y : Int32) : Int32 := if x < y then y else x
def imn (x y : Int32) : Int32 := if y < x then y else x
/-- the method fits into its caller's room -/
def fits2 (M M2 : Nat) : Bool := decide (mF M2 + 1 ≤ mF M ∧ 16 + (mL M2 + 11) + mO M2 ≤ mO M)
/-- the class whose objects run the methods of a class -/
def rco (c : String) : String := if c = "java/lang/AbstractStringBuilder" then "java/lang/StringBuilder" else c
def rcw (w : Wld) (M2 b : Nat) : Bool := match w b with
    | some (.inr (ci, _)) => decide ((KL.getD ci ("", TX0, 0)).1 = rco (mY M2).cls)
    | _ => false
def rcv (X : Cxt) (w : Wld) (M2 b : Nat) : Bool := match mK M2 with
  | 1 => ((X.2.1 b).isSome && decide (rco (mY M2).cls = "java/lang/String")) || rcw w M2 b
  | _ => rcw w M2 b
/-- kinds of virtual calls: 0 the class's own, 11 inherited or private, 12 overriding -/
def vkd (k : Nat) : Bool := Nat.beq k 0 || (Nat.beq k 11 || Nat.beq k 12)
/-- what System.arraycopy leaves in the array that it writes -/
def cpy (f g : Nat → Value) (sp dp n : Nat) : Nat → Value := fun k => if dp ≤ k ∧ k < dp + n then f (sp + (k - dp)) else g k
/-- bytes to be read: a constant's, or the world's -/
def byt (X : Cxt) (w : Wld) (a : Nat) : Option (Nat × (Nat → Value)) := match X.2.2.1 a with
  | some q => some (q.1, fun j => .int (q.2 j))
  | none => match w a with
    | some (.inl (3, n, f)) => some (n, f)
    | _ => none
/-- what a new array of references holds: null up to its length; what stands behind it is never read -/
def anw (ci q m : Nat) : Nat → Value := fun j => if j < m then .null else .ref (if ci = 1 then q + 2 + j else q + 17 + 11 * j)
def nxt (pc : Nat) (ls : Lcs) (st : Stk) (w : Wld) (n : Option Nat) (c sl : Nat) : Option (Nxt ⊕ (Otc ⊕ Cll)) := some (.inl (pc, ls, st, w, n, c, sl))
def xcl (M M2 : Nat) (vs : List Value) (r : Stk) : Option (Nxt ⊕ (Otc ⊕ Cll)) := if fits2 M M2 = true ∧ r.length ≤ 8 then some (.inr (.inr (M2, vs, r))) else none
/-- with no more than four values below -/
def xc4 (M M2 : Nat) (vs : List Value) (r : Stk) : Option (Nxt ⊕ (Otc ⊕ Cll)) := if r.length ≤ 4 then xcl M M2 vs r else none
def xpst (M pc : Nat) (i : Instr) (len : Nat) (ls : Lcs) (st : Stk) (w : Wld) (n : Option Nat) (c sl : Nat) : Option (Nxt ⊕ (Otc ⊕ Cll)) := match pst (m2 M) i len pc ls st with
    | some q => nxt q.1 q.2.1 q.2.2 w n c sl
    | none => none
def xst (X : Cxt) (M pc : Nat) (i : Instr) (len : Nat) (ls : Lcs) (st : Stk) (w : Wld) (n : Option Nat) (c sl : Nat) : Option (Nxt ⊕ (Otc ⊕ Cll)) := match i with
  | .getfield idx => g1 len 3 (qr st fun a r => match mK M with
    | 1 => match X.2.1 a with
      | some v => match sff (mN M) idx with
        | some 0 => nxt (pc + 3) ls (.ref v :: r) w n c sl
        | some _ => nxt (pc + 3) ls (.int 0 :: r) w n c sl
        | none => none
      | none => match fld (mN M) idx with
        | some q => match gf w a q.1 q.2 with
          | some v => nxt (pc + 3) ls (v :: r) w n c sl
          | none => none
        | none => none
    | _ => match fld (mN M) idx with
      | some q => match gf w a q.1 q.2 with
        | some v => nxt (pc + 3) ls (v :: r) w n c sl
        | none => none
      | none => none)
  | .putfield idx => g1 len 3 (q1 st fun v r => qr r fun a r => match fld (mN M) idx with
      | some q => match pf w a q.1 q.2 v with
        | some w2 => gc (pok M q.1 q.2) (nxt (pc + 3) ls r w2 n c sl)
        | none => none
      | none => none)
  | .iaload => g1 len 1 (qi st fun j r => qr r fun a r => match mK M with
    | 2 => if a = X.2.2.2.2.1 ∧ inr_ j X.2.2.2.2.2.1 = true then nxt (pc + 1) ls (.int (X.2.2.2.2.2.2 j.toNatClampNeg) :: r) w n c sl else none
    | _ => match ga w a 0 j with
      | some v => nxt (pc + 1) ls (v :: r) w n c sl
      | none => none)
  | .caload => g1 len 1 (qi st fun j r => qr r fun a r => match ga w a 1 j with
      | some v => nxt (pc + 1) ls (v :: r) w n c sl
      | none => none)
  | .laload => g1 len 1 (qi st fun j r => qr r fun a r => match ga w a 2 j with
      | some v => nxt (pc + 1) ls (v :: r) w n c sl
      | none => none)
  | .aaload => g1 len 1 (qi st fun j r => qr r fun a r => match ga w a 4 j with
      | some v => nxt (pc + 1) ls (v :: r) w n c sl
      | none => match ga w a 5 j with
        | some v => nxt (pc + 1) ls (v :: r) w n c sl
        | none => none)
  | .iastore => g1 len 1 (qi st fun v r => qi r fun j r => qr r fun a r => match sa w a 0 j (.int v) with
      | some w2 => nxt (pc + 1) ls r w2 n c sl
      | none => none)
  | .castore => g1 len 1 (qi st fun v r => qi r fun j r => qr r fun a r => match sa w a 1 j (narrow .char (.int v)) with
      | some w2 => nxt (pc + 1) ls r w2 n c sl
      | none => none)
  | .lastore => g1 len 1 (ql st fun v r => qi r fun j r => qr r fun a r => match sa w a 2 j (.long v) with
      | some w2 => nxt (pc + 1) ls r w2 n c sl
      | none => none)
  | .bastore => g1 len 1 (qi st fun v r => qi r fun j r => qr r fun a r => match sa w a 3 j (narrow .byte (.int v)) with
      | some w2 => nxt (pc + 1) ls r w2 n c sl
      | none => none)
  | .aastore => g1 len 1 (qr st fun v r => qi r fun j r => qr r fun a r => match hasc w v 1, sa w a 4 j (.ref v) with
      | true, some w2 => nxt (pc + 1) ls r w2 n c sl
      | _, _ => match hasc w v 2, sa w a 5 j (.ref v) with
        | true, some w2 => nxt (pc + 1) ls r w2 n c sl
        | _, _ => none)
  | .arraylength => g1 len 1 (qr st fun a r => match mK M with
    | 2 => if a = X.2.2.2.2.1 then nxt (pc + 1) ls (.int (Int32.ofNat X.2.2.2.2.2.1) :: r) w n c sl else none
    | 1 => match X.2.2.1 a with
      | some q => nxt (pc + 1) ls (.int (Int32.ofNat q.1) :: r) w n c sl
      | none => match w a with
        | some (.inl (3, m, _)) => nxt (pc + 1) ls (.int (Int32.ofNat m) :: r) w n c sl
        | _ => none
    | _ => none)
  | .baload => g1 len 1 (qi st fun j r => qr r fun a r => match X.2.2.1 a with
      | some q => if inr_ j q.1 = true then nxt (pc + 1) ls (.int (q.2 j.toNatClampNeg) :: r) w n c sl else none
      | none => match ga w a 3 j with
        | some v => nxt (pc + 1) ls (v :: r) w n c sl
        | none => none)
  | .getstatic idx => g1 len 3 (match sgf (mN M) idx with
    | some 0 => nxt (pc + 3) ls (.int 1 :: st) w n c sl
    | some 1 => nxt (pc + 3) ls (va_rf X.2.2.2.1 :: st) w n c sl
    | some _ => nxt (pc + 3) ls (.ref (X.1 100) :: st) w n c sl
    | none => none)
  | .ldc idx => g1 len 2 (match lit (mN M) idx with
    | some j => nxt (pc + 2) ls (.ref (X.1 j) :: st) w n c sl
    | none => match fcst (mN M) idx with
      | some v => nxt (pc + 2) ls (.float v :: st) w n c sl
      | none => none)
  | .ldc2_w idx => g1 len 3 (match lcst (mN M) idx with
    | some v => nxt (pc + 3) ls (.long v :: st) w n c sl
    | none => match dcst (mN M) idx with
      | some v => nxt (pc + 3) ls (.double v :: st) w n c sl
      | none => none)
  | .ldc_w idx => g1 len 3 (match icst (mN M) idx with
    | some v => nxt (pc + 3) ls (.int v :: st) w n c sl
    | none => match lit (mN M) idx with
      | some j => nxt (pc + 3) ls (.ref (X.1 j) :: st) w n c sl
      | none => none)
  | .new idx => g1 len 3 (match thr M pc with
    | some e => if st.length ≤ 4 then some (.inr (.inl (.inr e, w, n.map (· + 1)))) else none
    | none => match newc (mN M) idx, n with
      | some ci, some q => nxt (pc + 3) ls (.ref q :: st) (wset w q (.inr (ci, dflt ci))) (some (q + 1)) c sl
      | _, _ => none)
  | .newarray ty => g1 len 2 (qi st fun x r => match atg ty, n with
      | some t, some q => if ¬ x < 0 ∧ x.toNatClampNeg ≤ 60 then nxt (pc + 2) ls (.ref q :: r) (wset w q (.inl (t.1, x.toNatClampNeg, fun _ => t.2))) (some (q + 1)) c sl else none
      | _, _ => none)
  | .anewarray idx => g1 len 3 (qi st fun x r => match newc (mN M) idx, n with
      | some ci, some q => if (ci = 1 ∨ ci = 2) ∧ ¬ x < 0 ∧ x.toNatClampNeg ≤ 60 then nxt (pc + 3) ls (.ref q :: r) (wset w q (.inl (ci + 3, x.toNatClampNeg, anw ci q x.toNatClampNeg))) (some (q + 1)) c sl else none
      | _, _ => none)
  | .ireturn => g1 len 1 (qi st fun x r => match r with
    | [] => gc (okr (mR M) x) (some (.inr (.inl (.inl (some (.int x)), w, n))))
    | _ => none)
  | .freturn => g1 len 1 (qf st fun x r => match r with
    | [] => gc (decide (mR M = some .float)) (some (.inr (.inl (.inl (some (.float x)), w, n))))
    | _ => none)
  | .dreturn => g1 len 1 (qd st fun x r => match r with
    | [] => gc (decide (mR M = some .double)) (some (.inr (.inl (.inl (some (.double x)), w, n))))
    | _ => none)
  | .lreturn => g1 len 1 (ql st fun x r => match r with
    | [] => gc (decide (mR M = some .long)) (some (.inr (.inl (.inl (some (.long x)), w, n))))
    | _ => none)
  | .areturn => g1 len 1 (qr st fun x r => match r with
    | [] => gc (isob (mR M)) (some (.inr (.inl (.inl (some (.ref x)), w, n))))
    | _ => none)
  | .return_ => g1 len 1 (match st with
    | [] => gc (decide (mR M = none)) (some (.inr (.inl (.inl none, w, n))))
    | _ => none)
  | .invokestatic idx => g1 len 3 (match call (mN M) idx with
    | some (1, M2, k) => match popv k st [] with
      | some (vs, r) => xcl M M2 vs r
      | none => none
    | some (6, _, _) => if 1 ≤ mF M ∧ 2 * st.length + 13 ≤ mO M then qi st fun y r => qi r fun x r => nxt (pc + 3) ls (.int (imx x y) :: r) w n c sl else none
    | some (7, _, _) => if 1 ≤ mF M ∧ 2 * st.length + 13 ≤ mO M then qi st fun y r => qi r fun x r => nxt (pc + 3) ls (.int (imn x y) :: r) w n c sl else none
    | some (8, _, _) => if 4 ≤ mF M ∧ st.length ≤ 3 ∧ 80 ≤ mO M then qd st fun x r => gc (decide (Op.cmpValue (FP.dcmp x x) .l = 0)) (nxt (pc + 3) ls (.long x.toInt64 :: r) w n c sl) else none
    | some (9, _, _) => if 4 ≤ mF M ∧ st.length ≤ 3 ∧ 80 ≤ mO M then qf st fun x r => gc (decide (Op.cmpValue (FP.fcmp x x) .l = 0)) (nxt (pc + 3) ls (.int x.toInt32 :: r) w n c sl) else none
    | some (10, _, _) => if 4 ≤ mF M ∧ st.length ≤ 6 ∧ 80 ≤ mO M then qi st fun m r => qi r fun dp r => qr r fun d r => qi r fun sp r => qr r fun s r => match byt X w s, w d with
      | some q, some (.inl (3, N, g)) => if s ≠ d ∧ ¬ sp < 0 ∧ ¬ dp < 0 ∧ ¬ m < 0 ∧ sp.toNatClampNeg + m.toNatClampNeg ≤ q.1 ∧ dp.toNatClampNeg + m.toNatClampNeg ≤ N ∧ (List.range m.toNatClampNeg).all (fun i => okv .byte (q.2 (sp.toNatClampNeg + i))) = true then nxt (pc + 3) ls r (wset w d (.inl (3, N, cpy q.2 g sp.toNatClampNeg dp.toNatClampNeg m.toNatClampNeg))) n c sl else none
      | _, _ => none else none
    | _ => none)
  | .invokevirtual idx => g1 len 3 (match call (mN M) idx with
    | some q => gc (vkd q.1) (match popv q.2.2 st [] with
      | some (vs, r) => qr r fun b r => gc (rcv X w q.2.1 b) (match q.1 with
        | 0 => xcl M q.2.1 (.ref b :: vs) r
        | _ => xc4 M q.2.1 (.ref b :: vs) r)
      | none => none)
    | _ => none)
  | .invokespecial idx => g1 len 3 (match call (mN M) idx with
    | some (5, _, _) => qr st fun _ r => if 1 ≤ mF M ∧ 2 * r.length + 12 ≤ mO M then nxt (pc + 3) ls r w n c sl else none
    | some (2, M2, k) => match popv k st [] with
      | some (vs, r) => qr r fun b r => xc4 M M2 (.ref b :: vs) r
      | none => none
    | some (3, M2, k) => match popv k st [] with
      | some (vs, r) => qr r fun b r => xc4 M M2 (.ref b :: vs) r
      | none => none
    | some (14, M2, k) => match popv k st [] with
      | some (vs, r) => qr r fun b r => gc (rcv X w M2 b) (xc4 M M2 (.ref b :: vs) r)
      | none => none
    | _ => none)
  | _ => xpst M pc i len ls st w n c sl
/-- where a loop begins, the numbers of a turn are forgotten -/
def e_mk (M pc : Nat) (ls : Lcs) : Lcs := match MKT.find? (fun q => Nat.beq q.1 M && Nat.beq q.2.1 pc) with
  | some q => List.zipWith (fun (b : Bool) (v : Option Value) => match b with | true => v | false => none) q.2.2 ls
  | none => ls
/-- a method of the JDK's: it throws nothing here -/
def jdk (M : Nat) : Bool := Nat.beq (mK M) 1
def entl (M : Nat) (vs : List Value) : Lcs := vs.map some ++ List.replicate (mL M - vs.length) none
def ex (X : Cxt) : Nat → Nat → Nat → Lcs → Stk → Wld → Option Nat → Nat → Nat → Option Otc
  | 0, _, _, _, _, _, _, _, _ => none
  | f + 1, M, pc, ls, st, w, n, c, sl => match decode (mB M) pc with
    | .error _ => none
    | .ok (i, len) => match xst X M pc i len (e_mk M pc ls) st w n c sl with
      | none => none
      | some (.inl q) => ex X f M q.1 q.2.1 q.2.2.1 q.2.2.2.1 q.2.2.2.2.1 q.2.2.2.2.2.1 q.2.2.2.2.2.2
      | some (.inr (.inl o)) => some o
      | some (.inr (.inr q)) => match ex X f q.1 0 (entl q.1 q.2.1) [] w n 0 0 with
        | none => none
        | some o => if q.2.1.length ≤ mL q.1 then
            match o.1 with
            | .inl v => ex X f M (pc + 3) (e_mk M pc ls) (v.toList ++ q.2.2) o.2.1 o.2.2 c sl
            | .inr e => match jdk q.1 with
              | true => none
              | false => match mH M with
                | [] => some (.inr e, o.2.1, o.2.2)
                | _ => match hdl M pc e with
                  | some k => ex X f M k.2 ((e_mk M pc ls).set k.1 none) [] o.2.1 o.2.2 c sl
                  | none => none
          else none
theorem ex_mono (X : Cxt) : ∀ (f M pc : Nat) (ls : Lcs) (st : Stk) (w : Wld) (n : Option Nat) (c sl : Nat) (o : Otc), ex X f M pc ls st w n c sl = some o → ex X (f + 1) M pc ls st w n c sl = some o := by
  intro f
  induction f with
  | zero => intro M pc ls st w n c sl o h; cases h
  | succ f ih =>
    intro M pc ls st w n c sl o h
    rw [ex] at h
    rw [ex]
    split at h
    · cases h
    · rename_i i len hd
      (try rw [hd])
      (try dsimp only)
      split at h
      · cases h
      · rename_i q hq
        (try rw [hq])
        exact ih _ _ _ _ _ _ _ _ _ h
      · rename_i q hq
        (try rw [hq])
        exact h
      · rename_i q hq
        (try rw [hq])
        (try dsimp only)
        split at h
        · cases h
        · rename_i o2 ho2
          rw [ih _ _ _ _ _ _ _ _ _ ho2]
          (try dsimp only)
          split at h
          · rename_i hg
            rw [if_pos hg]
            split at h
            · rename_i v hv
              (try rw [hv])
              exact ih _ _ _ _ _ _ _ _ _ h
            · rename_i e9 he
              (try rw [he])
              (try dsimp only)
              split at h
              · cases h
              · rename_i hj
                (try rw [hj])
                (try dsimp only)
                split at h
                · rename_i hm
                  (try rw [hm])
                  exact h
                · rename_i hm
                  split at h
                  · rename_i k hk
                    (try rw [hk])
                    exact ih _ _ _ _ _ _ _ _ _ h
                  · cases h
          · cases h
theorem ex_up (X : Cxt) {f g M pc : Nat} {ls : Lcs} {st : Stk} {w : Wld} {n : Option Nat} {c sl : Nat} {o : Otc} (h : ex X f M pc ls st w n c sl = some o) (hg : f ≤ g) : ex X g M pc ls st w n c sl = some o := by
  induction hg with
  | refl => exact h
  | step _ ih => exact ex_mono X _ _ _ _ _ _ _ _ _ _ ih
/-- from here the method ends, with Q -/
def Ev (X : Cxt) (M pc : Nat) (ls : Lcs) (st : Stk) (w : Wld) (n : Option Nat) (c sl : Nat) (Q : (Option Value ⊕ String) → Wld → Option Nat → Prop) : Prop := ∃ (f : Nat) (o : Otc), ex X f M pc ls st w n c sl = some o ∧ Q o.1 o.2.1 o.2.2
