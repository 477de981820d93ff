/-! the classes of the objects: names, fields, their words -/
def z_F0 : u_T := fun k => match k with
  | 0 => ("TestChoice", "tape", "LTestChoice$Tape;", true)
  | 1 => ("TestChoice", "reader", "LTestChoice$Reader;", true)
  | 2 => ("TestChoice", "old", "LTestChoice$Program;", true)
  | 3 => ("TestChoice", "now", "LTestChoice$Program;", true)
  | 4 => ("TestChoice", "tests", "LTestChoice$Tests;", true)
  | 5 => ("TestChoice", "run", "LTestChoice$Run;", true)
  | 6 => ("TestChoice", "danger", "LTestChoice$Danger;", true)
  | 7 => ("TestChoice", "choice", "LTestChoice$Choice;", true)
  | 8 => ("TestChoice", "images", "[LTestChoice$Image;", true)
  | 9 => ("TestChoice", "sheets", "[LTestChoice$Sheet;", true)
  | 10 => ("TestChoice", "textFault", "I", false)
  | _ => ("TestChoice", "readFault", "I", false)
def z_T0 : Nat → FieldType := fun k => match k with
  | 0 => .object "TestChoice$Tape"
  | 1 => .object "TestChoice$Reader"
  | 2 => .object "TestChoice$Program"
  | 3 => .object "TestChoice$Program"
  | 4 => .object "TestChoice$Tests"
  | 5 => .object "TestChoice$Run"
  | 6 => .object "TestChoice$Danger"
  | 7 => .object "TestChoice$Choice"
  | 8 => .array (.object "TestChoice$Image")
  | 9 => .array (.object "TestChoice$Sheet")
  | 10 => .int
  | _ => .int
def z_F1 : u_T := fun k => match k with
  | 0 => ("TestChoice$Tape", "length", "I", false)
  | 1 => ("TestChoice$Tape", "token", "I", false)
  | 2 => ("TestChoice$Tape", "start", "I", false)
  | 3 => ("TestChoice$Tape", "value", "I", false)
  | 4 => ("TestChoice$Tape", "behind", "I", false)
  | _ => ("TestChoice$Tape", "bytes", "[B", true)
def z_T1 : Nat → FieldType := fun k => match k with
  | 0 => .int
  | 1 => .int
  | 2 => .int
  | 3 => .int
  | 4 => .int
  | _ => .array .byte
def z_F2 : u_T := fun k => match k with
  | 0 => ("TestChoice$Reader", "fault", "I", false)
  | 1 => ("TestChoice$Reader", "place", "I", false)
  | 2 => ("TestChoice$Reader", "lines", "I", false)
  | 3 => ("TestChoice$Reader", "draft", "LTestChoice$Program;", true)
  | 4 => ("TestChoice$Reader", "drafted", "LTestChoice$Tests;", true)
  | 5 => ("TestChoice$Reader", "tape", "LTestChoice$Tape;", true)
  | 6 => ("TestChoice$Reader", "arguments", "[I", true)
  | 7 => ("TestChoice$Reader", "latestClass", "I", false)
  | _ => ("TestChoice$Reader", "latestMethod", "I", false)
def z_T2 : Nat → FieldType := fun k => match k with
  | 0 => .int
  | 1 => .int
  | 2 => .int
  | 3 => .object "TestChoice$Program"
  | 4 => .object "TestChoice$Tests"
  | 5 => .object "TestChoice$Tape"
  | 6 => .array .int
  | 7 => .int
  | _ => .int
def z_F3 : u_T := fun k => match k with
  | 0 => ("TestChoice$Program", "methods", "I", false)
  | 1 => ("TestChoice$Program", "classes", "I", false)
  | 2 => ("TestChoice$Program", "nodes", "[I", true)
  | 3 => ("TestChoice$Program", "kinds", "[I", true)
  | 4 => ("TestChoice$Program", "numbers", "[I", true)
  | 5 => ("TestChoice$Program", "ways", "[I", true)
  | 6 => ("TestChoice$Program", "leads", "[I", true)
  | 7 => ("TestChoice$Program", "under", "[I", true)
  | _ => ("TestChoice$Program", "owned", "[I", true)
def z_T3 : Nat → FieldType := fun k => match k with
  | 0 => .int
  | 1 => .int
  | 2 => .array .int
  | 3 => .array .int
  | 4 => .array .int
  | 5 => .array .int
  | 6 => .array .int
  | 7 => .array .int
  | _ => .array .int
def z_F4 : u_T := fun k => match k with
  | 0 => ("TestChoice$Tests", "size", "I", false)
  | 1 => ("TestChoice$Tests", "classes", "[I", true)
  | 2 => ("TestChoice$Tests", "decisions", "[I", true)
  | _ => ("TestChoice$Tests", "costs", "[I", true)
def z_T4 : Nat → FieldType := fun k => match k with
  | 0 => .int
  | 1 => .array .int
  | 2 => .array .int
  | _ => .array .int
def z_F5 : u_T := fun k => match k with
  | 0 => ("TestChoice$Run", "words", "I", false)
  | 1 => ("TestChoice$Run", "steps", "I", false)
  | 2 => ("TestChoice$Run", "gone", "LTestChoice$EdgeSet;", true)
  | 3 => ("TestChoice$Run", "program", "LTestChoice$Program;", false)
  | 4 => ("TestChoice$Run", "byClass", "I", false)
  | 5 => ("TestChoice$Run", "decisions", "I", false)
  | 6 => ("TestChoice$Run", "asked", "I", false)
  | _ => ("TestChoice$Run", "cutOff", "Z", false)
def z_T5 : Nat → FieldType := fun k => match k with
  | 0 => .int
  | 1 => .int
  | 2 => .object "TestChoice$EdgeSet"
  | 3 => .object "TestChoice$Program"
  | 4 => .int
  | 5 => .int
  | 6 => .int
  | _ => .boolean
def z_F6 : u_T := fun k => match k with
  | _ => ("TestChoice$EdgeSet", "rows", "[J", true)
def z_T6 : Nat → FieldType := fun k => match k with
  | _ => .array .long
def z_F7 : u_T := fun k => match k with
  | 0 => ("TestChoice$Danger", "edges", "LTestChoice$EdgeSet;", true)
  | 1 => ("TestChoice$Danger", "old", "LTestChoice$Program;", true)
  | 2 => ("TestChoice$Danger", "now", "LTestChoice$Program;", true)
  | 3 => ("TestChoice$Danger", "paired", "[I", true)
  | 4 => ("TestChoice$Danger", "pairs", "[I", true)
  | _ => ("TestChoice$Danger", "found", "I", false)
def z_T7 : Nat → FieldType := fun k => match k with
  | 0 => .object "TestChoice$EdgeSet"
  | 1 => .object "TestChoice$Program"
  | 2 => .object "TestChoice$Program"
  | 3 => .array .int
  | 4 => .array .int
  | _ => .int
def z_F8 : u_T := fun k => match k with
  | 0 => ("TestChoice$Choice", "chosen", "I", false)
  | 1 => ("TestChoice$Choice", "ranked", "[I", true)
  | 2 => ("TestChoice$Choice", "gains", "[I", true)
  | 3 => ("TestChoice$Choice", "rankOf", "[I", true)
  | 4 => ("TestChoice$Choice", "covered", "[LTestChoice$EdgeSet;", true)
  | 5 => ("TestChoice$Choice", "left", "LTestChoice$EdgeSet;", true)
  | 6 => ("TestChoice$Choice", "any", "LTestChoice$EdgeSet;", true)
  | 7 => ("TestChoice$Choice", "old", "LTestChoice$Program;", true)
  | 8 => ("TestChoice$Choice", "tests", "LTestChoice$Tests;", true)
  | 9 => ("TestChoice$Choice", "danger", "LTestChoice$Danger;", true)
  | _ => ("TestChoice$Choice", "run", "LTestChoice$Run;", true)
def z_T8 : Nat → FieldType := fun k => match k with
  | 0 => .int
  | 1 => .array .int
  | 2 => .array .int
  | 3 => .array .int
  | 4 => .array (.object "TestChoice$EdgeSet")
  | 5 => .object "TestChoice$EdgeSet"
  | 6 => .object "TestChoice$EdgeSet"
  | 7 => .object "TestChoice$Program"
  | 8 => .object "TestChoice$Tests"
  | 9 => .object "TestChoice$Danger"
  | _ => .object "TestChoice$Run"
def z_F9 : u_T := fun k => match k with
  | 0 => ("TestChoice$Image", "there", "Z", false)
  | 1 => ("TestChoice$Image", "wasOld", "LTestChoice$Program;", true)
  | 2 => ("TestChoice$Image", "wasNow", "LTestChoice$Program;", true)
  | _ => ("TestChoice$Image", "tests", "LTestChoice$Tests;", true)
def z_T9 : Nat → FieldType := fun k => match k with
  | 0 => .boolean
  | 1 => .object "TestChoice$Program"
  | 2 => .object "TestChoice$Program"
  | _ => .object "TestChoice$Tests"
def z_F10 : u_T := fun k => match k with
  | 0 => ("TestChoice$Sheet", "there", "Z", false)
  | 1 => ("TestChoice$Sheet", "size", "I", false)
  | 2 => ("TestChoice$Sheet", "lane", "I", false)
  | _ => ("TestChoice$Sheet", "cells", "[I", true)
def z_T10 : Nat → FieldType := fun k => match k with
  | 0 => .boolean
  | 1 => .int
  | 2 => .int
  | _ => .array .int
def z_F11 : u_T := fun k => match k with
  | 0 => ("TestChoiceModel", "st", "[I", true)
  | 1 => ("TestChoiceModel", "kept", "[I", true)
  | 2 => ("TestChoiceModel", "isKept", "[Z", true)
  | 3 => ("TestChoiceModel", "draft", "[I", true)
  | 4 => ("TestChoiceModel", "highClass", "I", false)
  | 5 => ("TestChoiceModel", "highMethod", "I", false)
  | 6 => ("TestChoiceModel", "tape", "[I", true)
  | 7 => ("TestChoiceModel", "taped", "I", false)
  | 8 => ("TestChoiceModel", "pos", "I", false)
  | 9 => ("TestChoiceModel", "begun", "I", false)
  | 10 => ("TestChoiceModel", "sort", "I", false)
  | 11 => ("TestChoiceModel", "figure", "I", false)
  | 12 => ("TestChoiceModel", "fault", "I", false)
  | 13 => ("TestChoiceModel", "wrongAt", "I", false)
  | 14 => ("TestChoiceModel", "heapMethod", "[I", true)
  | 15 => ("TestChoiceModel", "heapNode", "[I", true)
  | 16 => ("TestChoiceModel", "isCovered", "[Z", true)
  | 17 => ("TestChoiceModel", "heapHigh", "I", false)
  | 18 => ("TestChoiceModel", "runNodes", "I", false)
  | 19 => ("TestChoiceModel", "runSaid", "I", false)
  | 20 => ("TestChoiceModel", "runBits", "I", false)
  | 21 => ("TestChoiceModel", "isOver", "Z", false)
  | 22 => ("TestChoiceModel", "isDanger", "[Z", true)
  | 23 => ("TestChoiceModel", "isPair", "[Z", true)
  | 24 => ("TestChoiceModel", "isMet", "[Z", true)
  | 25 => ("TestChoiceModel", "isOrdered", "[Z", true)
  | 26 => ("TestChoiceModel", "sequence", "[I", true)
  | 27 => ("TestChoiceModel", "sequenceNew", "[I", true)
  | 28 => ("TestChoiceModel", "chosenMany", "I", false)
  | 29 => ("TestChoiceModel", "lanes", "[I", true)
  | 30 => ("TestChoiceModel", "sizes", "[I", true)
  | 31 => ("TestChoiceModel", "cells", "[I", true)
  | 32 => ("TestChoiceModel", "before", "[I", true)
  | _ => ("TestChoiceModel", "torn", "I", false)
def z_T11 : Nat → FieldType := fun k => match k with
  | 0 => .array .int
  | 1 => .array .int
  | 2 => .array .boolean
  | 3 => .array .int
  | 4 => .int
  | 5 => .int
  | 6 => .array .int
  | 7 => .int
  | 8 => .int
  | 9 => .int
  | 10 => .int
  | 11 => .int
  | 12 => .int
  | 13 => .int
  | 14 => .array .int
  | 15 => .array .int
  | 16 => .array .boolean
  | 17 => .int
  | 18 => .int
  | 19 => .int
  | 20 => .int
  | 21 => .boolean
  | 22 => .array .boolean
  | 23 => .array .boolean
  | 24 => .array .boolean
  | 25 => .array .boolean
  | 26 => .array .int
  | 27 => .array .int
  | 28 => .int
  | 29 => .array .int
  | 30 => .array .int
  | 31 => .array .int
  | 32 => .array .int
  | _ => .int
def z_cl : List vw_C := [("TestChoice", z_F0, 12), ("TestChoice$Tape", z_F1, 6), ("TestChoice$Reader", z_F2, 9), ("TestChoice$Program", z_F3, 9), ("TestChoice$Tests", z_F4, 4), ("TestChoice$Run", z_F5, 8), ("TestChoice$EdgeSet", z_F6, 1), ("TestChoice$Danger", z_F7, 6), ("TestChoice$Choice", z_F8, 11), ("TestChoice$Image", z_F9, 4), ("TestChoice$Sheet", z_F10, 4), ("TestChoiceModel", z_F11, 34)]
def z_clT : List (Nat → FieldType) := [z_T0, z_T1, z_T2, z_T3, z_T4, z_T5, z_T6, z_T7, z_T8, z_T9, z_T10, z_T11]
def z_ft (c k : Nat) : Nat := match c with
  | 1 => (349525 >>> (2 * k)) % 4
  | 2 => (1024 >>> (2 * k)) % 4
  | 3 => (5440 >>> (2 * k)) % 4
  | 4 => (87376 >>> (2 * k)) % 4
  | 5 => (84 >>> (2 * k)) % 4
  | 6 => (49296 >>> (2 * k)) % 4
  | 7 => (1 >>> (2 * k)) % 4
  | 8 => (341 >>> (2 * k)) % 4
  | 9 => (1398100 >>> (2 * k)) % 4
  | 10 => (87 >>> (2 * k)) % 4
  | 11 => (67 >>> (2 * k)) % 4
  | 12 => (24523608506622808149 >>> (2 * k)) % 4
  | _ => 0
theorem z_n0 : ∀ a, a < 12 → ∀ b, b < 12 → a ≠ b → (z_F0 a).2.1 ≠ (z_F0 b).2.1 := by decide +kernel
theorem z_t0 : ∀ k, k < 12 → parseFieldDescriptor (z_F0 k).2.2.1 = some (z_T0 k) := by decide +kernel
theorem z_il0 : ∀ w ∈ u_ws "TestChoice" z_F0 12, w ∈ lw_tbl := by decide +kernel
theorem z_n1 : ∀ a, a < 6 → ∀ b, b < 6 → a ≠ b → (z_F1 a).2.1 ≠ (z_F1 b).2.1 := by decide +kernel
theorem z_t1 : ∀ k, k < 6 → parseFieldDescriptor (z_F1 k).2.2.1 = some (z_T1 k) := by decide +kernel
theorem z_il1 : ∀ w ∈ u_ws "TestChoice$Tape" z_F1 6, w ∈ lw_tbl := by decide +kernel
theorem z_n2 : ∀ a, a < 9 → ∀ b, b < 9 → a ≠ b → (z_F2 a).2.1 ≠ (z_F2 b).2.1 := by decide +kernel
theorem z_t2 : ∀ k, k < 9 → parseFieldDescriptor (z_F2 k).2.2.1 = some (z_T2 k) := by decide +kernel
theorem z_il2 : ∀ w ∈ u_ws "TestChoice$Reader" z_F2 9, w ∈ lw_tbl := by decide +kernel
theorem z_n3 : ∀ a, a < 9 → ∀ b, b < 9 → a ≠ b → (z_F3 a).2.1 ≠ (z_F3 b).2.1 := by decide +kernel
theorem z_t3 : ∀ k, k < 9 → parseFieldDescriptor (z_F3 k).2.2.1 = some (z_T3 k) := by decide +kernel
theorem z_il3 : ∀ w ∈ u_ws "TestChoice$Program" z_F3 9, w ∈ lw_tbl := by decide +kernel
theorem z_n4 : ∀ a, a < 4 → ∀ b, b < 4 → a ≠ b → (z_F4 a).2.1 ≠ (z_F4 b).2.1 := by decide +kernel
theorem z_t4 : ∀ k, k < 4 → parseFieldDescriptor (z_F4 k).2.2.1 = some (z_T4 k) := by decide +kernel
theorem z_il4 : ∀ w ∈ u_ws "TestChoice$Tests" z_F4 4, w ∈ lw_tbl := by decide +kernel
theorem z_n5 : ∀ a, a < 8 → ∀ b, b < 8 → a ≠ b → (z_F5 a).2.1 ≠ (z_F5 b).2.1 := by decide +kernel
theorem z_t5 : ∀ k, k < 8 → parseFieldDescriptor (z_F5 k).2.2.1 = some (z_T5 k) := by decide +kernel
theorem z_il5 : ∀ w ∈ u_ws "TestChoice$Run" z_F5 8, w ∈ lw_tbl := by decide +kernel
theorem z_n6 : ∀ a, a < 1 → ∀ b, b < 1 → a ≠ b → (z_F6 a).2.1 ≠ (z_F6 b).2.1 := by decide +kernel
theorem z_t6 : ∀ k, k < 1 → parseFieldDescriptor (z_F6 k).2.2.1 = some (z_T6 k) := by decide +kernel
theorem z_il6 : ∀ w ∈ u_ws "TestChoice$EdgeSet" z_F6 1, w ∈ lw_tbl := by decide +kernel
theorem z_n7 : ∀ a, a < 6 → ∀ b, b < 6 → a ≠ b → (z_F7 a).2.1 ≠ (z_F7 b).2.1 := by decide +kernel
theorem z_t7 : ∀ k, k < 6 → parseFieldDescriptor (z_F7 k).2.2.1 = some (z_T7 k) := by decide +kernel
theorem z_il7 : ∀ w ∈ u_ws "TestChoice$Danger" z_F7 6, w ∈ lw_tbl := by decide +kernel
theorem z_n8 : ∀ a, a < 11 → ∀ b, b < 11 → a ≠ b → (z_F8 a).2.1 ≠ (z_F8 b).2.1 := by decide +kernel
theorem z_t8 : ∀ k, k < 11 → parseFieldDescriptor (z_F8 k).2.2.1 = some (z_T8 k) := by decide +kernel
theorem z_il8 : ∀ w ∈ u_ws "TestChoice$Choice" z_F8 11, w ∈ lw_tbl := by decide +kernel
theorem z_n9 : ∀ a, a < 4 → ∀ b, b < 4 → a ≠ b → (z_F9 a).2.1 ≠ (z_F9 b).2.1 := by decide +kernel
theorem z_t9 : ∀ k, k < 4 → parseFieldDescriptor (z_F9 k).2.2.1 = some (z_T9 k) := by decide +kernel
theorem z_il9 : ∀ w ∈ u_ws "TestChoice$Image" z_F9 4, w ∈ lw_tbl := by decide +kernel
theorem z_n10 : ∀ a, a < 4 → ∀ b, b < 4 → a ≠ b → (z_F10 a).2.1 ≠ (z_F10 b).2.1 := by decide +kernel
theorem z_t10 : ∀ k, k < 4 → parseFieldDescriptor (z_F10 k).2.2.1 = some (z_T10 k) := by decide +kernel
theorem z_il10 : ∀ w ∈ u_ws "TestChoice$Sheet" z_F10 4, w ∈ lw_tbl := by decide +kernel
theorem z_n11 : ∀ a, a < 34 → ∀ b, b < 34 → a ≠ b → (z_F11 a).2.1 ≠ (z_F11 b).2.1 := by decide +kernel
theorem z_t11 : ∀ k, k < 34 → parseFieldDescriptor (z_F11 k).2.2.1 = some (z_T11 k) := by decide +kernel
theorem z_il11 : ∀ w ∈ u_ws "TestChoiceModel" z_F11 34, w ∈ lw_tbl := by decide +kernel
/-! the methods: name, bytes, locals, what they answer -/
abbrev z_Mt : Type := MethodName × ByteArray × Nat × Option FieldType
def z_mts : List z_Mt := [(⟨"TestChoice", "feed", "(I)I"⟩, prog_1_method_2_code, 2, some (.int)),
  (⟨"TestChoice", "end", "(I)I"⟩, prog_1_method_3_code, 3, some (.int)),
  (⟨"TestChoice", "text", "()I"⟩, prog_1_method_4_code, 2, some (.int)),
  (⟨"TestChoice", "fault", "()I"⟩, prog_1_method_5_code, 1, some (.int)),
  (⟨"TestChoice", "rule", "(I)I"⟩, prog_1_method_6_code, 2, some (.int)),
  (⟨"TestChoice", "node", "(III)I"⟩, prog_1_method_7_code, 4, some (.int)),
  (⟨"TestChoice", "meant", "(III)I"⟩, prog_1_method_8_code, 4, some (.int)),
  (⟨"TestChoice", "test", "(II)I"⟩, prog_1_method_9_code, 3, some (.int)),
  (⟨"TestChoice", "said", "(II)I"⟩, prog_1_method_10_code, 3, some (.int)),
  (⟨"TestChoice", "edge", "(II)I"⟩, prog_1_method_11_code, 3, some (.int)),
  (⟨"TestChoice", "covers", "(II)I"⟩, prog_1_method_12_code, 3, some (.int)),
  (⟨"TestChoice", "order", "(II)I"⟩, prog_1_method_13_code, 3, some (.int)),
  (⟨"TestChoice", "same", "(I)I"⟩, prog_1_method_14_code, 4, some (.int)),
  (⟨"TestChoice", "say", "(IIII)I"⟩, prog_1_method_15_code, 7, some (.int)),
  (⟨"TestChoice", "lead", "(IIII)I"⟩, prog_1_method_16_code, 6, some (.int)),
  (⟨"TestChoice", "nexts", "(III)I"⟩, prog_1_method_17_code, 5, some (.int)),
  (⟨"TestChoice", "has", "(III)I"⟩, prog_1_method_18_code, 5, some (.int)),
  (⟨"TestChoice", "take", "()I"⟩, prog_1_method_19_code, 2, some (.int)),
  (⟨"TestChoice", "leave", "()I"⟩, prog_1_method_20_code, 2, some (.int)),
  (⟨"TestChoice", "add", "(III)I"⟩, prog_1_method_21_code, 4, some (.int)),
  (⟨"TestChoice", "drop", "(I)I"⟩, prog_1_method_22_code, 2, some (.int)),
  (⟨"TestChoice", "draw", "(II)I"⟩, prog_1_method_23_code, 6, some (.int)),
  (⟨"TestChoice", "keep", "(I)I"⟩, prog_1_method_24_code, 3, some (.int)),
  (⟨"TestChoice", "back", "(I)I"⟩, prog_1_method_25_code, 2, some (.int)),
  (⟨"TestChoice", "sheet", "(III)I"⟩, prog_1_method_26_code, 4, some (.int)),
  (⟨"TestChoice", "lay", "(III)I"⟩, prog_1_method_27_code, 4, some (.int)),
  (⟨"TestChoice", "read", "(IIII)I"⟩, prog_1_method_28_code, 8, some (.int)),
  (⟨"TestChoice", "torn", "()I"⟩, prog_1_method_29_code, 1, some (.int)),
  (⟨"TestChoice", "count", "(I)I"⟩, prog_1_method_30_code, 2, some (.int)),
  (⟨"TestChoice", "programOf", "(I)LTestChoice$Program;"⟩, prog_1_method_31_code, 2, some (.object "TestChoice$Program")),
  (⟨"TestChoice", "runTest", "(LTestChoice$Program;I)V"⟩, prog_1_method_32_code, 3, none),
  (⟨"TestChoice", "edgesInDanger", "()I"⟩, prog_1_method_33_code, 1, some (.int)),
  (⟨"TestChoice", "saysTheSame", "(II)Z"⟩, prog_1_method_34_code, 4, some (.boolean)),
  (⟨"TestChoice", "testsThatSayOther", "()I"⟩, prog_1_method_35_code, 3, some (.int)),
  (⟨"TestChoice", "imagesKept", "()I"⟩, prog_1_method_36_code, 3, some (.int)),
  (⟨"TestChoice", "firstRefused", "(LTestChoice$Sheet;II)I"⟩, prog_1_method_37_code, 6, some (.int)),
  (⟨"TestChoice", "turnAll", "(LTestChoice$Sheet;II)V"⟩, prog_1_method_38_code, 6, none),
  (⟨"TestChoice", "isName", "(I)Z"⟩, prog_1_method_39_code, 1, some (.boolean)),
  (⟨"TestChoice", "isNode", "(II)Z"⟩, prog_1_method_40_code, 2, some (.boolean)),
  (⟨"TestChoice", "isImage", "(I)Z"⟩, prog_1_method_41_code, 1, some (.boolean)),
  (⟨"TestChoice", "isSheet", "(I)Z"⟩, prog_1_method_42_code, 1, some (.boolean)),
  (⟨"TestChoice", "isLane", "(I)Z"⟩, prog_1_method_43_code, 1, some (.boolean)),
  (⟨"TestChoice", "placeOf", "(II)I"⟩, prog_1_method_44_code, 2, some (.int)),
  (⟨"TestChoice", "edgeOfNext", "(III)I"⟩, prog_1_method_45_code, 3, some (.int)),
  (⟨"TestChoice", "edgeOfCall", "(II)I"⟩, prog_1_method_46_code, 2, some (.int)),
  (⟨"TestChoice$Tape", "append", "(I)V"⟩, prog_10_method_2_code, 2, none),
  (⟨"TestChoice$Tape", "rewind", "()V"⟩, prog_10_method_3_code, 1, none),
  (⟨"TestChoice$Tape", "advance", "()V"⟩, prog_10_method_4_code, 1, none),
  (⟨"TestChoice$Tape", "isWord", "(Ljava/lang/String;)Z"⟩, prog_10_method_5_code, 3, some (.boolean)),
  (⟨"TestChoice$Tape", "takeWord", "()V"⟩, prog_10_method_6_code, 1, none),
  (⟨"TestChoice$Tape", "takeNumber", "()V"⟩, prog_10_method_7_code, 1, none),
  (⟨"TestChoice$Tape", "isLetter", "(I)Z"⟩, prog_10_method_8_code, 1, some (.boolean)),
  (⟨"TestChoice$Tape", "isFigure", "(I)Z"⟩, prog_10_method_9_code, 1, some (.boolean)),
  (⟨"TestChoice$Reader", "readAll", "()V"⟩, prog_7_method_2_code, 2, none),
  (⟨"TestChoice$Reader", "fail", "(I)V"⟩, prog_7_method_3_code, 2, none),
  (⟨"TestChoice$Reader", "advance", "()V"⟩, prog_7_method_4_code, 1, none),
  (⟨"TestChoice$Reader", "readLine", "()V"⟩, prog_7_method_5_code, 2, none),
  (⟨"TestChoice$Reader", "lineOfWord", "()I"⟩, prog_7_method_6_code, 2, some (.int)),
  (⟨"TestChoice$Reader", "wordOf", "(I)Ljava/lang/String;"⟩, prog_7_method_7_code, 1, some (.object "java/lang/String")),
  (⟨"TestChoice$Reader", "hasRoomFor", "(I)Z"⟩, prog_7_method_8_code, 2, some (.boolean)),
  (⟨"TestChoice$Reader", "readRest", "(I)V"⟩, prog_7_method_9_code, 3, none),
  (⟨"TestChoice$Reader", "leastArguments", "(I)I"⟩, prog_7_method_10_code, 1, some (.int)),
  (⟨"TestChoice$Reader", "mostArguments", "(I)I"⟩, prog_7_method_11_code, 1, some (.int)),
  (⟨"TestChoice$Reader", "isWithin", "(III)Z"⟩, prog_7_method_12_code, 4, some (.boolean)),
  (⟨"TestChoice$Reader", "tell", "(II)V"⟩, prog_7_method_13_code, 3, none),
  (⟨"TestChoice$Reader", "tellNode", "(II)V"⟩, prog_7_method_14_code, 4, none),
  (⟨"TestChoice$Reader", "tellHas", "()V"⟩, prog_7_method_15_code, 1, none),
  (⟨"TestChoice$Reader", "tellsWhatIsNotThere", "()Z"⟩, prog_7_method_16_code, 1, some (.boolean)),
  (⟨"TestChoice$Program", "clear", "()V"⟩, prog_6_method_2_code, 1, none),
  (⟨"TestChoice$Program", "becomeAs", "(LTestChoice$Program;)V"⟩, prog_6_method_3_code, 2, none),
  (⟨"TestChoice$Program", "hasMethod", "(I)Z"⟩, prog_6_method_4_code, 2, some (.boolean)),
  (⟨"TestChoice$Program", "hasNode", "(II)Z"⟩, prog_6_method_5_code, 3, some (.boolean)),
  (⟨"TestChoice$Program", "hasNext", "(III)Z"⟩, prog_6_method_6_code, 4, some (.boolean)),
  (⟨"TestChoice$Program", "hasClass", "(I)Z"⟩, prog_6_method_7_code, 2, some (.boolean)),
  (⟨"TestChoice$Program", "hasEdge", "(I)Z"⟩, prog_6_method_8_code, 3, some (.boolean)),
  (⟨"TestChoice$Program", "nextOf", "(III)I"⟩, prog_6_method_9_code, 4, some (.int)),
  (⟨"TestChoice$Program", "mayTurn", "(IIII)Z"⟩, prog_6_method_10_code, 5, some (.boolean)),
  (⟨"TestChoice$Program", "turn", "(IIII)V"⟩, prog_6_method_11_code, 5, none),
  (⟨"TestChoice$Program", "widen", "(III)V"⟩, prog_6_method_12_code, 6, none),
  (⟨"TestChoice$Program", "meantBy", "(II)I"⟩, prog_6_method_13_code, 5, some (.int)),
  (⟨"TestChoice$Program", "partOf", "(III)I"⟩, prog_6_method_14_code, 5, some (.int)),
  (⟨"TestChoice$Program", "nodesOfAll", "()I"⟩, prog_6_method_15_code, 3, some (.int)),
  (⟨"TestChoice$Program", "nodesThatCall", "()I"⟩, prog_6_method_16_code, 4, some (.int)),
  (⟨"TestChoice$Program", "nodesOtherThan", "(LTestChoice$Program;)I"⟩, prog_6_method_17_code, 5, some (.int)),
  (⟨"TestChoice$Program", "isNodeAsIn", "(LTestChoice$Program;II)Z"⟩, prog_6_method_18_code, 5, some (.boolean)),
  (⟨"TestChoice$Program", "appendMethod", "()V"⟩, prog_6_method_19_code, 1, none),
  (⟨"TestChoice$Program", "appendNode", "(II)V"⟩, prog_6_method_20_code, 5, none),
  (⟨"TestChoice$Program", "appendNext", "(I)V"⟩, prog_6_method_21_code, 5, none),
  (⟨"TestChoice$Program", "appendClass", "(I)V"⟩, prog_6_method_22_code, 2, none),
  (⟨"TestChoice$Program", "leadsOnlyToNodes", "()Z"⟩, prog_6_method_23_code, 4, some (.boolean)),
  (⟨"TestChoice$Tests", "isThere", "(I)Z"⟩, prog_11_method_2_code, 2, some (.boolean)),
  (⟨"TestChoice$Tests", "isFull", "()Z"⟩, prog_11_method_3_code, 1, some (.boolean)),
  (⟨"TestChoice$Tests", "becomeAs", "(LTestChoice$Tests;)V"⟩, prog_11_method_4_code, 2, none),
  (⟨"TestChoice$Tests", "append", "(III)V"⟩, prog_11_method_5_code, 4, none),
  (⟨"TestChoice$Tests", "remove", "(I)V"⟩, prog_11_method_6_code, 3, none),
  (⟨"TestChoice$Run", "begin", "(LTestChoice$Program;II)V"⟩, prog_8_method_2_code, 4, none),
  (⟨"TestChoice$Run", "enter", "(II)V"⟩, prog_8_method_3_code, 5, none),
  (⟨"TestChoice$Run", "visit", "(III)I"⟩, prog_8_method_4_code, 6, some (.int)),
  (⟨"TestChoice$Run", "enterMeant", "(II)V"⟩, prog_8_method_5_code, 4, none),
  (⟨"TestChoice$Run", "goOn", "(III)I"⟩, prog_8_method_6_code, 5, some (.int)),
  (⟨"TestChoice$Run", "decide", "()I"⟩, prog_8_method_7_code, 2, some (.int)),
  (⟨"TestChoice$EdgeSet", "clear", "()V"⟩, prog_4_method_2_code, 1, none),
  (⟨"TestChoice$EdgeSet", "becomeAs", "(LTestChoice$EdgeSet;)V"⟩, prog_4_method_3_code, 2, none),
  (⟨"TestChoice$EdgeSet", "put", "(I)V"⟩, prog_4_method_4_code, 2, none),
  (⟨"TestChoice$EdgeSet", "putAll", "(LTestChoice$EdgeSet;)V"⟩, prog_4_method_5_code, 3, none),
  (⟨"TestChoice$EdgeSet", "takeOut", "(LTestChoice$EdgeSet;)V"⟩, prog_4_method_6_code, 3, none),
  (⟨"TestChoice$EdgeSet", "holds", "(I)I"⟩, prog_4_method_7_code, 2, some (.int)),
  (⟨"TestChoice$EdgeSet", "size", "()I"⟩, prog_4_method_8_code, 1, some (.int)),
  (⟨"TestChoice$EdgeSet", "sizeWithin", "(LTestChoice$EdgeSet;)I"⟩, prog_4_method_9_code, 4, some (.int)),
  (⟨"TestChoice$Danger", "compare", "()V"⟩, prog_3_method_2_code, 3, none),
  (⟨"TestChoice$Danger", "compareMethod", "(I)V"⟩, prog_3_method_3_code, 3, none),
  (⟨"TestChoice$Danger", "compareNexts", "(III)V"⟩, prog_3_method_4_code, 9, none),
  (⟨"TestChoice$Danger", "pairUp", "(III)Z"⟩, prog_3_method_5_code, 5, some (.boolean)),
  (⟨"TestChoice$Danger", "areAlike", "(II)Z"⟩, prog_3_method_6_code, 3, some (.boolean)),
  (⟨"TestChoice$Choice", "choose", "()V"⟩, prog_2_method_2_code, 2, none),
  (⟨"TestChoice$Choice", "tellTest", "(II)I"⟩, prog_2_method_3_code, 3, some (.int)),
  (⟨"TestChoice$Choice", "costOfChosen", "()I"⟩, prog_2_method_4_code, 3, some (.int)),
  (⟨"TestChoice$Choice", "testsOver", "(I)I"⟩, prog_2_method_5_code, 4, some (.int)),
  (⟨"TestChoice$Choice", "edgesOver", "()I"⟩, prog_2_method_6_code, 2, some (.int)),
  (⟨"TestChoice$Choice", "rankAll", "()V"⟩, prog_2_method_7_code, 3, none),
  (⟨"TestChoice$Choice", "nextOne", "()I"⟩, prog_2_method_8_code, 5, some (.int)),
  (⟨"TestChoice$Choice", "rank", "(I)V"⟩, prog_2_method_9_code, 2, none),
  (⟨"TestChoice$Sheet", "renew", "(II)V"⟩, prog_9_method_2_code, 3, none),
  (⟨"TestChoice$Sheet", "put", "(II)V"⟩, prog_9_method_3_code, 3, none),
  (⟨"TestChoice$Sheet", "cellAt", "(I)I"⟩, prog_9_method_4_code, 2, some (.int)),
  (⟨"TestChoice$Sheet", "faultAs", "(I)I"⟩, prog_9_method_5_code, 2, some (.int)),
  (⟨"TestChoice$Sheet", "wholeFrom", "(II)I"⟩, prog_9_method_6_code, 3, some (.int)),
  (⟨"TestChoiceModel", "in", "(JJJ)Z"⟩, prog_13_method_3_code, 6, some (.boolean)),
  (⟨"TestChoiceModel", "flag", "(Z)I"⟩, prog_13_method_4_code, 1, some (.int)),
  (⟨"TestChoiceModel", "nodeAt", "(III)I"⟩, prog_13_method_5_code, 3, some (.int)),
  (⟨"TestChoiceModel", "hasAt", "(III)I"⟩, prog_13_method_6_code, 3, some (.int)),
  (⟨"TestChoiceModel", "firstDraft", "()V"⟩, prog_13_method_7_code, 4, none),
  (⟨"TestChoiceModel", "keepDraft", "()V"⟩, prog_13_method_8_code, 2, none),
  (⟨"TestChoiceModel", "feed", "(I)I"⟩, prog_13_method_9_code, 2, some (.int)),
  (⟨"TestChoiceModel", "end", "(I)I"⟩, prog_13_method_10_code, 3, some (.int)),
  (⟨"TestChoiceModel", "requires", "(ZI)V"⟩, prog_13_method_11_code, 3, none),
  (⟨"TestChoiceModel", "byteAt", "(I)I"⟩, prog_13_method_12_code, 2, some (.int)),
  (⟨"TestChoiceModel", "is", "(IIIII)Z"⟩, prog_13_method_13_code, 6, some (.boolean)),
  (⟨"TestChoiceModel", "lineNow", "()I"⟩, prog_13_method_14_code, 1, some (.int)),
  (⟨"TestChoiceModel", "reads", "()V"⟩, prog_13_method_15_code, 2, none),
  (⟨"TestChoiceModel", "readNumber", "(III)I"⟩, prog_13_method_16_code, 5, some (.int)),
  (⟨"TestChoiceModel", "methodNow", "()I"⟩, prog_13_method_17_code, 1, some (.int)),
  (⟨"TestChoiceModel", "readNode", "(I)V"⟩, prog_13_method_18_code, 5, none),
  (⟨"TestChoiceModel", "readClass", "()I"⟩, prog_13_method_19_code, 2, some (.int)),
  (⟨"TestChoiceModel", "readHas", "()V"⟩, prog_13_method_20_code, 4, none),
  (⟨"TestChoiceModel", "readTest", "()V"⟩, prog_13_method_21_code, 2, none),
  (⟨"TestChoiceModel", "hasRoom", "(I)Z"⟩, prog_13_method_22_code, 2, some (.boolean)),
  (⟨"TestChoiceModel", "readLineOf", "(I)V"⟩, prog_13_method_23_code, 2, none),
  (⟨"TestChoiceModel", "readLine", "()V"⟩, prog_13_method_24_code, 2, none),
  (⟨"TestChoiceModel", "isWhole", "()Z"⟩, prog_13_method_25_code, 6, some (.boolean)),
  (⟨"TestChoiceModel", "text", "()I"⟩, prog_13_method_26_code, 3, some (.int)),
  (⟨"TestChoiceModel", "fault", "()I"⟩, prog_13_method_27_code, 1, some (.int)),
  (⟨"TestChoiceModel", "isMethod", "(I)Z"⟩, prog_13_method_28_code, 2, some (.boolean)),
  (⟨"TestChoiceModel", "isNode", "(II)Z"⟩, prog_13_method_29_code, 3, some (.boolean)),
  (⟨"TestChoiceModel", "isClass", "(I)Z"⟩, prog_13_method_30_code, 2, some (.boolean)),
  (⟨"TestChoiceModel", "isName", "(I)Z"⟩, prog_13_method_31_code, 1, some (.boolean)),
  (⟨"TestChoiceModel", "isTest", "(I)Z"⟩, prog_13_method_32_code, 2, some (.boolean)),
  (⟨"TestChoiceModel", "isPart", "(I)Z"⟩, prog_13_method_33_code, 1, some (.boolean)),
  (⟨"TestChoiceModel", "ofNode", "(IIII)I"⟩, prog_13_method_34_code, 5, some (.int)),
  (⟨"TestChoiceModel", "meantBy", "(III)I"⟩, prog_13_method_35_code, 5, some (.int)),
  (⟨"TestChoiceModel", "says", "(I)V"⟩, prog_13_method_36_code, 2, none),
  (⟨"TestChoiceModel", "goesTo", "(II)V"⟩, prog_13_method_37_code, 4, none),
  (⟨"TestChoiceModel", "comesBack", "()V"⟩, prog_13_method_38_code, 1, none),
  (⟨"TestChoiceModel", "enters", "(II)Z"⟩, prog_13_method_39_code, 3, some (.boolean)),
  (⟨"TestChoiceModel", "goesOn", "(II)V"⟩, prog_13_method_40_code, 9, none),
  (⟨"TestChoiceModel", "callsIn", "(II)Z"⟩, prog_13_method_41_code, 7, some (.boolean)),
  (⟨"TestChoiceModel", "runs", "(III)V"⟩, prog_13_method_42_code, 5, none),
  (⟨"TestChoiceModel", "ofTest", "(II)I"⟩, prog_13_method_43_code, 3, some (.int)),
  (⟨"TestChoiceModel", "runsTest", "(II)V"⟩, prog_13_method_44_code, 3, none),
  (⟨"TestChoiceModel", "areAlike", "(III)Z"⟩, prog_13_method_45_code, 6, some (.boolean)),
  (⟨"TestChoiceModel", "pairsOn", "(III)Z"⟩, prog_13_method_46_code, 9, some (.boolean)),
  (⟨"TestChoiceModel", "findPairs", "(I)V"⟩, prog_13_method_47_code, 4, none),
  (⟨"TestChoiceModel", "findDanger", "()V"⟩, prog_13_method_48_code, 3, none),
  (⟨"TestChoiceModel", "dangers", "()I"⟩, prog_13_method_49_code, 3, some (.int)),
  (⟨"TestChoiceModel", "dangersOf", "(IZ)I"⟩, prog_13_method_50_code, 5, some (.int)),
  (⟨"TestChoiceModel", "findOrder", "()V"⟩, prog_13_method_51_code, 6, none),
  (⟨"TestChoiceModel", "comesNext", "(II)V"⟩, prog_13_method_52_code, 4, none),
  (⟨"TestChoiceModel", "rankOf", "(I)I"⟩, prog_13_method_53_code, 3, some (.int)),
  (⟨"TestChoiceModel", "nodesOfAll", "()I"⟩, prog_13_method_54_code, 3, some (.int)),
  (⟨"TestChoiceModel", "costsChosen", "()I"⟩, prog_13_method_55_code, 3, some (.int)),
  (⟨"TestChoiceModel", "chosen", "()I"⟩, prog_13_method_56_code, 1, some (.int)),
  (⟨"TestChoiceModel", "areSame", "(II)Z"⟩, prog_13_method_57_code, 4, some (.boolean)),
  (⟨"TestChoiceModel", "others", "()I"⟩, prog_13_method_58_code, 3, some (.int)),
  (⟨"TestChoiceModel", "rule", "(I)I"⟩, prog_13_method_59_code, 2, some (.int)),
  (⟨"TestChoiceModel", "node", "(III)I"⟩, prog_13_method_60_code, 6, some (.int)),
  (⟨"TestChoiceModel", "meant", "(III)I"⟩, prog_13_method_61_code, 4, some (.int)),
  (⟨"TestChoiceModel", "coveredMany", "()I"⟩, prog_13_method_62_code, 3, some (.int)),
  (⟨"TestChoiceModel", "nodesRun", "(II)I"⟩, prog_13_method_63_code, 3, some (.int)),
  (⟨"TestChoiceModel", "coveredBy", "(I)I"⟩, prog_13_method_64_code, 2, some (.int)),
  (⟨"TestChoiceModel", "dangersBy", "(I)I"⟩, prog_13_method_65_code, 2, some (.int)),
  (⟨"TestChoiceModel", "test", "(II)I"⟩, prog_13_method_66_code, 3, some (.int)),
  (⟨"TestChoiceModel", "said", "(II)I"⟩, prog_13_method_67_code, 3, some (.int)),
  (⟨"TestChoiceModel", "isEdge", "(I)Z"⟩, prog_13_method_68_code, 4, some (.boolean)),
  (⟨"TestChoiceModel", "testsOver", "(I)I"⟩, prog_13_method_69_code, 4, some (.int)),
  (⟨"TestChoiceModel", "edge", "(II)I"⟩, prog_13_method_70_code, 3, some (.int)),
  (⟨"TestChoiceModel", "covers", "(II)I"⟩, prog_13_method_71_code, 3, some (.int)),
  (⟨"TestChoiceModel", "order", "(II)I"⟩, prog_13_method_72_code, 3, some (.int)),
  (⟨"TestChoiceModel", "same", "(I)I"⟩, prog_13_method_73_code, 4, some (.int)),
  (⟨"TestChoiceModel", "say", "(IIII)I"⟩, prog_13_method_74_code, 7, some (.int)),
  (⟨"TestChoiceModel", "lead", "(IIII)I"⟩, prog_13_method_75_code, 7, some (.int)),
  (⟨"TestChoiceModel", "nexts", "(III)I"⟩, prog_13_method_76_code, 7, some (.int)),
  (⟨"TestChoiceModel", "has", "(III)I"⟩, prog_13_method_77_code, 6, some (.int)),
  (⟨"TestChoiceModel", "becomes", "(II)I"⟩, prog_13_method_78_code, 5, some (.int)),
  (⟨"TestChoiceModel", "take", "()I"⟩, prog_13_method_79_code, 1, some (.int)),
  (⟨"TestChoiceModel", "leave", "()I"⟩, prog_13_method_80_code, 1, some (.int)),
  (⟨"TestChoiceModel", "comes", "(III)V"⟩, prog_13_method_81_code, 5, none),
  (⟨"TestChoiceModel", "add", "(III)I"⟩, prog_13_method_82_code, 4, some (.int)),
  (⟨"TestChoiceModel", "drop", "(I)I"⟩, prog_13_method_83_code, 3, some (.int)),
  (⟨"TestChoiceModel", "draw", "(II)I"⟩, prog_13_method_84_code, 6, some (.int)),
  (⟨"TestChoiceModel", "keep", "(I)I"⟩, prog_13_method_85_code, 4, some (.int)),
  (⟨"TestChoiceModel", "back", "(I)I"⟩, prog_13_method_86_code, 3, some (.int)),
  (⟨"TestChoiceModel", "isSheet", "(II)Z"⟩, prog_13_method_87_code, 2, some (.boolean)),
  (⟨"TestChoiceModel", "sheet", "(III)I"⟩, prog_13_method_88_code, 5, some (.int)),
  (⟨"TestChoiceModel", "lay", "(III)I"⟩, prog_13_method_89_code, 4, some (.int)),
  (⟨"TestChoiceModel", "read", "(IIII)I"⟩, prog_13_method_90_code, 11, some (.int)),
  (⟨"TestChoiceModel", "torn", "()I"⟩, prog_13_method_91_code, 1, some (.int)),
  (⟨"TestChoiceModel", "callsOld", "()I"⟩, prog_13_method_92_code, 4, some (.int)),
  (⟨"TestChoiceModel", "isOther", "(II)Z"⟩, prog_13_method_93_code, 5, some (.boolean)),
  (⟨"TestChoiceModel", "nodesOther", "()I"⟩, prog_13_method_94_code, 4, some (.int)),
  (⟨"TestChoiceModel", "edgesOver", "()I"⟩, prog_13_method_95_code, 3, some (.int)),
  (⟨"TestChoiceModel", "count", "(I)I"⟩, prog_13_method_96_code, 2, some (.int))]
def z_mtp : List z_Mt := [(⟨"java/util/Arrays", "fill", "([II)V"⟩, prog_20_method_103_code, 4, none),
  (⟨"java/util/Arrays", "fill", "([JJ)V"⟩, prog_20_method_101_code, 5, none),
  (⟨"java/lang/Math", "max", "(II)I"⟩, prog_15_method_65_code, 2, some (.int)),
  (⟨"java/lang/Math", "min", "(II)I"⟩, prog_15_method_69_code, 2, some (.int)),
  (⟨"java/lang/Long", "bitCount", "(J)I"⟩, prog_14_method_50_code, 2, some (.int)),
  (⟨"java/lang/String", "length", "()I"⟩, prog_16_method_54_code, 1, some (.int)),
  (⟨"java/lang/String", "charAt", "(I)C"⟩, prog_16_method_56_code, 2, some (.char))]
def z_mt0 : z_Mt := (⟨"", "", ""⟩, ⟨#[]⟩, 0, none)
def z_mt (id : Nat) : z_Mt := bif Nat.blt id 900 then z_mts.getD id z_mt0 else z_mtp.getD (id - 902) z_mt0
def z_good : List Cond := lw_tbl.filter goodWord
def z_ws (id : Nat) : List Cond := Cond.code (z_mt id).1 (z_mt id).2.1 (z_mt id).2.2.1 (z_mt id).2.2.2 :: z_good
