def RX0 : String := "Lendlathe$Bar"
def TX0 : u_T := fun k => match k with
  | 0 => ("Lendlathe$Bar", "material", "I", true)
  | 1 => ("Lendlathe$Bar", "length", "I", true)
  | _ => ("Lendlathe$Bar", "free", "I", false)
def tyX0 : Nat → FieldType := fun k => match k with
  | 0 => .int
  | 1 => .int
  | _ => .int
theorem nmX0 : ∀ a, a < 3 → ∀ b, b < 3 → a ≠ b → (TX0 a).2.1 ≠ (TX0 b).2.1 := by decide +kernel
theorem tyX0_ok : ∀ k, k < 3 → parseFieldDescriptor (TX0 k).2.2.1 = some (tyX0 k) := by decide +kernel
def RX1 : String := "Lendlathe$Breakage"
def TX1 : u_T := fun k => match k with
  | _ => ("Lendlathe$Breakage", "shares", "[I", true)
def tyX1 : Nat → FieldType := fun k => match k with
  | _ => .array .int
theorem nmX1 : ∀ a, a < 1 → ∀ b, b < 1 → a ≠ b → (TX1 a).2.1 ≠ (TX1 b).2.1 := by decide +kernel
theorem tyX1_ok : ∀ k, k < 1 → parseFieldDescriptor (TX1 k).2.2.1 = some (tyX1 k) := by decide +kernel
def RX2 : String := "Lendlathe$Cut"
def TX2 : u_T := fun k => match k with
  | 0 => ("Lendlathe$Cut", "bar", "LLendlathe$Bar;", true)
  | _ => ("Lendlathe$Cut", "length", "I", true)
def tyX2 : Nat → FieldType := fun k => match k with
  | 0 => .object "Lendlathe$Bar"
  | _ => .int
theorem nmX2 : ∀ a, a < 2 → ∀ b, b < 2 → a ≠ b → (TX2 a).2.1 ≠ (TX2 b).2.1 := by decide +kernel
theorem tyX2_ok : ∀ k, k < 2 → parseFieldDescriptor (TX2 k).2.2.1 = some (tyX2 k) := by decide +kernel
def RX3 : String := "Lendlathe$Entry"
def TX3 : u_T := fun k => match k with
  | 0 => ("Lendlathe$Entry", "member", "LLendlathe$Member;", true)
  | 1 => ("Lendlathe$Entry", "machine", "LLendlathe$Machine;", true)
  | 2 => ("Lendlathe$Entry", "day", "I", true)
  | 3 => ("Lendlathe$Entry", "start", "I", true)
  | 4 => ("Lendlathe$Entry", "minutes", "I", true)
  | 5 => ("Lendlathe$Entry", "end", "I", true)
  | 6 => ("Lendlathe$Entry", "work", "C", true)
  | 7 => ("Lendlathe$Entry", "cuts", "Ljava/util/ArrayList;", true)
  | 8 => ("Lendlathe$Entry", "state", "C", false)
  | _ => ("Lendlathe$Entry", "due", "I", false)
def tyX3 : Nat → FieldType := fun k => match k with
  | 0 => .object "Lendlathe$Member"
  | 1 => .object "Lendlathe$Machine"
  | 2 => .int
  | 3 => .int
  | 4 => .int
  | 5 => .int
  | 6 => .char
  | 7 => .object "java/util/ArrayList"
  | 8 => .char
  | _ => .int
theorem nmX3 : ∀ a, a < 10 → ∀ b, b < 10 → a ≠ b → (TX3 a).2.1 ≠ (TX3 b).2.1 := by decide +kernel
theorem tyX3_ok : ∀ k, k < 10 → parseFieldDescriptor (TX3 k).2.2.1 = some (tyX3 k) := by decide +kernel
def RX4 : String := "Lendlathe$Kind"
def TX4 : u_T := fun k => match k with
  | 0 => ("Lendlathe$Kind", "bit", "I", true)
  | 1 => ("Lendlathe$Kind", "number", "I", true)
  | 2 => ("Lendlathe$Kind", "neededBits", "I", false)
  | _ => ("Lendlathe$Kind", "tariff", "LLendlathe$Layer;", false)
def tyX4 : Nat → FieldType := fun k => match k with
  | 0 => .int
  | 1 => .int
  | 2 => .int
  | _ => .object "Lendlathe$Layer"
theorem nmX4 : ∀ a, a < 4 → ∀ b, b < 4 → a ≠ b → (TX4 a).2.1 ≠ (TX4 b).2.1 := by decide +kernel
theorem tyX4_ok : ∀ k, k < 4 → parseFieldDescriptor (TX4 k).2.2.1 = some (tyX4 k) := by decide +kernel
def RX5 : String := "Lendlathe$Layer"
def TX5 : u_T := fun k => match k with
  | 0 => ("Lendlathe$Layer", "sort", "I", true)
  | 1 => ("Lendlathe$Layer", "amount", "I", true)
  | 2 => ("Lendlathe$Layer", "below", "LLendlathe$Layer;", true)
  | _ => ("Lendlathe$Layer", "height", "I", true)
def tyX5 : Nat → FieldType := fun k => match k with
  | 0 => .int
  | 1 => .int
  | 2 => .object "Lendlathe$Layer"
  | _ => .int
theorem nmX5 : ∀ a, a < 4 → ∀ b, b < 4 → a ≠ b → (TX5 a).2.1 ≠ (TX5 b).2.1 := by decide +kernel
theorem tyX5_ok : ∀ k, k < 4 → parseFieldDescriptor (TX5 k).2.2.1 = some (tyX5 k) := by decide +kernel
def RX6 : String := "Lendlathe$Machine"
def TX6 : u_T := fun k => match k with
  | 0 => ("Lendlathe$Machine", "kind", "LLendlathe$Kind;", true)
  | 1 => ("Lendlathe$Machine", "setup", "I", true)
  | _ => ("Lendlathe$Machine", "held", "Ljava/util/ArrayList;", true)
def tyX6 : Nat → FieldType := fun k => match k with
  | 0 => .object "Lendlathe$Kind"
  | 1 => .int
  | _ => .object "java/util/ArrayList"
theorem nmX6 : ∀ a, a < 3 → ∀ b, b < 3 → a ≠ b → (TX6 a).2.1 ≠ (TX6 b).2.1 := by decide +kernel
theorem tyX6_ok : ∀ k, k < 3 → parseFieldDescriptor (TX6 k).2.2.1 = some (tyX6 k) := by decide +kernel
def RX7 : String := "Lendlathe$Member"
def TX7 : u_T := fun k => match k with
  | 0 => ("Lendlathe$Member", "lastDays", "[I", true)
  | 1 => ("Lendlathe$Member", "owed", "I", false)
  | _ => ("Lendlathe$Member", "paid", "I", false)
def tyX7 : Nat → FieldType := fun k => match k with
  | 0 => .array .int
  | 1 => .int
  | _ => .int
theorem nmX7 : ∀ a, a < 3 → ∀ b, b < 3 → a ≠ b → (TX7 a).2.1 ≠ (TX7 b).2.1 := by decide +kernel
theorem tyX7_ok : ∀ k, k < 3 → parseFieldDescriptor (TX7 k).2.2.1 = some (tyX7 k) := by decide +kernel
def RX8 : String := "Lendlathe"
def TX8 : u_T := fun k => match k with
  | 0 => ("Lendlathe", "kinds", "Ljava/util/ArrayList;", true)
  | 1 => ("Lendlathe", "machines", "Ljava/util/ArrayList;", true)
  | 2 => ("Lendlathe", "members", "Ljava/util/ArrayList;", true)
  | 3 => ("Lendlathe", "allEntries", "Ljava/util/ArrayList;", true)
  | 4 => ("Lendlathe", "bars", "Ljava/util/ArrayList;", true)
  | 5 => ("Lendlathe", "breakages", "Ljava/util/ArrayList;", true)
  | 6 => ("Lendlathe", "prices", "[I", true)
  | _ => ("Lendlathe", "today", "I", false)
def tyX8 : Nat → FieldType := fun k => match k with
  | 0 => .object "java/util/ArrayList"
  | 1 => .object "java/util/ArrayList"
  | 2 => .object "java/util/ArrayList"
  | 3 => .object "java/util/ArrayList"
  | 4 => .object "java/util/ArrayList"
  | 5 => .object "java/util/ArrayList"
  | 6 => .array .int
  | _ => .int
theorem nmX8 : ∀ a, a < 8 → ∀ b, b < 8 → a ≠ b → (TX8 a).2.1 ≠ (TX8 b).2.1 := by decide +kernel
theorem tyX8_ok : ∀ k, k < 8 → parseFieldDescriptor (TX8 k).2.2.1 = some (tyX8 k) := by decide +kernel
def RX9 : String := "LendlatheModel"
def TX9 : u_T := fun k => match k with
  | 0 => ("LendlatheModel", "machineKinds", "[I", true)
  | 1 => ("LendlatheModel", "setups", "[I", true)
  | 2 => ("LendlatheModel", "machines", "I", false)
  | 3 => ("LendlatheModel", "members", "I", false)
  | 4 => ("LendlatheModel", "taken", "[[I", true)
  | 5 => ("LendlatheModel", "paid", "[J", true)
  | 6 => ("LendlatheModel", "needs", "[[Z", true)
  | 7 => ("LendlatheModel", "day", "I", false)
  | 8 => ("LendlatheModel", "owner", "[I", true)
  | 9 => ("LendlatheModel", "machineOf", "[I", true)
  | 10 => ("LendlatheModel", "dayOf", "[I", true)
  | 11 => ("LendlatheModel", "starts", "[I", true)
  | 12 => ("LendlatheModel", "lengths", "[I", true)
  | 13 => ("LendlatheModel", "works", "[C", true)
  | 14 => ("LendlatheModel", "states", "[C", true)
  | 15 => ("LendlatheModel", "dues", "[I", true)
  | 16 => ("LendlatheModel", "cutMany", "[I", true)
  | 17 => ("LendlatheModel", "cutBars", "[[I", true)
  | 18 => ("LendlatheModel", "cutLengths", "[[I", true)
  | 19 => ("LendlatheModel", "entries", "I", false)
  | 20 => ("LendlatheModel", "materials", "[I", true)
  | 21 => ("LendlatheModel", "barLengths", "[I", true)
  | 22 => ("LendlatheModel", "bars", "I", false)
  | 23 => ("LendlatheModel", "prices", "[I", true)
  | 24 => ("LendlatheModel", "layerSorts", "[[C", true)
  | 25 => ("LendlatheModel", "layerNumbers", "[[I", true)
  | 26 => ("LendlatheModel", "layerMany", "[I", true)
  | 27 => ("LendlatheModel", "shares", "[[I", true)
  | 28 => ("LendlatheModel", "breakages", "I", false)
  | _ => ("LendlatheModel", "thrown", "I", false)
def tyX9 : Nat → FieldType := fun k => match k with
  | 0 => .array .int
  | 1 => .array .int
  | 2 => .int
  | 3 => .int
  | 4 => .array (.array .int)
  | 5 => .array .long
  | 6 => .array (.array .boolean)
  | 7 => .int
  | 8 => .array .int
  | 9 => .array .int
  | 10 => .array .int
  | 11 => .array .int
  | 12 => .array .int
  | 13 => .array .char
  | 14 => .array .char
  | 15 => .array .int
  | 16 => .array .int
  | 17 => .array (.array .int)
  | 18 => .array (.array .int)
  | 19 => .int
  | 20 => .array .int
  | 21 => .array .int
  | 22 => .int
  | 23 => .array .int
  | 24 => .array (.array .char)
  | 25 => .array (.array .int)
  | 26 => .array .int
  | 27 => .array (.array .int)
  | 28 => .int
  | _ => .int
theorem nmX9 : ∀ a, a < 30 → ∀ b, b < 30 → a ≠ b → (TX9 a).2.1 ≠ (TX9 b).2.1 := by decide +kernel
theorem tyX9_ok : ∀ k, k < 30 → parseFieldDescriptor (TX9 k).2.2.1 = some (tyX9 k) := by decide +kernel
def RJx4a65c : String := "java/util/ArrayList"
def TJx4a65c : u_T := fun k => match k with
  | 0 => ("java/util/AbstractList", "modCount", "I", false)
  | 1 => ("java/util/ArrayList", "elementData", "[Ljava/lang/Object;", false)
  | _ => ("java/util/ArrayList", "size", "I", false)
def tyJx4a65c : Nat → FieldType := fun k => match k with
  | 0 => .int
  | 1 => .array (.object "java/lang/Object")
  | _ => .int
theorem nmJx4a65c : ∀ a, a < 3 → ∀ b, b < 3 → a ≠ b → (TJx4a65c a).2.1 ≠ (TJx4a65c b).2.1 := by decide +kernel
theorem tyJx4a65c_ok : ∀ k, k < 3 → parseFieldDescriptor (TJx4a65c k).2.2.1 = some (tyJx4a65c k) := by decide +kernel
/-! the own methods (class, reference, law), numbered; where the words of each lie among lw_tbl. Written by wip/whole/gen/gen03.py out of the printed names -/
abbrev MRow : Type := MethodName × ByteArray × Nat × Option FieldType × List (Nat × Nat × Nat × Nat)
def mtab_0 : List MRow := [(⟨"Lendlathe$Bar", "<init>", "(II)V"⟩, prog_2_method_1_code, 3, none, []),
  (⟨"Lendlathe$Breakage", "<init>", "([I)V"⟩, prog_3_method_1_code, 2, none, []),
  (⟨"Lendlathe$Breakage", "share", "(I)I"⟩, prog_3_method_2_code, 2, (some FieldType.int), []),
  (⟨"Lendlathe$Cut", "<init>", "(LLendlathe$Bar;I)V"⟩, prog_4_method_1_code, 3, none, []),
  (⟨"Lendlathe$Entry", "<init>", "(LLendlathe$Member;LLendlathe$Machine;IIIC)V"⟩, prog_5_method_1_code, 7, none, []),
  (⟨"Lendlathe$Entry", "isOpen", "()Z"⟩, prog_5_method_2_code, 1, (some FieldType.boolean), []),
  (⟨"Lendlathe$Entry", "overlaps", "(III)Z"⟩, prog_5_method_3_code, 4, (some FieldType.boolean), []),
  (⟨"Lendlathe$Kind", "<init>", "(I)V"⟩, prog_6_method_1_code, 2, none, []),
  (⟨"Lendlathe$Kind", "needs", "(LLendlathe$Kind;)Z"⟩, prog_6_method_2_code, 2, (some FieldType.boolean), []),
  (⟨"Lendlathe$Kind", "addNeeded", "(LLendlathe$Kind;)V"⟩, prog_6_method_3_code, 2, none, []),
  (⟨"Lendlathe$Layer", "<init>", "(IILLendlathe$Layer;)V"⟩, prog_7_method_1_code, 4, none, []),
  (⟨"Lendlathe$Machine", "<init>", "(LLendlathe$Kind;I)V"⟩, prog_8_method_1_code, 3, none, []),
  (⟨"Lendlathe$Machine", "setupBetween", "(CC)I"⟩, prog_8_method_2_code, 3, (some FieldType.int), []),
  (⟨"Lendlathe$Machine", "placeOf", "(II)I"⟩, prog_8_method_3_code, 4, (some FieldType.int), []),
  (⟨"Lendlathe$Machine", "isBefore", "(LLendlathe$Entry;II)Z"⟩, prog_8_method_4_code, 3, (some FieldType.boolean), []),
  (⟨"Lendlathe$Machine", "hold", "(LLendlathe$Entry;)V"⟩, prog_8_method_5_code, 2, none, []),
  (⟨"Lendlathe$Machine", "release", "(LLendlathe$Entry;)V"⟩, prog_8_method_6_code, 3, none, []),
  (⟨"Lendlathe$Member", "<init>", "()V"⟩, prog_9_method_1_code, 2, none, []),
  (⟨"Lendlathe$Member", "lastTaken", "(LLendlathe$Kind;)I"⟩, prog_9_method_2_code, 3, (some FieldType.int), []),
  (⟨"Lendlathe$Member", "take", "(LLendlathe$Kind;I)V"⟩, prog_9_method_3_code, 4, none, []),
  (⟨"Lendlathe", "<init>", "()V"⟩, prog_1_method_1_code, 2, none, []),
  (⟨"Lendlathe", "addMachine", "(II)I"⟩, prog_1_method_2_code, 4, (some FieldType.int), []),
  (⟨"Lendlathe", "addMember", "()I"⟩, prog_1_method_3_code, 1, (some FieldType.int), []),
  (⟨"Lendlathe", "day", "()I"⟩, prog_1_method_4_code, 1, (some FieldType.int), [])]
def mtab_1 : List MRow := [(⟨"Lendlathe", "addNeed", "(II)Z"⟩, prog_1_method_5_code, 6, (some FieldType.boolean), []),
  (⟨"Lendlathe", "induct", "(II)I"⟩, prog_1_method_6_code, 6, (some FieldType.int), []),
  (⟨"Lendlathe", "isLive", "(III)Z"⟩, prog_1_method_7_code, 6, (some FieldType.boolean), []),
  (⟨"Lendlathe", "book", "(IIIIIC)I"⟩, prog_1_method_8_code, 11, (some FieldType.int), []),
  (⟨"Lendlathe", "await", "(IIIIIC)I"⟩, prog_1_method_9_code, 10, (some FieldType.int), []),
  (⟨"Lendlathe", "check", "(IIIIIC)C"⟩, prog_1_method_10_code, 9, (some FieldType.char), []),
  (⟨"Lendlathe", "cancel", "(I)C"⟩, prog_1_method_11_code, 4, (some FieldType.char), []),
  (⟨"Lendlathe", "stateOf", "(I)C"⟩, prog_1_method_12_code, 2, (some FieldType.char), []),
  (⟨"Lendlathe", "entries", "()I"⟩, prog_1_method_13_code, 1, (some FieldType.int), []),
  (⟨"Lendlathe", "endDay", "()I"⟩, prog_1_method_14_code, 4, (some FieldType.int), []),
  (⟨"Lendlathe", "minuteAt", "(III)C"⟩, prog_1_method_15_code, 5, (some FieldType.char), []),
  (⟨"Lendlathe", "usedMinutes", "(II)I"⟩, prog_1_method_16_code, 4, (some FieldType.int), []),
  (⟨"Lendlathe", "usedByMinutes", "(II)I"⟩, prog_1_method_17_code, 4, (some FieldType.int), []),
  (⟨"Lendlathe", "setupMinutes", "(II)I"⟩, prog_1_method_18_code, 8, (some FieldType.int), []),
  (⟨"Lendlathe", "firstStart", "(IIIC)I"⟩, prog_1_method_19_code, 7, (some FieldType.int), []),
  (⟨"Lendlathe", "firstByMinutes", "(IIIC)I"⟩, prog_1_method_20_code, 8, (some FieldType.int), []),
  (⟨"Lendlathe", "waiting", "(II)I"⟩, prog_1_method_21_code, 7, (some FieldType.int), []),
  (⟨"Lendlathe", "deliver", "(II)I"⟩, prog_1_method_22_code, 3, (some FieldType.int), []),
  (⟨"Lendlathe", "cut", "(III)I"⟩, prog_1_method_23_code, 7, (some FieldType.int), []),
  (⟨"Lendlathe", "freeOf", "(I)I"⟩, prog_1_method_24_code, 2, (some FieldType.int), []),
  (⟨"Lendlathe", "freeByCuts", "(I)I"⟩, prog_1_method_25_code, 2, (some FieldType.int), []),
  (⟨"Lendlathe", "setPrice", "(II)I"⟩, prog_1_method_26_code, 4, (some FieldType.int), []),
  (⟨"Lendlathe", "setRate", "(II)I"⟩, prog_1_method_27_code, 5, (some FieldType.int), []),
  (⟨"Lendlathe", "addFee", "(II)I"⟩, prog_1_method_28_code, 4, (some FieldType.int), [])]
def mtab_2 : List MRow := [(⟨"Lendlathe", "addCap", "(II)I"⟩, prog_1_method_29_code, 4, (some FieldType.int), []),
  (⟨"Lendlathe", "addDouble", "(II)I"⟩, prog_1_method_30_code, 4, (some FieldType.int), []),
  (⟨"Lendlathe", "addDiscount", "(II)I"⟩, prog_1_method_31_code, 4, (some FieldType.int), []),
  (⟨"Lendlathe", "costOf", "(II)I"⟩, prog_1_method_32_code, 4, (some FieldType.int), []),
  (⟨"Lendlathe", "breakDown", "(II)I"⟩, prog_1_method_33_code, 8, (some FieldType.int), []),
  (⟨"Lendlathe", "shareOf", "(II)I"⟩, prog_1_method_34_code, 3, (some FieldType.int), []),
  (⟨"Lendlathe", "pay", "(II)I"⟩, prog_1_method_35_code, 4, (some FieldType.int), []),
  (⟨"Lendlathe", "owes", "(I)I"⟩, prog_1_method_36_code, 3, (some FieldType.int), []),
  (⟨"Lendlathe", "owesByEntries", "(I)I"⟩, prog_1_method_37_code, 2, (some FieldType.int), []),
  (⟨"Lendlathe", "dueOf", "(I)I"⟩, prog_1_method_38_code, 2, (some FieldType.int), []),
  (⟨"Lendlathe", "takings", "()J"⟩, prog_1_method_39_code, 4, (some FieldType.long), []),
  (⟨"Lendlathe", "use", "(II)F"⟩, prog_1_method_40_code, 4, (some FieldType.float), []),
  (⟨"Lendlathe", "meanMinutes", "()D"⟩, prog_1_method_41_code, 5, (some FieldType.double), []),
  (⟨"Lendlathe", "isSound", "()Z"⟩, prog_1_method_42_code, 1, (some FieldType.boolean), []),
  (⟨"Lendlathe", "requireRange", "(III)V"⟩, prog_1_method_43_code, 3, none, []),
  (⟨"Lendlathe", "requireRoom", "(II)V"⟩, prog_1_method_44_code, 2, none, []),
  (⟨"Lendlathe", "requireWish", "(IIC)V"⟩, prog_1_method_45_code, 4, none, []),
  (⟨"Lendlathe", "requireTime", "(IIIC)V"⟩, prog_1_method_46_code, 5, none, []),
  (⟨"Lendlathe", "requireMember", "(I)V"⟩, prog_1_method_47_code, 2, none, []),
  (⟨"Lendlathe", "memberAt", "(I)LLendlathe$Member;"⟩, prog_1_method_48_code, 2, (some (FieldType.object "Lendlathe$Member")), []),
  (⟨"Lendlathe", "machineAt", "(I)LLendlathe$Machine;"⟩, prog_1_method_49_code, 2, (some (FieldType.object "Lendlathe$Machine")), []),
  (⟨"Lendlathe", "kindAt", "(I)LLendlathe$Kind;"⟩, prog_1_method_50_code, 2, (some (FieldType.object "Lendlathe$Kind")), []),
  (⟨"Lendlathe", "entryAt", "(I)LLendlathe$Entry;"⟩, prog_1_method_51_code, 2, (some (FieldType.object "Lendlathe$Entry")), []),
  (⟨"Lendlathe", "barAt", "(I)LLendlathe$Bar;"⟩, prog_1_method_52_code, 2, (some (FieldType.object "Lendlathe$Bar")), [])]
def mtab_3 : List MRow := [(⟨"Lendlathe", "leadsTo", "(Ljava/util/ArrayList;LLendlathe$Kind;LLendlathe$Kind;I)Z"⟩, prog_1_method_53_code, 6, (some FieldType.boolean), []),
  (⟨"Lendlathe", "hasLive", "(LLendlathe$Member;LLendlathe$Kind;II)Z"⟩, prog_1_method_54_code, 7, (some FieldType.boolean), []),
  (⟨"Lendlathe", "hasLiveNeeds", "(LLendlathe$Member;LLendlathe$Kind;II)Z"⟩, prog_1_method_55_code, 7, (some FieldType.boolean), []),
  (⟨"Lendlathe", "hasInduction", "(LLendlathe$Entry;)Z"⟩, prog_1_method_56_code, 2, (some FieldType.boolean), []),
  (⟨"Lendlathe", "cancelWithoutInduction", "()V"⟩, prog_1_method_57_code, 3, none, []),
  (⟨"Lendlathe", "judge", "(LLendlathe$Member;LLendlathe$Machine;IIIC)C"⟩, prog_1_method_58_code, 8, (some FieldType.char), []),
  (⟨"Lendlathe", "canBeBooked", "(LLendlathe$Entry;)Z"⟩, prog_1_method_59_code, 2, (some FieldType.boolean), []),
  (⟨"Lendlathe", "isBusy", "(LLendlathe$Member;III)Z"⟩, prog_1_method_60_code, 7, (some FieldType.boolean), []),
  (⟨"Lendlathe", "isFree", "(LLendlathe$Machine;IIIIC)Z"⟩, prog_1_method_61_code, 11, (some FieldType.boolean), []),
  (⟨"Lendlathe", "makeBooked", "(LLendlathe$Entry;)V"⟩, prog_1_method_62_code, 1, none, []),
  (⟨"Lendlathe", "bookWaiting", "()V"⟩, prog_1_method_63_code, 3, none, []),
  (⟨"Lendlathe", "firstToBook", "()LLendlathe$Entry;"⟩, prog_1_method_64_code, 3, (some (FieldType.object "Lendlathe$Entry")), []),
  (⟨"Lendlathe", "letterOfCancelling", "(LLendlathe$Entry;)C"⟩, prog_1_method_65_code, 2, (some FieldType.char), []),
  (⟨"Lendlathe", "withdraw", "(LLendlathe$Entry;)V"⟩, prog_1_method_66_code, 3, none, []),
  (⟨"Lendlathe", "letterOfMinute", "(LLendlathe$Machine;III)C"⟩, prog_1_method_67_code, 8, (some FieldType.char), []),
  (⟨"Lendlathe", "addLengths", "(LLendlathe$Machine;I)I"⟩, prog_1_method_68_code, 4, (some FieldType.int), []),
  (⟨"Lendlathe", "countMinutes", "(LLendlathe$Machine;I)I"⟩, prog_1_method_69_code, 5, (some FieldType.int), []),
  (⟨"Lendlathe", "firstStartInGaps", "(LLendlathe$Machine;IIC)I"⟩, prog_1_method_70_code, 8, (some FieldType.int), []),
  (⟨"Lendlathe", "tightestBar", "(II)I"⟩, prog_1_method_71_code, 8, (some FieldType.int), []),
  (⟨"Lendlathe", "lengthLeft", "(LLendlathe$Bar;)I"⟩, prog_1_method_72_code, 4, (some FieldType.int), []),
  (⟨"Lendlathe", "lengthTaken", "(LLendlathe$Entry;LLendlathe$Bar;)I"⟩, prog_1_method_73_code, 5, (some FieldType.int), []),
  (⟨"Lendlathe", "priceOf", "(I)I"⟩, prog_1_method_74_code, 2, (some FieldType.int), []),
  (⟨"Lendlathe", "addLayer", "(LLendlathe$Kind;II)I"⟩, prog_1_method_75_code, 3, (some FieldType.int), []),
  (⟨"Lendlathe", "ask", "(LLendlathe$Layer;I)I"⟩, prog_1_method_76_code, 4, (some FieldType.int), [])]
def mtab_4 : List MRow := [(⟨"Lendlathe", "priceOfTime", "(LLendlathe$Entry;)I"⟩, prog_1_method_77_code, 1, (some FieldType.int), []),
  (⟨"Lendlathe", "priceOfCuts", "(LLendlathe$Entry;)I"⟩, prog_1_method_78_code, 5, (some FieldType.int), []),
  (⟨"Lendlathe", "charge", "(LLendlathe$Entry;I)V"⟩, prog_1_method_79_code, 2, none, []),
  (⟨"Lendlathe", "minutesToBlame", "(LLendlathe$Member;LLendlathe$Machine;)I"⟩, prog_1_method_80_code, 7, (some FieldType.int), []),
  (⟨"Lendlathe", "split", "(I[II)[I"⟩, prog_1_method_81_code, 9, (some (FieldType.array FieldType.int)), []),
  (⟨"Lendlathe", "placeOfGreatest", "([I)I"⟩, prog_1_method_82_code, 3, (some FieldType.int), []),
  (⟨"Lendlathe", "addDebts", "(I)I"⟩, prog_1_method_83_code, 6, (some FieldType.int), []),
  (⟨"Lendlathe", "areEntriesSound", "()Z"⟩, prog_1_method_84_code, 3, (some FieldType.boolean), []),
  (⟨"Lendlathe", "clashesWithLater", "(ILLendlathe$Entry;)Z"⟩, prog_1_method_85_code, 6, (some FieldType.boolean), []),
  (⟨"Lendlathe", "doBarsAgree", "()Z"⟩, prog_1_method_86_code, 3, (some FieldType.boolean), []),
  (⟨"Lendlathe", "doDebtsAgree", "()Z"⟩, prog_1_method_87_code, 3, (some FieldType.boolean), []),
  (⟨"Lendlathe", "doMinutesAgree", "()Z"⟩, prog_1_method_88_code, 4, (some FieldType.boolean), []),
  (⟨"LendlatheModel", "<init>", "()V"⟩, prog_11_method_1_code, 2, none, []),
  (⟨"LendlatheModel", "thrown", "()I"⟩, prog_11_method_2_code, 1, (some FieldType.int), []),
  (⟨"LendlatheModel", "raises", "(I)I"⟩, prog_11_method_3_code, 2, (some FieldType.int), []),
  (⟨"LendlatheModel", "in", "(III)Z"⟩, prog_11_method_4_code, 3, (some FieldType.boolean), []),
  (⟨"LendlatheModel", "isKind", "(I)Z"⟩, prog_11_method_5_code, 1, (some FieldType.boolean), []),
  (⟨"LendlatheModel", "isMember", "(I)Z"⟩, prog_11_method_6_code, 2, (some FieldType.boolean), []),
  (⟨"LendlatheModel", "isMachine", "(I)Z"⟩, prog_11_method_7_code, 2, (some FieldType.boolean), []),
  (⟨"LendlatheModel", "isEntry", "(I)Z"⟩, prog_11_method_8_code, 2, (some FieldType.boolean), []),
  (⟨"LendlatheModel", "addMachine", "(II)I"⟩, prog_11_method_9_code, 3, (some FieldType.int), []),
  (⟨"LendlatheModel", "addMember", "()I"⟩, prog_11_method_10_code, 2, (some FieldType.int), []),
  (⟨"LendlatheModel", "day", "()I"⟩, prog_11_method_11_code, 1, (some FieldType.int), []),
  (⟨"LendlatheModel", "reaches", "(II)Z"⟩, prog_11_method_12_code, 5, (some FieldType.boolean), [])]
def mtab_5 : List MRow := [(⟨"LendlatheModel", "live", "(III)Z"⟩, prog_11_method_13_code, 7, (some FieldType.boolean), []),
  (⟨"LendlatheModel", "liveFor", "(III)Z"⟩, prog_11_method_14_code, 4, (some FieldType.boolean), []),
  (⟨"LendlatheModel", "addNeed", "(II)Z"⟩, prog_11_method_15_code, 6, (some FieldType.boolean), []),
  (⟨"LendlatheModel", "induct", "(II)I"⟩, prog_11_method_16_code, 4, (some FieldType.int), []),
  (⟨"LendlatheModel", "isLive", "(III)Z"⟩, prog_11_method_17_code, 4, (some FieldType.boolean), []),
  (⟨"LendlatheModel", "endOf", "(I)I"⟩, prog_11_method_18_code, 2, (some FieldType.int), []),
  (⟨"LendlatheModel", "overlaps", "(IIII)Z"⟩, prog_11_method_19_code, 5, (some FieldType.boolean), []),
  (⟨"LendlatheModel", "setup", "(ICC)I"⟩, prog_11_method_20_code, 4, (some FieldType.int), []),
  (⟨"LendlatheModel", "isFree", "(IIIIC)Z"⟩, prog_11_method_21_code, 9, (some FieldType.boolean), []),
  (⟨"LendlatheModel", "isBusy", "(IIII)Z"⟩, prog_11_method_22_code, 7, (some FieldType.boolean), []),
  (⟨"LendlatheModel", "letter", "(IIIIIC)C"⟩, prog_11_method_23_code, 7, (some FieldType.char), []),
  (⟨"LendlatheModel", "gives", "()V"⟩, prog_11_method_24_code, 2, none, []),
  (⟨"LendlatheModel", "isWork", "(C)Z"⟩, prog_11_method_25_code, 1, (some FieldType.boolean), []),
  (⟨"LendlatheModel", "lacks", "(IIIIIC)I"⟩, prog_11_method_26_code, 8, (some FieldType.int), []),
  (⟨"LendlatheModel", "adds", "(IIIIICC)I"⟩, prog_11_method_27_code, 8, (some FieldType.int), []),
  (⟨"LendlatheModel", "book", "(IIIIIC)I"⟩, prog_11_method_28_code, 8, (some FieldType.int), []),
  (⟨"LendlatheModel", "await", "(IIIIIC)I"⟩, prog_11_method_29_code, 8, (some FieldType.int), []),
  (⟨"LendlatheModel", "check", "(IIIIIC)C"⟩, prog_11_method_30_code, 7, (some FieldType.char), []),
  (⟨"LendlatheModel", "cancel", "(I)C"⟩, prog_11_method_31_code, 3, (some FieldType.char), []),
  (⟨"LendlatheModel", "stateOf", "(I)C"⟩, prog_11_method_32_code, 2, (some FieldType.char), []),
  (⟨"LendlatheModel", "entries", "()I"⟩, prog_11_method_33_code, 1, (some FieldType.int), []),
  (⟨"LendlatheModel", "endDay", "()I"⟩, prog_11_method_34_code, 4, (some FieldType.int), []),
  (⟨"LendlatheModel", "stands", "(III)Z"⟩, prog_11_method_35_code, 4, (some FieldType.boolean), []),
  (⟨"LendlatheModel", "minute", "(III)C"⟩, prog_11_method_36_code, 7, (some FieldType.char), [])]
def mtab_6 : List MRow := [(⟨"LendlatheModel", "may", "(III)Z"⟩, prog_11_method_37_code, 4, (some FieldType.boolean), []),
  (⟨"LendlatheModel", "minuteAt", "(III)C"⟩, prog_11_method_38_code, 4, (some FieldType.char), []),
  (⟨"LendlatheModel", "minutes", "(IIC)I"⟩, prog_11_method_39_code, 6, (some FieldType.int), []),
  (⟨"LendlatheModel", "used", "(II)I"⟩, prog_11_method_40_code, 5, (some FieldType.int), []),
  (⟨"LendlatheModel", "usedMinutes", "(II)I"⟩, prog_11_method_41_code, 3, (some FieldType.int), []),
  (⟨"LendlatheModel", "usedByMinutes", "(II)I"⟩, prog_11_method_42_code, 3, (some FieldType.int), []),
  (⟨"LendlatheModel", "setupMinutes", "(II)I"⟩, prog_11_method_43_code, 3, (some FieldType.int), []),
  (⟨"LendlatheModel", "firstStart", "(IIIC)I"⟩, prog_11_method_44_code, 6, (some FieldType.int), []),
  (⟨"LendlatheModel", "firstByMinutes", "(IIIC)I"⟩, prog_11_method_45_code, 5, (some FieldType.int), []),
  (⟨"LendlatheModel", "waiting", "(II)I"⟩, prog_11_method_46_code, 5, (some FieldType.int), []),
  (⟨"LendlatheModel", "deliver", "(II)I"⟩, prog_11_method_47_code, 3, (some FieldType.int), []),
  (⟨"LendlatheModel", "free", "(I)I"⟩, prog_11_method_48_code, 5, (some FieldType.int), []),
  (⟨"LendlatheModel", "cut", "(III)I"⟩, prog_11_method_49_code, 7, (some FieldType.int), []),
  (⟨"LendlatheModel", "freeOf", "(I)I"⟩, prog_11_method_50_code, 2, (some FieldType.int), []),
  (⟨"LendlatheModel", "freeByCuts", "(I)I"⟩, prog_11_method_51_code, 2, (some FieldType.int), []),
  (⟨"LendlatheModel", "setPrice", "(II)I"⟩, prog_11_method_52_code, 4, (some FieldType.int), []),
  (⟨"LendlatheModel", "cost", "(II)I"⟩, prog_11_method_53_code, 9, (some FieldType.int), []),
  (⟨"LendlatheModel", "setRate", "(II)I"⟩, prog_11_method_54_code, 4, (some FieldType.int), []),
  (⟨"LendlatheModel", "lays", "(ICII)I"⟩, prog_11_method_55_code, 5, (some FieldType.int), []),
  (⟨"LendlatheModel", "addFee", "(II)I"⟩, prog_11_method_56_code, 3, (some FieldType.int), []),
  (⟨"LendlatheModel", "addCap", "(II)I"⟩, prog_11_method_57_code, 3, (some FieldType.int), []),
  (⟨"LendlatheModel", "addDouble", "(II)I"⟩, prog_11_method_58_code, 3, (some FieldType.int), []),
  (⟨"LendlatheModel", "addDiscount", "(II)I"⟩, prog_11_method_59_code, 3, (some FieldType.int), []),
  (⟨"LendlatheModel", "costOf", "(II)I"⟩, prog_11_method_60_code, 3, (some FieldType.int), [])]
def mtab_7 : List MRow := [(⟨"LendlatheModel", "breakDown", "(II)I"⟩, prog_11_method_61_code, 10, (some FieldType.int), []),
  (⟨"LendlatheModel", "shareOf", "(II)I"⟩, prog_11_method_62_code, 3, (some FieldType.int), []),
  (⟨"LendlatheModel", "owed", "(I)J"⟩, prog_11_method_63_code, 5, (some FieldType.long), []),
  (⟨"LendlatheModel", "pay", "(II)I"⟩, prog_11_method_64_code, 3, (some FieldType.int), []),
  (⟨"LendlatheModel", "owes", "(I)I"⟩, prog_11_method_65_code, 2, (some FieldType.int), []),
  (⟨"LendlatheModel", "owesByEntries", "(I)I"⟩, prog_11_method_66_code, 2, (some FieldType.int), []),
  (⟨"LendlatheModel", "dueOf", "(I)I"⟩, prog_11_method_67_code, 2, (some FieldType.int), []),
  (⟨"LendlatheModel", "takings", "()J"⟩, prog_11_method_68_code, 4, (some FieldType.long), []),
  (⟨"LendlatheModel", "use", "(II)F"⟩, prog_11_method_69_code, 3, (some FieldType.float), []),
  (⟨"LendlatheModel", "meanMinutes", "()D"⟩, prog_11_method_70_code, 4, (some FieldType.double), []),
  (⟨"LendlatheModel", "isSound", "()Z"⟩, prog_11_method_71_code, 1, (some FieldType.boolean), []),
  (⟨"LendlatheLaw", "addMachine", "(LLendlathe;II[J)I"⟩, method_3_code, 5, (some FieldType.int), [(0, 10, 13, 13), (0, 10, 17, 15)]),
  (⟨"LendlatheLaw", "addMember", "(LLendlathe;[J)I"⟩, method_4_code, 3, (some FieldType.int), [(0, 8, 11, 15)]),
  (⟨"LendlatheLaw", "addNeed", "(LLendlathe;II[J)I"⟩, method_5_code, 5, (some FieldType.int), [(0, 17, 20, 13), (0, 17, 24, 15)]),
  (⟨"LendlatheLaw", "induct", "(LLendlathe;II[J)I"⟩, method_6_code, 5, (some FieldType.int), [(0, 10, 13, 28), (0, 10, 17, 13), (0, 10, 21, 30)]),
  (⟨"LendlatheLaw", "isLive", "(LLendlathe;III[J)I"⟩, method_7_code, 6, (some FieldType.int), [(0, 19, 22, 28), (0, 19, 26, 13)]),
  (⟨"LendlatheLaw", "book", "(LLendlathe;IIIIIC[J)I"⟩, method_8_code, 9, (some FieldType.int), [(0, 18, 21, 28), (0, 18, 25, 13), (0, 18, 29, 30), (0, 18, 33, 40), (0, 18, 37, 42), (0, 18, 41, 15)]),
  (⟨"LendlatheLaw", "await", "(LLendlathe;IIIIIC[J)I"⟩, method_9_code, 9, (some FieldType.int), [(0, 18, 21, 28), (0, 18, 25, 13), (0, 18, 29, 30), (0, 18, 33, 15)]),
  (⟨"LendlatheLaw", "check", "(LLendlathe;IIIIIC[J)I"⟩, method_10_code, 9, (some FieldType.int), [(0, 18, 21, 28), (0, 18, 25, 13)]),
  (⟨"LendlatheLaw", "cancel", "(LLendlathe;I[J)I"⟩, method_11_code, 4, (some FieldType.int), [(0, 9, 12, 42), (0, 9, 15, 15)]),
  (⟨"LendlatheLaw", "stateOf", "(LLendlathe;I[J)I"⟩, method_12_code, 4, (some FieldType.int), [(0, 9, 12, 42)]),
  (⟨"LendlatheLaw", "endDay", "(LLendlathe;[J)I"⟩, method_13_code, 3, (some FieldType.int), [(0, 8, 11, 15)]),
  (⟨"LendlatheLaw", "minuteAt", "(LLendlathe;III[J)I"⟩, method_14_code, 6, (some FieldType.int), [(0, 12, 15, 28), (0, 12, 19, 13)]),
  (⟨"LendlatheLaw", "usedMinutes", "(LLendlathe;II[J)I"⟩, method_15_code, 5, (some FieldType.int), [(0, 10, 13, 28), (0, 10, 17, 13)])]
def mtab_8 : List MRow := [(⟨"LendlatheLaw", "usedByMinutes", "(LLendlathe;II[J)I"⟩, method_16_code, 5, (some FieldType.int), [(0, 10, 13, 28), (0, 10, 17, 13)]),
  (⟨"LendlatheLaw", "setupMinutes", "(LLendlathe;II[J)I"⟩, method_17_code, 5, (some FieldType.int), [(0, 10, 13, 28), (0, 10, 17, 13)]),
  (⟨"LendlatheLaw", "firstStart", "(LLendlathe;IIIC[J)I"⟩, method_18_code, 7, (some FieldType.int), [(0, 14, 17, 28), (0, 14, 21, 13), (0, 14, 25, 42)]),
  (⟨"LendlatheLaw", "firstByMinutes", "(LLendlathe;IIIC[J)I"⟩, method_19_code, 7, (some FieldType.int), [(0, 14, 17, 28), (0, 14, 21, 13), (0, 14, 25, 42)]),
  (⟨"LendlatheLaw", "waiting", "(LLendlathe;II[J)I"⟩, method_20_code, 5, (some FieldType.int), [(0, 10, 13, 28), (0, 10, 17, 13)]),
  (⟨"LendlatheLaw", "deliver", "(LLendlathe;II[J)I"⟩, method_21_code, 5, (some FieldType.int), [(0, 10, 13, 13), (0, 10, 17, 15)]),
  (⟨"LendlatheLaw", "cut", "(LLendlathe;III[J)I"⟩, method_22_code, 6, (some FieldType.int), [(0, 12, 15, 42), (0, 12, 19, 13), (0, 12, 23, 15), (0, 12, 27, 30)]),
  (⟨"LendlatheLaw", "freeOf", "(LLendlathe;I[J)I"⟩, method_23_code, 4, (some FieldType.int), [(0, 9, 12, 42)]),
  (⟨"LendlatheLaw", "freeByCuts", "(LLendlathe;I[J)I"⟩, method_24_code, 4, (some FieldType.int), [(0, 9, 12, 42)]),
  (⟨"LendlatheLaw", "setPrice", "(LLendlathe;II[J)I"⟩, method_25_code, 5, (some FieldType.int), [(0, 10, 13, 13)]),
  (⟨"LendlatheLaw", "setRate", "(LLendlathe;II[J)I"⟩, method_26_code, 5, (some FieldType.int), [(0, 10, 13, 13)]),
  (⟨"LendlatheLaw", "addFee", "(LLendlathe;II[J)I"⟩, method_27_code, 5, (some FieldType.int), [(0, 10, 13, 13), (0, 10, 17, 15)]),
  (⟨"LendlatheLaw", "addCap", "(LLendlathe;II[J)I"⟩, method_28_code, 5, (some FieldType.int), [(0, 10, 13, 13), (0, 10, 17, 15)]),
  (⟨"LendlatheLaw", "addDouble", "(LLendlathe;II[J)I"⟩, method_29_code, 5, (some FieldType.int), [(0, 10, 13, 13), (0, 10, 17, 15)]),
  (⟨"LendlatheLaw", "addDiscount", "(LLendlathe;II[J)I"⟩, method_30_code, 5, (some FieldType.int), [(0, 10, 13, 13), (0, 10, 17, 15)]),
  (⟨"LendlatheLaw", "costOf", "(LLendlathe;II[J)I"⟩, method_31_code, 5, (some FieldType.int), [(0, 10, 13, 13)]),
  (⟨"LendlatheLaw", "breakDown", "(LLendlathe;II[J)I"⟩, method_32_code, 5, (some FieldType.int), [(0, 10, 13, 28), (0, 10, 17, 13), (0, 10, 21, 15)]),
  (⟨"LendlatheLaw", "shareOf", "(LLendlathe;II[J)I"⟩, method_33_code, 5, (some FieldType.int), [(0, 10, 13, 42), (0, 10, 17, 28)]),
  (⟨"LendlatheLaw", "pay", "(LLendlathe;II[J)I"⟩, method_34_code, 5, (some FieldType.int), [(0, 10, 13, 28), (0, 10, 17, 13), (0, 10, 21, 15)]),
  (⟨"LendlatheLaw", "owes", "(LLendlathe;I[J)I"⟩, method_35_code, 4, (some FieldType.int), [(0, 9, 12, 28)]),
  (⟨"LendlatheLaw", "owesByEntries", "(LLendlathe;I[J)I"⟩, method_36_code, 4, (some FieldType.int), [(0, 9, 12, 28)]),
  (⟨"LendlatheLaw", "dueOf", "(LLendlathe;I[J)I"⟩, method_37_code, 4, (some FieldType.int), [(0, 9, 12, 42)]),
  (⟨"LendlatheLaw", "use", "(LLendlathe;II[D)I"⟩, method_38_code, 5, (some FieldType.int), [(0, 10, 13, 28), (0, 10, 17, 13)]),
  (⟨"LendlatheLaw", "meanMinutes", "(LLendlathe;[D)I"⟩, method_39_code, 3, (some FieldType.int), [(0, 7, 10, 40)])]
def mtab_9 : List MRow := [(⟨"LendlatheLaw", "law", "([I)Z"⟩, code, 9, some .boolean, [])]
def mtab : List MRow := mtab_0 ++ (mtab_1 ++ (mtab_2 ++ (mtab_3 ++ (mtab_4 ++ (mtab_5 ++ (mtab_6 ++ (mtab_7 ++ (mtab_8 ++ (mtab_9)))))))))
/-- class number of each method -/
def mclt : List Nat := [0, 1, 1, 2, 3, 3, 3, 4, 4, 4, 5, 6, 6, 6, 6, 6, 6, 7, 7, 7, 8, 8, 8, 8, 8, 8, 8, 8, 8, 8, 8, 8, 8, 8, 8, 8, 8, 8, 8, 8, 8, 8, 8, 8, 8, 8, 8, 8, 8, 8, 8, 8, 8, 8, 8, 8, 8, 8, 8, 8, 8, 8, 8, 8, 8, 8, 8, 8, 8, 8, 8, 8, 8, 8, 8, 8, 8, 8, 8, 8, 8, 8, 8, 8, 8, 8, 8, 8, 8, 8, 8, 8, 8, 8, 8, 8, 8, 8, 8, 8, 8, 8, 8, 8, 8, 8, 8, 8, 9, 9, 9, 9, 9, 9, 9, 9, 9, 9, 9, 9, 9, 9, 9, 9, 9, 9, 9, 9, 9, 9, 9, 9, 9, 9, 9, 9, 9, 9, 9, 9, 9, 9, 9, 9, 9, 9, 9, 9, 9, 9, 9, 9, 9, 9, 9, 9, 9, 9, 9, 9, 9, 9, 9, 9, 9, 9, 9, 9, 9, 9, 9, 9, 9, 9, 9, 9, 9, 9, 9, 10, 10, 10, 10, 10, 10, 10, 10, 10, 10, 10, 10, 10, 10, 10, 10, 10, 10, 10, 10, 10, 10, 10, 10, 10, 10, 10, 10, 10, 10, 10, 10, 10, 10, 10, 10, 10, 10]
def cnm (o : Nat) : String := (["Lendlathe$Bar", "Lendlathe$Breakage", "Lendlathe$Cut", "Lendlathe$Entry", "Lendlathe$Kind", "Lendlathe$Layer", "Lendlathe$Machine", "Lendlathe$Member", "Lendlathe", "LendlatheModel", "LendlatheLaw", "java/util/ArrayList"] : List String).getD o ""
/-- a method: place of its code word, kind (0 static, 1 constructor, 2 chosen by the receiver, 9 none), place of the word that says so, of initialized, of selects, number of parameters -/
def mfct : List (Nat × Nat × Nat × Nat × Nat × Nat) := [(1170, 1, 1169, 95, 0, 2), (1306, 1, 1305, 97, 0, 1), (471, 2, 469, 97, 470, 1), (1206, 1, 1205, 96, 0, 2), (995, 1, 994, 94, 0, 6), (604, 2, 602, 94, 603, 0), (340, 2, 338, 94, 339, 3), (136, 1, 135, 66, 0, 1), (332, 2, 330, 66, 331, 1), (596, 2, 594, 66, 595, 1), (142, 1, 141, 67, 0, 3), (541, 1, 540, 80, 0, 2), (357, 2, 355, 80, 356, 2), (344, 2, 342, 80, 343, 2), (350, 0, 349, 80, 0, 3), (640, 2, 638, 80, 639, 1), (611, 2, 609, 80, 610, 1), (567, 1, 566, 81, 0, 0), (324, 2, 322, 81, 323, 1), (929, 2, 927, 81, 928, 2), (102, 1, 101, 62, 0, 0), (494, 2, 492, 62, 493, 2), (563, 2, 561, 62, 562, 0), (272, 2, 270, 62, 271, 0), (587, 2, 585, 62, 586, 2), (909, 2, 907, 62, 908, 2), (936, 2, 934, 62, 935, 3), (958, 2, 956, 62, 957, 6), (1048, 2, 1046, 62, 1047, 6), (1056, 2, 1054, 62, 1055, 6), (1063, 2, 1061, 62, 1062, 1), (1090, 2, 1088, 62, 1089, 1), (276, 2, 274, 62, 275, 0), (1097, 2, 1095, 62, 1096, 0), (1113, 2, 1111, 62, 1112, 3), (1120, 2, 1118, 62, 1119, 2), (1127, 2, 1125, 62, 1126, 2), (1134, 2, 1132, 62, 1133, 2), (1141, 2, 1139, 62, 1140, 4), (1152, 2, 1150, 62, 1151, 4), (1159, 2, 1157, 62, 1158, 2), (1166, 2, 1164, 62, 1165, 2), (1191, 2, 1189, 62, 1190, 3), (1223, 2, 1221, 62, 1222, 1), (1230, 2, 1228, 62, 1229, 1), (1237, 2, 1235, 62, 1236, 2), (1244, 2, 1242, 62, 1243, 2), (1253, 2, 1251, 62, 1252, 2), (1263, 2, 1261, 62, 1262, 2), (1270, 2, 1268, 62, 1269, 2), (1277, 2, 1275, 62, 1276, 2), (1284, 2, 1282, 62, 1283, 2), (1291, 2, 1289, 62, 1290, 2), (1318, 2, 1316, 62, 1317, 2), (1326, 2, 1324, 62, 1325, 2), (1336, 2, 1334, 62, 1335, 1), (1343, 2, 1341, 62, 1342, 1), (1350, 2, 1348, 62, 1349, 1), (284, 2, 282, 62, 283, 0), (1357, 2, 1355, 62, 1356, 2), (1365, 2, 1363, 62, 1364, 0), (303, 2, 301, 62, 302, 0), (517, 0, 516, 62, 0, 3), (521, 0, 520, 62, 0, 2), (971, 2, 970, 62, 28, 3), (967, 2, 966, 62, 27, 4), (394, 2, 393, 62, 16, 1), (390, 2, 389, 62, 15, 1), (962, 2, 961, 62, 26, 1), (498, 2, 497, 62, 19, 1), (1067, 2, 1066, 62, 29, 1), (1201, 2, 1200, 62, 34, 1), (591, 0, 590, 62, 0, 4), (320, 2, 319, 62, 6, 4), (328, 2, 327, 62, 7, 4), (361, 2, 360, 62, 9, 1), (600, 2, 599, 62, 20, 0), (316, 2, 315, 62, 5, 6), (312, 2, 311, 62, 4, 1), (336, 2, 335, 62, 8, 4), (353, 0, 352, 62, 0, 6), (636, 0, 635, 62, 0, 1), (629, 2, 628, 62, 22, 0), (633, 2, 632, 62, 23, 0), (1073, 2, 1072, 62, 30, 1), (607, 0, 606, 62, 0, 1), (485, 0, 484, 62, 0, 4), (479, 0, 478, 62, 0, 2), (482, 0, 481, 62, 0, 2), (1144, 0, 1143, 62, 0, 4), (1196, 2, 1195, 62, 33, 2), (374, 2, 373, 62, 12, 1), (377, 0, 376, 62, 0, 2), (1106, 2, 1105, 62, 32, 1), (1256, 0, 1255, 62, 0, 3), (1079, 0, 1078, 62, 0, 2), (1076, 0, 1075, 62, 0, 1), (1102, 2, 1101, 62, 31, 1), (1083, 0, 1082, 62, 0, 2), (1296, 2, 1295, 62, 35, 2), (1300, 0, 1299, 62, 0, 3), (1303, 0, 1302, 62, 0, 1), (386, 2, 385, 62, 14, 1), (307, 2, 306, 62, 3, 0), (365, 2, 364, 62, 10, 2), (369, 2, 368, 62, 11, 0), (382, 2, 381, 62, 13, 0), (475, 2, 474, 62, 18, 0), (1371, 1, 1370, 72, 0, 0), (1476, 2, 1474, 72, 1475, 0), (1494, 2, 1493, 72, 36, 1), (1486, 0, 1485, 72, 0, 3), (1483, 0, 1482, 72, 0, 1), (1550, 2, 1549, 72, 47, 1), (1569, 2, 1568, 72, 49, 1), (1589, 2, 1588, 72, 51, 1), (1480, 2, 1478, 72, 1479, 2), (1490, 2, 1488, 72, 1489, 0), (1498, 2, 1496, 72, 1497, 0), (1506, 2, 1505, 72, 37, 2), (1514, 2, 1513, 72, 39, 3), (1510, 2, 1509, 72, 38, 3), (1502, 2, 1500, 72, 1501, 2), (1546, 2, 1544, 72, 1545, 2), (1554, 2, 1552, 72, 1553, 3), (1534, 2, 1533, 72, 44, 1), (1530, 2, 1529, 72, 43, 4), (1542, 2, 1541, 72, 46, 3), (1538, 2, 1537, 72, 45, 5), (1526, 2, 1525, 72, 42, 4), (1522, 2, 1521, 72, 41, 6), (1518, 2, 1517, 72, 40, 0), (1565, 0, 1564, 72, 0, 1), (1562, 2, 1561, 72, 48, 6), (1573, 2, 1572, 72, 50, 7), (1558, 2, 1556, 72, 1557, 6), (1577, 2, 1575, 72, 1576, 6), (1581, 2, 1579, 72, 1580, 6), (1585, 2, 1583, 72, 1584, 1), (1599, 2, 1597, 72, 1598, 1), (1603, 2, 1601, 72, 1602, 0), (1607, 2, 1605, 72, 1606, 0), (1623, 2, 1622, 72, 55, 3), (1619, 2, 1618, 72, 54, 3), (1615, 2, 1614, 72, 53, 3), (1611, 2, 1609, 72, 1610, 3), (1644, 2, 1643, 72, 57, 3), (1631, 2, 1630, 72, 56, 2), (1627, 2, 1625, 72, 1626, 2), (1635, 2, 1633, 72, 1634, 2), (1640, 2, 1638, 72, 1639, 2), (1648, 2, 1646, 72, 1647, 4), (1652, 2, 1650, 72, 1651, 4), (1657, 2, 1655, 72, 1656, 2), (1661, 2, 1659, 72, 1660, 2), (1669, 2, 1668, 72, 58, 1), (1665, 2, 1663, 72, 1664, 3), (1673, 2, 1671, 72, 1672, 1), (1677, 2, 1675, 72, 1676, 1), (1682, 2, 1680, 72, 1681, 2), (1593, 2, 1592, 72, 52, 2), (1686, 2, 1684, 72, 1685, 2), (1694, 2, 1693, 72, 59, 4), (1690, 2, 1688, 72, 1689, 2), (1698, 2, 1696, 72, 1697, 2), (1702, 2, 1700, 72, 1701, 2), (1706, 2, 1704, 72, 1705, 2), (1710, 2, 1708, 72, 1709, 2), (1714, 2, 1712, 72, 1713, 2), (1720, 2, 1718, 72, 1719, 2), (1730, 2, 1729, 72, 60, 1), (1724, 2, 1722, 72, 1723, 2), (1734, 2, 1732, 72, 1733, 1), (1738, 2, 1736, 72, 1737, 1), (1743, 2, 1741, 72, 1742, 1), (1747, 2, 1745, 72, 1746, 0), (1751, 2, 1749, 72, 1750, 2), (1756, 2, 1754, 72, 1755, 0), (1760, 2, 1758, 72, 1759, 0), (488, 0, 487, 61, 0, 4), (559, 0, 558, 61, 0, 2), (583, 0, 582, 61, 0, 4), (888, 0, 887, 61, 0, 4), (932, 0, 931, 61, 0, 5), (939, 0, 938, 61, 0, 8), (1044, 0, 1043, 61, 0, 8), (1052, 0, 1051, 61, 0, 8), (1059, 0, 1058, 61, 0, 3), (1086, 0, 1085, 61, 0, 3), (1093, 0, 1092, 61, 0, 2), (1109, 0, 1108, 61, 0, 5), (1116, 0, 1115, 61, 0, 4), (1123, 0, 1122, 61, 0, 4), (1130, 0, 1129, 61, 0, 4), (1137, 0, 1136, 61, 0, 6), (1148, 0, 1147, 61, 0, 6), (1155, 0, 1154, 61, 0, 4), (1162, 0, 1161, 61, 0, 4), (1187, 0, 1186, 61, 0, 5), (1219, 0, 1218, 61, 0, 3), (1226, 0, 1225, 61, 0, 3), (1233, 0, 1232, 61, 0, 4), (1240, 0, 1239, 61, 0, 4), (1249, 0, 1248, 61, 0, 4), (1259, 0, 1258, 61, 0, 4), (1266, 0, 1265, 61, 0, 4), (1273, 0, 1272, 61, 0, 4), (1280, 0, 1279, 61, 0, 4), (1287, 0, 1286, 61, 0, 4), (1314, 0, 1313, 61, 0, 4), (1322, 0, 1321, 61, 0, 4), (1332, 0, 1331, 61, 0, 3), (1339, 0, 1338, 61, 0, 3), (1346, 0, 1345, 61, 0, 3), (1353, 0, 1352, 61, 0, 4), (1361, 0, 1360, 61, 0, 2), (0, 9, 0, 0, 0, 0)]
def fltab : List (Nat × Nat × Nat × Nat × Nat) := [(5, 7, 5, 0, 144), (8, 431, 5, 0, 145), (5, 13, 5, 1, 146), (8, 428, 5, 1, 147), (5, 16, 5, 2, 148), (8, 434, 5, 2, 149), (5, 20, 5, 3, 150), (8, 282, 5, 3, 151), (4, 27, 4, 0, 162), (4, 24, 4, 1, 163), (7, 22, 4, 1, 164), (4, 9, 4, 2, 165), (4, 20, 4, 3, 166), (8, 278, 4, 3, 167), (8, 10, 8, 0, 244), (8, 16, 8, 1, 245), (8, 19, 8, 2, 246), (8, 22, 8, 3, 247), (8, 25, 8, 4, 248), (8, 28, 8, 5, 249), (8, 31, 8, 6, 250), (8, 35, 8, 7, 251), (6, 16, 6, 0, 545), (8, 375, 6, 0, 546), (6, 20, 6, 1, 547), (6, 10, 6, 2, 548), (8, 216, 6, 2, 549), (7, 9, 7, 0, 569), (7, 15, 7, 1, 570), (8, 312, 7, 1, 571), (7, 19, 7, 2, 572), (8, 324, 7, 2, 573), (3, 26, 3, 0, 999), (8, 371, 3, 0, 1000), (3, 30, 3, 1, 1001), (8, 240, 3, 1, 1002), (3, 34, 3, 2, 1003), (6, 38, 3, 2, 1004), (8, 195, 3, 2, 1005), (3, 37, 3, 3, 1006), (6, 41, 3, 3, 1007), (8, 387, 3, 3, 1008), (3, 40, 3, 4, 1009), (8, 337, 3, 4, 1010), (3, 43, 3, 5, 1011), (8, 394, 3, 5, 1012), (3, 46, 3, 6, 1013), (8, 219, 3, 6, 1014), (3, 12, 3, 7, 1015), (8, 250, 3, 7, 1016), (3, 18, 3, 8, 1017), (8, 185, 3, 8, 1018), (3, 22, 3, 9, 1019), (8, 333, 3, 9, 1020), (0, 7, 0, 0, 1172), (8, 420, 0, 0, 1173), (0, 13, 0, 1, 1174), (8, 423, 0, 1, 1175), (0, 16, 0, 2, 1176), (8, 267, 0, 2, 1177), (2, 7, 2, 0, 1208), (8, 410, 2, 0, 1209), (2, 13, 2, 1, 1210), (8, 414, 2, 1, 1211), (1, 7, 1, 0, 1308), (9, 9, 9, 0, 1379), (9, 13, 9, 1, 1380), (9, 98, 9, 2, 1381), (9, 95, 9, 3, 1382), (9, 18, 9, 4, 1383), (9, 21, 9, 5, 1384), (9, 27, 9, 6, 1385), (9, 112, 9, 7, 1386), (9, 30, 9, 8, 1387), (9, 33, 9, 9, 1388), (9, 36, 9, 10, 1389), (9, 39, 9, 11, 1390), (9, 42, 9, 12, 1391), (9, 45, 9, 13, 1392), (9, 49, 9, 14, 1393), (9, 52, 9, 15, 1394), (9, 55, 9, 16, 1395), (9, 58, 9, 17, 1396), (9, 61, 9, 18, 1397), (9, 101, 9, 19, 1398), (9, 64, 9, 20, 1399), (9, 67, 9, 21, 1400), (9, 199, 9, 22, 1401), (9, 70, 9, 23, 1402), (9, 75, 9, 24, 1403), (9, 78, 9, 25, 1404), (9, 81, 9, 26, 1405), (9, 84, 9, 27, 1406), (9, 221, 9, 28, 1407), (9, 87, 9, 29, 1408)]
def mltab : List (Nat × Nat × Nat × Nat) := [(10, 145, 20, 100), (8, 41, 7, 134), (4, 17, 10, 140), (10, 162, 23, 269), (10, 193, 32, 273), (10, 273, 58, 281), (10, 286, 61, 300), (8, 342, 103, 304), (8, 404, 78, 309), (8, 133, 77, 313), (8, 122, 73, 317), (8, 115, 18, 321), (8, 106, 74, 325), (8, 88, 8, 329), (8, 383, 79, 333), (8, 390, 6, 337), (8, 201, 13, 341), (6, 34, 14, 348), (8, 236, 80, 351), (8, 222, 12, 354), (8, 379, 75, 358), (8, 446, 104, 362), (8, 345, 105, 366), (8, 270, 91, 371), (8, 424, 92, 375), (8, 348, 106, 379), (8, 330, 102, 383), (8, 102, 67, 387), (8, 320, 66, 391), (8, 315, 2, 468), (8, 351, 107, 472), (8, 209, 87, 477), (8, 213, 88, 480), (8, 205, 86, 483), (10, 149, 179, 486), (10, 7, 21, 491), (8, 48, 69, 495), (8, 52, 62, 515), (8, 60, 63, 519), (8, 66, 11, 539), (10, 158, 180, 557), (10, 17, 22, 560), (8, 71, 17, 565), (10, 166, 181, 581), (10, 21, 24, 584), (8, 79, 72, 589), (8, 92, 9, 593), (8, 96, 76, 597), (8, 164, 5, 601), (8, 174, 85, 605), (8, 407, 16, 608), (6, 44, 13, 612), (8, 99, 82, 626), (8, 400, 83, 630), (8, 154, 81, 634), (8, 397, 15, 637), (10, 169, 182, 886), (10, 25, 25, 906), (8, 119, 19, 926), (10, 172, 183, 930), (10, 32, 26, 933), (10, 176, 184, 937), (10, 36, 27, 955), (8, 125, 68, 959), (8, 129, 65, 964), (8, 226, 64, 968), (8, 151, 4, 993), (10, 180, 185, 1042), (10, 44, 28, 1045), (10, 183, 186, 1050), (10, 47, 29, 1053), (10, 186, 187, 1057), (10, 51, 30, 1060), (8, 160, 70, 1064), (8, 170, 84, 1070), (8, 177, 96, 1074), (8, 294, 95, 1077), (8, 181, 98, 1081), (10, 190, 188, 1084), (10, 55, 31, 1087), (10, 197, 189, 1091), (10, 58, 33, 1094), (8, 198, 97, 1099), (8, 274, 93, 1103), (10, 200, 190, 1107), (10, 61, 34, 1110), (10, 203, 191, 1114), (10, 65, 35, 1117), (10, 206, 192, 1121), (10, 68, 36, 1124), (10, 209, 193, 1128), (10, 71, 37, 1131), (10, 212, 194, 1135), (10, 74, 38, 1138), (8, 230, 89, 1142), (10, 216, 195, 1146), (10, 78, 39, 1149), (10, 219, 196, 1153), (10, 81, 40, 1156), (10, 222, 197, 1160), (10, 84, 41, 1163), (8, 246, 0, 1168), (10, 225, 198, 1185), (10, 87, 42, 1188), (8, 253, 90, 1193), (8, 258, 71, 1198), (8, 264, 3, 1204), (10, 228, 199, 1217), (10, 91, 43, 1220), (10, 231, 200, 1224), (10, 95, 44, 1227), (10, 234, 201, 1231), (10, 98, 45, 1234), (10, 237, 202, 1238), (10, 101, 46, 1241), (8, 287, 10, 1246), (10, 240, 203, 1247), (10, 104, 47, 1250), (8, 290, 94, 1254), (10, 243, 204, 1257), (10, 107, 48, 1260), (10, 246, 205, 1264), (10, 110, 49, 1267), (10, 249, 206, 1271), (10, 113, 50, 1274), (10, 252, 207, 1278), (10, 116, 51, 1281), (10, 255, 208, 1285), (10, 119, 52, 1288), (8, 299, 99, 1293), (8, 305, 100, 1298), (8, 442, 101, 1301), (8, 309, 1, 1304), (10, 258, 209, 1312), (10, 122, 53, 1315), (10, 261, 210, 1320), (10, 125, 54, 1323), (10, 264, 211, 1330), (10, 128, 55, 1333), (10, 267, 212, 1337), (10, 131, 56, 1340), (10, 270, 213, 1344), (10, 134, 57, 1347), (10, 278, 214, 1351), (10, 137, 59, 1354), (10, 282, 215, 1359), (10, 141, 60, 1362), (10, 148, 108, 1369), (10, 155, 109, 1473), (10, 154, 116, 1477), (9, 104, 112, 1481), (9, 91, 111, 1484), (10, 161, 117, 1487), (9, 108, 110, 1491), (10, 165, 118, 1495), (10, 168, 122, 1499), (9, 115, 119, 1503), (9, 122, 121, 1507), (9, 119, 120, 1511), (9, 125, 131, 1515), (9, 149, 130, 1519), (9, 142, 129, 1523), (9, 134, 126, 1527), (9, 131, 125, 1531), (9, 145, 128, 1535), (9, 138, 127, 1539), (10, 171, 123, 1543), (9, 128, 113, 1547), (10, 175, 124, 1551), (10, 179, 135, 1555), (9, 160, 133, 1559), (9, 153, 132, 1563), (9, 157, 114, 1566), (9, 164, 134, 1570), (10, 182, 136, 1574), (10, 185, 137, 1578), (10, 189, 138, 1582), (9, 168, 115, 1586), (9, 171, 160, 1590), (10, 192, 139, 1596), (10, 196, 140, 1600), (10, 199, 141, 1604), (10, 202, 145, 1608), (9, 178, 144, 1612), (9, 181, 143, 1616), (9, 175, 142, 1620), (10, 205, 148, 1624), (9, 185, 147, 1628), (10, 208, 149, 1632), (9, 188, 148, 1636), (10, 211, 150, 1637), (9, 191, 146, 1641), (10, 215, 151, 1645), (10, 218, 152, 1649), (9, 195, 151, 1653), (10, 221, 153, 1654), (10, 224, 154, 1658), (10, 227, 156, 1662), (9, 202, 155, 1666), (10, 230, 157, 1670), (10, 233, 158, 1674), (9, 205, 157, 1678), (10, 236, 159, 1679), (10, 239, 161, 1683), (10, 242, 163, 1687), (9, 216, 162, 1691), (10, 245, 164, 1695), (10, 248, 165, 1699), (10, 251, 166, 1703), (10, 254, 167, 1707), (10, 257, 168, 1711), (10, 260, 169, 1717), (10, 263, 171, 1721), (9, 229, 170, 1727), (10, 266, 172, 1731), (10, 269, 173, 1735), (9, 233, 172, 1739), (10, 272, 174, 1740), (10, 277, 175, 1744), (10, 281, 176, 1748), (10, 285, 177, 1753), (10, 290, 178, 1757)]
/-- 0 ArrayList(), 1 add(E), 2 get, 3 size, 4 remove(int), 5 clear, 6 add(int, E), 7 Math.max, 8 Math.min, 9 Object() -/
def jltab : List (Nat × Nat × Nat × Nat) := [(8, 1, 9, 103), (8, 9, 0, 108), (4, 3, 9, 137), (5, 1, 9, 143), (8, 44, 1, 177), (8, 56, 3, 277), (8, 191, 2, 285), (6, 24, 3, 345), (6, 28, 2, 346), (6, 1, 9, 542), (6, 9, 0, 544), (7, 3, 9, 568), (6, 52, 4, 613), (8, 417, 5, 622), (6, 48, 6, 641), (3, 3, 9, 996), (3, 11, 0, 998), (8, 437, 8, 1080), (0, 1, 9, 1171), (2, 1, 9, 1207), (1, 1, 9, 1307), (9, 1, 9, 1372), (9, 208, 7, 1594), (9, 213, 8, 1595)]
def cltab : List (Nat × Nat × Nat × Nat) := [(10, 8, 8, 98), (8, 7, 11, 106), (8, 39, 4, 132), (4, 15, 5, 138), (8, 69, 7, 299), (8, 149, 3, 308), (6, 32, 3, 347), (8, 244, 0, 370), (8, 262, 2, 378), (8, 303, 1, 467), (8, 64, 6, 476), (6, 7, 11, 543), (3, 9, 11, 997), (8, 283, 5, 1245), (10, 146, 9, 1367)]
def cotab : List (Nat × Nat × Int32 × Nat) := [(8, 298, 100000, 1292), (8, 323, 1000000, 1327), (8, 327, 1000000000, 1328), (9, 220, 100000, 1715), (9, 226, 1000000, 1725)]
def coLtab : List (Nat × Nat × Int64 × Nat) := [(9, 224, -1, 1716), (9, 227, 1000000000, 1726)]
def coFtab : List (Nat × Nat × UInt32 × Nat) := [(8, 336, 1139802112, 1358), (9, 236, 1139802112, 1752)]
def altab : List (Nat × Nat × Nat) := [(4, 5, 17), (7, 10, 5), (11, 5, 16), (17, 6, 20), (20, 5, 10), (20, 16, 11), (20, 27, 12), (20, 38, 13), (20, 49, 14), (20, 60, 15), (20, 72, 21), (20, 93, 4), (21, 29, 6), (22, 16, 7), (27, 106, 3), (28, 93, 3), (41, 30, 0), (42, 93, 2), (46, 23, 5), (52, 33, 22), (52, 83, 1), (94, 13, 5), (100, 2, 23), (100, 13, 24), (108, 7, 25), (108, 15, 26), (108, 24, 27), (108, 34, 29), (108, 42, 30), (108, 53, 32), (108, 62, 33), (108, 71, 34), (108, 80, 35), (108, 89, 36), (108, 98, 37), (108, 107, 38), (108, 116, 39), (108, 125, 40), (108, 135, 41), (108, 147, 43), (108, 157, 45), (108, 165, 46), (108, 172, 47), (108, 181, 48), (108, 192, 50), (108, 201, 52), (108, 211, 53), (160, 4, 55), (168, 55, 56), (168, 184, 57), (216, 0, 8), (216, 8, 9), (216, 17, 58), (216, 21, 59)]
/-- throw new E("text"): method, pc, exception (0 IndexOutOfBounds, 1 IllegalArgument, 2 UnsupportedOperation, 3 Arithmetic, 4 NoSuchElement, 5 IllegalState), entries of the class, the text, the constructor; wide ldc; the text -/
def thtab : List (Nat × Nat × Nat × Nat × Nat × Nat × Nat × String × Nat) := [(24, 19, 1, 72, 74, 76, 0, "a kind does not need itself", 588),
  (24, 43, 5, 83, 85, 87, 0, "the other kind needs this kind", 592),
  (25, 28, 2, 110, 112, 114, 0, "an induction that it needs is not live", 919),
  (27, 49, 2, 110, 137, 114, 0, "the induction is not live on the day", 972),
  (27, 66, 3, 139, 141, 143, 0, "a booked entry of the member overlaps it", 974),
  (27, 83, 4, 144, 146, 148, 0, "the time is not free", 985),
  (28, 49, 2, 110, 137, 114, 0, "the induction is not live on the day", 972),
  (28, 66, 5, 83, 158, 87, 0, "the entry could be booked", 1049),
  (30, 13, 5, 83, 168, 87, 0, "the entry is neither waiting nor booked", 1069),
  (33, 10, 5, 83, 189, 87, 0, "the present day is the last one", 1098),
  (38, 32, 4, 144, 234, 148, 0, "no time is free", 1145),
  (39, 62, 4, 144, 234, 148, 0, "no time is free", 1145),
  (42, 31, 5, 83, 248, 87, 0, "the entry is not booked", 1192),
  (42, 69, 2, 110, 256, 114, 1, "no bar is long enough", 1197),
  (53, 15, 4, 144, 318, 148, 1, "there is no such breakage", 1319),
  (54, 26, 5, 83, 328, 87, 1, "the member would have paid too much", 1329),
  (60, 61, 3, 139, 340, 143, 1, "no entry is done", 1366),
  (62, 10, 1, 72, 354, 76, 1, "a number is out of range", 518),
  (63, 5, 5, 83, 356, 87, 1, "there is no room for another one", 531),
  (66, 15, 0, 358, 360, 362, 1, "there is no such member", 440),
  (68, 15, 0, 358, 363, 362, 1, "there is no such machine", 963),
  (69, 15, 1, 72, 365, 76, 1, "the kind is out of range", 508),
  (70, 15, 4, 144, 367, 148, 1, "there is no such entry", 1068),
  (71, 15, 4, 144, 369, 148, 1, "there is no such bar", 1202)]
def extab : List (Nat × Nat × Nat × Nat) := [(8, 358, 0, 395), (10, 13, 1, 489), (10, 15, 5, 490), (8, 72, 1, 499), (8, 83, 5, 522), (10, 28, 0, 889), (10, 30, 2, 905), (8, 110, 2, 910), (10, 40, 3, 940), (10, 42, 4, 954), (8, 139, 3, 973), (8, 144, 4, 976)]
def exnm (k : Nat) : String := (["java/lang/IndexOutOfBoundsException", "java/lang/IllegalArgumentException", "java/lang/UnsupportedOperationException", "java/lang/ArithmeticException", "java/util/NoSuchElementException", "java/lang/IllegalStateException"] : List String).getD k ""
def matab : List (Nat × Nat × Nat × Nat) := [(9, 16, 5, 1373), (9, 25, 6, 1375), (9, 73, 7, 1377)]
/-- what a site makes: (0, class), (1, kind of component), (2, 0) a list, (3, 0) what was caught, (4, 0) the script -/
def sktab : List (Nat × Nat) := [(0, 0), (0, 1), (0, 2), (0, 3), (0, 4), (0, 5), (0, 6), (0, 7), (0, 8), (0, 9), (2, 0), (2, 0), (2, 0), (2, 0), (2, 0), (2, 0), (2, 0), (2, 0), (9, 0), (9, 0), (1, 0), (1, 0), (1, 0), (1, 0), (1, 0), (1, 0), (1, 0), (1, 5), (1, 0), (1, 1), (1, 6), (1, 2), (1, 0), (1, 0), (1, 0), (1, 0), (1, 0), (1, 3), (1, 3), (1, 0), (1, 0), (1, 5), (1, 0), (1, 5), (1, 0), (1, 0), (1, 0), (1, 0), (1, 7), (1, 3), (1, 5), (1, 0), (1, 0), (1, 5), (1, 0), (1, 0), (1, 0), (1, 1), (1, 1), (1, 4), (3, 0), (4, 0)]
abbrev sX : Nat := 60
abbrev sScr : Nat := 61
abbrev nX0_init : Nat := 0
abbrev nX1_init : Nat := 1
abbrev nX1_share : Nat := 2
abbrev nX2_init : Nat := 3
abbrev nX3_init : Nat := 4
abbrev nX3_isOpen : Nat := 5
abbrev nX3_overlaps : Nat := 6
abbrev nX4_init : Nat := 7
abbrev nX4_needs : Nat := 8
abbrev nX4_addNeeded : Nat := 9
abbrev nX5_init : Nat := 10
abbrev nX6_init : Nat := 11
abbrev nX6_setupBetween : Nat := 12
abbrev nX6_placeOf : Nat := 13
abbrev nX6_isBefore : Nat := 14
abbrev nX6_hold : Nat := 15
abbrev nX6_release : Nat := 16
abbrev nX7_init : Nat := 17
abbrev nX7_lastTaken : Nat := 18
abbrev nX7_take : Nat := 19
abbrev nX8_init : Nat := 20
abbrev nX8_addMachine : Nat := 21
abbrev nX8_addMember : Nat := 22
abbrev nX8_day : Nat := 23
abbrev nX8_addNeed : Nat := 24
abbrev nX8_induct : Nat := 25
abbrev nX8_isLive : Nat := 26
abbrev nX8_book : Nat := 27
abbrev nX8_await : Nat := 28
abbrev nX8_check : Nat := 29
abbrev nX8_cancel : Nat := 30
abbrev nX8_stateOf : Nat := 31
abbrev nX8_entries : Nat := 32
abbrev nX8_endDay : Nat := 33
abbrev nX8_minuteAt : Nat := 34
abbrev nX8_usedMinutes : Nat := 35
abbrev nX8_usedByMinutes : Nat := 36
abbrev nX8_setupMinutes : Nat := 37
abbrev nX8_firstStart : Nat := 38
abbrev nX8_firstByMinutes : Nat := 39
abbrev nX8_waiting : Nat := 40
abbrev nX8_deliver : Nat := 41
abbrev nX8_cut : Nat := 42
abbrev nX8_freeOf : Nat := 43
abbrev nX8_freeByCuts : Nat := 44
abbrev nX8_setPrice : Nat := 45
abbrev nX8_setRate : Nat := 46
abbrev nX8_addFee : Nat := 47
abbrev nX8_addCap : Nat := 48
abbrev nX8_addDouble : Nat := 49
abbrev nX8_addDiscount : Nat := 50
abbrev nX8_costOf : Nat := 51
abbrev nX8_breakDown : Nat := 52
abbrev nX8_shareOf : Nat := 53
abbrev nX8_pay : Nat := 54
abbrev nX8_owes : Nat := 55
abbrev nX8_owesByEntries : Nat := 56
abbrev nX8_dueOf : Nat := 57
abbrev nX8_takings : Nat := 58
abbrev nX8_use : Nat := 59
abbrev nX8_meanMinutes : Nat := 60
abbrev nX8_isSound : Nat := 61
abbrev nX8_requireRange : Nat := 62
abbrev nX8_requireRoom : Nat := 63
abbrev nX8_requireWish : Nat := 64
abbrev nX8_requireTime : Nat := 65
abbrev nX8_requireMember : Nat := 66
abbrev nX8_memberAt : Nat := 67
abbrev nX8_machineAt : Nat := 68
abbrev nX8_kindAt : Nat := 69
abbrev nX8_entryAt : Nat := 70
abbrev nX8_barAt : Nat := 71
abbrev nX8_leadsTo : Nat := 72
abbrev nX8_hasLive : Nat := 73
abbrev nX8_hasLiveNeeds : Nat := 74
abbrev nX8_hasInduction : Nat := 75
abbrev nX8_cancelWithoutInduction : Nat := 76
abbrev nX8_judge : Nat := 77
abbrev nX8_canBeBooked : Nat := 78
abbrev nX8_isBusy : Nat := 79
abbrev nX8_isFree : Nat := 80
abbrev nX8_makeBooked : Nat := 81
abbrev nX8_bookWaiting : Nat := 82
abbrev nX8_firstToBook : Nat := 83
abbrev nX8_letterOfCancelling : Nat := 84
abbrev nX8_withdraw : Nat := 85
abbrev nX8_letterOfMinute : Nat := 86
abbrev nX8_addLengths : Nat := 87
abbrev nX8_countMinutes : Nat := 88
abbrev nX8_firstStartInGaps : Nat := 89
abbrev nX8_tightestBar : Nat := 90
abbrev nX8_lengthLeft : Nat := 91
abbrev nX8_lengthTaken : Nat := 92
abbrev nX8_priceOf : Nat := 93
abbrev nX8_addLayer : Nat := 94
abbrev nX8_ask : Nat := 95
abbrev nX8_priceOfTime : Nat := 96
abbrev nX8_priceOfCuts : Nat := 97
abbrev nX8_charge : Nat := 98
abbrev nX8_minutesToBlame : Nat := 99
abbrev nX8_split : Nat := 100
abbrev nX8_placeOfGreatest : Nat := 101
abbrev nX8_addDebts : Nat := 102
abbrev nX8_areEntriesSound : Nat := 103
abbrev nX8_clashesWithLater : Nat := 104
abbrev nX8_doBarsAgree : Nat := 105
abbrev nX8_doDebtsAgree : Nat := 106
abbrev nX8_doMinutesAgree : Nat := 107
abbrev nX9_init : Nat := 108
abbrev nX9_thrown : Nat := 109
abbrev nX9_raises : Nat := 110
abbrev nX9_in : Nat := 111
abbrev nX9_isKind : Nat := 112
abbrev nX9_isMember : Nat := 113
abbrev nX9_isMachine : Nat := 114
abbrev nX9_isEntry : Nat := 115
abbrev nX9_addMachine : Nat := 116
abbrev nX9_addMember : Nat := 117
abbrev nX9_day : Nat := 118
abbrev nX9_reaches : Nat := 119
abbrev nX9_live : Nat := 120
abbrev nX9_liveFor : Nat := 121
abbrev nX9_addNeed : Nat := 122
abbrev nX9_induct : Nat := 123
abbrev nX9_isLive : Nat := 124
abbrev nX9_endOf : Nat := 125
abbrev nX9_overlaps : Nat := 126
abbrev nX9_setup : Nat := 127
abbrev nX9_isFree : Nat := 128
abbrev nX9_isBusy : Nat := 129
abbrev nX9_letter : Nat := 130
abbrev nX9_gives : Nat := 131
abbrev nX9_isWork : Nat := 132
abbrev nX9_lacks : Nat := 133
abbrev nX9_adds : Nat := 134
abbrev nX9_book : Nat := 135
abbrev nX9_await : Nat := 136
abbrev nX9_check : Nat := 137
abbrev nX9_cancel : Nat := 138
abbrev nX9_stateOf : Nat := 139
abbrev nX9_entries : Nat := 140
abbrev nX9_endDay : Nat := 141
abbrev nX9_stands : Nat := 142
abbrev nX9_minute : Nat := 143
abbrev nX9_may : Nat := 144
abbrev nX9_minuteAt : Nat := 145
abbrev nX9_minutes : Nat := 146
abbrev nX9_used : Nat := 147
abbrev nX9_usedMinutes : Nat := 148
abbrev nX9_usedByMinutes : Nat := 149
abbrev nX9_setupMinutes : Nat := 150
abbrev nX9_firstStart : Nat := 151
abbrev nX9_firstByMinutes : Nat := 152
abbrev nX9_waiting : Nat := 153
abbrev nX9_deliver : Nat := 154
abbrev nX9_free : Nat := 155
abbrev nX9_cut : Nat := 156
abbrev nX9_freeOf : Nat := 157
abbrev nX9_freeByCuts : Nat := 158
abbrev nX9_setPrice : Nat := 159
abbrev nX9_cost : Nat := 160
abbrev nX9_setRate : Nat := 161
abbrev nX9_lays : Nat := 162
abbrev nX9_addFee : Nat := 163
abbrev nX9_addCap : Nat := 164
abbrev nX9_addDouble : Nat := 165
abbrev nX9_addDiscount : Nat := 166
abbrev nX9_costOf : Nat := 167
abbrev nX9_breakDown : Nat := 168
abbrev nX9_shareOf : Nat := 169
abbrev nX9_owed : Nat := 170
abbrev nX9_pay : Nat := 171
abbrev nX9_owes : Nat := 172
abbrev nX9_owesByEntries : Nat := 173
abbrev nX9_dueOf : Nat := 174
abbrev nX9_takings : Nat := 175
abbrev nX9_use : Nat := 176
abbrev nX9_meanMinutes : Nat := 177
abbrev nX9_isSound : Nat := 178
abbrev nL_addMachine : Nat := 179
abbrev nL_addMember : Nat := 180
abbrev nL_addNeed : Nat := 181
abbrev nL_induct : Nat := 182
abbrev nL_isLive : Nat := 183
abbrev nL_book : Nat := 184
abbrev nL_await : Nat := 185
abbrev nL_check : Nat := 186
abbrev nL_cancel : Nat := 187
abbrev nL_stateOf : Nat := 188
abbrev nL_endDay : Nat := 189
abbrev nL_minuteAt : Nat := 190
abbrev nL_usedMinutes : Nat := 191
abbrev nL_usedByMinutes : Nat := 192
abbrev nL_setupMinutes : Nat := 193
abbrev nL_firstStart : Nat := 194
abbrev nL_firstByMinutes : Nat := 195
abbrev nL_waiting : Nat := 196
abbrev nL_deliver : Nat := 197
abbrev nL_cut : Nat := 198
abbrev nL_freeOf : Nat := 199
abbrev nL_freeByCuts : Nat := 200
abbrev nL_setPrice : Nat := 201
abbrev nL_setRate : Nat := 202
abbrev nL_addFee : Nat := 203
abbrev nL_addCap : Nat := 204
abbrev nL_addDouble : Nat := 205
abbrev nL_addDiscount : Nat := 206
abbrev nL_costOf : Nat := 207
abbrev nL_breakDown : Nat := 208
abbrev nL_shareOf : Nat := 209
abbrev nL_pay : Nat := 210
abbrev nL_owes : Nat := 211
abbrev nL_owesByEntries : Nat := 212
abbrev nL_dueOf : Nat := 213
abbrev nL_use : Nat := 214
abbrev nL_meanMinutes : Nat := 215
abbrev nL_law : Nat := 216
