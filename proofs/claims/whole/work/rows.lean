section
/-! names, by program out of the Statement and the listing: classes, fields, methods -/
def RX0 : String := "CreaturePond"
def TX0 : u_T := fun k => match k with
  | 0 => ("CreaturePond", "shape", "LCreaturePond$Shape;", true)
  | 1 => ("CreaturePond", "now", "LCreaturePond$Pond;", true)
  | 2 => ("CreaturePond", "kept", "LCreaturePond$Pond;", true)
  | 3 => ("CreaturePond", "mind", "LCreaturePond$Mind;", true)
  | 4 => ("CreaturePond", "breeding", "LCreaturePond$Breeding;", true)
  | _ => ("CreaturePond", "isKept", "Z", false)
def tyX0 : Nat → FieldType := fun k => match k with
  | 0 => .object "CreaturePond$Shape"
  | 1 => .object "CreaturePond$Pond"
  | 2 => .object "CreaturePond$Pond"
  | 3 => .object "CreaturePond$Mind"
  | 4 => .object "CreaturePond$Breeding"
  | _ => .boolean
theorem nmX0 : ∀ a, a < 6 → ∀ b, b < 6 → a ≠ b → (TX0 a).2.1 ≠ (TX0 b).2.1 := by decide +kernel
theorem tyX0_ok : ∀ k, k < 6 → parseFieldDescriptor (TX0 k).2.2.1 = some (tyX0 k) := by decide +kernel
def RX1 : String := "CreaturePond$Animal"
def TX1 : u_T := fun k => match k with
  | 0 => ("CreaturePond$Animal", "registers", "[B", true)
  | 1 => ("CreaturePond$Animal", "memory", "[B", true)
  | 2 => ("CreaturePond$Animal", "genes", "[B", true)
  | 3 => ("CreaturePond$Animal", "lives", "Z", false)
  | 4 => ("CreaturePond$Animal", "asked", "Z", false)
  | 5 => ("CreaturePond$Animal", "home", "I", false)
  | 6 => ("CreaturePond$Animal", "heading", "I", false)
  | 7 => ("CreaturePond$Animal", "energy", "I", false)
  | 8 => ("CreaturePond$Animal", "age", "I", false)
  | 9 => ("CreaturePond$Animal", "length", "I", false)
  | 10 => ("CreaturePond$Animal", "place", "I", false)
  | 11 => ("CreaturePond$Animal", "firstParent", "I", false)
  | 12 => ("CreaturePond$Animal", "secondParent", "I", false)
  | _ => ("CreaturePond$Animal", "generation", "I", false)
def tyX1 : Nat → FieldType := fun k => match k with
  | 0 => .array .byte
  | 1 => .array .byte
  | 2 => .array .byte
  | 3 => .boolean
  | 4 => .boolean
  | 5 => .int
  | 6 => .int
  | 7 => .int
  | 8 => .int
  | 9 => .int
  | 10 => .int
  | 11 => .int
  | 12 => .int
  | _ => .int
theorem nmX1 : ∀ a, a < 14 → ∀ b, b < 14 → a ≠ b → (TX1 a).2.1 ≠ (TX1 b).2.1 := by decide +kernel
theorem tyX1_ok : ∀ k, k < 14 → parseFieldDescriptor (TX1 k).2.2.1 = some (tyX1 k) := by decide +kernel
def RX2 : String := "CreaturePond$Breeding"
def TX2 : u_T := fun k => match k with
  | _ => ("CreaturePond$Breeding", "pond", "LCreaturePond$Pond;", true)
def tyX2 : Nat → FieldType := fun k => match k with
  | _ => .object "CreaturePond$Pond"
theorem nmX2 : ∀ a, a < 1 → ∀ b, b < 1 → a ≠ b → (TX2 a).2.1 ≠ (TX2 b).2.1 := by decide +kernel
theorem tyX2_ok : ∀ k, k < 1 → parseFieldDescriptor (TX2 k).2.2.1 = some (tyX2 k) := by decide +kernel
def RX3 : String := "CreaturePond$Mind"
def TX3 : u_T := fun k => match k with
  | _ => ("CreaturePond$Mind", "pond", "LCreaturePond$Pond;", true)
def tyX3 : Nat → FieldType := fun k => match k with
  | _ => .object "CreaturePond$Pond"
theorem nmX3 : ∀ a, a < 1 → ∀ b, b < 1 → a ≠ b → (TX3 a).2.1 ≠ (TX3 b).2.1 := by decide +kernel
theorem tyX3_ok : ∀ k, k < 1 → parseFieldDescriptor (TX3 k).2.2.1 = some (tyX3 k) := by decide +kernel
def RX4 : String := "CreaturePond$Pond"
def TX4 : u_T := fun k => match k with
  | 0 => ("CreaturePond$Pond", "shape", "LCreaturePond$Shape;", true)
  | 1 => ("CreaturePond$Pond", "grains", "[I", true)
  | 2 => ("CreaturePond$Pond", "marks", "[B", true)
  | 3 => ("CreaturePond$Pond", "dwellers", "[I", true)
  | 4 => ("CreaturePond$Pond", "animals", "[LCreaturePond$Animal;", true)
  | 5 => ("CreaturePond$Pond", "stored", "I", false)
  | 6 => ("CreaturePond$Pond", "sun", "I", false)
  | 7 => ("CreaturePond$Pond", "stream", "I", false)
  | 8 => ("CreaturePond$Pond", "turn", "I", false)
  | 9 => ("CreaturePond$Pond", "births", "I", false)
  | 10 => ("CreaturePond$Pond", "deaths", "I", false)
  | _ => ("CreaturePond$Pond", "ticks", "I", false)
def tyX4 : Nat → FieldType := fun k => match k with
  | 0 => .object "CreaturePond$Shape"
  | 1 => .array .int
  | 2 => .array .byte
  | 3 => .array .int
  | 4 => .array (.object "CreaturePond$Animal")
  | 5 => .int
  | 6 => .int
  | 7 => .int
  | 8 => .int
  | 9 => .int
  | 10 => .int
  | _ => .int
theorem nmX4 : ∀ a, a < 12 → ∀ b, b < 12 → a ≠ b → (TX4 a).2.1 ≠ (TX4 b).2.1 := by decide +kernel
theorem tyX4_ok : ∀ k, k < 12 → parseFieldDescriptor (TX4 k).2.2.1 = some (tyX4 k) := by decide +kernel
def RX5 : String := "CreaturePond$Shape"
def TX5 : u_T := fun k => match k with
  | 0 => ("CreaturePond$Shape", "width", "I", true)
  | 1 => ("CreaturePond$Shape", "height", "I", true)
  | 2 => ("CreaturePond$Shape", "cells", "I", true)
  | _ => ("CreaturePond$Shape", "neighbours", "[I", true)
def tyX5 : Nat → FieldType := fun k => match k with
  | 0 => .int
  | 1 => .int
  | 2 => .int
  | _ => .array .int
theorem nmX5 : ∀ a, a < 4 → ∀ b, b < 4 → a ≠ b → (TX5 a).2.1 ≠ (TX5 b).2.1 := by decide +kernel
theorem tyX5_ok : ∀ k, k < 4 → parseFieldDescriptor (TX5 k).2.2.1 = some (tyX5 k) := by decide +kernel
def RX6 : String := "CreaturePondModel"
def TX6 : u_T := fun k => match k with
  | 0 => ("CreaturePondModel", "thrown", "I", false)
  | 1 => ("CreaturePondModel", "w", "I", true)
  | 2 => ("CreaturePondModel", "h", "I", true)
  | 3 => ("CreaturePondModel", "now", "[I", true)
  | 4 => ("CreaturePondModel", "kept", "Z", false)
  | _ => ("CreaturePondModel", "was", "[I", true)
def tyX6 : Nat → FieldType := fun k => match k with
  | 0 => .int
  | 1 => .int
  | 2 => .int
  | 3 => .array .int
  | 4 => .boolean
  | _ => .array .int
theorem nmX6 : ∀ a, a < 6 → ∀ b, b < 6 → a ≠ b → (TX6 a).2.1 ≠ (TX6 b).2.1 := by decide +kernel
theorem tyX6_ok : ∀ k, k < 6 → parseFieldDescriptor (TX6 k).2.2.1 = some (tyX6 k) := by decide +kernel
abbrev cX0_init : ByteArray := prog_1_method_1_code
def yX0_init : MethodName := ⟨"CreaturePond", "<init>", "(II)V"⟩
theorem hdX0_init : yX0_init.cls ≠ "java/lang/invoke/MethodHandle" ∧ yX0_init.cls ≠ "java/lang/invoke/VarHandle" ∧ (parseMethodDescriptor yX0_init.desc).map (fun d => d.parameters.length) = some 2 := by decide +kernel
abbrev cX5_init : ByteArray := prog_6_method_1_code
def yX5_init : MethodName := ⟨"CreaturePond$Shape", "<init>", "(II)V"⟩
theorem hdX5_init : yX5_init.cls ≠ "java/lang/invoke/MethodHandle" ∧ yX5_init.cls ≠ "java/lang/invoke/VarHandle" ∧ (parseMethodDescriptor yX5_init.desc).map (fun d => d.parameters.length) = some 2 := by decide +kernel
abbrev cX5_columnOf : ByteArray := prog_6_method_3_code
def yX5_columnOf : MethodName := ⟨"CreaturePond$Shape", "columnOf", "(I)I"⟩
theorem hdX5_columnOf : yX5_columnOf.cls ≠ "java/lang/invoke/MethodHandle" ∧ yX5_columnOf.cls ≠ "java/lang/invoke/VarHandle" ∧ (parseMethodDescriptor yX5_columnOf.desc).map (fun d => d.parameters.length) = some 1 := by decide +kernel
abbrev cX5_rowOf : ByteArray := prog_6_method_4_code
def yX5_rowOf : MethodName := ⟨"CreaturePond$Shape", "rowOf", "(I)I"⟩
theorem hdX5_rowOf : yX5_rowOf.cls ≠ "java/lang/invoke/MethodHandle" ∧ yX5_rowOf.cls ≠ "java/lang/invoke/VarHandle" ∧ (parseMethodDescriptor yX5_rowOf.desc).map (fun d => d.parameters.length) = some 1 := by decide +kernel
abbrev cX5_cellAt : ByteArray := prog_6_method_2_code
def yX5_cellAt : MethodName := ⟨"CreaturePond$Shape", "cellAt", "(II)I"⟩
theorem hdX5_cellAt : yX5_cellAt.cls ≠ "java/lang/invoke/MethodHandle" ∧ yX5_cellAt.cls ≠ "java/lang/invoke/VarHandle" ∧ (parseMethodDescriptor yX5_cellAt.desc).map (fun d => d.parameters.length) = some 2 := by decide +kernel
abbrev cJ_floorMod : ByteArray := prog_13_method_50_code
def yJ_floorMod : MethodName := ⟨"java/lang/Math", "floorMod", "(II)I"⟩
theorem hdJ_floorMod : yJ_floorMod.cls ≠ "java/lang/invoke/MethodHandle" ∧ yJ_floorMod.cls ≠ "java/lang/invoke/VarHandle" ∧ (parseMethodDescriptor yJ_floorMod.desc).map (fun d => d.parameters.length) = some 2 := by decide +kernel
abbrev cX4_init : ByteArray := prog_5_method_1_code
def yX4_init : MethodName := ⟨"CreaturePond$Pond", "<init>", "(LCreaturePond$Shape;)V"⟩
theorem hdX4_init : yX4_init.cls ≠ "java/lang/invoke/MethodHandle" ∧ yX4_init.cls ≠ "java/lang/invoke/VarHandle" ∧ (parseMethodDescriptor yX4_init.desc).map (fun d => d.parameters.length) = some 1 := by decide +kernel
abbrev cX1_init : ByteArray := prog_2_method_1_code
def yX1_init : MethodName := ⟨"CreaturePond$Animal", "<init>", "()V"⟩
theorem hdX1_init : yX1_init.cls ≠ "java/lang/invoke/MethodHandle" ∧ yX1_init.cls ≠ "java/lang/invoke/VarHandle" ∧ (parseMethodDescriptor yX1_init.desc).map (fun d => d.parameters.length) = some 0 := by decide +kernel
abbrev cX3_init : ByteArray := prog_4_method_1_code
def yX3_init : MethodName := ⟨"CreaturePond$Mind", "<init>", "(LCreaturePond$Pond;)V"⟩
theorem hdX3_init : yX3_init.cls ≠ "java/lang/invoke/MethodHandle" ∧ yX3_init.cls ≠ "java/lang/invoke/VarHandle" ∧ (parseMethodDescriptor yX3_init.desc).map (fun d => d.parameters.length) = some 1 := by decide +kernel
abbrev cX2_init : ByteArray := prog_3_method_1_code
def yX2_init : MethodName := ⟨"CreaturePond$Breeding", "<init>", "(LCreaturePond$Pond;)V"⟩
theorem hdX2_init : yX2_init.cls ≠ "java/lang/invoke/MethodHandle" ∧ yX2_init.cls ≠ "java/lang/invoke/VarHandle" ∧ (parseMethodDescriptor yX2_init.desc).map (fun d => d.parameters.length) = some 1 := by decide +kernel
abbrev cX0_set : ByteArray := prog_1_method_2_code
def yX0_set : MethodName := ⟨"CreaturePond", "set", "(II)Z"⟩
theorem hdX0_set : yX0_set.cls ≠ "java/lang/invoke/MethodHandle" ∧ yX0_set.cls ≠ "java/lang/invoke/VarHandle" ∧ (parseMethodDescriptor yX0_set.desc).map (fun d => d.parameters.length) = some 2 := by decide +kernel
abbrev cX0_store : ByteArray := prog_1_method_3_code
def yX0_store : MethodName := ⟨"CreaturePond", "store", "(I)Z"⟩
theorem hdX0_store : yX0_store.cls ≠ "java/lang/invoke/MethodHandle" ∧ yX0_store.cls ≠ "java/lang/invoke/VarHandle" ∧ (parseMethodDescriptor yX0_store.desc).map (fun d => d.parameters.length) = some 1 := by decide +kernel
abbrev cX0_grain : ByteArray := prog_1_method_4_code
def yX0_grain : MethodName := ⟨"CreaturePond", "grain", "(III)Z"⟩
theorem hdX0_grain : yX0_grain.cls ≠ "java/lang/invoke/MethodHandle" ∧ yX0_grain.cls ≠ "java/lang/invoke/VarHandle" ∧ (parseMethodDescriptor yX0_grain.desc).map (fun d => d.parameters.length) = some 3 := by decide +kernel
abbrev cX0_cell : ByteArray := prog_1_method_8_code
def yX0_cell : MethodName := ⟨"CreaturePond", "cell", "(III)I"⟩
theorem hdX0_cell : yX0_cell.cls ≠ "java/lang/invoke/MethodHandle" ∧ yX0_cell.cls ≠ "java/lang/invoke/VarHandle" ∧ (parseMethodDescriptor yX0_cell.desc).map (fun d => d.parameters.length) = some 3 := by decide +kernel
abbrev cX0_field : ByteArray := prog_1_method_9_code
def yX0_field : MethodName := ⟨"CreaturePond", "field", "(II)I"⟩
theorem hdX0_field : yX0_field.cls ≠ "java/lang/invoke/MethodHandle" ∧ yX0_field.cls ≠ "java/lang/invoke/VarHandle" ∧ (parseMethodDescriptor yX0_field.desc).map (fun d => d.parameters.length) = some 2 := by decide +kernel
abbrev cX4_has : ByteArray := prog_5_method_4_code
def yX4_has : MethodName := ⟨"CreaturePond$Pond", "has", "(I)Z"⟩
theorem hdX4_has : yX4_has.cls ≠ "java/lang/invoke/MethodHandle" ∧ yX4_has.cls ≠ "java/lang/invoke/VarHandle" ∧ (parseMethodDescriptor yX4_has.desc).map (fun d => d.parameters.length) = some 1 := by decide +kernel
abbrev cX1_trait : ByteArray := prog_2_method_7_code
def yX1_trait : MethodName := ⟨"CreaturePond$Animal", "trait", "(I)I"⟩
theorem hdX1_trait : yX1_trait.cls ≠ "java/lang/invoke/MethodHandle" ∧ yX1_trait.cls ≠ "java/lang/invoke/VarHandle" ∧ (parseMethodDescriptor yX1_trait.desc).map (fun d => d.parameters.length) = some 1 := by decide +kernel
abbrev cX0_total : ByteArray := prog_1_method_11_code
def yX0_total : MethodName := ⟨"CreaturePond", "total", "(I)I"⟩
theorem hdX0_total : yX0_total.cls ≠ "java/lang/invoke/MethodHandle" ∧ yX0_total.cls ≠ "java/lang/invoke/VarHandle" ∧ (parseMethodDescriptor yX0_total.desc).map (fun d => d.parameters.length) = some 1 := by decide +kernel
abbrev cX4_energyOfAll : ByteArray := prog_5_method_7_code
def yX4_energyOfAll : MethodName := ⟨"CreaturePond$Pond", "energyOfAll", "()I"⟩
theorem hdX4_energyOfAll : yX4_energyOfAll.cls ≠ "java/lang/invoke/MethodHandle" ∧ yX4_energyOfAll.cls ≠ "java/lang/invoke/VarHandle" ∧ (parseMethodDescriptor yX4_energyOfAll.desc).map (fun d => d.parameters.length) = some 0 := by decide +kernel
abbrev cX4_grainOfAll : ByteArray := prog_5_method_8_code
def yX4_grainOfAll : MethodName := ⟨"CreaturePond$Pond", "grainOfAll", "()I"⟩
theorem hdX4_grainOfAll : yX4_grainOfAll.cls ≠ "java/lang/invoke/MethodHandle" ∧ yX4_grainOfAll.cls ≠ "java/lang/invoke/VarHandle" ∧ (parseMethodDescriptor yX4_grainOfAll.desc).map (fun d => d.parameters.length) = some 0 := by decide +kernel
abbrev cX4_countAnimals : ByteArray := prog_5_method_6_code
def yX4_countAnimals : MethodName := ⟨"CreaturePond$Pond", "countAnimals", "()I"⟩
theorem hdX4_countAnimals : yX4_countAnimals.cls ≠ "java/lang/invoke/MethodHandle" ∧ yX4_countAnimals.cls ≠ "java/lang/invoke/VarHandle" ∧ (parseMethodDescriptor yX4_countAnimals.desc).map (fun d => d.parameters.length) = some 0 := by decide +kernel
abbrev cX0_keep : ByteArray := prog_1_method_12_code
def yX0_keep : MethodName := ⟨"CreaturePond", "keep", "()V"⟩
theorem hdX0_keep : yX0_keep.cls ≠ "java/lang/invoke/MethodHandle" ∧ yX0_keep.cls ≠ "java/lang/invoke/VarHandle" ∧ (parseMethodDescriptor yX0_keep.desc).map (fun d => d.parameters.length) = some 0 := by decide +kernel
abbrev cX4_copyFrom : ByteArray := prog_5_method_2_code
def yX4_copyFrom : MethodName := ⟨"CreaturePond$Pond", "copyFrom", "(LCreaturePond$Pond;)V"⟩
theorem hdX4_copyFrom : yX4_copyFrom.cls ≠ "java/lang/invoke/MethodHandle" ∧ yX4_copyFrom.cls ≠ "java/lang/invoke/VarHandle" ∧ (parseMethodDescriptor yX4_copyFrom.desc).map (fun d => d.parameters.length) = some 1 := by decide +kernel
abbrev cX1_copyFrom : ByteArray := prog_2_method_3_code
def yX1_copyFrom : MethodName := ⟨"CreaturePond$Animal", "copyFrom", "(LCreaturePond$Animal;)V"⟩
theorem hdX1_copyFrom : yX1_copyFrom.cls ≠ "java/lang/invoke/MethodHandle" ∧ yX1_copyFrom.cls ≠ "java/lang/invoke/VarHandle" ∧ (parseMethodDescriptor yX1_copyFrom.desc).map (fun d => d.parameters.length) = some 1 := by decide +kernel
abbrev cX0_back : ByteArray := prog_1_method_14_code
def yX0_back : MethodName := ⟨"CreaturePond", "back", "()Z"⟩
theorem hdX0_back : yX0_back.cls ≠ "java/lang/invoke/MethodHandle" ∧ yX0_back.cls ≠ "java/lang/invoke/VarHandle" ∧ (parseMethodDescriptor yX0_back.desc).map (fun d => d.parameters.length) = some 0 := by decide +kernel
abbrev cL_cell : ByteArray := method_2_code
def yL_cell : MethodName := ⟨"CreaturePondLaw", "cell", "([II)I"⟩
theorem hdL_cell : yL_cell.cls ≠ "java/lang/invoke/MethodHandle" ∧ yL_cell.cls ≠ "java/lang/invoke/VarHandle" ∧ (parseMethodDescriptor yL_cell.desc).map (fun d => d.parameters.length) = some 2 := by decide +kernel
abbrev cL_animal : ByteArray := method_3_code
def yL_animal : MethodName := ⟨"CreaturePondLaw", "animal", "(LCreaturePond;IIII[J)I"⟩
theorem hdL_animal : yL_animal.cls ≠ "java/lang/invoke/MethodHandle" ∧ yL_animal.cls ≠ "java/lang/invoke/VarHandle" ∧ (parseMethodDescriptor yL_animal.desc).map (fun d => d.parameters.length) = some 6 := by decide +kernel
abbrev cX0_animal : ByteArray := prog_1_method_5_code
def yX0_animal : MethodName := ⟨"CreaturePond", "animal", "(IIII)I"⟩
theorem hdX0_animal : yX0_animal.cls ≠ "java/lang/invoke/MethodHandle" ∧ yX0_animal.cls ≠ "java/lang/invoke/VarHandle" ∧ (parseMethodDescriptor yX0_animal.desc).map (fun d => d.parameters.length) = some 4 := by decide +kernel
abbrev cX4_freeNumber : ByteArray := prog_5_method_5_code
def yX4_freeNumber : MethodName := ⟨"CreaturePond$Pond", "freeNumber", "()I"⟩
theorem hdX4_freeNumber : yX4_freeNumber.cls ≠ "java/lang/invoke/MethodHandle" ∧ yX4_freeNumber.cls ≠ "java/lang/invoke/VarHandle" ∧ (parseMethodDescriptor yX4_freeNumber.desc).map (fun d => d.parameters.length) = some 0 := by decide +kernel
abbrev cX4_settle : ByteArray := prog_5_method_9_code
def yX4_settle : MethodName := ⟨"CreaturePond$Pond", "settle", "(IIII)LCreaturePond$Animal;"⟩
theorem hdX4_settle : yX4_settle.cls ≠ "java/lang/invoke/MethodHandle" ∧ yX4_settle.cls ≠ "java/lang/invoke/VarHandle" ∧ (parseMethodDescriptor yX4_settle.desc).map (fun d => d.parameters.length) = some 4 := by decide +kernel
abbrev cX1_begin : ByteArray := prog_2_method_2_code
def yX1_begin : MethodName := ⟨"CreaturePond$Animal", "begin", "(III)V"⟩
theorem hdX1_begin : yX1_begin.cls ≠ "java/lang/invoke/MethodHandle" ∧ yX1_begin.cls ≠ "java/lang/invoke/VarHandle" ∧ (parseMethodDescriptor yX1_begin.desc).map (fun d => d.parameters.length) = some 3 := by decide +kernel
abbrev cL_code : ByteArray := method_4_code
def yL_code : MethodName := ⟨"CreaturePondLaw", "code", "(LCreaturePond;IIJ[J)I"⟩
theorem hdL_code : yL_code.cls ≠ "java/lang/invoke/MethodHandle" ∧ yL_code.cls ≠ "java/lang/invoke/VarHandle" ∧ (parseMethodDescriptor yL_code.desc).map (fun d => d.parameters.length) = some 5 := by decide +kernel
abbrev cX0_code : ByteArray := prog_1_method_6_code
def yX0_code : MethodName := ⟨"CreaturePond", "code", "(IIJ)I"⟩
theorem hdX0_code : yX0_code.cls ≠ "java/lang/invoke/MethodHandle" ∧ yX0_code.cls ≠ "java/lang/invoke/VarHandle" ∧ (parseMethodDescriptor yX0_code.desc).map (fun d => d.parameters.length) = some 3 := by decide +kernel
abbrev cX1_grow : ByteArray := prog_2_method_4_code
def yX1_grow : MethodName := ⟨"CreaturePond$Animal", "grow", "(B)V"⟩
theorem hdX1_grow : yX1_grow.cls ≠ "java/lang/invoke/MethodHandle" ∧ yX1_grow.cls ≠ "java/lang/invoke/VarHandle" ∧ (parseMethodDescriptor yX1_grow.desc).map (fun d => d.parameters.length) = some 1 := by decide +kernel
abbrev cL_tick : ByteArray := method_5_code
def yL_tick : MethodName := ⟨"CreaturePondLaw", "tick", "(LCreaturePond;I[J)I"⟩
theorem hdL_tick : yL_tick.cls ≠ "java/lang/invoke/MethodHandle" ∧ yL_tick.cls ≠ "java/lang/invoke/VarHandle" ∧ (parseMethodDescriptor yL_tick.desc).map (fun d => d.parameters.length) = some 3 := by decide +kernel
abbrev cX0_tick : ByteArray := prog_1_method_7_code
def yX0_tick : MethodName := ⟨"CreaturePond", "tick", "(I)I"⟩
theorem hdX0_tick : yX0_tick.cls ≠ "java/lang/invoke/MethodHandle" ∧ yX0_tick.cls ≠ "java/lang/invoke/VarHandle" ∧ (parseMethodDescriptor yX0_tick.desc).map (fun d => d.parameters.length) = some 1 := by decide +kernel
abbrev cX4_shine : ByteArray := prog_5_method_12_code
def yX4_shine : MethodName := ⟨"CreaturePond$Pond", "shine", "()V"⟩
theorem hdX4_shine : yX4_shine.cls ≠ "java/lang/invoke/MethodHandle" ∧ yX4_shine.cls ≠ "java/lang/invoke/VarHandle" ∧ (parseMethodDescriptor yX4_shine.desc).map (fun d => d.parameters.length) = some 0 := by decide +kernel
abbrev cX3_moveAll : ByteArray := prog_4_method_2_code
def yX3_moveAll : MethodName := ⟨"CreaturePond$Mind", "moveAll", "()V"⟩
theorem hdX3_moveAll : yX3_moveAll.cls ≠ "java/lang/invoke/MethodHandle" ∧ yX3_moveAll.cls ≠ "java/lang/invoke/VarHandle" ∧ (parseMethodDescriptor yX3_moveAll.desc).map (fun d => d.parameters.length) = some 0 := by decide +kernel
abbrev cX3_move : ByteArray := prog_4_method_3_code
def yX3_move : MethodName := ⟨"CreaturePond$Mind", "move", "(LCreaturePond$Animal;)V"⟩
theorem hdX3_move : yX3_move.cls ≠ "java/lang/invoke/MethodHandle" ∧ yX3_move.cls ≠ "java/lang/invoke/VarHandle" ∧ (parseMethodDescriptor yX3_move.desc).map (fun d => d.parameters.length) = some 1 := by decide +kernel
abbrev cX4_pay : ByteArray := prog_5_method_10_code
def yX4_pay : MethodName := ⟨"CreaturePond$Pond", "pay", "(LCreaturePond$Animal;I)V"⟩
theorem hdX4_pay : yX4_pay.cls ≠ "java/lang/invoke/MethodHandle" ∧ yX4_pay.cls ≠ "java/lang/invoke/VarHandle" ∧ (parseMethodDescriptor yX4_pay.desc).map (fun d => d.parameters.length) = some 2 := by decide +kernel
abbrev cX3_operate : ByteArray := prog_4_method_4_code
def yX3_operate : MethodName := ⟨"CreaturePond$Mind", "operate", "(LCreaturePond$Animal;)Z"⟩
theorem hdX3_operate : yX3_operate.cls ≠ "java/lang/invoke/MethodHandle" ∧ yX3_operate.cls ≠ "java/lang/invoke/VarHandle" ∧ (parseMethodDescriptor yX3_operate.desc).map (fun d => d.parameters.length) = some 1 := by decide +kernel
abbrev cX1_geneBehindPlace : ByteArray := prog_2_method_6_code
def yX1_geneBehindPlace : MethodName := ⟨"CreaturePond$Animal", "geneBehindPlace", "(I)B"⟩
theorem hdX1_geneBehindPlace : yX1_geneBehindPlace.cls ≠ "java/lang/invoke/MethodHandle" ∧ yX1_geneBehindPlace.cls ≠ "java/lang/invoke/VarHandle" ∧ (parseMethodDescriptor yX1_geneBehindPlace.desc).map (fun d => d.parameters.length) = some 1 := by decide +kernel
abbrev cX1_wrapped : ByteArray := prog_2_method_5_code
def yX1_wrapped : MethodName := ⟨"CreaturePond$Animal", "wrapped", "(I)I"⟩
theorem hdX1_wrapped : yX1_wrapped.cls ≠ "java/lang/invoke/MethodHandle" ∧ yX1_wrapped.cls ≠ "java/lang/invoke/VarHandle" ∧ (parseMethodDescriptor yX1_wrapped.desc).map (fun d => d.parameters.length) = some 1 := by decide +kernel
abbrev cX3_act : ByteArray := prog_4_method_10_code
def yX3_act : MethodName := ⟨"CreaturePond$Mind", "act", "(LCreaturePond$Animal;IB)V"⟩
theorem hdX3_act : yX3_act.cls ≠ "java/lang/invoke/MethodHandle" ∧ yX3_act.cls ≠ "java/lang/invoke/VarHandle" ∧ (parseMethodDescriptor yX3_act.desc).map (fun d => d.parameters.length) = some 3 := by decide +kernel
abbrev cX3_goAhead : ByteArray := prog_4_method_11_code
def yX3_goAhead : MethodName := ⟨"CreaturePond$Mind", "goAhead", "(LCreaturePond$Animal;)V"⟩
theorem hdX3_goAhead : yX3_goAhead.cls ≠ "java/lang/invoke/MethodHandle" ∧ yX3_goAhead.cls ≠ "java/lang/invoke/VarHandle" ∧ (parseMethodDescriptor yX3_goAhead.desc).map (fun d => d.parameters.length) = some 1 := by decide +kernel
abbrev cX4_aheadOf : ByteArray := prog_5_method_3_code
def yX4_aheadOf : MethodName := ⟨"CreaturePond$Pond", "aheadOf", "(LCreaturePond$Animal;)I"⟩
theorem hdX4_aheadOf : yX4_aheadOf.cls ≠ "java/lang/invoke/MethodHandle" ∧ yX4_aheadOf.cls ≠ "java/lang/invoke/VarHandle" ∧ (parseMethodDescriptor yX4_aheadOf.desc).map (fun d => d.parameters.length) = some 1 := by decide +kernel
abbrev cX3_eat : ByteArray := prog_4_method_12_code
def yX3_eat : MethodName := ⟨"CreaturePond$Mind", "eat", "(LCreaturePond$Animal;)V"⟩
theorem hdX3_eat : yX3_eat.cls ≠ "java/lang/invoke/MethodHandle" ∧ yX3_eat.cls ≠ "java/lang/invoke/VarHandle" ∧ (parseMethodDescriptor yX3_eat.desc).map (fun d => d.parameters.length) = some 1 := by decide +kernel
abbrev cX3_give : ByteArray := prog_4_method_13_code
def yX3_give : MethodName := ⟨"CreaturePond$Mind", "give", "(LCreaturePond$Animal;I)V"⟩
theorem hdX3_give : yX3_give.cls ≠ "java/lang/invoke/MethodHandle" ∧ yX3_give.cls ≠ "java/lang/invoke/VarHandle" ∧ (parseMethodDescriptor yX3_give.desc).map (fun d => d.parameters.length) = some 2 := by decide +kernel
abbrev cX3_memoryIndex : ByteArray := prog_4_method_5_code
def yX3_memoryIndex : MethodName := ⟨"CreaturePond$Mind", "memoryIndex", "(LCreaturePond$Animal;B)I"⟩
theorem hdX3_memoryIndex : yX3_memoryIndex.cls ≠ "java/lang/invoke/MethodHandle" ∧ yX3_memoryIndex.cls ≠ "java/lang/invoke/VarHandle" ∧ (parseMethodDescriptor yX3_memoryIndex.desc).map (fun d => d.parameters.length) = some 2 := by decide +kernel
abbrev cX3_jump : ByteArray := prog_4_method_6_code
def yX3_jump : MethodName := ⟨"CreaturePond$Mind", "jump", "(LCreaturePond$Animal;B)V"⟩
theorem hdX3_jump : yX3_jump.cls ≠ "java/lang/invoke/MethodHandle" ∧ yX3_jump.cls ≠ "java/lang/invoke/VarHandle" ∧ (parseMethodDescriptor yX3_jump.desc).map (fun d => d.parameters.length) = some 2 := by decide +kernel
abbrev cX3_reckon : ByteArray := prog_4_method_7_code
def yX3_reckon : MethodName := ⟨"CreaturePond$Mind", "reckon", "(LCreaturePond$Animal;IBB)I"⟩
theorem hdX3_reckon : yX3_reckon.cls ≠ "java/lang/invoke/MethodHandle" ∧ yX3_reckon.cls ≠ "java/lang/invoke/VarHandle" ∧ (parseMethodDescriptor yX3_reckon.desc).map (fun d => d.parameters.length) = some 4 := by decide +kernel
abbrev cX3_seenAhead : ByteArray := prog_4_method_8_code
def yX3_seenAhead : MethodName := ⟨"CreaturePond$Mind", "seenAhead", "(LCreaturePond$Animal;I)I"⟩
theorem hdX3_seenAhead : yX3_seenAhead.cls ≠ "java/lang/invoke/MethodHandle" ∧ yX3_seenAhead.cls ≠ "java/lang/invoke/VarHandle" ∧ (parseMethodDescriptor yX3_seenAhead.desc).map (fun d => d.parameters.length) = some 2 := by decide +kernel
abbrev cX3_seenInside : ByteArray := prog_4_method_9_code
def yX3_seenInside : MethodName := ⟨"CreaturePond$Mind", "seenInside", "(LCreaturePond$Animal;I)I"⟩
theorem hdX3_seenInside : yX3_seenInside.cls ≠ "java/lang/invoke/MethodHandle" ∧ yX3_seenInside.cls ≠ "java/lang/invoke/VarHandle" ∧ (parseMethodDescriptor yX3_seenInside.desc).map (fun d => d.parameters.length) = some 2 := by decide +kernel
abbrev cX2_breedAll : ByteArray := prog_3_method_2_code
def yX2_breedAll : MethodName := ⟨"CreaturePond$Breeding", "breedAll", "()V"⟩
theorem hdX2_breedAll : yX2_breedAll.cls ≠ "java/lang/invoke/MethodHandle" ∧ yX2_breedAll.cls ≠ "java/lang/invoke/VarHandle" ∧ (parseMethodDescriptor yX2_breedAll.desc).map (fun d => d.parameters.length) = some 0 := by decide +kernel
abbrev cX2_greaterOfPair : ByteArray := prog_3_method_3_code
def yX2_greaterOfPair : MethodName := ⟨"CreaturePond$Breeding", "greaterOfPair", "(I)I"⟩
theorem hdX2_greaterOfPair : yX2_greaterOfPair.cls ≠ "java/lang/invoke/MethodHandle" ∧ yX2_greaterOfPair.cls ≠ "java/lang/invoke/VarHandle" ∧ (parseMethodDescriptor yX2_greaterOfPair.desc).map (fun d => d.parameters.length) = some 1 := by decide +kernel
abbrev cX2_breed : ByteArray := prog_3_method_4_code
def yX2_breed : MethodName := ⟨"CreaturePond$Breeding", "breed", "(II)V"⟩
theorem hdX2_breed : yX2_breed.cls ≠ "java/lang/invoke/MethodHandle" ∧ yX2_breed.cls ≠ "java/lang/invoke/VarHandle" ∧ (parseMethodDescriptor yX2_breed.desc).map (fun d => d.parameters.length) = some 2 := by decide +kernel
abbrev cX2_firstFreeAround : ByteArray := prog_3_method_5_code
def yX2_firstFreeAround : MethodName := ⟨"CreaturePond$Breeding", "firstFreeAround", "(I)I"⟩
theorem hdX2_firstFreeAround : yX2_firstFreeAround.cls ≠ "java/lang/invoke/MethodHandle" ∧ yX2_firstFreeAround.cls ≠ "java/lang/invoke/VarHandle" ∧ (parseMethodDescriptor yX2_firstFreeAround.desc).map (fun d => d.parameters.length) = some 1 := by decide +kernel
abbrev cX5_nextTo : ByteArray := prog_6_method_5_code
def yX5_nextTo : MethodName := ⟨"CreaturePond$Shape", "nextTo", "(II)I"⟩
theorem hdX5_nextTo : yX5_nextTo.cls ≠ "java/lang/invoke/MethodHandle" ∧ yX5_nextTo.cls ≠ "java/lang/invoke/VarHandle" ∧ (parseMethodDescriptor yX5_nextTo.desc).map (fun d => d.parameters.length) = some 2 := by decide +kernel
abbrev cX2_payAndHalve : ByteArray := prog_3_method_6_code
def yX2_payAndHalve : MethodName := ⟨"CreaturePond$Breeding", "payAndHalve", "(LCreaturePond$Animal;)I"⟩
theorem hdX2_payAndHalve : yX2_payAndHalve.cls ≠ "java/lang/invoke/MethodHandle" ∧ yX2_payAndHalve.cls ≠ "java/lang/invoke/VarHandle" ∧ (parseMethodDescriptor yX2_payAndHalve.desc).map (fun d => d.parameters.length) = some 1 := by decide +kernel
abbrev cX2_mixCode : ByteArray := prog_3_method_7_code
def yX2_mixCode : MethodName := ⟨"CreaturePond$Breeding", "mixCode", "(LCreaturePond$Animal;LCreaturePond$Animal;LCreaturePond$Animal;)V"⟩
theorem hdX2_mixCode : yX2_mixCode.cls ≠ "java/lang/invoke/MethodHandle" ∧ yX2_mixCode.cls ≠ "java/lang/invoke/VarHandle" ∧ (parseMethodDescriptor yX2_mixCode.desc).map (fun d => d.parameters.length) = some 3 := by decide +kernel
abbrev cX4_nextNumber : ByteArray := prog_5_method_11_code
def yX4_nextNumber : MethodName := ⟨"CreaturePond$Pond", "nextNumber", "()I"⟩
theorem hdX4_nextNumber : yX4_nextNumber.cls ≠ "java/lang/invoke/MethodHandle" ∧ yX4_nextNumber.cls ≠ "java/lang/invoke/VarHandle" ∧ (parseMethodDescriptor yX4_nextNumber.desc).map (fun d => d.parameters.length) = some 0 := by decide +kernel
abbrev cX2_growFrom : ByteArray := prog_3_method_8_code
def yX2_growFrom : MethodName := ⟨"CreaturePond$Breeding", "growFrom", "(LCreaturePond$Animal;LCreaturePond$Animal;II)V"⟩
theorem hdX2_growFrom : yX2_growFrom.cls ≠ "java/lang/invoke/MethodHandle" ∧ yX2_growFrom.cls ≠ "java/lang/invoke/VarHandle" ∧ (parseMethodDescriptor yX2_growFrom.desc).map (fun d => d.parameters.length) = some 4 := by decide +kernel
abbrev cX2_changeCode : ByteArray := prog_3_method_9_code
def yX2_changeCode : MethodName := ⟨"CreaturePond$Breeding", "changeCode", "(LCreaturePond$Animal;)V"⟩
theorem hdX2_changeCode : yX2_changeCode.cls ≠ "java/lang/invoke/MethodHandle" ∧ yX2_changeCode.cls ≠ "java/lang/invoke/VarHandle" ∧ (parseMethodDescriptor yX2_changeCode.desc).map (fun d => d.parameters.length) = some 1 := by decide +kernel
abbrev cX4_endDead : ByteArray := prog_5_method_13_code
def yX4_endDead : MethodName := ⟨"CreaturePond$Pond", "endDead", "()V"⟩
theorem hdX4_endDead : yX4_endDead.cls ≠ "java/lang/invoke/MethodHandle" ∧ yX4_endDead.cls ≠ "java/lang/invoke/VarHandle" ∧ (parseMethodDescriptor yX4_endDead.desc).map (fun d => d.parameters.length) = some 0 := by decide +kernel
abbrev cX4_end : ByteArray := prog_5_method_14_code
def yX4_end : MethodName := ⟨"CreaturePond$Pond", "end", "(LCreaturePond$Animal;)V"⟩
theorem hdX4_end : yX4_end.cls ≠ "java/lang/invoke/MethodHandle" ∧ yX4_end.cls ≠ "java/lang/invoke/VarHandle" ∧ (parseMethodDescriptor yX4_end.desc).map (fun d => d.parameters.length) = some 1 := by decide +kernel
abbrev cL_inner : ByteArray := method_6_code
def yL_inner : MethodName := ⟨"CreaturePondLaw", "inner", "(LCreaturePond;IZI[J)I"⟩
theorem hdL_inner : yL_inner.cls ≠ "java/lang/invoke/MethodHandle" ∧ yL_inner.cls ≠ "java/lang/invoke/VarHandle" ∧ (parseMethodDescriptor yL_inner.desc).map (fun d => d.parameters.length) = some 5 := by decide +kernel
abbrev cX0_inner : ByteArray := prog_1_method_10_code
def yX0_inner : MethodName := ⟨"CreaturePond", "inner", "(IZI)B"⟩
theorem hdX0_inner : yX0_inner.cls ≠ "java/lang/invoke/MethodHandle" ∧ yX0_inner.cls ≠ "java/lang/invoke/VarHandle" ∧ (parseMethodDescriptor yX0_inner.desc).map (fun d => d.parameters.length) = some 3 := by decide +kernel
abbrev cL_differ : ByteArray := method_7_code
def yL_differ : MethodName := ⟨"CreaturePondLaw", "differ", "(LCreaturePond;[J)I"⟩
theorem hdL_differ : yL_differ.cls ≠ "java/lang/invoke/MethodHandle" ∧ yL_differ.cls ≠ "java/lang/invoke/VarHandle" ∧ (parseMethodDescriptor yL_differ.desc).map (fun d => d.parameters.length) = some 2 := by decide +kernel
abbrev cX0_differ : ByteArray := prog_1_method_13_code
def yX0_differ : MethodName := ⟨"CreaturePond", "differ", "()I"⟩
theorem hdX0_differ : yX0_differ.cls ≠ "java/lang/invoke/MethodHandle" ∧ yX0_differ.cls ≠ "java/lang/invoke/VarHandle" ∧ (parseMethodDescriptor yX0_differ.desc).map (fun d => d.parameters.length) = some 0 := by decide +kernel
abbrev cX4_firstOther : ByteArray := prog_5_method_15_code
def yX4_firstOther : MethodName := ⟨"CreaturePond$Pond", "firstOther", "(LCreaturePond$Pond;)I"⟩
theorem hdX4_firstOther : yX4_firstOther.cls ≠ "java/lang/invoke/MethodHandle" ∧ yX4_firstOther.cls ≠ "java/lang/invoke/VarHandle" ∧ (parseMethodDescriptor yX4_firstOther.desc).map (fun d => d.parameters.length) = some 1 := by decide +kernel
abbrev cX4_hasOtherDweller : ByteArray := prog_5_method_16_code
def yX4_hasOtherDweller : MethodName := ⟨"CreaturePond$Pond", "hasOtherDweller", "(LCreaturePond$Pond;I)Z"⟩
theorem hdX4_hasOtherDweller : yX4_hasOtherDweller.cls ≠ "java/lang/invoke/MethodHandle" ∧ yX4_hasOtherDweller.cls ≠ "java/lang/invoke/VarHandle" ∧ (parseMethodDescriptor yX4_hasOtherDweller.desc).map (fun d => d.parameters.length) = some 2 := by decide +kernel
abbrev cX6_init : ByteArray := prog_8_method_1_code
def yX6_init : MethodName := ⟨"CreaturePondModel", "<init>", "(II)V"⟩
theorem hdX6_init : yX6_init.cls ≠ "java/lang/invoke/MethodHandle" ∧ yX6_init.cls ≠ "java/lang/invoke/VarHandle" ∧ (parseMethodDescriptor yX6_init.desc).map (fun d => d.parameters.length) = some 2 := by decide +kernel
abbrev cX6_thrown : ByteArray := prog_8_method_2_code
def yX6_thrown : MethodName := ⟨"CreaturePondModel", "thrown", "()I"⟩
theorem hdX6_thrown : yX6_thrown.cls ≠ "java/lang/invoke/MethodHandle" ∧ yX6_thrown.cls ≠ "java/lang/invoke/VarHandle" ∧ (parseMethodDescriptor yX6_thrown.desc).map (fun d => d.parameters.length) = some 0 := by decide +kernel
abbrev cX6_set : ByteArray := prog_8_method_29_code
def yX6_set : MethodName := ⟨"CreaturePondModel", "set", "(II)Z"⟩
theorem hdX6_set : yX6_set.cls ≠ "java/lang/invoke/MethodHandle" ∧ yX6_set.cls ≠ "java/lang/invoke/VarHandle" ∧ (parseMethodDescriptor yX6_set.desc).map (fun d => d.parameters.length) = some 2 := by decide +kernel
abbrev cX6_store : ByteArray := prog_8_method_30_code
def yX6_store : MethodName := ⟨"CreaturePondModel", "store", "(I)Z"⟩
theorem hdX6_store : yX6_store.cls ≠ "java/lang/invoke/MethodHandle" ∧ yX6_store.cls ≠ "java/lang/invoke/VarHandle" ∧ (parseMethodDescriptor yX6_store.desc).map (fun d => d.parameters.length) = some 1 := by decide +kernel
abbrev cX6_grain : ByteArray := prog_8_method_31_code
def yX6_grain : MethodName := ⟨"CreaturePondModel", "grain", "(III)Z"⟩
theorem hdX6_grain : yX6_grain.cls ≠ "java/lang/invoke/MethodHandle" ∧ yX6_grain.cls ≠ "java/lang/invoke/VarHandle" ∧ (parseMethodDescriptor yX6_grain.desc).map (fun d => d.parameters.length) = some 3 := by decide +kernel
abbrev cX6_cellAt : ByteArray := prog_8_method_5_code
def yX6_cellAt : MethodName := ⟨"CreaturePondModel", "cellAt", "(II)I"⟩
theorem hdX6_cellAt : yX6_cellAt.cls ≠ "java/lang/invoke/MethodHandle" ∧ yX6_cellAt.cls ≠ "java/lang/invoke/VarHandle" ∧ (parseMethodDescriptor yX6_cellAt.desc).map (fun d => d.parameters.length) = some 2 := by decide +kernel
abbrev cX6_round : ByteArray := prog_8_method_3_code
def yX6_round : MethodName := ⟨"CreaturePondModel", "round", "(II)I"⟩
theorem hdX6_round : yX6_round.cls ≠ "java/lang/invoke/MethodHandle" ∧ yX6_round.cls ≠ "java/lang/invoke/VarHandle" ∧ (parseMethodDescriptor yX6_round.desc).map (fun d => d.parameters.length) = some 2 := by decide +kernel
abbrev cX6_animal : ByteArray := prog_8_method_32_code
def yX6_animal : MethodName := ⟨"CreaturePondModel", "animal", "(IIII)I"⟩
theorem hdX6_animal : yX6_animal.cls ≠ "java/lang/invoke/MethodHandle" ∧ yX6_animal.cls ≠ "java/lang/invoke/VarHandle" ∧ (parseMethodDescriptor yX6_animal.desc).map (fun d => d.parameters.length) = some 4 := by decide +kernel
abbrev cX6_inCell : ByteArray := prog_8_method_9_code
def yX6_inCell : MethodName := ⟨"CreaturePondModel", "inCell", "(I)I"⟩
theorem hdX6_inCell : yX6_inCell.cls ≠ "java/lang/invoke/MethodHandle" ∧ yX6_inCell.cls ≠ "java/lang/invoke/VarHandle" ∧ (parseMethodDescriptor yX6_inCell.desc).map (fun d => d.parameters.length) = some 1 := by decide +kernel
abbrev cX6_at : ByteArray := prog_8_method_6_code
def yX6_at : MethodName := ⟨"CreaturePondModel", "at", "(I)I"⟩
theorem hdX6_at : yX6_at.cls ≠ "java/lang/invoke/MethodHandle" ∧ yX6_at.cls ≠ "java/lang/invoke/VarHandle" ∧ (parseMethodDescriptor yX6_at.desc).map (fun d => d.parameters.length) = some 1 := by decide +kernel
abbrev cX6_free : ByteArray := prog_8_method_13_code
def yX6_free : MethodName := ⟨"CreaturePondModel", "free", "()I"⟩
theorem hdX6_free : yX6_free.cls ≠ "java/lang/invoke/MethodHandle" ∧ yX6_free.cls ≠ "java/lang/invoke/VarHandle" ∧ (parseMethodDescriptor yX6_free.desc).map (fun d => d.parameters.length) = some 0 := by decide +kernel
abbrev cX6_lives : ByteArray := prog_8_method_7_code
def yX6_lives : MethodName := ⟨"CreaturePondModel", "lives", "(I)Z"⟩
theorem hdX6_lives : yX6_lives.cls ≠ "java/lang/invoke/MethodHandle" ∧ yX6_lives.cls ≠ "java/lang/invoke/VarHandle" ∧ (parseMethodDescriptor yX6_lives.desc).map (fun d => d.parameters.length) = some 1 := by decide +kernel
abbrev cX6_make : ByteArray := prog_8_method_14_code
def yX6_make : MethodName := ⟨"CreaturePondModel", "make", "(IIII)V"⟩
theorem hdX6_make : yX6_make.cls ≠ "java/lang/invoke/MethodHandle" ∧ yX6_make.cls ≠ "java/lang/invoke/VarHandle" ∧ (parseMethodDescriptor yX6_make.desc).map (fun d => d.parameters.length) = some 4 := by decide +kernel
abbrev cX6_code : ByteArray := prog_8_method_33_code
def yX6_code : MethodName := ⟨"CreaturePondModel", "code", "(IIJ)I"⟩
theorem hdX6_code : yX6_code.cls ≠ "java/lang/invoke/MethodHandle" ∧ yX6_code.cls ≠ "java/lang/invoke/VarHandle" ∧ (parseMethodDescriptor yX6_code.desc).map (fun d => d.parameters.length) = some 3 := by decide +kernel
abbrev cX6_tick : ByteArray := prog_8_method_34_code
def yX6_tick : MethodName := ⟨"CreaturePondModel", "tick", "(I)I"⟩
theorem hdX6_tick : yX6_tick.cls ≠ "java/lang/invoke/MethodHandle" ∧ yX6_tick.cls ≠ "java/lang/invoke/VarHandle" ∧ (parseMethodDescriptor yX6_tick.desc).map (fun d => d.parameters.length) = some 1 := by decide +kernel
abbrev cX6_pass : ByteArray := prog_8_method_28_code
def yX6_pass : MethodName := ⟨"CreaturePondModel", "pass", "()V"⟩
theorem hdX6_pass : yX6_pass.cls ≠ "java/lang/invoke/MethodHandle" ∧ yX6_pass.cls ≠ "java/lang/invoke/VarHandle" ∧ (parseMethodDescriptor yX6_pass.desc).map (fun d => d.parameters.length) = some 0 := by decide +kernel
abbrev cX6_shine : ByteArray := prog_8_method_23_code
def yX6_shine : MethodName := ⟨"CreaturePondModel", "shine", "()V"⟩
theorem hdX6_shine : yX6_shine.cls ≠ "java/lang/invoke/MethodHandle" ∧ yX6_shine.cls ≠ "java/lang/invoke/VarHandle" ∧ (parseMethodDescriptor yX6_shine.desc).map (fun d => d.parameters.length) = some 0 := by decide +kernel
abbrev cX6_live : ByteArray := prog_8_method_24_code
def yX6_live : MethodName := ⟨"CreaturePondModel", "live", "(I)V"⟩
theorem hdX6_live : yX6_live.cls ≠ "java/lang/invoke/MethodHandle" ∧ yX6_live.cls ≠ "java/lang/invoke/VarHandle" ∧ (parseMethodDescriptor yX6_live.desc).map (fun d => d.parameters.length) = some 1 := by decide +kernel
abbrev cX6_pay : ByteArray := prog_8_method_15_code
def yX6_pay : MethodName := ⟨"CreaturePondModel", "pay", "(II)V"⟩
theorem hdX6_pay : yX6_pay.cls ≠ "java/lang/invoke/MethodHandle" ∧ yX6_pay.cls ≠ "java/lang/invoke/VarHandle" ∧ (parseMethodDescriptor yX6_pay.desc).map (fun d => d.parameters.length) = some 2 := by decide +kernel
abbrev cX6_least : ByteArray := prog_8_method_4_code
def yX6_least : MethodName := ⟨"CreaturePondModel", "least", "(II)I"⟩
theorem hdX6_least : yX6_least.cls ≠ "java/lang/invoke/MethodHandle" ∧ yX6_least.cls ≠ "java/lang/invoke/VarHandle" ∧ (parseMethodDescriptor yX6_least.desc).map (fun d => d.parameters.length) = some 2 := by decide +kernel
abbrev cX6_operate : ByteArray := prog_8_method_22_code
def yX6_operate : MethodName := ⟨"CreaturePondModel", "operate", "(I)Z"⟩
theorem hdX6_operate : yX6_operate.cls ≠ "java/lang/invoke/MethodHandle" ∧ yX6_operate.cls ≠ "java/lang/invoke/VarHandle" ∧ (parseMethodDescriptor yX6_operate.desc).map (fun d => d.parameters.length) = some 1 := by decide +kernel
abbrev cX6_codeAt : ByteArray := prog_8_method_17_code
def yX6_codeAt : MethodName := ⟨"CreaturePondModel", "codeAt", "(II)I"⟩
theorem hdX6_codeAt : yX6_codeAt.cls ≠ "java/lang/invoke/MethodHandle" ∧ yX6_codeAt.cls ≠ "java/lang/invoke/VarHandle" ∧ (parseMethodDescriptor yX6_codeAt.desc).map (fun d => d.parameters.length) = some 2 := by decide +kernel
abbrev cX6_operands : ByteArray := prog_8_method_16_code
def yX6_operands : MethodName := ⟨"CreaturePondModel", "operands", "(I)I"⟩
theorem hdX6_operands : yX6_operands.cls ≠ "java/lang/invoke/MethodHandle" ∧ yX6_operands.cls ≠ "java/lang/invoke/VarHandle" ∧ (parseMethodDescriptor yX6_operands.desc).map (fun d => d.parameters.length) = some 1 := by decide +kernel
abbrev cX6_act : ByteArray := prog_8_method_21_code
def yX6_act : MethodName := ⟨"CreaturePondModel", "act", "(III)V"⟩
theorem hdX6_act : yX6_act.cls ≠ "java/lang/invoke/MethodHandle" ∧ yX6_act.cls ≠ "java/lang/invoke/VarHandle" ∧ (parseMethodDescriptor yX6_act.desc).map (fun d => d.parameters.length) = some 3 := by decide +kernel
abbrev cX6_ahead : ByteArray := prog_8_method_11_code
def yX6_ahead : MethodName := ⟨"CreaturePondModel", "ahead", "(I)I"⟩
theorem hdX6_ahead : yX6_ahead.cls ≠ "java/lang/invoke/MethodHandle" ∧ yX6_ahead.cls ≠ "java/lang/invoke/VarHandle" ∧ (parseMethodDescriptor yX6_ahead.desc).map (fun d => d.parameters.length) = some 1 := by decide +kernel
abbrev cX6_beside : ByteArray := prog_8_method_10_code
def yX6_beside : MethodName := ⟨"CreaturePondModel", "beside", "(II)I"⟩
theorem hdX6_beside : yX6_beside.cls ≠ "java/lang/invoke/MethodHandle" ∧ yX6_beside.cls ≠ "java/lang/invoke/VarHandle" ∧ (parseMethodDescriptor yX6_beside.desc).map (fun d => d.parameters.length) = some 2 := by decide +kernel
abbrev cX6_reckon : ByteArray := prog_8_method_20_code
def yX6_reckon : MethodName := ⟨"CreaturePondModel", "reckon", "(IIII)I"⟩
theorem hdX6_reckon : yX6_reckon.cls ≠ "java/lang/invoke/MethodHandle" ∧ yX6_reckon.cls ≠ "java/lang/invoke/VarHandle" ∧ (parseMethodDescriptor yX6_reckon.desc).map (fun d => d.parameters.length) = some 4 := by decide +kernel
abbrev cX6_looks : ByteArray := prog_8_method_18_code
def yX6_looks : MethodName := ⟨"CreaturePondModel", "looks", "(II)I"⟩
theorem hdX6_looks : yX6_looks.cls ≠ "java/lang/invoke/MethodHandle" ∧ yX6_looks.cls ≠ "java/lang/invoke/VarHandle" ∧ (parseMethodDescriptor yX6_looks.desc).map (fun d => d.parameters.length) = some 2 := by decide +kernel
abbrev cX6_feels : ByteArray := prog_8_method_19_code
def yX6_feels : MethodName := ⟨"CreaturePondModel", "feels", "(II)I"⟩
theorem hdX6_feels : yX6_feels.cls ≠ "java/lang/invoke/MethodHandle" ∧ yX6_feels.cls ≠ "java/lang/invoke/VarHandle" ∧ (parseMethodDescriptor yX6_feels.desc).map (fun d => d.parameters.length) = some 2 := by decide +kernel
abbrev cX6_breed : ByteArray := prog_8_method_26_code
def yX6_breed : MethodName := ⟨"CreaturePondModel", "breed", "(II)V"⟩
theorem hdX6_breed : yX6_breed.cls ≠ "java/lang/invoke/MethodHandle" ∧ yX6_breed.cls ≠ "java/lang/invoke/VarHandle" ∧ (parseMethodDescriptor yX6_breed.desc).map (fun d => d.parameters.length) = some 2 := by decide +kernel
abbrev cX6_inherit : ByteArray := prog_8_method_25_code
def yX6_inherit : MethodName := ⟨"CreaturePondModel", "inherit", "(III)V"⟩
theorem hdX6_inherit : yX6_inherit.cls ≠ "java/lang/invoke/MethodHandle" ∧ yX6_inherit.cls ≠ "java/lang/invoke/VarHandle" ∧ (parseMethodDescriptor yX6_inherit.desc).map (fun d => d.parameters.length) = some 3 := by decide +kernel
abbrev cX6_next : ByteArray := prog_8_method_12_code
def yX6_next : MethodName := ⟨"CreaturePondModel", "next", "()I"⟩
theorem hdX6_next : yX6_next.cls ≠ "java/lang/invoke/MethodHandle" ∧ yX6_next.cls ≠ "java/lang/invoke/VarHandle" ∧ (parseMethodDescriptor yX6_next.desc).map (fun d => d.parameters.length) = some 0 := by decide +kernel
abbrev cX6_die : ByteArray := prog_8_method_27_code
def yX6_die : MethodName := ⟨"CreaturePondModel", "die", "(I)V"⟩
theorem hdX6_die : yX6_die.cls ≠ "java/lang/invoke/MethodHandle" ∧ yX6_die.cls ≠ "java/lang/invoke/VarHandle" ∧ (parseMethodDescriptor yX6_die.desc).map (fun d => d.parameters.length) = some 1 := by decide +kernel
abbrev cX6_animals : ByteArray := prog_8_method_8_code
def yX6_animals : MethodName := ⟨"CreaturePondModel", "animals", "()I"⟩
theorem hdX6_animals : yX6_animals.cls ≠ "java/lang/invoke/MethodHandle" ∧ yX6_animals.cls ≠ "java/lang/invoke/VarHandle" ∧ (parseMethodDescriptor yX6_animals.desc).map (fun d => d.parameters.length) = some 0 := by decide +kernel
abbrev cX6_cell : ByteArray := prog_8_method_35_code
def yX6_cell : MethodName := ⟨"CreaturePondModel", "cell", "(III)I"⟩
theorem hdX6_cell : yX6_cell.cls ≠ "java/lang/invoke/MethodHandle" ∧ yX6_cell.cls ≠ "java/lang/invoke/VarHandle" ∧ (parseMethodDescriptor yX6_cell.desc).map (fun d => d.parameters.length) = some 3 := by decide +kernel
abbrev cX6_field : ByteArray := prog_8_method_36_code
def yX6_field : MethodName := ⟨"CreaturePondModel", "field", "(II)I"⟩
theorem hdX6_field : yX6_field.cls ≠ "java/lang/invoke/MethodHandle" ∧ yX6_field.cls ≠ "java/lang/invoke/VarHandle" ∧ (parseMethodDescriptor yX6_field.desc).map (fun d => d.parameters.length) = some 2 := by decide +kernel
abbrev cX6_inner : ByteArray := prog_8_method_37_code
def yX6_inner : MethodName := ⟨"CreaturePondModel", "inner", "(IZI)B"⟩
theorem hdX6_inner : yX6_inner.cls ≠ "java/lang/invoke/MethodHandle" ∧ yX6_inner.cls ≠ "java/lang/invoke/VarHandle" ∧ (parseMethodDescriptor yX6_inner.desc).map (fun d => d.parameters.length) = some 3 := by decide +kernel
abbrev cX6_total : ByteArray := prog_8_method_38_code
def yX6_total : MethodName := ⟨"CreaturePondModel", "total", "(I)I"⟩
theorem hdX6_total : yX6_total.cls ≠ "java/lang/invoke/MethodHandle" ∧ yX6_total.cls ≠ "java/lang/invoke/VarHandle" ∧ (parseMethodDescriptor yX6_total.desc).map (fun d => d.parameters.length) = some 1 := by decide +kernel
abbrev cX6_keep : ByteArray := prog_8_method_39_code
def yX6_keep : MethodName := ⟨"CreaturePondModel", "keep", "()V"⟩
theorem hdX6_keep : yX6_keep.cls ≠ "java/lang/invoke/MethodHandle" ∧ yX6_keep.cls ≠ "java/lang/invoke/VarHandle" ∧ (parseMethodDescriptor yX6_keep.desc).map (fun d => d.parameters.length) = some 0 := by decide +kernel
abbrev cX6_differ : ByteArray := prog_8_method_41_code
def yX6_differ : MethodName := ⟨"CreaturePondModel", "differ", "()I"⟩
theorem hdX6_differ : yX6_differ.cls ≠ "java/lang/invoke/MethodHandle" ∧ yX6_differ.cls ≠ "java/lang/invoke/VarHandle" ∧ (parseMethodDescriptor yX6_differ.desc).map (fun d => d.parameters.length) = some 0 := by decide +kernel
abbrev cX6_wasIn : ByteArray := prog_8_method_40_code
def yX6_wasIn : MethodName := ⟨"CreaturePondModel", "wasIn", "(I)I"⟩
theorem hdX6_wasIn : yX6_wasIn.cls ≠ "java/lang/invoke/MethodHandle" ∧ yX6_wasIn.cls ≠ "java/lang/invoke/VarHandle" ∧ (parseMethodDescriptor yX6_wasIn.desc).map (fun d => d.parameters.length) = some 1 := by decide +kernel
abbrev cX6_back : ByteArray := prog_8_method_42_code
def yX6_back : MethodName := ⟨"CreaturePondModel", "back", "()Z"⟩
theorem hdX6_back : yX6_back.cls ≠ "java/lang/invoke/MethodHandle" ∧ yX6_back.cls ≠ "java/lang/invoke/VarHandle" ∧ (parseMethodDescriptor yX6_back.desc).map (fun d => d.parameters.length) = some 0 := by decide +kernel
abbrev vwCl : List vw_C := [("CreaturePond", TX0, 6), ("CreaturePond$Animal", TX1, 14), ("CreaturePond$Breeding", TX2, 1), ("CreaturePond$Mind", TX3, 1), ("CreaturePond$Pond", TX4, 12), ("CreaturePond$Shape", TX5, 4), ("CreaturePondModel", TX6, 6)]
/-! the words: one list for all methods, a membership row a word -/
def cpT_0 : List Cond := [Cond.initialized "CreaturePondLaw", Cond.initialized "CreaturePond", Cond.initialized "CreaturePond$Shape", Cond.initialized "java/lang/Math", Cond.initialized "CreaturePond$Pond", Cond.initialized "CreaturePond$Animal", Cond.initialized "CreaturePond$Mind", Cond.initialized "CreaturePond$Breeding", Cond.initialized "CreaturePondModel", Cond.initialized "java/lang/Throwable", Cond.initialized "java/lang/Exception", Cond.initialized "java/lang/RuntimeException", Cond.initialized "java/lang/IllegalArgumentException", Cond.initialized "java/lang/IllegalStateException", Cond.initialized "java/lang/IndexOutOfBoundsException", Cond.initialized "java/lang/System", Cond.classLink "CreaturePondLaw" 8 "CreaturePond", Cond.instantiable "CreaturePond" 6, Cond.methodLink "CreaturePondLaw" 41 yX0_init, Cond.instanceMethod yX0_init]
def cpT_1 : List Cond := [Cond.code yX0_init cX0_init 3 none, Cond.methodLink "CreaturePond" 1 objectInit, Cond.instanceMethod objectInit, Cond.code objectInit ⟨#[0xb1]⟩ 1 none, Cond.classLink "CreaturePond" 7 "CreaturePond$Shape", Cond.instantiable "CreaturePond$Shape" 4, Cond.methodLink "CreaturePond" 11 Lib.Math.min.name, Cond.static Lib.Math.min.name, Cond.code Lib.Math.min.name Lib.Math.min.code 2 (some .int), Cond.methodLink "CreaturePond" 17 Lib.Math.max.name, Cond.static Lib.Math.max.name, Cond.code Lib.Math.max.name Lib.Math.max.code 2 (some .int), Cond.instanceMethod yX5_init, Cond.code yX5_init cX5_init 6 none, Cond.methodLink "CreaturePond$Shape" 3 objectInit, Cond.methodLink "CreaturePond$Shape" 25 yX5_columnOf, Cond.instanceMethod yX5_columnOf, Cond.code yX5_columnOf cX5_columnOf 2 (some .int), Cond.fieldLink "CreaturePond$Shape" 29 "CreaturePond$Shape" "STEP_X" "[I", Cond.methodLink "CreaturePond$Shape" 32 yX5_rowOf]
def cpT_2 : List Cond := [Cond.instanceMethod yX5_rowOf, Cond.code yX5_rowOf cX5_rowOf 2 (some .int), Cond.fieldLink "CreaturePond$Shape" 35 "CreaturePond$Shape" "STEP_Y" "[I", Cond.methodLink "CreaturePond$Shape" 38 yX5_cellAt, Cond.instanceMethod yX5_cellAt, Cond.code yX5_cellAt cX5_cellAt 3 (some .int), Cond.methodLink "CreaturePond$Shape" 42 yJ_floorMod, Cond.static yJ_floorMod, Cond.code yJ_floorMod cJ_floorMod 3 (some .int), Cond.fieldLink "CreaturePond$Shape" 9 "CreaturePond$Shape" "width" "I", Cond.fieldLink "CreaturePond$Shape" 15 "CreaturePond$Shape" "height" "I", Cond.fieldLink "CreaturePond$Shape" 18 "CreaturePond$Shape" "cells" "I", Cond.fieldLink "CreaturePond$Shape" 21 "CreaturePond$Shape" "neighbours" "[I", Cond.laysFinal "CreaturePond$Shape" "CreaturePond$Shape" "width" "I", Cond.laysFinal "CreaturePond$Shape" "CreaturePond$Shape" "height" "I", Cond.laysFinal "CreaturePond$Shape" "CreaturePond$Shape" "cells" "I", Cond.laysFinal "CreaturePond$Shape" "CreaturePond$Shape" "neighbours" "[I", Cond.arrayClass .int, Cond.classLink "CreaturePond" 27 "CreaturePond$Pond", Cond.instantiable "CreaturePond$Pond" 12]
def cpT_3 : List Cond := [Cond.instanceMethod yX4_init, Cond.code yX4_init cX4_init 3 none, Cond.methodLink "CreaturePond$Pond" 3 objectInit, Cond.classLink "CreaturePond$Pond" 9 "CreaturePond$Animal", Cond.instantiable "CreaturePond$Animal" 14, Cond.instanceMethod yX1_init, Cond.code yX1_init cX1_init 1 none, Cond.methodLink "CreaturePond$Animal" 3 objectInit, Cond.fieldLink "CreaturePond$Animal" 9 "CreaturePond$Animal" "registers" "[B", Cond.fieldLink "CreaturePond$Animal" 15 "CreaturePond$Animal" "memory" "[B", Cond.fieldLink "CreaturePond$Animal" 18 "CreaturePond$Animal" "genes" "[B", Cond.fieldLink "CreaturePond$Animal" 21 "CreaturePond$Animal" "lives" "Z", Cond.fieldLink "CreaturePond$Animal" 25 "CreaturePond$Animal" "asked" "Z", Cond.fieldLink "CreaturePond$Animal" 28 "CreaturePond$Animal" "home" "I", Cond.fieldLink "CreaturePond$Animal" 32 "CreaturePond$Animal" "heading" "I", Cond.fieldLink "CreaturePond$Animal" 35 "CreaturePond$Animal" "energy" "I", Cond.fieldLink "CreaturePond$Animal" 38 "CreaturePond$Animal" "age" "I", Cond.fieldLink "CreaturePond$Animal" 41 "CreaturePond$Animal" "length" "I", Cond.fieldLink "CreaturePond$Animal" 44 "CreaturePond$Animal" "place" "I", Cond.fieldLink "CreaturePond$Animal" 47 "CreaturePond$Animal" "firstParent" "I"]
def cpT_4 : List Cond := [Cond.fieldLink "CreaturePond$Animal" 50 "CreaturePond$Animal" "secondParent" "I", Cond.fieldLink "CreaturePond$Animal" 53 "CreaturePond$Animal" "generation" "I", Cond.laysFinal "CreaturePond$Animal" "CreaturePond$Animal" "registers" "[B", Cond.laysFinal "CreaturePond$Animal" "CreaturePond$Animal" "memory" "[B", Cond.laysFinal "CreaturePond$Animal" "CreaturePond$Animal" "genes" "[B", Cond.lays "CreaturePond$Animal" "CreaturePond$Animal" "lives" "Z", Cond.lays "CreaturePond$Animal" "CreaturePond$Animal" "asked" "Z", Cond.lays "CreaturePond$Animal" "CreaturePond$Animal" "home" "I", Cond.lays "CreaturePond$Animal" "CreaturePond$Animal" "heading" "I", Cond.lays "CreaturePond$Animal" "CreaturePond$Animal" "energy" "I", Cond.lays "CreaturePond$Animal" "CreaturePond$Animal" "age" "I", Cond.lays "CreaturePond$Animal" "CreaturePond$Animal" "length" "I", Cond.lays "CreaturePond$Animal" "CreaturePond$Animal" "place" "I", Cond.lays "CreaturePond$Animal" "CreaturePond$Animal" "firstParent" "I", Cond.lays "CreaturePond$Animal" "CreaturePond$Animal" "secondParent" "I", Cond.lays "CreaturePond$Animal" "CreaturePond$Animal" "generation" "I", Cond.arrayClass .byte, Cond.fieldLink "CreaturePond$Pond" 17 "CreaturePond$Pond" "shape" "LCreaturePond$Shape;", Cond.fieldLink "CreaturePond$Pond" 27 "CreaturePond$Pond" "grains" "[I", Cond.fieldLink "CreaturePond$Pond" 31 "CreaturePond$Pond" "marks" "[B"]
def cpT_5 : List Cond := [Cond.fieldLink "CreaturePond$Pond" 35 "CreaturePond$Pond" "dwellers" "[I", Cond.fieldLink "CreaturePond$Pond" 11 "CreaturePond$Pond" "animals" "[LCreaturePond$Animal;", Cond.fieldLink "CreaturePond$Pond" 49 "CreaturePond$Pond" "stored" "I", Cond.fieldLink "CreaturePond$Pond" 52 "CreaturePond$Pond" "sun" "I", Cond.fieldLink "CreaturePond$Pond" 55 "CreaturePond$Pond" "stream" "I", Cond.fieldLink "CreaturePond$Pond" 58 "CreaturePond$Pond" "turn" "I", Cond.fieldLink "CreaturePond$Pond" 61 "CreaturePond$Pond" "births" "I", Cond.fieldLink "CreaturePond$Pond" 64 "CreaturePond$Pond" "deaths" "I", Cond.fieldLink "CreaturePond$Pond" 67 "CreaturePond$Pond" "ticks" "I", Cond.laysFinal "CreaturePond$Pond" "CreaturePond$Pond" "shape" "LCreaturePond$Shape;", Cond.laysFinal "CreaturePond$Pond" "CreaturePond$Pond" "grains" "[I", Cond.laysFinal "CreaturePond$Pond" "CreaturePond$Pond" "marks" "[B", Cond.laysFinal "CreaturePond$Pond" "CreaturePond$Pond" "dwellers" "[I", Cond.laysFinal "CreaturePond$Pond" "CreaturePond$Pond" "animals" "[LCreaturePond$Animal;", Cond.lays "CreaturePond$Pond" "CreaturePond$Pond" "stored" "I", Cond.lays "CreaturePond$Pond" "CreaturePond$Pond" "sun" "I", Cond.lays "CreaturePond$Pond" "CreaturePond$Pond" "stream" "I", Cond.lays "CreaturePond$Pond" "CreaturePond$Pond" "turn" "I", Cond.lays "CreaturePond$Pond" "CreaturePond$Pond" "births" "I", Cond.lays "CreaturePond$Pond" "CreaturePond$Pond" "deaths" "I"]
def cpT_6 : List Cond := [Cond.lays "CreaturePond$Pond" "CreaturePond$Pond" "ticks" "I", Cond.classLink "CreaturePond" 39 "CreaturePond$Mind", Cond.instantiable "CreaturePond$Mind" 1, Cond.instanceMethod yX3_init, Cond.code yX3_init cX3_init 2 none, Cond.methodLink "CreaturePond$Mind" 5 objectInit, Cond.fieldLink "CreaturePond$Mind" 11 "CreaturePond$Mind" "pond" "LCreaturePond$Pond;", Cond.laysFinal "CreaturePond$Mind" "CreaturePond$Mind" "pond" "LCreaturePond$Pond;", Cond.classLink "CreaturePond" 48 "CreaturePond$Breeding", Cond.instantiable "CreaturePond$Breeding" 1, Cond.instanceMethod yX2_init, Cond.code yX2_init cX2_init 2 none, Cond.methodLink "CreaturePond$Breeding" 3 objectInit, Cond.fieldLink "CreaturePond$Breeding" 9 "CreaturePond$Breeding" "pond" "LCreaturePond$Pond;", Cond.laysFinal "CreaturePond$Breeding" "CreaturePond$Breeding" "pond" "LCreaturePond$Pond;", Cond.fieldLink "CreaturePond" 23 "CreaturePond" "shape" "LCreaturePond$Shape;", Cond.fieldLink "CreaturePond" 32 "CreaturePond" "now" "LCreaturePond$Pond;", Cond.fieldLink "CreaturePond" 36 "CreaturePond" "kept" "LCreaturePond$Pond;", Cond.fieldLink "CreaturePond" 44 "CreaturePond" "mind" "LCreaturePond$Mind;", Cond.fieldLink "CreaturePond" 51 "CreaturePond" "breeding" "LCreaturePond$Breeding;"]
def cpT_7 : List Cond := [Cond.fieldLink "CreaturePond" 188 "CreaturePond" "isKept" "Z", Cond.laysFinal "CreaturePond" "CreaturePond" "shape" "LCreaturePond$Shape;", Cond.laysFinal "CreaturePond" "CreaturePond" "now" "LCreaturePond$Pond;", Cond.laysFinal "CreaturePond" "CreaturePond" "kept" "LCreaturePond$Pond;", Cond.laysFinal "CreaturePond" "CreaturePond" "mind" "LCreaturePond$Mind;", Cond.laysFinal "CreaturePond" "CreaturePond" "breeding" "LCreaturePond$Breeding;", Cond.lays "CreaturePond" "CreaturePond" "isKept" "Z", Cond.methodLink "CreaturePondLaw" 47 yX0_set, Cond.instanceMethod yX0_set, Cond.selects "CreaturePond" yX0_set yX0_set, Cond.code yX0_set cX0_set 3 (some .boolean), Cond.methodLink "CreaturePondLaw" 52 yX0_store, Cond.instanceMethod yX0_store, Cond.selects "CreaturePond" yX0_store yX0_store, Cond.code yX0_store cX0_store 2 (some .boolean), Cond.constant "CreaturePond" 65 (1000000 : Int32), Cond.methodLink "CreaturePondLaw" 57 yX0_grain, Cond.instanceMethod yX0_grain, Cond.selects "CreaturePond" yX0_grain yX0_grain, Cond.code yX0_grain cX0_grain 4 (some .boolean)]
def cpT_8 : List Cond := [Cond.methodLink "CreaturePondLaw" 79 yX0_cell, Cond.instanceMethod yX0_cell, Cond.selects "CreaturePond" yX0_cell yX0_cell, Cond.code yX0_cell cX0_cell 5 (some .int), Cond.methodLink "CreaturePondLaw" 83 yX0_field, Cond.instanceMethod yX0_field, Cond.selects "CreaturePond" yX0_field yX0_field, Cond.code yX0_field cX0_field 4 (some .int), Cond.instanceMethod yX4_has, Cond.code yX4_has cX4_has 2 (some .boolean), Cond.instanceMethod yX1_trait, Cond.code yX1_trait cX1_trait 2 (some .int), Cond.methodLink "CreaturePondLaw" 92 yX0_total, Cond.instanceMethod yX0_total, Cond.selects "CreaturePond" yX0_total yX0_total, Cond.code yX0_total cX0_total 2 (some .int), Cond.instanceMethod yX4_energyOfAll, Cond.code yX4_energyOfAll cX4_energyOfAll 3 (some .int), Cond.instanceMethod yX4_grainOfAll, Cond.code yX4_grainOfAll cX4_grainOfAll 6 (some .int)]
def cpT_9 : List Cond := [Cond.instanceMethod yX4_countAnimals, Cond.code yX4_countAnimals cX4_countAnimals 3 (some .int), Cond.methodLink "CreaturePondLaw" 96 yX0_keep, Cond.instanceMethod yX0_keep, Cond.selects "CreaturePond" yX0_keep yX0_keep, Cond.code yX0_keep cX0_keep 1 none, Cond.instanceMethod yX4_copyFrom, Cond.code yX4_copyFrom cX4_copyFrom 3 none, Cond.methodLink "CreaturePond$Pond" 39 arraycopyName, Cond.static arraycopyName, Cond.native arraycopyName, Cond.instanceMethod yX1_copyFrom, Cond.code yX1_copyFrom cX1_copyFrom 2 none, Cond.methodLink "CreaturePond$Animal" 56 arraycopyName, Cond.methodLink "CreaturePondLaw" 104 yX0_back, Cond.instanceMethod yX0_back, Cond.selects "CreaturePond" yX0_back yX0_back, Cond.code yX0_back cX0_back 1 (some .boolean), Cond.methodLink "CreaturePondLaw" 35 yL_cell, Cond.static yL_cell]
def cpT_10 : List Cond := [Cond.code yL_cell cL_cell 2 (some .int), Cond.methodLink "CreaturePondLaw" 62 yL_animal, Cond.static yL_animal, Cond.classLink "CreaturePondLaw" 13 "java/lang/IllegalArgumentException", Cond.classLink "CreaturePondLaw" 15 "java/lang/IllegalStateException", Cond.methodLink "CreaturePondLaw" 7 yX0_animal, Cond.instanceMethod yX0_animal, Cond.selects "CreaturePond" yX0_animal yX0_animal, Cond.code yX0_animal cX0_animal 7 (some .int), Cond.classLink "CreaturePond" 73 "java/lang/IllegalArgumentException", Cond.instantiable "java/lang/IllegalArgumentException" 6, Cond.lays "java/lang/IllegalArgumentException" "java/lang/Throwable" "cause" "Ljava/lang/Throwable;", Cond.lays "java/lang/Throwable" "java/lang/Throwable" "cause" "Ljava/lang/Throwable;", Cond.lays "java/lang/IllegalArgumentException" "java/lang/Throwable" "stackTrace" "[Ljava/lang/StackTraceElement;", Cond.lays "java/lang/Throwable" "java/lang/Throwable" "stackTrace" "[Ljava/lang/StackTraceElement;", Cond.lays "java/lang/IllegalArgumentException" "java/lang/Throwable" "suppressedExceptions" "Ljava/util/List;", Cond.lays "java/lang/Throwable" "java/lang/Throwable" "suppressedExceptions" "Ljava/util/List;", Cond.lays "java/lang/IllegalArgumentException" "java/lang/Throwable" "detailMessage" "Ljava/lang/String;", Cond.lays "java/lang/Throwable" "java/lang/Throwable" "detailMessage" "Ljava/lang/String;", Cond.lays "java/lang/IllegalArgumentException" "java/lang/Throwable" "backtrace" "Ljava/lang/Object;"]
def cpT_11 : List Cond := [Cond.lays "java/lang/Throwable" "java/lang/Throwable" "backtrace" "Ljava/lang/Object;", Cond.fieldLink "java/lang/Throwable" 198 "java/lang/Throwable" "backtrace" "Ljava/lang/Object;", Cond.methodLink "java/lang/Throwable" 1 objectInit, Cond.fieldLink "java/lang/Throwable" 13 "java/lang/Throwable" "UNASSIGNED_STACK" "[Ljava/lang/StackTraceElement;", Cond.fieldLink "java/lang/Throwable" 20 "java/lang/Throwable" "SUPPRESSED_SENTINEL" "Ljava/util/List;", Cond.instantiable "java/lang/Throwable" 6, Cond.fieldLink "java/lang/Throwable" 31 "java/lang/Throwable" "detailMessage" "Ljava/lang/String;", Cond.fieldLink "java/lang/Throwable" 7 "java/lang/Throwable" "cause" "Ljava/lang/Throwable;", Cond.fieldLink "java/lang/Throwable" 17 "java/lang/Throwable" "stackTrace" "[Ljava/lang/StackTraceElement;", Cond.fieldLink "java/lang/Throwable" 24 "java/lang/Throwable" "suppressedExceptions" "Ljava/util/List;", Cond.lays "java/lang/IllegalArgumentException" "java/lang/Throwable" "depth" "I", Cond.instanceMethod yX4_freeNumber, Cond.code yX4_freeNumber cX4_freeNumber 2 (some .int), Cond.classLink "CreaturePond" 87 "java/lang/IllegalStateException", Cond.instantiable "java/lang/IllegalStateException" 6, Cond.lays "java/lang/IllegalStateException" "java/lang/Throwable" "cause" "Ljava/lang/Throwable;", Cond.lays "java/lang/IllegalStateException" "java/lang/Throwable" "stackTrace" "[Ljava/lang/StackTraceElement;", Cond.lays "java/lang/IllegalStateException" "java/lang/Throwable" "suppressedExceptions" "Ljava/util/List;", Cond.lays "java/lang/IllegalStateException" "java/lang/Throwable" "detailMessage" "Ljava/lang/String;", Cond.lays "java/lang/IllegalStateException" "java/lang/Throwable" "backtrace" "Ljava/lang/Object;"]
def cpT_12 : List Cond := [Cond.lays "java/lang/IllegalStateException" "java/lang/Throwable" "depth" "I", Cond.instanceMethod yX4_settle, Cond.code yX4_settle cX4_settle 6 (some (.object "CreaturePond$Animal")), Cond.instanceMethod yX1_begin, Cond.code yX1_begin cX1_begin 5 none, Cond.methodLink "CreaturePondLaw" 71 yL_code, Cond.static yL_code, Cond.methodLink "CreaturePondLaw" 17 yX0_code, Cond.instanceMethod yX0_code, Cond.selects "CreaturePond" yX0_code yX0_code, Cond.code yX0_code cX0_code 7 (some .int), Cond.instanceMethod yX1_grow, Cond.code yX1_grow cX1_grow 2 none, Cond.methodLink "CreaturePondLaw" 75 yL_tick, Cond.static yL_tick, Cond.methodLink "CreaturePondLaw" 21 yX0_tick, Cond.instanceMethod yX0_tick, Cond.selects "CreaturePond" yX0_tick yX0_tick, Cond.code yX0_tick cX0_tick 3 (some .int), Cond.instanceMethod yX4_shine]
def cpT_13 : List Cond := [Cond.code yX4_shine cX4_shine 2 none, Cond.instanceMethod yX3_moveAll, Cond.code yX3_moveAll cX3_moveAll 2 none, Cond.methodLink "CreaturePond$Mind" 27 yX3_move, Cond.instanceMethod yX3_move, Cond.code yX3_move cX3_move 4 none, Cond.instanceMethod yX4_pay, Cond.code yX4_pay cX4_pay 4 none, Cond.methodLink "CreaturePond$Pond" 90 Lib.Math.min.name, Cond.methodLink "CreaturePond$Mind" 48 yX3_operate, Cond.instanceMethod yX3_operate, Cond.code yX3_operate cX3_operate 5 (some .boolean), Cond.instanceMethod yX1_geneBehindPlace, Cond.code yX1_geneBehindPlace cX1_geneBehindPlace 2 (some .byte), Cond.methodLink "CreaturePond$Animal" 62 yX1_wrapped, Cond.instanceMethod yX1_wrapped, Cond.code yX1_wrapped cX1_wrapped 2 (some .int), Cond.fieldLink "CreaturePond$Mind" 59 "CreaturePond$Mind" "OPERANDS" "[I", Cond.methodLink "CreaturePond$Mind" 67 yX3_act, Cond.instanceMethod yX3_act]
def cpT_14 : List Cond := [Cond.code yX3_act cX3_act 4 none, Cond.methodLink "CreaturePond$Mind" 122 yX3_goAhead, Cond.instanceMethod yX3_goAhead, Cond.code yX3_goAhead cX3_goAhead 3 none, Cond.instanceMethod yX4_aheadOf, Cond.code yX4_aheadOf cX4_aheadOf 2 (some .int), Cond.methodLink "CreaturePond$Mind" 125 yX3_eat, Cond.instanceMethod yX3_eat, Cond.code yX3_eat cX3_eat 3 none, Cond.methodLink "CreaturePond$Mind" 113 Lib.Math.min.name, Cond.methodLink "CreaturePond$Mind" 128 yX3_give, Cond.instanceMethod yX3_give, Cond.code yX3_give cX3_give 5 none, Cond.methodLink "CreaturePond$Mind" 75 yX3_memoryIndex, Cond.instanceMethod yX3_memoryIndex, Cond.code yX3_memoryIndex cX3_memoryIndex 3 (some .int), Cond.methodLink "CreaturePond$Mind" 82 yX3_jump, Cond.instanceMethod yX3_jump, Cond.code yX3_jump cX3_jump 3 none, Cond.methodLink "CreaturePond$Mind" 86 yX3_reckon]
def cpT_15 : List Cond := [Cond.instanceMethod yX3_reckon, Cond.code yX3_reckon cX3_reckon 7 (some .int), Cond.methodLink "CreaturePond$Mind" 90 yX3_seenAhead, Cond.instanceMethod yX3_seenAhead, Cond.code yX3_seenAhead cX3_seenAhead 5 (some .int), Cond.methodLink "CreaturePond$Mind" 94 yX3_seenInside, Cond.instanceMethod yX3_seenInside, Cond.code yX3_seenInside cX3_seenInside 3 (some .int), Cond.instanceMethod yX2_breedAll, Cond.code yX2_breedAll cX2_breedAll 3 none, Cond.methodLink "CreaturePond$Breeding" 15 yX2_greaterOfPair, Cond.instanceMethod yX2_greaterOfPair, Cond.code yX2_greaterOfPair cX2_greaterOfPair 5 (some .int), Cond.methodLink "CreaturePond$Breeding" 19 yX2_breed, Cond.instanceMethod yX2_breed, Cond.code yX2_breed cX2_breed 8 none, Cond.methodLink "CreaturePond$Breeding" 50 yX2_firstFreeAround, Cond.instanceMethod yX2_firstFreeAround, Cond.code yX2_firstFreeAround cX2_firstFreeAround 4 (some .int), Cond.instanceMethod yX5_nextTo]
def cpT_16 : List Cond := [Cond.code yX5_nextTo cX5_nextTo 3 (some .int), Cond.methodLink "CreaturePond$Breeding" 63 yX2_payAndHalve, Cond.instanceMethod yX2_payAndHalve, Cond.code yX2_payAndHalve cX2_payAndHalve 3 (some .int), Cond.methodLink "CreaturePond$Breeding" 79 Lib.Math.max.name, Cond.methodLink "CreaturePond$Breeding" 85 yX2_mixCode, Cond.instanceMethod yX2_mixCode, Cond.code yX2_mixCode cX2_mixCode 6 none, Cond.instanceMethod yX4_nextNumber, Cond.code yX4_nextNumber cX4_nextNumber 2 (some .int), Cond.constant "CreaturePond$Pond" 96 (134775813 : Int32), Cond.methodLink "CreaturePond$Breeding" 115 yX2_growFrom, Cond.instanceMethod yX2_growFrom, Cond.code yX2_growFrom cX2_growFrom 7 none, Cond.methodLink "CreaturePond$Breeding" 119 Lib.Math.min.name, Cond.methodLink "CreaturePond$Breeding" 89 yX2_changeCode, Cond.instanceMethod yX2_changeCode, Cond.code yX2_changeCode cX2_changeCode 3 none, Cond.instanceMethod yX4_endDead, Cond.code yX4_endDead cX4_endDead 3 none]
def cpT_17 : List Cond := [Cond.methodLink "CreaturePond$Pond" 100 yX4_end, Cond.instanceMethod yX4_end, Cond.code yX4_end cX4_end 4 none, Cond.methodLink "CreaturePondLaw" 88 yL_inner, Cond.static yL_inner, Cond.classLink "CreaturePondLaw" 29 "java/lang/IndexOutOfBoundsException", Cond.methodLink "CreaturePondLaw" 25 yX0_inner, Cond.instanceMethod yX0_inner, Cond.selects "CreaturePond" yX0_inner yX0_inner, Cond.code yX0_inner cX0_inner 6 (some .byte), Cond.classLink "CreaturePond" 157 "java/lang/IndexOutOfBoundsException", Cond.instantiable "java/lang/IndexOutOfBoundsException" 6, Cond.lays "java/lang/IndexOutOfBoundsException" "java/lang/Throwable" "cause" "Ljava/lang/Throwable;", Cond.lays "java/lang/IndexOutOfBoundsException" "java/lang/Throwable" "stackTrace" "[Ljava/lang/StackTraceElement;", Cond.lays "java/lang/IndexOutOfBoundsException" "java/lang/Throwable" "suppressedExceptions" "Ljava/util/List;", Cond.lays "java/lang/IndexOutOfBoundsException" "java/lang/Throwable" "detailMessage" "Ljava/lang/String;", Cond.lays "java/lang/IndexOutOfBoundsException" "java/lang/Throwable" "backtrace" "Ljava/lang/Object;", Cond.lays "java/lang/IndexOutOfBoundsException" "java/lang/Throwable" "depth" "I", Cond.methodLink "CreaturePondLaw" 100 yL_differ, Cond.static yL_differ]
def cpT_18 : List Cond := [Cond.methodLink "CreaturePondLaw" 31 yX0_differ, Cond.instanceMethod yX0_differ, Cond.selects "CreaturePond" yX0_differ yX0_differ, Cond.code yX0_differ cX0_differ 1 (some .int), Cond.instanceMethod yX4_firstOther, Cond.code yX4_firstOther cX4_firstOther 3 (some .int), Cond.methodLink "CreaturePond$Pond" 103 yX4_hasOtherDweller, Cond.instanceMethod yX4_hasOtherDweller, Cond.code yX4_hasOtherDweller cX4_hasOtherDweller 6 (some .boolean), Cond.classLink "CreaturePondLaw" 44 "CreaturePondModel", Cond.instantiable "CreaturePondModel" 6, Cond.methodLink "CreaturePondLaw" 46 yX6_init, Cond.instanceMethod yX6_init, Cond.code yX6_init cX6_init 4 none, Cond.methodLink "CreaturePondModel" 1 objectInit, Cond.fieldLink "CreaturePondModel" 23 "CreaturePondModel" "thrown" "I", Cond.fieldLink "CreaturePondModel" 16 "CreaturePondModel" "w" "I", Cond.fieldLink "CreaturePondModel" 20 "CreaturePondModel" "h" "I", Cond.fieldLink "CreaturePondModel" 7 "CreaturePondModel" "now" "[I", Cond.fieldLink "CreaturePondModel" 115 "CreaturePondModel" "kept" "Z"]
def cpT_19 : List Cond := [Cond.fieldLink "CreaturePondModel" 13 "CreaturePondModel" "was" "[I", Cond.lays "CreaturePondModel" "CreaturePondModel" "thrown" "I", Cond.laysFinal "CreaturePondModel" "CreaturePondModel" "w" "I", Cond.laysFinal "CreaturePondModel" "CreaturePondModel" "h" "I", Cond.laysFinal "CreaturePondModel" "CreaturePondModel" "now" "[I", Cond.lays "CreaturePondModel" "CreaturePondModel" "kept" "Z", Cond.laysFinal "CreaturePondModel" "CreaturePondModel" "was" "[I", Cond.methodLink "CreaturePondLaw" 66 yX6_thrown, Cond.instanceMethod yX6_thrown, Cond.selects "CreaturePondModel" yX6_thrown yX6_thrown, Cond.code yX6_thrown cX6_thrown 1 (some .int), Cond.methodLink "CreaturePondLaw" 51 yX6_set, Cond.instanceMethod yX6_set, Cond.selects "CreaturePondModel" yX6_set yX6_set, Cond.code yX6_set cX6_set 3 (some .boolean), Cond.methodLink "CreaturePondLaw" 56 yX6_store, Cond.instanceMethod yX6_store, Cond.selects "CreaturePondModel" yX6_store yX6_store, Cond.code yX6_store cX6_store 2 (some .boolean), Cond.constant "CreaturePondModel" 108 (1000000 : Int32)]
def cpT_20 : List Cond := [Cond.methodLink "CreaturePondLaw" 61 yX6_grain, Cond.instanceMethod yX6_grain, Cond.selects "CreaturePondModel" yX6_grain yX6_grain, Cond.code yX6_grain cX6_grain 4 (some .boolean), Cond.methodLink "CreaturePondModel" 38 yX6_cellAt, Cond.instanceMethod yX6_cellAt, Cond.code yX6_cellAt cX6_cellAt 3 (some .int), Cond.methodLink "CreaturePondModel" 26 yX6_round, Cond.static yX6_round, Cond.code yX6_round cX6_round 3 (some .int), Cond.methodLink "CreaturePondLaw" 65 yX6_animal, Cond.instanceMethod yX6_animal, Cond.selects "CreaturePondModel" yX6_animal yX6_animal, Cond.code yX6_animal cX6_animal 6 (some .int), Cond.methodLink "CreaturePondModel" 51 yX6_inCell, Cond.instanceMethod yX6_inCell, Cond.code yX6_inCell cX6_inCell 3 (some .int), Cond.methodLink "CreaturePondModel" 30 yX6_at, Cond.static yX6_at, Cond.code yX6_at cX6_at 1 (some .int)]
def cpT_21 : List Cond := [Cond.methodLink "CreaturePondModel" 85 yX6_free, Cond.instanceMethod yX6_free, Cond.code yX6_free cX6_free 2 (some .int), Cond.methodLink "CreaturePondModel" 34 yX6_lives, Cond.instanceMethod yX6_lives, Cond.code yX6_lives cX6_lives 2 (some .boolean), Cond.methodLink "CreaturePondModel" 88 yX6_make, Cond.instanceMethod yX6_make, Cond.code yX6_make cX6_make 6 none, Cond.methodLink "CreaturePondLaw" 74 yX6_code, Cond.instanceMethod yX6_code, Cond.selects "CreaturePondModel" yX6_code yX6_code, Cond.code yX6_code cX6_code 7 (some .int), Cond.methodLink "CreaturePondLaw" 78 yX6_tick, Cond.instanceMethod yX6_tick, Cond.selects "CreaturePondModel" yX6_tick yX6_tick, Cond.code yX6_tick cX6_tick 3 (some .int), Cond.methodLink "CreaturePondModel" 109 yX6_pass, Cond.instanceMethod yX6_pass, Cond.code yX6_pass cX6_pass 3 none]
def cpT_22 : List Cond := [Cond.methodLink "CreaturePondModel" 95 yX6_shine, Cond.instanceMethod yX6_shine, Cond.code yX6_shine cX6_shine 3 none, Cond.methodLink "CreaturePondModel" 98 yX6_live, Cond.instanceMethod yX6_live, Cond.code yX6_live cX6_live 5 none, Cond.methodLink "CreaturePondModel" 60 yX6_pay, Cond.instanceMethod yX6_pay, Cond.code yX6_pay cX6_pay 4 none, Cond.methodLink "CreaturePondModel" 45 yX6_least, Cond.static yX6_least, Cond.code yX6_least cX6_least 2 (some .int), Cond.methodLink "CreaturePondModel" 78 yX6_operate, Cond.instanceMethod yX6_operate, Cond.code yX6_operate cX6_operate 11 (some .boolean), Cond.methodLink "CreaturePondModel" 64 yX6_codeAt, Cond.instanceMethod yX6_codeAt, Cond.code yX6_codeAt cX6_codeAt 3 (some .int), Cond.methodLink "CreaturePondModel" 67 yX6_operands, Cond.static yX6_operands]
def cpT_23 : List Cond := [Cond.code yX6_operands cX6_operands 1 (some .int), Cond.methodLink "CreaturePondModel" 70 yX6_act, Cond.instanceMethod yX6_act, Cond.code yX6_act cX6_act 8 none, Cond.methodLink "CreaturePondModel" 48 yX6_ahead, Cond.instanceMethod yX6_ahead, Cond.code yX6_ahead cX6_ahead 2 (some .int), Cond.methodLink "CreaturePondModel" 41 yX6_beside, Cond.instanceMethod yX6_beside, Cond.code yX6_beside cX6_beside 5 (some .int), Cond.methodLink "CreaturePondModel" 74 yX6_reckon, Cond.instanceMethod yX6_reckon, Cond.code yX6_reckon cX6_reckon 8 (some .int), Cond.methodLink "CreaturePondModel" 54 yX6_looks, Cond.instanceMethod yX6_looks, Cond.code yX6_looks cX6_looks 5 (some .int), Cond.methodLink "CreaturePondModel" 57 yX6_feels, Cond.instanceMethod yX6_feels, Cond.code yX6_feels cX6_feels 4 (some .int), Cond.methodLink "CreaturePondModel" 102 yX6_breed]
def cpT_24 : List Cond := [Cond.instanceMethod yX6_breed, Cond.code yX6_breed cX6_breed 7 none, Cond.methodLink "CreaturePondModel" 92 yX6_inherit, Cond.instanceMethod yX6_inherit, Cond.code yX6_inherit cX6_inherit 10 none, Cond.methodLink "CreaturePondModel" 81 yX6_next, Cond.instanceMethod yX6_next, Cond.code yX6_next cX6_next 2 (some .int), Cond.constant "CreaturePondModel" 44 (134775813 : Int32), Cond.methodLink "CreaturePondModel" 105 yX6_die, Cond.instanceMethod yX6_die, Cond.code yX6_die cX6_die 5 none, Cond.methodLink "CreaturePondModel" 112 yX6_animals, Cond.instanceMethod yX6_animals, Cond.code yX6_animals cX6_animals 3 (some .int), Cond.methodLink "CreaturePondLaw" 82 yX6_cell, Cond.instanceMethod yX6_cell, Cond.selects "CreaturePondModel" yX6_cell yX6_cell, Cond.code yX6_cell cX6_cell 5 (some .int), Cond.methodLink "CreaturePondLaw" 87 yX6_field]
def cpT_25 : List Cond := [Cond.instanceMethod yX6_field, Cond.selects "CreaturePondModel" yX6_field yX6_field, Cond.code yX6_field cX6_field 4 (some .int), Cond.methodLink "CreaturePondLaw" 91 yX6_inner, Cond.instanceMethod yX6_inner, Cond.selects "CreaturePondModel" yX6_inner yX6_inner, Cond.code yX6_inner cX6_inner 4 (some .byte), Cond.methodLink "CreaturePondLaw" 95 yX6_total, Cond.instanceMethod yX6_total, Cond.selects "CreaturePondModel" yX6_total yX6_total, Cond.code yX6_total cX6_total 5 (some .int), Cond.methodLink "CreaturePondLaw" 99 yX6_keep, Cond.instanceMethod yX6_keep, Cond.selects "CreaturePondModel" yX6_keep yX6_keep, Cond.code yX6_keep cX6_keep 2 none, Cond.methodLink "CreaturePondLaw" 103 yX6_differ, Cond.instanceMethod yX6_differ, Cond.selects "CreaturePondModel" yX6_differ yX6_differ, Cond.code yX6_differ cX6_differ 5 (some .int), Cond.methodLink "CreaturePondModel" 119 yX6_wasIn]
def cpT_26 : List Cond := [Cond.instanceMethod yX6_wasIn, Cond.code yX6_wasIn cX6_wasIn 3 (some .int), Cond.methodLink "CreaturePondLaw" 108 yX6_back, Cond.instanceMethod yX6_back, Cond.selects "CreaturePondModel" yX6_back yX6_back, Cond.code yX6_back cX6_back 2 (some .boolean), Cond.constantLong "CreaturePondLaw" 69 (4294967295 : Int64), Cond.arrayClass .long, Cond.selects "CreaturePond$Shape" yX5_columnOf yX5_columnOf, Cond.selects "CreaturePond$Shape" yX5_rowOf yX5_rowOf, Cond.selects "CreaturePond$Shape" yX5_cellAt yX5_cellAt, Cond.selects "CreaturePond$Pond" yX4_has yX4_has, Cond.selects "CreaturePond$Animal" yX1_trait yX1_trait, Cond.selects "CreaturePond$Pond" yX4_energyOfAll yX4_energyOfAll, Cond.selects "CreaturePond$Pond" yX4_grainOfAll yX4_grainOfAll, Cond.selects "CreaturePond$Pond" yX4_countAnimals yX4_countAnimals, Cond.selects "CreaturePond$Pond" yX4_copyFrom yX4_copyFrom, Cond.selects "CreaturePond$Animal" yX1_copyFrom yX1_copyFrom, Cond.selects "CreaturePond$Pond" yX4_freeNumber yX4_freeNumber, Cond.selects "CreaturePond$Pond" yX4_settle yX4_settle]
def cpT_27 : List Cond := [Cond.selects "CreaturePond$Animal" yX1_begin yX1_begin, Cond.selects "CreaturePond$Animal" yX1_grow yX1_grow, Cond.selects "CreaturePond$Pond" yX4_shine yX4_shine, Cond.selects "CreaturePond$Mind" yX3_moveAll yX3_moveAll, Cond.selects "CreaturePond$Mind" yX3_move yX3_move, Cond.selects "CreaturePond$Pond" yX4_pay yX4_pay, Cond.selects "CreaturePond$Mind" yX3_operate yX3_operate, Cond.selects "CreaturePond$Animal" yX1_geneBehindPlace yX1_geneBehindPlace, Cond.selects "CreaturePond$Animal" yX1_wrapped yX1_wrapped, Cond.selects "CreaturePond$Mind" yX3_act yX3_act, Cond.selects "CreaturePond$Mind" yX3_goAhead yX3_goAhead, Cond.selects "CreaturePond$Pond" yX4_aheadOf yX4_aheadOf, Cond.selects "CreaturePond$Mind" yX3_eat yX3_eat, Cond.selects "CreaturePond$Mind" yX3_give yX3_give, Cond.selects "CreaturePond$Mind" yX3_memoryIndex yX3_memoryIndex, Cond.selects "CreaturePond$Mind" yX3_jump yX3_jump, Cond.selects "CreaturePond$Mind" yX3_reckon yX3_reckon, Cond.selects "CreaturePond$Mind" yX3_seenAhead yX3_seenAhead, Cond.selects "CreaturePond$Mind" yX3_seenInside yX3_seenInside, Cond.selects "CreaturePond$Breeding" yX2_breedAll yX2_breedAll]
def cpT_28 : List Cond := [Cond.selects "CreaturePond$Breeding" yX2_greaterOfPair yX2_greaterOfPair, Cond.selects "CreaturePond$Breeding" yX2_breed yX2_breed, Cond.selects "CreaturePond$Breeding" yX2_firstFreeAround yX2_firstFreeAround, Cond.selects "CreaturePond$Shape" yX5_nextTo yX5_nextTo, Cond.selects "CreaturePond$Breeding" yX2_payAndHalve yX2_payAndHalve, Cond.selects "CreaturePond$Breeding" yX2_mixCode yX2_mixCode, Cond.selects "CreaturePond$Pond" yX4_nextNumber yX4_nextNumber, Cond.selects "CreaturePond$Breeding" yX2_growFrom yX2_growFrom, Cond.selects "CreaturePond$Breeding" yX2_changeCode yX2_changeCode, Cond.selects "CreaturePond$Pond" yX4_endDead yX4_endDead, Cond.selects "CreaturePond$Pond" yX4_end yX4_end, Cond.selects "CreaturePond$Pond" yX4_firstOther yX4_firstOther, Cond.selects "CreaturePond$Pond" yX4_hasOtherDweller yX4_hasOtherDweller, Cond.selects "CreaturePondModel" yX6_cellAt yX6_cellAt, Cond.selects "CreaturePondModel" yX6_inCell yX6_inCell, Cond.selects "CreaturePondModel" yX6_free yX6_free, Cond.selects "CreaturePondModel" yX6_lives yX6_lives, Cond.selects "CreaturePondModel" yX6_make yX6_make, Cond.selects "CreaturePondModel" yX6_pass yX6_pass, Cond.selects "CreaturePondModel" yX6_shine yX6_shine]
def cpT_29 : List Cond := [Cond.selects "CreaturePondModel" yX6_live yX6_live, Cond.selects "CreaturePondModel" yX6_pay yX6_pay, Cond.selects "CreaturePondModel" yX6_operate yX6_operate, Cond.selects "CreaturePondModel" yX6_codeAt yX6_codeAt, Cond.selects "CreaturePondModel" yX6_act yX6_act, Cond.selects "CreaturePondModel" yX6_ahead yX6_ahead, Cond.selects "CreaturePondModel" yX6_beside yX6_beside, Cond.selects "CreaturePondModel" yX6_reckon yX6_reckon, Cond.selects "CreaturePondModel" yX6_looks yX6_looks, Cond.selects "CreaturePondModel" yX6_feels yX6_feels, Cond.selects "CreaturePondModel" yX6_breed yX6_breed, Cond.selects "CreaturePondModel" yX6_inherit yX6_inherit, Cond.selects "CreaturePondModel" yX6_next yX6_next, Cond.selects "CreaturePondModel" yX6_die yX6_die, Cond.selects "CreaturePondModel" yX6_animals yX6_animals, Cond.selects "CreaturePondModel" yX6_wasIn yX6_wasIn]
def cp_T : List Cond := cpT_0 ++ (cpT_1 ++ (cpT_2 ++ (cpT_3 ++ (cpT_4 ++ (cpT_5 ++ (cpT_6 ++ (cpT_7 ++ (cpT_8 ++ (cpT_9 ++ (cpT_10 ++ (cpT_11 ++ (cpT_12 ++ (cpT_13 ++ (cpT_14 ++ (cpT_15 ++ (cpT_16 ++ (cpT_17 ++ (cpT_18 ++ (cpT_19 ++ (cpT_20 ++ (cpT_21 ++ (cpT_22 ++ (cpT_23 ++ (cpT_24 ++ (cpT_25 ++ (cpT_26 ++ (cpT_27 ++ (cpT_28 ++ (cpT_29)))))))))))))))))))))))))))))
theorem tc_0 : ∀ w ∈ cpT_0, w ∈ cp_T := fun w h => List.mem_append_left _ h
theorem tc_1 : ∀ w ∈ cpT_1, w ∈ cp_T := fun w h => List.mem_append_right _ (List.mem_append_left _ h)
theorem tc_2 : ∀ w ∈ cpT_2, w ∈ cp_T := fun w h => List.mem_append_right _ (List.mem_append_right _ (List.mem_append_left _ h))
theorem tc_3 : ∀ w ∈ cpT_3, w ∈ cp_T := fun w h => List.mem_append_right _ (List.mem_append_right _ (List.mem_append_right _ (List.mem_append_left _ h)))
theorem tc_4 : ∀ w ∈ cpT_4, w ∈ cp_T := fun w h => List.mem_append_right _ (List.mem_append_right _ (List.mem_append_right _ (List.mem_append_right _ (List.mem_append_left _ h))))
theorem tc_5 : ∀ w ∈ cpT_5, w ∈ cp_T := fun w h => List.mem_append_right _ (List.mem_append_right _ (List.mem_append_right _ (List.mem_append_right _ (List.mem_append_right _ (List.mem_append_left _ h)))))
theorem tc_6 : ∀ w ∈ cpT_6, w ∈ cp_T := fun w h => List.mem_append_right _ (List.mem_append_right _ (List.mem_append_right _ (List.mem_append_right _ (List.mem_append_right _ (List.mem_append_right _ (List.mem_append_left _ h))))))
theorem tc_7 : ∀ w ∈ cpT_7, w ∈ cp_T := fun w h => List.mem_append_right _ (List.mem_append_right _ (List.mem_append_right _ (List.mem_append_right _ (List.mem_append_right _ (List.mem_append_right _ (List.mem_append_right _ (List.mem_append_left _ h)))))))
theorem tc_8 : ∀ w ∈ cpT_8, w ∈ cp_T := fun w h => List.mem_append_right _ (List.mem_append_right _ (List.mem_append_right _ (List.mem_append_right _ (List.mem_append_right _ (List.mem_append_right _ (List.mem_append_right _ (List.mem_append_right _ (List.mem_append_left _ h))))))))
theorem tc_9 : ∀ w ∈ cpT_9, w ∈ cp_T := fun w h => List.mem_append_right _ (List.mem_append_right _ (List.mem_append_right _ (List.mem_append_right _ (List.mem_append_right _ (List.mem_append_right _ (List.mem_append_right _ (List.mem_append_right _ (List.mem_append_right _ (List.mem_append_left _ h)))))))))
theorem tc_10 : ∀ w ∈ cpT_10, w ∈ cp_T := fun w h => List.mem_append_right _ (List.mem_append_right _ (List.mem_append_right _ (List.mem_append_right _ (List.mem_append_right _ (List.mem_append_right _ (List.mem_append_right _ (List.mem_append_right _ (List.mem_append_right _ (List.mem_append_right _ (List.mem_append_left _ h))))))))))
theorem tc_11 : ∀ w ∈ cpT_11, w ∈ cp_T := fun w h => List.mem_append_right _ (List.mem_append_right _ (List.mem_append_right _ (List.mem_append_right _ (List.mem_append_right _ (List.mem_append_right _ (List.mem_append_right _ (List.mem_append_right _ (List.mem_append_right _ (List.mem_append_right _ (List.mem_append_right _ (List.mem_append_left _ h)))))))))))
theorem tc_12 : ∀ w ∈ cpT_12, w ∈ cp_T := fun w h => List.mem_append_right _ (List.mem_append_right _ (List.mem_append_right _ (List.mem_append_right _ (List.mem_append_right _ (List.mem_append_right _ (List.mem_append_right _ (List.mem_append_right _ (List.mem_append_right _ (List.mem_append_right _ (List.mem_append_right _ (List.mem_append_right _ (List.mem_append_left _ h))))))))))))
theorem tc_13 : ∀ w ∈ cpT_13, w ∈ cp_T := fun w h => List.mem_append_right _ (List.mem_append_right _ (List.mem_append_right _ (List.mem_append_right _ (List.mem_append_right _ (List.mem_append_right _ (List.mem_append_right _ (List.mem_append_right _ (List.mem_append_right _ (List.mem_append_right _ (List.mem_append_right _ (List.mem_append_right _ (List.mem_append_right _ (List.mem_append_left _ h)))))))))))))
theorem tc_14 : ∀ w ∈ cpT_14, w ∈ cp_T := fun w h => List.mem_append_right _ (List.mem_append_right _ (List.mem_append_right _ (List.mem_append_right _ (List.mem_append_right _ (List.mem_append_right _ (List.mem_append_right _ (List.mem_append_right _ (List.mem_append_right _ (List.mem_append_right _ (List.mem_append_right _ (List.mem_append_right _ (List.mem_append_right _ (List.mem_append_right _ (List.mem_append_left _ h))))))))))))))
theorem tc_15 : ∀ w ∈ cpT_15, w ∈ cp_T := fun w h => List.mem_append_right _ (List.mem_append_right _ (List.mem_append_right _ (List.mem_append_right _ (List.mem_append_right _ (List.mem_append_right _ (List.mem_append_right _ (List.mem_append_right _ (List.mem_append_right _ (List.mem_append_right _ (List.mem_append_right _ (List.mem_append_right _ (List.mem_append_right _ (List.mem_append_right _ (List.mem_append_right _ (List.mem_append_left _ h)))))))))))))))
theorem tc_16 : ∀ w ∈ cpT_16, w ∈ cp_T := fun w h => List.mem_append_right _ (List.mem_append_right _ (List.mem_append_right _ (List.mem_append_right _ (List.mem_append_right _ (List.mem_append_right _ (List.mem_append_right _ (List.mem_append_right _ (List.mem_append_right _ (List.mem_append_right _ (List.mem_append_right _ (List.mem_append_right _ (List.mem_append_right _ (List.mem_append_right _ (List.mem_append_right _ (List.mem_append_right _ (List.mem_append_left _ h))))))))))))))))
theorem tc_17 : ∀ w ∈ cpT_17, w ∈ cp_T := fun w h => List.mem_append_right _ (List.mem_append_right _ (List.mem_append_right _ (List.mem_append_right _ (List.mem_append_right _ (List.mem_append_right _ (List.mem_append_right _ (List.mem_append_right _ (List.mem_append_right _ (List.mem_append_right _ (List.mem_append_right _ (List.mem_append_right _ (List.mem_append_right _ (List.mem_append_right _ (List.mem_append_right _ (List.mem_append_right _ (List.mem_append_right _ (List.mem_append_left _ h)))))))))))))))))
theorem tc_18 : ∀ w ∈ cpT_18, w ∈ cp_T := fun w h => List.mem_append_right _ (List.mem_append_right _ (List.mem_append_right _ (List.mem_append_right _ (List.mem_append_right _ (List.mem_append_right _ (List.mem_append_right _ (List.mem_append_right _ (List.mem_append_right _ (List.mem_append_right _ (List.mem_append_right _ (List.mem_append_right _ (List.mem_append_right _ (List.mem_append_right _ (List.mem_append_right _ (List.mem_append_right _ (List.mem_append_right _ (List.mem_append_right _ (List.mem_append_left _ h))))))))))))))))))
theorem tc_19 : ∀ w ∈ cpT_19, w ∈ cp_T := fun w h => List.mem_append_right _ (List.mem_append_right _ (List.mem_append_right _ (List.mem_append_right _ (List.mem_append_right _ (List.mem_append_right _ (List.mem_append_right _ (List.mem_append_right _ (List.mem_append_right _ (List.mem_append_right _ (List.mem_append_right _ (List.mem_append_right _ (List.mem_append_right _ (List.mem_append_right _ (List.mem_append_right _ (List.mem_append_right _ (List.mem_append_right _ (List.mem_append_right _ (List.mem_append_right _ (List.mem_append_left _ h)))))))))))))))))))
theorem tc_20 : ∀ w ∈ cpT_20, w ∈ cp_T := fun w h => List.mem_append_right _ (List.mem_append_right _ (List.mem_append_right _ (List.mem_append_right _ (List.mem_append_right _ (List.mem_append_right _ (List.mem_append_right _ (List.mem_append_right _ (List.mem_append_right _ (List.mem_append_right _ (List.mem_append_right _ (List.mem_append_right _ (List.mem_append_right _ (List.mem_append_right _ (List.mem_append_right _ (List.mem_append_right _ (List.mem_append_right _ (List.mem_append_right _ (List.mem_append_right _ (List.mem_append_right _ (List.mem_append_left _ h))))))))))))))))))))
theorem tc_21 : ∀ w ∈ cpT_21, w ∈ cp_T := fun w h => List.mem_append_right _ (List.mem_append_right _ (List.mem_append_right _ (List.mem_append_right _ (List.mem_append_right _ (List.mem_append_right _ (List.mem_append_right _ (List.mem_append_right _ (List.mem_append_right _ (List.mem_append_right _ (List.mem_append_right _ (List.mem_append_right _ (List.mem_append_right _ (List.mem_append_right _ (List.mem_append_right _ (List.mem_append_right _ (List.mem_append_right _ (List.mem_append_right _ (List.mem_append_right _ (List.mem_append_right _ (List.mem_append_right _ (List.mem_append_left _ h)))))))))))))))))))))
theorem tc_22 : ∀ w ∈ cpT_22, w ∈ cp_T := fun w h => List.mem_append_right _ (List.mem_append_right _ (List.mem_append_right _ (List.mem_append_right _ (List.mem_append_right _ (List.mem_append_right _ (List.mem_append_right _ (List.mem_append_right _ (List.mem_append_right _ (List.mem_append_right _ (List.mem_append_right _ (List.mem_append_right _ (List.mem_append_right _ (List.mem_append_right _ (List.mem_append_right _ (List.mem_append_right _ (List.mem_append_right _ (List.mem_append_right _ (List.mem_append_right _ (List.mem_append_right _ (List.mem_append_right _ (List.mem_append_right _ (List.mem_append_left _ h))))))))))))))))))))))
theorem tc_23 : ∀ w ∈ cpT_23, w ∈ cp_T := fun w h => List.mem_append_right _ (List.mem_append_right _ (List.mem_append_right _ (List.mem_append_right _ (List.mem_append_right _ (List.mem_append_right _ (List.mem_append_right _ (List.mem_append_right _ (List.mem_append_right _ (List.mem_append_right _ (List.mem_append_right _ (List.mem_append_right _ (List.mem_append_right _ (List.mem_append_right _ (List.mem_append_right _ (List.mem_append_right _ (List.mem_append_right _ (List.mem_append_right _ (List.mem_append_right _ (List.mem_append_right _ (List.mem_append_right _ (List.mem_append_right _ (List.mem_append_right _ (List.mem_append_left _ h)))))))))))))))))))))))
theorem tc_24 : ∀ w ∈ cpT_24, w ∈ cp_T := fun w h => List.mem_append_right _ (List.mem_append_right _ (List.mem_append_right _ (List.mem_append_right _ (List.mem_append_right _ (List.mem_append_right _ (List.mem_append_right _ (List.mem_append_right _ (List.mem_append_right _ (List.mem_append_right _ (List.mem_append_right _ (List.mem_append_right _ (List.mem_append_right _ (List.mem_append_right _ (List.mem_append_right _ (List.mem_append_right _ (List.mem_append_right _ (List.mem_append_right _ (List.mem_append_right _ (List.mem_append_right _ (List.mem_append_right _ (List.mem_append_right _ (List.mem_append_right _ (List.mem_append_right _ (List.mem_append_left _ h))))))))))))))))))))))))
theorem tc_25 : ∀ w ∈ cpT_25, w ∈ cp_T := fun w h => List.mem_append_right _ (List.mem_append_right _ (List.mem_append_right _ (List.mem_append_right _ (List.mem_append_right _ (List.mem_append_right _ (List.mem_append_right _ (List.mem_append_right _ (List.mem_append_right _ (List.mem_append_right _ (List.mem_append_right _ (List.mem_append_right _ (List.mem_append_right _ (List.mem_append_right _ (List.mem_append_right _ (List.mem_append_right _ (List.mem_append_right _ (List.mem_append_right _ (List.mem_append_right _ (List.mem_append_right _ (List.mem_append_right _ (List.mem_append_right _ (List.mem_append_right _ (List.mem_append_right _ (List.mem_append_right _ (List.mem_append_left _ h)))))))))))))))))))))))))
theorem tc_26 : ∀ w ∈ cpT_26, w ∈ cp_T := fun w h => List.mem_append_right _ (List.mem_append_right _ (List.mem_append_right _ (List.mem_append_right _ (List.mem_append_right _ (List.mem_append_right _ (List.mem_append_right _ (List.mem_append_right _ (List.mem_append_right _ (List.mem_append_right _ (List.mem_append_right _ (List.mem_append_right _ (List.mem_append_right _ (List.mem_append_right _ (List.mem_append_right _ (List.mem_append_right _ (List.mem_append_right _ (List.mem_append_right _ (List.mem_append_right _ (List.mem_append_right _ (List.mem_append_right _ (List.mem_append_right _ (List.mem_append_right _ (List.mem_append_right _ (List.mem_append_right _ (List.mem_append_right _ (List.mem_append_left _ h))))))))))))))))))))))))))
theorem tc_27 : ∀ w ∈ cpT_27, w ∈ cp_T := fun w h => List.mem_append_right _ (List.mem_append_right _ (List.mem_append_right _ (List.mem_append_right _ (List.mem_append_right _ (List.mem_append_right _ (List.mem_append_right _ (List.mem_append_right _ (List.mem_append_right _ (List.mem_append_right _ (List.mem_append_right _ (List.mem_append_right _ (List.mem_append_right _ (List.mem_append_right _ (List.mem_append_right _ (List.mem_append_right _ (List.mem_append_right _ (List.mem_append_right _ (List.mem_append_right _ (List.mem_append_right _ (List.mem_append_right _ (List.mem_append_right _ (List.mem_append_right _ (List.mem_append_right _ (List.mem_append_right _ (List.mem_append_right _ (List.mem_append_right _ (List.mem_append_left _ h)))))))))))))))))))))))))))
theorem tc_28 : ∀ w ∈ cpT_28, w ∈ cp_T := fun w h => List.mem_append_right _ (List.mem_append_right _ (List.mem_append_right _ (List.mem_append_right _ (List.mem_append_right _ (List.mem_append_right _ (List.mem_append_right _ (List.mem_append_right _ (List.mem_append_right _ (List.mem_append_right _ (List.mem_append_right _ (List.mem_append_right _ (List.mem_append_right _ (List.mem_append_right _ (List.mem_append_right _ (List.mem_append_right _ (List.mem_append_right _ (List.mem_append_right _ (List.mem_append_right _ (List.mem_append_right _ (List.mem_append_right _ (List.mem_append_right _ (List.mem_append_right _ (List.mem_append_right _ (List.mem_append_right _ (List.mem_append_right _ (List.mem_append_right _ (List.mem_append_right _ (List.mem_append_left _ h))))))))))))))))))))))))))))
theorem tc_29 : ∀ w ∈ cpT_29, w ∈ cp_T := fun w h => List.mem_append_right _ (List.mem_append_right _ (List.mem_append_right _ (List.mem_append_right _ (List.mem_append_right _ (List.mem_append_right _ (List.mem_append_right _ (List.mem_append_right _ (List.mem_append_right _ (List.mem_append_right _ (List.mem_append_right _ (List.mem_append_right _ (List.mem_append_right _ (List.mem_append_right _ (List.mem_append_right _ (List.mem_append_right _ (List.mem_append_right _ (List.mem_append_right _ (List.mem_append_right _ (List.mem_append_right _ (List.mem_append_right _ (List.mem_append_right _ (List.mem_append_right _ (List.mem_append_right _ (List.mem_append_right _ (List.mem_append_right _ (List.mem_append_right _ (List.mem_append_right _ (List.mem_append_right _ (h)))))))))))))))))))))))))))))
theorem tw_0 : (Cond.initialized "CreaturePondLaw" : Cond) ∈ cp_T := tc_0 _ (List.mem_of_getElem? (i := 0) rfl)
theorem tw_1 : (Cond.initialized "CreaturePond" : Cond) ∈ cp_T := tc_0 _ (List.mem_of_getElem? (i := 1) rfl)
theorem tw_2 : (Cond.initialized "CreaturePond$Shape" : Cond) ∈ cp_T := tc_0 _ (List.mem_of_getElem? (i := 2) rfl)
theorem tw_3 : (Cond.initialized "java/lang/Math" : Cond) ∈ cp_T := tc_0 _ (List.mem_of_getElem? (i := 3) rfl)
theorem tw_4 : (Cond.initialized "CreaturePond$Pond" : Cond) ∈ cp_T := tc_0 _ (List.mem_of_getElem? (i := 4) rfl)
theorem tw_5 : (Cond.initialized "CreaturePond$Animal" : Cond) ∈ cp_T := tc_0 _ (List.mem_of_getElem? (i := 5) rfl)
theorem tw_6 : (Cond.initialized "CreaturePond$Mind" : Cond) ∈ cp_T := tc_0 _ (List.mem_of_getElem? (i := 6) rfl)
theorem tw_7 : (Cond.initialized "CreaturePond$Breeding" : Cond) ∈ cp_T := tc_0 _ (List.mem_of_getElem? (i := 7) rfl)
theorem tw_8 : (Cond.initialized "CreaturePondModel" : Cond) ∈ cp_T := tc_0 _ (List.mem_of_getElem? (i := 8) rfl)
theorem tw_9 : (Cond.initialized "java/lang/Throwable" : Cond) ∈ cp_T := tc_0 _ (List.mem_of_getElem? (i := 9) rfl)
theorem tw_10 : (Cond.initialized "java/lang/Exception" : Cond) ∈ cp_T := tc_0 _ (List.mem_of_getElem? (i := 10) rfl)
theorem tw_11 : (Cond.initialized "java/lang/RuntimeException" : Cond) ∈ cp_T := tc_0 _ (List.mem_of_getElem? (i := 11) rfl)
theorem tw_12 : (Cond.initialized "java/lang/IllegalArgumentException" : Cond) ∈ cp_T := tc_0 _ (List.mem_of_getElem? (i := 12) rfl)
theorem tw_13 : (Cond.initialized "java/lang/IllegalStateException" : Cond) ∈ cp_T := tc_0 _ (List.mem_of_getElem? (i := 13) rfl)
theorem tw_14 : (Cond.initialized "java/lang/IndexOutOfBoundsException" : Cond) ∈ cp_T := tc_0 _ (List.mem_of_getElem? (i := 14) rfl)
theorem tw_15 : (Cond.initialized "java/lang/System" : Cond) ∈ cp_T := tc_0 _ (List.mem_of_getElem? (i := 15) rfl)
theorem tw_16 : (Cond.classLink "CreaturePondLaw" 8 "CreaturePond" : Cond) ∈ cp_T := tc_0 _ (List.mem_of_getElem? (i := 16) rfl)
theorem tw_17 : (Cond.instantiable "CreaturePond" 6 : Cond) ∈ cp_T := tc_0 _ (List.mem_of_getElem? (i := 17) rfl)
theorem tw_18 : (Cond.methodLink "CreaturePondLaw" 41 yX0_init : Cond) ∈ cp_T := tc_0 _ (List.mem_of_getElem? (i := 18) rfl)
theorem tw_19 : (Cond.instanceMethod yX0_init : Cond) ∈ cp_T := tc_0 _ (List.mem_of_getElem? (i := 19) rfl)
theorem tw_20 : (Cond.code yX0_init cX0_init 3 none : Cond) ∈ cp_T := tc_1 _ (List.mem_of_getElem? (i := 0) rfl)
theorem tw_21 : (Cond.methodLink "CreaturePond" 1 objectInit : Cond) ∈ cp_T := tc_1 _ (List.mem_of_getElem? (i := 1) rfl)
theorem tw_22 : (Cond.instanceMethod objectInit : Cond) ∈ cp_T := tc_1 _ (List.mem_of_getElem? (i := 2) rfl)
theorem tw_23 : (Cond.code objectInit ⟨#[0xb1]⟩ 1 none : Cond) ∈ cp_T := tc_1 _ (List.mem_of_getElem? (i := 3) rfl)
theorem tw_24 : (Cond.classLink "CreaturePond" 7 "CreaturePond$Shape" : Cond) ∈ cp_T := tc_1 _ (List.mem_of_getElem? (i := 4) rfl)
theorem tw_25 : (Cond.instantiable "CreaturePond$Shape" 4 : Cond) ∈ cp_T := tc_1 _ (List.mem_of_getElem? (i := 5) rfl)
theorem tw_26 : (Cond.methodLink "CreaturePond" 11 Lib.Math.min.name : Cond) ∈ cp_T := tc_1 _ (List.mem_of_getElem? (i := 6) rfl)
theorem tw_27 : (Cond.static Lib.Math.min.name : Cond) ∈ cp_T := tc_1 _ (List.mem_of_getElem? (i := 7) rfl)
theorem tw_28 : (Cond.code Lib.Math.min.name Lib.Math.min.code 2 (some .int) : Cond) ∈ cp_T := tc_1 _ (List.mem_of_getElem? (i := 8) rfl)
theorem tw_29 : (Cond.methodLink "CreaturePond" 17 Lib.Math.max.name : Cond) ∈ cp_T := tc_1 _ (List.mem_of_getElem? (i := 9) rfl)
theorem tw_30 : (Cond.static Lib.Math.max.name : Cond) ∈ cp_T := tc_1 _ (List.mem_of_getElem? (i := 10) rfl)
theorem tw_31 : (Cond.code Lib.Math.max.name Lib.Math.max.code 2 (some .int) : Cond) ∈ cp_T := tc_1 _ (List.mem_of_getElem? (i := 11) rfl)
theorem tw_32 : (Cond.instanceMethod yX5_init : Cond) ∈ cp_T := tc_1 _ (List.mem_of_getElem? (i := 12) rfl)
theorem tw_33 : (Cond.code yX5_init cX5_init 6 none : Cond) ∈ cp_T := tc_1 _ (List.mem_of_getElem? (i := 13) rfl)
theorem tw_34 : (Cond.methodLink "CreaturePond$Shape" 3 objectInit : Cond) ∈ cp_T := tc_1 _ (List.mem_of_getElem? (i := 14) rfl)
theorem tw_35 : (Cond.methodLink "CreaturePond$Shape" 25 yX5_columnOf : Cond) ∈ cp_T := tc_1 _ (List.mem_of_getElem? (i := 15) rfl)
theorem tw_36 : (Cond.instanceMethod yX5_columnOf : Cond) ∈ cp_T := tc_1 _ (List.mem_of_getElem? (i := 16) rfl)
theorem tw_37 : (Cond.code yX5_columnOf cX5_columnOf 2 (some .int) : Cond) ∈ cp_T := tc_1 _ (List.mem_of_getElem? (i := 17) rfl)
theorem tw_38 : (Cond.fieldLink "CreaturePond$Shape" 29 "CreaturePond$Shape" "STEP_X" "[I" : Cond) ∈ cp_T := tc_1 _ (List.mem_of_getElem? (i := 18) rfl)
theorem tw_39 : (Cond.methodLink "CreaturePond$Shape" 32 yX5_rowOf : Cond) ∈ cp_T := tc_1 _ (List.mem_of_getElem? (i := 19) rfl)
theorem tw_40 : (Cond.instanceMethod yX5_rowOf : Cond) ∈ cp_T := tc_2 _ (List.mem_of_getElem? (i := 0) rfl)
theorem tw_41 : (Cond.code yX5_rowOf cX5_rowOf 2 (some .int) : Cond) ∈ cp_T := tc_2 _ (List.mem_of_getElem? (i := 1) rfl)
theorem tw_42 : (Cond.fieldLink "CreaturePond$Shape" 35 "CreaturePond$Shape" "STEP_Y" "[I" : Cond) ∈ cp_T := tc_2 _ (List.mem_of_getElem? (i := 2) rfl)
theorem tw_43 : (Cond.methodLink "CreaturePond$Shape" 38 yX5_cellAt : Cond) ∈ cp_T := tc_2 _ (List.mem_of_getElem? (i := 3) rfl)
theorem tw_44 : (Cond.instanceMethod yX5_cellAt : Cond) ∈ cp_T := tc_2 _ (List.mem_of_getElem? (i := 4) rfl)
theorem tw_45 : (Cond.code yX5_cellAt cX5_cellAt 3 (some .int) : Cond) ∈ cp_T := tc_2 _ (List.mem_of_getElem? (i := 5) rfl)
theorem tw_46 : (Cond.methodLink "CreaturePond$Shape" 42 yJ_floorMod : Cond) ∈ cp_T := tc_2 _ (List.mem_of_getElem? (i := 6) rfl)
theorem tw_47 : (Cond.static yJ_floorMod : Cond) ∈ cp_T := tc_2 _ (List.mem_of_getElem? (i := 7) rfl)
theorem tw_48 : (Cond.code yJ_floorMod cJ_floorMod 3 (some .int) : Cond) ∈ cp_T := tc_2 _ (List.mem_of_getElem? (i := 8) rfl)
theorem tw_49 : (Cond.fieldLink "CreaturePond$Shape" 9 "CreaturePond$Shape" "width" "I" : Cond) ∈ cp_T := tc_2 _ (List.mem_of_getElem? (i := 9) rfl)
theorem tw_50 : (Cond.fieldLink "CreaturePond$Shape" 15 "CreaturePond$Shape" "height" "I" : Cond) ∈ cp_T := tc_2 _ (List.mem_of_getElem? (i := 10) rfl)
theorem tw_51 : (Cond.fieldLink "CreaturePond$Shape" 18 "CreaturePond$Shape" "cells" "I" : Cond) ∈ cp_T := tc_2 _ (List.mem_of_getElem? (i := 11) rfl)
theorem tw_52 : (Cond.fieldLink "CreaturePond$Shape" 21 "CreaturePond$Shape" "neighbours" "[I" : Cond) ∈ cp_T := tc_2 _ (List.mem_of_getElem? (i := 12) rfl)
theorem tw_53 : (Cond.laysFinal "CreaturePond$Shape" "CreaturePond$Shape" "width" "I" : Cond) ∈ cp_T := tc_2 _ (List.mem_of_getElem? (i := 13) rfl)
theorem tw_54 : (Cond.laysFinal "CreaturePond$Shape" "CreaturePond$Shape" "height" "I" : Cond) ∈ cp_T := tc_2 _ (List.mem_of_getElem? (i := 14) rfl)
theorem tw_55 : (Cond.laysFinal "CreaturePond$Shape" "CreaturePond$Shape" "cells" "I" : Cond) ∈ cp_T := tc_2 _ (List.mem_of_getElem? (i := 15) rfl)
theorem tw_56 : (Cond.laysFinal "CreaturePond$Shape" "CreaturePond$Shape" "neighbours" "[I" : Cond) ∈ cp_T := tc_2 _ (List.mem_of_getElem? (i := 16) rfl)
theorem tw_57 : (Cond.arrayClass .int : Cond) ∈ cp_T := tc_2 _ (List.mem_of_getElem? (i := 17) rfl)
theorem tw_58 : (Cond.classLink "CreaturePond" 27 "CreaturePond$Pond" : Cond) ∈ cp_T := tc_2 _ (List.mem_of_getElem? (i := 18) rfl)
theorem tw_59 : (Cond.instantiable "CreaturePond$Pond" 12 : Cond) ∈ cp_T := tc_2 _ (List.mem_of_getElem? (i := 19) rfl)
theorem tw_60 : (Cond.instanceMethod yX4_init : Cond) ∈ cp_T := tc_3 _ (List.mem_of_getElem? (i := 0) rfl)
theorem tw_61 : (Cond.code yX4_init cX4_init 3 none : Cond) ∈ cp_T := tc_3 _ (List.mem_of_getElem? (i := 1) rfl)
theorem tw_62 : (Cond.methodLink "CreaturePond$Pond" 3 objectInit : Cond) ∈ cp_T := tc_3 _ (List.mem_of_getElem? (i := 2) rfl)
theorem tw_63 : (Cond.classLink "CreaturePond$Pond" 9 "CreaturePond$Animal" : Cond) ∈ cp_T := tc_3 _ (List.mem_of_getElem? (i := 3) rfl)
theorem tw_64 : (Cond.instantiable "CreaturePond$Animal" 14 : Cond) ∈ cp_T := tc_3 _ (List.mem_of_getElem? (i := 4) rfl)
theorem tw_65 : (Cond.instanceMethod yX1_init : Cond) ∈ cp_T := tc_3 _ (List.mem_of_getElem? (i := 5) rfl)
theorem tw_66 : (Cond.code yX1_init cX1_init 1 none : Cond) ∈ cp_T := tc_3 _ (List.mem_of_getElem? (i := 6) rfl)
theorem tw_67 : (Cond.methodLink "CreaturePond$Animal" 3 objectInit : Cond) ∈ cp_T := tc_3 _ (List.mem_of_getElem? (i := 7) rfl)
theorem tw_68 : (Cond.fieldLink "CreaturePond$Animal" 9 "CreaturePond$Animal" "registers" "[B" : Cond) ∈ cp_T := tc_3 _ (List.mem_of_getElem? (i := 8) rfl)
theorem tw_69 : (Cond.fieldLink "CreaturePond$Animal" 15 "CreaturePond$Animal" "memory" "[B" : Cond) ∈ cp_T := tc_3 _ (List.mem_of_getElem? (i := 9) rfl)
theorem tw_70 : (Cond.fieldLink "CreaturePond$Animal" 18 "CreaturePond$Animal" "genes" "[B" : Cond) ∈ cp_T := tc_3 _ (List.mem_of_getElem? (i := 10) rfl)
theorem tw_71 : (Cond.fieldLink "CreaturePond$Animal" 21 "CreaturePond$Animal" "lives" "Z" : Cond) ∈ cp_T := tc_3 _ (List.mem_of_getElem? (i := 11) rfl)
theorem tw_72 : (Cond.fieldLink "CreaturePond$Animal" 25 "CreaturePond$Animal" "asked" "Z" : Cond) ∈ cp_T := tc_3 _ (List.mem_of_getElem? (i := 12) rfl)
theorem tw_73 : (Cond.fieldLink "CreaturePond$Animal" 28 "CreaturePond$Animal" "home" "I" : Cond) ∈ cp_T := tc_3 _ (List.mem_of_getElem? (i := 13) rfl)
theorem tw_74 : (Cond.fieldLink "CreaturePond$Animal" 32 "CreaturePond$Animal" "heading" "I" : Cond) ∈ cp_T := tc_3 _ (List.mem_of_getElem? (i := 14) rfl)
theorem tw_75 : (Cond.fieldLink "CreaturePond$Animal" 35 "CreaturePond$Animal" "energy" "I" : Cond) ∈ cp_T := tc_3 _ (List.mem_of_getElem? (i := 15) rfl)
theorem tw_76 : (Cond.fieldLink "CreaturePond$Animal" 38 "CreaturePond$Animal" "age" "I" : Cond) ∈ cp_T := tc_3 _ (List.mem_of_getElem? (i := 16) rfl)
theorem tw_77 : (Cond.fieldLink "CreaturePond$Animal" 41 "CreaturePond$Animal" "length" "I" : Cond) ∈ cp_T := tc_3 _ (List.mem_of_getElem? (i := 17) rfl)
theorem tw_78 : (Cond.fieldLink "CreaturePond$Animal" 44 "CreaturePond$Animal" "place" "I" : Cond) ∈ cp_T := tc_3 _ (List.mem_of_getElem? (i := 18) rfl)
theorem tw_79 : (Cond.fieldLink "CreaturePond$Animal" 47 "CreaturePond$Animal" "firstParent" "I" : Cond) ∈ cp_T := tc_3 _ (List.mem_of_getElem? (i := 19) rfl)
theorem tw_80 : (Cond.fieldLink "CreaturePond$Animal" 50 "CreaturePond$Animal" "secondParent" "I" : Cond) ∈ cp_T := tc_4 _ (List.mem_of_getElem? (i := 0) rfl)
theorem tw_81 : (Cond.fieldLink "CreaturePond$Animal" 53 "CreaturePond$Animal" "generation" "I" : Cond) ∈ cp_T := tc_4 _ (List.mem_of_getElem? (i := 1) rfl)
theorem tw_82 : (Cond.laysFinal "CreaturePond$Animal" "CreaturePond$Animal" "registers" "[B" : Cond) ∈ cp_T := tc_4 _ (List.mem_of_getElem? (i := 2) rfl)
theorem tw_83 : (Cond.laysFinal "CreaturePond$Animal" "CreaturePond$Animal" "memory" "[B" : Cond) ∈ cp_T := tc_4 _ (List.mem_of_getElem? (i := 3) rfl)
theorem tw_84 : (Cond.laysFinal "CreaturePond$Animal" "CreaturePond$Animal" "genes" "[B" : Cond) ∈ cp_T := tc_4 _ (List.mem_of_getElem? (i := 4) rfl)
theorem tw_85 : (Cond.lays "CreaturePond$Animal" "CreaturePond$Animal" "lives" "Z" : Cond) ∈ cp_T := tc_4 _ (List.mem_of_getElem? (i := 5) rfl)
theorem tw_86 : (Cond.lays "CreaturePond$Animal" "CreaturePond$Animal" "asked" "Z" : Cond) ∈ cp_T := tc_4 _ (List.mem_of_getElem? (i := 6) rfl)
theorem tw_87 : (Cond.lays "CreaturePond$Animal" "CreaturePond$Animal" "home" "I" : Cond) ∈ cp_T := tc_4 _ (List.mem_of_getElem? (i := 7) rfl)
theorem tw_88 : (Cond.lays "CreaturePond$Animal" "CreaturePond$Animal" "heading" "I" : Cond) ∈ cp_T := tc_4 _ (List.mem_of_getElem? (i := 8) rfl)
theorem tw_89 : (Cond.lays "CreaturePond$Animal" "CreaturePond$Animal" "energy" "I" : Cond) ∈ cp_T := tc_4 _ (List.mem_of_getElem? (i := 9) rfl)
theorem tw_90 : (Cond.lays "CreaturePond$Animal" "CreaturePond$Animal" "age" "I" : Cond) ∈ cp_T := tc_4 _ (List.mem_of_getElem? (i := 10) rfl)
theorem tw_91 : (Cond.lays "CreaturePond$Animal" "CreaturePond$Animal" "length" "I" : Cond) ∈ cp_T := tc_4 _ (List.mem_of_getElem? (i := 11) rfl)
theorem tw_92 : (Cond.lays "CreaturePond$Animal" "CreaturePond$Animal" "place" "I" : Cond) ∈ cp_T := tc_4 _ (List.mem_of_getElem? (i := 12) rfl)
theorem tw_93 : (Cond.lays "CreaturePond$Animal" "CreaturePond$Animal" "firstParent" "I" : Cond) ∈ cp_T := tc_4 _ (List.mem_of_getElem? (i := 13) rfl)
theorem tw_94 : (Cond.lays "CreaturePond$Animal" "CreaturePond$Animal" "secondParent" "I" : Cond) ∈ cp_T := tc_4 _ (List.mem_of_getElem? (i := 14) rfl)
theorem tw_95 : (Cond.lays "CreaturePond$Animal" "CreaturePond$Animal" "generation" "I" : Cond) ∈ cp_T := tc_4 _ (List.mem_of_getElem? (i := 15) rfl)
theorem tw_96 : (Cond.arrayClass .byte : Cond) ∈ cp_T := tc_4 _ (List.mem_of_getElem? (i := 16) rfl)
theorem tw_97 : (Cond.fieldLink "CreaturePond$Pond" 17 "CreaturePond$Pond" "shape" "LCreaturePond$Shape;" : Cond) ∈ cp_T := tc_4 _ (List.mem_of_getElem? (i := 17) rfl)
theorem tw_98 : (Cond.fieldLink "CreaturePond$Pond" 27 "CreaturePond$Pond" "grains" "[I" : Cond) ∈ cp_T := tc_4 _ (List.mem_of_getElem? (i := 18) rfl)
theorem tw_99 : (Cond.fieldLink "CreaturePond$Pond" 31 "CreaturePond$Pond" "marks" "[B" : Cond) ∈ cp_T := tc_4 _ (List.mem_of_getElem? (i := 19) rfl)
theorem tw_100 : (Cond.fieldLink "CreaturePond$Pond" 35 "CreaturePond$Pond" "dwellers" "[I" : Cond) ∈ cp_T := tc_5 _ (List.mem_of_getElem? (i := 0) rfl)
theorem tw_101 : (Cond.fieldLink "CreaturePond$Pond" 11 "CreaturePond$Pond" "animals" "[LCreaturePond$Animal;" : Cond) ∈ cp_T := tc_5 _ (List.mem_of_getElem? (i := 1) rfl)
theorem tw_102 : (Cond.fieldLink "CreaturePond$Pond" 49 "CreaturePond$Pond" "stored" "I" : Cond) ∈ cp_T := tc_5 _ (List.mem_of_getElem? (i := 2) rfl)
theorem tw_103 : (Cond.fieldLink "CreaturePond$Pond" 52 "CreaturePond$Pond" "sun" "I" : Cond) ∈ cp_T := tc_5 _ (List.mem_of_getElem? (i := 3) rfl)
theorem tw_104 : (Cond.fieldLink "CreaturePond$Pond" 55 "CreaturePond$Pond" "stream" "I" : Cond) ∈ cp_T := tc_5 _ (List.mem_of_getElem? (i := 4) rfl)
theorem tw_105 : (Cond.fieldLink "CreaturePond$Pond" 58 "CreaturePond$Pond" "turn" "I" : Cond) ∈ cp_T := tc_5 _ (List.mem_of_getElem? (i := 5) rfl)
theorem tw_106 : (Cond.fieldLink "CreaturePond$Pond" 61 "CreaturePond$Pond" "births" "I" : Cond) ∈ cp_T := tc_5 _ (List.mem_of_getElem? (i := 6) rfl)
theorem tw_107 : (Cond.fieldLink "CreaturePond$Pond" 64 "CreaturePond$Pond" "deaths" "I" : Cond) ∈ cp_T := tc_5 _ (List.mem_of_getElem? (i := 7) rfl)
theorem tw_108 : (Cond.fieldLink "CreaturePond$Pond" 67 "CreaturePond$Pond" "ticks" "I" : Cond) ∈ cp_T := tc_5 _ (List.mem_of_getElem? (i := 8) rfl)
theorem tw_109 : (Cond.laysFinal "CreaturePond$Pond" "CreaturePond$Pond" "shape" "LCreaturePond$Shape;" : Cond) ∈ cp_T := tc_5 _ (List.mem_of_getElem? (i := 9) rfl)
theorem tw_110 : (Cond.laysFinal "CreaturePond$Pond" "CreaturePond$Pond" "grains" "[I" : Cond) ∈ cp_T := tc_5 _ (List.mem_of_getElem? (i := 10) rfl)
theorem tw_111 : (Cond.laysFinal "CreaturePond$Pond" "CreaturePond$Pond" "marks" "[B" : Cond) ∈ cp_T := tc_5 _ (List.mem_of_getElem? (i := 11) rfl)
theorem tw_112 : (Cond.laysFinal "CreaturePond$Pond" "CreaturePond$Pond" "dwellers" "[I" : Cond) ∈ cp_T := tc_5 _ (List.mem_of_getElem? (i := 12) rfl)
theorem tw_113 : (Cond.laysFinal "CreaturePond$Pond" "CreaturePond$Pond" "animals" "[LCreaturePond$Animal;" : Cond) ∈ cp_T := tc_5 _ (List.mem_of_getElem? (i := 13) rfl)
theorem tw_114 : (Cond.lays "CreaturePond$Pond" "CreaturePond$Pond" "stored" "I" : Cond) ∈ cp_T := tc_5 _ (List.mem_of_getElem? (i := 14) rfl)
theorem tw_115 : (Cond.lays "CreaturePond$Pond" "CreaturePond$Pond" "sun" "I" : Cond) ∈ cp_T := tc_5 _ (List.mem_of_getElem? (i := 15) rfl)
theorem tw_116 : (Cond.lays "CreaturePond$Pond" "CreaturePond$Pond" "stream" "I" : Cond) ∈ cp_T := tc_5 _ (List.mem_of_getElem? (i := 16) rfl)
theorem tw_117 : (Cond.lays "CreaturePond$Pond" "CreaturePond$Pond" "turn" "I" : Cond) ∈ cp_T := tc_5 _ (List.mem_of_getElem? (i := 17) rfl)
theorem tw_118 : (Cond.lays "CreaturePond$Pond" "CreaturePond$Pond" "births" "I" : Cond) ∈ cp_T := tc_5 _ (List.mem_of_getElem? (i := 18) rfl)
theorem tw_119 : (Cond.lays "CreaturePond$Pond" "CreaturePond$Pond" "deaths" "I" : Cond) ∈ cp_T := tc_5 _ (List.mem_of_getElem? (i := 19) rfl)
theorem tw_120 : (Cond.lays "CreaturePond$Pond" "CreaturePond$Pond" "ticks" "I" : Cond) ∈ cp_T := tc_6 _ (List.mem_of_getElem? (i := 0) rfl)
theorem tw_121 : (Cond.classLink "CreaturePond" 39 "CreaturePond$Mind" : Cond) ∈ cp_T := tc_6 _ (List.mem_of_getElem? (i := 1) rfl)
theorem tw_122 : (Cond.instantiable "CreaturePond$Mind" 1 : Cond) ∈ cp_T := tc_6 _ (List.mem_of_getElem? (i := 2) rfl)
theorem tw_123 : (Cond.instanceMethod yX3_init : Cond) ∈ cp_T := tc_6 _ (List.mem_of_getElem? (i := 3) rfl)
theorem tw_124 : (Cond.code yX3_init cX3_init 2 none : Cond) ∈ cp_T := tc_6 _ (List.mem_of_getElem? (i := 4) rfl)
theorem tw_125 : (Cond.methodLink "CreaturePond$Mind" 5 objectInit : Cond) ∈ cp_T := tc_6 _ (List.mem_of_getElem? (i := 5) rfl)
theorem tw_126 : (Cond.fieldLink "CreaturePond$Mind" 11 "CreaturePond$Mind" "pond" "LCreaturePond$Pond;" : Cond) ∈ cp_T := tc_6 _ (List.mem_of_getElem? (i := 6) rfl)
theorem tw_127 : (Cond.laysFinal "CreaturePond$Mind" "CreaturePond$Mind" "pond" "LCreaturePond$Pond;" : Cond) ∈ cp_T := tc_6 _ (List.mem_of_getElem? (i := 7) rfl)
theorem tw_128 : (Cond.classLink "CreaturePond" 48 "CreaturePond$Breeding" : Cond) ∈ cp_T := tc_6 _ (List.mem_of_getElem? (i := 8) rfl)
theorem tw_129 : (Cond.instantiable "CreaturePond$Breeding" 1 : Cond) ∈ cp_T := tc_6 _ (List.mem_of_getElem? (i := 9) rfl)
theorem tw_130 : (Cond.instanceMethod yX2_init : Cond) ∈ cp_T := tc_6 _ (List.mem_of_getElem? (i := 10) rfl)
theorem tw_131 : (Cond.code yX2_init cX2_init 2 none : Cond) ∈ cp_T := tc_6 _ (List.mem_of_getElem? (i := 11) rfl)
theorem tw_132 : (Cond.methodLink "CreaturePond$Breeding" 3 objectInit : Cond) ∈ cp_T := tc_6 _ (List.mem_of_getElem? (i := 12) rfl)
theorem tw_133 : (Cond.fieldLink "CreaturePond$Breeding" 9 "CreaturePond$Breeding" "pond" "LCreaturePond$Pond;" : Cond) ∈ cp_T := tc_6 _ (List.mem_of_getElem? (i := 13) rfl)
theorem tw_134 : (Cond.laysFinal "CreaturePond$Breeding" "CreaturePond$Breeding" "pond" "LCreaturePond$Pond;" : Cond) ∈ cp_T := tc_6 _ (List.mem_of_getElem? (i := 14) rfl)
theorem tw_135 : (Cond.fieldLink "CreaturePond" 23 "CreaturePond" "shape" "LCreaturePond$Shape;" : Cond) ∈ cp_T := tc_6 _ (List.mem_of_getElem? (i := 15) rfl)
theorem tw_136 : (Cond.fieldLink "CreaturePond" 32 "CreaturePond" "now" "LCreaturePond$Pond;" : Cond) ∈ cp_T := tc_6 _ (List.mem_of_getElem? (i := 16) rfl)
theorem tw_137 : (Cond.fieldLink "CreaturePond" 36 "CreaturePond" "kept" "LCreaturePond$Pond;" : Cond) ∈ cp_T := tc_6 _ (List.mem_of_getElem? (i := 17) rfl)
theorem tw_138 : (Cond.fieldLink "CreaturePond" 44 "CreaturePond" "mind" "LCreaturePond$Mind;" : Cond) ∈ cp_T := tc_6 _ (List.mem_of_getElem? (i := 18) rfl)
theorem tw_139 : (Cond.fieldLink "CreaturePond" 51 "CreaturePond" "breeding" "LCreaturePond$Breeding;" : Cond) ∈ cp_T := tc_6 _ (List.mem_of_getElem? (i := 19) rfl)
theorem tw_140 : (Cond.fieldLink "CreaturePond" 188 "CreaturePond" "isKept" "Z" : Cond) ∈ cp_T := tc_7 _ (List.mem_of_getElem? (i := 0) rfl)
theorem tw_141 : (Cond.laysFinal "CreaturePond" "CreaturePond" "shape" "LCreaturePond$Shape;" : Cond) ∈ cp_T := tc_7 _ (List.mem_of_getElem? (i := 1) rfl)
theorem tw_142 : (Cond.laysFinal "CreaturePond" "CreaturePond" "now" "LCreaturePond$Pond;" : Cond) ∈ cp_T := tc_7 _ (List.mem_of_getElem? (i := 2) rfl)
theorem tw_143 : (Cond.laysFinal "CreaturePond" "CreaturePond" "kept" "LCreaturePond$Pond;" : Cond) ∈ cp_T := tc_7 _ (List.mem_of_getElem? (i := 3) rfl)
theorem tw_144 : (Cond.laysFinal "CreaturePond" "CreaturePond" "mind" "LCreaturePond$Mind;" : Cond) ∈ cp_T := tc_7 _ (List.mem_of_getElem? (i := 4) rfl)
theorem tw_145 : (Cond.laysFinal "CreaturePond" "CreaturePond" "breeding" "LCreaturePond$Breeding;" : Cond) ∈ cp_T := tc_7 _ (List.mem_of_getElem? (i := 5) rfl)
theorem tw_146 : (Cond.lays "CreaturePond" "CreaturePond" "isKept" "Z" : Cond) ∈ cp_T := tc_7 _ (List.mem_of_getElem? (i := 6) rfl)
theorem tw_147 : (Cond.methodLink "CreaturePondLaw" 47 yX0_set : Cond) ∈ cp_T := tc_7 _ (List.mem_of_getElem? (i := 7) rfl)
theorem tw_148 : (Cond.instanceMethod yX0_set : Cond) ∈ cp_T := tc_7 _ (List.mem_of_getElem? (i := 8) rfl)
theorem tw_149 : (Cond.selects "CreaturePond" yX0_set yX0_set : Cond) ∈ cp_T := tc_7 _ (List.mem_of_getElem? (i := 9) rfl)
theorem tw_150 : (Cond.code yX0_set cX0_set 3 (some .boolean) : Cond) ∈ cp_T := tc_7 _ (List.mem_of_getElem? (i := 10) rfl)
theorem tw_151 : (Cond.methodLink "CreaturePondLaw" 52 yX0_store : Cond) ∈ cp_T := tc_7 _ (List.mem_of_getElem? (i := 11) rfl)
theorem tw_152 : (Cond.instanceMethod yX0_store : Cond) ∈ cp_T := tc_7 _ (List.mem_of_getElem? (i := 12) rfl)
theorem tw_153 : (Cond.selects "CreaturePond" yX0_store yX0_store : Cond) ∈ cp_T := tc_7 _ (List.mem_of_getElem? (i := 13) rfl)
theorem tw_154 : (Cond.code yX0_store cX0_store 2 (some .boolean) : Cond) ∈ cp_T := tc_7 _ (List.mem_of_getElem? (i := 14) rfl)
theorem tw_155 : (Cond.constant "CreaturePond" 65 (1000000 : Int32) : Cond) ∈ cp_T := tc_7 _ (List.mem_of_getElem? (i := 15) rfl)
theorem tw_156 : (Cond.methodLink "CreaturePondLaw" 57 yX0_grain : Cond) ∈ cp_T := tc_7 _ (List.mem_of_getElem? (i := 16) rfl)
theorem tw_157 : (Cond.instanceMethod yX0_grain : Cond) ∈ cp_T := tc_7 _ (List.mem_of_getElem? (i := 17) rfl)
theorem tw_158 : (Cond.selects "CreaturePond" yX0_grain yX0_grain : Cond) ∈ cp_T := tc_7 _ (List.mem_of_getElem? (i := 18) rfl)
theorem tw_159 : (Cond.code yX0_grain cX0_grain 4 (some .boolean) : Cond) ∈ cp_T := tc_7 _ (List.mem_of_getElem? (i := 19) rfl)
theorem tw_160 : (Cond.methodLink "CreaturePondLaw" 79 yX0_cell : Cond) ∈ cp_T := tc_8 _ (List.mem_of_getElem? (i := 0) rfl)
theorem tw_161 : (Cond.instanceMethod yX0_cell : Cond) ∈ cp_T := tc_8 _ (List.mem_of_getElem? (i := 1) rfl)
theorem tw_162 : (Cond.selects "CreaturePond" yX0_cell yX0_cell : Cond) ∈ cp_T := tc_8 _ (List.mem_of_getElem? (i := 2) rfl)
theorem tw_163 : (Cond.code yX0_cell cX0_cell 5 (some .int) : Cond) ∈ cp_T := tc_8 _ (List.mem_of_getElem? (i := 3) rfl)
theorem tw_164 : (Cond.methodLink "CreaturePondLaw" 83 yX0_field : Cond) ∈ cp_T := tc_8 _ (List.mem_of_getElem? (i := 4) rfl)
theorem tw_165 : (Cond.instanceMethod yX0_field : Cond) ∈ cp_T := tc_8 _ (List.mem_of_getElem? (i := 5) rfl)
theorem tw_166 : (Cond.selects "CreaturePond" yX0_field yX0_field : Cond) ∈ cp_T := tc_8 _ (List.mem_of_getElem? (i := 6) rfl)
theorem tw_167 : (Cond.code yX0_field cX0_field 4 (some .int) : Cond) ∈ cp_T := tc_8 _ (List.mem_of_getElem? (i := 7) rfl)
theorem tw_168 : (Cond.instanceMethod yX4_has : Cond) ∈ cp_T := tc_8 _ (List.mem_of_getElem? (i := 8) rfl)
theorem tw_169 : (Cond.code yX4_has cX4_has 2 (some .boolean) : Cond) ∈ cp_T := tc_8 _ (List.mem_of_getElem? (i := 9) rfl)
theorem tw_170 : (Cond.instanceMethod yX1_trait : Cond) ∈ cp_T := tc_8 _ (List.mem_of_getElem? (i := 10) rfl)
theorem tw_171 : (Cond.code yX1_trait cX1_trait 2 (some .int) : Cond) ∈ cp_T := tc_8 _ (List.mem_of_getElem? (i := 11) rfl)
theorem tw_172 : (Cond.methodLink "CreaturePondLaw" 92 yX0_total : Cond) ∈ cp_T := tc_8 _ (List.mem_of_getElem? (i := 12) rfl)
theorem tw_173 : (Cond.instanceMethod yX0_total : Cond) ∈ cp_T := tc_8 _ (List.mem_of_getElem? (i := 13) rfl)
theorem tw_174 : (Cond.selects "CreaturePond" yX0_total yX0_total : Cond) ∈ cp_T := tc_8 _ (List.mem_of_getElem? (i := 14) rfl)
theorem tw_175 : (Cond.code yX0_total cX0_total 2 (some .int) : Cond) ∈ cp_T := tc_8 _ (List.mem_of_getElem? (i := 15) rfl)
theorem tw_176 : (Cond.instanceMethod yX4_energyOfAll : Cond) ∈ cp_T := tc_8 _ (List.mem_of_getElem? (i := 16) rfl)
theorem tw_177 : (Cond.code yX4_energyOfAll cX4_energyOfAll 3 (some .int) : Cond) ∈ cp_T := tc_8 _ (List.mem_of_getElem? (i := 17) rfl)
theorem tw_178 : (Cond.instanceMethod yX4_grainOfAll : Cond) ∈ cp_T := tc_8 _ (List.mem_of_getElem? (i := 18) rfl)
theorem tw_179 : (Cond.code yX4_grainOfAll cX4_grainOfAll 6 (some .int) : Cond) ∈ cp_T := tc_8 _ (List.mem_of_getElem? (i := 19) rfl)
theorem tw_180 : (Cond.instanceMethod yX4_countAnimals : Cond) ∈ cp_T := tc_9 _ (List.mem_of_getElem? (i := 0) rfl)
theorem tw_181 : (Cond.code yX4_countAnimals cX4_countAnimals 3 (some .int) : Cond) ∈ cp_T := tc_9 _ (List.mem_of_getElem? (i := 1) rfl)
theorem tw_182 : (Cond.methodLink "CreaturePondLaw" 96 yX0_keep : Cond) ∈ cp_T := tc_9 _ (List.mem_of_getElem? (i := 2) rfl)
theorem tw_183 : (Cond.instanceMethod yX0_keep : Cond) ∈ cp_T := tc_9 _ (List.mem_of_getElem? (i := 3) rfl)
theorem tw_184 : (Cond.selects "CreaturePond" yX0_keep yX0_keep : Cond) ∈ cp_T := tc_9 _ (List.mem_of_getElem? (i := 4) rfl)
theorem tw_185 : (Cond.code yX0_keep cX0_keep 1 none : Cond) ∈ cp_T := tc_9 _ (List.mem_of_getElem? (i := 5) rfl)
theorem tw_186 : (Cond.instanceMethod yX4_copyFrom : Cond) ∈ cp_T := tc_9 _ (List.mem_of_getElem? (i := 6) rfl)
theorem tw_187 : (Cond.code yX4_copyFrom cX4_copyFrom 3 none : Cond) ∈ cp_T := tc_9 _ (List.mem_of_getElem? (i := 7) rfl)
theorem tw_188 : (Cond.methodLink "CreaturePond$Pond" 39 arraycopyName : Cond) ∈ cp_T := tc_9 _ (List.mem_of_getElem? (i := 8) rfl)
theorem tw_189 : (Cond.static arraycopyName : Cond) ∈ cp_T := tc_9 _ (List.mem_of_getElem? (i := 9) rfl)
theorem tw_190 : (Cond.native arraycopyName : Cond) ∈ cp_T := tc_9 _ (List.mem_of_getElem? (i := 10) rfl)
theorem tw_191 : (Cond.instanceMethod yX1_copyFrom : Cond) ∈ cp_T := tc_9 _ (List.mem_of_getElem? (i := 11) rfl)
theorem tw_192 : (Cond.code yX1_copyFrom cX1_copyFrom 2 none : Cond) ∈ cp_T := tc_9 _ (List.mem_of_getElem? (i := 12) rfl)
theorem tw_193 : (Cond.methodLink "CreaturePond$Animal" 56 arraycopyName : Cond) ∈ cp_T := tc_9 _ (List.mem_of_getElem? (i := 13) rfl)
theorem tw_194 : (Cond.methodLink "CreaturePondLaw" 104 yX0_back : Cond) ∈ cp_T := tc_9 _ (List.mem_of_getElem? (i := 14) rfl)
theorem tw_195 : (Cond.instanceMethod yX0_back : Cond) ∈ cp_T := tc_9 _ (List.mem_of_getElem? (i := 15) rfl)
theorem tw_196 : (Cond.selects "CreaturePond" yX0_back yX0_back : Cond) ∈ cp_T := tc_9 _ (List.mem_of_getElem? (i := 16) rfl)
theorem tw_197 : (Cond.code yX0_back cX0_back 1 (some .boolean) : Cond) ∈ cp_T := tc_9 _ (List.mem_of_getElem? (i := 17) rfl)
theorem tw_198 : (Cond.methodLink "CreaturePondLaw" 35 yL_cell : Cond) ∈ cp_T := tc_9 _ (List.mem_of_getElem? (i := 18) rfl)
theorem tw_199 : (Cond.static yL_cell : Cond) ∈ cp_T := tc_9 _ (List.mem_of_getElem? (i := 19) rfl)
theorem tw_200 : (Cond.code yL_cell cL_cell 2 (some .int) : Cond) ∈ cp_T := tc_10 _ (List.mem_of_getElem? (i := 0) rfl)
theorem tw_201 : (Cond.methodLink "CreaturePondLaw" 62 yL_animal : Cond) ∈ cp_T := tc_10 _ (List.mem_of_getElem? (i := 1) rfl)
theorem tw_202 : (Cond.static yL_animal : Cond) ∈ cp_T := tc_10 _ (List.mem_of_getElem? (i := 2) rfl)
theorem tw_203 : (Cond.classLink "CreaturePondLaw" 13 "java/lang/IllegalArgumentException" : Cond) ∈ cp_T := tc_10 _ (List.mem_of_getElem? (i := 3) rfl)
theorem tw_204 : (Cond.classLink "CreaturePondLaw" 15 "java/lang/IllegalStateException" : Cond) ∈ cp_T := tc_10 _ (List.mem_of_getElem? (i := 4) rfl)
theorem tw_205 : (Cond.methodLink "CreaturePondLaw" 7 yX0_animal : Cond) ∈ cp_T := tc_10 _ (List.mem_of_getElem? (i := 5) rfl)
theorem tw_206 : (Cond.instanceMethod yX0_animal : Cond) ∈ cp_T := tc_10 _ (List.mem_of_getElem? (i := 6) rfl)
theorem tw_207 : (Cond.selects "CreaturePond" yX0_animal yX0_animal : Cond) ∈ cp_T := tc_10 _ (List.mem_of_getElem? (i := 7) rfl)
theorem tw_208 : (Cond.code yX0_animal cX0_animal 7 (some .int) : Cond) ∈ cp_T := tc_10 _ (List.mem_of_getElem? (i := 8) rfl)
theorem tw_209 : (Cond.classLink "CreaturePond" 73 "java/lang/IllegalArgumentException" : Cond) ∈ cp_T := tc_10 _ (List.mem_of_getElem? (i := 9) rfl)
theorem tw_210 : (Cond.instantiable "java/lang/IllegalArgumentException" 6 : Cond) ∈ cp_T := tc_10 _ (List.mem_of_getElem? (i := 10) rfl)
theorem tw_211 : (Cond.lays "java/lang/IllegalArgumentException" "java/lang/Throwable" "cause" "Ljava/lang/Throwable;" : Cond) ∈ cp_T := tc_10 _ (List.mem_of_getElem? (i := 11) rfl)
theorem tw_212 : (Cond.lays "java/lang/Throwable" "java/lang/Throwable" "cause" "Ljava/lang/Throwable;" : Cond) ∈ cp_T := tc_10 _ (List.mem_of_getElem? (i := 12) rfl)
theorem tw_213 : (Cond.lays "java/lang/IllegalArgumentException" "java/lang/Throwable" "stackTrace" "[Ljava/lang/StackTraceElement;" : Cond) ∈ cp_T := tc_10 _ (List.mem_of_getElem? (i := 13) rfl)
theorem tw_214 : (Cond.lays "java/lang/Throwable" "java/lang/Throwable" "stackTrace" "[Ljava/lang/StackTraceElement;" : Cond) ∈ cp_T := tc_10 _ (List.mem_of_getElem? (i := 14) rfl)
theorem tw_215 : (Cond.lays "java/lang/IllegalArgumentException" "java/lang/Throwable" "suppressedExceptions" "Ljava/util/List;" : Cond) ∈ cp_T := tc_10 _ (List.mem_of_getElem? (i := 15) rfl)
theorem tw_216 : (Cond.lays "java/lang/Throwable" "java/lang/Throwable" "suppressedExceptions" "Ljava/util/List;" : Cond) ∈ cp_T := tc_10 _ (List.mem_of_getElem? (i := 16) rfl)
theorem tw_217 : (Cond.lays "java/lang/IllegalArgumentException" "java/lang/Throwable" "detailMessage" "Ljava/lang/String;" : Cond) ∈ cp_T := tc_10 _ (List.mem_of_getElem? (i := 17) rfl)
theorem tw_218 : (Cond.lays "java/lang/Throwable" "java/lang/Throwable" "detailMessage" "Ljava/lang/String;" : Cond) ∈ cp_T := tc_10 _ (List.mem_of_getElem? (i := 18) rfl)
theorem tw_219 : (Cond.lays "java/lang/IllegalArgumentException" "java/lang/Throwable" "backtrace" "Ljava/lang/Object;" : Cond) ∈ cp_T := tc_10 _ (List.mem_of_getElem? (i := 19) rfl)
theorem tw_220 : (Cond.lays "java/lang/Throwable" "java/lang/Throwable" "backtrace" "Ljava/lang/Object;" : Cond) ∈ cp_T := tc_11 _ (List.mem_of_getElem? (i := 0) rfl)
theorem tw_221 : (Cond.fieldLink "java/lang/Throwable" 198 "java/lang/Throwable" "backtrace" "Ljava/lang/Object;" : Cond) ∈ cp_T := tc_11 _ (List.mem_of_getElem? (i := 1) rfl)
theorem tw_222 : (Cond.methodLink "java/lang/Throwable" 1 objectInit : Cond) ∈ cp_T := tc_11 _ (List.mem_of_getElem? (i := 2) rfl)
theorem tw_223 : (Cond.fieldLink "java/lang/Throwable" 13 "java/lang/Throwable" "UNASSIGNED_STACK" "[Ljava/lang/StackTraceElement;" : Cond) ∈ cp_T := tc_11 _ (List.mem_of_getElem? (i := 3) rfl)
theorem tw_224 : (Cond.fieldLink "java/lang/Throwable" 20 "java/lang/Throwable" "SUPPRESSED_SENTINEL" "Ljava/util/List;" : Cond) ∈ cp_T := tc_11 _ (List.mem_of_getElem? (i := 4) rfl)
theorem tw_225 : (Cond.instantiable "java/lang/Throwable" 6 : Cond) ∈ cp_T := tc_11 _ (List.mem_of_getElem? (i := 5) rfl)
theorem tw_226 : (Cond.fieldLink "java/lang/Throwable" 31 "java/lang/Throwable" "detailMessage" "Ljava/lang/String;" : Cond) ∈ cp_T := tc_11 _ (List.mem_of_getElem? (i := 6) rfl)
theorem tw_227 : (Cond.fieldLink "java/lang/Throwable" 7 "java/lang/Throwable" "cause" "Ljava/lang/Throwable;" : Cond) ∈ cp_T := tc_11 _ (List.mem_of_getElem? (i := 7) rfl)
theorem tw_228 : (Cond.fieldLink "java/lang/Throwable" 17 "java/lang/Throwable" "stackTrace" "[Ljava/lang/StackTraceElement;" : Cond) ∈ cp_T := tc_11 _ (List.mem_of_getElem? (i := 8) rfl)
theorem tw_229 : (Cond.fieldLink "java/lang/Throwable" 24 "java/lang/Throwable" "suppressedExceptions" "Ljava/util/List;" : Cond) ∈ cp_T := tc_11 _ (List.mem_of_getElem? (i := 9) rfl)
theorem tw_230 : (Cond.lays "java/lang/IllegalArgumentException" "java/lang/Throwable" "depth" "I" : Cond) ∈ cp_T := tc_11 _ (List.mem_of_getElem? (i := 10) rfl)
theorem tw_231 : (Cond.instanceMethod yX4_freeNumber : Cond) ∈ cp_T := tc_11 _ (List.mem_of_getElem? (i := 11) rfl)
theorem tw_232 : (Cond.code yX4_freeNumber cX4_freeNumber 2 (some .int) : Cond) ∈ cp_T := tc_11 _ (List.mem_of_getElem? (i := 12) rfl)
theorem tw_233 : (Cond.classLink "CreaturePond" 87 "java/lang/IllegalStateException" : Cond) ∈ cp_T := tc_11 _ (List.mem_of_getElem? (i := 13) rfl)
theorem tw_234 : (Cond.instantiable "java/lang/IllegalStateException" 6 : Cond) ∈ cp_T := tc_11 _ (List.mem_of_getElem? (i := 14) rfl)
theorem tw_235 : (Cond.lays "java/lang/IllegalStateException" "java/lang/Throwable" "cause" "Ljava/lang/Throwable;" : Cond) ∈ cp_T := tc_11 _ (List.mem_of_getElem? (i := 15) rfl)
theorem tw_236 : (Cond.lays "java/lang/IllegalStateException" "java/lang/Throwable" "stackTrace" "[Ljava/lang/StackTraceElement;" : Cond) ∈ cp_T := tc_11 _ (List.mem_of_getElem? (i := 16) rfl)
theorem tw_237 : (Cond.lays "java/lang/IllegalStateException" "java/lang/Throwable" "suppressedExceptions" "Ljava/util/List;" : Cond) ∈ cp_T := tc_11 _ (List.mem_of_getElem? (i := 17) rfl)
theorem tw_238 : (Cond.lays "java/lang/IllegalStateException" "java/lang/Throwable" "detailMessage" "Ljava/lang/String;" : Cond) ∈ cp_T := tc_11 _ (List.mem_of_getElem? (i := 18) rfl)
theorem tw_239 : (Cond.lays "java/lang/IllegalStateException" "java/lang/Throwable" "backtrace" "Ljava/lang/Object;" : Cond) ∈ cp_T := tc_11 _ (List.mem_of_getElem? (i := 19) rfl)
theorem tw_240 : (Cond.lays "java/lang/IllegalStateException" "java/lang/Throwable" "depth" "I" : Cond) ∈ cp_T := tc_12 _ (List.mem_of_getElem? (i := 0) rfl)
theorem tw_241 : (Cond.instanceMethod yX4_settle : Cond) ∈ cp_T := tc_12 _ (List.mem_of_getElem? (i := 1) rfl)
theorem tw_242 : (Cond.code yX4_settle cX4_settle 6 (some (.object "CreaturePond$Animal")) : Cond) ∈ cp_T := tc_12 _ (List.mem_of_getElem? (i := 2) rfl)
theorem tw_243 : (Cond.instanceMethod yX1_begin : Cond) ∈ cp_T := tc_12 _ (List.mem_of_getElem? (i := 3) rfl)
theorem tw_244 : (Cond.code yX1_begin cX1_begin 5 none : Cond) ∈ cp_T := tc_12 _ (List.mem_of_getElem? (i := 4) rfl)
theorem tw_245 : (Cond.methodLink "CreaturePondLaw" 71 yL_code : Cond) ∈ cp_T := tc_12 _ (List.mem_of_getElem? (i := 5) rfl)
theorem tw_246 : (Cond.static yL_code : Cond) ∈ cp_T := tc_12 _ (List.mem_of_getElem? (i := 6) rfl)
theorem tw_247 : (Cond.methodLink "CreaturePondLaw" 17 yX0_code : Cond) ∈ cp_T := tc_12 _ (List.mem_of_getElem? (i := 7) rfl)
theorem tw_248 : (Cond.instanceMethod yX0_code : Cond) ∈ cp_T := tc_12 _ (List.mem_of_getElem? (i := 8) rfl)
theorem tw_249 : (Cond.selects "CreaturePond" yX0_code yX0_code : Cond) ∈ cp_T := tc_12 _ (List.mem_of_getElem? (i := 9) rfl)
theorem tw_250 : (Cond.code yX0_code cX0_code 7 (some .int) : Cond) ∈ cp_T := tc_12 _ (List.mem_of_getElem? (i := 10) rfl)
theorem tw_251 : (Cond.instanceMethod yX1_grow : Cond) ∈ cp_T := tc_12 _ (List.mem_of_getElem? (i := 11) rfl)
theorem tw_252 : (Cond.code yX1_grow cX1_grow 2 none : Cond) ∈ cp_T := tc_12 _ (List.mem_of_getElem? (i := 12) rfl)
theorem tw_253 : (Cond.methodLink "CreaturePondLaw" 75 yL_tick : Cond) ∈ cp_T := tc_12 _ (List.mem_of_getElem? (i := 13) rfl)
theorem tw_254 : (Cond.static yL_tick : Cond) ∈ cp_T := tc_12 _ (List.mem_of_getElem? (i := 14) rfl)
theorem tw_255 : (Cond.methodLink "CreaturePondLaw" 21 yX0_tick : Cond) ∈ cp_T := tc_12 _ (List.mem_of_getElem? (i := 15) rfl)
theorem tw_256 : (Cond.instanceMethod yX0_tick : Cond) ∈ cp_T := tc_12 _ (List.mem_of_getElem? (i := 16) rfl)
theorem tw_257 : (Cond.selects "CreaturePond" yX0_tick yX0_tick : Cond) ∈ cp_T := tc_12 _ (List.mem_of_getElem? (i := 17) rfl)
theorem tw_258 : (Cond.code yX0_tick cX0_tick 3 (some .int) : Cond) ∈ cp_T := tc_12 _ (List.mem_of_getElem? (i := 18) rfl)
theorem tw_259 : (Cond.instanceMethod yX4_shine : Cond) ∈ cp_T := tc_12 _ (List.mem_of_getElem? (i := 19) rfl)
theorem tw_260 : (Cond.code yX4_shine cX4_shine 2 none : Cond) ∈ cp_T := tc_13 _ (List.mem_of_getElem? (i := 0) rfl)
theorem tw_261 : (Cond.instanceMethod yX3_moveAll : Cond) ∈ cp_T := tc_13 _ (List.mem_of_getElem? (i := 1) rfl)
theorem tw_262 : (Cond.code yX3_moveAll cX3_moveAll 2 none : Cond) ∈ cp_T := tc_13 _ (List.mem_of_getElem? (i := 2) rfl)
theorem tw_263 : (Cond.methodLink "CreaturePond$Mind" 27 yX3_move : Cond) ∈ cp_T := tc_13 _ (List.mem_of_getElem? (i := 3) rfl)
theorem tw_264 : (Cond.instanceMethod yX3_move : Cond) ∈ cp_T := tc_13 _ (List.mem_of_getElem? (i := 4) rfl)
theorem tw_265 : (Cond.code yX3_move cX3_move 4 none : Cond) ∈ cp_T := tc_13 _ (List.mem_of_getElem? (i := 5) rfl)
theorem tw_266 : (Cond.instanceMethod yX4_pay : Cond) ∈ cp_T := tc_13 _ (List.mem_of_getElem? (i := 6) rfl)
theorem tw_267 : (Cond.code yX4_pay cX4_pay 4 none : Cond) ∈ cp_T := tc_13 _ (List.mem_of_getElem? (i := 7) rfl)
theorem tw_268 : (Cond.methodLink "CreaturePond$Pond" 90 Lib.Math.min.name : Cond) ∈ cp_T := tc_13 _ (List.mem_of_getElem? (i := 8) rfl)
theorem tw_269 : (Cond.methodLink "CreaturePond$Mind" 48 yX3_operate : Cond) ∈ cp_T := tc_13 _ (List.mem_of_getElem? (i := 9) rfl)
theorem tw_270 : (Cond.instanceMethod yX3_operate : Cond) ∈ cp_T := tc_13 _ (List.mem_of_getElem? (i := 10) rfl)
theorem tw_271 : (Cond.code yX3_operate cX3_operate 5 (some .boolean) : Cond) ∈ cp_T := tc_13 _ (List.mem_of_getElem? (i := 11) rfl)
theorem tw_272 : (Cond.instanceMethod yX1_geneBehindPlace : Cond) ∈ cp_T := tc_13 _ (List.mem_of_getElem? (i := 12) rfl)
theorem tw_273 : (Cond.code yX1_geneBehindPlace cX1_geneBehindPlace 2 (some .byte) : Cond) ∈ cp_T := tc_13 _ (List.mem_of_getElem? (i := 13) rfl)
theorem tw_274 : (Cond.methodLink "CreaturePond$Animal" 62 yX1_wrapped : Cond) ∈ cp_T := tc_13 _ (List.mem_of_getElem? (i := 14) rfl)
theorem tw_275 : (Cond.instanceMethod yX1_wrapped : Cond) ∈ cp_T := tc_13 _ (List.mem_of_getElem? (i := 15) rfl)
theorem tw_276 : (Cond.code yX1_wrapped cX1_wrapped 2 (some .int) : Cond) ∈ cp_T := tc_13 _ (List.mem_of_getElem? (i := 16) rfl)
theorem tw_277 : (Cond.fieldLink "CreaturePond$Mind" 59 "CreaturePond$Mind" "OPERANDS" "[I" : Cond) ∈ cp_T := tc_13 _ (List.mem_of_getElem? (i := 17) rfl)
theorem tw_278 : (Cond.methodLink "CreaturePond$Mind" 67 yX3_act : Cond) ∈ cp_T := tc_13 _ (List.mem_of_getElem? (i := 18) rfl)
theorem tw_279 : (Cond.instanceMethod yX3_act : Cond) ∈ cp_T := tc_13 _ (List.mem_of_getElem? (i := 19) rfl)
theorem tw_280 : (Cond.code yX3_act cX3_act 4 none : Cond) ∈ cp_T := tc_14 _ (List.mem_of_getElem? (i := 0) rfl)
theorem tw_281 : (Cond.methodLink "CreaturePond$Mind" 122 yX3_goAhead : Cond) ∈ cp_T := tc_14 _ (List.mem_of_getElem? (i := 1) rfl)
theorem tw_282 : (Cond.instanceMethod yX3_goAhead : Cond) ∈ cp_T := tc_14 _ (List.mem_of_getElem? (i := 2) rfl)
theorem tw_283 : (Cond.code yX3_goAhead cX3_goAhead 3 none : Cond) ∈ cp_T := tc_14 _ (List.mem_of_getElem? (i := 3) rfl)
theorem tw_284 : (Cond.instanceMethod yX4_aheadOf : Cond) ∈ cp_T := tc_14 _ (List.mem_of_getElem? (i := 4) rfl)
theorem tw_285 : (Cond.code yX4_aheadOf cX4_aheadOf 2 (some .int) : Cond) ∈ cp_T := tc_14 _ (List.mem_of_getElem? (i := 5) rfl)
theorem tw_286 : (Cond.methodLink "CreaturePond$Mind" 125 yX3_eat : Cond) ∈ cp_T := tc_14 _ (List.mem_of_getElem? (i := 6) rfl)
theorem tw_287 : (Cond.instanceMethod yX3_eat : Cond) ∈ cp_T := tc_14 _ (List.mem_of_getElem? (i := 7) rfl)
theorem tw_288 : (Cond.code yX3_eat cX3_eat 3 none : Cond) ∈ cp_T := tc_14 _ (List.mem_of_getElem? (i := 8) rfl)
theorem tw_289 : (Cond.methodLink "CreaturePond$Mind" 113 Lib.Math.min.name : Cond) ∈ cp_T := tc_14 _ (List.mem_of_getElem? (i := 9) rfl)
theorem tw_290 : (Cond.methodLink "CreaturePond$Mind" 128 yX3_give : Cond) ∈ cp_T := tc_14 _ (List.mem_of_getElem? (i := 10) rfl)
theorem tw_291 : (Cond.instanceMethod yX3_give : Cond) ∈ cp_T := tc_14 _ (List.mem_of_getElem? (i := 11) rfl)
theorem tw_292 : (Cond.code yX3_give cX3_give 5 none : Cond) ∈ cp_T := tc_14 _ (List.mem_of_getElem? (i := 12) rfl)
theorem tw_293 : (Cond.methodLink "CreaturePond$Mind" 75 yX3_memoryIndex : Cond) ∈ cp_T := tc_14 _ (List.mem_of_getElem? (i := 13) rfl)
theorem tw_294 : (Cond.instanceMethod yX3_memoryIndex : Cond) ∈ cp_T := tc_14 _ (List.mem_of_getElem? (i := 14) rfl)
theorem tw_295 : (Cond.code yX3_memoryIndex cX3_memoryIndex 3 (some .int) : Cond) ∈ cp_T := tc_14 _ (List.mem_of_getElem? (i := 15) rfl)
theorem tw_296 : (Cond.methodLink "CreaturePond$Mind" 82 yX3_jump : Cond) ∈ cp_T := tc_14 _ (List.mem_of_getElem? (i := 16) rfl)
theorem tw_297 : (Cond.instanceMethod yX3_jump : Cond) ∈ cp_T := tc_14 _ (List.mem_of_getElem? (i := 17) rfl)
theorem tw_298 : (Cond.code yX3_jump cX3_jump 3 none : Cond) ∈ cp_T := tc_14 _ (List.mem_of_getElem? (i := 18) rfl)
theorem tw_299 : (Cond.methodLink "CreaturePond$Mind" 86 yX3_reckon : Cond) ∈ cp_T := tc_14 _ (List.mem_of_getElem? (i := 19) rfl)
theorem tw_300 : (Cond.instanceMethod yX3_reckon : Cond) ∈ cp_T := tc_15 _ (List.mem_of_getElem? (i := 0) rfl)
theorem tw_301 : (Cond.code yX3_reckon cX3_reckon 7 (some .int) : Cond) ∈ cp_T := tc_15 _ (List.mem_of_getElem? (i := 1) rfl)
theorem tw_302 : (Cond.methodLink "CreaturePond$Mind" 90 yX3_seenAhead : Cond) ∈ cp_T := tc_15 _ (List.mem_of_getElem? (i := 2) rfl)
theorem tw_303 : (Cond.instanceMethod yX3_seenAhead : Cond) ∈ cp_T := tc_15 _ (List.mem_of_getElem? (i := 3) rfl)
theorem tw_304 : (Cond.code yX3_seenAhead cX3_seenAhead 5 (some .int) : Cond) ∈ cp_T := tc_15 _ (List.mem_of_getElem? (i := 4) rfl)
theorem tw_305 : (Cond.methodLink "CreaturePond$Mind" 94 yX3_seenInside : Cond) ∈ cp_T := tc_15 _ (List.mem_of_getElem? (i := 5) rfl)
theorem tw_306 : (Cond.instanceMethod yX3_seenInside : Cond) ∈ cp_T := tc_15 _ (List.mem_of_getElem? (i := 6) rfl)
theorem tw_307 : (Cond.code yX3_seenInside cX3_seenInside 3 (some .int) : Cond) ∈ cp_T := tc_15 _ (List.mem_of_getElem? (i := 7) rfl)
theorem tw_308 : (Cond.instanceMethod yX2_breedAll : Cond) ∈ cp_T := tc_15 _ (List.mem_of_getElem? (i := 8) rfl)
theorem tw_309 : (Cond.code yX2_breedAll cX2_breedAll 3 none : Cond) ∈ cp_T := tc_15 _ (List.mem_of_getElem? (i := 9) rfl)
theorem tw_310 : (Cond.methodLink "CreaturePond$Breeding" 15 yX2_greaterOfPair : Cond) ∈ cp_T := tc_15 _ (List.mem_of_getElem? (i := 10) rfl)
theorem tw_311 : (Cond.instanceMethod yX2_greaterOfPair : Cond) ∈ cp_T := tc_15 _ (List.mem_of_getElem? (i := 11) rfl)
theorem tw_312 : (Cond.code yX2_greaterOfPair cX2_greaterOfPair 5 (some .int) : Cond) ∈ cp_T := tc_15 _ (List.mem_of_getElem? (i := 12) rfl)
theorem tw_313 : (Cond.methodLink "CreaturePond$Breeding" 19 yX2_breed : Cond) ∈ cp_T := tc_15 _ (List.mem_of_getElem? (i := 13) rfl)
theorem tw_314 : (Cond.instanceMethod yX2_breed : Cond) ∈ cp_T := tc_15 _ (List.mem_of_getElem? (i := 14) rfl)
theorem tw_315 : (Cond.code yX2_breed cX2_breed 8 none : Cond) ∈ cp_T := tc_15 _ (List.mem_of_getElem? (i := 15) rfl)
theorem tw_316 : (Cond.methodLink "CreaturePond$Breeding" 50 yX2_firstFreeAround : Cond) ∈ cp_T := tc_15 _ (List.mem_of_getElem? (i := 16) rfl)
theorem tw_317 : (Cond.instanceMethod yX2_firstFreeAround : Cond) ∈ cp_T := tc_15 _ (List.mem_of_getElem? (i := 17) rfl)
theorem tw_318 : (Cond.code yX2_firstFreeAround cX2_firstFreeAround 4 (some .int) : Cond) ∈ cp_T := tc_15 _ (List.mem_of_getElem? (i := 18) rfl)
theorem tw_319 : (Cond.instanceMethod yX5_nextTo : Cond) ∈ cp_T := tc_15 _ (List.mem_of_getElem? (i := 19) rfl)
theorem tw_320 : (Cond.code yX5_nextTo cX5_nextTo 3 (some .int) : Cond) ∈ cp_T := tc_16 _ (List.mem_of_getElem? (i := 0) rfl)
theorem tw_321 : (Cond.methodLink "CreaturePond$Breeding" 63 yX2_payAndHalve : Cond) ∈ cp_T := tc_16 _ (List.mem_of_getElem? (i := 1) rfl)
theorem tw_322 : (Cond.instanceMethod yX2_payAndHalve : Cond) ∈ cp_T := tc_16 _ (List.mem_of_getElem? (i := 2) rfl)
theorem tw_323 : (Cond.code yX2_payAndHalve cX2_payAndHalve 3 (some .int) : Cond) ∈ cp_T := tc_16 _ (List.mem_of_getElem? (i := 3) rfl)
theorem tw_324 : (Cond.methodLink "CreaturePond$Breeding" 79 Lib.Math.max.name : Cond) ∈ cp_T := tc_16 _ (List.mem_of_getElem? (i := 4) rfl)
theorem tw_325 : (Cond.methodLink "CreaturePond$Breeding" 85 yX2_mixCode : Cond) ∈ cp_T := tc_16 _ (List.mem_of_getElem? (i := 5) rfl)
theorem tw_326 : (Cond.instanceMethod yX2_mixCode : Cond) ∈ cp_T := tc_16 _ (List.mem_of_getElem? (i := 6) rfl)
theorem tw_327 : (Cond.code yX2_mixCode cX2_mixCode 6 none : Cond) ∈ cp_T := tc_16 _ (List.mem_of_getElem? (i := 7) rfl)
theorem tw_328 : (Cond.instanceMethod yX4_nextNumber : Cond) ∈ cp_T := tc_16 _ (List.mem_of_getElem? (i := 8) rfl)
theorem tw_329 : (Cond.code yX4_nextNumber cX4_nextNumber 2 (some .int) : Cond) ∈ cp_T := tc_16 _ (List.mem_of_getElem? (i := 9) rfl)
theorem tw_330 : (Cond.constant "CreaturePond$Pond" 96 (134775813 : Int32) : Cond) ∈ cp_T := tc_16 _ (List.mem_of_getElem? (i := 10) rfl)
theorem tw_331 : (Cond.methodLink "CreaturePond$Breeding" 115 yX2_growFrom : Cond) ∈ cp_T := tc_16 _ (List.mem_of_getElem? (i := 11) rfl)
theorem tw_332 : (Cond.instanceMethod yX2_growFrom : Cond) ∈ cp_T := tc_16 _ (List.mem_of_getElem? (i := 12) rfl)
theorem tw_333 : (Cond.code yX2_growFrom cX2_growFrom 7 none : Cond) ∈ cp_T := tc_16 _ (List.mem_of_getElem? (i := 13) rfl)
theorem tw_334 : (Cond.methodLink "CreaturePond$Breeding" 119 Lib.Math.min.name : Cond) ∈ cp_T := tc_16 _ (List.mem_of_getElem? (i := 14) rfl)
theorem tw_335 : (Cond.methodLink "CreaturePond$Breeding" 89 yX2_changeCode : Cond) ∈ cp_T := tc_16 _ (List.mem_of_getElem? (i := 15) rfl)
theorem tw_336 : (Cond.instanceMethod yX2_changeCode : Cond) ∈ cp_T := tc_16 _ (List.mem_of_getElem? (i := 16) rfl)
theorem tw_337 : (Cond.code yX2_changeCode cX2_changeCode 3 none : Cond) ∈ cp_T := tc_16 _ (List.mem_of_getElem? (i := 17) rfl)
theorem tw_338 : (Cond.instanceMethod yX4_endDead : Cond) ∈ cp_T := tc_16 _ (List.mem_of_getElem? (i := 18) rfl)
theorem tw_339 : (Cond.code yX4_endDead cX4_endDead 3 none : Cond) ∈ cp_T := tc_16 _ (List.mem_of_getElem? (i := 19) rfl)
theorem tw_340 : (Cond.methodLink "CreaturePond$Pond" 100 yX4_end : Cond) ∈ cp_T := tc_17 _ (List.mem_of_getElem? (i := 0) rfl)
theorem tw_341 : (Cond.instanceMethod yX4_end : Cond) ∈ cp_T := tc_17 _ (List.mem_of_getElem? (i := 1) rfl)
theorem tw_342 : (Cond.code yX4_end cX4_end 4 none : Cond) ∈ cp_T := tc_17 _ (List.mem_of_getElem? (i := 2) rfl)
theorem tw_343 : (Cond.methodLink "CreaturePondLaw" 88 yL_inner : Cond) ∈ cp_T := tc_17 _ (List.mem_of_getElem? (i := 3) rfl)
theorem tw_344 : (Cond.static yL_inner : Cond) ∈ cp_T := tc_17 _ (List.mem_of_getElem? (i := 4) rfl)
theorem tw_345 : (Cond.classLink "CreaturePondLaw" 29 "java/lang/IndexOutOfBoundsException" : Cond) ∈ cp_T := tc_17 _ (List.mem_of_getElem? (i := 5) rfl)
theorem tw_346 : (Cond.methodLink "CreaturePondLaw" 25 yX0_inner : Cond) ∈ cp_T := tc_17 _ (List.mem_of_getElem? (i := 6) rfl)
theorem tw_347 : (Cond.instanceMethod yX0_inner : Cond) ∈ cp_T := tc_17 _ (List.mem_of_getElem? (i := 7) rfl)
theorem tw_348 : (Cond.selects "CreaturePond" yX0_inner yX0_inner : Cond) ∈ cp_T := tc_17 _ (List.mem_of_getElem? (i := 8) rfl)
theorem tw_349 : (Cond.code yX0_inner cX0_inner 6 (some .byte) : Cond) ∈ cp_T := tc_17 _ (List.mem_of_getElem? (i := 9) rfl)
theorem tw_350 : (Cond.classLink "CreaturePond" 157 "java/lang/IndexOutOfBoundsException" : Cond) ∈ cp_T := tc_17 _ (List.mem_of_getElem? (i := 10) rfl)
theorem tw_351 : (Cond.instantiable "java/lang/IndexOutOfBoundsException" 6 : Cond) ∈ cp_T := tc_17 _ (List.mem_of_getElem? (i := 11) rfl)
theorem tw_352 : (Cond.lays "java/lang/IndexOutOfBoundsException" "java/lang/Throwable" "cause" "Ljava/lang/Throwable;" : Cond) ∈ cp_T := tc_17 _ (List.mem_of_getElem? (i := 12) rfl)
theorem tw_353 : (Cond.lays "java/lang/IndexOutOfBoundsException" "java/lang/Throwable" "stackTrace" "[Ljava/lang/StackTraceElement;" : Cond) ∈ cp_T := tc_17 _ (List.mem_of_getElem? (i := 13) rfl)
theorem tw_354 : (Cond.lays "java/lang/IndexOutOfBoundsException" "java/lang/Throwable" "suppressedExceptions" "Ljava/util/List;" : Cond) ∈ cp_T := tc_17 _ (List.mem_of_getElem? (i := 14) rfl)
theorem tw_355 : (Cond.lays "java/lang/IndexOutOfBoundsException" "java/lang/Throwable" "detailMessage" "Ljava/lang/String;" : Cond) ∈ cp_T := tc_17 _ (List.mem_of_getElem? (i := 15) rfl)
theorem tw_356 : (Cond.lays "java/lang/IndexOutOfBoundsException" "java/lang/Throwable" "backtrace" "Ljava/lang/Object;" : Cond) ∈ cp_T := tc_17 _ (List.mem_of_getElem? (i := 16) rfl)
theorem tw_357 : (Cond.lays "java/lang/IndexOutOfBoundsException" "java/lang/Throwable" "depth" "I" : Cond) ∈ cp_T := tc_17 _ (List.mem_of_getElem? (i := 17) rfl)
theorem tw_358 : (Cond.methodLink "CreaturePondLaw" 100 yL_differ : Cond) ∈ cp_T := tc_17 _ (List.mem_of_getElem? (i := 18) rfl)
theorem tw_359 : (Cond.static yL_differ : Cond) ∈ cp_T := tc_17 _ (List.mem_of_getElem? (i := 19) rfl)
theorem tw_360 : (Cond.methodLink "CreaturePondLaw" 31 yX0_differ : Cond) ∈ cp_T := tc_18 _ (List.mem_of_getElem? (i := 0) rfl)
theorem tw_361 : (Cond.instanceMethod yX0_differ : Cond) ∈ cp_T := tc_18 _ (List.mem_of_getElem? (i := 1) rfl)
theorem tw_362 : (Cond.selects "CreaturePond" yX0_differ yX0_differ : Cond) ∈ cp_T := tc_18 _ (List.mem_of_getElem? (i := 2) rfl)
theorem tw_363 : (Cond.code yX0_differ cX0_differ 1 (some .int) : Cond) ∈ cp_T := tc_18 _ (List.mem_of_getElem? (i := 3) rfl)
theorem tw_364 : (Cond.instanceMethod yX4_firstOther : Cond) ∈ cp_T := tc_18 _ (List.mem_of_getElem? (i := 4) rfl)
theorem tw_365 : (Cond.code yX4_firstOther cX4_firstOther 3 (some .int) : Cond) ∈ cp_T := tc_18 _ (List.mem_of_getElem? (i := 5) rfl)
theorem tw_366 : (Cond.methodLink "CreaturePond$Pond" 103 yX4_hasOtherDweller : Cond) ∈ cp_T := tc_18 _ (List.mem_of_getElem? (i := 6) rfl)
theorem tw_367 : (Cond.instanceMethod yX4_hasOtherDweller : Cond) ∈ cp_T := tc_18 _ (List.mem_of_getElem? (i := 7) rfl)
theorem tw_368 : (Cond.code yX4_hasOtherDweller cX4_hasOtherDweller 6 (some .boolean) : Cond) ∈ cp_T := tc_18 _ (List.mem_of_getElem? (i := 8) rfl)
theorem tw_369 : (Cond.classLink "CreaturePondLaw" 44 "CreaturePondModel" : Cond) ∈ cp_T := tc_18 _ (List.mem_of_getElem? (i := 9) rfl)
theorem tw_370 : (Cond.instantiable "CreaturePondModel" 6 : Cond) ∈ cp_T := tc_18 _ (List.mem_of_getElem? (i := 10) rfl)
theorem tw_371 : (Cond.methodLink "CreaturePondLaw" 46 yX6_init : Cond) ∈ cp_T := tc_18 _ (List.mem_of_getElem? (i := 11) rfl)
theorem tw_372 : (Cond.instanceMethod yX6_init : Cond) ∈ cp_T := tc_18 _ (List.mem_of_getElem? (i := 12) rfl)
theorem tw_373 : (Cond.code yX6_init cX6_init 4 none : Cond) ∈ cp_T := tc_18 _ (List.mem_of_getElem? (i := 13) rfl)
theorem tw_374 : (Cond.methodLink "CreaturePondModel" 1 objectInit : Cond) ∈ cp_T := tc_18 _ (List.mem_of_getElem? (i := 14) rfl)
theorem tw_375 : (Cond.fieldLink "CreaturePondModel" 23 "CreaturePondModel" "thrown" "I" : Cond) ∈ cp_T := tc_18 _ (List.mem_of_getElem? (i := 15) rfl)
theorem tw_376 : (Cond.fieldLink "CreaturePondModel" 16 "CreaturePondModel" "w" "I" : Cond) ∈ cp_T := tc_18 _ (List.mem_of_getElem? (i := 16) rfl)
theorem tw_377 : (Cond.fieldLink "CreaturePondModel" 20 "CreaturePondModel" "h" "I" : Cond) ∈ cp_T := tc_18 _ (List.mem_of_getElem? (i := 17) rfl)
theorem tw_378 : (Cond.fieldLink "CreaturePondModel" 7 "CreaturePondModel" "now" "[I" : Cond) ∈ cp_T := tc_18 _ (List.mem_of_getElem? (i := 18) rfl)
theorem tw_379 : (Cond.fieldLink "CreaturePondModel" 115 "CreaturePondModel" "kept" "Z" : Cond) ∈ cp_T := tc_18 _ (List.mem_of_getElem? (i := 19) rfl)
theorem tw_380 : (Cond.fieldLink "CreaturePondModel" 13 "CreaturePondModel" "was" "[I" : Cond) ∈ cp_T := tc_19 _ (List.mem_of_getElem? (i := 0) rfl)
theorem tw_381 : (Cond.lays "CreaturePondModel" "CreaturePondModel" "thrown" "I" : Cond) ∈ cp_T := tc_19 _ (List.mem_of_getElem? (i := 1) rfl)
theorem tw_382 : (Cond.laysFinal "CreaturePondModel" "CreaturePondModel" "w" "I" : Cond) ∈ cp_T := tc_19 _ (List.mem_of_getElem? (i := 2) rfl)
theorem tw_383 : (Cond.laysFinal "CreaturePondModel" "CreaturePondModel" "h" "I" : Cond) ∈ cp_T := tc_19 _ (List.mem_of_getElem? (i := 3) rfl)
theorem tw_384 : (Cond.laysFinal "CreaturePondModel" "CreaturePondModel" "now" "[I" : Cond) ∈ cp_T := tc_19 _ (List.mem_of_getElem? (i := 4) rfl)
theorem tw_385 : (Cond.lays "CreaturePondModel" "CreaturePondModel" "kept" "Z" : Cond) ∈ cp_T := tc_19 _ (List.mem_of_getElem? (i := 5) rfl)
theorem tw_386 : (Cond.laysFinal "CreaturePondModel" "CreaturePondModel" "was" "[I" : Cond) ∈ cp_T := tc_19 _ (List.mem_of_getElem? (i := 6) rfl)
theorem tw_387 : (Cond.methodLink "CreaturePondLaw" 66 yX6_thrown : Cond) ∈ cp_T := tc_19 _ (List.mem_of_getElem? (i := 7) rfl)
theorem tw_388 : (Cond.instanceMethod yX6_thrown : Cond) ∈ cp_T := tc_19 _ (List.mem_of_getElem? (i := 8) rfl)
theorem tw_389 : (Cond.selects "CreaturePondModel" yX6_thrown yX6_thrown : Cond) ∈ cp_T := tc_19 _ (List.mem_of_getElem? (i := 9) rfl)
theorem tw_390 : (Cond.code yX6_thrown cX6_thrown 1 (some .int) : Cond) ∈ cp_T := tc_19 _ (List.mem_of_getElem? (i := 10) rfl)
theorem tw_391 : (Cond.methodLink "CreaturePondLaw" 51 yX6_set : Cond) ∈ cp_T := tc_19 _ (List.mem_of_getElem? (i := 11) rfl)
theorem tw_392 : (Cond.instanceMethod yX6_set : Cond) ∈ cp_T := tc_19 _ (List.mem_of_getElem? (i := 12) rfl)
theorem tw_393 : (Cond.selects "CreaturePondModel" yX6_set yX6_set : Cond) ∈ cp_T := tc_19 _ (List.mem_of_getElem? (i := 13) rfl)
theorem tw_394 : (Cond.code yX6_set cX6_set 3 (some .boolean) : Cond) ∈ cp_T := tc_19 _ (List.mem_of_getElem? (i := 14) rfl)
theorem tw_395 : (Cond.methodLink "CreaturePondLaw" 56 yX6_store : Cond) ∈ cp_T := tc_19 _ (List.mem_of_getElem? (i := 15) rfl)
theorem tw_396 : (Cond.instanceMethod yX6_store : Cond) ∈ cp_T := tc_19 _ (List.mem_of_getElem? (i := 16) rfl)
theorem tw_397 : (Cond.selects "CreaturePondModel" yX6_store yX6_store : Cond) ∈ cp_T := tc_19 _ (List.mem_of_getElem? (i := 17) rfl)
theorem tw_398 : (Cond.code yX6_store cX6_store 2 (some .boolean) : Cond) ∈ cp_T := tc_19 _ (List.mem_of_getElem? (i := 18) rfl)
theorem tw_399 : (Cond.constant "CreaturePondModel" 108 (1000000 : Int32) : Cond) ∈ cp_T := tc_19 _ (List.mem_of_getElem? (i := 19) rfl)
theorem tw_400 : (Cond.methodLink "CreaturePondLaw" 61 yX6_grain : Cond) ∈ cp_T := tc_20 _ (List.mem_of_getElem? (i := 0) rfl)
theorem tw_401 : (Cond.instanceMethod yX6_grain : Cond) ∈ cp_T := tc_20 _ (List.mem_of_getElem? (i := 1) rfl)
theorem tw_402 : (Cond.selects "CreaturePondModel" yX6_grain yX6_grain : Cond) ∈ cp_T := tc_20 _ (List.mem_of_getElem? (i := 2) rfl)
theorem tw_403 : (Cond.code yX6_grain cX6_grain 4 (some .boolean) : Cond) ∈ cp_T := tc_20 _ (List.mem_of_getElem? (i := 3) rfl)
theorem tw_404 : (Cond.methodLink "CreaturePondModel" 38 yX6_cellAt : Cond) ∈ cp_T := tc_20 _ (List.mem_of_getElem? (i := 4) rfl)
theorem tw_405 : (Cond.instanceMethod yX6_cellAt : Cond) ∈ cp_T := tc_20 _ (List.mem_of_getElem? (i := 5) rfl)
theorem tw_406 : (Cond.code yX6_cellAt cX6_cellAt 3 (some .int) : Cond) ∈ cp_T := tc_20 _ (List.mem_of_getElem? (i := 6) rfl)
theorem tw_407 : (Cond.methodLink "CreaturePondModel" 26 yX6_round : Cond) ∈ cp_T := tc_20 _ (List.mem_of_getElem? (i := 7) rfl)
theorem tw_408 : (Cond.static yX6_round : Cond) ∈ cp_T := tc_20 _ (List.mem_of_getElem? (i := 8) rfl)
theorem tw_409 : (Cond.code yX6_round cX6_round 3 (some .int) : Cond) ∈ cp_T := tc_20 _ (List.mem_of_getElem? (i := 9) rfl)
theorem tw_410 : (Cond.methodLink "CreaturePondLaw" 65 yX6_animal : Cond) ∈ cp_T := tc_20 _ (List.mem_of_getElem? (i := 10) rfl)
theorem tw_411 : (Cond.instanceMethod yX6_animal : Cond) ∈ cp_T := tc_20 _ (List.mem_of_getElem? (i := 11) rfl)
theorem tw_412 : (Cond.selects "CreaturePondModel" yX6_animal yX6_animal : Cond) ∈ cp_T := tc_20 _ (List.mem_of_getElem? (i := 12) rfl)
theorem tw_413 : (Cond.code yX6_animal cX6_animal 6 (some .int) : Cond) ∈ cp_T := tc_20 _ (List.mem_of_getElem? (i := 13) rfl)
theorem tw_414 : (Cond.methodLink "CreaturePondModel" 51 yX6_inCell : Cond) ∈ cp_T := tc_20 _ (List.mem_of_getElem? (i := 14) rfl)
theorem tw_415 : (Cond.instanceMethod yX6_inCell : Cond) ∈ cp_T := tc_20 _ (List.mem_of_getElem? (i := 15) rfl)
theorem tw_416 : (Cond.code yX6_inCell cX6_inCell 3 (some .int) : Cond) ∈ cp_T := tc_20 _ (List.mem_of_getElem? (i := 16) rfl)
theorem tw_417 : (Cond.methodLink "CreaturePondModel" 30 yX6_at : Cond) ∈ cp_T := tc_20 _ (List.mem_of_getElem? (i := 17) rfl)
theorem tw_418 : (Cond.static yX6_at : Cond) ∈ cp_T := tc_20 _ (List.mem_of_getElem? (i := 18) rfl)
theorem tw_419 : (Cond.code yX6_at cX6_at 1 (some .int) : Cond) ∈ cp_T := tc_20 _ (List.mem_of_getElem? (i := 19) rfl)
theorem tw_420 : (Cond.methodLink "CreaturePondModel" 85 yX6_free : Cond) ∈ cp_T := tc_21 _ (List.mem_of_getElem? (i := 0) rfl)
theorem tw_421 : (Cond.instanceMethod yX6_free : Cond) ∈ cp_T := tc_21 _ (List.mem_of_getElem? (i := 1) rfl)
theorem tw_422 : (Cond.code yX6_free cX6_free 2 (some .int) : Cond) ∈ cp_T := tc_21 _ (List.mem_of_getElem? (i := 2) rfl)
theorem tw_423 : (Cond.methodLink "CreaturePondModel" 34 yX6_lives : Cond) ∈ cp_T := tc_21 _ (List.mem_of_getElem? (i := 3) rfl)
theorem tw_424 : (Cond.instanceMethod yX6_lives : Cond) ∈ cp_T := tc_21 _ (List.mem_of_getElem? (i := 4) rfl)
theorem tw_425 : (Cond.code yX6_lives cX6_lives 2 (some .boolean) : Cond) ∈ cp_T := tc_21 _ (List.mem_of_getElem? (i := 5) rfl)
theorem tw_426 : (Cond.methodLink "CreaturePondModel" 88 yX6_make : Cond) ∈ cp_T := tc_21 _ (List.mem_of_getElem? (i := 6) rfl)
theorem tw_427 : (Cond.instanceMethod yX6_make : Cond) ∈ cp_T := tc_21 _ (List.mem_of_getElem? (i := 7) rfl)
theorem tw_428 : (Cond.code yX6_make cX6_make 6 none : Cond) ∈ cp_T := tc_21 _ (List.mem_of_getElem? (i := 8) rfl)
theorem tw_429 : (Cond.methodLink "CreaturePondLaw" 74 yX6_code : Cond) ∈ cp_T := tc_21 _ (List.mem_of_getElem? (i := 9) rfl)
theorem tw_430 : (Cond.instanceMethod yX6_code : Cond) ∈ cp_T := tc_21 _ (List.mem_of_getElem? (i := 10) rfl)
theorem tw_431 : (Cond.selects "CreaturePondModel" yX6_code yX6_code : Cond) ∈ cp_T := tc_21 _ (List.mem_of_getElem? (i := 11) rfl)
theorem tw_432 : (Cond.code yX6_code cX6_code 7 (some .int) : Cond) ∈ cp_T := tc_21 _ (List.mem_of_getElem? (i := 12) rfl)
theorem tw_433 : (Cond.methodLink "CreaturePondLaw" 78 yX6_tick : Cond) ∈ cp_T := tc_21 _ (List.mem_of_getElem? (i := 13) rfl)
theorem tw_434 : (Cond.instanceMethod yX6_tick : Cond) ∈ cp_T := tc_21 _ (List.mem_of_getElem? (i := 14) rfl)
theorem tw_435 : (Cond.selects "CreaturePondModel" yX6_tick yX6_tick : Cond) ∈ cp_T := tc_21 _ (List.mem_of_getElem? (i := 15) rfl)
theorem tw_436 : (Cond.code yX6_tick cX6_tick 3 (some .int) : Cond) ∈ cp_T := tc_21 _ (List.mem_of_getElem? (i := 16) rfl)
theorem tw_437 : (Cond.methodLink "CreaturePondModel" 109 yX6_pass : Cond) ∈ cp_T := tc_21 _ (List.mem_of_getElem? (i := 17) rfl)
theorem tw_438 : (Cond.instanceMethod yX6_pass : Cond) ∈ cp_T := tc_21 _ (List.mem_of_getElem? (i := 18) rfl)
theorem tw_439 : (Cond.code yX6_pass cX6_pass 3 none : Cond) ∈ cp_T := tc_21 _ (List.mem_of_getElem? (i := 19) rfl)
theorem tw_440 : (Cond.methodLink "CreaturePondModel" 95 yX6_shine : Cond) ∈ cp_T := tc_22 _ (List.mem_of_getElem? (i := 0) rfl)
theorem tw_441 : (Cond.instanceMethod yX6_shine : Cond) ∈ cp_T := tc_22 _ (List.mem_of_getElem? (i := 1) rfl)
theorem tw_442 : (Cond.code yX6_shine cX6_shine 3 none : Cond) ∈ cp_T := tc_22 _ (List.mem_of_getElem? (i := 2) rfl)
theorem tw_443 : (Cond.methodLink "CreaturePondModel" 98 yX6_live : Cond) ∈ cp_T := tc_22 _ (List.mem_of_getElem? (i := 3) rfl)
theorem tw_444 : (Cond.instanceMethod yX6_live : Cond) ∈ cp_T := tc_22 _ (List.mem_of_getElem? (i := 4) rfl)
theorem tw_445 : (Cond.code yX6_live cX6_live 5 none : Cond) ∈ cp_T := tc_22 _ (List.mem_of_getElem? (i := 5) rfl)
theorem tw_446 : (Cond.methodLink "CreaturePondModel" 60 yX6_pay : Cond) ∈ cp_T := tc_22 _ (List.mem_of_getElem? (i := 6) rfl)
theorem tw_447 : (Cond.instanceMethod yX6_pay : Cond) ∈ cp_T := tc_22 _ (List.mem_of_getElem? (i := 7) rfl)
theorem tw_448 : (Cond.code yX6_pay cX6_pay 4 none : Cond) ∈ cp_T := tc_22 _ (List.mem_of_getElem? (i := 8) rfl)
theorem tw_449 : (Cond.methodLink "CreaturePondModel" 45 yX6_least : Cond) ∈ cp_T := tc_22 _ (List.mem_of_getElem? (i := 9) rfl)
theorem tw_450 : (Cond.static yX6_least : Cond) ∈ cp_T := tc_22 _ (List.mem_of_getElem? (i := 10) rfl)
theorem tw_451 : (Cond.code yX6_least cX6_least 2 (some .int) : Cond) ∈ cp_T := tc_22 _ (List.mem_of_getElem? (i := 11) rfl)
theorem tw_452 : (Cond.methodLink "CreaturePondModel" 78 yX6_operate : Cond) ∈ cp_T := tc_22 _ (List.mem_of_getElem? (i := 12) rfl)
theorem tw_453 : (Cond.instanceMethod yX6_operate : Cond) ∈ cp_T := tc_22 _ (List.mem_of_getElem? (i := 13) rfl)
theorem tw_454 : (Cond.code yX6_operate cX6_operate 11 (some .boolean) : Cond) ∈ cp_T := tc_22 _ (List.mem_of_getElem? (i := 14) rfl)
theorem tw_455 : (Cond.methodLink "CreaturePondModel" 64 yX6_codeAt : Cond) ∈ cp_T := tc_22 _ (List.mem_of_getElem? (i := 15) rfl)
theorem tw_456 : (Cond.instanceMethod yX6_codeAt : Cond) ∈ cp_T := tc_22 _ (List.mem_of_getElem? (i := 16) rfl)
theorem tw_457 : (Cond.code yX6_codeAt cX6_codeAt 3 (some .int) : Cond) ∈ cp_T := tc_22 _ (List.mem_of_getElem? (i := 17) rfl)
theorem tw_458 : (Cond.methodLink "CreaturePondModel" 67 yX6_operands : Cond) ∈ cp_T := tc_22 _ (List.mem_of_getElem? (i := 18) rfl)
theorem tw_459 : (Cond.static yX6_operands : Cond) ∈ cp_T := tc_22 _ (List.mem_of_getElem? (i := 19) rfl)
theorem tw_460 : (Cond.code yX6_operands cX6_operands 1 (some .int) : Cond) ∈ cp_T := tc_23 _ (List.mem_of_getElem? (i := 0) rfl)
theorem tw_461 : (Cond.methodLink "CreaturePondModel" 70 yX6_act : Cond) ∈ cp_T := tc_23 _ (List.mem_of_getElem? (i := 1) rfl)
theorem tw_462 : (Cond.instanceMethod yX6_act : Cond) ∈ cp_T := tc_23 _ (List.mem_of_getElem? (i := 2) rfl)
theorem tw_463 : (Cond.code yX6_act cX6_act 8 none : Cond) ∈ cp_T := tc_23 _ (List.mem_of_getElem? (i := 3) rfl)
theorem tw_464 : (Cond.methodLink "CreaturePondModel" 48 yX6_ahead : Cond) ∈ cp_T := tc_23 _ (List.mem_of_getElem? (i := 4) rfl)
theorem tw_465 : (Cond.instanceMethod yX6_ahead : Cond) ∈ cp_T := tc_23 _ (List.mem_of_getElem? (i := 5) rfl)
theorem tw_466 : (Cond.code yX6_ahead cX6_ahead 2 (some .int) : Cond) ∈ cp_T := tc_23 _ (List.mem_of_getElem? (i := 6) rfl)
theorem tw_467 : (Cond.methodLink "CreaturePondModel" 41 yX6_beside : Cond) ∈ cp_T := tc_23 _ (List.mem_of_getElem? (i := 7) rfl)
theorem tw_468 : (Cond.instanceMethod yX6_beside : Cond) ∈ cp_T := tc_23 _ (List.mem_of_getElem? (i := 8) rfl)
theorem tw_469 : (Cond.code yX6_beside cX6_beside 5 (some .int) : Cond) ∈ cp_T := tc_23 _ (List.mem_of_getElem? (i := 9) rfl)
theorem tw_470 : (Cond.methodLink "CreaturePondModel" 74 yX6_reckon : Cond) ∈ cp_T := tc_23 _ (List.mem_of_getElem? (i := 10) rfl)
theorem tw_471 : (Cond.instanceMethod yX6_reckon : Cond) ∈ cp_T := tc_23 _ (List.mem_of_getElem? (i := 11) rfl)
theorem tw_472 : (Cond.code yX6_reckon cX6_reckon 8 (some .int) : Cond) ∈ cp_T := tc_23 _ (List.mem_of_getElem? (i := 12) rfl)
theorem tw_473 : (Cond.methodLink "CreaturePondModel" 54 yX6_looks : Cond) ∈ cp_T := tc_23 _ (List.mem_of_getElem? (i := 13) rfl)
theorem tw_474 : (Cond.instanceMethod yX6_looks : Cond) ∈ cp_T := tc_23 _ (List.mem_of_getElem? (i := 14) rfl)
theorem tw_475 : (Cond.code yX6_looks cX6_looks 5 (some .int) : Cond) ∈ cp_T := tc_23 _ (List.mem_of_getElem? (i := 15) rfl)
theorem tw_476 : (Cond.methodLink "CreaturePondModel" 57 yX6_feels : Cond) ∈ cp_T := tc_23 _ (List.mem_of_getElem? (i := 16) rfl)
theorem tw_477 : (Cond.instanceMethod yX6_feels : Cond) ∈ cp_T := tc_23 _ (List.mem_of_getElem? (i := 17) rfl)
theorem tw_478 : (Cond.code yX6_feels cX6_feels 4 (some .int) : Cond) ∈ cp_T := tc_23 _ (List.mem_of_getElem? (i := 18) rfl)
theorem tw_479 : (Cond.methodLink "CreaturePondModel" 102 yX6_breed : Cond) ∈ cp_T := tc_23 _ (List.mem_of_getElem? (i := 19) rfl)
theorem tw_480 : (Cond.instanceMethod yX6_breed : Cond) ∈ cp_T := tc_24 _ (List.mem_of_getElem? (i := 0) rfl)
theorem tw_481 : (Cond.code yX6_breed cX6_breed 7 none : Cond) ∈ cp_T := tc_24 _ (List.mem_of_getElem? (i := 1) rfl)
theorem tw_482 : (Cond.methodLink "CreaturePondModel" 92 yX6_inherit : Cond) ∈ cp_T := tc_24 _ (List.mem_of_getElem? (i := 2) rfl)
theorem tw_483 : (Cond.instanceMethod yX6_inherit : Cond) ∈ cp_T := tc_24 _ (List.mem_of_getElem? (i := 3) rfl)
theorem tw_484 : (Cond.code yX6_inherit cX6_inherit 10 none : Cond) ∈ cp_T := tc_24 _ (List.mem_of_getElem? (i := 4) rfl)
theorem tw_485 : (Cond.methodLink "CreaturePondModel" 81 yX6_next : Cond) ∈ cp_T := tc_24 _ (List.mem_of_getElem? (i := 5) rfl)
theorem tw_486 : (Cond.instanceMethod yX6_next : Cond) ∈ cp_T := tc_24 _ (List.mem_of_getElem? (i := 6) rfl)
theorem tw_487 : (Cond.code yX6_next cX6_next 2 (some .int) : Cond) ∈ cp_T := tc_24 _ (List.mem_of_getElem? (i := 7) rfl)
theorem tw_488 : (Cond.constant "CreaturePondModel" 44 (134775813 : Int32) : Cond) ∈ cp_T := tc_24 _ (List.mem_of_getElem? (i := 8) rfl)
theorem tw_489 : (Cond.methodLink "CreaturePondModel" 105 yX6_die : Cond) ∈ cp_T := tc_24 _ (List.mem_of_getElem? (i := 9) rfl)
theorem tw_490 : (Cond.instanceMethod yX6_die : Cond) ∈ cp_T := tc_24 _ (List.mem_of_getElem? (i := 10) rfl)
theorem tw_491 : (Cond.code yX6_die cX6_die 5 none : Cond) ∈ cp_T := tc_24 _ (List.mem_of_getElem? (i := 11) rfl)
theorem tw_492 : (Cond.methodLink "CreaturePondModel" 112 yX6_animals : Cond) ∈ cp_T := tc_24 _ (List.mem_of_getElem? (i := 12) rfl)
theorem tw_493 : (Cond.instanceMethod yX6_animals : Cond) ∈ cp_T := tc_24 _ (List.mem_of_getElem? (i := 13) rfl)
theorem tw_494 : (Cond.code yX6_animals cX6_animals 3 (some .int) : Cond) ∈ cp_T := tc_24 _ (List.mem_of_getElem? (i := 14) rfl)
theorem tw_495 : (Cond.methodLink "CreaturePondLaw" 82 yX6_cell : Cond) ∈ cp_T := tc_24 _ (List.mem_of_getElem? (i := 15) rfl)
theorem tw_496 : (Cond.instanceMethod yX6_cell : Cond) ∈ cp_T := tc_24 _ (List.mem_of_getElem? (i := 16) rfl)
theorem tw_497 : (Cond.selects "CreaturePondModel" yX6_cell yX6_cell : Cond) ∈ cp_T := tc_24 _ (List.mem_of_getElem? (i := 17) rfl)
theorem tw_498 : (Cond.code yX6_cell cX6_cell 5 (some .int) : Cond) ∈ cp_T := tc_24 _ (List.mem_of_getElem? (i := 18) rfl)
theorem tw_499 : (Cond.methodLink "CreaturePondLaw" 87 yX6_field : Cond) ∈ cp_T := tc_24 _ (List.mem_of_getElem? (i := 19) rfl)
theorem tw_500 : (Cond.instanceMethod yX6_field : Cond) ∈ cp_T := tc_25 _ (List.mem_of_getElem? (i := 0) rfl)
theorem tw_501 : (Cond.selects "CreaturePondModel" yX6_field yX6_field : Cond) ∈ cp_T := tc_25 _ (List.mem_of_getElem? (i := 1) rfl)
theorem tw_502 : (Cond.code yX6_field cX6_field 4 (some .int) : Cond) ∈ cp_T := tc_25 _ (List.mem_of_getElem? (i := 2) rfl)
theorem tw_503 : (Cond.methodLink "CreaturePondLaw" 91 yX6_inner : Cond) ∈ cp_T := tc_25 _ (List.mem_of_getElem? (i := 3) rfl)
theorem tw_504 : (Cond.instanceMethod yX6_inner : Cond) ∈ cp_T := tc_25 _ (List.mem_of_getElem? (i := 4) rfl)
theorem tw_505 : (Cond.selects "CreaturePondModel" yX6_inner yX6_inner : Cond) ∈ cp_T := tc_25 _ (List.mem_of_getElem? (i := 5) rfl)
theorem tw_506 : (Cond.code yX6_inner cX6_inner 4 (some .byte) : Cond) ∈ cp_T := tc_25 _ (List.mem_of_getElem? (i := 6) rfl)
theorem tw_507 : (Cond.methodLink "CreaturePondLaw" 95 yX6_total : Cond) ∈ cp_T := tc_25 _ (List.mem_of_getElem? (i := 7) rfl)
theorem tw_508 : (Cond.instanceMethod yX6_total : Cond) ∈ cp_T := tc_25 _ (List.mem_of_getElem? (i := 8) rfl)
theorem tw_509 : (Cond.selects "CreaturePondModel" yX6_total yX6_total : Cond) ∈ cp_T := tc_25 _ (List.mem_of_getElem? (i := 9) rfl)
theorem tw_510 : (Cond.code yX6_total cX6_total 5 (some .int) : Cond) ∈ cp_T := tc_25 _ (List.mem_of_getElem? (i := 10) rfl)
theorem tw_511 : (Cond.methodLink "CreaturePondLaw" 99 yX6_keep : Cond) ∈ cp_T := tc_25 _ (List.mem_of_getElem? (i := 11) rfl)
theorem tw_512 : (Cond.instanceMethod yX6_keep : Cond) ∈ cp_T := tc_25 _ (List.mem_of_getElem? (i := 12) rfl)
theorem tw_513 : (Cond.selects "CreaturePondModel" yX6_keep yX6_keep : Cond) ∈ cp_T := tc_25 _ (List.mem_of_getElem? (i := 13) rfl)
theorem tw_514 : (Cond.code yX6_keep cX6_keep 2 none : Cond) ∈ cp_T := tc_25 _ (List.mem_of_getElem? (i := 14) rfl)
theorem tw_515 : (Cond.methodLink "CreaturePondLaw" 103 yX6_differ : Cond) ∈ cp_T := tc_25 _ (List.mem_of_getElem? (i := 15) rfl)
theorem tw_516 : (Cond.instanceMethod yX6_differ : Cond) ∈ cp_T := tc_25 _ (List.mem_of_getElem? (i := 16) rfl)
theorem tw_517 : (Cond.selects "CreaturePondModel" yX6_differ yX6_differ : Cond) ∈ cp_T := tc_25 _ (List.mem_of_getElem? (i := 17) rfl)
theorem tw_518 : (Cond.code yX6_differ cX6_differ 5 (some .int) : Cond) ∈ cp_T := tc_25 _ (List.mem_of_getElem? (i := 18) rfl)
theorem tw_519 : (Cond.methodLink "CreaturePondModel" 119 yX6_wasIn : Cond) ∈ cp_T := tc_25 _ (List.mem_of_getElem? (i := 19) rfl)
theorem tw_520 : (Cond.instanceMethod yX6_wasIn : Cond) ∈ cp_T := tc_26 _ (List.mem_of_getElem? (i := 0) rfl)
theorem tw_521 : (Cond.code yX6_wasIn cX6_wasIn 3 (some .int) : Cond) ∈ cp_T := tc_26 _ (List.mem_of_getElem? (i := 1) rfl)
theorem tw_522 : (Cond.methodLink "CreaturePondLaw" 108 yX6_back : Cond) ∈ cp_T := tc_26 _ (List.mem_of_getElem? (i := 2) rfl)
theorem tw_523 : (Cond.instanceMethod yX6_back : Cond) ∈ cp_T := tc_26 _ (List.mem_of_getElem? (i := 3) rfl)
theorem tw_524 : (Cond.selects "CreaturePondModel" yX6_back yX6_back : Cond) ∈ cp_T := tc_26 _ (List.mem_of_getElem? (i := 4) rfl)
theorem tw_525 : (Cond.code yX6_back cX6_back 2 (some .boolean) : Cond) ∈ cp_T := tc_26 _ (List.mem_of_getElem? (i := 5) rfl)
theorem tw_526 : (Cond.constantLong "CreaturePondLaw" 69 (4294967295 : Int64) : Cond) ∈ cp_T := tc_26 _ (List.mem_of_getElem? (i := 6) rfl)
theorem tw_527 : (Cond.arrayClass .long : Cond) ∈ cp_T := tc_26 _ (List.mem_of_getElem? (i := 7) rfl)
theorem tw_528 : (Cond.selects "CreaturePond$Shape" yX5_columnOf yX5_columnOf : Cond) ∈ cp_T := tc_26 _ (List.mem_of_getElem? (i := 8) rfl)
theorem tw_529 : (Cond.selects "CreaturePond$Shape" yX5_rowOf yX5_rowOf : Cond) ∈ cp_T := tc_26 _ (List.mem_of_getElem? (i := 9) rfl)
theorem tw_530 : (Cond.selects "CreaturePond$Shape" yX5_cellAt yX5_cellAt : Cond) ∈ cp_T := tc_26 _ (List.mem_of_getElem? (i := 10) rfl)
theorem tw_531 : (Cond.selects "CreaturePond$Pond" yX4_has yX4_has : Cond) ∈ cp_T := tc_26 _ (List.mem_of_getElem? (i := 11) rfl)
theorem tw_532 : (Cond.selects "CreaturePond$Animal" yX1_trait yX1_trait : Cond) ∈ cp_T := tc_26 _ (List.mem_of_getElem? (i := 12) rfl)
theorem tw_533 : (Cond.selects "CreaturePond$Pond" yX4_energyOfAll yX4_energyOfAll : Cond) ∈ cp_T := tc_26 _ (List.mem_of_getElem? (i := 13) rfl)
theorem tw_534 : (Cond.selects "CreaturePond$Pond" yX4_grainOfAll yX4_grainOfAll : Cond) ∈ cp_T := tc_26 _ (List.mem_of_getElem? (i := 14) rfl)
theorem tw_535 : (Cond.selects "CreaturePond$Pond" yX4_countAnimals yX4_countAnimals : Cond) ∈ cp_T := tc_26 _ (List.mem_of_getElem? (i := 15) rfl)
theorem tw_536 : (Cond.selects "CreaturePond$Pond" yX4_copyFrom yX4_copyFrom : Cond) ∈ cp_T := tc_26 _ (List.mem_of_getElem? (i := 16) rfl)
theorem tw_537 : (Cond.selects "CreaturePond$Animal" yX1_copyFrom yX1_copyFrom : Cond) ∈ cp_T := tc_26 _ (List.mem_of_getElem? (i := 17) rfl)
theorem tw_538 : (Cond.selects "CreaturePond$Pond" yX4_freeNumber yX4_freeNumber : Cond) ∈ cp_T := tc_26 _ (List.mem_of_getElem? (i := 18) rfl)
theorem tw_539 : (Cond.selects "CreaturePond$Pond" yX4_settle yX4_settle : Cond) ∈ cp_T := tc_26 _ (List.mem_of_getElem? (i := 19) rfl)
theorem tw_540 : (Cond.selects "CreaturePond$Animal" yX1_begin yX1_begin : Cond) ∈ cp_T := tc_27 _ (List.mem_of_getElem? (i := 0) rfl)
theorem tw_541 : (Cond.selects "CreaturePond$Animal" yX1_grow yX1_grow : Cond) ∈ cp_T := tc_27 _ (List.mem_of_getElem? (i := 1) rfl)
theorem tw_542 : (Cond.selects "CreaturePond$Pond" yX4_shine yX4_shine : Cond) ∈ cp_T := tc_27 _ (List.mem_of_getElem? (i := 2) rfl)
theorem tw_543 : (Cond.selects "CreaturePond$Mind" yX3_moveAll yX3_moveAll : Cond) ∈ cp_T := tc_27 _ (List.mem_of_getElem? (i := 3) rfl)
theorem tw_544 : (Cond.selects "CreaturePond$Mind" yX3_move yX3_move : Cond) ∈ cp_T := tc_27 _ (List.mem_of_getElem? (i := 4) rfl)
theorem tw_545 : (Cond.selects "CreaturePond$Pond" yX4_pay yX4_pay : Cond) ∈ cp_T := tc_27 _ (List.mem_of_getElem? (i := 5) rfl)
theorem tw_546 : (Cond.selects "CreaturePond$Mind" yX3_operate yX3_operate : Cond) ∈ cp_T := tc_27 _ (List.mem_of_getElem? (i := 6) rfl)
theorem tw_547 : (Cond.selects "CreaturePond$Animal" yX1_geneBehindPlace yX1_geneBehindPlace : Cond) ∈ cp_T := tc_27 _ (List.mem_of_getElem? (i := 7) rfl)
theorem tw_548 : (Cond.selects "CreaturePond$Animal" yX1_wrapped yX1_wrapped : Cond) ∈ cp_T := tc_27 _ (List.mem_of_getElem? (i := 8) rfl)
theorem tw_549 : (Cond.selects "CreaturePond$Mind" yX3_act yX3_act : Cond) ∈ cp_T := tc_27 _ (List.mem_of_getElem? (i := 9) rfl)
theorem tw_550 : (Cond.selects "CreaturePond$Mind" yX3_goAhead yX3_goAhead : Cond) ∈ cp_T := tc_27 _ (List.mem_of_getElem? (i := 10) rfl)
theorem tw_551 : (Cond.selects "CreaturePond$Pond" yX4_aheadOf yX4_aheadOf : Cond) ∈ cp_T := tc_27 _ (List.mem_of_getElem? (i := 11) rfl)
theorem tw_552 : (Cond.selects "CreaturePond$Mind" yX3_eat yX3_eat : Cond) ∈ cp_T := tc_27 _ (List.mem_of_getElem? (i := 12) rfl)
theorem tw_553 : (Cond.selects "CreaturePond$Mind" yX3_give yX3_give : Cond) ∈ cp_T := tc_27 _ (List.mem_of_getElem? (i := 13) rfl)
theorem tw_554 : (Cond.selects "CreaturePond$Mind" yX3_memoryIndex yX3_memoryIndex : Cond) ∈ cp_T := tc_27 _ (List.mem_of_getElem? (i := 14) rfl)
theorem tw_555 : (Cond.selects "CreaturePond$Mind" yX3_jump yX3_jump : Cond) ∈ cp_T := tc_27 _ (List.mem_of_getElem? (i := 15) rfl)
theorem tw_556 : (Cond.selects "CreaturePond$Mind" yX3_reckon yX3_reckon : Cond) ∈ cp_T := tc_27 _ (List.mem_of_getElem? (i := 16) rfl)
theorem tw_557 : (Cond.selects "CreaturePond$Mind" yX3_seenAhead yX3_seenAhead : Cond) ∈ cp_T := tc_27 _ (List.mem_of_getElem? (i := 17) rfl)
theorem tw_558 : (Cond.selects "CreaturePond$Mind" yX3_seenInside yX3_seenInside : Cond) ∈ cp_T := tc_27 _ (List.mem_of_getElem? (i := 18) rfl)
theorem tw_559 : (Cond.selects "CreaturePond$Breeding" yX2_breedAll yX2_breedAll : Cond) ∈ cp_T := tc_27 _ (List.mem_of_getElem? (i := 19) rfl)
theorem tw_560 : (Cond.selects "CreaturePond$Breeding" yX2_greaterOfPair yX2_greaterOfPair : Cond) ∈ cp_T := tc_28 _ (List.mem_of_getElem? (i := 0) rfl)
theorem tw_561 : (Cond.selects "CreaturePond$Breeding" yX2_breed yX2_breed : Cond) ∈ cp_T := tc_28 _ (List.mem_of_getElem? (i := 1) rfl)
theorem tw_562 : (Cond.selects "CreaturePond$Breeding" yX2_firstFreeAround yX2_firstFreeAround : Cond) ∈ cp_T := tc_28 _ (List.mem_of_getElem? (i := 2) rfl)
theorem tw_563 : (Cond.selects "CreaturePond$Shape" yX5_nextTo yX5_nextTo : Cond) ∈ cp_T := tc_28 _ (List.mem_of_getElem? (i := 3) rfl)
theorem tw_564 : (Cond.selects "CreaturePond$Breeding" yX2_payAndHalve yX2_payAndHalve : Cond) ∈ cp_T := tc_28 _ (List.mem_of_getElem? (i := 4) rfl)
theorem tw_565 : (Cond.selects "CreaturePond$Breeding" yX2_mixCode yX2_mixCode : Cond) ∈ cp_T := tc_28 _ (List.mem_of_getElem? (i := 5) rfl)
theorem tw_566 : (Cond.selects "CreaturePond$Pond" yX4_nextNumber yX4_nextNumber : Cond) ∈ cp_T := tc_28 _ (List.mem_of_getElem? (i := 6) rfl)
theorem tw_567 : (Cond.selects "CreaturePond$Breeding" yX2_growFrom yX2_growFrom : Cond) ∈ cp_T := tc_28 _ (List.mem_of_getElem? (i := 7) rfl)
theorem tw_568 : (Cond.selects "CreaturePond$Breeding" yX2_changeCode yX2_changeCode : Cond) ∈ cp_T := tc_28 _ (List.mem_of_getElem? (i := 8) rfl)
theorem tw_569 : (Cond.selects "CreaturePond$Pond" yX4_endDead yX4_endDead : Cond) ∈ cp_T := tc_28 _ (List.mem_of_getElem? (i := 9) rfl)
theorem tw_570 : (Cond.selects "CreaturePond$Pond" yX4_end yX4_end : Cond) ∈ cp_T := tc_28 _ (List.mem_of_getElem? (i := 10) rfl)
theorem tw_571 : (Cond.selects "CreaturePond$Pond" yX4_firstOther yX4_firstOther : Cond) ∈ cp_T := tc_28 _ (List.mem_of_getElem? (i := 11) rfl)
theorem tw_572 : (Cond.selects "CreaturePond$Pond" yX4_hasOtherDweller yX4_hasOtherDweller : Cond) ∈ cp_T := tc_28 _ (List.mem_of_getElem? (i := 12) rfl)
theorem tw_573 : (Cond.selects "CreaturePondModel" yX6_cellAt yX6_cellAt : Cond) ∈ cp_T := tc_28 _ (List.mem_of_getElem? (i := 13) rfl)
theorem tw_574 : (Cond.selects "CreaturePondModel" yX6_inCell yX6_inCell : Cond) ∈ cp_T := tc_28 _ (List.mem_of_getElem? (i := 14) rfl)
theorem tw_575 : (Cond.selects "CreaturePondModel" yX6_free yX6_free : Cond) ∈ cp_T := tc_28 _ (List.mem_of_getElem? (i := 15) rfl)
theorem tw_576 : (Cond.selects "CreaturePondModel" yX6_lives yX6_lives : Cond) ∈ cp_T := tc_28 _ (List.mem_of_getElem? (i := 16) rfl)
theorem tw_577 : (Cond.selects "CreaturePondModel" yX6_make yX6_make : Cond) ∈ cp_T := tc_28 _ (List.mem_of_getElem? (i := 17) rfl)
theorem tw_578 : (Cond.selects "CreaturePondModel" yX6_pass yX6_pass : Cond) ∈ cp_T := tc_28 _ (List.mem_of_getElem? (i := 18) rfl)
theorem tw_579 : (Cond.selects "CreaturePondModel" yX6_shine yX6_shine : Cond) ∈ cp_T := tc_28 _ (List.mem_of_getElem? (i := 19) rfl)
theorem tw_580 : (Cond.selects "CreaturePondModel" yX6_live yX6_live : Cond) ∈ cp_T := tc_29 _ (List.mem_of_getElem? (i := 0) rfl)
theorem tw_581 : (Cond.selects "CreaturePondModel" yX6_pay yX6_pay : Cond) ∈ cp_T := tc_29 _ (List.mem_of_getElem? (i := 1) rfl)
theorem tw_582 : (Cond.selects "CreaturePondModel" yX6_operate yX6_operate : Cond) ∈ cp_T := tc_29 _ (List.mem_of_getElem? (i := 2) rfl)
theorem tw_583 : (Cond.selects "CreaturePondModel" yX6_codeAt yX6_codeAt : Cond) ∈ cp_T := tc_29 _ (List.mem_of_getElem? (i := 3) rfl)
theorem tw_584 : (Cond.selects "CreaturePondModel" yX6_act yX6_act : Cond) ∈ cp_T := tc_29 _ (List.mem_of_getElem? (i := 4) rfl)
theorem tw_585 : (Cond.selects "CreaturePondModel" yX6_ahead yX6_ahead : Cond) ∈ cp_T := tc_29 _ (List.mem_of_getElem? (i := 5) rfl)
theorem tw_586 : (Cond.selects "CreaturePondModel" yX6_beside yX6_beside : Cond) ∈ cp_T := tc_29 _ (List.mem_of_getElem? (i := 6) rfl)
theorem tw_587 : (Cond.selects "CreaturePondModel" yX6_reckon yX6_reckon : Cond) ∈ cp_T := tc_29 _ (List.mem_of_getElem? (i := 7) rfl)
theorem tw_588 : (Cond.selects "CreaturePondModel" yX6_looks yX6_looks : Cond) ∈ cp_T := tc_29 _ (List.mem_of_getElem? (i := 8) rfl)
theorem tw_589 : (Cond.selects "CreaturePondModel" yX6_feels yX6_feels : Cond) ∈ cp_T := tc_29 _ (List.mem_of_getElem? (i := 9) rfl)
theorem tw_590 : (Cond.selects "CreaturePondModel" yX6_breed yX6_breed : Cond) ∈ cp_T := tc_29 _ (List.mem_of_getElem? (i := 10) rfl)
theorem tw_591 : (Cond.selects "CreaturePondModel" yX6_inherit yX6_inherit : Cond) ∈ cp_T := tc_29 _ (List.mem_of_getElem? (i := 11) rfl)
theorem tw_592 : (Cond.selects "CreaturePondModel" yX6_next yX6_next : Cond) ∈ cp_T := tc_29 _ (List.mem_of_getElem? (i := 12) rfl)
theorem tw_593 : (Cond.selects "CreaturePondModel" yX6_die yX6_die : Cond) ∈ cp_T := tc_29 _ (List.mem_of_getElem? (i := 13) rfl)
theorem tw_594 : (Cond.selects "CreaturePondModel" yX6_animals yX6_animals : Cond) ∈ cp_T := tc_29 _ (List.mem_of_getElem? (i := 14) rfl)
theorem tw_595 : (Cond.selects "CreaturePondModel" yX6_wasIn yX6_wasIn : Cond) ∈ cp_T := tc_29 _ (List.mem_of_getElem? (i := 15) rfl)
theorem tg_0 : cpT_0.all goodWord = true := by decide +kernel
theorem tg_1 : cpT_1.all goodWord = true := by decide +kernel
theorem tg_2 : cpT_2.all goodWord = true := by decide +kernel
theorem tg_3 : cpT_3.all goodWord = true := by decide +kernel
theorem tg_4 : cpT_4.all goodWord = true := by decide +kernel
theorem tg_5 : cpT_5.all goodWord = true := by decide +kernel
theorem tg_6 : cpT_6.all goodWord = true := by decide +kernel
theorem tg_7 : cpT_7.all goodWord = true := by decide +kernel
theorem tg_8 : cpT_8.all goodWord = true := by decide +kernel
theorem tg_9 : cpT_9.all goodWord = true := by decide +kernel
theorem tg_10 : cpT_10.all goodWord = true := by decide +kernel
theorem tg_11 : cpT_11.all goodWord = true := by decide +kernel
theorem tg_12 : cpT_12.all goodWord = true := by decide +kernel
theorem tg_13 : cpT_13.all goodWord = true := by decide +kernel
theorem tg_14 : cpT_14.all goodWord = true := by decide +kernel
theorem tg_15 : cpT_15.all goodWord = true := by decide +kernel
theorem tg_16 : cpT_16.all goodWord = true := by decide +kernel
theorem tg_17 : cpT_17.all goodWord = true := by decide +kernel
theorem tg_18 : cpT_18.all goodWord = true := by decide +kernel
theorem tg_19 : cpT_19.all goodWord = true := by decide +kernel
theorem tg_20 : cpT_20.all goodWord = true := by decide +kernel
theorem tg_21 : cpT_21.all goodWord = true := by decide +kernel
theorem tg_22 : cpT_22.all goodWord = true := by decide +kernel
theorem tg_23 : cpT_23.all goodWord = true := by decide +kernel
theorem tg_24 : cpT_24.all goodWord = true := by decide +kernel
theorem tg_25 : cpT_25.all goodWord = true := by decide +kernel
theorem tg_26 : cpT_26.all goodWord = true := by decide +kernel
theorem tg_27 : cpT_27.all goodWord = true := by decide +kernel
theorem tg_28 : cpT_28.all goodWord = true := by decide +kernel
theorem tg_29 : cpT_29.all goodWord = true := by decide +kernel
theorem cp_gT : GoodIn cp_T cp_T := fun w hw => ⟨hw, good_of_word ((fun (w : Cond) (h : w ∈ cp_T) => ((List.mem_append.mp h).elim (fun h => List.all_eq_true.mp tg_0 w h) (fun h => (List.mem_append.mp h).elim (fun h => List.all_eq_true.mp tg_1 w h) (fun h => (List.mem_append.mp h).elim (fun h => List.all_eq_true.mp tg_2 w h) (fun h => (List.mem_append.mp h).elim (fun h => List.all_eq_true.mp tg_3 w h) (fun h => (List.mem_append.mp h).elim (fun h => List.all_eq_true.mp tg_4 w h) (fun h => (List.mem_append.mp h).elim (fun h => List.all_eq_true.mp tg_5 w h) (fun h => (List.mem_append.mp h).elim (fun h => List.all_eq_true.mp tg_6 w h) (fun h => (List.mem_append.mp h).elim (fun h => List.all_eq_true.mp tg_7 w h) (fun h => (List.mem_append.mp h).elim (fun h => List.all_eq_true.mp tg_8 w h) (fun h => (List.mem_append.mp h).elim (fun h => List.all_eq_true.mp tg_9 w h) (fun h => (List.mem_append.mp h).elim (fun h => List.all_eq_true.mp tg_10 w h) (fun h => (List.mem_append.mp h).elim (fun h => List.all_eq_true.mp tg_11 w h) (fun h => (List.mem_append.mp h).elim (fun h => List.all_eq_true.mp tg_12 w h) (fun h => (List.mem_append.mp h).elim (fun h => List.all_eq_true.mp tg_13 w h) (fun h => (List.mem_append.mp h).elim (fun h => List.all_eq_true.mp tg_14 w h) (fun h => (List.mem_append.mp h).elim (fun h => List.all_eq_true.mp tg_15 w h) (fun h => (List.mem_append.mp h).elim (fun h => List.all_eq_true.mp tg_16 w h) (fun h => (List.mem_append.mp h).elim (fun h => List.all_eq_true.mp tg_17 w h) (fun h => (List.mem_append.mp h).elim (fun h => List.all_eq_true.mp tg_18 w h) (fun h => (List.mem_append.mp h).elim (fun h => List.all_eq_true.mp tg_19 w h) (fun h => (List.mem_append.mp h).elim (fun h => List.all_eq_true.mp tg_20 w h) (fun h => (List.mem_append.mp h).elim (fun h => List.all_eq_true.mp tg_21 w h) (fun h => (List.mem_append.mp h).elim (fun h => List.all_eq_true.mp tg_22 w h) (fun h => (List.mem_append.mp h).elim (fun h => List.all_eq_true.mp tg_23 w h) (fun h => (List.mem_append.mp h).elim (fun h => List.all_eq_true.mp tg_24 w h) (fun h => (List.mem_append.mp h).elim (fun h => List.all_eq_true.mp tg_25 w h) (fun h => (List.mem_append.mp h).elim (fun h => List.all_eq_true.mp tg_26 w h) (fun h => (List.mem_append.mp h).elim (fun h => List.all_eq_true.mp tg_27 w h) (fun h => (List.mem_append.mp h).elim (fun h => List.all_eq_true.mp tg_28 w h) (fun h => List.all_eq_true.mp tg_29 w h))))))))))))))))))))))))))))) : goodWord w = true)) w hw)⟩
theorem cp_good {w : Cond} (h : w ∈ cp_T) : GoodIn cp_T (w :: cp_T) := fun x hx => (List.mem_cons.mp hx).elim (fun e => by rw [e]; exact cp_gT w h) (fun h => cp_gT x h)
def wsX0_init : List Cond := .code yX0_init cX0_init 3 none :: cp_T
theorem gdX0_init : GoodIn cp_T wsX0_init := cp_good tw_20
def wsX5_init : List Cond := .code yX5_init cX5_init 6 none :: cp_T
theorem gdX5_init : GoodIn cp_T wsX5_init := cp_good tw_33
def wsX5_columnOf : List Cond := .code yX5_columnOf cX5_columnOf 2 (some .int) :: cp_T
theorem gdX5_columnOf : GoodIn cp_T wsX5_columnOf := cp_good tw_37
def wsX5_rowOf : List Cond := .code yX5_rowOf cX5_rowOf 2 (some .int) :: cp_T
theorem gdX5_rowOf : GoodIn cp_T wsX5_rowOf := cp_good tw_41
def wsX5_cellAt : List Cond := .code yX5_cellAt cX5_cellAt 3 (some .int) :: cp_T
theorem gdX5_cellAt : GoodIn cp_T wsX5_cellAt := cp_good tw_45
def wsJ_floorMod : List Cond := .code yJ_floorMod cJ_floorMod 3 (some .int) :: cp_T
theorem gdJ_floorMod : GoodIn cp_T wsJ_floorMod := cp_good tw_48
def wsX4_init : List Cond := .code yX4_init cX4_init 3 none :: cp_T
theorem gdX4_init : GoodIn cp_T wsX4_init := cp_good tw_61
def wsX1_init : List Cond := .code yX1_init cX1_init 1 none :: cp_T
theorem gdX1_init : GoodIn cp_T wsX1_init := cp_good tw_66
def wsX3_init : List Cond := .code yX3_init cX3_init 2 none :: cp_T
theorem gdX3_init : GoodIn cp_T wsX3_init := cp_good tw_124
def wsX2_init : List Cond := .code yX2_init cX2_init 2 none :: cp_T
theorem gdX2_init : GoodIn cp_T wsX2_init := cp_good tw_131
def wsX0_set : List Cond := .code yX0_set cX0_set 3 (some .boolean) :: cp_T
theorem gdX0_set : GoodIn cp_T wsX0_set := cp_good tw_150
def wsX0_store : List Cond := .code yX0_store cX0_store 2 (some .boolean) :: cp_T
theorem gdX0_store : GoodIn cp_T wsX0_store := cp_good tw_154
def wsX0_grain : List Cond := .code yX0_grain cX0_grain 4 (some .boolean) :: cp_T
theorem gdX0_grain : GoodIn cp_T wsX0_grain := cp_good tw_159
def wsX0_cell : List Cond := .code yX0_cell cX0_cell 5 (some .int) :: cp_T
theorem gdX0_cell : GoodIn cp_T wsX0_cell := cp_good tw_163
def wsX0_field : List Cond := .code yX0_field cX0_field 4 (some .int) :: cp_T
theorem gdX0_field : GoodIn cp_T wsX0_field := cp_good tw_167
def wsX4_has : List Cond := .code yX4_has cX4_has 2 (some .boolean) :: cp_T
theorem gdX4_has : GoodIn cp_T wsX4_has := cp_good tw_169
def wsX1_trait : List Cond := .code yX1_trait cX1_trait 2 (some .int) :: cp_T
theorem gdX1_trait : GoodIn cp_T wsX1_trait := cp_good tw_171
def wsX0_total : List Cond := .code yX0_total cX0_total 2 (some .int) :: cp_T
theorem gdX0_total : GoodIn cp_T wsX0_total := cp_good tw_175
def wsX4_energyOfAll : List Cond := .code yX4_energyOfAll cX4_energyOfAll 3 (some .int) :: cp_T
theorem gdX4_energyOfAll : GoodIn cp_T wsX4_energyOfAll := cp_good tw_177
def wsX4_grainOfAll : List Cond := .code yX4_grainOfAll cX4_grainOfAll 6 (some .int) :: cp_T
theorem gdX4_grainOfAll : GoodIn cp_T wsX4_grainOfAll := cp_good tw_179
def wsX4_countAnimals : List Cond := .code yX4_countAnimals cX4_countAnimals 3 (some .int) :: cp_T
theorem gdX4_countAnimals : GoodIn cp_T wsX4_countAnimals := cp_good tw_181
def wsX0_keep : List Cond := .code yX0_keep cX0_keep 1 none :: cp_T
theorem gdX0_keep : GoodIn cp_T wsX0_keep := cp_good tw_185
def wsX4_copyFrom : List Cond := .code yX4_copyFrom cX4_copyFrom 3 none :: cp_T
theorem gdX4_copyFrom : GoodIn cp_T wsX4_copyFrom := cp_good tw_187
def wsX1_copyFrom : List Cond := .code yX1_copyFrom cX1_copyFrom 2 none :: cp_T
theorem gdX1_copyFrom : GoodIn cp_T wsX1_copyFrom := cp_good tw_192
def wsX0_back : List Cond := .code yX0_back cX0_back 1 (some .boolean) :: cp_T
theorem gdX0_back : GoodIn cp_T wsX0_back := cp_good tw_197
def wsL_cell : List Cond := .code yL_cell cL_cell 2 (some .int) :: cp_T
theorem gdL_cell : GoodIn cp_T wsL_cell := cp_good tw_200
def wsX0_animal : List Cond := .code yX0_animal cX0_animal 7 (some .int) :: cp_T
theorem gdX0_animal : GoodIn cp_T wsX0_animal := cp_good tw_208
def wsX4_freeNumber : List Cond := .code yX4_freeNumber cX4_freeNumber 2 (some .int) :: cp_T
theorem gdX4_freeNumber : GoodIn cp_T wsX4_freeNumber := cp_good tw_232
def wsX4_settle : List Cond := .code yX4_settle cX4_settle 6 (some (.object "CreaturePond$Animal")) :: cp_T
theorem gdX4_settle : GoodIn cp_T wsX4_settle := cp_good tw_242
def wsX1_begin : List Cond := .code yX1_begin cX1_begin 5 none :: cp_T
theorem gdX1_begin : GoodIn cp_T wsX1_begin := cp_good tw_244
def wsX0_code : List Cond := .code yX0_code cX0_code 7 (some .int) :: cp_T
theorem gdX0_code : GoodIn cp_T wsX0_code := cp_good tw_250
def wsX1_grow : List Cond := .code yX1_grow cX1_grow 2 none :: cp_T
theorem gdX1_grow : GoodIn cp_T wsX1_grow := cp_good tw_252
def wsX0_tick : List Cond := .code yX0_tick cX0_tick 3 (some .int) :: cp_T
theorem gdX0_tick : GoodIn cp_T wsX0_tick := cp_good tw_258
def wsX4_shine : List Cond := .code yX4_shine cX4_shine 2 none :: cp_T
theorem gdX4_shine : GoodIn cp_T wsX4_shine := cp_good tw_260
def wsX3_moveAll : List Cond := .code yX3_moveAll cX3_moveAll 2 none :: cp_T
theorem gdX3_moveAll : GoodIn cp_T wsX3_moveAll := cp_good tw_262
def wsX3_move : List Cond := .code yX3_move cX3_move 4 none :: cp_T
theorem gdX3_move : GoodIn cp_T wsX3_move := cp_good tw_265
def wsX4_pay : List Cond := .code yX4_pay cX4_pay 4 none :: cp_T
theorem gdX4_pay : GoodIn cp_T wsX4_pay := cp_good tw_267
def wsX3_operate : List Cond := .code yX3_operate cX3_operate 5 (some .boolean) :: cp_T
theorem gdX3_operate : GoodIn cp_T wsX3_operate := cp_good tw_271
def wsX1_geneBehindPlace : List Cond := .code yX1_geneBehindPlace cX1_geneBehindPlace 2 (some .byte) :: cp_T
theorem gdX1_geneBehindPlace : GoodIn cp_T wsX1_geneBehindPlace := cp_good tw_273
def wsX1_wrapped : List Cond := .code yX1_wrapped cX1_wrapped 2 (some .int) :: cp_T
theorem gdX1_wrapped : GoodIn cp_T wsX1_wrapped := cp_good tw_276
def wsX3_act : List Cond := .code yX3_act cX3_act 4 none :: cp_T
theorem gdX3_act : GoodIn cp_T wsX3_act := cp_good tw_280
def wsX3_goAhead : List Cond := .code yX3_goAhead cX3_goAhead 3 none :: cp_T
theorem gdX3_goAhead : GoodIn cp_T wsX3_goAhead := cp_good tw_283
def wsX4_aheadOf : List Cond := .code yX4_aheadOf cX4_aheadOf 2 (some .int) :: cp_T
theorem gdX4_aheadOf : GoodIn cp_T wsX4_aheadOf := cp_good tw_285
def wsX3_eat : List Cond := .code yX3_eat cX3_eat 3 none :: cp_T
theorem gdX3_eat : GoodIn cp_T wsX3_eat := cp_good tw_288
def wsX3_give : List Cond := .code yX3_give cX3_give 5 none :: cp_T
theorem gdX3_give : GoodIn cp_T wsX3_give := cp_good tw_292
def wsX3_memoryIndex : List Cond := .code yX3_memoryIndex cX3_memoryIndex 3 (some .int) :: cp_T
theorem gdX3_memoryIndex : GoodIn cp_T wsX3_memoryIndex := cp_good tw_295
def wsX3_jump : List Cond := .code yX3_jump cX3_jump 3 none :: cp_T
theorem gdX3_jump : GoodIn cp_T wsX3_jump := cp_good tw_298
def wsX3_reckon : List Cond := .code yX3_reckon cX3_reckon 7 (some .int) :: cp_T
theorem gdX3_reckon : GoodIn cp_T wsX3_reckon := cp_good tw_301
def wsX3_seenAhead : List Cond := .code yX3_seenAhead cX3_seenAhead 5 (some .int) :: cp_T
theorem gdX3_seenAhead : GoodIn cp_T wsX3_seenAhead := cp_good tw_304
def wsX3_seenInside : List Cond := .code yX3_seenInside cX3_seenInside 3 (some .int) :: cp_T
theorem gdX3_seenInside : GoodIn cp_T wsX3_seenInside := cp_good tw_307
def wsX2_breedAll : List Cond := .code yX2_breedAll cX2_breedAll 3 none :: cp_T
theorem gdX2_breedAll : GoodIn cp_T wsX2_breedAll := cp_good tw_309
def wsX2_greaterOfPair : List Cond := .code yX2_greaterOfPair cX2_greaterOfPair 5 (some .int) :: cp_T
theorem gdX2_greaterOfPair : GoodIn cp_T wsX2_greaterOfPair := cp_good tw_312
def wsX2_breed : List Cond := .code yX2_breed cX2_breed 8 none :: cp_T
theorem gdX2_breed : GoodIn cp_T wsX2_breed := cp_good tw_315
def wsX2_firstFreeAround : List Cond := .code yX2_firstFreeAround cX2_firstFreeAround 4 (some .int) :: cp_T
theorem gdX2_firstFreeAround : GoodIn cp_T wsX2_firstFreeAround := cp_good tw_318
def wsX5_nextTo : List Cond := .code yX5_nextTo cX5_nextTo 3 (some .int) :: cp_T
theorem gdX5_nextTo : GoodIn cp_T wsX5_nextTo := cp_good tw_320
def wsX2_payAndHalve : List Cond := .code yX2_payAndHalve cX2_payAndHalve 3 (some .int) :: cp_T
theorem gdX2_payAndHalve : GoodIn cp_T wsX2_payAndHalve := cp_good tw_323
def wsX2_mixCode : List Cond := .code yX2_mixCode cX2_mixCode 6 none :: cp_T
theorem gdX2_mixCode : GoodIn cp_T wsX2_mixCode := cp_good tw_327
def wsX4_nextNumber : List Cond := .code yX4_nextNumber cX4_nextNumber 2 (some .int) :: cp_T
theorem gdX4_nextNumber : GoodIn cp_T wsX4_nextNumber := cp_good tw_329
def wsX2_growFrom : List Cond := .code yX2_growFrom cX2_growFrom 7 none :: cp_T
theorem gdX2_growFrom : GoodIn cp_T wsX2_growFrom := cp_good tw_333
def wsX2_changeCode : List Cond := .code yX2_changeCode cX2_changeCode 3 none :: cp_T
theorem gdX2_changeCode : GoodIn cp_T wsX2_changeCode := cp_good tw_337
def wsX4_endDead : List Cond := .code yX4_endDead cX4_endDead 3 none :: cp_T
theorem gdX4_endDead : GoodIn cp_T wsX4_endDead := cp_good tw_339
def wsX4_end : List Cond := .code yX4_end cX4_end 4 none :: cp_T
theorem gdX4_end : GoodIn cp_T wsX4_end := cp_good tw_342
def wsX0_inner : List Cond := .code yX0_inner cX0_inner 6 (some .byte) :: cp_T
theorem gdX0_inner : GoodIn cp_T wsX0_inner := cp_good tw_349
def wsX0_differ : List Cond := .code yX0_differ cX0_differ 1 (some .int) :: cp_T
theorem gdX0_differ : GoodIn cp_T wsX0_differ := cp_good tw_363
def wsX4_firstOther : List Cond := .code yX4_firstOther cX4_firstOther 3 (some .int) :: cp_T
theorem gdX4_firstOther : GoodIn cp_T wsX4_firstOther := cp_good tw_365
def wsX4_hasOtherDweller : List Cond := .code yX4_hasOtherDweller cX4_hasOtherDweller 6 (some .boolean) :: cp_T
theorem gdX4_hasOtherDweller : GoodIn cp_T wsX4_hasOtherDweller := cp_good tw_368
def wsX6_init : List Cond := .code yX6_init cX6_init 4 none :: cp_T
theorem gdX6_init : GoodIn cp_T wsX6_init := cp_good tw_373
def wsX6_thrown : List Cond := .code yX6_thrown cX6_thrown 1 (some .int) :: cp_T
theorem gdX6_thrown : GoodIn cp_T wsX6_thrown := cp_good tw_390
def wsX6_set : List Cond := .code yX6_set cX6_set 3 (some .boolean) :: cp_T
theorem gdX6_set : GoodIn cp_T wsX6_set := cp_good tw_394
def wsX6_store : List Cond := .code yX6_store cX6_store 2 (some .boolean) :: cp_T
theorem gdX6_store : GoodIn cp_T wsX6_store := cp_good tw_398
def wsX6_grain : List Cond := .code yX6_grain cX6_grain 4 (some .boolean) :: cp_T
theorem gdX6_grain : GoodIn cp_T wsX6_grain := cp_good tw_403
def wsX6_cellAt : List Cond := .code yX6_cellAt cX6_cellAt 3 (some .int) :: cp_T
theorem gdX6_cellAt : GoodIn cp_T wsX6_cellAt := cp_good tw_406
def wsX6_round : List Cond := .code yX6_round cX6_round 3 (some .int) :: cp_T
theorem gdX6_round : GoodIn cp_T wsX6_round := cp_good tw_409
def wsX6_animal : List Cond := .code yX6_animal cX6_animal 6 (some .int) :: cp_T
theorem gdX6_animal : GoodIn cp_T wsX6_animal := cp_good tw_413
def wsX6_inCell : List Cond := .code yX6_inCell cX6_inCell 3 (some .int) :: cp_T
theorem gdX6_inCell : GoodIn cp_T wsX6_inCell := cp_good tw_416
def wsX6_at : List Cond := .code yX6_at cX6_at 1 (some .int) :: cp_T
theorem gdX6_at : GoodIn cp_T wsX6_at := cp_good tw_419
def wsX6_free : List Cond := .code yX6_free cX6_free 2 (some .int) :: cp_T
theorem gdX6_free : GoodIn cp_T wsX6_free := cp_good tw_422
def wsX6_lives : List Cond := .code yX6_lives cX6_lives 2 (some .boolean) :: cp_T
theorem gdX6_lives : GoodIn cp_T wsX6_lives := cp_good tw_425
def wsX6_make : List Cond := .code yX6_make cX6_make 6 none :: cp_T
theorem gdX6_make : GoodIn cp_T wsX6_make := cp_good tw_428
def wsX6_code : List Cond := .code yX6_code cX6_code 7 (some .int) :: cp_T
theorem gdX6_code : GoodIn cp_T wsX6_code := cp_good tw_432
def wsX6_tick : List Cond := .code yX6_tick cX6_tick 3 (some .int) :: cp_T
theorem gdX6_tick : GoodIn cp_T wsX6_tick := cp_good tw_436
def wsX6_pass : List Cond := .code yX6_pass cX6_pass 3 none :: cp_T
theorem gdX6_pass : GoodIn cp_T wsX6_pass := cp_good tw_439
def wsX6_shine : List Cond := .code yX6_shine cX6_shine 3 none :: cp_T
theorem gdX6_shine : GoodIn cp_T wsX6_shine := cp_good tw_442
def wsX6_live : List Cond := .code yX6_live cX6_live 5 none :: cp_T
theorem gdX6_live : GoodIn cp_T wsX6_live := cp_good tw_445
def wsX6_pay : List Cond := .code yX6_pay cX6_pay 4 none :: cp_T
theorem gdX6_pay : GoodIn cp_T wsX6_pay := cp_good tw_448
def wsX6_least : List Cond := .code yX6_least cX6_least 2 (some .int) :: cp_T
theorem gdX6_least : GoodIn cp_T wsX6_least := cp_good tw_451
def wsX6_operate : List Cond := .code yX6_operate cX6_operate 11 (some .boolean) :: cp_T
theorem gdX6_operate : GoodIn cp_T wsX6_operate := cp_good tw_454
def wsX6_codeAt : List Cond := .code yX6_codeAt cX6_codeAt 3 (some .int) :: cp_T
theorem gdX6_codeAt : GoodIn cp_T wsX6_codeAt := cp_good tw_457
def wsX6_operands : List Cond := .code yX6_operands cX6_operands 1 (some .int) :: cp_T
theorem gdX6_operands : GoodIn cp_T wsX6_operands := cp_good tw_460
def wsX6_act : List Cond := .code yX6_act cX6_act 8 none :: cp_T
theorem gdX6_act : GoodIn cp_T wsX6_act := cp_good tw_463
def wsX6_ahead : List Cond := .code yX6_ahead cX6_ahead 2 (some .int) :: cp_T
theorem gdX6_ahead : GoodIn cp_T wsX6_ahead := cp_good tw_466
def wsX6_beside : List Cond := .code yX6_beside cX6_beside 5 (some .int) :: cp_T
theorem gdX6_beside : GoodIn cp_T wsX6_beside := cp_good tw_469
def wsX6_reckon : List Cond := .code yX6_reckon cX6_reckon 8 (some .int) :: cp_T
theorem gdX6_reckon : GoodIn cp_T wsX6_reckon := cp_good tw_472
def wsX6_looks : List Cond := .code yX6_looks cX6_looks 5 (some .int) :: cp_T
theorem gdX6_looks : GoodIn cp_T wsX6_looks := cp_good tw_475
def wsX6_feels : List Cond := .code yX6_feels cX6_feels 4 (some .int) :: cp_T
theorem gdX6_feels : GoodIn cp_T wsX6_feels := cp_good tw_478
def wsX6_breed : List Cond := .code yX6_breed cX6_breed 7 none :: cp_T
theorem gdX6_breed : GoodIn cp_T wsX6_breed := cp_good tw_481
def wsX6_inherit : List Cond := .code yX6_inherit cX6_inherit 10 none :: cp_T
theorem gdX6_inherit : GoodIn cp_T wsX6_inherit := cp_good tw_484
def wsX6_next : List Cond := .code yX6_next cX6_next 2 (some .int) :: cp_T
theorem gdX6_next : GoodIn cp_T wsX6_next := cp_good tw_487
def wsX6_die : List Cond := .code yX6_die cX6_die 5 none :: cp_T
theorem gdX6_die : GoodIn cp_T wsX6_die := cp_good tw_491
def wsX6_animals : List Cond := .code yX6_animals cX6_animals 3 (some .int) :: cp_T
theorem gdX6_animals : GoodIn cp_T wsX6_animals := cp_good tw_494
def wsX6_cell : List Cond := .code yX6_cell cX6_cell 5 (some .int) :: cp_T
theorem gdX6_cell : GoodIn cp_T wsX6_cell := cp_good tw_498
def wsX6_field : List Cond := .code yX6_field cX6_field 4 (some .int) :: cp_T
theorem gdX6_field : GoodIn cp_T wsX6_field := cp_good tw_502
def wsX6_inner : List Cond := .code yX6_inner cX6_inner 4 (some .byte) :: cp_T
theorem gdX6_inner : GoodIn cp_T wsX6_inner := cp_good tw_506
def wsX6_total : List Cond := .code yX6_total cX6_total 5 (some .int) :: cp_T
theorem gdX6_total : GoodIn cp_T wsX6_total := cp_good tw_510
def wsX6_keep : List Cond := .code yX6_keep cX6_keep 2 none :: cp_T
theorem gdX6_keep : GoodIn cp_T wsX6_keep := cp_good tw_514
def wsX6_differ : List Cond := .code yX6_differ cX6_differ 5 (some .int) :: cp_T
theorem gdX6_differ : GoodIn cp_T wsX6_differ := cp_good tw_518
def wsX6_wasIn : List Cond := .code yX6_wasIn cX6_wasIn 3 (some .int) :: cp_T
theorem gdX6_wasIn : GoodIn cp_T wsX6_wasIn := cp_good tw_521
def wsX6_back : List Cond := .code yX6_back cX6_back 2 (some .boolean) :: cp_T
theorem gdX6_back : GoodIn cp_T wsX6_back := cp_good tw_525
theorem hinX0 : ∀ w ∈ u_ws "CreaturePond" TX0 6, w ∈ cp_T := fun w h => (fun (h : w ∈ ([u_lay "CreaturePond" TX0 0, u_lay "CreaturePond" TX0 1, u_lay "CreaturePond" TX0 2, u_lay "CreaturePond" TX0 3, u_lay "CreaturePond" TX0 4, u_lay "CreaturePond" TX0 5] : List Cond)) => (List.mem_cons.mp h).elim (fun e => by rw [e]; exact tw_141) (fun h => (List.mem_cons.mp h).elim (fun e => by rw [e]; exact tw_142) (fun h => (List.mem_cons.mp h).elim (fun e => by rw [e]; exact tw_143) (fun h => (List.mem_cons.mp h).elim (fun e => by rw [e]; exact tw_144) (fun h => (List.mem_cons.mp h).elim (fun e => by rw [e]; exact tw_145) (fun h => (List.mem_cons.mp h).elim (fun e => by rw [e]; exact tw_146) (fun h => absurd h List.not_mem_nil))))))) h
theorem hinX1 : ∀ w ∈ u_ws "CreaturePond$Animal" TX1 14, w ∈ cp_T := fun w h => (fun (h : w ∈ ([u_lay "CreaturePond$Animal" TX1 0, u_lay "CreaturePond$Animal" TX1 1, u_lay "CreaturePond$Animal" TX1 2, u_lay "CreaturePond$Animal" TX1 3, u_lay "CreaturePond$Animal" TX1 4, u_lay "CreaturePond$Animal" TX1 5, u_lay "CreaturePond$Animal" TX1 6, u_lay "CreaturePond$Animal" TX1 7, u_lay "CreaturePond$Animal" TX1 8, u_lay "CreaturePond$Animal" TX1 9, u_lay "CreaturePond$Animal" TX1 10, u_lay "CreaturePond$Animal" TX1 11, u_lay "CreaturePond$Animal" TX1 12, u_lay "CreaturePond$Animal" TX1 13] : List Cond)) => (List.mem_cons.mp h).elim (fun e => by rw [e]; exact tw_82) (fun h => (List.mem_cons.mp h).elim (fun e => by rw [e]; exact tw_83) (fun h => (List.mem_cons.mp h).elim (fun e => by rw [e]; exact tw_84) (fun h => (List.mem_cons.mp h).elim (fun e => by rw [e]; exact tw_85) (fun h => (List.mem_cons.mp h).elim (fun e => by rw [e]; exact tw_86) (fun h => (List.mem_cons.mp h).elim (fun e => by rw [e]; exact tw_87) (fun h => (List.mem_cons.mp h).elim (fun e => by rw [e]; exact tw_88) (fun h => (List.mem_cons.mp h).elim (fun e => by rw [e]; exact tw_89) (fun h => (List.mem_cons.mp h).elim (fun e => by rw [e]; exact tw_90) (fun h => (List.mem_cons.mp h).elim (fun e => by rw [e]; exact tw_91) (fun h => (List.mem_cons.mp h).elim (fun e => by rw [e]; exact tw_92) (fun h => (List.mem_cons.mp h).elim (fun e => by rw [e]; exact tw_93) (fun h => (List.mem_cons.mp h).elim (fun e => by rw [e]; exact tw_94) (fun h => (List.mem_cons.mp h).elim (fun e => by rw [e]; exact tw_95) (fun h => absurd h List.not_mem_nil))))))))))))))) h
theorem hinX2 : ∀ w ∈ u_ws "CreaturePond$Breeding" TX2 1, w ∈ cp_T := fun w h => (fun (h : w ∈ ([u_lay "CreaturePond$Breeding" TX2 0] : List Cond)) => (List.mem_cons.mp h).elim (fun e => by rw [e]; exact tw_134) (fun h => absurd h List.not_mem_nil)) h
theorem hinX3 : ∀ w ∈ u_ws "CreaturePond$Mind" TX3 1, w ∈ cp_T := fun w h => (fun (h : w ∈ ([u_lay "CreaturePond$Mind" TX3 0] : List Cond)) => (List.mem_cons.mp h).elim (fun e => by rw [e]; exact tw_127) (fun h => absurd h List.not_mem_nil)) h
theorem hinX4 : ∀ w ∈ u_ws "CreaturePond$Pond" TX4 12, w ∈ cp_T := fun w h => (fun (h : w ∈ ([u_lay "CreaturePond$Pond" TX4 0, u_lay "CreaturePond$Pond" TX4 1, u_lay "CreaturePond$Pond" TX4 2, u_lay "CreaturePond$Pond" TX4 3, u_lay "CreaturePond$Pond" TX4 4, u_lay "CreaturePond$Pond" TX4 5, u_lay "CreaturePond$Pond" TX4 6, u_lay "CreaturePond$Pond" TX4 7, u_lay "CreaturePond$Pond" TX4 8, u_lay "CreaturePond$Pond" TX4 9, u_lay "CreaturePond$Pond" TX4 10, u_lay "CreaturePond$Pond" TX4 11] : List Cond)) => (List.mem_cons.mp h).elim (fun e => by rw [e]; exact tw_109) (fun h => (List.mem_cons.mp h).elim (fun e => by rw [e]; exact tw_110) (fun h => (List.mem_cons.mp h).elim (fun e => by rw [e]; exact tw_111) (fun h => (List.mem_cons.mp h).elim (fun e => by rw [e]; exact tw_112) (fun h => (List.mem_cons.mp h).elim (fun e => by rw [e]; exact tw_113) (fun h => (List.mem_cons.mp h).elim (fun e => by rw [e]; exact tw_114) (fun h => (List.mem_cons.mp h).elim (fun e => by rw [e]; exact tw_115) (fun h => (List.mem_cons.mp h).elim (fun e => by rw [e]; exact tw_116) (fun h => (List.mem_cons.mp h).elim (fun e => by rw [e]; exact tw_117) (fun h => (List.mem_cons.mp h).elim (fun e => by rw [e]; exact tw_118) (fun h => (List.mem_cons.mp h).elim (fun e => by rw [e]; exact tw_119) (fun h => (List.mem_cons.mp h).elim (fun e => by rw [e]; exact tw_120) (fun h => absurd h List.not_mem_nil))))))))))))) h
theorem hinX5 : ∀ w ∈ u_ws "CreaturePond$Shape" TX5 4, w ∈ cp_T := fun w h => (fun (h : w ∈ ([u_lay "CreaturePond$Shape" TX5 0, u_lay "CreaturePond$Shape" TX5 1, u_lay "CreaturePond$Shape" TX5 2, u_lay "CreaturePond$Shape" TX5 3] : List Cond)) => (List.mem_cons.mp h).elim (fun e => by rw [e]; exact tw_53) (fun h => (List.mem_cons.mp h).elim (fun e => by rw [e]; exact tw_54) (fun h => (List.mem_cons.mp h).elim (fun e => by rw [e]; exact tw_55) (fun h => (List.mem_cons.mp h).elim (fun e => by rw [e]; exact tw_56) (fun h => absurd h List.not_mem_nil))))) h
theorem hinX6 : ∀ w ∈ u_ws "CreaturePondModel" TX6 6, w ∈ cp_T := fun w h => (fun (h : w ∈ ([u_lay "CreaturePondModel" TX6 0, u_lay "CreaturePondModel" TX6 1, u_lay "CreaturePondModel" TX6 2, u_lay "CreaturePondModel" TX6 3, u_lay "CreaturePondModel" TX6 4, u_lay "CreaturePondModel" TX6 5] : List Cond)) => (List.mem_cons.mp h).elim (fun e => by rw [e]; exact tw_381) (fun h => (List.mem_cons.mp h).elim (fun e => by rw [e]; exact tw_382) (fun h => (List.mem_cons.mp h).elim (fun e => by rw [e]; exact tw_383) (fun h => (List.mem_cons.mp h).elim (fun e => by rw [e]; exact tw_384) (fun h => (List.mem_cons.mp h).elim (fun e => by rw [e]; exact tw_385) (fun h => (List.mem_cons.mp h).elim (fun e => by rw [e]; exact tw_386) (fun h => absurd h List.not_mem_nil))))))) h
def cp_nw : List Cond := [Cond.methodLinkNest "CreaturePond" 20 yX5_init "CreaturePond", Cond.fieldLinkNest "CreaturePond$Pond" 21 "CreaturePond$Shape" "cells" "I" "CreaturePond", Cond.fieldLinkNest "CreaturePond$Pond" 70 "CreaturePond$Shape" "neighbours" "[I" "CreaturePond", Cond.methodLinkNest "CreaturePond" 29 yX4_init "CreaturePond", Cond.methodLinkNest "CreaturePond$Pond" 38 yX1_init "CreaturePond", Cond.fieldLinkNest "CreaturePond$Mind" 79 "CreaturePond$Animal" "registers" "[B" "CreaturePond", Cond.fieldLinkNest "CreaturePond" 141 "CreaturePond$Animal" "registers" "[B" "CreaturePond", Cond.fieldLinkNest "CreaturePond$Mind" 71 "CreaturePond$Animal" "memory" "[B" "CreaturePond", Cond.fieldLinkNest "CreaturePond" 167 "CreaturePond$Animal" "memory" "[B" "CreaturePond", Cond.fieldLinkNest "CreaturePond$Breeding" 122 "CreaturePond$Animal" "genes" "[B" "CreaturePond", Cond.fieldLinkNest "CreaturePond" 164 "CreaturePond$Animal" "genes" "[B" "CreaturePond", Cond.fieldLinkNest "CreaturePond$Mind" 21 "CreaturePond$Animal" "lives" "Z" "CreaturePond", Cond.fieldLinkNest "CreaturePond$Breeding" 29 "CreaturePond$Animal" "lives" "Z" "CreaturePond", Cond.fieldLinkNest "CreaturePond$Pond" 79 "CreaturePond$Animal" "lives" "Z" "CreaturePond", Cond.fieldLinkNest "CreaturePond$Mind" 31 "CreaturePond$Animal" "asked" "Z" "CreaturePond", Cond.fieldLinkNest "CreaturePond$Breeding" 35 "CreaturePond$Animal" "asked" "Z" "CreaturePond", Cond.fieldLinkNest "CreaturePond$Pond" 73 "CreaturePond$Animal" "home" "I" "CreaturePond", Cond.fieldLinkNest "CreaturePond$Breeding" 46 "CreaturePond$Animal" "home" "I" "CreaturePond", Cond.fieldLinkNest "CreaturePond$Mind" 119 "CreaturePond$Animal" "home" "I" "CreaturePond", Cond.fieldLinkNest "CreaturePond" 144 "CreaturePond$Animal" "home" "I" "CreaturePond", Cond.fieldLinkNest "CreaturePond$Pond" 76 "CreaturePond$Animal" "heading" "I" "CreaturePond", Cond.fieldLinkNest "CreaturePond$Breeding" 60 "CreaturePond$Animal" "heading" "I" "CreaturePond", Cond.fieldLinkNest "CreaturePond$Mind" 110 "CreaturePond$Animal" "heading" "I" "CreaturePond", Cond.fieldLinkNest "CreaturePond$Mind" 42 "CreaturePond$Animal" "energy" "I" "CreaturePond", Cond.fieldLinkNest "CreaturePond$Breeding" 57 "CreaturePond$Animal" "energy" "I" "CreaturePond", Cond.fieldLinkNest "CreaturePond$Pond" 83 "CreaturePond$Animal" "energy" "I" "CreaturePond", Cond.fieldLinkNest "CreaturePond$Mind" 34 "CreaturePond$Animal" "age" "I" "CreaturePond", Cond.fieldLinkNest "CreaturePond$Pond" 97 "CreaturePond$Animal" "age" "I" "CreaturePond", Cond.fieldLinkNest "CreaturePond$Mind" 45 "CreaturePond$Animal" "length" "I" "CreaturePond", Cond.fieldLinkNest "CreaturePond" 106 "CreaturePond$Animal" "length" "I" "CreaturePond", Cond.fieldLinkNest "CreaturePond$Breeding" 112 "CreaturePond$Animal" "length" "I" "CreaturePond", Cond.fieldLinkNest "CreaturePond$Mind" 56 "CreaturePond$Animal" "place" "I" "CreaturePond", Cond.fieldLinkNest "CreaturePond$Breeding" 70 "CreaturePond$Animal" "firstParent" "I" "CreaturePond", Cond.fieldLinkNest "CreaturePond$Breeding" 73 "CreaturePond$Animal" "secondParent" "I" "CreaturePond", Cond.fieldLinkNest "CreaturePond$Breeding" 76 "CreaturePond$Animal" "generation" "I" "CreaturePond", Cond.fieldLinkNest "CreaturePond$Breeding" 96 "CreaturePond$Pond" "shape" "LCreaturePond$Shape;" "CreaturePond", Cond.fieldLinkNest "CreaturePond" 66 "CreaturePond$Pond" "grains" "[I" "CreaturePond", Cond.fieldLinkNest "CreaturePond$Mind" 104 "CreaturePond$Pond" "grains" "[I" "CreaturePond", Cond.fieldLinkNest "CreaturePond" 137 "CreaturePond$Pond" "marks" "[B" "CreaturePond", Cond.fieldLinkNest "CreaturePond$Mind" 107 "CreaturePond$Pond" "marks" "[B" "CreaturePond", Cond.fieldLinkNest "CreaturePond$Breeding" 38 "CreaturePond$Pond" "dwellers" "[I" "CreaturePond", Cond.fieldLinkNest "CreaturePond" 84 "CreaturePond$Pond" "dwellers" "[I" "CreaturePond", Cond.fieldLinkNest "CreaturePond$Mind" 101 "CreaturePond$Pond" "dwellers" "[I" "CreaturePond", Cond.fieldLinkNest "CreaturePond$Mind" 15 "CreaturePond$Pond" "animals" "[LCreaturePond$Animal;" "CreaturePond", Cond.fieldLinkNest "CreaturePond$Breeding" 23 "CreaturePond$Pond" "animals" "[LCreaturePond$Animal;" "CreaturePond", Cond.fieldLinkNest "CreaturePond" 102 "CreaturePond$Pond" "animals" "[LCreaturePond$Animal;" "CreaturePond", Cond.fieldLinkNest "CreaturePond" 62 "CreaturePond$Pond" "stored" "I" "CreaturePond", Cond.fieldLinkNest "CreaturePond" 55 "CreaturePond$Pond" "sun" "I" "CreaturePond", Cond.fieldLinkNest "CreaturePond" 59 "CreaturePond$Pond" "stream" "I" "CreaturePond", Cond.fieldLinkNest "CreaturePond" 182 "CreaturePond$Pond" "turn" "I" "CreaturePond", Cond.fieldLinkNest "CreaturePond$Breeding" 93 "CreaturePond$Pond" "births" "I" "CreaturePond", Cond.fieldLinkNest "CreaturePond" 176 "CreaturePond$Pond" "births" "I" "CreaturePond", Cond.fieldLinkNest "CreaturePond" 179 "CreaturePond$Pond" "deaths" "I" "CreaturePond", Cond.fieldLinkNest "CreaturePond" 131 "CreaturePond$Pond" "ticks" "I" "CreaturePond", Cond.methodLinkNest "CreaturePond" 41 yX3_init "CreaturePond", Cond.methodLinkNest "CreaturePond" 50 yX2_init "CreaturePond", Cond.methodLinkNest "CreaturePond" 70 yX5_cellAt "CreaturePond", Cond.methodLinkNest "CreaturePond" 96 yX4_has "CreaturePond", Cond.methodLinkNest "CreaturePond" 147 yX5_columnOf "CreaturePond", Cond.methodLinkNest "CreaturePond" 151 yX5_rowOf "CreaturePond", Cond.methodLinkNest "CreaturePond" 154 yX1_trait "CreaturePond", Cond.methodLinkNest "CreaturePond" 170 yX4_energyOfAll "CreaturePond", Cond.methodLinkNest "CreaturePond" 173 yX4_grainOfAll "CreaturePond", Cond.methodLinkNest "CreaturePond" 134 yX4_countAnimals "CreaturePond", Cond.methodLinkNest "CreaturePond" 185 yX4_copyFrom "CreaturePond", Cond.methodLinkNest "CreaturePond$Pond" 45 yX1_copyFrom "CreaturePond", Cond.methodLinkNest "CreaturePond" 80 yX4_freeNumber "CreaturePond", Cond.methodLinkNest "CreaturePond" 92 yX4_settle "CreaturePond", Cond.methodLinkNest "CreaturePond$Pond" 86 yX1_begin "CreaturePond", Cond.methodLinkNest "CreaturePond" 113 yX1_grow "CreaturePond", Cond.methodLinkNest "CreaturePond" 119 yX4_shine "CreaturePond", Cond.methodLinkNest "CreaturePond" 122 yX3_moveAll "CreaturePond", Cond.methodLinkNest "CreaturePond$Mind" 38 yX4_pay "CreaturePond", Cond.methodLinkNest "CreaturePond$Mind" 52 yX1_geneBehindPlace "CreaturePond", Cond.methodLinkNest "CreaturePond$Mind" 63 yX1_wrapped "CreaturePond", Cond.methodLinkNest "CreaturePond$Mind" 97 yX4_aheadOf "CreaturePond", Cond.methodLinkNest "CreaturePond" 125 yX2_breedAll "CreaturePond", Cond.methodLinkNest "CreaturePond$Breeding" 42 yX4_aheadOf "CreaturePond", Cond.methodLinkNest "CreaturePond$Breeding" 100 yX5_nextTo "CreaturePond", Cond.methodLinkNest "CreaturePond$Breeding" 53 yX4_freeNumber "CreaturePond", Cond.methodLinkNest "CreaturePond$Breeding" 105 yX4_pay "CreaturePond", Cond.methodLinkNest "CreaturePond$Breeding" 66 yX4_settle "CreaturePond", Cond.methodLinkNest "CreaturePond$Breeding" 109 yX4_nextNumber "CreaturePond", Cond.methodLinkNest "CreaturePond$Breeding" 126 yX1_grow "CreaturePond", Cond.methodLinkNest "CreaturePond$Breeding" 130 yX1_wrapped "CreaturePond", Cond.methodLinkNest "CreaturePond" 128 yX4_endDead "CreaturePond", Cond.methodLinkNest "CreaturePond" 194 yX4_firstOther "CreaturePond"]
end
section
/-! The world of the claim in one layout: places 0 .. N - 1, each an object or an array; 'ad' their addresses, 'sh' their shapes (an array: kind, length, places its references name; an object: number of its class, its fields: none an int, some none a null, some (some t) a reference to place t), 'ca' the array classes by kind (0 int, 1 byte, 2 Animal, 3 long). The ints of the world are ONE function of place and index, D. -/
abbrev cp_Sh : Type := (Nat × Nat × (Nat → Option Nat)) ⊕ (Nat × List (Option (Option Nat)))
abbrev cp_Lay : Type := Nat × (Nat → Nat) × (Nat → cp_Sh) × (Nat → ClassId)
abbrev cp_Dt : Type := Nat → Nat → Int32
def cp_fv (ad : Nat → Nat) (g : Nat → Int32) (j : Nat) (o : Option (Option Nat)) : Value := match o with
  | none => .int (g j)
  | some r => va_rf (r.map ad)
def cp_ac (ad : Nat → Nat) (g : Nat → Int32) (t n : Nat) (tg : Nat → Option Nat) : vp_A := (n, if t = 2 then .inr (.inr (.inr (.inr (fun i => (tg i).map ad)))) else if t = 3 then .inr (.inl (fun i => (g i).toInt64)) else .inl g)
def cp_ce (L : cp_Lay) (D : cp_Dt) (k : Nat) : va_E := match L.2.2.1 k with
  | .inl a => .inl (L.2.2.2 a.1, cp_ac L.2.1 (D k) a.1 a.2.1 a.2.2)
  | .inr o => .inr (o.1, o.2.mapIdx (cp_fv L.2.1 (D k)))
def cp_ws (L : cp_Lay) (D : cp_Dt) : va_W := (List.range L.1).map (fun k => (L.2.1 k, cp_ce L D k))
def cp_up (D : cp_Dt) (k j : Nat) (v : Int32) : cp_Dt := fun k' => if k' = k then upd (D k) j v else D k'
def cp_upA (D : cp_Dt) (k : Nat) (f : Nat → Int32) : cp_Dt := fun k' => if k' = k then f else D k'
theorem cp_bind {α β : Type} {x : Option α} {f : α → Option β} {r : β} (h : x.bind f = some r) : ∃ v, x = some v ∧ f v = some r := by
  cases x with
  | none => cases h
  | some v => exact ⟨v, rfl, h⟩
theorem cp_ws_get {L : cp_Lay} {D : cp_Dt} {k : Nat} (h : k < L.1) : (cp_ws L D)[k]? = some (L.2.1 k, cp_ce L D k) := by
  simp [cp_ws, h]
theorem cp_ws_inv {L : cp_Lay} {D : cp_Dt} {k : Nat} {q : Nat × va_E} (h : (cp_ws L D)[k]? = some q) : k < L.1 ∧ q = (L.2.1 k, cp_ce L D k) := by
  by_cases hk : k < L.1
  · rw [cp_ws_get hk] at h
    exact ⟨hk, (Option.some.inj h).symm⟩
  · rw [List.getElem?_eq_none (by simp [cp_ws]; omega)] at h
    cases h
theorem cp_ws_set {L : cp_Lay} {D D' : cp_Dt} {k : Nat} {e : va_E} (he : cp_ce L D' k = e) (ho : ∀ j, j ≠ k → D' j = D j) : (cp_ws L D).set k (L.2.1 k, e) = cp_ws L D' := by
  apply List.ext_getElem?
  intro i
  by_cases hi : i < L.1
  · rw [cp_ws_get hi]
    by_cases hk : i = k
    · subst hk
      rw [List.getElem?_set_self (by simp [cp_ws]; exact hi), he]
    · rw [List.getElem?_set_ne (fun h => hk h.symm), cp_ws_get hi]
      unfold cp_ce
      rw [ho i hk]
  · rw [List.getElem?_eq_none (by simp [cp_ws]; omega), List.getElem?_eq_none (by simp [cp_ws]; omega)]
theorem cp_up_ne {D : cp_Dt} {k j i : Nat} {v : Int32} (h : j ≠ k) : cp_up D k i v j = D j := if_neg h
theorem cp_up_eq {D : cp_Dt} {k i : Nat} {v : Int32} : cp_up D k i v k = upd (D k) i v := if_pos rfl
theorem cp_upA_ne {D : cp_Dt} {k j : Nat} {f : Nat → Int32} (h : j ≠ k) : cp_upA D k f j = D j := if_neg h
theorem cp_upA_eq {D : cp_Dt} {k : Nat} {f : Nat → Int32} : cp_upA D k f k = f := if_pos rfl
/-- what a read or a write asks of the layout, as functions that answer none where it isn't so -/
def cp_fl (L : cp_Lay) (k ci : Nat) : Option (List (Option (Option Nat))) := if k < L.1 then (match L.2.2.1 k with
  | .inr o => if o.1 = ci then some o.2 else none
  | .inl _ => none) else none
def cp_ar (L : cp_Lay) (k t : Nat) : Option (Nat × (Nat → Option Nat)) := if k < L.1 then (match L.2.2.1 k with
  | .inl a => if a.1 = t then some a.2 else none
  | .inr _ => none) else none
def cp_gI (L : cp_Lay) (D : cp_Dt) (k ci j : Nat) : Option Int32 := (cp_fl L k ci).bind fun fl => if fl[j]? = some none then some (D k j) else none
def cp_gR (L : cp_Lay) (k ci j : Nat) : Option Nat := (cp_fl L k ci).bind fun fl => ((fl[j]?).bind id).bind id
def cp_pI (L : cp_Lay) (D : cp_Dt) (k ci j : Nat) (v : Int32) : Option cp_Dt := (cp_fl L k ci).bind fun fl => if fl[j]? = some none then some (cp_up D k j v) else none
def cp_pZ (L : cp_Lay) (D : cp_Dt) (k ci j : Nat) (v : Int32) : Option cp_Dt := if v = 0 ∨ v = 1 then cp_pI L D k ci j v else none
def cp_aI (L : cp_Lay) (D : cp_Dt) (t k : Nat) (i : Int32) : Option Int32 := (cp_ar L k t).bind fun a => if i < 0 ∨ a.1 ≤ i.toNatClampNeg then none else some (D k i.toNatClampNeg)
def cp_aS (L : cp_Lay) (D : cp_Dt) (t k : Nat) (i x : Int32) : Option cp_Dt := (cp_ar L k t).bind fun a => if i < 0 ∨ a.1 ≤ i.toNatClampNeg then none else some (cp_up D k i.toNatClampNeg x)
def cp_aR (L : cp_Lay) (k : Nat) (i : Int32) : Option Nat := (cp_ar L k 2).bind fun a => if i < 0 ∨ a.1 ≤ i.toNatClampNeg then none else a.2 i.toNatClampNeg
def cp_aL (L : cp_Lay) (t k : Nat) : Option Int32 := (cp_ar L k t).bind fun a => some (Int32.ofNat a.1)
def cp_tb (N : Nat) (f : Nat → Int32) (i : Int32) : Option Int32 := if i < 0 ∨ N ≤ i.toNatClampNeg then none else some (f i.toNatClampNeg)
def cp_nz (y : Int32) : Option Unit := if y = 0 then none else some ()
def cp_g01 (v : Int32) : Option Unit := if v = 0 ∨ v = 1 then some () else none
def cp_gby (v : Int32) : Option Unit := if v.toInt8.toInt32 = v then some () else none
def cp_mn (x y : Int32) : Int32 := if y < x then y else x
def cp_mx (x y : Int32) : Int32 := if x < y then y else x
/-- arraycopy of ints or bytes between two arrays of kind t -/
def cp_cp (L : cp_Lay) (D : cp_Dt) (t k0 : Nat) (sp : Int32) (k1 : Nat) (dp n : Int32) : Option cp_Dt := (cp_ar L k0 t).bind fun a => (cp_ar L k1 t).bind fun b =>
  if sp < 0 ∨ dp < 0 ∨ n < 0 ∨ a.1 < sp.toNatClampNeg + n.toNatClampNeg ∨ b.1 < dp.toNatClampNeg + n.toNatClampNeg then none
  else if t = 1 ∧ (List.range n.toNatClampNeg).all (fun i => fits .byte (.int (D k0 (sp.toNatClampNeg + i)))) = false then none
  else some (cp_upA D k1 (va_cpy (D k0) (D k1) sp.toNatClampNeg dp.toNatClampNeg n.toNatClampNeg))
theorem cp_nz_ne {y : Int32} {u : Unit} (h : cp_nz y = some u) : ¬ y = 0 := by
  intro hy
  rw [cp_nz, if_pos hy] at h
  cases h
theorem cp_fl_spec {L : cp_Lay} {k ci : Nat} {fl : List (Option (Option Nat))} (h : cp_fl L k ci = some fl) : k < L.1 ∧ L.2.2.1 k = .inr (ci, fl) := by
  unfold cp_fl at h
  by_cases hk : k < L.1
  · rw [if_pos hk] at h
    refine ⟨hk, ?_⟩
    cases hs : L.2.2.1 k with
    | inl a => rw [hs] at h; cases h
    | inr o =>
      rw [hs] at h
      obtain ⟨c, f⟩ := o
      dsimp only at h
      by_cases hc : c = ci
      · rw [if_pos hc] at h
        cases h
        rw [hc]
      · rw [if_neg hc] at h
        cases h
  · rw [if_neg hk] at h
    cases h
theorem cp_ar_spec {L : cp_Lay} {k t : Nat} {a : Nat × (Nat → Option Nat)} (h : cp_ar L k t = some a) : k < L.1 ∧ L.2.2.1 k = .inl (t, a) := by
  unfold cp_ar at h
  by_cases hk : k < L.1
  · rw [if_pos hk] at h
    refine ⟨hk, ?_⟩
    cases hs : L.2.2.1 k with
    | inr o => rw [hs] at h; cases h
    | inl o =>
      rw [hs] at h
      obtain ⟨c, f⟩ := o
      dsimp only at h
      by_cases hc : c = t
      · rw [if_pos hc] at h
        cases h
        rw [hc]
      · rw [if_neg hc] at h
        cases h
  · rw [if_neg hk] at h
    cases h
theorem cp_fl_cell {L : cp_Lay} {D : cp_Dt} {k ci : Nat} {fl : List (Option (Option Nat))} (h : cp_fl L k ci = some fl) : (cp_ws L D)[k]? = some (L.2.1 k, .inr (ci, fl.mapIdx (cp_fv L.2.1 (D k)))) := by
  obtain ⟨hk, hs⟩ := cp_fl_spec h
  rw [cp_ws_get hk]
  unfold cp_ce
  rw [hs]
theorem cp_ar_cell {L : cp_Lay} {D : cp_Dt} {k t : Nat} {a : Nat × (Nat → Option Nat)} (h : cp_ar L k t = some a) : (cp_ws L D)[k]? = some (L.2.1 k, .inl (L.2.2.2 t, cp_ac L.2.1 (D k) t a.1 a.2)) := by
  obtain ⟨hk, hs⟩ := cp_ar_spec h
  rw [cp_ws_get hk]
  unfold cp_ce
  rw [hs]
theorem cp_gI_spec {L : cp_Lay} {D : cp_Dt} {k ci j : Nat} {v : Int32} (h : cp_gI L D k ci j = some v) : ∃ fl, cp_fl L k ci = some fl ∧ (fl.mapIdx (cp_fv L.2.1 (D k)))[j]? = some (.int v) := by
  obtain ⟨fl, h1, h2⟩ := cp_bind h
  refine ⟨fl, h1, ?_⟩
  by_cases hj : fl[j]? = some none
  · rw [if_pos hj] at h2
    cases h2
    rw [List.getElem?_mapIdx, hj]
    rfl
  · rw [if_neg hj] at h2
    cases h2
theorem cp_gR_spec {L : cp_Lay} {D : cp_Dt} {k ci j t : Nat} (h : cp_gR L k ci j = some t) : ∃ fl, cp_fl L k ci = some fl ∧ (fl.mapIdx (cp_fv L.2.1 (D k)))[j]? = some (.ref (L.2.1 t)) := by
  obtain ⟨fl, h1, h2⟩ := cp_bind h
  refine ⟨fl, h1, ?_⟩
  obtain ⟨o, h3, h4⟩ := cp_bind h2
  obtain ⟨o1, h5, h6⟩ := cp_bind h3
  rw [List.getElem?_mapIdx, h5]
  cases h6
  cases h4
  rfl
theorem cp_pI_spec {L : cp_Lay} {D D' : cp_Dt} {k ci j : Nat} {v : Int32} (h : cp_pI L D k ci j v = some D') : ∃ fl, cp_fl L k ci = some fl ∧ j < (fl.mapIdx (cp_fv L.2.1 (D k))).length ∧ (cp_ws L D).set k (L.2.1 k, .inr (ci, (fl.mapIdx (cp_fv L.2.1 (D k))).set j (.int v))) = cp_ws L D' := by
  obtain ⟨fl, h1, h2⟩ := cp_bind h
  by_cases hj : fl[j]? = some none
  · rw [if_pos hj] at h2
    cases h2
    have hl : j < fl.length := (List.getElem?_eq_some_iff.mp hj).1
    refine ⟨fl, h1, by simpa using hl, cp_ws_set ?_ (fun i hi => cp_up_ne hi)⟩
    obtain ⟨hk, hs⟩ := cp_fl_spec h1
    unfold cp_ce
    rw [hs]
    dsimp only
    congr 2
    apply List.ext_getElem?
    intro i
    rw [List.getElem?_mapIdx, cp_up_eq]
    by_cases hi : i = j
    · subst hi
      rw [hj, List.getElem?_set_self (by simpa using hl)]
      simp [cp_fv, upd]
    · rw [List.getElem?_set_ne (fun q => hi q.symm), List.getElem?_mapIdx]
      congr 1
      funext o
      cases o with
      | none => simp [cp_fv, upd, hi]
      | some t => rfl
  · rw [if_neg hj] at h2
    cases h2
end
section
/-! The kit's rows, said of the one layout -/
def cp_A (L : cp_Lay) : Nat → Prop := fun q => ∃ k, k < L.1 ∧ L.2.1 k = q
def cp_J (L : cp_Lay) : Prop := ∀ i j, i < L.1 → j < L.1 → L.2.1 i = L.2.1 j → i = j
def cp_tys (L : cp_Lay) : List (ClassId × FieldType) := [(L.2.2.2 0, .int), (L.2.2.2 1, .byte), (L.2.2.2 2, .object "CreaturePond$Animal"), (L.2.2.2 3, .long)]
theorem cp_D {L : cp_Lay} (hJ : cp_J L) (D : cp_Dt) : va_D (cp_A L) (cp_ws L D) := by
  refine ⟨fun i j x y hi hj hxy => ?_, fun k q hk => ?_⟩
  · obtain ⟨i1, rfl⟩ := cp_ws_inv hi
    obtain ⟨j1, rfl⟩ := cp_ws_inv hj
    exact hJ i j i1 j1 hxy
  · obtain ⟨k1, rfl⟩ := cp_ws_inv hk
    exact ⟨k, k1, rfl⟩
section CPR
variable {p : Program} {l : Launch} {e : Env} {R : Room} {s : State} {m : MethodId} {args : Array Value} {below : List Frame} {meth : Method} {c : Code} {H : Heap} {locs : List Loc} {cells slots : Nat} {Q : State → Prop}
variable {cc : ByteArray} {pc : Nat} {ls : Array Slot} {rest : List Value} {G : va_G} {cl : List vw_C} {tys : List (ClassId × FieldType)} {H0 : Heap} {L : cp_Lay} {D : cp_Dt}
theorem cp_getI (hx : p.tables.exec = Jvm.exec) (hb : c.code = cc) {own ref C : String} {T : u_T} {N ci index k j : Nat} {Ts : List Cond} (hts : ∀ w ∈ Ts, w.before args s = true) (hin : ∀ w ∈ u_ws C T N, w ∈ Ts) (hown : s.vm.findClass own = some m.cls) (hK : va_K G cl tys s) (hP : va_P G cl (cp_ws L D) H) (hc : cl[ci]? = some (C, T, N)) (hj : j < N) (href : (T j).1 = ref) (hlink : (Cond.fieldLink own index ref (T j).2.1 (T j).2.2.1).before args s = true) {v : Int32} (hv : cp_gI L D k ci j = some v) (hdg : decode cc pc = .ok (.getfield index, 3))
    (kk : W p l e R s m args below meth c H locs cells slots Q (F0 m (pc + 3) ls (.int v :: rest))) : W p l e R s m args below meth c H locs cells slots Q (F0 m pc ls (.ref (L.2.1 k) :: rest)) := by
  obtain ⟨fl, h1, h2⟩ := cp_gI_spec hv
  exact va_get hx hb hts hin hown hK hP k (cp_fl_cell h1) hc j hj hlink (fun x h => by rw [← href]; exact h) h2 hdg kk
theorem cp_getIN (hx : p.tables.exec = Jvm.exec) (hb : c.code = cc) {own ref C host : String} {T : u_T} {N ci index k j : Nat} {Ts : List Cond} (hts : ∀ w ∈ Ts, w.before args s = true) (hin : ∀ w ∈ u_ws C T N, w ∈ Ts) (hown : s.vm.findClass own = some m.cls) (hK : va_K G cl tys s) (hP : va_P G cl (cp_ws L D) H) (hc : cl[ci]? = some (C, T, N)) (hj : j < N) (href : (T j).1 = ref) (hlink : va_Nw (.fieldLinkNest own index ref (T j).2.1 (T j).2.2.1 host) s) {v : Int32} (hv : cp_gI L D k ci j = some v) (hdg : decode cc pc = .ok (.getfield index, 3))
    (kk : W p l e R s m args below meth c H locs cells slots Q (F0 m (pc + 3) ls (.int v :: rest))) : W p l e R s m args below meth c H locs cells slots Q (F0 m pc ls (.ref (L.2.1 k) :: rest)) := by
  obtain ⟨fl, h1, h2⟩ := cp_gI_spec hv
  exact va_getN hx hb hts hin hown hK hP k (cp_fl_cell h1) hc j hj (va_Nw.use rfl hlink) (fun x h => by rw [← href]; exact h) h2 hdg kk
theorem cp_getR (hx : p.tables.exec = Jvm.exec) (hb : c.code = cc) {own ref C : String} {T : u_T} {N ci index k j : Nat} {Ts : List Cond} (hts : ∀ w ∈ Ts, w.before args s = true) (hin : ∀ w ∈ u_ws C T N, w ∈ Ts) (hown : s.vm.findClass own = some m.cls) (hK : va_K G cl tys s) (hP : va_P G cl (cp_ws L D) H) (hc : cl[ci]? = some (C, T, N)) (hj : j < N) (href : (T j).1 = ref) (hlink : (Cond.fieldLink own index ref (T j).2.1 (T j).2.2.1).before args s = true) {v : Nat} (hv : cp_gR L k ci j = some v) (hdg : decode cc pc = .ok (.getfield index, 3))
    (kk : W p l e R s m args below meth c H locs cells slots Q (F0 m (pc + 3) ls (.ref (L.2.1 v) :: rest))) : W p l e R s m args below meth c H locs cells slots Q (F0 m pc ls (.ref (L.2.1 k) :: rest)) := by
  obtain ⟨fl, h1, h2⟩ := cp_gR_spec (D := D) hv
  exact va_get hx hb hts hin hown hK hP k (cp_fl_cell h1) hc j hj hlink (fun x h => by rw [← href]; exact h) h2 hdg kk
theorem cp_getRN (hx : p.tables.exec = Jvm.exec) (hb : c.code = cc) {own ref C host : String} {T : u_T} {N ci index k j : Nat} {Ts : List Cond} (hts : ∀ w ∈ Ts, w.before args s = true) (hin : ∀ w ∈ u_ws C T N, w ∈ Ts) (hown : s.vm.findClass own = some m.cls) (hK : va_K G cl tys s) (hP : va_P G cl (cp_ws L D) H) (hc : cl[ci]? = some (C, T, N)) (hj : j < N) (href : (T j).1 = ref) (hlink : va_Nw (.fieldLinkNest own index ref (T j).2.1 (T j).2.2.1 host) s) {v : Nat} (hv : cp_gR L k ci j = some v) (hdg : decode cc pc = .ok (.getfield index, 3))
    (kk : W p l e R s m args below meth c H locs cells slots Q (F0 m (pc + 3) ls (.ref (L.2.1 v) :: rest))) : W p l e R s m args below meth c H locs cells slots Q (F0 m pc ls (.ref (L.2.1 k) :: rest)) := by
  obtain ⟨fl, h1, h2⟩ := cp_gR_spec (D := D) hv
  exact va_getN hx hb hts hin hown hK hP k (cp_fl_cell h1) hc j hj (va_Nw.use rfl hlink) (fun x h => by rw [← href]; exact h) h2 hdg kk
theorem cp_put (hx : p.tables.exec = Jvm.exec) (hb : c.code = cc) {own ref C : String} {T : u_T} {N ci index k j : Nat} {Ts : List Cond} (hts : ∀ w ∈ Ts, w.before args s = true) (hin : ∀ w ∈ u_ws C T N, w ∈ Ts) (ty0 : Nat → FieldType) (hty : ∀ k, k < N → parseFieldDescriptor (T k).2.2.1 = some (ty0 k)) (hnm : ∀ a, a < N → ∀ b, b < N → a ≠ b → (T a).2.1 ≠ (T b).2.1) (hown : s.vm.findClass own = some m.cls) (hK : va_K G cl tys s) (hJ : cp_J L) (hP : va_P G cl (cp_ws L D) H) (hS : va_S (cp_A L) H0 H locs) (hc : cl[ci]? = some (C, T, N)) (hj : j < N) (href : (T j).1 = ref) (hlink : (Cond.fieldLink own index ref (T j).2.1 (T j).2.2.1).before args s = true) (hfin : (T j).2.2.2 = false) {v : Int32} (hn : narrow (ty0 j) (.int v) = .int v) (hfit : fits (ty0 j) (.int v) = true) {D' : cp_Dt} (hv : cp_pI L D k ci j v = some D') (hdg : decode cc pc = .ok (.putfield index, 3))
    (kk : ∀ (H1 : Heap) (locs1 : List Loc), va_P G cl (cp_ws L D') H1 → va_S (cp_A L) H0 H1 locs1 → W p l e R s m args below meth c H1 locs1 cells slots Q (F0 m (pc + 3) ls rest)) : W p l e R s m args below meth c H locs cells slots Q (F0 m pc ls (.int v :: .ref (L.2.1 k) :: rest)) := by
  obtain ⟨fl, h1, h2, h3⟩ := cp_pI_spec hv
  exact va_put hx hb hts hin ty0 hty hnm hown hK hP (cp_D hJ D) hS k (cp_fl_cell h1) hc j hj hlink (fun x h => by rw [← href]; exact h) hfin (hty j hj) hn hfit h2 hdg (fun H1 locs1 p1 _ s1 => kk H1 locs1 (h3 ▸ p1) s1)
theorem cp_putN (hx : p.tables.exec = Jvm.exec) (hb : c.code = cc) {own ref C host : String} {T : u_T} {N ci index k j : Nat} {Ts : List Cond} (hts : ∀ w ∈ Ts, w.before args s = true) (hin : ∀ w ∈ u_ws C T N, w ∈ Ts) (ty0 : Nat → FieldType) (hty : ∀ k, k < N → parseFieldDescriptor (T k).2.2.1 = some (ty0 k)) (hnm : ∀ a, a < N → ∀ b, b < N → a ≠ b → (T a).2.1 ≠ (T b).2.1) (hown : s.vm.findClass own = some m.cls) (hK : va_K G cl tys s) (hJ : cp_J L) (hP : va_P G cl (cp_ws L D) H) (hS : va_S (cp_A L) H0 H locs) (hc : cl[ci]? = some (C, T, N)) (hj : j < N) (href : (T j).1 = ref) (hlink : va_Nw (.fieldLinkNest own index ref (T j).2.1 (T j).2.2.1 host) s) (hfin : (T j).2.2.2 = false) {v : Int32} (hn : narrow (ty0 j) (.int v) = .int v) (hfit : fits (ty0 j) (.int v) = true) {D' : cp_Dt} (hv : cp_pI L D k ci j v = some D') (hdg : decode cc pc = .ok (.putfield index, 3))
    (kk : ∀ (H1 : Heap) (locs1 : List Loc), va_P G cl (cp_ws L D') H1 → va_S (cp_A L) H0 H1 locs1 → W p l e R s m args below meth c H1 locs1 cells slots Q (F0 m (pc + 3) ls rest)) : W p l e R s m args below meth c H locs cells slots Q (F0 m pc ls (.int v :: .ref (L.2.1 k) :: rest)) := by
  obtain ⟨fl, h1, h2, h3⟩ := cp_pI_spec hv
  exact va_putN hx hb hts hin ty0 hty hnm hown hK hP (cp_D hJ D) hS k (cp_fl_cell h1) hc j hj (va_Nw.use rfl hlink) (fun x h => by rw [← href]; exact h) hfin (hty j hj) hn hfit h2 hdg (fun H1 locs1 p1 _ s1 => kk H1 locs1 (h3 ▸ p1) s1)
theorem cp_pZ_spec {k ci j : Nat} {v : Int32} {D' : cp_Dt} (h : cp_pZ L D k ci j v = some D') : cp_pI L D k ci j v = some D' ∧ narrow .boolean (.int v) = .int v ∧ fits .boolean (.int v) = true := by
  unfold cp_pZ at h
  by_cases hv : v = 0 ∨ v = 1
  · rw [if_pos hv] at h
    rcases hv with rfl | rfl
    · exact ⟨h, by decide, by decide⟩
    · exact ⟨h, by decide, by decide⟩
  · rw [if_neg hv] at h
    cases h
theorem cp_in {i : Int32} {n : Nat} {α : Type} {x : Option α} {r : α} (h : (if i < 0 ∨ n ≤ i.toNatClampNeg then none else x) = some r) : vp_in i n ∧ x = some r := by
  by_cases hi : i < 0 ∨ n ≤ i.toNatClampNeg
  · rw [if_pos hi] at h
    cases h
  · rw [if_neg hi] at h
    exact ⟨hi, h⟩
theorem cp_cell0 {k : Nat} {a : Nat × (Nat → Option Nat)} (h : cp_ar L k 0 = some a) : (cp_ws L D)[k]? = some (L.2.1 k, .inl (L.2.2.2 0, a.1, .inl (D k))) := cp_ar_cell h
theorem cp_cell1 {k : Nat} {a : Nat × (Nat → Option Nat)} (h : cp_ar L k 1 = some a) : (cp_ws L D)[k]? = some (L.2.1 k, .inl (L.2.2.2 1, a.1, .inl (D k))) := cp_ar_cell h
theorem cp_cell2 {k : Nat} {a : Nat × (Nat → Option Nat)} (h : cp_ar L k 2 = some a) : (cp_ws L D)[k]? = some (L.2.1 k, .inl (L.2.2.2 2, a.1, .inr (.inr (.inr (.inr (fun i => (a.2 i).map L.2.1)))))) := cp_ar_cell h
theorem cp_cell3 {k : Nat} {a : Nat × (Nat → Option Nat)} (h : cp_ar L k 3 = some a) : (cp_ws L D)[k]? = some (L.2.1 k, .inl (L.2.2.2 3, a.1, .inr (.inl (fun i => (D k i).toInt64)))) := cp_ar_cell h
theorem cp_iald (hx : p.tables.exec = Jvm.exec) (hb : c.code = cc) (hK : va_K G cl (cp_tys L) s) (hP : va_P G cl (cp_ws L D) H) {k : Nat} {i v : Int32} (hv : cp_aI L D 0 k i = some v) (hdg : decode cc pc = .ok (.iaload, 1))
    (kk : W p l e R s m args below meth c H locs cells slots Q (F0 m (pc + 1) ls (.int v :: rest))) : W p l e R s m args below meth c H locs cells slots Q (F0 m pc ls (.int i :: .ref (L.2.1 k) :: rest)) := by
  obtain ⟨a, h1, h2⟩ := cp_bind hv
  obtain ⟨h3, h5⟩ := cp_in h2
  cases h5
  exact va_iald hx hb hK hP k 0 (cp_cell0 h1) rfl h3 hdg kk
theorem cp_bald (hx : p.tables.exec = Jvm.exec) (hb : c.code = cc) (hK : va_K G cl (cp_tys L) s) (hP : va_P G cl (cp_ws L D) H) {k : Nat} {i v : Int32} (hv : cp_aI L D 1 k i = some v) (hdg : decode cc pc = .ok (.baload, 1))
    (kk : W p l e R s m args below meth c H locs cells slots Q (F0 m (pc + 1) ls (.int v :: rest))) : W p l e R s m args below meth c H locs cells slots Q (F0 m pc ls (.int i :: .ref (L.2.1 k) :: rest)) := by
  obtain ⟨a, h1, h2⟩ := cp_bind hv
  obtain ⟨h3, h5⟩ := cp_in h2
  cases h5
  exact va_bald hx hb hK hP k 1 (cp_cell1 h1) rfl h3 hdg kk
theorem cp_aald (hx : p.tables.exec = Jvm.exec) (hb : c.code = cc) (hK : va_K G cl (cp_tys L) s) (hP : va_P G cl (cp_ws L D) H) {k : Nat} {i : Int32} {v : Nat} (hv : cp_aR L k i = some v) (hdg : decode cc pc = .ok (.aaload, 1))
    (kk : W p l e R s m args below meth c H locs cells slots Q (F0 m (pc + 1) ls (.ref (L.2.1 v) :: rest))) : W p l e R s m args below meth c H locs cells slots Q (F0 m pc ls (.int i :: .ref (L.2.1 k) :: rest)) := by
  obtain ⟨a, h1, h2⟩ := cp_bind hv
  obtain ⟨h3, h4⟩ := cp_in h2
  refine va_aldq hx hb hK hP k 2 (cp_cell2 h1) rfl h3 hdg ?_
  rw [h4]
  exact kk
theorem cp_iast (hx : p.tables.exec = Jvm.exec) (hb : c.code = cc) (hK : va_K G cl (cp_tys L) s) (hJ : cp_J L) (hP : va_P G cl (cp_ws L D) H) (hS : va_S (cp_A L) H0 H locs) {k : Nat} {i x : Int32} {D' : cp_Dt} (hv : cp_aS L D 0 k i x = some D') (hdg : decode cc pc = .ok (.iastore, 1))
    (kk : ∀ (H1 : Heap) (locs1 : List Loc), va_P G cl (cp_ws L D') H1 → va_S (cp_A L) H0 H1 locs1 → W p l e R s m args below meth c H1 locs1 cells slots Q (F0 m (pc + 1) ls rest)) : W p l e R s m args below meth c H locs cells slots Q (F0 m pc ls (.int x :: .int i :: .ref (L.2.1 k) :: rest)) := by
  obtain ⟨a, h1, h2⟩ := cp_bind hv
  obtain ⟨h3, h5⟩ := cp_in h2
  cases h5
  have h4 : (cp_ws L D).set k (L.2.1 k, .inl (L.2.2.2 0, a.1, .inl (upd (D k) i.toNatClampNeg x))) = cp_ws L (cp_up D k i.toNatClampNeg x) := by
    refine cp_ws_set ?_ (fun j hj => cp_up_ne hj)
    unfold cp_ce
    rw [(cp_ar_spec h1).2, cp_up_eq]
    rfl
  exact va_iast hx hb hK hP (cp_D hJ D) hS k 0 (cp_cell0 h1) rfl h3 hdg (fun H1 locs1 p1 _ s1 => kk H1 locs1 (h4 ▸ p1) s1)
theorem cp_bast (hx : p.tables.exec = Jvm.exec) (hb : c.code = cc) (hK : va_K G cl (cp_tys L) s) (hJ : cp_J L) (hP : va_P G cl (cp_ws L D) H) (hS : va_S (cp_A L) H0 H locs) {k : Nat} {i x : Int32} {D' : cp_Dt} (hv : cp_aS L D 1 k i x.toInt8.toInt32 = some D') (hdg : decode cc pc = .ok (.bastore, 1))
    (kk : ∀ (H1 : Heap) (locs1 : List Loc), va_P G cl (cp_ws L D') H1 → va_S (cp_A L) H0 H1 locs1 → W p l e R s m args below meth c H1 locs1 cells slots Q (F0 m (pc + 1) ls rest)) : W p l e R s m args below meth c H locs cells slots Q (F0 m pc ls (.int x :: .int i :: .ref (L.2.1 k) :: rest)) := by
  obtain ⟨a, h1, h2⟩ := cp_bind hv
  obtain ⟨h3, h5⟩ := cp_in h2
  cases h5
  have h4 : (cp_ws L D).set k (L.2.1 k, .inl (L.2.2.2 1, a.1, .inl (upd (D k) i.toNatClampNeg (vp_nar .byte x)))) = cp_ws L (cp_up D k i.toNatClampNeg x.toInt8.toInt32) := by
    refine cp_ws_set ?_ (fun j hj => cp_up_ne hj)
    unfold cp_ce
    rw [(cp_ar_spec h1).2, cp_up_eq, vp_nar_byte]
    rfl
  exact va_bast hx hb hK hP (cp_D hJ D) hS k 1 (cp_cell1 h1) rfl h3 hdg (fun H1 locs1 p1 _ s1 => kk H1 locs1 (h4 ▸ p1) s1)
theorem cp_alen0 (hx : p.tables.exec = Jvm.exec) (hb : c.code = cc) (hK : va_K G cl (cp_tys L) s) (hP : va_P G cl (cp_ws L D) H) {k : Nat} {v : Int32} (hv : cp_aL L 0 k = some v) (hdg : decode cc pc = .ok (.arraylength, 1))
    (kk : W p l e R s m args below meth c H locs cells slots Q (F0 m (pc + 1) ls (.int v :: rest))) : W p l e R s m args below meth c H locs cells slots Q (F0 m pc ls (.ref (L.2.1 k) :: rest)) := by
  obtain ⟨a, h1, h2⟩ := cp_bind hv
  exact va_alen hx hb hK hP k 0 (cp_cell0 h1) (ty := .int) rfl (Option.some.inj h2) hdg kk
end CPR
end
section
/-! What every method takes as given, what it leaves, and a call -/
def cp_isN : Cond → Bool
  | .fieldLinkNest .. => true
  | .methodLinkNest .. => true
  | _ => false
theorem cp_nw_ok : cp_nw.all cp_isN = true := by decide +kernel
def cp_N (nw : List Cond) (U : State) : Prop := ∀ w ∈ nw, va_Nw w U
theorem cp_N.warm {nw : List Cond} {s U : State} (hn : nw.all cp_isN = true) (hW : s.WarmedH U.vm) (h : cp_N nw s) : cp_N nw U := by
  intro w hw
  have h1 := List.all_eq_true.mp hn w hw
  have h2 := h w hw
  cases w <;> first | exact va_Nw.warmF hW h2 | exact va_Nw.warmM hW h2 | exact Bool.noConfusion h1
theorem cp_N.same {nw : List Cond} {u U : State} (hn : nw.all cp_isN = true) (hvm : u.vm = U.vm) (h : cp_N nw u) : cp_N nw U := by
  intro w hw
  have h1 := List.all_eq_true.mp hn w hw
  have h2 := h w hw
  cases w <;> first | exact Bool.noConfusion h1 | exact va_Nw.same rfl hvm h2
def cp_ops (j : Nat) : Int32 := ([0, 2, 2, 2, 2, 2, 2, 1, 1, 2, 2, 1, 2, 2, 2, 2, 1, 0, 0, 1, 1, 0] : List Int32).getD j 0
def cp_sx (j : Nat) : Int32 := ([0, 1, 0, -1] : List Int32).getD j 0
def cp_sy (j : Nat) : Int32 := ([-1, 0, 1, 0] : List Int32).getD j 0
def cp_Zt (C n : String) (N : Nat) (f : Nat → Int32) (A : Nat → Prop) (U : State) (H : Heap) : Prop := ∃ t : Nat, va_Z C n "[I" (.ref t) A U H ∧ va_T .int t N (fun j => .int (f j)) A U H
theorem cp_Zt.moved {C n : String} {N : Nat} {f : Nat → Int32} {A : Nat → Prop} {u U : State} {H : Heap} (hvm : u.vm.Alike U.vm) (h : cp_Zt C n N f A u H) : cp_Zt C n N f A U H := by
  obtain ⟨t, h1, h2⟩ := h
  exact ⟨t, h1.moved hvm, h2.moved hvm⟩
theorem cp_Zt.kept {C n : String} {N : Nat} {f : Nat → Int32} {A : Nat → Prop} {U : State} {H H1 : Heap} (h : cp_Zt C n N f A U H) (hq : ∀ a : Nat, a < H.size → ¬ A a → H1[a]? = H[a]?) : cp_Zt C n N f A U H1 := by
  obtain ⟨t, h1, h2⟩ := h
  exact ⟨t, h1.kept hq, h2.kept hq⟩
theorem cp_Zt.narrow {C n : String} {N : Nat} {f : Nat → Int32} {A B : Nat → Prop} {U : State} {H : Heap} (h : cp_Zt C n N f A U H) (hAB : ∀ q, B q → A q) : cp_Zt C n N f B U H := by
  obtain ⟨t, h1, h2⟩ := h
  exact ⟨t, h1.narrow hAB, h2.narrow hAB⟩
def cp_Z (A : Nat → Prop) (U : State) (H : Heap) : Prop := cp_Zt "CreaturePond$Mind" "OPERANDS" 22 cp_ops A U H ∧ cp_Zt "CreaturePond$Shape" "STEP_X" 4 cp_sx A U H ∧ cp_Zt "CreaturePond$Shape" "STEP_Y" 4 cp_sy A U H
theorem cp_Z.moved {A : Nat → Prop} {u U : State} {H : Heap} (hvm : u.vm.Alike U.vm) (h : cp_Z A u H) : cp_Z A U H := ⟨h.1.moved hvm, h.2.1.moved hvm, h.2.2.moved hvm⟩
theorem cp_Z.kept {A : Nat → Prop} {U : State} {H H1 : Heap} (h : cp_Z A U H) (hq : ∀ a : Nat, a < H.size → ¬ A a → H1[a]? = H[a]?) : cp_Z A U H1 := ⟨h.1.kept hq, h.2.1.kept hq, h.2.2.kept hq⟩
theorem cp_Z.narrow {A B : Nat → Prop} {U : State} {H : Heap} (h : cp_Z A U H) (hAB : ∀ q, B q → A q) : cp_Z B U H := ⟨h.1.narrow hAB, h.2.1.narrow hAB, h.2.2.narrow hAB⟩
def cp_Pre (G : va_G) (L : cp_Lay) (D : cp_Dt) (U : State) : Prop := va_P G vwCl (cp_ws L D) U.heap ∧ va_K G vwCl (cp_tys L) U ∧ cp_N cp_nw U ∧ cp_Z (cp_A L) U U.heap
def cp_Q (G : va_G) (L : cp_Lay) (D' : cp_Dt) (rv : Option Value) : Array Value → State → Outcome → State → Prop := fun _ st oc t => (oc = .returned rv ∧ va_P G vwCl (cp_ws L D') t.heap) ∧ va_F (cp_A L) st t
/-- the contract: from any heap that holds D in the layout L, y returns rv, the heap then holds D', nothing outside the layout has changed, nothing is made -/
def cp_Met (l : Launch) (G : va_G) (y : MethodName) (ws : List Cond) (rm : Room) (L : cp_Lay) (av : List Value) (D D' : cp_Dt) (rv : Option Value) : Prop := Met l y ws rm (va_Pc av (cp_Pre G L D)) (cp_Q G L D' rv) 0 0 (cp_A L)
theorem cp_blind {G : va_G} {L : cp_Lay} {D : cp_Dt} {av : List Value} : FrameBlind (va_Pc av (cp_Pre G L D)) := by
  intro a U g mk h
  obtain ⟨h0, h1, h2, h3, h4⟩ := h
  exact ⟨h0, h1, va_K.moved (u := U) (U := U.calling g mk a) (Vm.Alike.refl U.vm) h2, cp_N.same (u := U) (U := U.calling g mk a) cp_nw_ok rfl h3, cp_Z.moved (u := U) (U := U.calling g mk a) (Vm.Alike.refl U.vm) h4⟩
theorem cp_pre {G : va_G} {L : cp_Lay} {D : cp_Dt} {av : List Value} {s : State} {H : Heap} {locs : List Loc} (hP : va_P G vwCl (cp_ws L D) H) (hK : va_K G vwCl (cp_tys L) s) (hN : cp_N cp_nw s) (hZ : cp_Z (cp_A L) s s.heap) (hS : va_S (cp_A L) s.heap H locs) : ∀ U : State, U.heap = H → s.WarmedH U.vm → va_Pc av (cp_Pre G L D) av.toArray U := by
  intro U hU hW
  refine ⟨rfl, by rw [hU]; exact hP, va_K.moved hW.alike hK, cp_N.warm cp_nw_ok hW hN, ?_⟩
  rw [hU]
  exact (cp_Z.moved hW.alike hZ).kept hS.2.1
theorem cp_recv {G : va_G} {cl : List vw_C} {L : cp_Lay} {D : cp_Dt} {s : State} {H : Heap} {tys : List (ClassId × FieldType)} {k ci : Nat} {q : vw_C} {fl : List (Option (Option Nat))} (hK : va_K G cl tys s) (hP : va_P G cl (cp_ws L D) H) (hc : cl[ci]? = some q) (h : cp_fl L k ci = some fl) : ∃ cell : Cell, H[L.2.1 k]? = some cell ∧ cell.vm.isStatics = false ∧ s.vm.findClass q.1 = some cell.cls := va_recv hK hP hc (cp_fl_cell h)
section CPC
variable {p : Program} {l : Launch} {e : Env} {R : Room} {s : State} {m : MethodId} {args : Array Value} {below : List Frame} {meth : Method} {c : Code} {H : Heap} {locs : List Loc} {cells slots : Nat} {Q : State → Prop}
variable {cc : ByteArray} {pc : Nat} {ls : Array Slot} {rest : List Value} {G : va_G} {H0 : Heap} {L : cp_Lay} {D : cp_Dt}
theorem cp_call {st1 : List Value} {D' : cp_Dt} {rv : Option Value} {a : Array Value} {st0 : List Value} (hr : va_Run p l e R s m args below meth c H locs cells slots 0 0 (F0 m pc ls st0) rest (cp_Q G L D' rv a) (cp_A L)) (hS : va_S (cp_A L) H0 H locs)
    (kk : ∀ (H1 : Heap) (locs1 : List Loc), va_P G vwCl (cp_ws L D') H1 → va_S (cp_A L) H0 H1 locs1 → W p l e R s m args below meth c H1 locs1 cells slots Q (F0 m (pc + 3) ls st1)) (hst : rv.toList ++ rest = st1 := by rfl) : W p l e R s m args below meth c H locs cells slots Q (F0 m pc ls st0) := by
  subst hst
  intro T hT X
  obtain ⟨v, st₀, t, T', L1, h0, X', hL, e1, e2, ⟨⟨hv, hp⟩, hz, hk⟩, st⟩ := hr T hT X
  cases hv
  rw [h0] at hz hk
  obtain ⟨t2, a1, b1⟩ := kk T'.heap (locs ++ L1) (by rw [e1]; exact hp)
    ⟨Nat.le_trans hS.1 (by rw [e1]; exact hz), fun q h1 h2 => by rw [e1, hk q (Nat.lt_of_lt_of_le h1 hS.1) h2]; exact hS.2.1 q h1 h2, fun q hq => by
      rcases List.mem_append.mp hq with h | h
      · exact hS.2.2 q h
      · exact hL q h⟩ T' rfl X'
  exact ⟨t2, st t2 a1, b1⟩
theorem cp_iret (hx : p.tables.exec = Jvm.exec) (hb : c.code = cc) (hr : meth.sig.returnType = some .int) (hlocks : meth.locks = false) {v : Int32} {res : Int32 × cp_Dt} (hF : some (v, D) = some res) (hP : va_P G vwCl (cp_ws L D) H) (hS : va_S (cp_A L) s.heap H locs) (hdg : decode cc pc = .ok (.ireturn, 1)) : W p l e R s m args below meth c H locs 0 0 (MQ below (cp_Q G L res.2 (some (.int res.1))) args s 0 0 (cp_A L)) (F0 m pc ls [.int v]) := by
  cases hF
  exact W.iret hx hb hr (fun t ht _ => ⟨⟨rfl, by rw [ht]; exact hP⟩, hS.F ht⟩) hS.2.2 hdg hlocks
theorem cp_zret (hx : p.tables.exec = Jvm.exec) (hb : c.code = cc) {ty : FieldType} (hr : meth.sig.returnType = some ty) (hlocks : meth.locks = false) {v : Int32} (hn : narrow ty (.int v) = .int v) {res : Int32 × cp_Dt} (hF : some (v, D) = some res) (hP : va_P G vwCl (cp_ws L D) H) (hS : va_S (cp_A L) s.heap H locs) (hdg : decode cc pc = .ok (.ireturn, 1)) : W p l e R s m args below meth c H locs 0 0 (MQ below (cp_Q G L res.2 (some (.int res.1))) args s 0 0 (cp_A L)) (F0 m pc ls [.int v]) := by
  cases hF
  exact W.zret hx hb hr hn (fun t ht _ => ⟨⟨rfl, by rw [ht]; exact hP⟩, hS.F ht⟩) hS.2.2 hdg hlocks
theorem cp_vret (hx : p.tables.exec = Jvm.exec) (hb : c.code = cc) (hr : meth.sig.returnType = none) (hlocks : meth.locks = false) {res : cp_Dt} (hF : some D = some res) (hP : va_P G vwCl (cp_ws L D) H) (hS : va_S (cp_A L) s.heap H locs) (hdg : decode cc pc = .ok (.return_, 1)) : W p l e R s m args below meth c H locs 0 0 (MQ below (cp_Q G L res none) args s 0 0 (cp_A L)) (F0 m pc ls []) := by
  cases hF
  exact W.vret hx hb hr (fun t ht _ => ⟨⟨rfl, by rw [ht]; exact hP⟩, hS.F ht⟩) hS.2.2 hdg hlocks
theorem cp_aret (hx : p.tables.exec = Jvm.exec) (hb : c.code = cc) {n : String} (hr : meth.sig.returnType = some (.object n)) (hlocks : meth.locks = false) {v : Nat} {res : Nat × cp_Dt} (hF : some (v, D) = some res) (hP : va_P G vwCl (cp_ws L D) H) (hS : va_S (cp_A L) s.heap H locs) (hdg : decode cc pc = .ok (.areturn, 1)) : W p l e R s m args below meth c H locs 0 0 (MQ below (cp_Q G L res.2 (some (.ref (L.2.1 res.1)))) args s 0 0 (cp_A L)) (F0 m pc ls [.ref (L.2.1 v)]) := by
  cases hF
  exact W.aret hx hb hr (Or.inl ⟨n, rfl⟩) (Or.inr ⟨_, rfl⟩) (fun t ht _ => ⟨⟨rfl, by rw [ht]; exact hP⟩, hS.F ht⟩) hS.2.2 hdg hlocks
theorem cp_g01_n {v : Int32} {u : Unit} (h : cp_g01 v = some u) : narrow .boolean (.int v) = .int v := by
  unfold cp_g01 at h
  by_cases hv : v = 0 ∨ v = 1
  · rcases hv with rfl | rfl <;> decide
  · rw [if_neg hv] at h
    cases h
theorem cp_gby_n {v : Int32} {u : Unit} (h : cp_gby v = some u) : narrow .byte (.int v) = .int v := by
  unfold cp_gby at h
  by_cases hv : v.toInt8.toInt32 = v
  · rw [← hv]
    exact pk_nb v
  · rw [if_neg hv] at h
    cases h
theorem cp_ti (hx : p.tables.exec = Jvm.exec) (hb : c.code = cc) {A : Nat → Prop} {t N : Nat} {f : Nat → Int32} (hT : va_T .int t N (fun j => .int (f j)) A s s.heap) (hS : va_S A s.heap H locs) {i v : Int32} (hv : cp_tb N f i = some v) (hdg : decode cc pc = .ok (.iaload, 1))
    (kk : W p l e R s m args below meth c H locs cells slots Q (F0 m (pc + 1) ls (.int v :: rest))) : W p l e R s m args below meth c H locs cells slots Q (F0 m pc ls (.int i :: .ref t :: rest)) := by
  obtain ⟨h1, h2⟩ := cp_in hv
  cases h2
  exact va_ti hx hb hT hS h1 rfl hdg kk
theorem cp_copy (hx : p.tables.exec = Jvm.exec) (hb : c.code = cc) (hml : c.maxLocals = ls.size) {own : String} {index : Nat} (hown : s.vm.findClass own = some m.cls) (hlink : (Cond.methodLink own index arraycopyName).before args s = true) (hnat : (Cond.native arraycopyName).before args s = true) (hstat : (Cond.static arraycopyName).before args s = true) (hini : (Cond.initialized "java/lang/System").before args s = true)
    (hK : va_K G vwCl (cp_tys L) s) (hJ : cp_J L) (hP : va_P G vwCl (cp_ws L D) H) (hS : va_S (cp_A L) H0 H locs) {t k0 k1 : Nat} (ht : t = 0 ∨ t = 1) {sp dp n : Int32} {D' : cp_Dt} (hv : cp_cp L D t k0 sp k1 dp n = some D')
    (hframes : 1 ≤ R.frames) (hlocals : (rest.map fun v => v.category).sum + (nativeFrameWords "java/lang/System" "arraycopy" 5 + 11) ≤ R.locals) (hdg : decode cc pc = .ok (.invokestatic index, 3))
    (kk : ∀ (H1 : Heap) (locs1 : List Loc), va_P G vwCl (cp_ws L D') H1 → va_S (cp_A L) H0 H1 locs1 → W p l e R s m args below meth c H1 locs1 cells slots Q (F0 m (pc + 3) ls rest)) : W p l e R s m args below meth c H locs cells slots Q (F0 m pc ls (.int n :: .int dp :: .ref (L.2.1 k1) :: .int sp :: .ref (L.2.1 k0) :: rest)) := by
  obtain ⟨a, ha, hv⟩ := cp_bind hv
  obtain ⟨b, hb1, hv⟩ := cp_bind hv
  by_cases hc : sp < 0 ∨ dp < 0 ∨ n < 0 ∨ a.1 < sp.toNatClampNeg + n.toNatClampNeg ∨ b.1 < dp.toNatClampNeg + n.toNatClampNeg
  · rw [if_pos hc] at hv
    cases hv
  · rw [if_neg hc] at hv
    have c1 : ¬ sp < 0 := fun h => hc (Or.inl h)
    have c2 : ¬ dp < 0 := fun h => hc (Or.inr (Or.inl h))
    have c3 : ¬ n < 0 := fun h => hc (Or.inr (Or.inr (Or.inl h)))
    have c4 : sp.toNatClampNeg + n.toNatClampNeg ≤ a.1 := Nat.not_lt.mp fun h => hc (Or.inr (Or.inr (Or.inr (Or.inl h))))
    have c5 : dp.toNatClampNeg + n.toNatClampNeg ≤ b.1 := Nat.not_lt.mp fun h => hc (Or.inr (Or.inr (Or.inr (Or.inr h))))
    have h4 : ∀ (t : Nat) (hu : t = 0 ∨ t = 1), cp_ar L k1 t = some b → (cp_ws L D).set k1 (L.2.1 k1, .inl (L.2.2.2 t, b.1, .inl (va_cpy (D k0) (D k1) sp.toNatClampNeg dp.toNatClampNeg n.toNatClampNeg))) = cp_ws L (cp_upA D k1 (va_cpy (D k0) (D k1) sp.toNatClampNeg dp.toNatClampNeg n.toNatClampNeg)) := by
      intro t hu h1
      refine cp_ws_set ?_ (fun j hj => cp_upA_ne hj)
      unfold cp_ce
      rw [(cp_ar_spec h1).2, cp_upA_eq]
      rcases hu with rfl | rfl <;> rfl
    rcases ht with rfl | rfl
    · rw [if_neg (fun h => by have := h.1; omega)] at hv
      cases hv
      exact va_copyi hx hb hml hown hlink hnat hstat hini hK hP (cp_D hJ D) hS k0 k1 0 0 (ty := .int) (cp_cell0 ha) (cp_cell0 hb1) rfl rfl rfl c1 c2 c3 c4 c5 (fun _ _ => rfl) hframes hlocals hdg (fun H1 locs1 p1 _ s1 => kk H1 locs1 (h4 0 (Or.inl rfl) hb1 ▸ p1) s1)
    · by_cases hy : (List.range n.toNatClampNeg).all (fun i => fits .byte (.int (D k0 (sp.toNatClampNeg + i)))) = false
      · rw [if_pos ⟨rfl, hy⟩] at hv
        cases hv
      · rw [if_neg (fun h => hy h.2)] at hv
        cases hv
        have hy1 : (List.range n.toNatClampNeg).all (fun i => fits .byte (.int (D k0 (sp.toNatClampNeg + i)))) = true := by
          cases h : (List.range n.toNatClampNeg).all (fun i => fits .byte (.int (D k0 (sp.toNatClampNeg + i)))) with
          | true => rfl
          | false => exact absurd h hy
        exact va_copyi hx hb hml hown hlink hnat hstat hini hK hP (cp_D hJ D) hS k0 k1 1 1 (ty := .byte) (cp_cell1 ha) (cp_cell1 hb1) rfl rfl rfl c1 c2 c3 c4 c5 (fun i hi => List.all_eq_true.mp hy1 i (List.mem_range.mpr hi)) hframes hlocals hdg (fun H1 locs1 p1 _ s1 => kk H1 locs1 (h4 1 (Or.inr rfl) hb1 ▸ p1) s1)
end CPC
end
