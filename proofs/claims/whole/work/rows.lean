section
/-! names, by program out of the Statement and the listing: classes, fields, methods -/
def RX0 : String := "CreaturePond"
def TX0 : u_T := fun k => match k with
  | 0 => ("CreaturePond", "shape", "LCreaturePond$Shape;", true)
  | 1 => ("CreaturePond", "now", "LCreaturePond$Pond;", true)
  | 2 => ("CreaturePond", "kept", "LCreaturePond$Pond;", true)
  | 3 => ("CreaturePond", "mind", "LCreaturePond$Mind;", true)
  | 4 => ("CreaturePond", "breeding", "LCreaturePond$Breeding;", true)
  | _ => ("CreaturePond", "isKept", "Z", false)
def tyX0 : Nat → FieldType := fun k => match k with
  | 0 => .object "CreaturePond$Shape"
  | 1 => .object "CreaturePond$Pond"
  | 2 => .object "CreaturePond$Pond"
  | 3 => .object "CreaturePond$Mind"
  | 4 => .object "CreaturePond$Breeding"
  | _ => .boolean
theorem nmX0 : ∀ a, a < 6 → ∀ b, b < 6 → a ≠ b → (TX0 a).2.1 ≠ (TX0 b).2.1 := by decide +kernel
theorem tyX0_ok : ∀ k, k < 6 → parseFieldDescriptor (TX0 k).2.2.1 = some (tyX0 k) := by decide +kernel
def RX1 : String := "CreaturePond$Animal"
def TX1 : u_T := fun k => match k with
  | 0 => ("CreaturePond$Animal", "registers", "[B", true)
  | 1 => ("CreaturePond$Animal", "memory", "[B", true)
  | 2 => ("CreaturePond$Animal", "genes", "[B", true)
  | 3 => ("CreaturePond$Animal", "lives", "Z", false)
  | 4 => ("CreaturePond$Animal", "asked", "Z", false)
  | 5 => ("CreaturePond$Animal", "home", "I", false)
  | 6 => ("CreaturePond$Animal", "heading", "I", false)
  | 7 => ("CreaturePond$Animal", "energy", "I", false)
  | 8 => ("CreaturePond$Animal", "age", "I", false)
  | 9 => ("CreaturePond$Animal", "length", "I", false)
  | 10 => ("CreaturePond$Animal", "place", "I", false)
  | 11 => ("CreaturePond$Animal", "firstParent", "I", false)
  | 12 => ("CreaturePond$Animal", "secondParent", "I", false)
  | _ => ("CreaturePond$Animal", "generation", "I", false)
def tyX1 : Nat → FieldType := fun k => match k with
  | 0 => .array .byte
  | 1 => .array .byte
  | 2 => .array .byte
  | 3 => .boolean
  | 4 => .boolean
  | 5 => .int
  | 6 => .int
  | 7 => .int
  | 8 => .int
  | 9 => .int
  | 10 => .int
  | 11 => .int
  | 12 => .int
  | _ => .int
theorem nmX1 : ∀ a, a < 14 → ∀ b, b < 14 → a ≠ b → (TX1 a).2.1 ≠ (TX1 b).2.1 := by decide +kernel
theorem tyX1_ok : ∀ k, k < 14 → parseFieldDescriptor (TX1 k).2.2.1 = some (tyX1 k) := by decide +kernel
def RX2 : String := "CreaturePond$Breeding"
def TX2 : u_T := fun k => match k with
  | _ => ("CreaturePond$Breeding", "pond", "LCreaturePond$Pond;", true)
def tyX2 : Nat → FieldType := fun k => match k with
  | _ => .object "CreaturePond$Pond"
theorem nmX2 : ∀ a, a < 1 → ∀ b, b < 1 → a ≠ b → (TX2 a).2.1 ≠ (TX2 b).2.1 := by decide +kernel
theorem tyX2_ok : ∀ k, k < 1 → parseFieldDescriptor (TX2 k).2.2.1 = some (tyX2 k) := by decide +kernel
def RX3 : String := "CreaturePond$Mind"
def TX3 : u_T := fun k => match k with
  | _ => ("CreaturePond$Mind", "pond", "LCreaturePond$Pond;", true)
def tyX3 : Nat → FieldType := fun k => match k with
  | _ => .object "CreaturePond$Pond"
theorem nmX3 : ∀ a, a < 1 → ∀ b, b < 1 → a ≠ b → (TX3 a).2.1 ≠ (TX3 b).2.1 := by decide +kernel
theorem tyX3_ok : ∀ k, k < 1 → parseFieldDescriptor (TX3 k).2.2.1 = some (tyX3 k) := by decide +kernel
def RX4 : String := "CreaturePond$Pond"
def TX4 : u_T := fun k => match k with
  | 0 => ("CreaturePond$Pond", "shape", "LCreaturePond$Shape;", true)
  | 1 => ("CreaturePond$Pond", "grains", "[I", true)
  | 2 => ("CreaturePond$Pond", "marks", "[B", true)
  | 3 => ("CreaturePond$Pond", "dwellers", "[I", true)
  | 4 => ("CreaturePond$Pond", "animals", "[LCreaturePond$Animal;", true)
  | 5 => ("CreaturePond$Pond", "stored", "I", false)
  | 6 => ("CreaturePond$Pond", "sun", "I", false)
  | 7 => ("CreaturePond$Pond", "stream", "I", false)
  | 8 => ("CreaturePond$Pond", "turn", "I", false)
  | 9 => ("CreaturePond$Pond", "births", "I", false)
  | 10 => ("CreaturePond$Pond", "deaths", "I", false)
  | _ => ("CreaturePond$Pond", "ticks", "I", false)
def tyX4 : Nat → FieldType := fun k => match k with
  | 0 => .object "CreaturePond$Shape"
  | 1 => .array .int
  | 2 => .array .byte
  | 3 => .array .int
  | 4 => .array (.object "CreaturePond$Animal")
  | 5 => .int
  | 6 => .int
  | 7 => .int
  | 8 => .int
  | 9 => .int
  | 10 => .int
  | _ => .int
theorem nmX4 : ∀ a, a < 12 → ∀ b, b < 12 → a ≠ b → (TX4 a).2.1 ≠ (TX4 b).2.1 := by decide +kernel
theorem tyX4_ok : ∀ k, k < 12 → parseFieldDescriptor (TX4 k).2.2.1 = some (tyX4 k) := by decide +kernel
def RX5 : String := "CreaturePond$Shape"
def TX5 : u_T := fun k => match k with
  | 0 => ("CreaturePond$Shape", "width", "I", true)
  | 1 => ("CreaturePond$Shape", "height", "I", true)
  | 2 => ("CreaturePond$Shape", "cells", "I", true)
  | _ => ("CreaturePond$Shape", "neighbours", "[I", true)
def tyX5 : Nat → FieldType := fun k => match k with
  | 0 => .int
  | 1 => .int
  | 2 => .int
  | _ => .array .int
theorem nmX5 : ∀ a, a < 4 → ∀ b, b < 4 → a ≠ b → (TX5 a).2.1 ≠ (TX5 b).2.1 := by decide +kernel
theorem tyX5_ok : ∀ k, k < 4 → parseFieldDescriptor (TX5 k).2.2.1 = some (tyX5 k) := by decide +kernel
def RX6 : String := "CreaturePondModel"
def TX6 : u_T := fun k => match k with
  | 0 => ("CreaturePondModel", "thrown", "I", false)
  | 1 => ("CreaturePondModel", "w", "I", true)
  | 2 => ("CreaturePondModel", "h", "I", true)
  | 3 => ("CreaturePondModel", "now", "[I", true)
  | 4 => ("CreaturePondModel", "kept", "Z", false)
  | _ => ("CreaturePondModel", "was", "[I", true)
def tyX6 : Nat → FieldType := fun k => match k with
  | 0 => .int
  | 1 => .int
  | 2 => .int
  | 3 => .array .int
  | 4 => .boolean
  | _ => .array .int
theorem nmX6 : ∀ a, a < 6 → ∀ b, b < 6 → a ≠ b → (TX6 a).2.1 ≠ (TX6 b).2.1 := by decide +kernel
theorem tyX6_ok : ∀ k, k < 6 → parseFieldDescriptor (TX6 k).2.2.1 = some (tyX6 k) := by decide +kernel
abbrev cX0_init : ByteArray := prog_1_method_1_code
def yX0_init : MethodName := ⟨"CreaturePond", "<init>", "(II)V"⟩
theorem hdX0_init : yX0_init.cls ≠ "java/lang/invoke/MethodHandle" ∧ yX0_init.cls ≠ "java/lang/invoke/VarHandle" ∧ (parseMethodDescriptor yX0_init.desc).map (fun d => d.parameters.length) = some 2 := by decide +kernel
abbrev cX5_init : ByteArray := prog_6_method_1_code
def yX5_init : MethodName := ⟨"CreaturePond$Shape", "<init>", "(II)V"⟩
theorem hdX5_init : yX5_init.cls ≠ "java/lang/invoke/MethodHandle" ∧ yX5_init.cls ≠ "java/lang/invoke/VarHandle" ∧ (parseMethodDescriptor yX5_init.desc).map (fun d => d.parameters.length) = some 2 := by decide +kernel
abbrev cX5_columnOf : ByteArray := prog_6_method_3_code
def yX5_columnOf : MethodName := ⟨"CreaturePond$Shape", "columnOf", "(I)I"⟩
theorem hdX5_columnOf : yX5_columnOf.cls ≠ "java/lang/invoke/MethodHandle" ∧ yX5_columnOf.cls ≠ "java/lang/invoke/VarHandle" ∧ (parseMethodDescriptor yX5_columnOf.desc).map (fun d => d.parameters.length) = some 1 := by decide +kernel
abbrev cX5_rowOf : ByteArray := prog_6_method_4_code
def yX5_rowOf : MethodName := ⟨"CreaturePond$Shape", "rowOf", "(I)I"⟩
theorem hdX5_rowOf : yX5_rowOf.cls ≠ "java/lang/invoke/MethodHandle" ∧ yX5_rowOf.cls ≠ "java/lang/invoke/VarHandle" ∧ (parseMethodDescriptor yX5_rowOf.desc).map (fun d => d.parameters.length) = some 1 := by decide +kernel
abbrev cX5_cellAt : ByteArray := prog_6_method_2_code
def yX5_cellAt : MethodName := ⟨"CreaturePond$Shape", "cellAt", "(II)I"⟩
theorem hdX5_cellAt : yX5_cellAt.cls ≠ "java/lang/invoke/MethodHandle" ∧ yX5_cellAt.cls ≠ "java/lang/invoke/VarHandle" ∧ (parseMethodDescriptor yX5_cellAt.desc).map (fun d => d.parameters.length) = some 2 := by decide +kernel
abbrev cJ_floorMod : ByteArray := prog_13_method_50_code
def yJ_floorMod : MethodName := ⟨"java/lang/Math", "floorMod", "(II)I"⟩
theorem hdJ_floorMod : yJ_floorMod.cls ≠ "java/lang/invoke/MethodHandle" ∧ yJ_floorMod.cls ≠ "java/lang/invoke/VarHandle" ∧ (parseMethodDescriptor yJ_floorMod.desc).map (fun d => d.parameters.length) = some 2 := by decide +kernel
abbrev cX4_init : ByteArray := prog_5_method_1_code
def yX4_init : MethodName := ⟨"CreaturePond$Pond", "<init>", "(LCreaturePond$Shape;)V"⟩
theorem hdX4_init : yX4_init.cls ≠ "java/lang/invoke/MethodHandle" ∧ yX4_init.cls ≠ "java/lang/invoke/VarHandle" ∧ (parseMethodDescriptor yX4_init.desc).map (fun d => d.parameters.length) = some 1 := by decide +kernel
abbrev cX1_init : ByteArray := prog_2_method_1_code
def yX1_init : MethodName := ⟨"CreaturePond$Animal", "<init>", "()V"⟩
theorem hdX1_init : yX1_init.cls ≠ "java/lang/invoke/MethodHandle" ∧ yX1_init.cls ≠ "java/lang/invoke/VarHandle" ∧ (parseMethodDescriptor yX1_init.desc).map (fun d => d.parameters.length) = some 0 := by decide +kernel
abbrev cX3_init : ByteArray := prog_4_method_1_code
def yX3_init : MethodName := ⟨"CreaturePond$Mind", "<init>", "(LCreaturePond$Pond;)V"⟩
theorem hdX3_init : yX3_init.cls ≠ "java/lang/invoke/MethodHandle" ∧ yX3_init.cls ≠ "java/lang/invoke/VarHandle" ∧ (parseMethodDescriptor yX3_init.desc).map (fun d => d.parameters.length) = some 1 := by decide +kernel
abbrev cX2_init : ByteArray := prog_3_method_1_code
def yX2_init : MethodName := ⟨"CreaturePond$Breeding", "<init>", "(LCreaturePond$Pond;)V"⟩
theorem hdX2_init : yX2_init.cls ≠ "java/lang/invoke/MethodHandle" ∧ yX2_init.cls ≠ "java/lang/invoke/VarHandle" ∧ (parseMethodDescriptor yX2_init.desc).map (fun d => d.parameters.length) = some 1 := by decide +kernel
abbrev cX0_set : ByteArray := prog_1_method_2_code
def yX0_set : MethodName := ⟨"CreaturePond", "set", "(II)Z"⟩
theorem hdX0_set : yX0_set.cls ≠ "java/lang/invoke/MethodHandle" ∧ yX0_set.cls ≠ "java/lang/invoke/VarHandle" ∧ (parseMethodDescriptor yX0_set.desc).map (fun d => d.parameters.length) = some 2 := by decide +kernel
abbrev cX0_store : ByteArray := prog_1_method_3_code
def yX0_store : MethodName := ⟨"CreaturePond", "store", "(I)Z"⟩
theorem hdX0_store : yX0_store.cls ≠ "java/lang/invoke/MethodHandle" ∧ yX0_store.cls ≠ "java/lang/invoke/VarHandle" ∧ (parseMethodDescriptor yX0_store.desc).map (fun d => d.parameters.length) = some 1 := by decide +kernel
abbrev cX0_grain : ByteArray := prog_1_method_4_code
def yX0_grain : MethodName := ⟨"CreaturePond", "grain", "(III)Z"⟩
theorem hdX0_grain : yX0_grain.cls ≠ "java/lang/invoke/MethodHandle" ∧ yX0_grain.cls ≠ "java/lang/invoke/VarHandle" ∧ (parseMethodDescriptor yX0_grain.desc).map (fun d => d.parameters.length) = some 3 := by decide +kernel
abbrev cX0_cell : ByteArray := prog_1_method_8_code
def yX0_cell : MethodName := ⟨"CreaturePond", "cell", "(III)I"⟩
theorem hdX0_cell : yX0_cell.cls ≠ "java/lang/invoke/MethodHandle" ∧ yX0_cell.cls ≠ "java/lang/invoke/VarHandle" ∧ (parseMethodDescriptor yX0_cell.desc).map (fun d => d.parameters.length) = some 3 := by decide +kernel
abbrev cX0_field : ByteArray := prog_1_method_9_code
def yX0_field : MethodName := ⟨"CreaturePond", "field", "(II)I"⟩
theorem hdX0_field : yX0_field.cls ≠ "java/lang/invoke/MethodHandle" ∧ yX0_field.cls ≠ "java/lang/invoke/VarHandle" ∧ (parseMethodDescriptor yX0_field.desc).map (fun d => d.parameters.length) = some 2 := by decide +kernel
abbrev cX4_has : ByteArray := prog_5_method_4_code
def yX4_has : MethodName := ⟨"CreaturePond$Pond", "has", "(I)Z"⟩
theorem hdX4_has : yX4_has.cls ≠ "java/lang/invoke/MethodHandle" ∧ yX4_has.cls ≠ "java/lang/invoke/VarHandle" ∧ (parseMethodDescriptor yX4_has.desc).map (fun d => d.parameters.length) = some 1 := by decide +kernel
abbrev cX1_trait : ByteArray := prog_2_method_7_code
def yX1_trait : MethodName := ⟨"CreaturePond$Animal", "trait", "(I)I"⟩
theorem hdX1_trait : yX1_trait.cls ≠ "java/lang/invoke/MethodHandle" ∧ yX1_trait.cls ≠ "java/lang/invoke/VarHandle" ∧ (parseMethodDescriptor yX1_trait.desc).map (fun d => d.parameters.length) = some 1 := by decide +kernel
abbrev cX0_total : ByteArray := prog_1_method_11_code
def yX0_total : MethodName := ⟨"CreaturePond", "total", "(I)I"⟩
theorem hdX0_total : yX0_total.cls ≠ "java/lang/invoke/MethodHandle" ∧ yX0_total.cls ≠ "java/lang/invoke/VarHandle" ∧ (parseMethodDescriptor yX0_total.desc).map (fun d => d.parameters.length) = some 1 := by decide +kernel
abbrev cX4_energyOfAll : ByteArray := prog_5_method_7_code
def yX4_energyOfAll : MethodName := ⟨"CreaturePond$Pond", "energyOfAll", "()I"⟩
theorem hdX4_energyOfAll : yX4_energyOfAll.cls ≠ "java/lang/invoke/MethodHandle" ∧ yX4_energyOfAll.cls ≠ "java/lang/invoke/VarHandle" ∧ (parseMethodDescriptor yX4_energyOfAll.desc).map (fun d => d.parameters.length) = some 0 := by decide +kernel
abbrev cX4_grainOfAll : ByteArray := prog_5_method_8_code
def yX4_grainOfAll : MethodName := ⟨"CreaturePond$Pond", "grainOfAll", "()I"⟩
theorem hdX4_grainOfAll : yX4_grainOfAll.cls ≠ "java/lang/invoke/MethodHandle" ∧ yX4_grainOfAll.cls ≠ "java/lang/invoke/VarHandle" ∧ (parseMethodDescriptor yX4_grainOfAll.desc).map (fun d => d.parameters.length) = some 0 := by decide +kernel
abbrev cX4_countAnimals : ByteArray := prog_5_method_6_code
def yX4_countAnimals : MethodName := ⟨"CreaturePond$Pond", "countAnimals", "()I"⟩
theorem hdX4_countAnimals : yX4_countAnimals.cls ≠ "java/lang/invoke/MethodHandle" ∧ yX4_countAnimals.cls ≠ "java/lang/invoke/VarHandle" ∧ (parseMethodDescriptor yX4_countAnimals.desc).map (fun d => d.parameters.length) = some 0 := by decide +kernel
abbrev cX0_keep : ByteArray := prog_1_method_12_code
def yX0_keep : MethodName := ⟨"CreaturePond", "keep", "()V"⟩
theorem hdX0_keep : yX0_keep.cls ≠ "java/lang/invoke/MethodHandle" ∧ yX0_keep.cls ≠ "java/lang/invoke/VarHandle" ∧ (parseMethodDescriptor yX0_keep.desc).map (fun d => d.parameters.length) = some 0 := by decide +kernel
abbrev cX4_copyFrom : ByteArray := prog_5_method_2_code
def yX4_copyFrom : MethodName := ⟨"CreaturePond$Pond", "copyFrom", "(LCreaturePond$Pond;)V"⟩
theorem hdX4_copyFrom : yX4_copyFrom.cls ≠ "java/lang/invoke/MethodHandle" ∧ yX4_copyFrom.cls ≠ "java/lang/invoke/VarHandle" ∧ (parseMethodDescriptor yX4_copyFrom.desc).map (fun d => d.parameters.length) = some 1 := by decide +kernel
abbrev cX1_copyFrom : ByteArray := prog_2_method_3_code
def yX1_copyFrom : MethodName := ⟨"CreaturePond$Animal", "copyFrom", "(LCreaturePond$Animal;)V"⟩
theorem hdX1_copyFrom : yX1_copyFrom.cls ≠ "java/lang/invoke/MethodHandle" ∧ yX1_copyFrom.cls ≠ "java/lang/invoke/VarHandle" ∧ (parseMethodDescriptor yX1_copyFrom.desc).map (fun d => d.parameters.length) = some 1 := by decide +kernel
abbrev cX0_back : ByteArray := prog_1_method_14_code
def yX0_back : MethodName := ⟨"CreaturePond", "back", "()Z"⟩
theorem hdX0_back : yX0_back.cls ≠ "java/lang/invoke/MethodHandle" ∧ yX0_back.cls ≠ "java/lang/invoke/VarHandle" ∧ (parseMethodDescriptor yX0_back.desc).map (fun d => d.parameters.length) = some 0 := by decide +kernel
abbrev cL_cell : ByteArray := method_2_code
def yL_cell : MethodName := ⟨"CreaturePondLaw", "cell", "([II)I"⟩
theorem hdL_cell : yL_cell.cls ≠ "java/lang/invoke/MethodHandle" ∧ yL_cell.cls ≠ "java/lang/invoke/VarHandle" ∧ (parseMethodDescriptor yL_cell.desc).map (fun d => d.parameters.length) = some 2 := by decide +kernel
abbrev cL_animal : ByteArray := method_3_code
def yL_animal : MethodName := ⟨"CreaturePondLaw", "animal", "(LCreaturePond;IIII[J)I"⟩
theorem hdL_animal : yL_animal.cls ≠ "java/lang/invoke/MethodHandle" ∧ yL_animal.cls ≠ "java/lang/invoke/VarHandle" ∧ (parseMethodDescriptor yL_animal.desc).map (fun d => d.parameters.length) = some 6 := by decide +kernel
abbrev cX0_animal : ByteArray := prog_1_method_5_code
def yX0_animal : MethodName := ⟨"CreaturePond", "animal", "(IIII)I"⟩
theorem hdX0_animal : yX0_animal.cls ≠ "java/lang/invoke/MethodHandle" ∧ yX0_animal.cls ≠ "java/lang/invoke/VarHandle" ∧ (parseMethodDescriptor yX0_animal.desc).map (fun d => d.parameters.length) = some 4 := by decide +kernel
abbrev cX4_freeNumber : ByteArray := prog_5_method_5_code
def yX4_freeNumber : MethodName := ⟨"CreaturePond$Pond", "freeNumber", "()I"⟩
theorem hdX4_freeNumber : yX4_freeNumber.cls ≠ "java/lang/invoke/MethodHandle" ∧ yX4_freeNumber.cls ≠ "java/lang/invoke/VarHandle" ∧ (parseMethodDescriptor yX4_freeNumber.desc).map (fun d => d.parameters.length) = some 0 := by decide +kernel
abbrev cX4_settle : ByteArray := prog_5_method_9_code
def yX4_settle : MethodName := ⟨"CreaturePond$Pond", "settle", "(IIII)LCreaturePond$Animal;"⟩
theorem hdX4_settle : yX4_settle.cls ≠ "java/lang/invoke/MethodHandle" ∧ yX4_settle.cls ≠ "java/lang/invoke/VarHandle" ∧ (parseMethodDescriptor yX4_settle.desc).map (fun d => d.parameters.length) = some 4 := by decide +kernel
abbrev cX1_begin : ByteArray := prog_2_method_2_code
def yX1_begin : MethodName := ⟨"CreaturePond$Animal", "begin", "(III)V"⟩
theorem hdX1_begin : yX1_begin.cls ≠ "java/lang/invoke/MethodHandle" ∧ yX1_begin.cls ≠ "java/lang/invoke/VarHandle" ∧ (parseMethodDescriptor yX1_begin.desc).map (fun d => d.parameters.length) = some 3 := by decide +kernel
abbrev cL_code : ByteArray := method_4_code
def yL_code : MethodName := ⟨"CreaturePondLaw", "code", "(LCreaturePond;IIJ[J)I"⟩
theorem hdL_code : yL_code.cls ≠ "java/lang/invoke/MethodHandle" ∧ yL_code.cls ≠ "java/lang/invoke/VarHandle" ∧ (parseMethodDescriptor yL_code.desc).map (fun d => d.parameters.length) = some 5 := by decide +kernel
abbrev cX0_code : ByteArray := prog_1_method_6_code
def yX0_code : MethodName := ⟨"CreaturePond", "code", "(IIJ)I"⟩
theorem hdX0_code : yX0_code.cls ≠ "java/lang/invoke/MethodHandle" ∧ yX0_code.cls ≠ "java/lang/invoke/VarHandle" ∧ (parseMethodDescriptor yX0_code.desc).map (fun d => d.parameters.length) = some 3 := by decide +kernel
abbrev cX1_grow : ByteArray := prog_2_method_4_code
def yX1_grow : MethodName := ⟨"CreaturePond$Animal", "grow", "(B)V"⟩
theorem hdX1_grow : yX1_grow.cls ≠ "java/lang/invoke/MethodHandle" ∧ yX1_grow.cls ≠ "java/lang/invoke/VarHandle" ∧ (parseMethodDescriptor yX1_grow.desc).map (fun d => d.parameters.length) = some 1 := by decide +kernel
abbrev cL_tick : ByteArray := method_5_code
def yL_tick : MethodName := ⟨"CreaturePondLaw", "tick", "(LCreaturePond;I[J)I"⟩
theorem hdL_tick : yL_tick.cls ≠ "java/lang/invoke/MethodHandle" ∧ yL_tick.cls ≠ "java/lang/invoke/VarHandle" ∧ (parseMethodDescriptor yL_tick.desc).map (fun d => d.parameters.length) = some 3 := by decide +kernel
abbrev cX0_tick : ByteArray := prog_1_method_7_code
def yX0_tick : MethodName := ⟨"CreaturePond", "tick", "(I)I"⟩
theorem hdX0_tick : yX0_tick.cls ≠ "java/lang/invoke/MethodHandle" ∧ yX0_tick.cls ≠ "java/lang/invoke/VarHandle" ∧ (parseMethodDescriptor yX0_tick.desc).map (fun d => d.parameters.length) = some 1 := by decide +kernel
abbrev cX4_shine : ByteArray := prog_5_method_12_code
def yX4_shine : MethodName := ⟨"CreaturePond$Pond", "shine", "()V"⟩
theorem hdX4_shine : yX4_shine.cls ≠ "java/lang/invoke/MethodHandle" ∧ yX4_shine.cls ≠ "java/lang/invoke/VarHandle" ∧ (parseMethodDescriptor yX4_shine.desc).map (fun d => d.parameters.length) = some 0 := by decide +kernel
abbrev cX3_moveAll : ByteArray := prog_4_method_2_code
def yX3_moveAll : MethodName := ⟨"CreaturePond$Mind", "moveAll", "()V"⟩
theorem hdX3_moveAll : yX3_moveAll.cls ≠ "java/lang/invoke/MethodHandle" ∧ yX3_moveAll.cls ≠ "java/lang/invoke/VarHandle" ∧ (parseMethodDescriptor yX3_moveAll.desc).map (fun d => d.parameters.length) = some 0 := by decide +kernel
abbrev cX3_move : ByteArray := prog_4_method_3_code
def yX3_move : MethodName := ⟨"CreaturePond$Mind", "move", "(LCreaturePond$Animal;)V"⟩
theorem hdX3_move : yX3_move.cls ≠ "java/lang/invoke/MethodHandle" ∧ yX3_move.cls ≠ "java/lang/invoke/VarHandle" ∧ (parseMethodDescriptor yX3_move.desc).map (fun d => d.parameters.length) = some 1 := by decide +kernel
abbrev cX4_pay : ByteArray := prog_5_method_10_code
def yX4_pay : MethodName := ⟨"CreaturePond$Pond", "pay", "(LCreaturePond$Animal;I)V"⟩
theorem hdX4_pay : yX4_pay.cls ≠ "java/lang/invoke/MethodHandle" ∧ yX4_pay.cls ≠ "java/lang/invoke/VarHandle" ∧ (parseMethodDescriptor yX4_pay.desc).map (fun d => d.parameters.length) = some 2 := by decide +kernel
abbrev cX3_operate : ByteArray := prog_4_method_4_code
def yX3_operate : MethodName := ⟨"CreaturePond$Mind", "operate", "(LCreaturePond$Animal;)Z"⟩
theorem hdX3_operate : yX3_operate.cls ≠ "java/lang/invoke/MethodHandle" ∧ yX3_operate.cls ≠ "java/lang/invoke/VarHandle" ∧ (parseMethodDescriptor yX3_operate.desc).map (fun d => d.parameters.length) = some 1 := by decide +kernel
abbrev cX1_geneBehindPlace : ByteArray := prog_2_method_6_code
def yX1_geneBehindPlace : MethodName := ⟨"CreaturePond$Animal", "geneBehindPlace", "(I)B"⟩
theorem hdX1_geneBehindPlace : yX1_geneBehindPlace.cls ≠ "java/lang/invoke/MethodHandle" ∧ yX1_geneBehindPlace.cls ≠ "java/lang/invoke/VarHandle" ∧ (parseMethodDescriptor yX1_geneBehindPlace.desc).map (fun d => d.parameters.length) = some 1 := by decide +kernel
abbrev cX1_wrapped : ByteArray := prog_2_method_5_code
def yX1_wrapped : MethodName := ⟨"CreaturePond$Animal", "wrapped", "(I)I"⟩
theorem hdX1_wrapped : yX1_wrapped.cls ≠ "java/lang/invoke/MethodHandle" ∧ yX1_wrapped.cls ≠ "java/lang/invoke/VarHandle" ∧ (parseMethodDescriptor yX1_wrapped.desc).map (fun d => d.parameters.length) = some 1 := by decide +kernel
abbrev cX3_act : ByteArray := prog_4_method_10_code
def yX3_act : MethodName := ⟨"CreaturePond$Mind", "act", "(LCreaturePond$Animal;IB)V"⟩
theorem hdX3_act : yX3_act.cls ≠ "java/lang/invoke/MethodHandle" ∧ yX3_act.cls ≠ "java/lang/invoke/VarHandle" ∧ (parseMethodDescriptor yX3_act.desc).map (fun d => d.parameters.length) = some 3 := by decide +kernel
abbrev cX3_goAhead : ByteArray := prog_4_method_11_code
def yX3_goAhead : MethodName := ⟨"CreaturePond$Mind", "goAhead", "(LCreaturePond$Animal;)V"⟩
theorem hdX3_goAhead : yX3_goAhead.cls ≠ "java/lang/invoke/MethodHandle" ∧ yX3_goAhead.cls ≠ "java/lang/invoke/VarHandle" ∧ (parseMethodDescriptor yX3_goAhead.desc).map (fun d => d.parameters.length) = some 1 := by decide +kernel
abbrev cX4_aheadOf : ByteArray := prog_5_method_3_code
def yX4_aheadOf : MethodName := ⟨"CreaturePond$Pond", "aheadOf", "(LCreaturePond$Animal;)I"⟩
theorem hdX4_aheadOf : yX4_aheadOf.cls ≠ "java/lang/invoke/MethodHandle" ∧ yX4_aheadOf.cls ≠ "java/lang/invoke/VarHandle" ∧ (parseMethodDescriptor yX4_aheadOf.desc).map (fun d => d.parameters.length) = some 1 := by decide +kernel
abbrev cX3_eat : ByteArray := prog_4_method_12_code
def yX3_eat : MethodName := ⟨"CreaturePond$Mind", "eat", "(LCreaturePond$Animal;)V"⟩
theorem hdX3_eat : yX3_eat.cls ≠ "java/lang/invoke/MethodHandle" ∧ yX3_eat.cls ≠ "java/lang/invoke/VarHandle" ∧ (parseMethodDescriptor yX3_eat.desc).map (fun d => d.parameters.length) = some 1 := by decide +kernel
abbrev cX3_give : ByteArray := prog_4_method_13_code
def yX3_give : MethodName := ⟨"CreaturePond$Mind", "give", "(LCreaturePond$Animal;I)V"⟩
theorem hdX3_give : yX3_give.cls ≠ "java/lang/invoke/MethodHandle" ∧ yX3_give.cls ≠ "java/lang/invoke/VarHandle" ∧ (parseMethodDescriptor yX3_give.desc).map (fun d => d.parameters.length) = some 2 := by decide +kernel
abbrev cX3_memoryIndex : ByteArray := prog_4_method_5_code
def yX3_memoryIndex : MethodName := ⟨"CreaturePond$Mind", "memoryIndex", "(LCreaturePond$Animal;B)I"⟩
theorem hdX3_memoryIndex : yX3_memoryIndex.cls ≠ "java/lang/invoke/MethodHandle" ∧ yX3_memoryIndex.cls ≠ "java/lang/invoke/VarHandle" ∧ (parseMethodDescriptor yX3_memoryIndex.desc).map (fun d => d.parameters.length) = some 2 := by decide +kernel
abbrev cX3_jump : ByteArray := prog_4_method_6_code
def yX3_jump : MethodName := ⟨"CreaturePond$Mind", "jump", "(LCreaturePond$Animal;B)V"⟩
theorem hdX3_jump : yX3_jump.cls ≠ "java/lang/invoke/MethodHandle" ∧ yX3_jump.cls ≠ "java/lang/invoke/VarHandle" ∧ (parseMethodDescriptor yX3_jump.desc).map (fun d => d.parameters.length) = some 2 := by decide +kernel
abbrev cX3_reckon : ByteArray := prog_4_method_7_code
def yX3_reckon : MethodName := ⟨"CreaturePond$Mind", "reckon", "(LCreaturePond$Animal;IBB)I"⟩
theorem hdX3_reckon : yX3_reckon.cls ≠ "java/lang/invoke/MethodHandle" ∧ yX3_reckon.cls ≠ "java/lang/invoke/VarHandle" ∧ (parseMethodDescriptor yX3_reckon.desc).map (fun d => d.parameters.length) = some 4 := by decide +kernel
abbrev cX3_seenAhead : ByteArray := prog_4_method_8_code
def yX3_seenAhead : MethodName := ⟨"CreaturePond$Mind", "seenAhead", "(LCreaturePond$Animal;I)I"⟩
theorem hdX3_seenAhead : yX3_seenAhead.cls ≠ "java/lang/invoke/MethodHandle" ∧ yX3_seenAhead.cls ≠ "java/lang/invoke/VarHandle" ∧ (parseMethodDescriptor yX3_seenAhead.desc).map (fun d => d.parameters.length) = some 2 := by decide +kernel
abbrev cX3_seenInside : ByteArray := prog_4_method_9_code
def yX3_seenInside : MethodName := ⟨"CreaturePond$Mind", "seenInside", "(LCreaturePond$Animal;I)I"⟩
theorem hdX3_seenInside : yX3_seenInside.cls ≠ "java/lang/invoke/MethodHandle" ∧ yX3_seenInside.cls ≠ "java/lang/invoke/VarHandle" ∧ (parseMethodDescriptor yX3_seenInside.desc).map (fun d => d.parameters.length) = some 2 := by decide +kernel
abbrev cX2_breedAll : ByteArray := prog_3_method_2_code
def yX2_breedAll : MethodName := ⟨"CreaturePond$Breeding", "breedAll", "()V"⟩
theorem hdX2_breedAll : yX2_breedAll.cls ≠ "java/lang/invoke/MethodHandle" ∧ yX2_breedAll.cls ≠ "java/lang/invoke/VarHandle" ∧ (parseMethodDescriptor yX2_breedAll.desc).map (fun d => d.parameters.length) = some 0 := by decide +kernel
abbrev cX2_greaterOfPair : ByteArray := prog_3_method_3_code
def yX2_greaterOfPair : MethodName := ⟨"CreaturePond$Breeding", "greaterOfPair", "(I)I"⟩
theorem hdX2_greaterOfPair : yX2_greaterOfPair.cls ≠ "java/lang/invoke/MethodHandle" ∧ yX2_greaterOfPair.cls ≠ "java/lang/invoke/VarHandle" ∧ (parseMethodDescriptor yX2_greaterOfPair.desc).map (fun d => d.parameters.length) = some 1 := by decide +kernel
abbrev cX2_breed : ByteArray := prog_3_method_4_code
def yX2_breed : MethodName := ⟨"CreaturePond$Breeding", "breed", "(II)V"⟩
theorem hdX2_breed : yX2_breed.cls ≠ "java/lang/invoke/MethodHandle" ∧ yX2_breed.cls ≠ "java/lang/invoke/VarHandle" ∧ (parseMethodDescriptor yX2_breed.desc).map (fun d => d.parameters.length) = some 2 := by decide +kernel
abbrev cX2_firstFreeAround : ByteArray := prog_3_method_5_code
def yX2_firstFreeAround : MethodName := ⟨"CreaturePond$Breeding", "firstFreeAround", "(I)I"⟩
theorem hdX2_firstFreeAround : yX2_firstFreeAround.cls ≠ "java/lang/invoke/MethodHandle" ∧ yX2_firstFreeAround.cls ≠ "java/lang/invoke/VarHandle" ∧ (parseMethodDescriptor yX2_firstFreeAround.desc).map (fun d => d.parameters.length) = some 1 := by decide +kernel
abbrev cX5_nextTo : ByteArray := prog_6_method_5_code
def yX5_nextTo : MethodName := ⟨"CreaturePond$Shape", "nextTo", "(II)I"⟩
theorem hdX5_nextTo : yX5_nextTo.cls ≠ "java/lang/invoke/MethodHandle" ∧ yX5_nextTo.cls ≠ "java/lang/invoke/VarHandle" ∧ (parseMethodDescriptor yX5_nextTo.desc).map (fun d => d.parameters.length) = some 2 := by decide +kernel
abbrev cX2_payAndHalve : ByteArray := prog_3_method_6_code
def yX2_payAndHalve : MethodName := ⟨"CreaturePond$Breeding", "payAndHalve", "(LCreaturePond$Animal;)I"⟩
theorem hdX2_payAndHalve : yX2_payAndHalve.cls ≠ "java/lang/invoke/MethodHandle" ∧ yX2_payAndHalve.cls ≠ "java/lang/invoke/VarHandle" ∧ (parseMethodDescriptor yX2_payAndHalve.desc).map (fun d => d.parameters.length) = some 1 := by decide +kernel
abbrev cX2_mixCode : ByteArray := prog_3_method_7_code
def yX2_mixCode : MethodName := ⟨"CreaturePond$Breeding", "mixCode", "(LCreaturePond$Animal;LCreaturePond$Animal;LCreaturePond$Animal;)V"⟩
theorem hdX2_mixCode : yX2_mixCode.cls ≠ "java/lang/invoke/MethodHandle" ∧ yX2_mixCode.cls ≠ "java/lang/invoke/VarHandle" ∧ (parseMethodDescriptor yX2_mixCode.desc).map (fun d => d.parameters.length) = some 3 := by decide +kernel
abbrev cX4_nextNumber : ByteArray := prog_5_method_11_code
def yX4_nextNumber : MethodName := ⟨"CreaturePond$Pond", "nextNumber", "()I"⟩
theorem hdX4_nextNumber : yX4_nextNumber.cls ≠ "java/lang/invoke/MethodHandle" ∧ yX4_nextNumber.cls ≠ "java/lang/invoke/VarHandle" ∧ (parseMethodDescriptor yX4_nextNumber.desc).map (fun d => d.parameters.length) = some 0 := by decide +kernel
abbrev cX2_growFrom : ByteArray := prog_3_method_8_code
def yX2_growFrom : MethodName := ⟨"CreaturePond$Breeding", "growFrom", "(LCreaturePond$Animal;LCreaturePond$Animal;II)V"⟩
theorem hdX2_growFrom : yX2_growFrom.cls ≠ "java/lang/invoke/MethodHandle" ∧ yX2_growFrom.cls ≠ "java/lang/invoke/VarHandle" ∧ (parseMethodDescriptor yX2_growFrom.desc).map (fun d => d.parameters.length) = some 4 := by decide +kernel
abbrev cX2_changeCode : ByteArray := prog_3_method_9_code
def yX2_changeCode : MethodName := ⟨"CreaturePond$Breeding", "changeCode", "(LCreaturePond$Animal;)V"⟩
theorem hdX2_changeCode : yX2_changeCode.cls ≠ "java/lang/invoke/MethodHandle" ∧ yX2_changeCode.cls ≠ "java/lang/invoke/VarHandle" ∧ (parseMethodDescriptor yX2_changeCode.desc).map (fun d => d.parameters.length) = some 1 := by decide +kernel
abbrev cX4_endDead : ByteArray := prog_5_method_13_code
def yX4_endDead : MethodName := ⟨"CreaturePond$Pond", "endDead", "()V"⟩
theorem hdX4_endDead : yX4_endDead.cls ≠ "java/lang/invoke/MethodHandle" ∧ yX4_endDead.cls ≠ "java/lang/invoke/VarHandle" ∧ (parseMethodDescriptor yX4_endDead.desc).map (fun d => d.parameters.length) = some 0 := by decide +kernel
abbrev cX4_end : ByteArray := prog_5_method_14_code
def yX4_end : MethodName := ⟨"CreaturePond$Pond", "end", "(LCreaturePond$Animal;)V"⟩
theorem hdX4_end : yX4_end.cls ≠ "java/lang/invoke/MethodHandle" ∧ yX4_end.cls ≠ "java/lang/invoke/VarHandle" ∧ (parseMethodDescriptor yX4_end.desc).map (fun d => d.parameters.length) = some 1 := by decide +kernel
abbrev cL_inner : ByteArray := method_6_code
def yL_inner : MethodName := ⟨"CreaturePondLaw", "inner", "(LCreaturePond;IZI[J)I"⟩
theorem hdL_inner : yL_inner.cls ≠ "java/lang/invoke/MethodHandle" ∧ yL_inner.cls ≠ "java/lang/invoke/VarHandle" ∧ (parseMethodDescriptor yL_inner.desc).map (fun d => d.parameters.length) = some 5 := by decide +kernel
abbrev cX0_inner : ByteArray := prog_1_method_10_code
def yX0_inner : MethodName := ⟨"CreaturePond", "inner", "(IZI)B"⟩
theorem hdX0_inner : yX0_inner.cls ≠ "java/lang/invoke/MethodHandle" ∧ yX0_inner.cls ≠ "java/lang/invoke/VarHandle" ∧ (parseMethodDescriptor yX0_inner.desc).map (fun d => d.parameters.length) = some 3 := by decide +kernel
abbrev cL_differ : ByteArray := method_7_code
def yL_differ : MethodName := ⟨"CreaturePondLaw", "differ", "(LCreaturePond;[J)I"⟩
theorem hdL_differ : yL_differ.cls ≠ "java/lang/invoke/MethodHandle" ∧ yL_differ.cls ≠ "java/lang/invoke/VarHandle" ∧ (parseMethodDescriptor yL_differ.desc).map (fun d => d.parameters.length) = some 2 := by decide +kernel
abbrev cX0_differ : ByteArray := prog_1_method_13_code
def yX0_differ : MethodName := ⟨"CreaturePond", "differ", "()I"⟩
theorem hdX0_differ : yX0_differ.cls ≠ "java/lang/invoke/MethodHandle" ∧ yX0_differ.cls ≠ "java/lang/invoke/VarHandle" ∧ (parseMethodDescriptor yX0_differ.desc).map (fun d => d.parameters.length) = some 0 := by decide +kernel
abbrev cX4_firstOther : ByteArray := prog_5_method_15_code
def yX4_firstOther : MethodName := ⟨"CreaturePond$Pond", "firstOther", "(LCreaturePond$Pond;)I"⟩
theorem hdX4_firstOther : yX4_firstOther.cls ≠ "java/lang/invoke/MethodHandle" ∧ yX4_firstOther.cls ≠ "java/lang/invoke/VarHandle" ∧ (parseMethodDescriptor yX4_firstOther.desc).map (fun d => d.parameters.length) = some 1 := by decide +kernel
abbrev cX4_hasOtherDweller : ByteArray := prog_5_method_16_code
def yX4_hasOtherDweller : MethodName := ⟨"CreaturePond$Pond", "hasOtherDweller", "(LCreaturePond$Pond;I)Z"⟩
theorem hdX4_hasOtherDweller : yX4_hasOtherDweller.cls ≠ "java/lang/invoke/MethodHandle" ∧ yX4_hasOtherDweller.cls ≠ "java/lang/invoke/VarHandle" ∧ (parseMethodDescriptor yX4_hasOtherDweller.desc).map (fun d => d.parameters.length) = some 2 := by decide +kernel
abbrev cX6_init : ByteArray := prog_8_method_1_code
def yX6_init : MethodName := ⟨"CreaturePondModel", "<init>", "(II)V"⟩
theorem hdX6_init : yX6_init.cls ≠ "java/lang/invoke/MethodHandle" ∧ yX6_init.cls ≠ "java/lang/invoke/VarHandle" ∧ (parseMethodDescriptor yX6_init.desc).map (fun d => d.parameters.length) = some 2 := by decide +kernel
abbrev cX6_thrown : ByteArray := prog_8_method_2_code
def yX6_thrown : MethodName := ⟨"CreaturePondModel", "thrown", "()I"⟩
theorem hdX6_thrown : yX6_thrown.cls ≠ "java/lang/invoke/MethodHandle" ∧ yX6_thrown.cls ≠ "java/lang/invoke/VarHandle" ∧ (parseMethodDescriptor yX6_thrown.desc).map (fun d => d.parameters.length) = some 0 := by decide +kernel
abbrev cX6_set : ByteArray := prog_8_method_29_code
def yX6_set : MethodName := ⟨"CreaturePondModel", "set", "(II)Z"⟩
theorem hdX6_set : yX6_set.cls ≠ "java/lang/invoke/MethodHandle" ∧ yX6_set.cls ≠ "java/lang/invoke/VarHandle" ∧ (parseMethodDescriptor yX6_set.desc).map (fun d => d.parameters.length) = some 2 := by decide +kernel
abbrev cX6_store : ByteArray := prog_8_method_30_code
def yX6_store : MethodName := ⟨"CreaturePondModel", "store", "(I)Z"⟩
theorem hdX6_store : yX6_store.cls ≠ "java/lang/invoke/MethodHandle" ∧ yX6_store.cls ≠ "java/lang/invoke/VarHandle" ∧ (parseMethodDescriptor yX6_store.desc).map (fun d => d.parameters.length) = some 1 := by decide +kernel
abbrev cX6_grain : ByteArray := prog_8_method_31_code
def yX6_grain : MethodName := ⟨"CreaturePondModel", "grain", "(III)Z"⟩
theorem hdX6_grain : yX6_grain.cls ≠ "java/lang/invoke/MethodHandle" ∧ yX6_grain.cls ≠ "java/lang/invoke/VarHandle" ∧ (parseMethodDescriptor yX6_grain.desc).map (fun d => d.parameters.length) = some 3 := by decide +kernel
abbrev cX6_cellAt : ByteArray := prog_8_method_5_code
def yX6_cellAt : MethodName := ⟨"CreaturePondModel", "cellAt", "(II)I"⟩
theorem hdX6_cellAt : yX6_cellAt.cls ≠ "java/lang/invoke/MethodHandle" ∧ yX6_cellAt.cls ≠ "java/lang/invoke/VarHandle" ∧ (parseMethodDescriptor yX6_cellAt.desc).map (fun d => d.parameters.length) = some 2 := by decide +kernel
abbrev cX6_round : ByteArray := prog_8_method_3_code
def yX6_round : MethodName := ⟨"CreaturePondModel", "round", "(II)I"⟩
theorem hdX6_round : yX6_round.cls ≠ "java/lang/invoke/MethodHandle" ∧ yX6_round.cls ≠ "java/lang/invoke/VarHandle" ∧ (parseMethodDescriptor yX6_round.desc).map (fun d => d.parameters.length) = some 2 := by decide +kernel
abbrev cX6_animal : ByteArray := prog_8_method_32_code
def yX6_animal : MethodName := ⟨"CreaturePondModel", "animal", "(IIII)I"⟩
theorem hdX6_animal : yX6_animal.cls ≠ "java/lang/invoke/MethodHandle" ∧ yX6_animal.cls ≠ "java/lang/invoke/VarHandle" ∧ (parseMethodDescriptor yX6_animal.desc).map (fun d => d.parameters.length) = some 4 := by decide +kernel
abbrev cX6_inCell : ByteArray := prog_8_method_9_code
def yX6_inCell : MethodName := ⟨"CreaturePondModel", "inCell", "(I)I"⟩
theorem hdX6_inCell : yX6_inCell.cls ≠ "java/lang/invoke/MethodHandle" ∧ yX6_inCell.cls ≠ "java/lang/invoke/VarHandle" ∧ (parseMethodDescriptor yX6_inCell.desc).map (fun d => d.parameters.length) = some 1 := by decide +kernel
abbrev cX6_at : ByteArray := prog_8_method_6_code
def yX6_at : MethodName := ⟨"CreaturePondModel", "at", "(I)I"⟩
theorem hdX6_at : yX6_at.cls ≠ "java/lang/invoke/MethodHandle" ∧ yX6_at.cls ≠ "java/lang/invoke/VarHandle" ∧ (parseMethodDescriptor yX6_at.desc).map (fun d => d.parameters.length) = some 1 := by decide +kernel
abbrev cX6_free : ByteArray := prog_8_method_13_code
def yX6_free : MethodName := ⟨"CreaturePondModel", "free", "()I"⟩
theorem hdX6_free : yX6_free.cls ≠ "java/lang/invoke/MethodHandle" ∧ yX6_free.cls ≠ "java/lang/invoke/VarHandle" ∧ (parseMethodDescriptor yX6_free.desc).map (fun d => d.parameters.length) = some 0 := by decide +kernel
abbrev cX6_lives : ByteArray := prog_8_method_7_code
def yX6_lives : MethodName := ⟨"CreaturePondModel", "lives", "(I)Z"⟩
theorem hdX6_lives : yX6_lives.cls ≠ "java/lang/invoke/MethodHandle" ∧ yX6_lives.cls ≠ "java/lang/invoke/VarHandle" ∧ (parseMethodDescriptor yX6_lives.desc).map (fun d => d.parameters.length) = some 1 := by decide +kernel
abbrev cX6_make : ByteArray := prog_8_method_14_code
def yX6_make : MethodName := ⟨"CreaturePondModel", "make", "(IIII)V"⟩
theorem hdX6_make : yX6_make.cls ≠ "java/lang/invoke/MethodHandle" ∧ yX6_make.cls ≠ "java/lang/invoke/VarHandle" ∧ (parseMethodDescriptor yX6_make.desc).map (fun d => d.parameters.length) = some 4 := by decide +kernel
abbrev cX6_code : ByteArray := prog_8_method_33_code
def yX6_code : MethodName := ⟨"CreaturePondModel", "code", "(IIJ)I"⟩
theorem hdX6_code : yX6_code.cls ≠ "java/lang/invoke/MethodHandle" ∧ yX6_code.cls ≠ "java/lang/invoke/VarHandle" ∧ (parseMethodDescriptor yX6_code.desc).map (fun d => d.parameters.length) = some 3 := by decide +kernel
abbrev cX6_tick : ByteArray := prog_8_method_34_code
def yX6_tick : MethodName := ⟨"CreaturePondModel", "tick", "(I)I"⟩
theorem hdX6_tick : yX6_tick.cls ≠ "java/lang/invoke/MethodHandle" ∧ yX6_tick.cls ≠ "java/lang/invoke/VarHandle" ∧ (parseMethodDescriptor yX6_tick.desc).map (fun d => d.parameters.length) = some 1 := by decide +kernel
abbrev cX6_pass : ByteArray := prog_8_method_28_code
def yX6_pass : MethodName := ⟨"CreaturePondModel", "pass", "()V"⟩
theorem hdX6_pass : yX6_pass.cls ≠ "java/lang/invoke/MethodHandle" ∧ yX6_pass.cls ≠ "java/lang/invoke/VarHandle" ∧ (parseMethodDescriptor yX6_pass.desc).map (fun d => d.parameters.length) = some 0 := by decide +kernel
abbrev cX6_shine : ByteArray := prog_8_method_23_code
def yX6_shine : MethodName := ⟨"CreaturePondModel", "shine", "()V"⟩
theorem hdX6_shine : yX6_shine.cls ≠ "java/lang/invoke/MethodHandle" ∧ yX6_shine.cls ≠ "java/lang/invoke/VarHandle" ∧ (parseMethodDescriptor yX6_shine.desc).map (fun d => d.parameters.length) = some 0 := by decide +kernel
abbrev cX6_live : ByteArray := prog_8_method_24_code
def yX6_live : MethodName := ⟨"CreaturePondModel", "live", "(I)V"⟩
theorem hdX6_live : yX6_live.cls ≠ "java/lang/invoke/MethodHandle" ∧ yX6_live.cls ≠ "java/lang/invoke/VarHandle" ∧ (parseMethodDescriptor yX6_live.desc).map (fun d => d.parameters.length) = some 1 := by decide +kernel
abbrev cX6_pay : ByteArray := prog_8_method_15_code
def yX6_pay : MethodName := ⟨"CreaturePondModel", "pay", "(II)V"⟩
theorem hdX6_pay : yX6_pay.cls ≠ "java/lang/invoke/MethodHandle" ∧ yX6_pay.cls ≠ "java/lang/invoke/VarHandle" ∧ (parseMethodDescriptor yX6_pay.desc).map (fun d => d.parameters.length) = some 2 := by decide +kernel
abbrev cX6_least : ByteArray := prog_8_method_4_code
def yX6_least : MethodName := ⟨"CreaturePondModel", "least", "(II)I"⟩
theorem hdX6_least : yX6_least.cls ≠ "java/lang/invoke/MethodHandle" ∧ yX6_least.cls ≠ "java/lang/invoke/VarHandle" ∧ (parseMethodDescriptor yX6_least.desc).map (fun d => d.parameters.length) = some 2 := by decide +kernel
abbrev cX6_operate : ByteArray := prog_8_method_22_code
def yX6_operate : MethodName := ⟨"CreaturePondModel", "operate", "(I)Z"⟩
theorem hdX6_operate : yX6_operate.cls ≠ "java/lang/invoke/MethodHandle" ∧ yX6_operate.cls ≠ "java/lang/invoke/VarHandle" ∧ (parseMethodDescriptor yX6_operate.desc).map (fun d => d.parameters.length) = some 1 := by decide +kernel
abbrev cX6_codeAt : ByteArray := prog_8_method_17_code
def yX6_codeAt : MethodName := ⟨"CreaturePondModel", "codeAt", "(II)I"⟩
theorem hdX6_codeAt : yX6_codeAt.cls ≠ "java/lang/invoke/MethodHandle" ∧ yX6_codeAt.cls ≠ "java/lang/invoke/VarHandle" ∧ (parseMethodDescriptor yX6_codeAt.desc).map (fun d => d.parameters.length) = some 2 := by decide +kernel
abbrev cX6_operands : ByteArray := prog_8_method_16_code
def yX6_operands : MethodName := ⟨"CreaturePondModel", "operands", "(I)I"⟩
theorem hdX6_operands : yX6_operands.cls ≠ "java/lang/invoke/MethodHandle" ∧ yX6_operands.cls ≠ "java/lang/invoke/VarHandle" ∧ (parseMethodDescriptor yX6_operands.desc).map (fun d => d.parameters.length) = some 1 := by decide +kernel
abbrev cX6_act : ByteArray := prog_8_method_21_code
def yX6_act : MethodName := ⟨"CreaturePondModel", "act", "(III)V"⟩
theorem hdX6_act : yX6_act.cls ≠ "java/lang/invoke/MethodHandle" ∧ yX6_act.cls ≠ "java/lang/invoke/VarHandle" ∧ (parseMethodDescriptor yX6_act.desc).map (fun d => d.parameters.length) = some 3 := by decide +kernel
abbrev cX6_ahead : ByteArray := prog_8_method_11_code
def yX6_ahead : MethodName := ⟨"CreaturePondModel", "ahead", "(I)I"⟩
theorem hdX6_ahead : yX6_ahead.cls ≠ "java/lang/invoke/MethodHandle" ∧ yX6_ahead.cls ≠ "java/lang/invoke/VarHandle" ∧ (parseMethodDescriptor yX6_ahead.desc).map (fun d => d.parameters.length) = some 1 := by decide +kernel
abbrev cX6_beside : ByteArray := prog_8_method_10_code
def yX6_beside : MethodName := ⟨"CreaturePondModel", "beside", "(II)I"⟩
theorem hdX6_beside : yX6_beside.cls ≠ "java/lang/invoke/MethodHandle" ∧ yX6_beside.cls ≠ "java/lang/invoke/VarHandle" ∧ (parseMethodDescriptor yX6_beside.desc).map (fun d => d.parameters.length) = some 2 := by decide +kernel
abbrev cX6_reckon : ByteArray := prog_8_method_20_code
def yX6_reckon : MethodName := ⟨"CreaturePondModel", "reckon", "(IIII)I"⟩
theorem hdX6_reckon : yX6_reckon.cls ≠ "java/lang/invoke/MethodHandle" ∧ yX6_reckon.cls ≠ "java/lang/invoke/VarHandle" ∧ (parseMethodDescriptor yX6_reckon.desc).map (fun d => d.parameters.length) = some 4 := by decide +kernel
abbrev cX6_looks : ByteArray := prog_8_method_18_code
def yX6_looks : MethodName := ⟨"CreaturePondModel", "looks", "(II)I"⟩
theorem hdX6_looks : yX6_looks.cls ≠ "java/lang/invoke/MethodHandle" ∧ yX6_looks.cls ≠ "java/lang/invoke/VarHandle" ∧ (parseMethodDescriptor yX6_looks.desc).map (fun d => d.parameters.length) = some 2 := by decide +kernel
abbrev cX6_feels : ByteArray := prog_8_method_19_code
def yX6_feels : MethodName := ⟨"CreaturePondModel", "feels", "(II)I"⟩
theorem hdX6_feels : yX6_feels.cls ≠ "java/lang/invoke/MethodHandle" ∧ yX6_feels.cls ≠ "java/lang/invoke/VarHandle" ∧ (parseMethodDescriptor yX6_feels.desc).map (fun d => d.parameters.length) = some 2 := by decide +kernel
abbrev cX6_breed : ByteArray := prog_8_method_26_code
def yX6_breed : MethodName := ⟨"CreaturePondModel", "breed", "(II)V"⟩
theorem hdX6_breed : yX6_breed.cls ≠ "java/lang/invoke/MethodHandle" ∧ yX6_breed.cls ≠ "java/lang/invoke/VarHandle" ∧ (parseMethodDescriptor yX6_breed.desc).map (fun d => d.parameters.length) = some 2 := by decide +kernel
abbrev cX6_inherit : ByteArray := prog_8_method_25_code
def yX6_inherit : MethodName := ⟨"CreaturePondModel", "inherit", "(III)V"⟩
theorem hdX6_inherit : yX6_inherit.cls ≠ "java/lang/invoke/MethodHandle" ∧ yX6_inherit.cls ≠ "java/lang/invoke/VarHandle" ∧ (parseMethodDescriptor yX6_inherit.desc).map (fun d => d.parameters.length) = some 3 := by decide +kernel
abbrev cX6_next : ByteArray := prog_8_method_12_code
def yX6_next : MethodName := ⟨"CreaturePondModel", "next", "()I"⟩
theorem hdX6_next : yX6_next.cls ≠ "java/lang/invoke/MethodHandle" ∧ yX6_next.cls ≠ "java/lang/invoke/VarHandle" ∧ (parseMethodDescriptor yX6_next.desc).map (fun d => d.parameters.length) = some 0 := by decide +kernel
abbrev cX6_die : ByteArray := prog_8_method_27_code
def yX6_die : MethodName := ⟨"CreaturePondModel", "die", "(I)V"⟩
theorem hdX6_die : yX6_die.cls ≠ "java/lang/invoke/MethodHandle" ∧ yX6_die.cls ≠ "java/lang/invoke/VarHandle" ∧ (parseMethodDescriptor yX6_die.desc).map (fun d => d.parameters.length) = some 1 := by decide +kernel
abbrev cX6_animals : ByteArray := prog_8_method_8_code
def yX6_animals : MethodName := ⟨"CreaturePondModel", "animals", "()I"⟩
theorem hdX6_animals : yX6_animals.cls ≠ "java/lang/invoke/MethodHandle" ∧ yX6_animals.cls ≠ "java/lang/invoke/VarHandle" ∧ (parseMethodDescriptor yX6_animals.desc).map (fun d => d.parameters.length) = some 0 := by decide +kernel
abbrev cX6_cell : ByteArray := prog_8_method_35_code
def yX6_cell : MethodName := ⟨"CreaturePondModel", "cell", "(III)I"⟩
theorem hdX6_cell : yX6_cell.cls ≠ "java/lang/invoke/MethodHandle" ∧ yX6_cell.cls ≠ "java/lang/invoke/VarHandle" ∧ (parseMethodDescriptor yX6_cell.desc).map (fun d => d.parameters.length) = some 3 := by decide +kernel
abbrev cX6_field : ByteArray := prog_8_method_36_code
def yX6_field : MethodName := ⟨"CreaturePondModel", "field", "(II)I"⟩
theorem hdX6_field : yX6_field.cls ≠ "java/lang/invoke/MethodHandle" ∧ yX6_field.cls ≠ "java/lang/invoke/VarHandle" ∧ (parseMethodDescriptor yX6_field.desc).map (fun d => d.parameters.length) = some 2 := by decide +kernel
abbrev cX6_inner : ByteArray := prog_8_method_37_code
def yX6_inner : MethodName := ⟨"CreaturePondModel", "inner", "(IZI)B"⟩
theorem hdX6_inner : yX6_inner.cls ≠ "java/lang/invoke/MethodHandle" ∧ yX6_inner.cls ≠ "java/lang/invoke/VarHandle" ∧ (parseMethodDescriptor yX6_inner.desc).map (fun d => d.parameters.length) = some 3 := by decide +kernel
abbrev cX6_total : ByteArray := prog_8_method_38_code
def yX6_total : MethodName := ⟨"CreaturePondModel", "total", "(I)I"⟩
theorem hdX6_total : yX6_total.cls ≠ "java/lang/invoke/MethodHandle" ∧ yX6_total.cls ≠ "java/lang/invoke/VarHandle" ∧ (parseMethodDescriptor yX6_total.desc).map (fun d => d.parameters.length) = some 1 := by decide +kernel
abbrev cX6_keep : ByteArray := prog_8_method_39_code
def yX6_keep : MethodName := ⟨"CreaturePondModel", "keep", "()V"⟩
theorem hdX6_keep : yX6_keep.cls ≠ "java/lang/invoke/MethodHandle" ∧ yX6_keep.cls ≠ "java/lang/invoke/VarHandle" ∧ (parseMethodDescriptor yX6_keep.desc).map (fun d => d.parameters.length) = some 0 := by decide +kernel
abbrev cX6_differ : ByteArray := prog_8_method_41_code
def yX6_differ : MethodName := ⟨"CreaturePondModel", "differ", "()I"⟩
theorem hdX6_differ : yX6_differ.cls ≠ "java/lang/invoke/MethodHandle" ∧ yX6_differ.cls ≠ "java/lang/invoke/VarHandle" ∧ (parseMethodDescriptor yX6_differ.desc).map (fun d => d.parameters.length) = some 0 := by decide +kernel
abbrev cX6_wasIn : ByteArray := prog_8_method_40_code
def yX6_wasIn : MethodName := ⟨"CreaturePondModel", "wasIn", "(I)I"⟩
theorem hdX6_wasIn : yX6_wasIn.cls ≠ "java/lang/invoke/MethodHandle" ∧ yX6_wasIn.cls ≠ "java/lang/invoke/VarHandle" ∧ (parseMethodDescriptor yX6_wasIn.desc).map (fun d => d.parameters.length) = some 1 := by decide +kernel
abbrev cX6_back : ByteArray := prog_8_method_42_code
def yX6_back : MethodName := ⟨"CreaturePondModel", "back", "()Z"⟩
theorem hdX6_back : yX6_back.cls ≠ "java/lang/invoke/MethodHandle" ∧ yX6_back.cls ≠ "java/lang/invoke/VarHandle" ∧ (parseMethodDescriptor yX6_back.desc).map (fun d => d.parameters.length) = some 0 := by decide +kernel
abbrev vwCl : List vw_C := [("CreaturePond", TX0, 6), ("CreaturePond$Animal", TX1, 14), ("CreaturePond$Breeding", TX2, 1), ("CreaturePond$Mind", TX3, 1), ("CreaturePond$Pond", TX4, 12), ("CreaturePond$Shape", TX5, 4), ("CreaturePondModel", TX6, 6)]
/-! the words: one list for all methods, a membership row a word -/
def cpT_0 : List Cond := [Cond.initialized "CreaturePondLaw", Cond.initialized "CreaturePond", Cond.initialized "CreaturePond$Shape", Cond.initialized "java/lang/Math", Cond.initialized "CreaturePond$Pond", Cond.initialized "CreaturePond$Animal", Cond.initialized "CreaturePond$Mind", Cond.initialized "CreaturePond$Breeding", Cond.initialized "CreaturePondModel", Cond.initialized "java/lang/Throwable", Cond.initialized "java/lang/Exception", Cond.initialized "java/lang/RuntimeException", Cond.initialized "java/lang/IllegalArgumentException", Cond.initialized "java/lang/IllegalStateException", Cond.initialized "java/lang/IndexOutOfBoundsException", Cond.initialized "java/lang/System", Cond.classLink "CreaturePondLaw" 8 "CreaturePond", Cond.instantiable "CreaturePond" 6, Cond.methodLink "CreaturePondLaw" 41 yX0_init, Cond.instanceMethod yX0_init]
def cpT_1 : List Cond := [Cond.code yX0_init cX0_init 3 none, Cond.methodLink "CreaturePond" 1 objectInit, Cond.instanceMethod objectInit, Cond.code objectInit ⟨#[0xb1]⟩ 1 none, Cond.classLink "CreaturePond" 7 "CreaturePond$Shape", Cond.instantiable "CreaturePond$Shape" 4, Cond.methodLink "CreaturePond" 11 Lib.Math.min.name, Cond.static Lib.Math.min.name, Cond.code Lib.Math.min.name Lib.Math.min.code 2 (some .int), Cond.methodLink "CreaturePond" 17 Lib.Math.max.name, Cond.static Lib.Math.max.name, Cond.code Lib.Math.max.name Lib.Math.max.code 2 (some .int), Cond.instanceMethod yX5_init, Cond.code yX5_init cX5_init 6 none, Cond.methodLink "CreaturePond$Shape" 3 objectInit, Cond.methodLink "CreaturePond$Shape" 25 yX5_columnOf, Cond.instanceMethod yX5_columnOf, Cond.code yX5_columnOf cX5_columnOf 2 (some .int), Cond.fieldLink "CreaturePond$Shape" 29 "CreaturePond$Shape" "STEP_X" "[I", Cond.methodLink "CreaturePond$Shape" 32 yX5_rowOf]
def cpT_2 : List Cond := [Cond.instanceMethod yX5_rowOf, Cond.code yX5_rowOf cX5_rowOf 2 (some .int), Cond.fieldLink "CreaturePond$Shape" 35 "CreaturePond$Shape" "STEP_Y" "[I", Cond.methodLink "CreaturePond$Shape" 38 yX5_cellAt, Cond.instanceMethod yX5_cellAt, Cond.code yX5_cellAt cX5_cellAt 3 (some .int), Cond.methodLink "CreaturePond$Shape" 42 yJ_floorMod, Cond.static yJ_floorMod, Cond.code yJ_floorMod cJ_floorMod 3 (some .int), Cond.fieldLink "CreaturePond$Shape" 9 "CreaturePond$Shape" "width" "I", Cond.fieldLink "CreaturePond$Shape" 15 "CreaturePond$Shape" "height" "I", Cond.fieldLink "CreaturePond$Shape" 18 "CreaturePond$Shape" "cells" "I", Cond.fieldLink "CreaturePond$Shape" 21 "CreaturePond$Shape" "neighbours" "[I", Cond.laysFinal "CreaturePond$Shape" "CreaturePond$Shape" "width" "I", Cond.laysFinal "CreaturePond$Shape" "CreaturePond$Shape" "height" "I", Cond.laysFinal "CreaturePond$Shape" "CreaturePond$Shape" "cells" "I", Cond.laysFinal "CreaturePond$Shape" "CreaturePond$Shape" "neighbours" "[I", Cond.arrayClass .int, Cond.classLink "CreaturePond" 27 "CreaturePond$Pond", Cond.instantiable "CreaturePond$Pond" 12]
def cpT_3 : List Cond := [Cond.instanceMethod yX4_init, Cond.code yX4_init cX4_init 3 none, Cond.methodLink "CreaturePond$Pond" 3 objectInit, Cond.classLink "CreaturePond$Pond" 9 "CreaturePond$Animal", Cond.instantiable "CreaturePond$Animal" 14, Cond.instanceMethod yX1_init, Cond.code yX1_init cX1_init 1 none, Cond.methodLink "CreaturePond$Animal" 3 objectInit, Cond.fieldLink "CreaturePond$Animal" 9 "CreaturePond$Animal" "registers" "[B", Cond.fieldLink "CreaturePond$Animal" 15 "CreaturePond$Animal" "memory" "[B", Cond.fieldLink "CreaturePond$Animal" 18 "CreaturePond$Animal" "genes" "[B", Cond.fieldLink "CreaturePond$Animal" 21 "CreaturePond$Animal" "lives" "Z", Cond.fieldLink "CreaturePond$Animal" 25 "CreaturePond$Animal" "asked" "Z", Cond.fieldLink "CreaturePond$Animal" 28 "CreaturePond$Animal" "home" "I", Cond.fieldLink "CreaturePond$Animal" 32 "CreaturePond$Animal" "heading" "I", Cond.fieldLink "CreaturePond$Animal" 35 "CreaturePond$Animal" "energy" "I", Cond.fieldLink "CreaturePond$Animal" 38 "CreaturePond$Animal" "age" "I", Cond.fieldLink "CreaturePond$Animal" 41 "CreaturePond$Animal" "length" "I", Cond.fieldLink "CreaturePond$Animal" 44 "CreaturePond$Animal" "place" "I", Cond.fieldLink "CreaturePond$Animal" 47 "CreaturePond$Animal" "firstParent" "I"]
def cpT_4 : List Cond := [Cond.fieldLink "CreaturePond$Animal" 50 "CreaturePond$Animal" "secondParent" "I", Cond.fieldLink "CreaturePond$Animal" 53 "CreaturePond$Animal" "generation" "I", Cond.laysFinal "CreaturePond$Animal" "CreaturePond$Animal" "registers" "[B", Cond.laysFinal "CreaturePond$Animal" "CreaturePond$Animal" "memory" "[B", Cond.laysFinal "CreaturePond$Animal" "CreaturePond$Animal" "genes" "[B", Cond.lays "CreaturePond$Animal" "CreaturePond$Animal" "lives" "Z", Cond.lays "CreaturePond$Animal" "CreaturePond$Animal" "asked" "Z", Cond.lays "CreaturePond$Animal" "CreaturePond$Animal" "home" "I", Cond.lays "CreaturePond$Animal" "CreaturePond$Animal" "heading" "I", Cond.lays "CreaturePond$Animal" "CreaturePond$Animal" "energy" "I", Cond.lays "CreaturePond$Animal" "CreaturePond$Animal" "age" "I", Cond.lays "CreaturePond$Animal" "CreaturePond$Animal" "length" "I", Cond.lays "CreaturePond$Animal" "CreaturePond$Animal" "place" "I", Cond.lays "CreaturePond$Animal" "CreaturePond$Animal" "firstParent" "I", Cond.lays "CreaturePond$Animal" "CreaturePond$Animal" "secondParent" "I", Cond.lays "CreaturePond$Animal" "CreaturePond$Animal" "generation" "I", Cond.arrayClass .byte, Cond.fieldLink "CreaturePond$Pond" 17 "CreaturePond$Pond" "shape" "LCreaturePond$Shape;", Cond.fieldLink "CreaturePond$Pond" 27 "CreaturePond$Pond" "grains" "[I", Cond.fieldLink "CreaturePond$Pond" 31 "CreaturePond$Pond" "marks" "[B"]
def cpT_5 : List Cond := [Cond.fieldLink "CreaturePond$Pond" 35 "CreaturePond$Pond" "dwellers" "[I", Cond.fieldLink "CreaturePond$Pond" 11 "CreaturePond$Pond" "animals" "[LCreaturePond$Animal;", Cond.fieldLink "CreaturePond$Pond" 49 "CreaturePond$Pond" "stored" "I", Cond.fieldLink "CreaturePond$Pond" 52 "CreaturePond$Pond" "sun" "I", Cond.fieldLink "CreaturePond$Pond" 55 "CreaturePond$Pond" "stream" "I", Cond.fieldLink "CreaturePond$Pond" 58 "CreaturePond$Pond" "turn" "I", Cond.fieldLink "CreaturePond$Pond" 61 "CreaturePond$Pond" "births" "I", Cond.fieldLink "CreaturePond$Pond" 64 "CreaturePond$Pond" "deaths" "I", Cond.fieldLink "CreaturePond$Pond" 67 "CreaturePond$Pond" "ticks" "I", Cond.laysFinal "CreaturePond$Pond" "CreaturePond$Pond" "shape" "LCreaturePond$Shape;", Cond.laysFinal "CreaturePond$Pond" "CreaturePond$Pond" "grains" "[I", Cond.laysFinal "CreaturePond$Pond" "CreaturePond$Pond" "marks" "[B", Cond.laysFinal "CreaturePond$Pond" "CreaturePond$Pond" "dwellers" "[I", Cond.laysFinal "CreaturePond$Pond" "CreaturePond$Pond" "animals" "[LCreaturePond$Animal;", Cond.lays "CreaturePond$Pond" "CreaturePond$Pond" "stored" "I", Cond.lays "CreaturePond$Pond" "CreaturePond$Pond" "sun" "I", Cond.lays "CreaturePond$Pond" "CreaturePond$Pond" "stream" "I", Cond.lays "CreaturePond$Pond" "CreaturePond$Pond" "turn" "I", Cond.lays "CreaturePond$Pond" "CreaturePond$Pond" "births" "I", Cond.lays "CreaturePond$Pond" "CreaturePond$Pond" "deaths" "I"]
def cpT_6 : List Cond := [Cond.lays "CreaturePond$Pond" "CreaturePond$Pond" "ticks" "I", Cond.classLink "CreaturePond" 39 "CreaturePond$Mind", Cond.instantiable "CreaturePond$Mind" 1, Cond.instanceMethod yX3_init, Cond.code yX3_init cX3_init 2 none, Cond.methodLink "CreaturePond$Mind" 5 objectInit, Cond.fieldLink "CreaturePond$Mind" 11 "CreaturePond$Mind" "pond" "LCreaturePond$Pond;", Cond.laysFinal "CreaturePond$Mind" "CreaturePond$Mind" "pond" "LCreaturePond$Pond;", Cond.classLink "CreaturePond" 48 "CreaturePond$Breeding", Cond.instantiable "CreaturePond$Breeding" 1, Cond.instanceMethod yX2_init, Cond.code yX2_init cX2_init 2 none, Cond.methodLink "CreaturePond$Breeding" 3 objectInit, Cond.fieldLink "CreaturePond$Breeding" 9 "CreaturePond$Breeding" "pond" "LCreaturePond$Pond;", Cond.laysFinal "CreaturePond$Breeding" "CreaturePond$Breeding" "pond" "LCreaturePond$Pond;", Cond.fieldLink "CreaturePond" 23 "CreaturePond" "shape" "LCreaturePond$Shape;", Cond.fieldLink "CreaturePond" 32 "CreaturePond" "now" "LCreaturePond$Pond;", Cond.fieldLink "CreaturePond" 36 "CreaturePond" "kept" "LCreaturePond$Pond;", Cond.fieldLink "CreaturePond" 44 "CreaturePond" "mind" "LCreaturePond$Mind;", Cond.fieldLink "CreaturePond" 51 "CreaturePond" "breeding" "LCreaturePond$Breeding;"]
def cpT_7 : List Cond := [Cond.fieldLink "CreaturePond" 188 "CreaturePond" "isKept" "Z", Cond.laysFinal "CreaturePond" "CreaturePond" "shape" "LCreaturePond$Shape;", Cond.laysFinal "CreaturePond" "CreaturePond" "now" "LCreaturePond$Pond;", Cond.laysFinal "CreaturePond" "CreaturePond" "kept" "LCreaturePond$Pond;", Cond.laysFinal "CreaturePond" "CreaturePond" "mind" "LCreaturePond$Mind;", Cond.laysFinal "CreaturePond" "CreaturePond" "breeding" "LCreaturePond$Breeding;", Cond.lays "CreaturePond" "CreaturePond" "isKept" "Z", Cond.methodLink "CreaturePondLaw" 47 yX0_set, Cond.instanceMethod yX0_set, Cond.selects "CreaturePond" yX0_set yX0_set, Cond.code yX0_set cX0_set 3 (some .boolean), Cond.methodLink "CreaturePondLaw" 52 yX0_store, Cond.instanceMethod yX0_store, Cond.selects "CreaturePond" yX0_store yX0_store, Cond.code yX0_store cX0_store 2 (some .boolean), Cond.constant "CreaturePond" 65 (1000000 : Int32), Cond.methodLink "CreaturePondLaw" 57 yX0_grain, Cond.instanceMethod yX0_grain, Cond.selects "CreaturePond" yX0_grain yX0_grain, Cond.code yX0_grain cX0_grain 4 (some .boolean)]
def cpT_8 : List Cond := [Cond.methodLink "CreaturePondLaw" 79 yX0_cell, Cond.instanceMethod yX0_cell, Cond.selects "CreaturePond" yX0_cell yX0_cell, Cond.code yX0_cell cX0_cell 5 (some .int), Cond.methodLink "CreaturePondLaw" 83 yX0_field, Cond.instanceMethod yX0_field, Cond.selects "CreaturePond" yX0_field yX0_field, Cond.code yX0_field cX0_field 4 (some .int), Cond.instanceMethod yX4_has, Cond.code yX4_has cX4_has 2 (some .boolean), Cond.instanceMethod yX1_trait, Cond.code yX1_trait cX1_trait 2 (some .int), Cond.methodLink "CreaturePondLaw" 92 yX0_total, Cond.instanceMethod yX0_total, Cond.selects "CreaturePond" yX0_total yX0_total, Cond.code yX0_total cX0_total 2 (some .int), Cond.instanceMethod yX4_energyOfAll, Cond.code yX4_energyOfAll cX4_energyOfAll 3 (some .int), Cond.instanceMethod yX4_grainOfAll, Cond.code yX4_grainOfAll cX4_grainOfAll 6 (some .int)]
def cpT_9 : List Cond := [Cond.instanceMethod yX4_countAnimals, Cond.code yX4_countAnimals cX4_countAnimals 3 (some .int), Cond.methodLink "CreaturePondLaw" 96 yX0_keep, Cond.instanceMethod yX0_keep, Cond.selects "CreaturePond" yX0_keep yX0_keep, Cond.code yX0_keep cX0_keep 1 none, Cond.instanceMethod yX4_copyFrom, Cond.code yX4_copyFrom cX4_copyFrom 3 none, Cond.methodLink "CreaturePond$Pond" 39 arraycopyName, Cond.static arraycopyName, Cond.native arraycopyName, Cond.instanceMethod yX1_copyFrom, Cond.code yX1_copyFrom cX1_copyFrom 2 none, Cond.methodLink "CreaturePond$Animal" 56 arraycopyName, Cond.methodLink "CreaturePondLaw" 104 yX0_back, Cond.instanceMethod yX0_back, Cond.selects "CreaturePond" yX0_back yX0_back, Cond.code yX0_back cX0_back 1 (some .boolean), Cond.methodLink "CreaturePondLaw" 35 yL_cell, Cond.static yL_cell]
def cpT_10 : List Cond := [Cond.code yL_cell cL_cell 2 (some .int), Cond.methodLink "CreaturePondLaw" 62 yL_animal, Cond.static yL_animal, Cond.classLink "CreaturePondLaw" 13 "java/lang/IllegalArgumentException", Cond.classLink "CreaturePondLaw" 15 "java/lang/IllegalStateException", Cond.methodLink "CreaturePondLaw" 7 yX0_animal, Cond.instanceMethod yX0_animal, Cond.selects "CreaturePond" yX0_animal yX0_animal, Cond.code yX0_animal cX0_animal 7 (some .int), Cond.classLink "CreaturePond" 73 "java/lang/IllegalArgumentException", Cond.instantiable "java/lang/IllegalArgumentException" 6, Cond.lays "java/lang/IllegalArgumentException" "java/lang/Throwable" "cause" "Ljava/lang/Throwable;", Cond.lays "java/lang/Throwable" "java/lang/Throwable" "cause" "Ljava/lang/Throwable;", Cond.lays "java/lang/IllegalArgumentException" "java/lang/Throwable" "stackTrace" "[Ljava/lang/StackTraceElement;", Cond.lays "java/lang/Throwable" "java/lang/Throwable" "stackTrace" "[Ljava/lang/StackTraceElement;", Cond.lays "java/lang/IllegalArgumentException" "java/lang/Throwable" "suppressedExceptions" "Ljava/util/List;", Cond.lays "java/lang/Throwable" "java/lang/Throwable" "suppressedExceptions" "Ljava/util/List;", Cond.lays "java/lang/IllegalArgumentException" "java/lang/Throwable" "detailMessage" "Ljava/lang/String;", Cond.lays "java/lang/Throwable" "java/lang/Throwable" "detailMessage" "Ljava/lang/String;", Cond.lays "java/lang/IllegalArgumentException" "java/lang/Throwable" "backtrace" "Ljava/lang/Object;"]
def cpT_11 : List Cond := [Cond.lays "java/lang/Throwable" "java/lang/Throwable" "backtrace" "Ljava/lang/Object;", Cond.fieldLink "java/lang/Throwable" 198 "java/lang/Throwable" "backtrace" "Ljava/lang/Object;", Cond.methodLink "java/lang/Throwable" 1 objectInit, Cond.fieldLink "java/lang/Throwable" 13 "java/lang/Throwable" "UNASSIGNED_STACK" "[Ljava/lang/StackTraceElement;", Cond.fieldLink "java/lang/Throwable" 20 "java/lang/Throwable" "SUPPRESSED_SENTINEL" "Ljava/util/List;", Cond.instantiable "java/lang/Throwable" 6, Cond.fieldLink "java/lang/Throwable" 31 "java/lang/Throwable" "detailMessage" "Ljava/lang/String;", Cond.fieldLink "java/lang/Throwable" 7 "java/lang/Throwable" "cause" "Ljava/lang/Throwable;", Cond.fieldLink "java/lang/Throwable" 17 "java/lang/Throwable" "stackTrace" "[Ljava/lang/StackTraceElement;", Cond.fieldLink "java/lang/Throwable" 24 "java/lang/Throwable" "suppressedExceptions" "Ljava/util/List;", Cond.lays "java/lang/IllegalArgumentException" "java/lang/Throwable" "depth" "I", Cond.instanceMethod yX4_freeNumber, Cond.code yX4_freeNumber cX4_freeNumber 2 (some .int), Cond.classLink "CreaturePond" 87 "java/lang/IllegalStateException", Cond.instantiable "java/lang/IllegalStateException" 6, Cond.lays "java/lang/IllegalStateException" "java/lang/Throwable" "cause" "Ljava/lang/Throwable;", Cond.lays "java/lang/IllegalStateException" "java/lang/Throwable" "stackTrace" "[Ljava/lang/StackTraceElement;", Cond.lays "java/lang/IllegalStateException" "java/lang/Throwable" "suppressedExceptions" "Ljava/util/List;", Cond.lays "java/lang/IllegalStateException" "java/lang/Throwable" "detailMessage" "Ljava/lang/String;", Cond.lays "java/lang/IllegalStateException" "java/lang/Throwable" "backtrace" "Ljava/lang/Object;"]
def cpT_12 : List Cond := [Cond.lays "java/lang/IllegalStateException" "java/lang/Throwable" "depth" "I", Cond.instanceMethod yX4_settle, Cond.code yX4_settle cX4_settle 6 (some (.object "CreaturePond$Animal")), Cond.instanceMethod yX1_begin, Cond.code yX1_begin cX1_begin 5 none, Cond.methodLink "CreaturePondLaw" 71 yL_code, Cond.static yL_code, Cond.methodLink "CreaturePondLaw" 17 yX0_code, Cond.instanceMethod yX0_code, Cond.selects "CreaturePond" yX0_code yX0_code, Cond.code yX0_code cX0_code 7 (some .int), Cond.instanceMethod yX1_grow, Cond.code yX1_grow cX1_grow 2 none, Cond.methodLink "CreaturePondLaw" 75 yL_tick, Cond.static yL_tick, Cond.methodLink "CreaturePondLaw" 21 yX0_tick, Cond.instanceMethod yX0_tick, Cond.selects "CreaturePond" yX0_tick yX0_tick, Cond.code yX0_tick cX0_tick 3 (some .int), Cond.instanceMethod yX4_shine]
def cpT_13 : List Cond := [Cond.code yX4_shine cX4_shine 2 none, Cond.instanceMethod yX3_moveAll, Cond.code yX3_moveAll cX3_moveAll 2 none, Cond.methodLink "CreaturePond$Mind" 27 yX3_move, Cond.instanceMethod yX3_move, Cond.code yX3_move cX3_move 4 none, Cond.instanceMethod yX4_pay, Cond.code yX4_pay cX4_pay 4 none, Cond.methodLink "CreaturePond$Pond" 90 Lib.Math.min.name, Cond.methodLink "CreaturePond$Mind" 48 yX3_operate, Cond.instanceMethod yX3_operate, Cond.code yX3_operate cX3_operate 5 (some .boolean), Cond.instanceMethod yX1_geneBehindPlace, Cond.code yX1_geneBehindPlace cX1_geneBehindPlace 2 (some .byte), Cond.methodLink "CreaturePond$Animal" 62 yX1_wrapped, Cond.instanceMethod yX1_wrapped, Cond.code yX1_wrapped cX1_wrapped 2 (some .int), Cond.fieldLink "CreaturePond$Mind" 59 "CreaturePond$Mind" "OPERANDS" "[I", Cond.methodLink "CreaturePond$Mind" 67 yX3_act, Cond.instanceMethod yX3_act]
def cpT_14 : List Cond := [Cond.code yX3_act cX3_act 4 none, Cond.methodLink "CreaturePond$Mind" 122 yX3_goAhead, Cond.instanceMethod yX3_goAhead, Cond.code yX3_goAhead cX3_goAhead 3 none, Cond.instanceMethod yX4_aheadOf, Cond.code yX4_aheadOf cX4_aheadOf 2 (some .int), Cond.methodLink "CreaturePond$Mind" 125 yX3_eat, Cond.instanceMethod yX3_eat, Cond.code yX3_eat cX3_eat 3 none, Cond.methodLink "CreaturePond$Mind" 113 Lib.Math.min.name, Cond.methodLink "CreaturePond$Mind" 128 yX3_give, Cond.instanceMethod yX3_give, Cond.code yX3_give cX3_give 5 none, Cond.methodLink "CreaturePond$Mind" 75 yX3_memoryIndex, Cond.instanceMethod yX3_memoryIndex, Cond.code yX3_memoryIndex cX3_memoryIndex 3 (some .int), Cond.methodLink "CreaturePond$Mind" 82 yX3_jump, Cond.instanceMethod yX3_jump, Cond.code yX3_jump cX3_jump 3 none, Cond.methodLink "CreaturePond$Mind" 86 yX3_reckon]
def cpT_15 : List Cond := [Cond.instanceMethod yX3_reckon, Cond.code yX3_reckon cX3_reckon 7 (some .int), Cond.methodLink "CreaturePond$Mind" 90 yX3_seenAhead, Cond.instanceMethod yX3_seenAhead, Cond.code yX3_seenAhead cX3_seenAhead 5 (some .int), Cond.methodLink "CreaturePond$Mind" 94 yX3_seenInside, Cond.instanceMethod yX3_seenInside, Cond.code yX3_seenInside cX3_seenInside 3 (some .int), Cond.instanceMethod yX2_breedAll, Cond.code yX2_breedAll cX2_breedAll 3 none, Cond.methodLink "CreaturePond$Breeding" 15 yX2_greaterOfPair, Cond.instanceMethod yX2_greaterOfPair, Cond.code yX2_greaterOfPair cX2_greaterOfPair 5 (some .int), Cond.methodLink "CreaturePond$Breeding" 19 yX2_breed, Cond.instanceMethod yX2_breed, Cond.code yX2_breed cX2_breed 8 none, Cond.methodLink "CreaturePond$Breeding" 50 yX2_firstFreeAround, Cond.instanceMethod yX2_firstFreeAround, Cond.code yX2_firstFreeAround cX2_firstFreeAround 4 (some .int), Cond.instanceMethod yX5_nextTo]
def cpT_16 : List Cond := [Cond.code yX5_nextTo cX5_nextTo 3 (some .int), Cond.methodLink "CreaturePond$Breeding" 63 yX2_payAndHalve, Cond.instanceMethod yX2_payAndHalve, Cond.code yX2_payAndHalve cX2_payAndHalve 3 (some .int), Cond.methodLink "CreaturePond$Breeding" 79 Lib.Math.max.name, Cond.methodLink "CreaturePond$Breeding" 85 yX2_mixCode, Cond.instanceMethod yX2_mixCode, Cond.code yX2_mixCode cX2_mixCode 6 none, Cond.instanceMethod yX4_nextNumber, Cond.code yX4_nextNumber cX4_nextNumber 2 (some .int), Cond.constant "CreaturePond$Pond" 96 (134775813 : Int32), Cond.methodLink "CreaturePond$Breeding" 115 yX2_growFrom, Cond.instanceMethod yX2_growFrom, Cond.code yX2_growFrom cX2_growFrom 7 none, Cond.methodLink "CreaturePond$Breeding" 119 Lib.Math.min.name, Cond.methodLink "CreaturePond$Breeding" 89 yX2_changeCode, Cond.instanceMethod yX2_changeCode, Cond.code yX2_changeCode cX2_changeCode 3 none, Cond.instanceMethod yX4_endDead, Cond.code yX4_endDead cX4_endDead 3 none]
def cpT_17 : List Cond := [Cond.methodLink "CreaturePond$Pond" 100 yX4_end, Cond.instanceMethod yX4_end, Cond.code yX4_end cX4_end 4 none, Cond.methodLink "CreaturePondLaw" 88 yL_inner, Cond.static yL_inner, Cond.classLink "CreaturePondLaw" 29 "java/lang/IndexOutOfBoundsException", Cond.methodLink "CreaturePondLaw" 25 yX0_inner, Cond.instanceMethod yX0_inner, Cond.selects "CreaturePond" yX0_inner yX0_inner, Cond.code yX0_inner cX0_inner 6 (some .byte), Cond.classLink "CreaturePond" 157 "java/lang/IndexOutOfBoundsException", Cond.instantiable "java/lang/IndexOutOfBoundsException" 6, Cond.lays "java/lang/IndexOutOfBoundsException" "java/lang/Throwable" "cause" "Ljava/lang/Throwable;", Cond.lays "java/lang/IndexOutOfBoundsException" "java/lang/Throwable" "stackTrace" "[Ljava/lang/StackTraceElement;", Cond.lays "java/lang/IndexOutOfBoundsException" "java/lang/Throwable" "suppressedExceptions" "Ljava/util/List;", Cond.lays "java/lang/IndexOutOfBoundsException" "java/lang/Throwable" "detailMessage" "Ljava/lang/String;", Cond.lays "java/lang/IndexOutOfBoundsException" "java/lang/Throwable" "backtrace" "Ljava/lang/Object;", Cond.lays "java/lang/IndexOutOfBoundsException" "java/lang/Throwable" "depth" "I", Cond.methodLink "CreaturePondLaw" 100 yL_differ, Cond.static yL_differ]
def cpT_18 : List Cond := [Cond.methodLink "CreaturePondLaw" 31 yX0_differ, Cond.instanceMethod yX0_differ, Cond.selects "CreaturePond" yX0_differ yX0_differ, Cond.code yX0_differ cX0_differ 1 (some .int), Cond.instanceMethod yX4_firstOther, Cond.code yX4_firstOther cX4_firstOther 3 (some .int), Cond.methodLink "CreaturePond$Pond" 103 yX4_hasOtherDweller, Cond.instanceMethod yX4_hasOtherDweller, Cond.code yX4_hasOtherDweller cX4_hasOtherDweller 6 (some .boolean), Cond.classLink "CreaturePondLaw" 44 "CreaturePondModel", Cond.instantiable "CreaturePondModel" 6, Cond.methodLink "CreaturePondLaw" 46 yX6_init, Cond.instanceMethod yX6_init, Cond.code yX6_init cX6_init 4 none, Cond.methodLink "CreaturePondModel" 1 objectInit, Cond.fieldLink "CreaturePondModel" 23 "CreaturePondModel" "thrown" "I", Cond.fieldLink "CreaturePondModel" 16 "CreaturePondModel" "w" "I", Cond.fieldLink "CreaturePondModel" 20 "CreaturePondModel" "h" "I", Cond.fieldLink "CreaturePondModel" 7 "CreaturePondModel" "now" "[I", Cond.fieldLink "CreaturePondModel" 115 "CreaturePondModel" "kept" "Z"]
def cpT_19 : List Cond := [Cond.fieldLink "CreaturePondModel" 13 "CreaturePondModel" "was" "[I", Cond.lays "CreaturePondModel" "CreaturePondModel" "thrown" "I", Cond.laysFinal "CreaturePondModel" "CreaturePondModel" "w" "I", Cond.laysFinal "CreaturePondModel" "CreaturePondModel" "h" "I", Cond.laysFinal "CreaturePondModel" "CreaturePondModel" "now" "[I", Cond.lays "CreaturePondModel" "CreaturePondModel" "kept" "Z", Cond.laysFinal "CreaturePondModel" "CreaturePondModel" "was" "[I", Cond.methodLink "CreaturePondLaw" 66 yX6_thrown, Cond.instanceMethod yX6_thrown, Cond.selects "CreaturePondModel" yX6_thrown yX6_thrown, Cond.code yX6_thrown cX6_thrown 1 (some .int), Cond.methodLink "CreaturePondLaw" 51 yX6_set, Cond.instanceMethod yX6_set, Cond.selects "CreaturePondModel" yX6_set yX6_set, Cond.code yX6_set cX6_set 3 (some .boolean), Cond.methodLink "CreaturePondLaw" 56 yX6_store, Cond.instanceMethod yX6_store, Cond.selects "CreaturePondModel" yX6_store yX6_store, Cond.code yX6_store cX6_store 2 (some .boolean), Cond.constant "CreaturePondModel" 108 (1000000 : Int32)]
def cpT_20 : List Cond := [Cond.methodLink "CreaturePondLaw" 61 yX6_grain, Cond.instanceMethod yX6_grain, Cond.selects "CreaturePondModel" yX6_grain yX6_grain, Cond.code yX6_grain cX6_grain 4 (some .boolean), Cond.methodLink "CreaturePondModel" 38 yX6_cellAt, Cond.instanceMethod yX6_cellAt, Cond.code yX6_cellAt cX6_cellAt 3 (some .int), Cond.methodLink "CreaturePondModel" 26 yX6_round, Cond.static yX6_round, Cond.code yX6_round cX6_round 3 (some .int), Cond.methodLink "CreaturePondLaw" 65 yX6_animal, Cond.instanceMethod yX6_animal, Cond.selects "CreaturePondModel" yX6_animal yX6_animal, Cond.code yX6_animal cX6_animal 6 (some .int), Cond.methodLink "CreaturePondModel" 51 yX6_inCell, Cond.instanceMethod yX6_inCell, Cond.code yX6_inCell cX6_inCell 3 (some .int), Cond.methodLink "CreaturePondModel" 30 yX6_at, Cond.static yX6_at, Cond.code yX6_at cX6_at 1 (some .int)]
def cpT_21 : List Cond := [Cond.methodLink "CreaturePondModel" 85 yX6_free, Cond.instanceMethod yX6_free, Cond.code yX6_free cX6_free 2 (some .int), Cond.methodLink "CreaturePondModel" 34 yX6_lives, Cond.instanceMethod yX6_lives, Cond.code yX6_lives cX6_lives 2 (some .boolean), Cond.methodLink "CreaturePondModel" 88 yX6_make, Cond.instanceMethod yX6_make, Cond.code yX6_make cX6_make 6 none, Cond.methodLink "CreaturePondLaw" 74 yX6_code, Cond.instanceMethod yX6_code, Cond.selects "CreaturePondModel" yX6_code yX6_code, Cond.code yX6_code cX6_code 7 (some .int), Cond.methodLink "CreaturePondLaw" 78 yX6_tick, Cond.instanceMethod yX6_tick, Cond.selects "CreaturePondModel" yX6_tick yX6_tick, Cond.code yX6_tick cX6_tick 3 (some .int), Cond.methodLink "CreaturePondModel" 109 yX6_pass, Cond.instanceMethod yX6_pass, Cond.code yX6_pass cX6_pass 3 none]
def cpT_22 : List Cond := [Cond.methodLink "CreaturePondModel" 95 yX6_shine, Cond.instanceMethod yX6_shine, Cond.code yX6_shine cX6_shine 3 none, Cond.methodLink "CreaturePondModel" 98 yX6_live, Cond.instanceMethod yX6_live, Cond.code yX6_live cX6_live 5 none, Cond.methodLink "CreaturePondModel" 60 yX6_pay, Cond.instanceMethod yX6_pay, Cond.code yX6_pay cX6_pay 4 none, Cond.methodLink "CreaturePondModel" 45 yX6_least, Cond.static yX6_least, Cond.code yX6_least cX6_least 2 (some .int), Cond.methodLink "CreaturePondModel" 78 yX6_operate, Cond.instanceMethod yX6_operate, Cond.code yX6_operate cX6_operate 11 (some .boolean), Cond.methodLink "CreaturePondModel" 64 yX6_codeAt, Cond.instanceMethod yX6_codeAt, Cond.code yX6_codeAt cX6_codeAt 3 (some .int), Cond.methodLink "CreaturePondModel" 67 yX6_operands, Cond.static yX6_operands]
def cpT_23 : List Cond := [Cond.code yX6_operands cX6_operands 1 (some .int), Cond.methodLink "CreaturePondModel" 70 yX6_act, Cond.instanceMethod yX6_act, Cond.code yX6_act cX6_act 8 none, Cond.methodLink "CreaturePondModel" 48 yX6_ahead, Cond.instanceMethod yX6_ahead, Cond.code yX6_ahead cX6_ahead 2 (some .int), Cond.methodLink "CreaturePondModel" 41 yX6_beside, Cond.instanceMethod yX6_beside, Cond.code yX6_beside cX6_beside 5 (some .int), Cond.methodLink "CreaturePondModel" 74 yX6_reckon, Cond.instanceMethod yX6_reckon, Cond.code yX6_reckon cX6_reckon 8 (some .int), Cond.methodLink "CreaturePondModel" 54 yX6_looks, Cond.instanceMethod yX6_looks, Cond.code yX6_looks cX6_looks 5 (some .int), Cond.methodLink "CreaturePondModel" 57 yX6_feels, Cond.instanceMethod yX6_feels, Cond.code yX6_feels cX6_feels 4 (some .int), Cond.methodLink "CreaturePondModel" 102 yX6_breed]
def cpT_24 : List Cond := [Cond.instanceMethod yX6_breed, Cond.code yX6_breed cX6_breed 7 none, Cond.methodLink "CreaturePondModel" 92 yX6_inherit, Cond.instanceMethod yX6_inherit, Cond.code yX6_inherit cX6_inherit 10 none, Cond.methodLink "CreaturePondModel" 81 yX6_next, Cond.instanceMethod yX6_next, Cond.code yX6_next cX6_next 2 (some .int), Cond.constant "CreaturePondModel" 44 (134775813 : Int32), Cond.methodLink "CreaturePondModel" 105 yX6_die, Cond.instanceMethod yX6_die, Cond.code yX6_die cX6_die 5 none, Cond.methodLink "CreaturePondModel" 112 yX6_animals, Cond.instanceMethod yX6_animals, Cond.code yX6_animals cX6_animals 3 (some .int), Cond.methodLink "CreaturePondLaw" 82 yX6_cell, Cond.instanceMethod yX6_cell, Cond.selects "CreaturePondModel" yX6_cell yX6_cell, Cond.code yX6_cell cX6_cell 5 (some .int), Cond.methodLink "CreaturePondLaw" 87 yX6_field]
def cpT_25 : List Cond := [Cond.instanceMethod yX6_field, Cond.selects "CreaturePondModel" yX6_field yX6_field, Cond.code yX6_field cX6_field 4 (some .int), Cond.methodLink "CreaturePondLaw" 91 yX6_inner, Cond.instanceMethod yX6_inner, Cond.selects "CreaturePondModel" yX6_inner yX6_inner, Cond.code yX6_inner cX6_inner 4 (some .byte), Cond.methodLink "CreaturePondLaw" 95 yX6_total, Cond.instanceMethod yX6_total, Cond.selects "CreaturePondModel" yX6_total yX6_total, Cond.code yX6_total cX6_total 5 (some .int), Cond.methodLink "CreaturePondLaw" 99 yX6_keep, Cond.instanceMethod yX6_keep, Cond.selects "CreaturePondModel" yX6_keep yX6_keep, Cond.code yX6_keep cX6_keep 2 none, Cond.methodLink "CreaturePondLaw" 103 yX6_differ, Cond.instanceMethod yX6_differ, Cond.selects "CreaturePondModel" yX6_differ yX6_differ, Cond.code yX6_differ cX6_differ 5 (some .int), Cond.methodLink "CreaturePondModel" 119 yX6_wasIn]
def cpT_26 : List Cond := [Cond.instanceMethod yX6_wasIn, Cond.code yX6_wasIn cX6_wasIn 3 (some .int), Cond.methodLink "CreaturePondLaw" 108 yX6_back, Cond.instanceMethod yX6_back, Cond.selects "CreaturePondModel" yX6_back yX6_back, Cond.code yX6_back cX6_back 2 (some .boolean), Cond.constantLong "CreaturePondLaw" 69 (4294967295 : Int64), Cond.arrayClass .long, Cond.selects "CreaturePond$Shape" yX5_columnOf yX5_columnOf, Cond.selects "CreaturePond$Shape" yX5_rowOf yX5_rowOf, Cond.selects "CreaturePond$Shape" yX5_cellAt yX5_cellAt, Cond.selects "CreaturePond$Pond" yX4_has yX4_has, Cond.selects "CreaturePond$Animal" yX1_trait yX1_trait, Cond.selects "CreaturePond$Pond" yX4_energyOfAll yX4_energyOfAll, Cond.selects "CreaturePond$Pond" yX4_grainOfAll yX4_grainOfAll, Cond.selects "CreaturePond$Pond" yX4_countAnimals yX4_countAnimals, Cond.selects "CreaturePond$Pond" yX4_copyFrom yX4_copyFrom, Cond.selects "CreaturePond$Animal" yX1_copyFrom yX1_copyFrom, Cond.selects "CreaturePond$Pond" yX4_freeNumber yX4_freeNumber, Cond.selects "CreaturePond$Pond" yX4_settle yX4_settle]
def cpT_27 : List Cond := [Cond.selects "CreaturePond$Animal" yX1_begin yX1_begin, Cond.selects "CreaturePond$Animal" yX1_grow yX1_grow, Cond.selects "CreaturePond$Pond" yX4_shine yX4_shine, Cond.selects "CreaturePond$Mind" yX3_moveAll yX3_moveAll, Cond.selects "CreaturePond$Mind" yX3_move yX3_move, Cond.selects "CreaturePond$Pond" yX4_pay yX4_pay, Cond.selects "CreaturePond$Mind" yX3_operate yX3_operate, Cond.selects "CreaturePond$Animal" yX1_geneBehindPlace yX1_geneBehindPlace, Cond.selects "CreaturePond$Animal" yX1_wrapped yX1_wrapped, Cond.selects "CreaturePond$Mind" yX3_act yX3_act, Cond.selects "CreaturePond$Mind" yX3_goAhead yX3_goAhead, Cond.selects "CreaturePond$Pond" yX4_aheadOf yX4_aheadOf, Cond.selects "CreaturePond$Mind" yX3_eat yX3_eat, Cond.selects "CreaturePond$Mind" yX3_give yX3_give, Cond.selects "CreaturePond$Mind" yX3_memoryIndex yX3_memoryIndex, Cond.selects "CreaturePond$Mind" yX3_jump yX3_jump, Cond.selects "CreaturePond$Mind" yX3_reckon yX3_reckon, Cond.selects "CreaturePond$Mind" yX3_seenAhead yX3_seenAhead, Cond.selects "CreaturePond$Mind" yX3_seenInside yX3_seenInside, Cond.selects "CreaturePond$Breeding" yX2_breedAll yX2_breedAll]
def cpT_28 : List Cond := [Cond.selects "CreaturePond$Breeding" yX2_greaterOfPair yX2_greaterOfPair, Cond.selects "CreaturePond$Breeding" yX2_breed yX2_breed, Cond.selects "CreaturePond$Breeding" yX2_firstFreeAround yX2_firstFreeAround, Cond.selects "CreaturePond$Shape" yX5_nextTo yX5_nextTo, Cond.selects "CreaturePond$Breeding" yX2_payAndHalve yX2_payAndHalve, Cond.selects "CreaturePond$Breeding" yX2_mixCode yX2_mixCode, Cond.selects "CreaturePond$Pond" yX4_nextNumber yX4_nextNumber, Cond.selects "CreaturePond$Breeding" yX2_growFrom yX2_growFrom, Cond.selects "CreaturePond$Breeding" yX2_changeCode yX2_changeCode, Cond.selects "CreaturePond$Pond" yX4_endDead yX4_endDead, Cond.selects "CreaturePond$Pond" yX4_end yX4_end, Cond.selects "CreaturePond$Pond" yX4_firstOther yX4_firstOther, Cond.selects "CreaturePond$Pond" yX4_hasOtherDweller yX4_hasOtherDweller, Cond.selects "CreaturePondModel" yX6_cellAt yX6_cellAt, Cond.selects "CreaturePondModel" yX6_inCell yX6_inCell, Cond.selects "CreaturePondModel" yX6_free yX6_free, Cond.selects "CreaturePondModel" yX6_lives yX6_lives, Cond.selects "CreaturePondModel" yX6_make yX6_make, Cond.selects "CreaturePondModel" yX6_pass yX6_pass, Cond.selects "CreaturePondModel" yX6_shine yX6_shine]
def cpT_29 : List Cond := [Cond.selects "CreaturePondModel" yX6_live yX6_live, Cond.selects "CreaturePondModel" yX6_pay yX6_pay, Cond.selects "CreaturePondModel" yX6_operate yX6_operate, Cond.selects "CreaturePondModel" yX6_codeAt yX6_codeAt, Cond.selects "CreaturePondModel" yX6_act yX6_act, Cond.selects "CreaturePondModel" yX6_ahead yX6_ahead, Cond.selects "CreaturePondModel" yX6_beside yX6_beside, Cond.selects "CreaturePondModel" yX6_reckon yX6_reckon, Cond.selects "CreaturePondModel" yX6_looks yX6_looks, Cond.selects "CreaturePondModel" yX6_feels yX6_feels, Cond.selects "CreaturePondModel" yX6_breed yX6_breed, Cond.selects "CreaturePondModel" yX6_inherit yX6_inherit, Cond.selects "CreaturePondModel" yX6_next yX6_next, Cond.selects "CreaturePondModel" yX6_die yX6_die, Cond.selects "CreaturePondModel" yX6_animals yX6_animals, Cond.selects "CreaturePondModel" yX6_wasIn yX6_wasIn]
def cp_T : List Cond := cpT_0 ++ (cpT_1 ++ (cpT_2 ++ (cpT_3 ++ (cpT_4 ++ (cpT_5 ++ (cpT_6 ++ (cpT_7 ++ (cpT_8 ++ (cpT_9 ++ (cpT_10 ++ (cpT_11 ++ (cpT_12 ++ (cpT_13 ++ (cpT_14 ++ (cpT_15 ++ (cpT_16 ++ (cpT_17 ++ (cpT_18 ++ (cpT_19 ++ (cpT_20 ++ (cpT_21 ++ (cpT_22 ++ (cpT_23 ++ (cpT_24 ++ (cpT_25 ++ (cpT_26 ++ (cpT_27 ++ (cpT_28 ++ (cpT_29)))))))))))))))))))))))))))))
theorem tc_0 : ∀ w ∈ cpT_0, w ∈ cp_T := fun w h => List.mem_append_left _ h
theorem tc_1 : ∀ w ∈ cpT_1, w ∈ cp_T := fun w h => List.mem_append_right _ (List.mem_append_left _ h)
theorem tc_2 : ∀ w ∈ cpT_2, w ∈ cp_T := fun w h => List.mem_append_right _ (List.mem_append_right _ (List.mem_append_left _ h))
theorem tc_3 : ∀ w ∈ cpT_3, w ∈ cp_T := fun w h => List.mem_append_right _ (List.mem_append_right _ (List.mem_append_right _ (List.mem_append_left _ h)))
theorem tc_4 : ∀ w ∈ cpT_4, w ∈ cp_T := fun w h => List.mem_append_right _ (List.mem_append_right _ (List.mem_append_right _ (List.mem_append_right _ (List.mem_append_left _ h))))
theorem tc_5 : ∀ w ∈ cpT_5, w ∈ cp_T := fun w h => List.mem_append_right _ (List.mem_append_right _ (List.mem_append_right _ (List.mem_append_right _ (List.mem_append_right _ (List.mem_append_left _ h)))))
theorem tc_6 : ∀ w ∈ cpT_6, w ∈ cp_T := fun w h => List.mem_append_right _ (List.mem_append_right _ (List.mem_append_right _ (List.mem_append_right _ (List.mem_append_right _ (List.mem_append_right _ (List.mem_append_left _ h))))))
theorem tc_7 : ∀ w ∈ cpT_7, w ∈ cp_T := fun w h => List.mem_append_right _ (List.mem_append_right _ (List.mem_append_right _ (List.mem_append_right _ (List.mem_append_right _ (List.mem_append_right _ (List.mem_append_right _ (List.mem_append_left _ h)))))))
theorem tc_8 : ∀ w ∈ cpT_8, w ∈ cp_T := fun w h => List.mem_append_right _ (List.mem_append_right _ (List.mem_append_right _ (List.mem_append_right _ (List.mem_append_right _ (List.mem_append_right _ (List.mem_append_right _ (List.mem_append_right _ (List.mem_append_left _ h))))))))
theorem tc_9 : ∀ w ∈ cpT_9, w ∈ cp_T := fun w h => List.mem_append_right _ (List.mem_append_right _ (List.mem_append_right _ (List.mem_append_right _ (List.mem_append_right _ (List.mem_append_right _ (List.mem_append_right _ (List.mem_append_right _ (List.mem_append_right _ (List.mem_append_left _ h)))))))))
theorem tc_10 : ∀ w ∈ cpT_10, w ∈ cp_T := fun w h => List.mem_append_right _ (List.mem_append_right _ (List.mem_append_right _ (List.mem_append_right _ (List.mem_append_right _ (List.mem_append_right _ (List.mem_append_right _ (List.mem_append_right _ (List.mem_append_right _ (List.mem_append_right _ (List.mem_append_left _ h))))))))))
theorem tc_11 : ∀ w ∈ cpT_11, w ∈ cp_T := fun w h => List.mem_append_right _ (List.mem_append_right _ (List.mem_append_right _ (List.mem_append_right _ (List.mem_append_right _ (List.mem_append_right _ (List.mem_append_right _ (List.mem_append_right _ (List.mem_append_right _ (List.mem_append_right _ (List.mem_append_right _ (List.mem_append_left _ h)))))))))))
theorem tc_12 : ∀ w ∈ cpT_12, w ∈ cp_T := fun w h => List.mem_append_right _ (List.mem_append_right _ (List.mem_append_right _ (List.mem_append_right _ (List.mem_append_right _ (List.mem_append_right _ (List.mem_append_right _ (List.mem_append_right _ (List.mem_append_right _ (List.mem_append_right _ (List.mem_append_right _ (List.mem_append_right _ (List.mem_append_left _ h))))))))))))
theorem tc_13 : ∀ w ∈ cpT_13, w ∈ cp_T := fun w h => List.mem_append_right _ (List.mem_append_right _ (List.mem_append_right _ (List.mem_append_right _ (List.mem_append_right _ (List.mem_append_right _ (List.mem_append_right _ (List.mem_append_right _ (List.mem_append_right _ (List.mem_append_right _ (List.mem_append_right _ (List.mem_append_right _ (List.mem_append_right _ (List.mem_append_left _ h)))))))))))))
theorem tc_14 : ∀ w ∈ cpT_14, w ∈ cp_T := fun w h => List.mem_append_right _ (List.mem_append_right _ (List.mem_append_right _ (List.mem_append_right _ (List.mem_append_right _ (List.mem_append_right _ (List.mem_append_right _ (List.mem_append_right _ (List.mem_append_right _ (List.mem_append_right _ (List.mem_append_right _ (List.mem_append_right _ (List.mem_append_right _ (List.mem_append_right _ (List.mem_append_left _ h))))))))))))))
theorem tc_15 : ∀ w ∈ cpT_15, w ∈ cp_T := fun w h => List.mem_append_right _ (List.mem_append_right _ (List.mem_append_right _ (List.mem_append_right _ (List.mem_append_right _ (List.mem_append_right _ (List.mem_append_right _ (List.mem_append_right _ (List.mem_append_right _ (List.mem_append_right _ (List.mem_append_right _ (List.mem_append_right _ (List.mem_append_right _ (List.mem_append_right _ (List.mem_append_right _ (List.mem_append_left _ h)))))))))))))))
theorem tc_16 : ∀ w ∈ cpT_16, w ∈ cp_T := fun w h => List.mem_append_right _ (List.mem_append_right _ (List.mem_append_right _ (List.mem_append_right _ (List.mem_append_right _ (List.mem_append_right _ (List.mem_append_right _ (List.mem_append_right _ (List.mem_append_right _ (List.mem_append_right _ (List.mem_append_right _ (List.mem_append_right _ (List.mem_append_right _ (List.mem_append_right _ (List.mem_append_right _ (List.mem_append_right _ (List.mem_append_left _ h))))))))))))))))
theorem tc_17 : ∀ w ∈ cpT_17, w ∈ cp_T := fun w h => List.mem_append_right _ (List.mem_append_right _ (List.mem_append_right _ (List.mem_append_right _ (List.mem_append_right _ (List.mem_append_right _ (List.mem_append_right _ (List.mem_append_right _ (List.mem_append_right _ (List.mem_append_right _ (List.mem_append_right _ (List.mem_append_right _ (List.mem_append_right _ (List.mem_append_right _ (List.mem_append_right _ (List.mem_append_right _ (List.mem_append_right _ (List.mem_append_left _ h)))))))))))))))))
theorem tc_18 : ∀ w ∈ cpT_18, w ∈ cp_T := fun w h => List.mem_append_right _ (List.mem_append_right _ (List.mem_append_right _ (List.mem_append_right _ (List.mem_append_right _ (List.mem_append_right _ (List.mem_append_right _ (List.mem_append_right _ (List.mem_append_right _ (List.mem_append_right _ (List.mem_append_right _ (List.mem_append_right _ (List.mem_append_right _ (List.mem_append_right _ (List.mem_append_right _ (List.mem_append_right _ (List.mem_append_right _ (List.mem_append_right _ (List.mem_append_left _ h))))))))))))))))))
theorem tc_19 : ∀ w ∈ cpT_19, w ∈ cp_T := fun w h => List.mem_append_right _ (List.mem_append_right _ (List.mem_append_right _ (List.mem_append_right _ (List.mem_append_right _ (List.mem_append_right _ (List.mem_append_right _ (List.mem_append_right _ (List.mem_append_right _ (List.mem_append_right _ (List.mem_append_right _ (List.mem_append_right _ (List.mem_append_right _ (List.mem_append_right _ (List.mem_append_right _ (List.mem_append_right _ (List.mem_append_right _ (List.mem_append_right _ (List.mem_append_right _ (List.mem_append_left _ h)))))))))))))))))))
theorem tc_20 : ∀ w ∈ cpT_20, w ∈ cp_T := fun w h => List.mem_append_right _ (List.mem_append_right _ (List.mem_append_right _ (List.mem_append_right _ (List.mem_append_right _ (List.mem_append_right _ (List.mem_append_right _ (List.mem_append_right _ (List.mem_append_right _ (List.mem_append_right _ (List.mem_append_right _ (List.mem_append_right _ (List.mem_append_right _ (List.mem_append_right _ (List.mem_append_right _ (List.mem_append_right _ (List.mem_append_right _ (List.mem_append_right _ (List.mem_append_right _ (List.mem_append_right _ (List.mem_append_left _ h))))))))))))))))))))
theorem tc_21 : ∀ w ∈ cpT_21, w ∈ cp_T := fun w h => List.mem_append_right _ (List.mem_append_right _ (List.mem_append_right _ (List.mem_append_right _ (List.mem_append_right _ (List.mem_append_right _ (List.mem_append_right _ (List.mem_append_right _ (List.mem_append_right _ (List.mem_append_right _ (List.mem_append_right _ (List.mem_append_right _ (List.mem_append_right _ (List.mem_append_right _ (List.mem_append_right _ (List.mem_append_right _ (List.mem_append_right _ (List.mem_append_right _ (List.mem_append_right _ (List.mem_append_right _ (List.mem_append_right _ (List.mem_append_left _ h)))))))))))))))))))))
theorem tc_22 : ∀ w ∈ cpT_22, w ∈ cp_T := fun w h => List.mem_append_right _ (List.mem_append_right _ (List.mem_append_right _ (List.mem_append_right _ (List.mem_append_right _ (List.mem_append_right _ (List.mem_append_right _ (List.mem_append_right _ (List.mem_append_right _ (List.mem_append_right _ (List.mem_append_right _ (List.mem_append_right _ (List.mem_append_right _ (List.mem_append_right _ (List.mem_append_right _ (List.mem_append_right _ (List.mem_append_right _ (List.mem_append_right _ (List.mem_append_right _ (List.mem_append_right _ (List.mem_append_right _ (List.mem_append_right _ (List.mem_append_left _ h))))))))))))))))))))))
theorem tc_23 : ∀ w ∈ cpT_23, w ∈ cp_T := fun w h => List.mem_append_right _ (List.mem_append_right _ (List.mem_append_right _ (List.mem_append_right _ (List.mem_append_right _ (List.mem_append_right _ (List.mem_append_right _ (List.mem_append_right _ (List.mem_append_right _ (List.mem_append_right _ (List.mem_append_right _ (List.mem_append_right _ (List.mem_append_right _ (List.mem_append_right _ (List.mem_append_right _ (List.mem_append_right _ (List.mem_append_right _ (List.mem_append_right _ (List.mem_append_right _ (List.mem_append_right _ (List.mem_append_right _ (List.mem_append_right _ (List.mem_append_right _ (List.mem_append_left _ h)))))))))))))))))))))))
theorem tc_24 : ∀ w ∈ cpT_24, w ∈ cp_T := fun w h => List.mem_append_right _ (List.mem_append_right _ (List.mem_append_right _ (List.mem_append_right _ (List.mem_append_right _ (List.mem_append_right _ (List.mem_append_right _ (List.mem_append_right _ (List.mem_append_right _ (List.mem_append_right _ (List.mem_append_right _ (List.mem_append_right _ (List.mem_append_right _ (List.mem_append_right _ (List.mem_append_right _ (List.mem_append_right _ (List.mem_append_right _ (List.mem_append_right _ (List.mem_append_right _ (List.mem_append_right _ (List.mem_append_right _ (List.mem_append_right _ (List.mem_append_right _ (List.mem_append_right _ (List.mem_append_left _ h))))))))))))))))))))))))
theorem tc_25 : ∀ w ∈ cpT_25, w ∈ cp_T := fun w h => List.mem_append_right _ (List.mem_append_right _ (List.mem_append_right _ (List.mem_append_right _ (List.mem_append_right _ (List.mem_append_right _ (List.mem_append_right _ (List.mem_append_right _ (List.mem_append_right _ (List.mem_append_right _ (List.mem_append_right _ (List.mem_append_right _ (List.mem_append_right _ (List.mem_append_right _ (List.mem_append_right _ (List.mem_append_right _ (List.mem_append_right _ (List.mem_append_right _ (List.mem_append_right _ (List.mem_append_right _ (List.mem_append_right _ (List.mem_append_right _ (List.mem_append_right _ (List.mem_append_right _ (List.mem_append_right _ (List.mem_append_left _ h)))))))))))))))))))))))))
theorem tc_26 : ∀ w ∈ cpT_26, w ∈ cp_T := fun w h => List.mem_append_right _ (List.mem_append_right _ (List.mem_append_right _ (List.mem_append_right _ (List.mem_append_right _ (List.mem_append_right _ (List.mem_append_right _ (List.mem_append_right _ (List.mem_append_right _ (List.mem_append_right _ (List.mem_append_right _ (List.mem_append_right _ (List.mem_append_right _ (List.mem_append_right _ (List.mem_append_right _ (List.mem_append_right _ (List.mem_append_right _ (List.mem_append_right _ (List.mem_append_right _ (List.mem_append_right _ (List.mem_append_right _ (List.mem_append_right _ (List.mem_append_right _ (List.mem_append_right _ (List.mem_append_right _ (List.mem_append_right _ (List.mem_append_left _ h))))))))))))))))))))))))))
theorem tc_27 : ∀ w ∈ cpT_27, w ∈ cp_T := fun w h => List.mem_append_right _ (List.mem_append_right _ (List.mem_append_right _ (List.mem_append_right _ (List.mem_append_right _ (List.mem_append_right _ (List.mem_append_right _ (List.mem_append_right _ (List.mem_append_right _ (List.mem_append_right _ (List.mem_append_right _ (List.mem_append_right _ (List.mem_append_right _ (List.mem_append_right _ (List.mem_append_right _ (List.mem_append_right _ (List.mem_append_right _ (List.mem_append_right _ (List.mem_append_right _ (List.mem_append_right _ (List.mem_append_right _ (List.mem_append_right _ (List.mem_append_right _ (List.mem_append_right _ (List.mem_append_right _ (List.mem_append_right _ (List.mem_append_right _ (List.mem_append_left _ h)))))))))))))))))))))))))))
theorem tc_28 : ∀ w ∈ cpT_28, w ∈ cp_T := fun w h => List.mem_append_right _ (List.mem_append_right _ (List.mem_append_right _ (List.mem_append_right _ (List.mem_append_right _ (List.mem_append_right _ (List.mem_append_right _ (List.mem_append_right _ (List.mem_append_right _ (List.mem_append_right _ (List.mem_append_right _ (List.mem_append_right _ (List.mem_append_right _ (List.mem_append_right _ (List.mem_append_right _ (List.mem_append_right _ (List.mem_append_right _ (List.mem_append_right _ (List.mem_append_right _ (List.mem_append_right _ (List.mem_append_right _ (List.mem_append_right _ (List.mem_append_right _ (List.mem_append_right _ (List.mem_append_right _ (List.mem_append_right _ (List.mem_append_right _ (List.mem_append_right _ (List.mem_append_left _ h))))))))))))))))))))))))))))
theorem tc_29 : ∀ w ∈ cpT_29, w ∈ cp_T := fun w h => List.mem_append_right _ (List.mem_append_right _ (List.mem_append_right _ (List.mem_append_right _ (List.mem_append_right _ (List.mem_append_right _ (List.mem_append_right _ (List.mem_append_right _ (List.mem_append_right _ (List.mem_append_right _ (List.mem_append_right _ (List.mem_append_right _ (List.mem_append_right _ (List.mem_append_right _ (List.mem_append_right _ (List.mem_append_right _ (List.mem_append_right _ (List.mem_append_right _ (List.mem_append_right _ (List.mem_append_right _ (List.mem_append_right _ (List.mem_append_right _ (List.mem_append_right _ (List.mem_append_right _ (List.mem_append_right _ (List.mem_append_right _ (List.mem_append_right _ (List.mem_append_right _ (List.mem_append_right _ (h)))))))))))))))))))))))))))))
theorem tw_0 : (Cond.initialized "CreaturePondLaw" : Cond) ∈ cp_T := tc_0 _ (List.mem_of_getElem? (i := 0) rfl)
theorem tw_1 : (Cond.initialized "CreaturePond" : Cond) ∈ cp_T := tc_0 _ (List.mem_of_getElem? (i := 1) rfl)
theorem tw_2 : (Cond.initialized "CreaturePond$Shape" : Cond) ∈ cp_T := tc_0 _ (List.mem_of_getElem? (i := 2) rfl)
theorem tw_3 : (Cond.initialized "java/lang/Math" : Cond) ∈ cp_T := tc_0 _ (List.mem_of_getElem? (i := 3) rfl)
theorem tw_4 : (Cond.initialized "CreaturePond$Pond" : Cond) ∈ cp_T := tc_0 _ (List.mem_of_getElem? (i := 4) rfl)
theorem tw_5 : (Cond.initialized "CreaturePond$Animal" : Cond) ∈ cp_T := tc_0 _ (List.mem_of_getElem? (i := 5) rfl)
theorem tw_6 : (Cond.initialized "CreaturePond$Mind" : Cond) ∈ cp_T := tc_0 _ (List.mem_of_getElem? (i := 6) rfl)
theorem tw_7 : (Cond.initialized "CreaturePond$Breeding" : Cond) ∈ cp_T := tc_0 _ (List.mem_of_getElem? (i := 7) rfl)
theorem tw_8 : (Cond.initialized "CreaturePondModel" : Cond) ∈ cp_T := tc_0 _ (List.mem_of_getElem? (i := 8) rfl)
theorem tw_9 : (Cond.initialized "java/lang/Throwable" : Cond) ∈ cp_T := tc_0 _ (List.mem_of_getElem? (i := 9) rfl)
theorem tw_10 : (Cond.initialized "java/lang/Exception" : Cond) ∈ cp_T := tc_0 _ (List.mem_of_getElem? (i := 10) rfl)
theorem tw_11 : (Cond.initialized "java/lang/RuntimeException" : Cond) ∈ cp_T := tc_0 _ (List.mem_of_getElem? (i := 11) rfl)
theorem tw_12 : (Cond.initialized "java/lang/IllegalArgumentException" : Cond) ∈ cp_T := tc_0 _ (List.mem_of_getElem? (i := 12) rfl)
theorem tw_13 : (Cond.initialized "java/lang/IllegalStateException" : Cond) ∈ cp_T := tc_0 _ (List.mem_of_getElem? (i := 13) rfl)
theorem tw_14 : (Cond.initialized "java/lang/IndexOutOfBoundsException" : Cond) ∈ cp_T := tc_0 _ (List.mem_of_getElem? (i := 14) rfl)
theorem tw_15 : (Cond.initialized "java/lang/System" : Cond) ∈ cp_T := tc_0 _ (List.mem_of_getElem? (i := 15) rfl)
theorem tw_16 : (Cond.classLink "CreaturePondLaw" 8 "CreaturePond" : Cond) ∈ cp_T := tc_0 _ (List.mem_of_getElem? (i := 16) rfl)
theorem tw_17 : (Cond.instantiable "CreaturePond" 6 : Cond) ∈ cp_T := tc_0 _ (List.mem_of_getElem? (i := 17) rfl)
theorem tw_18 : (Cond.methodLink "CreaturePondLaw" 41 yX0_init : Cond) ∈ cp_T := tc_0 _ (List.mem_of_getElem? (i := 18) rfl)
theorem tw_19 : (Cond.instanceMethod yX0_init : Cond) ∈ cp_T := tc_0 _ (List.mem_of_getElem? (i := 19) rfl)
theorem tw_20 : (Cond.code yX0_init cX0_init 3 none : Cond) ∈ cp_T := tc_1 _ (List.mem_of_getElem? (i := 0) rfl)
theorem tw_21 : (Cond.methodLink "CreaturePond" 1 objectInit : Cond) ∈ cp_T := tc_1 _ (List.mem_of_getElem? (i := 1) rfl)
theorem tw_22 : (Cond.instanceMethod objectInit : Cond) ∈ cp_T := tc_1 _ (List.mem_of_getElem? (i := 2) rfl)
theorem tw_23 : (Cond.code objectInit ⟨#[0xb1]⟩ 1 none : Cond) ∈ cp_T := tc_1 _ (List.mem_of_getElem? (i := 3) rfl)
theorem tw_24 : (Cond.classLink "CreaturePond" 7 "CreaturePond$Shape" : Cond) ∈ cp_T := tc_1 _ (List.mem_of_getElem? (i := 4) rfl)
theorem tw_25 : (Cond.instantiable "CreaturePond$Shape" 4 : Cond) ∈ cp_T := tc_1 _ (List.mem_of_getElem? (i := 5) rfl)
theorem tw_26 : (Cond.methodLink "CreaturePond" 11 Lib.Math.min.name : Cond) ∈ cp_T := tc_1 _ (List.mem_of_getElem? (i := 6) rfl)
theorem tw_27 : (Cond.static Lib.Math.min.name : Cond) ∈ cp_T := tc_1 _ (List.mem_of_getElem? (i := 7) rfl)
theorem tw_28 : (Cond.code Lib.Math.min.name Lib.Math.min.code 2 (some .int) : Cond) ∈ cp_T := tc_1 _ (List.mem_of_getElem? (i := 8) rfl)
theorem tw_29 : (Cond.methodLink "CreaturePond" 17 Lib.Math.max.name : Cond) ∈ cp_T := tc_1 _ (List.mem_of_getElem? (i := 9) rfl)
theorem tw_30 : (Cond.static Lib.Math.max.name : Cond) ∈ cp_T := tc_1 _ (List.mem_of_getElem? (i := 10) rfl)
theorem tw_31 : (Cond.code Lib.Math.max.name Lib.Math.max.code 2 (some .int) : Cond) ∈ cp_T := tc_1 _ (List.mem_of_getElem? (i := 11) rfl)
theorem tw_32 : (Cond.instanceMethod yX5_init : Cond) ∈ cp_T := tc_1 _ (List.mem_of_getElem? (i := 12) rfl)
theorem tw_33 : (Cond.code yX5_init cX5_init 6 none : Cond) ∈ cp_T := tc_1 _ (List.mem_of_getElem? (i := 13) rfl)
theorem tw_34 : (Cond.methodLink "CreaturePond$Shape" 3 objectInit : Cond) ∈ cp_T := tc_1 _ (List.mem_of_getElem? (i := 14) rfl)
theorem tw_35 : (Cond.methodLink "CreaturePond$Shape" 25 yX5_columnOf : Cond) ∈ cp_T := tc_1 _ (List.mem_of_getElem? (i := 15) rfl)
theorem tw_36 : (Cond.instanceMethod yX5_columnOf : Cond) ∈ cp_T := tc_1 _ (List.mem_of_getElem? (i := 16) rfl)
theorem tw_37 : (Cond.code yX5_columnOf cX5_columnOf 2 (some .int) : Cond) ∈ cp_T := tc_1 _ (List.mem_of_getElem? (i := 17) rfl)
theorem tw_38 : (Cond.fieldLink "CreaturePond$Shape" 29 "CreaturePond$Shape" "STEP_X" "[I" : Cond) ∈ cp_T := tc_1 _ (List.mem_of_getElem? (i := 18) rfl)
theorem tw_39 : (Cond.methodLink "CreaturePond$Shape" 32 yX5_rowOf : Cond) ∈ cp_T := tc_1 _ (List.mem_of_getElem? (i := 19) rfl)
theorem tw_40 : (Cond.instanceMethod yX5_rowOf : Cond) ∈ cp_T := tc_2 _ (List.mem_of_getElem? (i := 0) rfl)
theorem tw_41 : (Cond.code yX5_rowOf cX5_rowOf 2 (some .int) : Cond) ∈ cp_T := tc_2 _ (List.mem_of_getElem? (i := 1) rfl)
theorem tw_42 : (Cond.fieldLink "CreaturePond$Shape" 35 "CreaturePond$Shape" "STEP_Y" "[I" : Cond) ∈ cp_T := tc_2 _ (List.mem_of_getElem? (i := 2) rfl)
theorem tw_43 : (Cond.methodLink "CreaturePond$Shape" 38 yX5_cellAt : Cond) ∈ cp_T := tc_2 _ (List.mem_of_getElem? (i := 3) rfl)
theorem tw_44 : (Cond.instanceMethod yX5_cellAt : Cond) ∈ cp_T := tc_2 _ (List.mem_of_getElem? (i := 4) rfl)
theorem tw_45 : (Cond.code yX5_cellAt cX5_cellAt 3 (some .int) : Cond) ∈ cp_T := tc_2 _ (List.mem_of_getElem? (i := 5) rfl)
theorem tw_46 : (Cond.methodLink "CreaturePond$Shape" 42 yJ_floorMod : Cond) ∈ cp_T := tc_2 _ (List.mem_of_getElem? (i := 6) rfl)
theorem tw_47 : (Cond.static yJ_floorMod : Cond) ∈ cp_T := tc_2 _ (List.mem_of_getElem? (i := 7) rfl)
theorem tw_48 : (Cond.code yJ_floorMod cJ_floorMod 3 (some .int) : Cond) ∈ cp_T := tc_2 _ (List.mem_of_getElem? (i := 8) rfl)
theorem tw_49 : (Cond.fieldLink "CreaturePond$Shape" 9 "CreaturePond$Shape" "width" "I" : Cond) ∈ cp_T := tc_2 _ (List.mem_of_getElem? (i := 9) rfl)
theorem tw_50 : (Cond.fieldLink "CreaturePond$Shape" 15 "CreaturePond$Shape" "height" "I" : Cond) ∈ cp_T := tc_2 _ (List.mem_of_getElem? (i := 10) rfl)
theorem tw_51 : (Cond.fieldLink "CreaturePond$Shape" 18 "CreaturePond$Shape" "cells" "I" : Cond) ∈ cp_T := tc_2 _ (List.mem_of_getElem? (i := 11) rfl)
theorem tw_52 : (Cond.fieldLink "CreaturePond$Shape" 21 "CreaturePond$Shape" "neighbours" "[I" : Cond) ∈ cp_T := tc_2 _ (List.mem_of_getElem? (i := 12) rfl)
theorem tw_53 : (Cond.laysFinal "CreaturePond$Shape" "CreaturePond$Shape" "width" "I" : Cond) ∈ cp_T := tc_2 _ (List.mem_of_getElem? (i := 13) rfl)
theorem tw_54 : (Cond.laysFinal "CreaturePond$Shape" "CreaturePond$Shape" "height" "I" : Cond) ∈ cp_T := tc_2 _ (List.mem_of_getElem? (i := 14) rfl)
theorem tw_55 : (Cond.laysFinal "CreaturePond$Shape" "CreaturePond$Shape" "cells" "I" : Cond) ∈ cp_T := tc_2 _ (List.mem_of_getElem? (i := 15) rfl)
theorem tw_56 : (Cond.laysFinal "CreaturePond$Shape" "CreaturePond$Shape" "neighbours" "[I" : Cond) ∈ cp_T := tc_2 _ (List.mem_of_getElem? (i := 16) rfl)
theorem tw_57 : (Cond.arrayClass .int : Cond) ∈ cp_T := tc_2 _ (List.mem_of_getElem? (i := 17) rfl)
theorem tw_58 : (Cond.classLink "CreaturePond" 27 "CreaturePond$Pond" : Cond) ∈ cp_T := tc_2 _ (List.mem_of_getElem? (i := 18) rfl)
theorem tw_59 : (Cond.instantiable "CreaturePond$Pond" 12 : Cond) ∈ cp_T := tc_2 _ (List.mem_of_getElem? (i := 19) rfl)
theorem tw_60 : (Cond.instanceMethod yX4_init : Cond) ∈ cp_T := tc_3 _ (List.mem_of_getElem? (i := 0) rfl)
theorem tw_61 : (Cond.code yX4_init cX4_init 3 none : Cond) ∈ cp_T := tc_3 _ (List.mem_of_getElem? (i := 1) rfl)
theorem tw_62 : (Cond.methodLink "CreaturePond$Pond" 3 objectInit : Cond) ∈ cp_T := tc_3 _ (List.mem_of_getElem? (i := 2) rfl)
theorem tw_63 : (Cond.classLink "CreaturePond$Pond" 9 "CreaturePond$Animal" : Cond) ∈ cp_T := tc_3 _ (List.mem_of_getElem? (i := 3) rfl)
theorem tw_64 : (Cond.instantiable "CreaturePond$Animal" 14 : Cond) ∈ cp_T := tc_3 _ (List.mem_of_getElem? (i := 4) rfl)
theorem tw_65 : (Cond.instanceMethod yX1_init : Cond) ∈ cp_T := tc_3 _ (List.mem_of_getElem? (i := 5) rfl)
theorem tw_66 : (Cond.code yX1_init cX1_init 1 none : Cond) ∈ cp_T := tc_3 _ (List.mem_of_getElem? (i := 6) rfl)
theorem tw_67 : (Cond.methodLink "CreaturePond$Animal" 3 objectInit : Cond) ∈ cp_T := tc_3 _ (List.mem_of_getElem? (i := 7) rfl)
theorem tw_68 : (Cond.fieldLink "CreaturePond$Animal" 9 "CreaturePond$Animal" "registers" "[B" : Cond) ∈ cp_T := tc_3 _ (List.mem_of_getElem? (i := 8) rfl)
theorem tw_69 : (Cond.fieldLink "CreaturePond$Animal" 15 "CreaturePond$Animal" "memory" "[B" : Cond) ∈ cp_T := tc_3 _ (List.mem_of_getElem? (i := 9) rfl)
theorem tw_70 : (Cond.fieldLink "CreaturePond$Animal" 18 "CreaturePond$Animal" "genes" "[B" : Cond) ∈ cp_T := tc_3 _ (List.mem_of_getElem? (i := 10) rfl)
theorem tw_71 : (Cond.fieldLink "CreaturePond$Animal" 21 "CreaturePond$Animal" "lives" "Z" : Cond) ∈ cp_T := tc_3 _ (List.mem_of_getElem? (i := 11) rfl)
theorem tw_72 : (Cond.fieldLink "CreaturePond$Animal" 25 "CreaturePond$Animal" "asked" "Z" : Cond) ∈ cp_T := tc_3 _ (List.mem_of_getElem? (i := 12) rfl)
theorem tw_73 : (Cond.fieldLink "CreaturePond$Animal" 28 "CreaturePond$Animal" "home" "I" : Cond) ∈ cp_T := tc_3 _ (List.mem_of_getElem? (i := 13) rfl)
theorem tw_74 : (Cond.fieldLink "CreaturePond$Animal" 32 "CreaturePond$Animal" "heading" "I" : Cond) ∈ cp_T := tc_3 _ (List.mem_of_getElem? (i := 14) rfl)
theorem tw_75 : (Cond.fieldLink "CreaturePond$Animal" 35 "CreaturePond$Animal" "energy" "I" : Cond) ∈ cp_T := tc_3 _ (List.mem_of_getElem? (i := 15) rfl)
theorem tw_76 : (Cond.fieldLink "CreaturePond$Animal" 38 "CreaturePond$Animal" "age" "I" : Cond) ∈ cp_T := tc_3 _ (List.mem_of_getElem? (i := 16) rfl)
theorem tw_77 : (Cond.fieldLink "CreaturePond$Animal" 41 "CreaturePond$Animal" "length" "I" : Cond) ∈ cp_T := tc_3 _ (List.mem_of_getElem? (i := 17) rfl)
theorem tw_78 : (Cond.fieldLink "CreaturePond$Animal" 44 "CreaturePond$Animal" "place" "I" : Cond) ∈ cp_T := tc_3 _ (List.mem_of_getElem? (i := 18) rfl)
theorem tw_79 : (Cond.fieldLink "CreaturePond$Animal" 47 "CreaturePond$Animal" "firstParent" "I" : Cond) ∈ cp_T := tc_3 _ (List.mem_of_getElem? (i := 19) rfl)
theorem tw_80 : (Cond.fieldLink "CreaturePond$Animal" 50 "CreaturePond$Animal" "secondParent" "I" : Cond) ∈ cp_T := tc_4 _ (List.mem_of_getElem? (i := 0) rfl)
theorem tw_81 : (Cond.fieldLink "CreaturePond$Animal" 53 "CreaturePond$Animal" "generation" "I" : Cond) ∈ cp_T := tc_4 _ (List.mem_of_getElem? (i := 1) rfl)
theorem tw_82 : (Cond.laysFinal "CreaturePond$Animal" "CreaturePond$Animal" "registers" "[B" : Cond) ∈ cp_T := tc_4 _ (List.mem_of_getElem? (i := 2) rfl)
theorem tw_83 : (Cond.laysFinal "CreaturePond$Animal" "CreaturePond$Animal" "memory" "[B" : Cond) ∈ cp_T := tc_4 _ (List.mem_of_getElem? (i := 3) rfl)
theorem tw_84 : (Cond.laysFinal "CreaturePond$Animal" "CreaturePond$Animal" "genes" "[B" : Cond) ∈ cp_T := tc_4 _ (List.mem_of_getElem? (i := 4) rfl)
theorem tw_85 : (Cond.lays "CreaturePond$Animal" "CreaturePond$Animal" "lives" "Z" : Cond) ∈ cp_T := tc_4 _ (List.mem_of_getElem? (i := 5) rfl)
theorem tw_86 : (Cond.lays "CreaturePond$Animal" "CreaturePond$Animal" "asked" "Z" : Cond) ∈ cp_T := tc_4 _ (List.mem_of_getElem? (i := 6) rfl)
theorem tw_87 : (Cond.lays "CreaturePond$Animal" "CreaturePond$Animal" "home" "I" : Cond) ∈ cp_T := tc_4 _ (List.mem_of_getElem? (i := 7) rfl)
theorem tw_88 : (Cond.lays "CreaturePond$Animal" "CreaturePond$Animal" "heading" "I" : Cond) ∈ cp_T := tc_4 _ (List.mem_of_getElem? (i := 8) rfl)
theorem tw_89 : (Cond.lays "CreaturePond$Animal" "CreaturePond$Animal" "energy" "I" : Cond) ∈ cp_T := tc_4 _ (List.mem_of_getElem? (i := 9) rfl)
theorem tw_90 : (Cond.lays "CreaturePond$Animal" "CreaturePond$Animal" "age" "I" : Cond) ∈ cp_T := tc_4 _ (List.mem_of_getElem? (i := 10) rfl)
theorem tw_91 : (Cond.lays "CreaturePond$Animal" "CreaturePond$Animal" "length" "I" : Cond) ∈ cp_T := tc_4 _ (List.mem_of_getElem? (i := 11) rfl)
theorem tw_92 : (Cond.lays "CreaturePond$Animal" "CreaturePond$Animal" "place" "I" : Cond) ∈ cp_T := tc_4 _ (List.mem_of_getElem? (i := 12) rfl)
theorem tw_93 : (Cond.lays "CreaturePond$Animal" "CreaturePond$Animal" "firstParent" "I" : Cond) ∈ cp_T := tc_4 _ (List.mem_of_getElem? (i := 13) rfl)
theorem tw_94 : (Cond.lays "CreaturePond$Animal" "CreaturePond$Animal" "secondParent" "I" : Cond) ∈ cp_T := tc_4 _ (List.mem_of_getElem? (i := 14) rfl)
theorem tw_95 : (Cond.lays "CreaturePond$Animal" "CreaturePond$Animal" "generation" "I" : Cond) ∈ cp_T := tc_4 _ (List.mem_of_getElem? (i := 15) rfl)
theorem tw_96 : (Cond.arrayClass .byte : Cond) ∈ cp_T := tc_4 _ (List.mem_of_getElem? (i := 16) rfl)
theorem tw_97 : (Cond.fieldLink "CreaturePond$Pond" 17 "CreaturePond$Pond" "shape" "LCreaturePond$Shape;" : Cond) ∈ cp_T := tc_4 _ (List.mem_of_getElem? (i := 17) rfl)
theorem tw_98 : (Cond.fieldLink "CreaturePond$Pond" 27 "CreaturePond$Pond" "grains" "[I" : Cond) ∈ cp_T := tc_4 _ (List.mem_of_getElem? (i := 18) rfl)
theorem tw_99 : (Cond.fieldLink "CreaturePond$Pond" 31 "CreaturePond$Pond" "marks" "[B" : Cond) ∈ cp_T := tc_4 _ (List.mem_of_getElem? (i := 19) rfl)
theorem tw_100 : (Cond.fieldLink "CreaturePond$Pond" 35 "CreaturePond$Pond" "dwellers" "[I" : Cond) ∈ cp_T := tc_5 _ (List.mem_of_getElem? (i := 0) rfl)
theorem tw_101 : (Cond.fieldLink "CreaturePond$Pond" 11 "CreaturePond$Pond" "animals" "[LCreaturePond$Animal;" : Cond) ∈ cp_T := tc_5 _ (List.mem_of_getElem? (i := 1) rfl)
theorem tw_102 : (Cond.fieldLink "CreaturePond$Pond" 49 "CreaturePond$Pond" "stored" "I" : Cond) ∈ cp_T := tc_5 _ (List.mem_of_getElem? (i := 2) rfl)
theorem tw_103 : (Cond.fieldLink "CreaturePond$Pond" 52 "CreaturePond$Pond" "sun" "I" : Cond) ∈ cp_T := tc_5 _ (List.mem_of_getElem? (i := 3) rfl)
theorem tw_104 : (Cond.fieldLink "CreaturePond$Pond" 55 "CreaturePond$Pond" "stream" "I" : Cond) ∈ cp_T := tc_5 _ (List.mem_of_getElem? (i := 4) rfl)
theorem tw_105 : (Cond.fieldLink "CreaturePond$Pond" 58 "CreaturePond$Pond" "turn" "I" : Cond) ∈ cp_T := tc_5 _ (List.mem_of_getElem? (i := 5) rfl)
theorem tw_106 : (Cond.fieldLink "CreaturePond$Pond" 61 "CreaturePond$Pond" "births" "I" : Cond) ∈ cp_T := tc_5 _ (List.mem_of_getElem? (i := 6) rfl)
theorem tw_107 : (Cond.fieldLink "CreaturePond$Pond" 64 "CreaturePond$Pond" "deaths" "I" : Cond) ∈ cp_T := tc_5 _ (List.mem_of_getElem? (i := 7) rfl)
theorem tw_108 : (Cond.fieldLink "CreaturePond$Pond" 67 "CreaturePond$Pond" "ticks" "I" : Cond) ∈ cp_T := tc_5 _ (List.mem_of_getElem? (i := 8) rfl)
theorem tw_109 : (Cond.laysFinal "CreaturePond$Pond" "CreaturePond$Pond" "shape" "LCreaturePond$Shape;" : Cond) ∈ cp_T := tc_5 _ (List.mem_of_getElem? (i := 9) rfl)
theorem tw_110 : (Cond.laysFinal "CreaturePond$Pond" "CreaturePond$Pond" "grains" "[I" : Cond) ∈ cp_T := tc_5 _ (List.mem_of_getElem? (i := 10) rfl)
theorem tw_111 : (Cond.laysFinal "CreaturePond$Pond" "CreaturePond$Pond" "marks" "[B" : Cond) ∈ cp_T := tc_5 _ (List.mem_of_getElem? (i := 11) rfl)
theorem tw_112 : (Cond.laysFinal "CreaturePond$Pond" "CreaturePond$Pond" "dwellers" "[I" : Cond) ∈ cp_T := tc_5 _ (List.mem_of_getElem? (i := 12) rfl)
theorem tw_113 : (Cond.laysFinal "CreaturePond$Pond" "CreaturePond$Pond" "animals" "[LCreaturePond$Animal;" : Cond) ∈ cp_T := tc_5 _ (List.mem_of_getElem? (i := 13) rfl)
theorem tw_114 : (Cond.lays "CreaturePond$Pond" "CreaturePond$Pond" "stored" "I" : Cond) ∈ cp_T := tc_5 _ (List.mem_of_getElem? (i := 14) rfl)
theorem tw_115 : (Cond.lays "CreaturePond$Pond" "CreaturePond$Pond" "sun" "I" : Cond) ∈ cp_T := tc_5 _ (List.mem_of_getElem? (i := 15) rfl)
theorem tw_116 : (Cond.lays "CreaturePond$Pond" "CreaturePond$Pond" "stream" "I" : Cond) ∈ cp_T := tc_5 _ (List.mem_of_getElem? (i := 16) rfl)
theorem tw_117 : (Cond.lays "CreaturePond$Pond" "CreaturePond$Pond" "turn" "I" : Cond) ∈ cp_T := tc_5 _ (List.mem_of_getElem? (i := 17) rfl)
theorem tw_118 : (Cond.lays "CreaturePond$Pond" "CreaturePond$Pond" "births" "I" : Cond) ∈ cp_T := tc_5 _ (List.mem_of_getElem? (i := 18) rfl)
theorem tw_119 : (Cond.lays "CreaturePond$Pond" "CreaturePond$Pond" "deaths" "I" : Cond) ∈ cp_T := tc_5 _ (List.mem_of_getElem? (i := 19) rfl)
theorem tw_120 : (Cond.lays "CreaturePond$Pond" "CreaturePond$Pond" "ticks" "I" : Cond) ∈ cp_T := tc_6 _ (List.mem_of_getElem? (i := 0) rfl)
theorem tw_121 : (Cond.classLink "CreaturePond" 39 "CreaturePond$Mind" : Cond) ∈ cp_T := tc_6 _ (List.mem_of_getElem? (i := 1) rfl)
theorem tw_122 : (Cond.instantiable "CreaturePond$Mind" 1 : Cond) ∈ cp_T := tc_6 _ (List.mem_of_getElem? (i := 2) rfl)
theorem tw_123 : (Cond.instanceMethod yX3_init : Cond) ∈ cp_T := tc_6 _ (List.mem_of_getElem? (i := 3) rfl)
theorem tw_124 : (Cond.code yX3_init cX3_init 2 none : Cond) ∈ cp_T := tc_6 _ (List.mem_of_getElem? (i := 4) rfl)
theorem tw_125 : (Cond.methodLink "CreaturePond$Mind" 5 objectInit : Cond) ∈ cp_T := tc_6 _ (List.mem_of_getElem? (i := 5) rfl)
theorem tw_126 : (Cond.fieldLink "CreaturePond$Mind" 11 "CreaturePond$Mind" "pond" "LCreaturePond$Pond;" : Cond) ∈ cp_T := tc_6 _ (List.mem_of_getElem? (i := 6) rfl)
theorem tw_127 : (Cond.laysFinal "CreaturePond$Mind" "CreaturePond$Mind" "pond" "LCreaturePond$Pond;" : Cond) ∈ cp_T := tc_6 _ (List.mem_of_getElem? (i := 7) rfl)
theorem tw_128 : (Cond.classLink "CreaturePond" 48 "CreaturePond$Breeding" : Cond) ∈ cp_T := tc_6 _ (List.mem_of_getElem? (i := 8) rfl)
theorem tw_129 : (Cond.instantiable "CreaturePond$Breeding" 1 : Cond) ∈ cp_T := tc_6 _ (List.mem_of_getElem? (i := 9) rfl)
theorem tw_130 : (Cond.instanceMethod yX2_init : Cond) ∈ cp_T := tc_6 _ (List.mem_of_getElem? (i := 10) rfl)
theorem tw_131 : (Cond.code yX2_init cX2_init 2 none : Cond) ∈ cp_T := tc_6 _ (List.mem_of_getElem? (i := 11) rfl)
theorem tw_132 : (Cond.methodLink "CreaturePond$Breeding" 3 objectInit : Cond) ∈ cp_T := tc_6 _ (List.mem_of_getElem? (i := 12) rfl)
theorem tw_133 : (Cond.fieldLink "CreaturePond$Breeding" 9 "CreaturePond$Breeding" "pond" "LCreaturePond$Pond;" : Cond) ∈ cp_T := tc_6 _ (List.mem_of_getElem? (i := 13) rfl)
theorem tw_134 : (Cond.laysFinal "CreaturePond$Breeding" "CreaturePond$Breeding" "pond" "LCreaturePond$Pond;" : Cond) ∈ cp_T := tc_6 _ (List.mem_of_getElem? (i := 14) rfl)
theorem tw_135 : (Cond.fieldLink "CreaturePond" 23 "CreaturePond" "shape" "LCreaturePond$Shape;" : Cond) ∈ cp_T := tc_6 _ (List.mem_of_getElem? (i := 15) rfl)
theorem tw_136 : (Cond.fieldLink "CreaturePond" 32 "CreaturePond" "now" "LCreaturePond$Pond;" : Cond) ∈ cp_T := tc_6 _ (List.mem_of_getElem? (i := 16) rfl)
theorem tw_137 : (Cond.fieldLink "CreaturePond" 36 "CreaturePond" "kept" "LCreaturePond$Pond;" : Cond) ∈ cp_T := tc_6 _ (List.mem_of_getElem? (i := 17) rfl)
theorem tw_138 : (Cond.fieldLink "CreaturePond" 44 "CreaturePond" "mind" "LCreaturePond$Mind;" : Cond) ∈ cp_T := tc_6 _ (List.mem_of_getElem? (i := 18) rfl)
theorem tw_139 : (Cond.fieldLink "CreaturePond" 51 "CreaturePond" "breeding" "LCreaturePond$Breeding;" : Cond) ∈ cp_T := tc_6 _ (List.mem_of_getElem? (i := 19) rfl)
theorem tw_140 : (Cond.fieldLink "CreaturePond" 188 "CreaturePond" "isKept" "Z" : Cond) ∈ cp_T := tc_7 _ (List.mem_of_getElem? (i := 0) rfl)
theorem tw_141 : (Cond.laysFinal "CreaturePond" "CreaturePond" "shape" "LCreaturePond$Shape;" : Cond) ∈ cp_T := tc_7 _ (List.mem_of_getElem? (i := 1) rfl)
theorem tw_142 : (Cond.laysFinal "CreaturePond" "CreaturePond" "now" "LCreaturePond$Pond;" : Cond) ∈ cp_T := tc_7 _ (List.mem_of_getElem? (i := 2) rfl)
theorem tw_143 : (Cond.laysFinal "CreaturePond" "CreaturePond" "kept" "LCreaturePond$Pond;" : Cond) ∈ cp_T := tc_7 _ (List.mem_of_getElem? (i := 3) rfl)
theorem tw_144 : (Cond.laysFinal "CreaturePond" "CreaturePond" "mind" "LCreaturePond$Mind;" : Cond) ∈ cp_T := tc_7 _ (List.mem_of_getElem? (i := 4) rfl)
theorem tw_145 : (Cond.laysFinal "CreaturePond" "CreaturePond" "breeding" "LCreaturePond$Breeding;" : Cond) ∈ cp_T := tc_7 _ (List.mem_of_getElem? (i := 5) rfl)
theorem tw_146 : (Cond.lays "CreaturePond" "CreaturePond" "isKept" "Z" : Cond) ∈ cp_T := tc_7 _ (List.mem_of_getElem? (i := 6) rfl)
theorem tw_147 : (Cond.methodLink "CreaturePondLaw" 47 yX0_set : Cond) ∈ cp_T := tc_7 _ (List.mem_of_getElem? (i := 7) rfl)
theorem tw_148 : (Cond.instanceMethod yX0_set : Cond) ∈ cp_T := tc_7 _ (List.mem_of_getElem? (i := 8) rfl)
theorem tw_149 : (Cond.selects "CreaturePond" yX0_set yX0_set : Cond) ∈ cp_T := tc_7 _ (List.mem_of_getElem? (i := 9) rfl)
theorem tw_150 : (Cond.code yX0_set cX0_set 3 (some .boolean) : Cond) ∈ cp_T := tc_7 _ (List.mem_of_getElem? (i := 10) rfl)
theorem tw_151 : (Cond.methodLink "CreaturePondLaw" 52 yX0_store : Cond) ∈ cp_T := tc_7 _ (List.mem_of_getElem? (i := 11) rfl)
theorem tw_152 : (Cond.instanceMethod yX0_store : Cond) ∈ cp_T := tc_7 _ (List.mem_of_getElem? (i := 12) rfl)
theorem tw_153 : (Cond.selects "CreaturePond" yX0_store yX0_store : Cond) ∈ cp_T := tc_7 _ (List.mem_of_getElem? (i := 13) rfl)
theorem tw_154 : (Cond.code yX0_store cX0_store 2 (some .boolean) : Cond) ∈ cp_T := tc_7 _ (List.mem_of_getElem? (i := 14) rfl)
theorem tw_155 : (Cond.constant "CreaturePond" 65 (1000000 : Int32) : Cond) ∈ cp_T := tc_7 _ (List.mem_of_getElem? (i := 15) rfl)
theorem tw_156 : (Cond.methodLink "CreaturePondLaw" 57 yX0_grain : Cond) ∈ cp_T := tc_7 _ (List.mem_of_getElem? (i := 16) rfl)
theorem tw_157 : (Cond.instanceMethod yX0_grain : Cond) ∈ cp_T := tc_7 _ (List.mem_of_getElem? (i := 17) rfl)
theorem tw_158 : (Cond.selects "CreaturePond" yX0_grain yX0_grain : Cond) ∈ cp_T := tc_7 _ (List.mem_of_getElem? (i := 18) rfl)
theorem tw_159 : (Cond.code yX0_grain cX0_grain 4 (some .boolean) : Cond) ∈ cp_T := tc_7 _ (List.mem_of_getElem? (i := 19) rfl)
theorem tw_160 : (Cond.methodLink "CreaturePondLaw" 79 yX0_cell : Cond) ∈ cp_T := tc_8 _ (List.mem_of_getElem? (i := 0) rfl)
theorem tw_161 : (Cond.instanceMethod yX0_cell : Cond) ∈ cp_T := tc_8 _ (List.mem_of_getElem? (i := 1) rfl)
theorem tw_162 : (Cond.selects "CreaturePond" yX0_cell yX0_cell : Cond) ∈ cp_T := tc_8 _ (List.mem_of_getElem? (i := 2) rfl)
theorem tw_163 : (Cond.code yX0_cell cX0_cell 5 (some .int) : Cond) ∈ cp_T := tc_8 _ (List.mem_of_getElem? (i := 3) rfl)
theorem tw_164 : (Cond.methodLink "CreaturePondLaw" 83 yX0_field : Cond) ∈ cp_T := tc_8 _ (List.mem_of_getElem? (i := 4) rfl)
theorem tw_165 : (Cond.instanceMethod yX0_field : Cond) ∈ cp_T := tc_8 _ (List.mem_of_getElem? (i := 5) rfl)
theorem tw_166 : (Cond.selects "CreaturePond" yX0_field yX0_field : Cond) ∈ cp_T := tc_8 _ (List.mem_of_getElem? (i := 6) rfl)
theorem tw_167 : (Cond.code yX0_field cX0_field 4 (some .int) : Cond) ∈ cp_T := tc_8 _ (List.mem_of_getElem? (i := 7) rfl)
theorem tw_168 : (Cond.instanceMethod yX4_has : Cond) ∈ cp_T := tc_8 _ (List.mem_of_getElem? (i := 8) rfl)
theorem tw_169 : (Cond.code yX4_has cX4_has 2 (some .boolean) : Cond) ∈ cp_T := tc_8 _ (List.mem_of_getElem? (i := 9) rfl)
theorem tw_170 : (Cond.instanceMethod yX1_trait : Cond) ∈ cp_T := tc_8 _ (List.mem_of_getElem? (i := 10) rfl)
theorem tw_171 : (Cond.code yX1_trait cX1_trait 2 (some .int) : Cond) ∈ cp_T := tc_8 _ (List.mem_of_getElem? (i := 11) rfl)
theorem tw_172 : (Cond.methodLink "CreaturePondLaw" 92 yX0_total : Cond) ∈ cp_T := tc_8 _ (List.mem_of_getElem? (i := 12) rfl)
theorem tw_173 : (Cond.instanceMethod yX0_total : Cond) ∈ cp_T := tc_8 _ (List.mem_of_getElem? (i := 13) rfl)
theorem tw_174 : (Cond.selects "CreaturePond" yX0_total yX0_total : Cond) ∈ cp_T := tc_8 _ (List.mem_of_getElem? (i := 14) rfl)
theorem tw_175 : (Cond.code yX0_total cX0_total 2 (some .int) : Cond) ∈ cp_T := tc_8 _ (List.mem_of_getElem? (i := 15) rfl)
theorem tw_176 : (Cond.instanceMethod yX4_energyOfAll : Cond) ∈ cp_T := tc_8 _ (List.mem_of_getElem? (i := 16) rfl)
theorem tw_177 : (Cond.code yX4_energyOfAll cX4_energyOfAll 3 (some .int) : Cond) ∈ cp_T := tc_8 _ (List.mem_of_getElem? (i := 17) rfl)
theorem tw_178 : (Cond.instanceMethod yX4_grainOfAll : Cond) ∈ cp_T := tc_8 _ (List.mem_of_getElem? (i := 18) rfl)
theorem tw_179 : (Cond.code yX4_grainOfAll cX4_grainOfAll 6 (some .int) : Cond) ∈ cp_T := tc_8 _ (List.mem_of_getElem? (i := 19) rfl)
theorem tw_180 : (Cond.instanceMethod yX4_countAnimals : Cond) ∈ cp_T := tc_9 _ (List.mem_of_getElem? (i := 0) rfl)
theorem tw_181 : (Cond.code yX4_countAnimals cX4_countAnimals 3 (some .int) : Cond) ∈ cp_T := tc_9 _ (List.mem_of_getElem? (i := 1) rfl)
theorem tw_182 : (Cond.methodLink "CreaturePondLaw" 96 yX0_keep : Cond) ∈ cp_T := tc_9 _ (List.mem_of_getElem? (i := 2) rfl)
theorem tw_183 : (Cond.instanceMethod yX0_keep : Cond) ∈ cp_T := tc_9 _ (List.mem_of_getElem? (i := 3) rfl)
theorem tw_184 : (Cond.selects "CreaturePond" yX0_keep yX0_keep : Cond) ∈ cp_T := tc_9 _ (List.mem_of_getElem? (i := 4) rfl)
theorem tw_185 : (Cond.code yX0_keep cX0_keep 1 none : Cond) ∈ cp_T := tc_9 _ (List.mem_of_getElem? (i := 5) rfl)
theorem tw_186 : (Cond.instanceMethod yX4_copyFrom : Cond) ∈ cp_T := tc_9 _ (List.mem_of_getElem? (i := 6) rfl)
theorem tw_187 : (Cond.code yX4_copyFrom cX4_copyFrom 3 none : Cond) ∈ cp_T := tc_9 _ (List.mem_of_getElem? (i := 7) rfl)
theorem tw_188 : (Cond.methodLink "CreaturePond$Pond" 39 arraycopyName : Cond) ∈ cp_T := tc_9 _ (List.mem_of_getElem? (i := 8) rfl)
theorem tw_189 : (Cond.static arraycopyName : Cond) ∈ cp_T := tc_9 _ (List.mem_of_getElem? (i := 9) rfl)
theorem tw_190 : (Cond.native arraycopyName : Cond) ∈ cp_T := tc_9 _ (List.mem_of_getElem? (i := 10) rfl)
theorem tw_191 : (Cond.instanceMethod yX1_copyFrom : Cond) ∈ cp_T := tc_9 _ (List.mem_of_getElem? (i := 11) rfl)
theorem tw_192 : (Cond.code yX1_copyFrom cX1_copyFrom 2 none : Cond) ∈ cp_T := tc_9 _ (List.mem_of_getElem? (i := 12) rfl)
theorem tw_193 : (Cond.methodLink "CreaturePond$Animal" 56 arraycopyName : Cond) ∈ cp_T := tc_9 _ (List.mem_of_getElem? (i := 13) rfl)
theorem tw_194 : (Cond.methodLink "CreaturePondLaw" 104 yX0_back : Cond) ∈ cp_T := tc_9 _ (List.mem_of_getElem? (i := 14) rfl)
theorem tw_195 : (Cond.instanceMethod yX0_back : Cond) ∈ cp_T := tc_9 _ (List.mem_of_getElem? (i := 15) rfl)
theorem tw_196 : (Cond.selects "CreaturePond" yX0_back yX0_back : Cond) ∈ cp_T := tc_9 _ (List.mem_of_getElem? (i := 16) rfl)
theorem tw_197 : (Cond.code yX0_back cX0_back 1 (some .boolean) : Cond) ∈ cp_T := tc_9 _ (List.mem_of_getElem? (i := 17) rfl)
theorem tw_198 : (Cond.methodLink "CreaturePondLaw" 35 yL_cell : Cond) ∈ cp_T := tc_9 _ (List.mem_of_getElem? (i := 18) rfl)
theorem tw_199 : (Cond.static yL_cell : Cond) ∈ cp_T := tc_9 _ (List.mem_of_getElem? (i := 19) rfl)
theorem tw_200 : (Cond.code yL_cell cL_cell 2 (some .int) : Cond) ∈ cp_T := tc_10 _ (List.mem_of_getElem? (i := 0) rfl)
theorem tw_201 : (Cond.methodLink "CreaturePondLaw" 62 yL_animal : Cond) ∈ cp_T := tc_10 _ (List.mem_of_getElem? (i := 1) rfl)
theorem tw_202 : (Cond.static yL_animal : Cond) ∈ cp_T := tc_10 _ (List.mem_of_getElem? (i := 2) rfl)
theorem tw_203 : (Cond.classLink "CreaturePondLaw" 13 "java/lang/IllegalArgumentException" : Cond) ∈ cp_T := tc_10 _ (List.mem_of_getElem? (i := 3) rfl)
theorem tw_204 : (Cond.classLink "CreaturePondLaw" 15 "java/lang/IllegalStateException" : Cond) ∈ cp_T := tc_10 _ (List.mem_of_getElem? (i := 4) rfl)
theorem tw_205 : (Cond.methodLink "CreaturePondLaw" 7 yX0_animal : Cond) ∈ cp_T := tc_10 _ (List.mem_of_getElem? (i := 5) rfl)
theorem tw_206 : (Cond.instanceMethod yX0_animal : Cond) ∈ cp_T := tc_10 _ (List.mem_of_getElem? (i := 6) rfl)
theorem tw_207 : (Cond.selects "CreaturePond" yX0_animal yX0_animal : Cond) ∈ cp_T := tc_10 _ (List.mem_of_getElem? (i := 7) rfl)
theorem tw_208 : (Cond.code yX0_animal cX0_animal 7 (some .int) : Cond) ∈ cp_T := tc_10 _ (List.mem_of_getElem? (i := 8) rfl)
theorem tw_209 : (Cond.classLink "CreaturePond" 73 "java/lang/IllegalArgumentException" : Cond) ∈ cp_T := tc_10 _ (List.mem_of_getElem? (i := 9) rfl)
theorem tw_210 : (Cond.instantiable "java/lang/IllegalArgumentException" 6 : Cond) ∈ cp_T := tc_10 _ (List.mem_of_getElem? (i := 10) rfl)
theorem tw_211 : (Cond.lays "java/lang/IllegalArgumentException" "java/lang/Throwable" "cause" "Ljava/lang/Throwable;" : Cond) ∈ cp_T := tc_10 _ (List.mem_of_getElem? (i := 11) rfl)
theorem tw_212 : (Cond.lays "java/lang/Throwable" "java/lang/Throwable" "cause" "Ljava/lang/Throwable;" : Cond) ∈ cp_T := tc_10 _ (List.mem_of_getElem? (i := 12) rfl)
theorem tw_213 : (Cond.lays "java/lang/IllegalArgumentException" "java/lang/Throwable" "stackTrace" "[Ljava/lang/StackTraceElement;" : Cond) ∈ cp_T := tc_10 _ (List.mem_of_getElem? (i := 13) rfl)
theorem tw_214 : (Cond.lays "java/lang/Throwable" "java/lang/Throwable" "stackTrace" "[Ljava/lang/StackTraceElement;" : Cond) ∈ cp_T := tc_10 _ (List.mem_of_getElem? (i := 14) rfl)
theorem tw_215 : (Cond.lays "java/lang/IllegalArgumentException" "java/lang/Throwable" "suppressedExceptions" "Ljava/util/List;" : Cond) ∈ cp_T := tc_10 _ (List.mem_of_getElem? (i := 15) rfl)
theorem tw_216 : (Cond.lays "java/lang/Throwable" "java/lang/Throwable" "suppressedExceptions" "Ljava/util/List;" : Cond) ∈ cp_T := tc_10 _ (List.mem_of_getElem? (i := 16) rfl)
theorem tw_217 : (Cond.lays "java/lang/IllegalArgumentException" "java/lang/Throwable" "detailMessage" "Ljava/lang/String;" : Cond) ∈ cp_T := tc_10 _ (List.mem_of_getElem? (i := 17) rfl)
theorem tw_218 : (Cond.lays "java/lang/Throwable" "java/lang/Throwable" "detailMessage" "Ljava/lang/String;" : Cond) ∈ cp_T := tc_10 _ (List.mem_of_getElem? (i := 18) rfl)
theorem tw_219 : (Cond.lays "java/lang/IllegalArgumentException" "java/lang/Throwable" "backtrace" "Ljava/lang/Object;" : Cond) ∈ cp_T := tc_10 _ (List.mem_of_getElem? (i := 19) rfl)
theorem tw_220 : (Cond.lays "java/lang/Throwable" "java/lang/Throwable" "backtrace" "Ljava/lang/Object;" : Cond) ∈ cp_T := tc_11 _ (List.mem_of_getElem? (i := 0) rfl)
theorem tw_221 : (Cond.fieldLink "java/lang/Throwable" 198 "java/lang/Throwable" "backtrace" "Ljava/lang/Object;" : Cond) ∈ cp_T := tc_11 _ (List.mem_of_getElem? (i := 1) rfl)
theorem tw_222 : (Cond.methodLink "java/lang/Throwable" 1 objectInit : Cond) ∈ cp_T := tc_11 _ (List.mem_of_getElem? (i := 2) rfl)
theorem tw_223 : (Cond.fieldLink "java/lang/Throwable" 13 "java/lang/Throwable" "UNASSIGNED_STACK" "[Ljava/lang/StackTraceElement;" : Cond) ∈ cp_T := tc_11 _ (List.mem_of_getElem? (i := 3) rfl)
theorem tw_224 : (Cond.fieldLink "java/lang/Throwable" 20 "java/lang/Throwable" "SUPPRESSED_SENTINEL" "Ljava/util/List;" : Cond) ∈ cp_T := tc_11 _ (List.mem_of_getElem? (i := 4) rfl)
theorem tw_225 : (Cond.instantiable "java/lang/Throwable" 6 : Cond) ∈ cp_T := tc_11 _ (List.mem_of_getElem? (i := 5) rfl)
theorem tw_226 : (Cond.fieldLink "java/lang/Throwable" 31 "java/lang/Throwable" "detailMessage" "Ljava/lang/String;" : Cond) ∈ cp_T := tc_11 _ (List.mem_of_getElem? (i := 6) rfl)
theorem tw_227 : (Cond.fieldLink "java/lang/Throwable" 7 "java/lang/Throwable" "cause" "Ljava/lang/Throwable;" : Cond) ∈ cp_T := tc_11 _ (List.mem_of_getElem? (i := 7) rfl)
theorem tw_228 : (Cond.fieldLink "java/lang/Throwable" 17 "java/lang/Throwable" "stackTrace" "[Ljava/lang/StackTraceElement;" : Cond) ∈ cp_T := tc_11 _ (List.mem_of_getElem? (i := 8) rfl)
theorem tw_229 : (Cond.fieldLink "java/lang/Throwable" 24 "java/lang/Throwable" "suppressedExceptions" "Ljava/util/List;" : Cond) ∈ cp_T := tc_11 _ (List.mem_of_getElem? (i := 9) rfl)
theorem tw_230 : (Cond.lays "java/lang/IllegalArgumentException" "java/lang/Throwable" "depth" "I" : Cond) ∈ cp_T := tc_11 _ (List.mem_of_getElem? (i := 10) rfl)
theorem tw_231 : (Cond.instanceMethod yX4_freeNumber : Cond) ∈ cp_T := tc_11 _ (List.mem_of_getElem? (i := 11) rfl)
theorem tw_232 : (Cond.code yX4_freeNumber cX4_freeNumber 2 (some .int) : Cond) ∈ cp_T := tc_11 _ (List.mem_of_getElem? (i := 12) rfl)
theorem tw_233 : (Cond.classLink "CreaturePond" 87 "java/lang/IllegalStateException" : Cond) ∈ cp_T := tc_11 _ (List.mem_of_getElem? (i := 13) rfl)
theorem tw_234 : (Cond.instantiable "java/lang/IllegalStateException" 6 : Cond) ∈ cp_T := tc_11 _ (List.mem_of_getElem? (i := 14) rfl)
theorem tw_235 : (Cond.lays "java/lang/IllegalStateException" "java/lang/Throwable" "cause" "Ljava/lang/Throwable;" : Cond) ∈ cp_T := tc_11 _ (List.mem_of_getElem? (i := 15) rfl)
theorem tw_236 : (Cond.lays "java/lang/IllegalStateException" "java/lang/Throwable" "stackTrace" "[Ljava/lang/StackTraceElement;" : Cond) ∈ cp_T := tc_11 _ (List.mem_of_getElem? (i := 16) rfl)
theorem tw_237 : (Cond.lays "java/lang/IllegalStateException" "java/lang/Throwable" "suppressedExceptions" "Ljava/util/List;" : Cond) ∈ cp_T := tc_11 _ (List.mem_of_getElem? (i := 17) rfl)
theorem tw_238 : (Cond.lays "java/lang/IllegalStateException" "java/lang/Throwable" "detailMessage" "Ljava/lang/String;" : Cond) ∈ cp_T := tc_11 _ (List.mem_of_getElem? (i := 18) rfl)
theorem tw_239 : (Cond.lays "java/lang/IllegalStateException" "java/lang/Throwable" "backtrace" "Ljava/lang/Object;" : Cond) ∈ cp_T := tc_11 _ (List.mem_of_getElem? (i := 19) rfl)
theorem tw_240 : (Cond.lays "java/lang/IllegalStateException" "java/lang/Throwable" "depth" "I" : Cond) ∈ cp_T := tc_12 _ (List.mem_of_getElem? (i := 0) rfl)
theorem tw_241 : (Cond.instanceMethod yX4_settle : Cond) ∈ cp_T := tc_12 _ (List.mem_of_getElem? (i := 1) rfl)
theorem tw_242 : (Cond.code yX4_settle cX4_settle 6 (some (.object "CreaturePond$Animal")) : Cond) ∈ cp_T := tc_12 _ (List.mem_of_getElem? (i := 2) rfl)
theorem tw_243 : (Cond.instanceMethod yX1_begin : Cond) ∈ cp_T := tc_12 _ (List.mem_of_getElem? (i := 3) rfl)
theorem tw_244 : (Cond.code yX1_begin cX1_begin 5 none : Cond) ∈ cp_T := tc_12 _ (List.mem_of_getElem? (i := 4) rfl)
theorem tw_245 : (Cond.methodLink "CreaturePondLaw" 71 yL_code : Cond) ∈ cp_T := tc_12 _ (List.mem_of_getElem? (i := 5) rfl)
theorem tw_246 : (Cond.static yL_code : Cond) ∈ cp_T := tc_12 _ (List.mem_of_getElem? (i := 6) rfl)
theorem tw_247 : (Cond.methodLink "CreaturePondLaw" 17 yX0_code : Cond) ∈ cp_T := tc_12 _ (List.mem_of_getElem? (i := 7) rfl)
theorem tw_248 : (Cond.instanceMethod yX0_code : Cond) ∈ cp_T := tc_12 _ (List.mem_of_getElem? (i := 8) rfl)
theorem tw_249 : (Cond.selects "CreaturePond" yX0_code yX0_code : Cond) ∈ cp_T := tc_12 _ (List.mem_of_getElem? (i := 9) rfl)
theorem tw_250 : (Cond.code yX0_code cX0_code 7 (some .int) : Cond) ∈ cp_T := tc_12 _ (List.mem_of_getElem? (i := 10) rfl)
theorem tw_251 : (Cond.instanceMethod yX1_grow : Cond) ∈ cp_T := tc_12 _ (List.mem_of_getElem? (i := 11) rfl)
theorem tw_252 : (Cond.code yX1_grow cX1_grow 2 none : Cond) ∈ cp_T := tc_12 _ (List.mem_of_getElem? (i := 12) rfl)
theorem tw_253 : (Cond.methodLink "CreaturePondLaw" 75 yL_tick : Cond) ∈ cp_T := tc_12 _ (List.mem_of_getElem? (i := 13) rfl)
theorem tw_254 : (Cond.static yL_tick : Cond) ∈ cp_T := tc_12 _ (List.mem_of_getElem? (i := 14) rfl)
theorem tw_255 : (Cond.methodLink "CreaturePondLaw" 21 yX0_tick : Cond) ∈ cp_T := tc_12 _ (List.mem_of_getElem? (i := 15) rfl)
theorem tw_256 : (Cond.instanceMethod yX0_tick : Cond) ∈ cp_T := tc_12 _ (List.mem_of_getElem? (i := 16) rfl)
theorem tw_257 : (Cond.selects "CreaturePond" yX0_tick yX0_tick : Cond) ∈ cp_T := tc_12 _ (List.mem_of_getElem? (i := 17) rfl)
theorem tw_258 : (Cond.code yX0_tick cX0_tick 3 (some .int) : Cond) ∈ cp_T := tc_12 _ (List.mem_of_getElem? (i := 18) rfl)
theorem tw_259 : (Cond.instanceMethod yX4_shine : Cond) ∈ cp_T := tc_12 _ (List.mem_of_getElem? (i := 19) rfl)
theorem tw_260 : (Cond.code yX4_shine cX4_shine 2 none : Cond) ∈ cp_T := tc_13 _ (List.mem_of_getElem? (i := 0) rfl)
theorem tw_261 : (Cond.instanceMethod yX3_moveAll : Cond) ∈ cp_T := tc_13 _ (List.mem_of_getElem? (i := 1) rfl)
theorem tw_262 : (Cond.code yX3_moveAll cX3_moveAll 2 none : Cond) ∈ cp_T := tc_13 _ (List.mem_of_getElem? (i := 2) rfl)
theorem tw_263 : (Cond.methodLink "CreaturePond$Mind" 27 yX3_move : Cond) ∈ cp_T := tc_13 _ (List.mem_of_getElem? (i := 3) rfl)
theorem tw_264 : (Cond.instanceMethod yX3_move : Cond) ∈ cp_T := tc_13 _ (List.mem_of_getElem? (i := 4) rfl)
theorem tw_265 : (Cond.code yX3_move cX3_move 4 none : Cond) ∈ cp_T := tc_13 _ (List.mem_of_getElem? (i := 5) rfl)
theorem tw_266 : (Cond.instanceMethod yX4_pay : Cond) ∈ cp_T := tc_13 _ (List.mem_of_getElem? (i := 6) rfl)
theorem tw_267 : (Cond.code yX4_pay cX4_pay 4 none : Cond) ∈ cp_T := tc_13 _ (List.mem_of_getElem? (i := 7) rfl)
theorem tw_268 : (Cond.methodLink "CreaturePond$Pond" 90 Lib.Math.min.name : Cond) ∈ cp_T := tc_13 _ (List.mem_of_getElem? (i := 8) rfl)
theorem tw_269 : (Cond.methodLink "CreaturePond$Mind" 48 yX3_operate : Cond) ∈ cp_T := tc_13 _ (List.mem_of_getElem? (i := 9) rfl)
theorem tw_270 : (Cond.instanceMethod yX3_operate : Cond) ∈ cp_T := tc_13 _ (List.mem_of_getElem? (i := 10) rfl)
theorem tw_271 : (Cond.code yX3_operate cX3_operate 5 (some .boolean) : Cond) ∈ cp_T := tc_13 _ (List.mem_of_getElem? (i := 11) rfl)
theorem tw_272 : (Cond.instanceMethod yX1_geneBehindPlace : Cond) ∈ cp_T := tc_13 _ (List.mem_of_getElem? (i := 12) rfl)
theorem tw_273 : (Cond.code yX1_geneBehindPlace cX1_geneBehindPlace 2 (some .byte) : Cond) ∈ cp_T := tc_13 _ (List.mem_of_getElem? (i := 13) rfl)
theorem tw_274 : (Cond.methodLink "CreaturePond$Animal" 62 yX1_wrapped : Cond) ∈ cp_T := tc_13 _ (List.mem_of_getElem? (i := 14) rfl)
theorem tw_275 : (Cond.instanceMethod yX1_wrapped : Cond) ∈ cp_T := tc_13 _ (List.mem_of_getElem? (i := 15) rfl)
theorem tw_276 : (Cond.code yX1_wrapped cX1_wrapped 2 (some .int) : Cond) ∈ cp_T := tc_13 _ (List.mem_of_getElem? (i := 16) rfl)
theorem tw_277 : (Cond.fieldLink "CreaturePond$Mind" 59 "CreaturePond$Mind" "OPERANDS" "[I" : Cond) ∈ cp_T := tc_13 _ (List.mem_of_getElem? (i := 17) rfl)
theorem tw_278 : (Cond.methodLink "CreaturePond$Mind" 67 yX3_act : Cond) ∈ cp_T := tc_13 _ (List.mem_of_getElem? (i := 18) rfl)
theorem tw_279 : (Cond.instanceMethod yX3_act : Cond) ∈ cp_T := tc_13 _ (List.mem_of_getElem? (i := 19) rfl)
theorem tw_280 : (Cond.code yX3_act cX3_act 4 none : Cond) ∈ cp_T := tc_14 _ (List.mem_of_getElem? (i := 0) rfl)
theorem tw_281 : (Cond.methodLink "CreaturePond$Mind" 122 yX3_goAhead : Cond) ∈ cp_T := tc_14 _ (List.mem_of_getElem? (i := 1) rfl)
theorem tw_282 : (Cond.instanceMethod yX3_goAhead : Cond) ∈ cp_T := tc_14 _ (List.mem_of_getElem? (i := 2) rfl)
theorem tw_283 : (Cond.code yX3_goAhead cX3_goAhead 3 none : Cond) ∈ cp_T := tc_14 _ (List.mem_of_getElem? (i := 3) rfl)
theorem tw_284 : (Cond.instanceMethod yX4_aheadOf : Cond) ∈ cp_T := tc_14 _ (List.mem_of_getElem? (i := 4) rfl)
theorem tw_285 : (Cond.code yX4_aheadOf cX4_aheadOf 2 (some .int) : Cond) ∈ cp_T := tc_14 _ (List.mem_of_getElem? (i := 5) rfl)
theorem tw_286 : (Cond.methodLink "CreaturePond$Mind" 125 yX3_eat : Cond) ∈ cp_T := tc_14 _ (List.mem_of_getElem? (i := 6) rfl)
theorem tw_287 : (Cond.instanceMethod yX3_eat : Cond) ∈ cp_T := tc_14 _ (List.mem_of_getElem? (i := 7) rfl)
theorem tw_288 : (Cond.code yX3_eat cX3_eat 3 none : Cond) ∈ cp_T := tc_14 _ (List.mem_of_getElem? (i := 8) rfl)
theorem tw_289 : (Cond.methodLink "CreaturePond$Mind" 113 Lib.Math.min.name : Cond) ∈ cp_T := tc_14 _ (List.mem_of_getElem? (i := 9) rfl)
theorem tw_290 : (Cond.methodLink "CreaturePond$Mind" 128 yX3_give : Cond) ∈ cp_T := tc_14 _ (List.mem_of_getElem? (i := 10) rfl)
theorem tw_291 : (Cond.instanceMethod yX3_give : Cond) ∈ cp_T := tc_14 _ (List.mem_of_getElem? (i := 11) rfl)
theorem tw_292 : (Cond.code yX3_give cX3_give 5 none : Cond) ∈ cp_T := tc_14 _ (List.mem_of_getElem? (i := 12) rfl)
theorem tw_293 : (Cond.methodLink "CreaturePond$Mind" 75 yX3_memoryIndex : Cond) ∈ cp_T := tc_14 _ (List.mem_of_getElem? (i := 13) rfl)
theorem tw_294 : (Cond.instanceMethod yX3_memoryIndex : Cond) ∈ cp_T := tc_14 _ (List.mem_of_getElem? (i := 14) rfl)
theorem tw_295 : (Cond.code yX3_memoryIndex cX3_memoryIndex 3 (some .int) : Cond) ∈ cp_T := tc_14 _ (List.mem_of_getElem? (i := 15) rfl)
theorem tw_296 : (Cond.methodLink "CreaturePond$Mind" 82 yX3_jump : Cond) ∈ cp_T := tc_14 _ (List.mem_of_getElem? (i := 16) rfl)
theorem tw_297 : (Cond.instanceMethod yX3_jump : Cond) ∈ cp_T := tc_14 _ (List.mem_of_getElem? (i := 17) rfl)
theorem tw_298 : (Cond.code yX3_jump cX3_jump 3 none : Cond) ∈ cp_T := tc_14 _ (List.mem_of_getElem? (i := 18) rfl)
theorem tw_299 : (Cond.methodLink "CreaturePond$Mind" 86 yX3_reckon : Cond) ∈ cp_T := tc_14 _ (List.mem_of_getElem? (i := 19) rfl)
theorem tw_300 : (Cond.instanceMethod yX3_reckon : Cond) ∈ cp_T := tc_15 _ (List.mem_of_getElem? (i := 0) rfl)
theorem tw_301 : (Cond.code yX3_reckon cX3_reckon 7 (some .int) : Cond) ∈ cp_T := tc_15 _ (List.mem_of_getElem? (i := 1) rfl)
theorem tw_302 : (Cond.methodLink "CreaturePond$Mind" 90 yX3_seenAhead : Cond) ∈ cp_T := tc_15 _ (List.mem_of_getElem? (i := 2) rfl)
theorem tw_303 : (Cond.instanceMethod yX3_seenAhead : Cond) ∈ cp_T := tc_15 _ (List.mem_of_getElem? (i := 3) rfl)
theorem tw_304 : (Cond.code yX3_seenAhead cX3_seenAhead 5 (some .int) : Cond) ∈ cp_T := tc_15 _ (List.mem_of_getElem? (i := 4) rfl)
theorem tw_305 : (Cond.methodLink "CreaturePond$Mind" 94 yX3_seenInside : Cond) ∈ cp_T := tc_15 _ (List.mem_of_getElem? (i := 5) rfl)
theorem tw_306 : (Cond.instanceMethod yX3_seenInside : Cond) ∈ cp_T := tc_15 _ (List.mem_of_getElem? (i := 6) rfl)
theorem tw_307 : (Cond.code yX3_seenInside cX3_seenInside 3 (some .int) : Cond) ∈ cp_T := tc_15 _ (List.mem_of_getElem? (i := 7) rfl)
theorem tw_308 : (Cond.instanceMethod yX2_breedAll : Cond) ∈ cp_T := tc_15 _ (List.mem_of_getElem? (i := 8) rfl)
theorem tw_309 : (Cond.code yX2_breedAll cX2_breedAll 3 none : Cond) ∈ cp_T := tc_15 _ (List.mem_of_getElem? (i := 9) rfl)
theorem tw_310 : (Cond.methodLink "CreaturePond$Breeding" 15 yX2_greaterOfPair : Cond) ∈ cp_T := tc_15 _ (List.mem_of_getElem? (i := 10) rfl)
theorem tw_311 : (Cond.instanceMethod yX2_greaterOfPair : Cond) ∈ cp_T := tc_15 _ (List.mem_of_getElem? (i := 11) rfl)
theorem tw_312 : (Cond.code yX2_greaterOfPair cX2_greaterOfPair 5 (some .int) : Cond) ∈ cp_T := tc_15 _ (List.mem_of_getElem? (i := 12) rfl)
theorem tw_313 : (Cond.methodLink "CreaturePond$Breeding" 19 yX2_breed : Cond) ∈ cp_T := tc_15 _ (List.mem_of_getElem? (i := 13) rfl)
theorem tw_314 : (Cond.instanceMethod yX2_breed : Cond) ∈ cp_T := tc_15 _ (List.mem_of_getElem? (i := 14) rfl)
theorem tw_315 : (Cond.code yX2_breed cX2_breed 8 none : Cond) ∈ cp_T := tc_15 _ (List.mem_of_getElem? (i := 15) rfl)
theorem tw_316 : (Cond.methodLink "CreaturePond$Breeding" 50 yX2_firstFreeAround : Cond) ∈ cp_T := tc_15 _ (List.mem_of_getElem? (i := 16) rfl)
theorem tw_317 : (Cond.instanceMethod yX2_firstFreeAround : Cond) ∈ cp_T := tc_15 _ (List.mem_of_getElem? (i := 17) rfl)
theorem tw_318 : (Cond.code yX2_firstFreeAround cX2_firstFreeAround 4 (some .int) : Cond) ∈ cp_T := tc_15 _ (List.mem_of_getElem? (i := 18) rfl)
theorem tw_319 : (Cond.instanceMethod yX5_nextTo : Cond) ∈ cp_T := tc_15 _ (List.mem_of_getElem? (i := 19) rfl)
theorem tw_320 : (Cond.code yX5_nextTo cX5_nextTo 3 (some .int) : Cond) ∈ cp_T := tc_16 _ (List.mem_of_getElem? (i := 0) rfl)
theorem tw_321 : (Cond.methodLink "CreaturePond$Breeding" 63 yX2_payAndHalve : Cond) ∈ cp_T := tc_16 _ (List.mem_of_getElem? (i := 1) rfl)
theorem tw_322 : (Cond.instanceMethod yX2_payAndHalve : Cond) ∈ cp_T := tc_16 _ (List.mem_of_getElem? (i := 2) rfl)
theorem tw_323 : (Cond.code yX2_payAndHalve cX2_payAndHalve 3 (some .int) : Cond) ∈ cp_T := tc_16 _ (List.mem_of_getElem? (i := 3) rfl)
theorem tw_324 : (Cond.methodLink "CreaturePond$Breeding" 79 Lib.Math.max.name : Cond) ∈ cp_T := tc_16 _ (List.mem_of_getElem? (i := 4) rfl)
theorem tw_325 : (Cond.methodLink "CreaturePond$Breeding" 85 yX2_mixCode : Cond) ∈ cp_T := tc_16 _ (List.mem_of_getElem? (i := 5) rfl)
theorem tw_326 : (Cond.instanceMethod yX2_mixCode : Cond) ∈ cp_T := tc_16 _ (List.mem_of_getElem? (i := 6) rfl)
theorem tw_327 : (Cond.code yX2_mixCode cX2_mixCode 6 none : Cond) ∈ cp_T := tc_16 _ (List.mem_of_getElem? (i := 7) rfl)
theorem tw_328 : (Cond.instanceMethod yX4_nextNumber : Cond) ∈ cp_T := tc_16 _ (List.mem_of_getElem? (i := 8) rfl)
theorem tw_329 : (Cond.code yX4_nextNumber cX4_nextNumber 2 (some .int) : Cond) ∈ cp_T := tc_16 _ (List.mem_of_getElem? (i := 9) rfl)
theorem tw_330 : (Cond.constant "CreaturePond$Pond" 96 (134775813 : Int32) : Cond) ∈ cp_T := tc_16 _ (List.mem_of_getElem? (i := 10) rfl)
theorem tw_331 : (Cond.methodLink "CreaturePond$Breeding" 115 yX2_growFrom : Cond) ∈ cp_T := tc_16 _ (List.mem_of_getElem? (i := 11) rfl)
theorem tw_332 : (Cond.instanceMethod yX2_growFrom : Cond) ∈ cp_T := tc_16 _ (List.mem_of_getElem? (i := 12) rfl)
theorem tw_333 : (Cond.code yX2_growFrom cX2_growFrom 7 none : Cond) ∈ cp_T := tc_16 _ (List.mem_of_getElem? (i := 13) rfl)
theorem tw_334 : (Cond.methodLink "CreaturePond$Breeding" 119 Lib.Math.min.name : Cond) ∈ cp_T := tc_16 _ (List.mem_of_getElem? (i := 14) rfl)
theorem tw_335 : (Cond.methodLink "CreaturePond$Breeding" 89 yX2_changeCode : Cond) ∈ cp_T := tc_16 _ (List.mem_of_getElem? (i := 15) rfl)
theorem tw_336 : (Cond.instanceMethod yX2_changeCode : Cond) ∈ cp_T := tc_16 _ (List.mem_of_getElem? (i := 16) rfl)
theorem tw_337 : (Cond.code yX2_changeCode cX2_changeCode 3 none : Cond) ∈ cp_T := tc_16 _ (List.mem_of_getElem? (i := 17) rfl)
theorem tw_338 : (Cond.instanceMethod yX4_endDead : Cond) ∈ cp_T := tc_16 _ (List.mem_of_getElem? (i := 18) rfl)
theorem tw_339 : (Cond.code yX4_endDead cX4_endDead 3 none : Cond) ∈ cp_T := tc_16 _ (List.mem_of_getElem? (i := 19) rfl)
theorem tw_340 : (Cond.methodLink "CreaturePond$Pond" 100 yX4_end : Cond) ∈ cp_T := tc_17 _ (List.mem_of_getElem? (i := 0) rfl)
theorem tw_341 : (Cond.instanceMethod yX4_end : Cond) ∈ cp_T := tc_17 _ (List.mem_of_getElem? (i := 1) rfl)
theorem tw_342 : (Cond.code yX4_end cX4_end 4 none : Cond) ∈ cp_T := tc_17 _ (List.mem_of_getElem? (i := 2) rfl)
theorem tw_343 : (Cond.methodLink "CreaturePondLaw" 88 yL_inner : Cond) ∈ cp_T := tc_17 _ (List.mem_of_getElem? (i := 3) rfl)
theorem tw_344 : (Cond.static yL_inner : Cond) ∈ cp_T := tc_17 _ (List.mem_of_getElem? (i := 4) rfl)
theorem tw_345 : (Cond.classLink "CreaturePondLaw" 29 "java/lang/IndexOutOfBoundsException" : Cond) ∈ cp_T := tc_17 _ (List.mem_of_getElem? (i := 5) rfl)
theorem tw_346 : (Cond.methodLink "CreaturePondLaw" 25 yX0_inner : Cond) ∈ cp_T := tc_17 _ (List.mem_of_getElem? (i := 6) rfl)
theorem tw_347 : (Cond.instanceMethod yX0_inner : Cond) ∈ cp_T := tc_17 _ (List.mem_of_getElem? (i := 7) rfl)
theorem tw_348 : (Cond.selects "CreaturePond" yX0_inner yX0_inner : Cond) ∈ cp_T := tc_17 _ (List.mem_of_getElem? (i := 8) rfl)
theorem tw_349 : (Cond.code yX0_inner cX0_inner 6 (some .byte) : Cond) ∈ cp_T := tc_17 _ (List.mem_of_getElem? (i := 9) rfl)
theorem tw_350 : (Cond.classLink "CreaturePond" 157 "java/lang/IndexOutOfBoundsException" : Cond) ∈ cp_T := tc_17 _ (List.mem_of_getElem? (i := 10) rfl)
theorem tw_351 : (Cond.instantiable "java/lang/IndexOutOfBoundsException" 6 : Cond) ∈ cp_T := tc_17 _ (List.mem_of_getElem? (i := 11) rfl)
theorem tw_352 : (Cond.lays "java/lang/IndexOutOfBoundsException" "java/lang/Throwable" "cause" "Ljava/lang/Throwable;" : Cond) ∈ cp_T := tc_17 _ (List.mem_of_getElem? (i := 12) rfl)
theorem tw_353 : (Cond.lays "java/lang/IndexOutOfBoundsException" "java/lang/Throwable" "stackTrace" "[Ljava/lang/StackTraceElement;" : Cond) ∈ cp_T := tc_17 _ (List.mem_of_getElem? (i := 13) rfl)
theorem tw_354 : (Cond.lays "java/lang/IndexOutOfBoundsException" "java/lang/Throwable" "suppressedExceptions" "Ljava/util/List;" : Cond) ∈ cp_T := tc_17 _ (List.mem_of_getElem? (i := 14) rfl)
theorem tw_355 : (Cond.lays "java/lang/IndexOutOfBoundsException" "java/lang/Throwable" "detailMessage" "Ljava/lang/String;" : Cond) ∈ cp_T := tc_17 _ (List.mem_of_getElem? (i := 15) rfl)
theorem tw_356 : (Cond.lays "java/lang/IndexOutOfBoundsException" "java/lang/Throwable" "backtrace" "Ljava/lang/Object;" : Cond) ∈ cp_T := tc_17 _ (List.mem_of_getElem? (i := 16) rfl)
theorem tw_357 : (Cond.lays "java/lang/IndexOutOfBoundsException" "java/lang/Throwable" "depth" "I" : Cond) ∈ cp_T := tc_17 _ (List.mem_of_getElem? (i := 17) rfl)
theorem tw_358 : (Cond.methodLink "CreaturePondLaw" 100 yL_differ : Cond) ∈ cp_T := tc_17 _ (List.mem_of_getElem? (i := 18) rfl)
theorem tw_359 : (Cond.static yL_differ : Cond) ∈ cp_T := tc_17 _ (List.mem_of_getElem? (i := 19) rfl)
theorem tw_360 : (Cond.methodLink "CreaturePondLaw" 31 yX0_differ : Cond) ∈ cp_T := tc_18 _ (List.mem_of_getElem? (i := 0) rfl)
theorem tw_361 : (Cond.instanceMethod yX0_differ : Cond) ∈ cp_T := tc_18 _ (List.mem_of_getElem? (i := 1) rfl)
theorem tw_362 : (Cond.selects "CreaturePond" yX0_differ yX0_differ : Cond) ∈ cp_T := tc_18 _ (List.mem_of_getElem? (i := 2) rfl)
theorem tw_363 : (Cond.code yX0_differ cX0_differ 1 (some .int) : Cond) ∈ cp_T := tc_18 _ (List.mem_of_getElem? (i := 3) rfl)
theorem tw_364 : (Cond.instanceMethod yX4_firstOther : Cond) ∈ cp_T := tc_18 _ (List.mem_of_getElem? (i := 4) rfl)
theorem tw_365 : (Cond.code yX4_firstOther cX4_firstOther 3 (some .int) : Cond) ∈ cp_T := tc_18 _ (List.mem_of_getElem? (i := 5) rfl)
theorem tw_366 : (Cond.methodLink "CreaturePond$Pond" 103 yX4_hasOtherDweller : Cond) ∈ cp_T := tc_18 _ (List.mem_of_getElem? (i := 6) rfl)
theorem tw_367 : (Cond.instanceMethod yX4_hasOtherDweller : Cond) ∈ cp_T := tc_18 _ (List.mem_of_getElem? (i := 7) rfl)
theorem tw_368 : (Cond.code yX4_hasOtherDweller cX4_hasOtherDweller 6 (some .boolean) : Cond) ∈ cp_T := tc_18 _ (List.mem_of_getElem? (i := 8) rfl)
theorem tw_369 : (Cond.classLink "CreaturePondLaw" 44 "CreaturePondModel" : Cond) ∈ cp_T := tc_18 _ (List.mem_of_getElem? (i := 9) rfl)
theorem tw_370 : (Cond.instantiable "CreaturePondModel" 6 : Cond) ∈ cp_T := tc_18 _ (List.mem_of_getElem? (i := 10) rfl)
theorem tw_371 : (Cond.methodLink "CreaturePondLaw" 46 yX6_init : Cond) ∈ cp_T := tc_18 _ (List.mem_of_getElem? (i := 11) rfl)
theorem tw_372 : (Cond.instanceMethod yX6_init : Cond) ∈ cp_T := tc_18 _ (List.mem_of_getElem? (i := 12) rfl)
theorem tw_373 : (Cond.code yX6_init cX6_init 4 none : Cond) ∈ cp_T := tc_18 _ (List.mem_of_getElem? (i := 13) rfl)
theorem tw_374 : (Cond.methodLink "CreaturePondModel" 1 objectInit : Cond) ∈ cp_T := tc_18 _ (List.mem_of_getElem? (i := 14) rfl)
theorem tw_375 : (Cond.fieldLink "CreaturePondModel" 23 "CreaturePondModel" "thrown" "I" : Cond) ∈ cp_T := tc_18 _ (List.mem_of_getElem? (i := 15) rfl)
theorem tw_376 : (Cond.fieldLink "CreaturePondModel" 16 "CreaturePondModel" "w" "I" : Cond) ∈ cp_T := tc_18 _ (List.mem_of_getElem? (i := 16) rfl)
theorem tw_377 : (Cond.fieldLink "CreaturePondModel" 20 "CreaturePondModel" "h" "I" : Cond) ∈ cp_T := tc_18 _ (List.mem_of_getElem? (i := 17) rfl)
theorem tw_378 : (Cond.fieldLink "CreaturePondModel" 7 "CreaturePondModel" "now" "[I" : Cond) ∈ cp_T := tc_18 _ (List.mem_of_getElem? (i := 18) rfl)
theorem tw_379 : (Cond.fieldLink "CreaturePondModel" 115 "CreaturePondModel" "kept" "Z" : Cond) ∈ cp_T := tc_18 _ (List.mem_of_getElem? (i := 19) rfl)
theorem tw_380 : (Cond.fieldLink "CreaturePondModel" 13 "CreaturePondModel" "was" "[I" : Cond) ∈ cp_T := tc_19 _ (List.mem_of_getElem? (i := 0) rfl)
theorem tw_381 : (Cond.lays "CreaturePondModel" "CreaturePondModel" "thrown" "I" : Cond) ∈ cp_T := tc_19 _ (List.mem_of_getElem? (i := 1) rfl)
theorem tw_382 : (Cond.laysFinal "CreaturePondModel" "CreaturePondModel" "w" "I" : Cond) ∈ cp_T := tc_19 _ (List.mem_of_getElem? (i := 2) rfl)
theorem tw_383 : (Cond.laysFinal "CreaturePondModel" "CreaturePondModel" "h" "I" : Cond) ∈ cp_T := tc_19 _ (List.mem_of_getElem? (i := 3) rfl)
theorem tw_384 : (Cond.laysFinal "CreaturePondModel" "CreaturePondModel" "now" "[I" : Cond) ∈ cp_T := tc_19 _ (List.mem_of_getElem? (i := 4) rfl)
theorem tw_385 : (Cond.lays "CreaturePondModel" "CreaturePondModel" "kept" "Z" : Cond) ∈ cp_T := tc_19 _ (List.mem_of_getElem? (i := 5) rfl)
theorem tw_386 : (Cond.laysFinal "CreaturePondModel" "CreaturePondModel" "was" "[I" : Cond) ∈ cp_T := tc_19 _ (List.mem_of_getElem? (i := 6) rfl)
theorem tw_387 : (Cond.methodLink "CreaturePondLaw" 66 yX6_thrown : Cond) ∈ cp_T := tc_19 _ (List.mem_of_getElem? (i := 7) rfl)
theorem tw_388 : (Cond.instanceMethod yX6_thrown : Cond) ∈ cp_T := tc_19 _ (List.mem_of_getElem? (i := 8) rfl)
theorem tw_389 : (Cond.selects "CreaturePondModel" yX6_thrown yX6_thrown : Cond) ∈ cp_T := tc_19 _ (List.mem_of_getElem? (i := 9) rfl)
theorem tw_390 : (Cond.code yX6_thrown cX6_thrown 1 (some .int) : Cond) ∈ cp_T := tc_19 _ (List.mem_of_getElem? (i := 10) rfl)
theorem tw_391 : (Cond.methodLink "CreaturePondLaw" 51 yX6_set : Cond) ∈ cp_T := tc_19 _ (List.mem_of_getElem? (i := 11) rfl)
theorem tw_392 : (Cond.instanceMethod yX6_set : Cond) ∈ cp_T := tc_19 _ (List.mem_of_getElem? (i := 12) rfl)
theorem tw_393 : (Cond.selects "CreaturePondModel" yX6_set yX6_set : Cond) ∈ cp_T := tc_19 _ (List.mem_of_getElem? (i := 13) rfl)
theorem tw_394 : (Cond.code yX6_set cX6_set 3 (some .boolean) : Cond) ∈ cp_T := tc_19 _ (List.mem_of_getElem? (i := 14) rfl)
theorem tw_395 : (Cond.methodLink "CreaturePondLaw" 56 yX6_store : Cond) ∈ cp_T := tc_19 _ (List.mem_of_getElem? (i := 15) rfl)
theorem tw_396 : (Cond.instanceMethod yX6_store : Cond) ∈ cp_T := tc_19 _ (List.mem_of_getElem? (i := 16) rfl)
theorem tw_397 : (Cond.selects "CreaturePondModel" yX6_store yX6_store : Cond) ∈ cp_T := tc_19 _ (List.mem_of_getElem? (i := 17) rfl)
theorem tw_398 : (Cond.code yX6_store cX6_store 2 (some .boolean) : Cond) ∈ cp_T := tc_19 _ (List.mem_of_getElem? (i := 18) rfl)
theorem tw_399 : (Cond.constant "CreaturePondModel" 108 (1000000 : Int32) : Cond) ∈ cp_T := tc_19 _ (List.mem_of_getElem? (i := 19) rfl)
theorem tw_400 : (Cond.methodLink "CreaturePondLaw" 61 yX6_grain : Cond) ∈ cp_T := tc_20 _ (List.mem_of_getElem? (i := 0) rfl)
theorem tw_401 : (Cond.instanceMethod yX6_grain : Cond) ∈ cp_T := tc_20 _ (List.mem_of_getElem? (i := 1) rfl)
theorem tw_402 : (Cond.selects "CreaturePondModel" yX6_grain yX6_grain : Cond) ∈ cp_T := tc_20 _ (List.mem_of_getElem? (i := 2) rfl)
theorem tw_403 : (Cond.code yX6_grain cX6_grain 4 (some .boolean) : Cond) ∈ cp_T := tc_20 _ (List.mem_of_getElem? (i := 3) rfl)
theorem tw_404 : (Cond.methodLink "CreaturePondModel" 38 yX6_cellAt : Cond) ∈ cp_T := tc_20 _ (List.mem_of_getElem? (i := 4) rfl)
theorem tw_405 : (Cond.instanceMethod yX6_cellAt : Cond) ∈ cp_T := tc_20 _ (List.mem_of_getElem? (i := 5) rfl)
theorem tw_406 : (Cond.code yX6_cellAt cX6_cellAt 3 (some .int) : Cond) ∈ cp_T := tc_20 _ (List.mem_of_getElem? (i := 6) rfl)
theorem tw_407 : (Cond.methodLink "CreaturePondModel" 26 yX6_round : Cond) ∈ cp_T := tc_20 _ (List.mem_of_getElem? (i := 7) rfl)
theorem tw_408 : (Cond.static yX6_round : Cond) ∈ cp_T := tc_20 _ (List.mem_of_getElem? (i := 8) rfl)
theorem tw_409 : (Cond.code yX6_round cX6_round 3 (some .int) : Cond) ∈ cp_T := tc_20 _ (List.mem_of_getElem? (i := 9) rfl)
theorem tw_410 : (Cond.methodLink "CreaturePondLaw" 65 yX6_animal : Cond) ∈ cp_T := tc_20 _ (List.mem_of_getElem? (i := 10) rfl)
theorem tw_411 : (Cond.instanceMethod yX6_animal : Cond) ∈ cp_T := tc_20 _ (List.mem_of_getElem? (i := 11) rfl)
theorem tw_412 : (Cond.selects "CreaturePondModel" yX6_animal yX6_animal : Cond) ∈ cp_T := tc_20 _ (List.mem_of_getElem? (i := 12) rfl)
theorem tw_413 : (Cond.code yX6_animal cX6_animal 6 (some .int) : Cond) ∈ cp_T := tc_20 _ (List.mem_of_getElem? (i := 13) rfl)
theorem tw_414 : (Cond.methodLink "CreaturePondModel" 51 yX6_inCell : Cond) ∈ cp_T := tc_20 _ (List.mem_of_getElem? (i := 14) rfl)
theorem tw_415 : (Cond.instanceMethod yX6_inCell : Cond) ∈ cp_T := tc_20 _ (List.mem_of_getElem? (i := 15) rfl)
theorem tw_416 : (Cond.code yX6_inCell cX6_inCell 3 (some .int) : Cond) ∈ cp_T := tc_20 _ (List.mem_of_getElem? (i := 16) rfl)
theorem tw_417 : (Cond.methodLink "CreaturePondModel" 30 yX6_at : Cond) ∈ cp_T := tc_20 _ (List.mem_of_getElem? (i := 17) rfl)
theorem tw_418 : (Cond.static yX6_at : Cond) ∈ cp_T := tc_20 _ (List.mem_of_getElem? (i := 18) rfl)
theorem tw_419 : (Cond.code yX6_at cX6_at 1 (some .int) : Cond) ∈ cp_T := tc_20 _ (List.mem_of_getElem? (i := 19) rfl)
theorem tw_420 : (Cond.methodLink "CreaturePondModel" 85 yX6_free : Cond) ∈ cp_T := tc_21 _ (List.mem_of_getElem? (i := 0) rfl)
theorem tw_421 : (Cond.instanceMethod yX6_free : Cond) ∈ cp_T := tc_21 _ (List.mem_of_getElem? (i := 1) rfl)
theorem tw_422 : (Cond.code yX6_free cX6_free 2 (some .int) : Cond) ∈ cp_T := tc_21 _ (List.mem_of_getElem? (i := 2) rfl)
theorem tw_423 : (Cond.methodLink "CreaturePondModel" 34 yX6_lives : Cond) ∈ cp_T := tc_21 _ (List.mem_of_getElem? (i := 3) rfl)
theorem tw_424 : (Cond.instanceMethod yX6_lives : Cond) ∈ cp_T := tc_21 _ (List.mem_of_getElem? (i := 4) rfl)
theorem tw_425 : (Cond.code yX6_lives cX6_lives 2 (some .boolean) : Cond) ∈ cp_T := tc_21 _ (List.mem_of_getElem? (i := 5) rfl)
theorem tw_426 : (Cond.methodLink "CreaturePondModel" 88 yX6_make : Cond) ∈ cp_T := tc_21 _ (List.mem_of_getElem? (i := 6) rfl)
theorem tw_427 : (Cond.instanceMethod yX6_make : Cond) ∈ cp_T := tc_21 _ (List.mem_of_getElem? (i := 7) rfl)
theorem tw_428 : (Cond.code yX6_make cX6_make 6 none : Cond) ∈ cp_T := tc_21 _ (List.mem_of_getElem? (i := 8) rfl)
theorem tw_429 : (Cond.methodLink "CreaturePondLaw" 74 yX6_code : Cond) ∈ cp_T := tc_21 _ (List.mem_of_getElem? (i := 9) rfl)
theorem tw_430 : (Cond.instanceMethod yX6_code : Cond) ∈ cp_T := tc_21 _ (List.mem_of_getElem? (i := 10) rfl)
theorem tw_431 : (Cond.selects "CreaturePondModel" yX6_code yX6_code : Cond) ∈ cp_T := tc_21 _ (List.mem_of_getElem? (i := 11) rfl)
theorem tw_432 : (Cond.code yX6_code cX6_code 7 (some .int) : Cond) ∈ cp_T := tc_21 _ (List.mem_of_getElem? (i := 12) rfl)
theorem tw_433 : (Cond.methodLink "CreaturePondLaw" 78 yX6_tick : Cond) ∈ cp_T := tc_21 _ (List.mem_of_getElem? (i := 13) rfl)
theorem tw_434 : (Cond.instanceMethod yX6_tick : Cond) ∈ cp_T := tc_21 _ (List.mem_of_getElem? (i := 14) rfl)
theorem tw_435 : (Cond.selects "CreaturePondModel" yX6_tick yX6_tick : Cond) ∈ cp_T := tc_21 _ (List.mem_of_getElem? (i := 15) rfl)
theorem tw_436 : (Cond.code yX6_tick cX6_tick 3 (some .int) : Cond) ∈ cp_T := tc_21 _ (List.mem_of_getElem? (i := 16) rfl)
theorem tw_437 : (Cond.methodLink "CreaturePondModel" 109 yX6_pass : Cond) ∈ cp_T := tc_21 _ (List.mem_of_getElem? (i := 17) rfl)
theorem tw_438 : (Cond.instanceMethod yX6_pass : Cond) ∈ cp_T := tc_21 _ (List.mem_of_getElem? (i := 18) rfl)
theorem tw_439 : (Cond.code yX6_pass cX6_pass 3 none : Cond) ∈ cp_T := tc_21 _ (List.mem_of_getElem? (i := 19) rfl)
theorem tw_440 : (Cond.methodLink "CreaturePondModel" 95 yX6_shine : Cond) ∈ cp_T := tc_22 _ (List.mem_of_getElem? (i := 0) rfl)
theorem tw_441 : (Cond.instanceMethod yX6_shine : Cond) ∈ cp_T := tc_22 _ (List.mem_of_getElem? (i := 1) rfl)
theorem tw_442 : (Cond.code yX6_shine cX6_shine 3 none : Cond) ∈ cp_T := tc_22 _ (List.mem_of_getElem? (i := 2) rfl)
theorem tw_443 : (Cond.methodLink "CreaturePondModel" 98 yX6_live : Cond) ∈ cp_T := tc_22 _ (List.mem_of_getElem? (i := 3) rfl)
theorem tw_444 : (Cond.instanceMethod yX6_live : Cond) ∈ cp_T := tc_22 _ (List.mem_of_getElem? (i := 4) rfl)
theorem tw_445 : (Cond.code yX6_live cX6_live 5 none : Cond) ∈ cp_T := tc_22 _ (List.mem_of_getElem? (i := 5) rfl)
theorem tw_446 : (Cond.methodLink "CreaturePondModel" 60 yX6_pay : Cond) ∈ cp_T := tc_22 _ (List.mem_of_getElem? (i := 6) rfl)
theorem tw_447 : (Cond.instanceMethod yX6_pay : Cond) ∈ cp_T := tc_22 _ (List.mem_of_getElem? (i := 7) rfl)
theorem tw_448 : (Cond.code yX6_pay cX6_pay 4 none : Cond) ∈ cp_T := tc_22 _ (List.mem_of_getElem? (i := 8) rfl)
theorem tw_449 : (Cond.methodLink "CreaturePondModel" 45 yX6_least : Cond) ∈ cp_T := tc_22 _ (List.mem_of_getElem? (i := 9) rfl)
theorem tw_450 : (Cond.static yX6_least : Cond) ∈ cp_T := tc_22 _ (List.mem_of_getElem? (i := 10) rfl)
theorem tw_451 : (Cond.code yX6_least cX6_least 2 (some .int) : Cond) ∈ cp_T := tc_22 _ (List.mem_of_getElem? (i := 11) rfl)
theorem tw_452 : (Cond.methodLink "CreaturePondModel" 78 yX6_operate : Cond) ∈ cp_T := tc_22 _ (List.mem_of_getElem? (i := 12) rfl)
theorem tw_453 : (Cond.instanceMethod yX6_operate : Cond) ∈ cp_T := tc_22 _ (List.mem_of_getElem? (i := 13) rfl)
theorem tw_454 : (Cond.code yX6_operate cX6_operate 11 (some .boolean) : Cond) ∈ cp_T := tc_22 _ (List.mem_of_getElem? (i := 14) rfl)
theorem tw_455 : (Cond.methodLink "CreaturePondModel" 64 yX6_codeAt : Cond) ∈ cp_T := tc_22 _ (List.mem_of_getElem? (i := 15) rfl)
theorem tw_456 : (Cond.instanceMethod yX6_codeAt : Cond) ∈ cp_T := tc_22 _ (List.mem_of_getElem? (i := 16) rfl)
theorem tw_457 : (Cond.code yX6_codeAt cX6_codeAt 3 (some .int) : Cond) ∈ cp_T := tc_22 _ (List.mem_of_getElem? (i := 17) rfl)
theorem tw_458 : (Cond.methodLink "CreaturePondModel" 67 yX6_operands : Cond) ∈ cp_T := tc_22 _ (List.mem_of_getElem? (i := 18) rfl)
theorem tw_459 : (Cond.static yX6_operands : Cond) ∈ cp_T := tc_22 _ (List.mem_of_getElem? (i := 19) rfl)
theorem tw_460 : (Cond.code yX6_operands cX6_operands 1 (some .int) : Cond) ∈ cp_T := tc_23 _ (List.mem_of_getElem? (i := 0) rfl)
theorem tw_461 : (Cond.methodLink "CreaturePondModel" 70 yX6_act : Cond) ∈ cp_T := tc_23 _ (List.mem_of_getElem? (i := 1) rfl)
theorem tw_462 : (Cond.instanceMethod yX6_act : Cond) ∈ cp_T := tc_23 _ (List.mem_of_getElem? (i := 2) rfl)
theorem tw_463 : (Cond.code yX6_act cX6_act 8 none : Cond) ∈ cp_T := tc_23 _ (List.mem_of_getElem? (i := 3) rfl)
theorem tw_464 : (Cond.methodLink "CreaturePondModel" 48 yX6_ahead : Cond) ∈ cp_T := tc_23 _ (List.mem_of_getElem? (i := 4) rfl)
theorem tw_465 : (Cond.instanceMethod yX6_ahead : Cond) ∈ cp_T := tc_23 _ (List.mem_of_getElem? (i := 5) rfl)
theorem tw_466 : (Cond.code yX6_ahead cX6_ahead 2 (some .int) : Cond) ∈ cp_T := tc_23 _ (List.mem_of_getElem? (i := 6) rfl)
theorem tw_467 : (Cond.methodLink "CreaturePondModel" 41 yX6_beside : Cond) ∈ cp_T := tc_23 _ (List.mem_of_getElem? (i := 7) rfl)
theorem tw_468 : (Cond.instanceMethod yX6_beside : Cond) ∈ cp_T := tc_23 _ (List.mem_of_getElem? (i := 8) rfl)
theorem tw_469 : (Cond.code yX6_beside cX6_beside 5 (some .int) : Cond) ∈ cp_T := tc_23 _ (List.mem_of_getElem? (i := 9) rfl)
theorem tw_470 : (Cond.methodLink "CreaturePondModel" 74 yX6_reckon : Cond) ∈ cp_T := tc_23 _ (List.mem_of_getElem? (i := 10) rfl)
theorem tw_471 : (Cond.instanceMethod yX6_reckon : Cond) ∈ cp_T := tc_23 _ (List.mem_of_getElem? (i := 11) rfl)
theorem tw_472 : (Cond.code yX6_reckon cX6_reckon 8 (some .int) : Cond) ∈ cp_T := tc_23 _ (List.mem_of_getElem? (i := 12) rfl)
theorem tw_473 : (Cond.methodLink "CreaturePondModel" 54 yX6_looks : Cond) ∈ cp_T := tc_23 _ (List.mem_of_getElem? (i := 13) rfl)
theorem tw_474 : (Cond.instanceMethod yX6_looks : Cond) ∈ cp_T := tc_23 _ (List.mem_of_getElem? (i := 14) rfl)
theorem tw_475 : (Cond.code yX6_looks cX6_looks 5 (some .int) : Cond) ∈ cp_T := tc_23 _ (List.mem_of_getElem? (i := 15) rfl)
theorem tw_476 : (Cond.methodLink "CreaturePondModel" 57 yX6_feels : Cond) ∈ cp_T := tc_23 _ (List.mem_of_getElem? (i := 16) rfl)
theorem tw_477 : (Cond.instanceMethod yX6_feels : Cond) ∈ cp_T := tc_23 _ (List.mem_of_getElem? (i := 17) rfl)
theorem tw_478 : (Cond.code yX6_feels cX6_feels 4 (some .int) : Cond) ∈ cp_T := tc_23 _ (List.mem_of_getElem? (i := 18) rfl)
theorem tw_479 : (Cond.methodLink "CreaturePondModel" 102 yX6_breed : Cond) ∈ cp_T := tc_23 _ (List.mem_of_getElem? (i := 19) rfl)
theorem tw_480 : (Cond.instanceMethod yX6_breed : Cond) ∈ cp_T := tc_24 _ (List.mem_of_getElem? (i := 0) rfl)
theorem tw_481 : (Cond.code yX6_breed cX6_breed 7 none : Cond) ∈ cp_T := tc_24 _ (List.mem_of_getElem? (i := 1) rfl)
theorem tw_482 : (Cond.methodLink "CreaturePondModel" 92 yX6_inherit : Cond) ∈ cp_T := tc_24 _ (List.mem_of_getElem? (i := 2) rfl)
theorem tw_483 : (Cond.instanceMethod yX6_inherit : Cond) ∈ cp_T := tc_24 _ (List.mem_of_getElem? (i := 3) rfl)
theorem tw_484 : (Cond.code yX6_inherit cX6_inherit 10 none : Cond) ∈ cp_T := tc_24 _ (List.mem_of_getElem? (i := 4) rfl)
theorem tw_485 : (Cond.methodLink "CreaturePondModel" 81 yX6_next : Cond) ∈ cp_T := tc_24 _ (List.mem_of_getElem? (i := 5) rfl)
theorem tw_486 : (Cond.instanceMethod yX6_next : Cond) ∈ cp_T := tc_24 _ (List.mem_of_getElem? (i := 6) rfl)
theorem tw_487 : (Cond.code yX6_next cX6_next 2 (some .int) : Cond) ∈ cp_T := tc_24 _ (List.mem_of_getElem? (i := 7) rfl)
theorem tw_488 : (Cond.constant "CreaturePondModel" 44 (134775813 : Int32) : Cond) ∈ cp_T := tc_24 _ (List.mem_of_getElem? (i := 8) rfl)
theorem tw_489 : (Cond.methodLink "CreaturePondModel" 105 yX6_die : Cond) ∈ cp_T := tc_24 _ (List.mem_of_getElem? (i := 9) rfl)
theorem tw_490 : (Cond.instanceMethod yX6_die : Cond) ∈ cp_T := tc_24 _ (List.mem_of_getElem? (i := 10) rfl)
theorem tw_491 : (Cond.code yX6_die cX6_die 5 none : Cond) ∈ cp_T := tc_24 _ (List.mem_of_getElem? (i := 11) rfl)
theorem tw_492 : (Cond.methodLink "CreaturePondModel" 112 yX6_animals : Cond) ∈ cp_T := tc_24 _ (List.mem_of_getElem? (i := 12) rfl)
theorem tw_493 : (Cond.instanceMethod yX6_animals : Cond) ∈ cp_T := tc_24 _ (List.mem_of_getElem? (i := 13) rfl)
theorem tw_494 : (Cond.code yX6_animals cX6_animals 3 (some .int) : Cond) ∈ cp_T := tc_24 _ (List.mem_of_getElem? (i := 14) rfl)
theorem tw_495 : (Cond.methodLink "CreaturePondLaw" 82 yX6_cell : Cond) ∈ cp_T := tc_24 _ (List.mem_of_getElem? (i := 15) rfl)
theorem tw_496 : (Cond.instanceMethod yX6_cell : Cond) ∈ cp_T := tc_24 _ (List.mem_of_getElem? (i := 16) rfl)
theorem tw_497 : (Cond.selects "CreaturePondModel" yX6_cell yX6_cell : Cond) ∈ cp_T := tc_24 _ (List.mem_of_getElem? (i := 17) rfl)
theorem tw_498 : (Cond.code yX6_cell cX6_cell 5 (some .int) : Cond) ∈ cp_T := tc_24 _ (List.mem_of_getElem? (i := 18) rfl)
theorem tw_499 : (Cond.methodLink "CreaturePondLaw" 87 yX6_field : Cond) ∈ cp_T := tc_24 _ (List.mem_of_getElem? (i := 19) rfl)
theorem tw_500 : (Cond.instanceMethod yX6_field : Cond) ∈ cp_T := tc_25 _ (List.mem_of_getElem? (i := 0) rfl)
theorem tw_501 : (Cond.selects "CreaturePondModel" yX6_field yX6_field : Cond) ∈ cp_T := tc_25 _ (List.mem_of_getElem? (i := 1) rfl)
theorem tw_502 : (Cond.code yX6_field cX6_field 4 (some .int) : Cond) ∈ cp_T := tc_25 _ (List.mem_of_getElem? (i := 2) rfl)
theorem tw_503 : (Cond.methodLink "CreaturePondLaw" 91 yX6_inner : Cond) ∈ cp_T := tc_25 _ (List.mem_of_getElem? (i := 3) rfl)
theorem tw_504 : (Cond.instanceMethod yX6_inner : Cond) ∈ cp_T := tc_25 _ (List.mem_of_getElem? (i := 4) rfl)
theorem tw_505 : (Cond.selects "CreaturePondModel" yX6_inner yX6_inner : Cond) ∈ cp_T := tc_25 _ (List.mem_of_getElem? (i := 5) rfl)
theorem tw_506 : (Cond.code yX6_inner cX6_inner 4 (some .byte) : Cond) ∈ cp_T := tc_25 _ (List.mem_of_getElem? (i := 6) rfl)
theorem tw_507 : (Cond.methodLink "CreaturePondLaw" 95 yX6_total : Cond) ∈ cp_T := tc_25 _ (List.mem_of_getElem? (i := 7) rfl)
theorem tw_508 : (Cond.instanceMethod yX6_total : Cond) ∈ cp_T := tc_25 _ (List.mem_of_getElem? (i := 8) rfl)
theorem tw_509 : (Cond.selects "CreaturePondModel" yX6_total yX6_total : Cond) ∈ cp_T := tc_25 _ (List.mem_of_getElem? (i := 9) rfl)
theorem tw_510 : (Cond.code yX6_total cX6_total 5 (some .int) : Cond) ∈ cp_T := tc_25 _ (List.mem_of_getElem? (i := 10) rfl)
theorem tw_511 : (Cond.methodLink "CreaturePondLaw" 99 yX6_keep : Cond) ∈ cp_T := tc_25 _ (List.mem_of_getElem? (i := 11) rfl)
theorem tw_512 : (Cond.instanceMethod yX6_keep : Cond) ∈ cp_T := tc_25 _ (List.mem_of_getElem? (i := 12) rfl)
theorem tw_513 : (Cond.selects "CreaturePondModel" yX6_keep yX6_keep : Cond) ∈ cp_T := tc_25 _ (List.mem_of_getElem? (i := 13) rfl)
theorem tw_514 : (Cond.code yX6_keep cX6_keep 2 none : Cond) ∈ cp_T := tc_25 _ (List.mem_of_getElem? (i := 14) rfl)
theorem tw_515 : (Cond.methodLink "CreaturePondLaw" 103 yX6_differ : Cond) ∈ cp_T := tc_25 _ (List.mem_of_getElem? (i := 15) rfl)
theorem tw_516 : (Cond.instanceMethod yX6_differ : Cond) ∈ cp_T := tc_25 _ (List.mem_of_getElem? (i := 16) rfl)
theorem tw_517 : (Cond.selects "CreaturePondModel" yX6_differ yX6_differ : Cond) ∈ cp_T := tc_25 _ (List.mem_of_getElem? (i := 17) rfl)
theorem tw_518 : (Cond.code yX6_differ cX6_differ 5 (some .int) : Cond) ∈ cp_T := tc_25 _ (List.mem_of_getElem? (i := 18) rfl)
theorem tw_519 : (Cond.methodLink "CreaturePondModel" 119 yX6_wasIn : Cond) ∈ cp_T := tc_25 _ (List.mem_of_getElem? (i := 19) rfl)
theorem tw_520 : (Cond.instanceMethod yX6_wasIn : Cond) ∈ cp_T := tc_26 _ (List.mem_of_getElem? (i := 0) rfl)
theorem tw_521 : (Cond.code yX6_wasIn cX6_wasIn 3 (some .int) : Cond) ∈ cp_T := tc_26 _ (List.mem_of_getElem? (i := 1) rfl)
theorem tw_522 : (Cond.methodLink "CreaturePondLaw" 108 yX6_back : Cond) ∈ cp_T := tc_26 _ (List.mem_of_getElem? (i := 2) rfl)
theorem tw_523 : (Cond.instanceMethod yX6_back : Cond) ∈ cp_T := tc_26 _ (List.mem_of_getElem? (i := 3) rfl)
theorem tw_524 : (Cond.selects "CreaturePondModel" yX6_back yX6_back : Cond) ∈ cp_T := tc_26 _ (List.mem_of_getElem? (i := 4) rfl)
theorem tw_525 : (Cond.code yX6_back cX6_back 2 (some .boolean) : Cond) ∈ cp_T := tc_26 _ (List.mem_of_getElem? (i := 5) rfl)
theorem tw_526 : (Cond.constantLong "CreaturePondLaw" 69 (4294967295 : Int64) : Cond) ∈ cp_T := tc_26 _ (List.mem_of_getElem? (i := 6) rfl)
theorem tw_527 : (Cond.arrayClass .long : Cond) ∈ cp_T := tc_26 _ (List.mem_of_getElem? (i := 7) rfl)
theorem tw_528 : (Cond.selects "CreaturePond$Shape" yX5_columnOf yX5_columnOf : Cond) ∈ cp_T := tc_26 _ (List.mem_of_getElem? (i := 8) rfl)
theorem tw_529 : (Cond.selects "CreaturePond$Shape" yX5_rowOf yX5_rowOf : Cond) ∈ cp_T := tc_26 _ (List.mem_of_getElem? (i := 9) rfl)
theorem tw_530 : (Cond.selects "CreaturePond$Shape" yX5_cellAt yX5_cellAt : Cond) ∈ cp_T := tc_26 _ (List.mem_of_getElem? (i := 10) rfl)
theorem tw_531 : (Cond.selects "CreaturePond$Pond" yX4_has yX4_has : Cond) ∈ cp_T := tc_26 _ (List.mem_of_getElem? (i := 11) rfl)
theorem tw_532 : (Cond.selects "CreaturePond$Animal" yX1_trait yX1_trait : Cond) ∈ cp_T := tc_26 _ (List.mem_of_getElem? (i := 12) rfl)
theorem tw_533 : (Cond.selects "CreaturePond$Pond" yX4_energyOfAll yX4_energyOfAll : Cond) ∈ cp_T := tc_26 _ (List.mem_of_getElem? (i := 13) rfl)
theorem tw_534 : (Cond.selects "CreaturePond$Pond" yX4_grainOfAll yX4_grainOfAll : Cond) ∈ cp_T := tc_26 _ (List.mem_of_getElem? (i := 14) rfl)
theorem tw_535 : (Cond.selects "CreaturePond$Pond" yX4_countAnimals yX4_countAnimals : Cond) ∈ cp_T := tc_26 _ (List.mem_of_getElem? (i := 15) rfl)
theorem tw_536 : (Cond.selects "CreaturePond$Pond" yX4_copyFrom yX4_copyFrom : Cond) ∈ cp_T := tc_26 _ (List.mem_of_getElem? (i := 16) rfl)
theorem tw_537 : (Cond.selects "CreaturePond$Animal" yX1_copyFrom yX1_copyFrom : Cond) ∈ cp_T := tc_26 _ (List.mem_of_getElem? (i := 17) rfl)
theorem tw_538 : (Cond.selects "CreaturePond$Pond" yX4_freeNumber yX4_freeNumber : Cond) ∈ cp_T := tc_26 _ (List.mem_of_getElem? (i := 18) rfl)
theorem tw_539 : (Cond.selects "CreaturePond$Pond" yX4_settle yX4_settle : Cond) ∈ cp_T := tc_26 _ (List.mem_of_getElem? (i := 19) rfl)
theorem tw_540 : (Cond.selects "CreaturePond$Animal" yX1_begin yX1_begin : Cond) ∈ cp_T := tc_27 _ (List.mem_of_getElem? (i := 0) rfl)
theorem tw_541 : (Cond.selects "CreaturePond$Animal" yX1_grow yX1_grow : Cond) ∈ cp_T := tc_27 _ (List.mem_of_getElem? (i := 1) rfl)
theorem tw_542 : (Cond.selects "CreaturePond$Pond" yX4_shine yX4_shine : Cond) ∈ cp_T := tc_27 _ (List.mem_of_getElem? (i := 2) rfl)
theorem tw_543 : (Cond.selects "CreaturePond$Mind" yX3_moveAll yX3_moveAll : Cond) ∈ cp_T := tc_27 _ (List.mem_of_getElem? (i := 3) rfl)
theorem tw_544 : (Cond.selects "CreaturePond$Mind" yX3_move yX3_move : Cond) ∈ cp_T := tc_27 _ (List.mem_of_getElem? (i := 4) rfl)
theorem tw_545 : (Cond.selects "CreaturePond$Pond" yX4_pay yX4_pay : Cond) ∈ cp_T := tc_27 _ (List.mem_of_getElem? (i := 5) rfl)
theorem tw_546 : (Cond.selects "CreaturePond$Mind" yX3_operate yX3_operate : Cond) ∈ cp_T := tc_27 _ (List.mem_of_getElem? (i := 6) rfl)
theorem tw_547 : (Cond.selects "CreaturePond$Animal" yX1_geneBehindPlace yX1_geneBehindPlace : Cond) ∈ cp_T := tc_27 _ (List.mem_of_getElem? (i := 7) rfl)
theorem tw_548 : (Cond.selects "CreaturePond$Animal" yX1_wrapped yX1_wrapped : Cond) ∈ cp_T := tc_27 _ (List.mem_of_getElem? (i := 8) rfl)
theorem tw_549 : (Cond.selects "CreaturePond$Mind" yX3_act yX3_act : Cond) ∈ cp_T := tc_27 _ (List.mem_of_getElem? (i := 9) rfl)
theorem tw_550 : (Cond.selects "CreaturePond$Mind" yX3_goAhead yX3_goAhead : Cond) ∈ cp_T := tc_27 _ (List.mem_of_getElem? (i := 10) rfl)
theorem tw_551 : (Cond.selects "CreaturePond$Pond" yX4_aheadOf yX4_aheadOf : Cond) ∈ cp_T := tc_27 _ (List.mem_of_getElem? (i := 11) rfl)
theorem tw_552 : (Cond.selects "CreaturePond$Mind" yX3_eat yX3_eat : Cond) ∈ cp_T := tc_27 _ (List.mem_of_getElem? (i := 12) rfl)
theorem tw_553 : (Cond.selects "CreaturePond$Mind" yX3_give yX3_give : Cond) ∈ cp_T := tc_27 _ (List.mem_of_getElem? (i := 13) rfl)
theorem tw_554 : (Cond.selects "CreaturePond$Mind" yX3_memoryIndex yX3_memoryIndex : Cond) ∈ cp_T := tc_27 _ (List.mem_of_getElem? (i := 14) rfl)
theorem tw_555 : (Cond.selects "CreaturePond$Mind" yX3_jump yX3_jump : Cond) ∈ cp_T := tc_27 _ (List.mem_of_getElem? (i := 15) rfl)
theorem tw_556 : (Cond.selects "CreaturePond$Mind" yX3_reckon yX3_reckon : Cond) ∈ cp_T := tc_27 _ (List.mem_of_getElem? (i := 16) rfl)
theorem tw_557 : (Cond.selects "CreaturePond$Mind" yX3_seenAhead yX3_seenAhead : Cond) ∈ cp_T := tc_27 _ (List.mem_of_getElem? (i := 17) rfl)
theorem tw_558 : (Cond.selects "CreaturePond$Mind" yX3_seenInside yX3_seenInside : Cond) ∈ cp_T := tc_27 _ (List.mem_of_getElem? (i := 18) rfl)
theorem tw_559 : (Cond.selects "CreaturePond$Breeding" yX2_breedAll yX2_breedAll : Cond) ∈ cp_T := tc_27 _ (List.mem_of_getElem? (i := 19) rfl)
theorem tw_560 : (Cond.selects "CreaturePond$Breeding" yX2_greaterOfPair yX2_greaterOfPair : Cond) ∈ cp_T := tc_28 _ (List.mem_of_getElem? (i := 0) rfl)
theorem tw_561 : (Cond.selects "CreaturePond$Breeding" yX2_breed yX2_breed : Cond) ∈ cp_T := tc_28 _ (List.mem_of_getElem? (i := 1) rfl)
theorem tw_562 : (Cond.selects "CreaturePond$Breeding" yX2_firstFreeAround yX2_firstFreeAround : Cond) ∈ cp_T := tc_28 _ (List.mem_of_getElem? (i := 2) rfl)
theorem tw_563 : (Cond.selects "CreaturePond$Shape" yX5_nextTo yX5_nextTo : Cond) ∈ cp_T := tc_28 _ (List.mem_of_getElem? (i := 3) rfl)
theorem tw_564 : (Cond.selects "CreaturePond$Breeding" yX2_payAndHalve yX2_payAndHalve : Cond) ∈ cp_T := tc_28 _ (List.mem_of_getElem? (i := 4) rfl)
theorem tw_565 : (Cond.selects "CreaturePond$Breeding" yX2_mixCode yX2_mixCode : Cond) ∈ cp_T := tc_28 _ (List.mem_of_getElem? (i := 5) rfl)
theorem tw_566 : (Cond.selects "CreaturePond$Pond" yX4_nextNumber yX4_nextNumber : Cond) ∈ cp_T := tc_28 _ (List.mem_of_getElem? (i := 6) rfl)
theorem tw_567 : (Cond.selects "CreaturePond$Breeding" yX2_growFrom yX2_growFrom : Cond) ∈ cp_T := tc_28 _ (List.mem_of_getElem? (i := 7) rfl)
theorem tw_568 : (Cond.selects "CreaturePond$Breeding" yX2_changeCode yX2_changeCode : Cond) ∈ cp_T := tc_28 _ (List.mem_of_getElem? (i := 8) rfl)
theorem tw_569 : (Cond.selects "CreaturePond$Pond" yX4_endDead yX4_endDead : Cond) ∈ cp_T := tc_28 _ (List.mem_of_getElem? (i := 9) rfl)
theorem tw_570 : (Cond.selects "CreaturePond$Pond" yX4_end yX4_end : Cond) ∈ cp_T := tc_28 _ (List.mem_of_getElem? (i := 10) rfl)
theorem tw_571 : (Cond.selects "CreaturePond$Pond" yX4_firstOther yX4_firstOther : Cond) ∈ cp_T := tc_28 _ (List.mem_of_getElem? (i := 11) rfl)
theorem tw_572 : (Cond.selects "CreaturePond$Pond" yX4_hasOtherDweller yX4_hasOtherDweller : Cond) ∈ cp_T := tc_28 _ (List.mem_of_getElem? (i := 12) rfl)
theorem tw_573 : (Cond.selects "CreaturePondModel" yX6_cellAt yX6_cellAt : Cond) ∈ cp_T := tc_28 _ (List.mem_of_getElem? (i := 13) rfl)
theorem tw_574 : (Cond.selects "CreaturePondModel" yX6_inCell yX6_inCell : Cond) ∈ cp_T := tc_28 _ (List.mem_of_getElem? (i := 14) rfl)
theorem tw_575 : (Cond.selects "CreaturePondModel" yX6_free yX6_free : Cond) ∈ cp_T := tc_28 _ (List.mem_of_getElem? (i := 15) rfl)
theorem tw_576 : (Cond.selects "CreaturePondModel" yX6_lives yX6_lives : Cond) ∈ cp_T := tc_28 _ (List.mem_of_getElem? (i := 16) rfl)
theorem tw_577 : (Cond.selects "CreaturePondModel" yX6_make yX6_make : Cond) ∈ cp_T := tc_28 _ (List.mem_of_getElem? (i := 17) rfl)
theorem tw_578 : (Cond.selects "CreaturePondModel" yX6_pass yX6_pass : Cond) ∈ cp_T := tc_28 _ (List.mem_of_getElem? (i := 18) rfl)
theorem tw_579 : (Cond.selects "CreaturePondModel" yX6_shine yX6_shine : Cond) ∈ cp_T := tc_28 _ (List.mem_of_getElem? (i := 19) rfl)
theorem tw_580 : (Cond.selects "CreaturePondModel" yX6_live yX6_live : Cond) ∈ cp_T := tc_29 _ (List.mem_of_getElem? (i := 0) rfl)
theorem tw_581 : (Cond.selects "CreaturePondModel" yX6_pay yX6_pay : Cond) ∈ cp_T := tc_29 _ (List.mem_of_getElem? (i := 1) rfl)
theorem tw_582 : (Cond.selects "CreaturePondModel" yX6_operate yX6_operate : Cond) ∈ cp_T := tc_29 _ (List.mem_of_getElem? (i := 2) rfl)
theorem tw_583 : (Cond.selects "CreaturePondModel" yX6_codeAt yX6_codeAt : Cond) ∈ cp_T := tc_29 _ (List.mem_of_getElem? (i := 3) rfl)
theorem tw_584 : (Cond.selects "CreaturePondModel" yX6_act yX6_act : Cond) ∈ cp_T := tc_29 _ (List.mem_of_getElem? (i := 4) rfl)
theorem tw_585 : (Cond.selects "CreaturePondModel" yX6_ahead yX6_ahead : Cond) ∈ cp_T := tc_29 _ (List.mem_of_getElem? (i := 5) rfl)
theorem tw_586 : (Cond.selects "CreaturePondModel" yX6_beside yX6_beside : Cond) ∈ cp_T := tc_29 _ (List.mem_of_getElem? (i := 6) rfl)
theorem tw_587 : (Cond.selects "CreaturePondModel" yX6_reckon yX6_reckon : Cond) ∈ cp_T := tc_29 _ (List.mem_of_getElem? (i := 7) rfl)
theorem tw_588 : (Cond.selects "CreaturePondModel" yX6_looks yX6_looks : Cond) ∈ cp_T := tc_29 _ (List.mem_of_getElem? (i := 8) rfl)
theorem tw_589 : (Cond.selects "CreaturePondModel" yX6_feels yX6_feels : Cond) ∈ cp_T := tc_29 _ (List.mem_of_getElem? (i := 9) rfl)
theorem tw_590 : (Cond.selects "CreaturePondModel" yX6_breed yX6_breed : Cond) ∈ cp_T := tc_29 _ (List.mem_of_getElem? (i := 10) rfl)
theorem tw_591 : (Cond.selects "CreaturePondModel" yX6_inherit yX6_inherit : Cond) ∈ cp_T := tc_29 _ (List.mem_of_getElem? (i := 11) rfl)
theorem tw_592 : (Cond.selects "CreaturePondModel" yX6_next yX6_next : Cond) ∈ cp_T := tc_29 _ (List.mem_of_getElem? (i := 12) rfl)
theorem tw_593 : (Cond.selects "CreaturePondModel" yX6_die yX6_die : Cond) ∈ cp_T := tc_29 _ (List.mem_of_getElem? (i := 13) rfl)
theorem tw_594 : (Cond.selects "CreaturePondModel" yX6_animals yX6_animals : Cond) ∈ cp_T := tc_29 _ (List.mem_of_getElem? (i := 14) rfl)
theorem tw_595 : (Cond.selects "CreaturePondModel" yX6_wasIn yX6_wasIn : Cond) ∈ cp_T := tc_29 _ (List.mem_of_getElem? (i := 15) rfl)
theorem tg_0 : cpT_0.all goodWord = true := by decide +kernel
theorem tg_1 : cpT_1.all goodWord = true := by decide +kernel
theorem tg_2 : cpT_2.all goodWord = true := by decide +kernel
theorem tg_3 : cpT_3.all goodWord = true := by decide +kernel
theorem tg_4 : cpT_4.all goodWord = true := by decide +kernel
theorem tg_5 : cpT_5.all goodWord = true := by decide +kernel
theorem tg_6 : cpT_6.all goodWord = true := by decide +kernel
theorem tg_7 : cpT_7.all goodWord = true := by decide +kernel
theorem tg_8 : cpT_8.all goodWord = true := by decide +kernel
theorem tg_9 : cpT_9.all goodWord = true := by decide +kernel
theorem tg_10 : cpT_10.all goodWord = true := by decide +kernel
theorem tg_11 : cpT_11.all goodWord = true := by decide +kernel
theorem tg_12 : cpT_12.all goodWord = true := by decide +kernel
theorem tg_13 : cpT_13.all goodWord = true := by decide +kernel
theorem tg_14 : cpT_14.all goodWord = true := by decide +kernel
theorem tg_15 : cpT_15.all goodWord = true := by decide +kernel
theorem tg_16 : cpT_16.all goodWord = true := by decide +kernel
theorem tg_17 : cpT_17.all goodWord = true := by decide +kernel
theorem tg_18 : cpT_18.all goodWord = true := by decide +kernel
theorem tg_19 : cpT_19.all goodWord = true := by decide +kernel
theorem tg_20 : cpT_20.all goodWord = true := by decide +kernel
theorem tg_21 : cpT_21.all goodWord = true := by decide +kernel
theorem tg_22 : cpT_22.all goodWord = true := by decide +kernel
theorem tg_23 : cpT_23.all goodWord = true := by decide +kernel
theorem tg_24 : cpT_24.all goodWord = true := by decide +kernel
theorem tg_25 : cpT_25.all goodWord = true := by decide +kernel
theorem tg_26 : cpT_26.all goodWord = true := by decide +kernel
theorem tg_27 : cpT_27.all goodWord = true := by decide +kernel
theorem tg_28 : cpT_28.all goodWord = true := by decide +kernel
theorem tg_29 : cpT_29.all goodWord = true := by decide +kernel
theorem cp_gT : GoodIn cp_T cp_T := fun w hw => ⟨hw, good_of_word ((fun (w : Cond) (h : w ∈ cp_T) => ((List.mem_append.mp h).elim (fun h => List.all_eq_true.mp tg_0 w h) (fun h => (List.mem_append.mp h).elim (fun h => List.all_eq_true.mp tg_1 w h) (fun h => (List.mem_append.mp h).elim (fun h => List.all_eq_true.mp tg_2 w h) (fun h => (List.mem_append.mp h).elim (fun h => List.all_eq_true.mp tg_3 w h) (fun h => (List.mem_append.mp h).elim (fun h => List.all_eq_true.mp tg_4 w h) (fun h => (List.mem_append.mp h).elim (fun h => List.all_eq_true.mp tg_5 w h) (fun h => (List.mem_append.mp h).elim (fun h => List.all_eq_true.mp tg_6 w h) (fun h => (List.mem_append.mp h).elim (fun h => List.all_eq_true.mp tg_7 w h) (fun h => (List.mem_append.mp h).elim (fun h => List.all_eq_true.mp tg_8 w h) (fun h => (List.mem_append.mp h).elim (fun h => List.all_eq_true.mp tg_9 w h) (fun h => (List.mem_append.mp h).elim (fun h => List.all_eq_true.mp tg_10 w h) (fun h => (List.mem_append.mp h).elim (fun h => List.all_eq_true.mp tg_11 w h) (fun h => (List.mem_append.mp h).elim (fun h => List.all_eq_true.mp tg_12 w h) (fun h => (List.mem_append.mp h).elim (fun h => List.all_eq_true.mp tg_13 w h) (fun h => (List.mem_append.mp h).elim (fun h => List.all_eq_true.mp tg_14 w h) (fun h => (List.mem_append.mp h).elim (fun h => List.all_eq_true.mp tg_15 w h) (fun h => (List.mem_append.mp h).elim (fun h => List.all_eq_true.mp tg_16 w h) (fun h => (List.mem_append.mp h).elim (fun h => List.all_eq_true.mp tg_17 w h) (fun h => (List.mem_append.mp h).elim (fun h => List.all_eq_true.mp tg_18 w h) (fun h => (List.mem_append.mp h).elim (fun h => List.all_eq_true.mp tg_19 w h) (fun h => (List.mem_append.mp h).elim (fun h => List.all_eq_true.mp tg_20 w h) (fun h => (List.mem_append.mp h).elim (fun h => List.all_eq_true.mp tg_21 w h) (fun h => (List.mem_append.mp h).elim (fun h => List.all_eq_true.mp tg_22 w h) (fun h => (List.mem_append.mp h).elim (fun h => List.all_eq_true.mp tg_23 w h) (fun h => (List.mem_append.mp h).elim (fun h => List.all_eq_true.mp tg_24 w h) (fun h => (List.mem_append.mp h).elim (fun h => List.all_eq_true.mp tg_25 w h) (fun h => (List.mem_append.mp h).elim (fun h => List.all_eq_true.mp tg_26 w h) (fun h => (List.mem_append.mp h).elim (fun h => List.all_eq_true.mp tg_27 w h) (fun h => (List.mem_append.mp h).elim (fun h => List.all_eq_true.mp tg_28 w h) (fun h => List.all_eq_true.mp tg_29 w h))))))))))))))))))))))))))))) : goodWord w = true)) w hw)⟩
theorem cp_good {w : Cond} (h : w ∈ cp_T) : GoodIn cp_T (w :: cp_T) := fun x hx => (List.mem_cons.mp hx).elim (fun e => by rw [e]; exact cp_gT w h) (fun h => cp_gT x h)
def wsX0_init : List Cond := .code yX0_init cX0_init 3 none :: cp_T
theorem gdX0_init : GoodIn cp_T wsX0_init := cp_good tw_20
def wsX5_init : List Cond := .code yX5_init cX5_init 6 none :: cp_T
theorem gdX5_init : GoodIn cp_T wsX5_init := cp_good tw_33
def wsX5_columnOf : List Cond := .code yX5_columnOf cX5_columnOf 2 (some .int) :: cp_T
theorem gdX5_columnOf : GoodIn cp_T wsX5_columnOf := cp_good tw_37
def wsX5_rowOf : List Cond := .code yX5_rowOf cX5_rowOf 2 (some .int) :: cp_T
theorem gdX5_rowOf : GoodIn cp_T wsX5_rowOf := cp_good tw_41
def wsX5_cellAt : List Cond := .code yX5_cellAt cX5_cellAt 3 (some .int) :: cp_T
theorem gdX5_cellAt : GoodIn cp_T wsX5_cellAt := cp_good tw_45
def wsJ_floorMod : List Cond := .code yJ_floorMod cJ_floorMod 3 (some .int) :: cp_T
theorem gdJ_floorMod : GoodIn cp_T wsJ_floorMod := cp_good tw_48
def wsX4_init : List Cond := .code yX4_init cX4_init 3 none :: cp_T
theorem gdX4_init : GoodIn cp_T wsX4_init := cp_good tw_61
def wsX1_init : List Cond := .code yX1_init cX1_init 1 none :: cp_T
theorem gdX1_init : GoodIn cp_T wsX1_init := cp_good tw_66
def wsX3_init : List Cond := .code yX3_init cX3_init 2 none :: cp_T
theorem gdX3_init : GoodIn cp_T wsX3_init := cp_good tw_124
def wsX2_init : List Cond := .code yX2_init cX2_init 2 none :: cp_T
theorem gdX2_init : GoodIn cp_T wsX2_init := cp_good tw_131
def wsX0_set : List Cond := .code yX0_set cX0_set 3 (some .boolean) :: cp_T
theorem gdX0_set : GoodIn cp_T wsX0_set := cp_good tw_150
def wsX0_store : List Cond := .code yX0_store cX0_store 2 (some .boolean) :: cp_T
theorem gdX0_store : GoodIn cp_T wsX0_store := cp_good tw_154
def wsX0_grain : List Cond := .code yX0_grain cX0_grain 4 (some .boolean) :: cp_T
theorem gdX0_grain : GoodIn cp_T wsX0_grain := cp_good tw_159
def wsX0_cell : List Cond := .code yX0_cell cX0_cell 5 (some .int) :: cp_T
theorem gdX0_cell : GoodIn cp_T wsX0_cell := cp_good tw_163
def wsX0_field : List Cond := .code yX0_field cX0_field 4 (some .int) :: cp_T
theorem gdX0_field : GoodIn cp_T wsX0_field := cp_good tw_167
def wsX4_has : List Cond := .code yX4_has cX4_has 2 (some .boolean) :: cp_T
theorem gdX4_has : GoodIn cp_T wsX4_has := cp_good tw_169
def wsX1_trait : List Cond := .code yX1_trait cX1_trait 2 (some .int) :: cp_T
theorem gdX1_trait : GoodIn cp_T wsX1_trait := cp_good tw_171
def wsX0_total : List Cond := .code yX0_total cX0_total 2 (some .int) :: cp_T
theorem gdX0_total : GoodIn cp_T wsX0_total := cp_good tw_175
def wsX4_energyOfAll : List Cond := .code yX4_energyOfAll cX4_energyOfAll 3 (some .int) :: cp_T
theorem gdX4_energyOfAll : GoodIn cp_T wsX4_energyOfAll := cp_good tw_177
def wsX4_grainOfAll : List Cond := .code yX4_grainOfAll cX4_grainOfAll 6 (some .int) :: cp_T
theorem gdX4_grainOfAll : GoodIn cp_T wsX4_grainOfAll := cp_good tw_179
def wsX4_countAnimals : List Cond := .code yX4_countAnimals cX4_countAnimals 3 (some .int) :: cp_T
theorem gdX4_countAnimals : GoodIn cp_T wsX4_countAnimals := cp_good tw_181
def wsX0_keep : List Cond := .code yX0_keep cX0_keep 1 none :: cp_T
theorem gdX0_keep : GoodIn cp_T wsX0_keep := cp_good tw_185
def wsX4_copyFrom : List Cond := .code yX4_copyFrom cX4_copyFrom 3 none :: cp_T
theorem gdX4_copyFrom : GoodIn cp_T wsX4_copyFrom := cp_good tw_187
def wsX1_copyFrom : List Cond := .code yX1_copyFrom cX1_copyFrom 2 none :: cp_T
theorem gdX1_copyFrom : GoodIn cp_T wsX1_copyFrom := cp_good tw_192
def wsX0_back : List Cond := .code yX0_back cX0_back 1 (some .boolean) :: cp_T
theorem gdX0_back : GoodIn cp_T wsX0_back := cp_good tw_197
def wsL_cell : List Cond := .code yL_cell cL_cell 2 (some .int) :: cp_T
theorem gdL_cell : GoodIn cp_T wsL_cell := cp_good tw_200
def wsX0_animal : List Cond := .code yX0_animal cX0_animal 7 (some .int) :: cp_T
theorem gdX0_animal : GoodIn cp_T wsX0_animal := cp_good tw_208
def wsX4_freeNumber : List Cond := .code yX4_freeNumber cX4_freeNumber 2 (some .int) :: cp_T
theorem gdX4_freeNumber : GoodIn cp_T wsX4_freeNumber := cp_good tw_232
def wsX4_settle : List Cond := .code yX4_settle cX4_settle 6 (some (.object "CreaturePond$Animal")) :: cp_T
theorem gdX4_settle : GoodIn cp_T wsX4_settle := cp_good tw_242
def wsX1_begin : List Cond := .code yX1_begin cX1_begin 5 none :: cp_T
theorem gdX1_begin : GoodIn cp_T wsX1_begin := cp_good tw_244
def wsX0_code : List Cond := .code yX0_code cX0_code 7 (some .int) :: cp_T
theorem gdX0_code : GoodIn cp_T wsX0_code := cp_good tw_250
def wsX1_grow : List Cond := .code yX1_grow cX1_grow 2 none :: cp_T
theorem gdX1_grow : GoodIn cp_T wsX1_grow := cp_good tw_252
def wsX0_tick : List Cond := .code yX0_tick cX0_tick 3 (some .int) :: cp_T
theorem gdX0_tick : GoodIn cp_T wsX0_tick := cp_good tw_258
def wsX4_shine : List Cond := .code yX4_shine cX4_shine 2 none :: cp_T
theorem gdX4_shine : GoodIn cp_T wsX4_shine := cp_good tw_260
def wsX3_moveAll : List Cond := .code yX3_moveAll cX3_moveAll 2 none :: cp_T
theorem gdX3_moveAll : GoodIn cp_T wsX3_moveAll := cp_good tw_262
def wsX3_move : List Cond := .code yX3_move cX3_move 4 none :: cp_T
theorem gdX3_move : GoodIn cp_T wsX3_move := cp_good tw_265
def wsX4_pay : List Cond := .code yX4_pay cX4_pay 4 none :: cp_T
theorem gdX4_pay : GoodIn cp_T wsX4_pay := cp_good tw_267
def wsX3_operate : List Cond := .code yX3_operate cX3_operate 5 (some .boolean) :: cp_T
theorem gdX3_operate : GoodIn cp_T wsX3_operate := cp_good tw_271
def wsX1_geneBehindPlace : List Cond := .code yX1_geneBehindPlace cX1_geneBehindPlace 2 (some .byte) :: cp_T
theorem gdX1_geneBehindPlace : GoodIn cp_T wsX1_geneBehindPlace := cp_good tw_273
def wsX1_wrapped : List Cond := .code yX1_wrapped cX1_wrapped 2 (some .int) :: cp_T
theorem gdX1_wrapped : GoodIn cp_T wsX1_wrapped := cp_good tw_276
def wsX3_act : List Cond := .code yX3_act cX3_act 4 none :: cp_T
theorem gdX3_act : GoodIn cp_T wsX3_act := cp_good tw_280
def wsX3_goAhead : List Cond := .code yX3_goAhead cX3_goAhead 3 none :: cp_T
theorem gdX3_goAhead : GoodIn cp_T wsX3_goAhead := cp_good tw_283
def wsX4_aheadOf : List Cond := .code yX4_aheadOf cX4_aheadOf 2 (some .int) :: cp_T
theorem gdX4_aheadOf : GoodIn cp_T wsX4_aheadOf := cp_good tw_285
def wsX3_eat : List Cond := .code yX3_eat cX3_eat 3 none :: cp_T
theorem gdX3_eat : GoodIn cp_T wsX3_eat := cp_good tw_288
def wsX3_give : List Cond := .code yX3_give cX3_give 5 none :: cp_T
theorem gdX3_give : GoodIn cp_T wsX3_give := cp_good tw_292
def wsX3_memoryIndex : List Cond := .code yX3_memoryIndex cX3_memoryIndex 3 (some .int) :: cp_T
theorem gdX3_memoryIndex : GoodIn cp_T wsX3_memoryIndex := cp_good tw_295
def wsX3_jump : List Cond := .code yX3_jump cX3_jump 3 none :: cp_T
theorem gdX3_jump : GoodIn cp_T wsX3_jump := cp_good tw_298
def wsX3_reckon : List Cond := .code yX3_reckon cX3_reckon 7 (some .int) :: cp_T
theorem gdX3_reckon : GoodIn cp_T wsX3_reckon := cp_good tw_301
def wsX3_seenAhead : List Cond := .code yX3_seenAhead cX3_seenAhead 5 (some .int) :: cp_T
theorem gdX3_seenAhead : GoodIn cp_T wsX3_seenAhead := cp_good tw_304
def wsX3_seenInside : List Cond := .code yX3_seenInside cX3_seenInside 3 (some .int) :: cp_T
theorem gdX3_seenInside : GoodIn cp_T wsX3_seenInside := cp_good tw_307
def wsX2_breedAll : List Cond := .code yX2_breedAll cX2_breedAll 3 none :: cp_T
theorem gdX2_breedAll : GoodIn cp_T wsX2_breedAll := cp_good tw_309
def wsX2_greaterOfPair : List Cond := .code yX2_greaterOfPair cX2_greaterOfPair 5 (some .int) :: cp_T
theorem gdX2_greaterOfPair : GoodIn cp_T wsX2_greaterOfPair := cp_good tw_312
def wsX2_breed : List Cond := .code yX2_breed cX2_breed 8 none :: cp_T
theorem gdX2_breed : GoodIn cp_T wsX2_breed := cp_good tw_315
def wsX2_firstFreeAround : List Cond := .code yX2_firstFreeAround cX2_firstFreeAround 4 (some .int) :: cp_T
theorem gdX2_firstFreeAround : GoodIn cp_T wsX2_firstFreeAround := cp_good tw_318
def wsX5_nextTo : List Cond := .code yX5_nextTo cX5_nextTo 3 (some .int) :: cp_T
theorem gdX5_nextTo : GoodIn cp_T wsX5_nextTo := cp_good tw_320
def wsX2_payAndHalve : List Cond := .code yX2_payAndHalve cX2_payAndHalve 3 (some .int) :: cp_T
theorem gdX2_payAndHalve : GoodIn cp_T wsX2_payAndHalve := cp_good tw_323
def wsX2_mixCode : List Cond := .code yX2_mixCode cX2_mixCode 6 none :: cp_T
theorem gdX2_mixCode : GoodIn cp_T wsX2_mixCode := cp_good tw_327
def wsX4_nextNumber : List Cond := .code yX4_nextNumber cX4_nextNumber 2 (some .int) :: cp_T
theorem gdX4_nextNumber : GoodIn cp_T wsX4_nextNumber := cp_good tw_329
def wsX2_growFrom : List Cond := .code yX2_growFrom cX2_growFrom 7 none :: cp_T
theorem gdX2_growFrom : GoodIn cp_T wsX2_growFrom := cp_good tw_333
def wsX2_changeCode : List Cond := .code yX2_changeCode cX2_changeCode 3 none :: cp_T
theorem gdX2_changeCode : GoodIn cp_T wsX2_changeCode := cp_good tw_337
def wsX4_endDead : List Cond := .code yX4_endDead cX4_endDead 3 none :: cp_T
theorem gdX4_endDead : GoodIn cp_T wsX4_endDead := cp_good tw_339
def wsX4_end : List Cond := .code yX4_end cX4_end 4 none :: cp_T
theorem gdX4_end : GoodIn cp_T wsX4_end := cp_good tw_342
def wsX0_inner : List Cond := .code yX0_inner cX0_inner 6 (some .byte) :: cp_T
theorem gdX0_inner : GoodIn cp_T wsX0_inner := cp_good tw_349
def wsX0_differ : List Cond := .code yX0_differ cX0_differ 1 (some .int) :: cp_T
theorem gdX0_differ : GoodIn cp_T wsX0_differ := cp_good tw_363
def wsX4_firstOther : List Cond := .code yX4_firstOther cX4_firstOther 3 (some .int) :: cp_T
theorem gdX4_firstOther : GoodIn cp_T wsX4_firstOther := cp_good tw_365
def wsX4_hasOtherDweller : List Cond := .code yX4_hasOtherDweller cX4_hasOtherDweller 6 (some .boolean) :: cp_T
theorem gdX4_hasOtherDweller : GoodIn cp_T wsX4_hasOtherDweller := cp_good tw_368
def wsX6_init : List Cond := .code yX6_init cX6_init 4 none :: cp_T
theorem gdX6_init : GoodIn cp_T wsX6_init := cp_good tw_373
def wsX6_thrown : List Cond := .code yX6_thrown cX6_thrown 1 (some .int) :: cp_T
theorem gdX6_thrown : GoodIn cp_T wsX6_thrown := cp_good tw_390
def wsX6_set : List Cond := .code yX6_set cX6_set 3 (some .boolean) :: cp_T
theorem gdX6_set : GoodIn cp_T wsX6_set := cp_good tw_394
def wsX6_store : List Cond := .code yX6_store cX6_store 2 (some .boolean) :: cp_T
theorem gdX6_store : GoodIn cp_T wsX6_store := cp_good tw_398
def wsX6_grain : List Cond := .code yX6_grain cX6_grain 4 (some .boolean) :: cp_T
theorem gdX6_grain : GoodIn cp_T wsX6_grain := cp_good tw_403
def wsX6_cellAt : List Cond := .code yX6_cellAt cX6_cellAt 3 (some .int) :: cp_T
theorem gdX6_cellAt : GoodIn cp_T wsX6_cellAt := cp_good tw_406
def wsX6_round : List Cond := .code yX6_round cX6_round 3 (some .int) :: cp_T
theorem gdX6_round : GoodIn cp_T wsX6_round := cp_good tw_409
def wsX6_animal : List Cond := .code yX6_animal cX6_animal 6 (some .int) :: cp_T
theorem gdX6_animal : GoodIn cp_T wsX6_animal := cp_good tw_413
def wsX6_inCell : List Cond := .code yX6_inCell cX6_inCell 3 (some .int) :: cp_T
theorem gdX6_inCell : GoodIn cp_T wsX6_inCell := cp_good tw_416
def wsX6_at : List Cond := .code yX6_at cX6_at 1 (some .int) :: cp_T
theorem gdX6_at : GoodIn cp_T wsX6_at := cp_good tw_419
def wsX6_free : List Cond := .code yX6_free cX6_free 2 (some .int) :: cp_T
theorem gdX6_free : GoodIn cp_T wsX6_free := cp_good tw_422
def wsX6_lives : List Cond := .code yX6_lives cX6_lives 2 (some .boolean) :: cp_T
theorem gdX6_lives : GoodIn cp_T wsX6_lives := cp_good tw_425
def wsX6_make : List Cond := .code yX6_make cX6_make 6 none :: cp_T
theorem gdX6_make : GoodIn cp_T wsX6_make := cp_good tw_428
def wsX6_code : List Cond := .code yX6_code cX6_code 7 (some .int) :: cp_T
theorem gdX6_code : GoodIn cp_T wsX6_code := cp_good tw_432
def wsX6_tick : List Cond := .code yX6_tick cX6_tick 3 (some .int) :: cp_T
theorem gdX6_tick : GoodIn cp_T wsX6_tick := cp_good tw_436
def wsX6_pass : List Cond := .code yX6_pass cX6_pass 3 none :: cp_T
theorem gdX6_pass : GoodIn cp_T wsX6_pass := cp_good tw_439
def wsX6_shine : List Cond := .code yX6_shine cX6_shine 3 none :: cp_T
theorem gdX6_shine : GoodIn cp_T wsX6_shine := cp_good tw_442
def wsX6_live : List Cond := .code yX6_live cX6_live 5 none :: cp_T
theorem gdX6_live : GoodIn cp_T wsX6_live := cp_good tw_445
def wsX6_pay : List Cond := .code yX6_pay cX6_pay 4 none :: cp_T
theorem gdX6_pay : GoodIn cp_T wsX6_pay := cp_good tw_448
def wsX6_least : List Cond := .code yX6_least cX6_least 2 (some .int) :: cp_T
theorem gdX6_least : GoodIn cp_T wsX6_least := cp_good tw_451
def wsX6_operate : List Cond := .code yX6_operate cX6_operate 11 (some .boolean) :: cp_T
theorem gdX6_operate : GoodIn cp_T wsX6_operate := cp_good tw_454
def wsX6_codeAt : List Cond := .code yX6_codeAt cX6_codeAt 3 (some .int) :: cp_T
theorem gdX6_codeAt : GoodIn cp_T wsX6_codeAt := cp_good tw_457
def wsX6_operands : List Cond := .code yX6_operands cX6_operands 1 (some .int) :: cp_T
theorem gdX6_operands : GoodIn cp_T wsX6_operands := cp_good tw_460
def wsX6_act : List Cond := .code yX6_act cX6_act 8 none :: cp_T
theorem gdX6_act : GoodIn cp_T wsX6_act := cp_good tw_463
def wsX6_ahead : List Cond := .code yX6_ahead cX6_ahead 2 (some .int) :: cp_T
theorem gdX6_ahead : GoodIn cp_T wsX6_ahead := cp_good tw_466
def wsX6_beside : List Cond := .code yX6_beside cX6_beside 5 (some .int) :: cp_T
theorem gdX6_beside : GoodIn cp_T wsX6_beside := cp_good tw_469
def wsX6_reckon : List Cond := .code yX6_reckon cX6_reckon 8 (some .int) :: cp_T
theorem gdX6_reckon : GoodIn cp_T wsX6_reckon := cp_good tw_472
def wsX6_looks : List Cond := .code yX6_looks cX6_looks 5 (some .int) :: cp_T
theorem gdX6_looks : GoodIn cp_T wsX6_looks := cp_good tw_475
def wsX6_feels : List Cond := .code yX6_feels cX6_feels 4 (some .int) :: cp_T
theorem gdX6_feels : GoodIn cp_T wsX6_feels := cp_good tw_478
def wsX6_breed : List Cond := .code yX6_breed cX6_breed 7 none :: cp_T
theorem gdX6_breed : GoodIn cp_T wsX6_breed := cp_good tw_481
def wsX6_inherit : List Cond := .code yX6_inherit cX6_inherit 10 none :: cp_T
theorem gdX6_inherit : GoodIn cp_T wsX6_inherit := cp_good tw_484
def wsX6_next : List Cond := .code yX6_next cX6_next 2 (some .int) :: cp_T
theorem gdX6_next : GoodIn cp_T wsX6_next := cp_good tw_487
def wsX6_die : List Cond := .code yX6_die cX6_die 5 none :: cp_T
theorem gdX6_die : GoodIn cp_T wsX6_die := cp_good tw_491
def wsX6_animals : List Cond := .code yX6_animals cX6_animals 3 (some .int) :: cp_T
theorem gdX6_animals : GoodIn cp_T wsX6_animals := cp_good tw_494
def wsX6_cell : List Cond := .code yX6_cell cX6_cell 5 (some .int) :: cp_T
theorem gdX6_cell : GoodIn cp_T wsX6_cell := cp_good tw_498
def wsX6_field : List Cond := .code yX6_field cX6_field 4 (some .int) :: cp_T
theorem gdX6_field : GoodIn cp_T wsX6_field := cp_good tw_502
def wsX6_inner : List Cond := .code yX6_inner cX6_inner 4 (some .byte) :: cp_T
theorem gdX6_inner : GoodIn cp_T wsX6_inner := cp_good tw_506
def wsX6_total : List Cond := .code yX6_total cX6_total 5 (some .int) :: cp_T
theorem gdX6_total : GoodIn cp_T wsX6_total := cp_good tw_510
def wsX6_keep : List Cond := .code yX6_keep cX6_keep 2 none :: cp_T
theorem gdX6_keep : GoodIn cp_T wsX6_keep := cp_good tw_514
def wsX6_differ : List Cond := .code yX6_differ cX6_differ 5 (some .int) :: cp_T
theorem gdX6_differ : GoodIn cp_T wsX6_differ := cp_good tw_518
def wsX6_wasIn : List Cond := .code yX6_wasIn cX6_wasIn 3 (some .int) :: cp_T
theorem gdX6_wasIn : GoodIn cp_T wsX6_wasIn := cp_good tw_521
def wsX6_back : List Cond := .code yX6_back cX6_back 2 (some .boolean) :: cp_T
theorem gdX6_back : GoodIn cp_T wsX6_back := cp_good tw_525
theorem hinX0 : ∀ w ∈ u_ws "CreaturePond" TX0 6, w ∈ cp_T := fun w h => (fun (h : w ∈ ([u_lay "CreaturePond" TX0 0, u_lay "CreaturePond" TX0 1, u_lay "CreaturePond" TX0 2, u_lay "CreaturePond" TX0 3, u_lay "CreaturePond" TX0 4, u_lay "CreaturePond" TX0 5] : List Cond)) => (List.mem_cons.mp h).elim (fun e => by rw [e]; exact tw_141) (fun h => (List.mem_cons.mp h).elim (fun e => by rw [e]; exact tw_142) (fun h => (List.mem_cons.mp h).elim (fun e => by rw [e]; exact tw_143) (fun h => (List.mem_cons.mp h).elim (fun e => by rw [e]; exact tw_144) (fun h => (List.mem_cons.mp h).elim (fun e => by rw [e]; exact tw_145) (fun h => (List.mem_cons.mp h).elim (fun e => by rw [e]; exact tw_146) (fun h => absurd h List.not_mem_nil))))))) h
theorem hinX1 : ∀ w ∈ u_ws "CreaturePond$Animal" TX1 14, w ∈ cp_T := fun w h => (fun (h : w ∈ ([u_lay "CreaturePond$Animal" TX1 0, u_lay "CreaturePond$Animal" TX1 1, u_lay "CreaturePond$Animal" TX1 2, u_lay "CreaturePond$Animal" TX1 3, u_lay "CreaturePond$Animal" TX1 4, u_lay "CreaturePond$Animal" TX1 5, u_lay "CreaturePond$Animal" TX1 6, u_lay "CreaturePond$Animal" TX1 7, u_lay "CreaturePond$Animal" TX1 8, u_lay "CreaturePond$Animal" TX1 9, u_lay "CreaturePond$Animal" TX1 10, u_lay "CreaturePond$Animal" TX1 11, u_lay "CreaturePond$Animal" TX1 12, u_lay "CreaturePond$Animal" TX1 13] : List Cond)) => (List.mem_cons.mp h).elim (fun e => by rw [e]; exact tw_82) (fun h => (List.mem_cons.mp h).elim (fun e => by rw [e]; exact tw_83) (fun h => (List.mem_cons.mp h).elim (fun e => by rw [e]; exact tw_84) (fun h => (List.mem_cons.mp h).elim (fun e => by rw [e]; exact tw_85) (fun h => (List.mem_cons.mp h).elim (fun e => by rw [e]; exact tw_86) (fun h => (List.mem_cons.mp h).elim (fun e => by rw [e]; exact tw_87) (fun h => (List.mem_cons.mp h).elim (fun e => by rw [e]; exact tw_88) (fun h => (List.mem_cons.mp h).elim (fun e => by rw [e]; exact tw_89) (fun h => (List.mem_cons.mp h).elim (fun e => by rw [e]; exact tw_90) (fun h => (List.mem_cons.mp h).elim (fun e => by rw [e]; exact tw_91) (fun h => (List.mem_cons.mp h).elim (fun e => by rw [e]; exact tw_92) (fun h => (List.mem_cons.mp h).elim (fun e => by rw [e]; exact tw_93) (fun h => (List.mem_cons.mp h).elim (fun e => by rw [e]; exact tw_94) (fun h => (List.mem_cons.mp h).elim (fun e => by rw [e]; exact tw_95) (fun h => absurd h List.not_mem_nil))))))))))))))) h
theorem hinX2 : ∀ w ∈ u_ws "CreaturePond$Breeding" TX2 1, w ∈ cp_T := fun w h => (fun (h : w ∈ ([u_lay "CreaturePond$Breeding" TX2 0] : List Cond)) => (List.mem_cons.mp h).elim (fun e => by rw [e]; exact tw_134) (fun h => absurd h List.not_mem_nil)) h
theorem hinX3 : ∀ w ∈ u_ws "CreaturePond$Mind" TX3 1, w ∈ cp_T := fun w h => (fun (h : w ∈ ([u_lay "CreaturePond$Mind" TX3 0] : List Cond)) => (List.mem_cons.mp h).elim (fun e => by rw [e]; exact tw_127) (fun h => absurd h List.not_mem_nil)) h
theorem hinX4 : ∀ w ∈ u_ws "CreaturePond$Pond" TX4 12, w ∈ cp_T := fun w h => (fun (h : w ∈ ([u_lay "CreaturePond$Pond" TX4 0, u_lay "CreaturePond$Pond" TX4 1, u_lay "CreaturePond$Pond" TX4 2, u_lay "CreaturePond$Pond" TX4 3, u_lay "CreaturePond$Pond" TX4 4, u_lay "CreaturePond$Pond" TX4 5, u_lay "CreaturePond$Pond" TX4 6, u_lay "CreaturePond$Pond" TX4 7, u_lay "CreaturePond$Pond" TX4 8, u_lay "CreaturePond$Pond" TX4 9, u_lay "CreaturePond$Pond" TX4 10, u_lay "CreaturePond$Pond" TX4 11] : List Cond)) => (List.mem_cons.mp h).elim (fun e => by rw [e]; exact tw_109) (fun h => (List.mem_cons.mp h).elim (fun e => by rw [e]; exact tw_110) (fun h => (List.mem_cons.mp h).elim (fun e => by rw [e]; exact tw_111) (fun h => (List.mem_cons.mp h).elim (fun e => by rw [e]; exact tw_112) (fun h => (List.mem_cons.mp h).elim (fun e => by rw [e]; exact tw_113) (fun h => (List.mem_cons.mp h).elim (fun e => by rw [e]; exact tw_114) (fun h => (List.mem_cons.mp h).elim (fun e => by rw [e]; exact tw_115) (fun h => (List.mem_cons.mp h).elim (fun e => by rw [e]; exact tw_116) (fun h => (List.mem_cons.mp h).elim (fun e => by rw [e]; exact tw_117) (fun h => (List.mem_cons.mp h).elim (fun e => by rw [e]; exact tw_118) (fun h => (List.mem_cons.mp h).elim (fun e => by rw [e]; exact tw_119) (fun h => (List.mem_cons.mp h).elim (fun e => by rw [e]; exact tw_120) (fun h => absurd h List.not_mem_nil))))))))))))) h
theorem hinX5 : ∀ w ∈ u_ws "CreaturePond$Shape" TX5 4, w ∈ cp_T := fun w h => (fun (h : w ∈ ([u_lay "CreaturePond$Shape" TX5 0, u_lay "CreaturePond$Shape" TX5 1, u_lay "CreaturePond$Shape" TX5 2, u_lay "CreaturePond$Shape" TX5 3] : List Cond)) => (List.mem_cons.mp h).elim (fun e => by rw [e]; exact tw_53) (fun h => (List.mem_cons.mp h).elim (fun e => by rw [e]; exact tw_54) (fun h => (List.mem_cons.mp h).elim (fun e => by rw [e]; exact tw_55) (fun h => (List.mem_cons.mp h).elim (fun e => by rw [e]; exact tw_56) (fun h => absurd h List.not_mem_nil))))) h
theorem hinX6 : ∀ w ∈ u_ws "CreaturePondModel" TX6 6, w ∈ cp_T := fun w h => (fun (h : w ∈ ([u_lay "CreaturePondModel" TX6 0, u_lay "CreaturePondModel" TX6 1, u_lay "CreaturePondModel" TX6 2, u_lay "CreaturePondModel" TX6 3, u_lay "CreaturePondModel" TX6 4, u_lay "CreaturePondModel" TX6 5] : List Cond)) => (List.mem_cons.mp h).elim (fun e => by rw [e]; exact tw_381) (fun h => (List.mem_cons.mp h).elim (fun e => by rw [e]; exact tw_382) (fun h => (List.mem_cons.mp h).elim (fun e => by rw [e]; exact tw_383) (fun h => (List.mem_cons.mp h).elim (fun e => by rw [e]; exact tw_384) (fun h => (List.mem_cons.mp h).elim (fun e => by rw [e]; exact tw_385) (fun h => (List.mem_cons.mp h).elim (fun e => by rw [e]; exact tw_386) (fun h => absurd h List.not_mem_nil))))))) h
def cp_nw : List Cond := [Cond.methodLinkNest "CreaturePond" 20 yX5_init "CreaturePond", Cond.fieldLinkNest "CreaturePond$Pond" 21 "CreaturePond$Shape" "cells" "I" "CreaturePond", Cond.fieldLinkNest "CreaturePond$Pond" 70 "CreaturePond$Shape" "neighbours" "[I" "CreaturePond", Cond.methodLinkNest "CreaturePond" 29 yX4_init "CreaturePond", Cond.methodLinkNest "CreaturePond$Pond" 38 yX1_init "CreaturePond", Cond.fieldLinkNest "CreaturePond$Mind" 79 "CreaturePond$Animal" "registers" "[B" "CreaturePond", Cond.fieldLinkNest "CreaturePond" 141 "CreaturePond$Animal" "registers" "[B" "CreaturePond", Cond.fieldLinkNest "CreaturePond$Mind" 71 "CreaturePond$Animal" "memory" "[B" "CreaturePond", Cond.fieldLinkNest "CreaturePond" 167 "CreaturePond$Animal" "memory" "[B" "CreaturePond", Cond.fieldLinkNest "CreaturePond$Breeding" 122 "CreaturePond$Animal" "genes" "[B" "CreaturePond", Cond.fieldLinkNest "CreaturePond" 164 "CreaturePond$Animal" "genes" "[B" "CreaturePond", Cond.fieldLinkNest "CreaturePond$Mind" 21 "CreaturePond$Animal" "lives" "Z" "CreaturePond", Cond.fieldLinkNest "CreaturePond$Breeding" 29 "CreaturePond$Animal" "lives" "Z" "CreaturePond", Cond.fieldLinkNest "CreaturePond$Pond" 79 "CreaturePond$Animal" "lives" "Z" "CreaturePond", Cond.fieldLinkNest "CreaturePond$Mind" 31 "CreaturePond$Animal" "asked" "Z" "CreaturePond", Cond.fieldLinkNest "CreaturePond$Breeding" 35 "CreaturePond$Animal" "asked" "Z" "CreaturePond", Cond.fieldLinkNest "CreaturePond$Pond" 73 "CreaturePond$Animal" "home" "I" "CreaturePond", Cond.fieldLinkNest "CreaturePond$Breeding" 46 "CreaturePond$Animal" "home" "I" "CreaturePond", Cond.fieldLinkNest "CreaturePond$Mind" 119 "CreaturePond$Animal" "home" "I" "CreaturePond", Cond.fieldLinkNest "CreaturePond" 144 "CreaturePond$Animal" "home" "I" "CreaturePond", Cond.fieldLinkNest "CreaturePond$Pond" 76 "CreaturePond$Animal" "heading" "I" "CreaturePond", Cond.fieldLinkNest "CreaturePond$Breeding" 60 "CreaturePond$Animal" "heading" "I" "CreaturePond", Cond.fieldLinkNest "CreaturePond$Mind" 110 "CreaturePond$Animal" "heading" "I" "CreaturePond", Cond.fieldLinkNest "CreaturePond$Mind" 42 "CreaturePond$Animal" "energy" "I" "CreaturePond", Cond.fieldLinkNest "CreaturePond$Breeding" 57 "CreaturePond$Animal" "energy" "I" "CreaturePond", Cond.fieldLinkNest "CreaturePond$Pond" 83 "CreaturePond$Animal" "energy" "I" "CreaturePond", Cond.fieldLinkNest "CreaturePond$Mind" 34 "CreaturePond$Animal" "age" "I" "CreaturePond", Cond.fieldLinkNest "CreaturePond$Pond" 97 "CreaturePond$Animal" "age" "I" "CreaturePond", Cond.fieldLinkNest "CreaturePond$Mind" 45 "CreaturePond$Animal" "length" "I" "CreaturePond", Cond.fieldLinkNest "CreaturePond" 106 "CreaturePond$Animal" "length" "I" "CreaturePond", Cond.fieldLinkNest "CreaturePond$Breeding" 112 "CreaturePond$Animal" "length" "I" "CreaturePond", Cond.fieldLinkNest "CreaturePond$Mind" 56 "CreaturePond$Animal" "place" "I" "CreaturePond", Cond.fieldLinkNest "CreaturePond$Breeding" 70 "CreaturePond$Animal" "firstParent" "I" "CreaturePond", Cond.fieldLinkNest "CreaturePond$Breeding" 73 "CreaturePond$Animal" "secondParent" "I" "CreaturePond", Cond.fieldLinkNest "CreaturePond$Breeding" 76 "CreaturePond$Animal" "generation" "I" "CreaturePond", Cond.fieldLinkNest "CreaturePond$Breeding" 96 "CreaturePond$Pond" "shape" "LCreaturePond$Shape;" "CreaturePond", Cond.fieldLinkNest "CreaturePond" 66 "CreaturePond$Pond" "grains" "[I" "CreaturePond", Cond.fieldLinkNest "CreaturePond$Mind" 104 "CreaturePond$Pond" "grains" "[I" "CreaturePond", Cond.fieldLinkNest "CreaturePond" 137 "CreaturePond$Pond" "marks" "[B" "CreaturePond", Cond.fieldLinkNest "CreaturePond$Mind" 107 "CreaturePond$Pond" "marks" "[B" "CreaturePond", Cond.fieldLinkNest "CreaturePond$Breeding" 38 "CreaturePond$Pond" "dwellers" "[I" "CreaturePond", Cond.fieldLinkNest "CreaturePond" 84 "CreaturePond$Pond" "dwellers" "[I" "CreaturePond", Cond.fieldLinkNest "CreaturePond$Mind" 101 "CreaturePond$Pond" "dwellers" "[I" "CreaturePond", Cond.fieldLinkNest "CreaturePond$Mind" 15 "CreaturePond$Pond" "animals" "[LCreaturePond$Animal;" "CreaturePond", Cond.fieldLinkNest "CreaturePond$Breeding" 23 "CreaturePond$Pond" "animals" "[LCreaturePond$Animal;" "CreaturePond", Cond.fieldLinkNest "CreaturePond" 102 "CreaturePond$Pond" "animals" "[LCreaturePond$Animal;" "CreaturePond", Cond.fieldLinkNest "CreaturePond" 62 "CreaturePond$Pond" "stored" "I" "CreaturePond", Cond.fieldLinkNest "CreaturePond" 55 "CreaturePond$Pond" "sun" "I" "CreaturePond", Cond.fieldLinkNest "CreaturePond" 59 "CreaturePond$Pond" "stream" "I" "CreaturePond", Cond.fieldLinkNest "CreaturePond" 182 "CreaturePond$Pond" "turn" "I" "CreaturePond", Cond.fieldLinkNest "CreaturePond$Breeding" 93 "CreaturePond$Pond" "births" "I" "CreaturePond", Cond.fieldLinkNest "CreaturePond" 176 "CreaturePond$Pond" "births" "I" "CreaturePond", Cond.fieldLinkNest "CreaturePond" 179 "CreaturePond$Pond" "deaths" "I" "CreaturePond", Cond.fieldLinkNest "CreaturePond" 131 "CreaturePond$Pond" "ticks" "I" "CreaturePond", Cond.methodLinkNest "CreaturePond" 41 yX3_init "CreaturePond", Cond.methodLinkNest "CreaturePond" 50 yX2_init "CreaturePond", Cond.methodLinkNest "CreaturePond" 70 yX5_cellAt "CreaturePond", Cond.methodLinkNest "CreaturePond" 96 yX4_has "CreaturePond", Cond.methodLinkNest "CreaturePond" 147 yX5_columnOf "CreaturePond", Cond.methodLinkNest "CreaturePond" 151 yX5_rowOf "CreaturePond", Cond.methodLinkNest "CreaturePond" 154 yX1_trait "CreaturePond", Cond.methodLinkNest "CreaturePond" 170 yX4_energyOfAll "CreaturePond", Cond.methodLinkNest "CreaturePond" 173 yX4_grainOfAll "CreaturePond", Cond.methodLinkNest "CreaturePond" 134 yX4_countAnimals "CreaturePond", Cond.methodLinkNest "CreaturePond" 185 yX4_copyFrom "CreaturePond", Cond.methodLinkNest "CreaturePond$Pond" 45 yX1_copyFrom "CreaturePond", Cond.methodLinkNest "CreaturePond" 80 yX4_freeNumber "CreaturePond", Cond.methodLinkNest "CreaturePond" 92 yX4_settle "CreaturePond", Cond.methodLinkNest "CreaturePond$Pond" 86 yX1_begin "CreaturePond", Cond.methodLinkNest "CreaturePond" 113 yX1_grow "CreaturePond", Cond.methodLinkNest "CreaturePond" 119 yX4_shine "CreaturePond", Cond.methodLinkNest "CreaturePond" 122 yX3_moveAll "CreaturePond", Cond.methodLinkNest "CreaturePond$Mind" 38 yX4_pay "CreaturePond", Cond.methodLinkNest "CreaturePond$Mind" 52 yX1_geneBehindPlace "CreaturePond", Cond.methodLinkNest "CreaturePond$Mind" 63 yX1_wrapped "CreaturePond", Cond.methodLinkNest "CreaturePond$Mind" 97 yX4_aheadOf "CreaturePond", Cond.methodLinkNest "CreaturePond" 125 yX2_breedAll "CreaturePond", Cond.methodLinkNest "CreaturePond$Breeding" 42 yX4_aheadOf "CreaturePond", Cond.methodLinkNest "CreaturePond$Breeding" 100 yX5_nextTo "CreaturePond", Cond.methodLinkNest "CreaturePond$Breeding" 53 yX4_freeNumber "CreaturePond", Cond.methodLinkNest "CreaturePond$Breeding" 105 yX4_pay "CreaturePond", Cond.methodLinkNest "CreaturePond$Breeding" 66 yX4_settle "CreaturePond", Cond.methodLinkNest "CreaturePond$Breeding" 109 yX4_nextNumber "CreaturePond", Cond.methodLinkNest "CreaturePond$Breeding" 126 yX1_grow "CreaturePond", Cond.methodLinkNest "CreaturePond$Breeding" 130 yX1_wrapped "CreaturePond", Cond.methodLinkNest "CreaturePond" 128 yX4_endDead "CreaturePond", Cond.methodLinkNest "CreaturePond" 194 yX4_firstOther "CreaturePond"]
end
section
/-! The world of the claim in one layout: places 0 .. N - 1, each an object or an array; 'ad' their addresses, 'sh' their shapes (an array: kind, length, places its references name; an object: number of its class, its fields: none an int, some none a null, some (some t) a reference to place t), 'ca' the array classes by kind (0 int, 1 byte, 2 Animal, 3 long). The ints of the world are ONE function of place and index, D. -/
abbrev cp_Sh : Type := (Nat × Nat × (Nat → Option Nat)) ⊕ (Nat × List (Option (Option Nat)))
abbrev cp_Lay : Type := Nat × (Nat → Nat) × (Nat → cp_Sh) × (Nat → ClassId)
abbrev cp_Dt : Type := Nat → Nat → Int32
def cp_fv (ad : Nat → Nat) (g : Nat → Int32) (j : Nat) (o : Option (Option Nat)) : Value := match o with
  | none => .int (g j)
  | some r => va_rf (r.map ad)
def cp_ac (ad : Nat → Nat) (g : Nat → Int32) (t n : Nat) (tg : Nat → Option Nat) : vp_A := (n, if t = 2 then .inr (.inr (.inr (.inr (fun i => (tg i).map ad)))) else if t = 3 then .inr (.inl (fun i => (g i).toInt64)) else .inl g)
def cp_ce (L : cp_Lay) (D : cp_Dt) (k : Nat) : va_E := match L.2.2.1 k with
  | .inl a => .inl (L.2.2.2 a.1, cp_ac L.2.1 (D k) a.1 a.2.1 a.2.2)
  | .inr o => .inr (o.1, o.2.mapIdx (cp_fv L.2.1 (D k)))
def cp_ws (L : cp_Lay) (D : cp_Dt) : va_W := (List.range L.1).map (fun k => (L.2.1 k, cp_ce L D k))
def cp_up (D : cp_Dt) (k j : Nat) (v : Int32) : cp_Dt := fun k' => if k' = k then upd (D k) j v else D k'
def cp_upA (D : cp_Dt) (k : Nat) (f : Nat → Int32) : cp_Dt := fun k' => if k' = k then f else D k'
theorem cp_bind {α β : Type} {x : Option α} {f : α → Option β} {r : β} (h : x.bind f = some r) : ∃ v, x = some v ∧ f v = some r := by
  cases x with
  | none => cases h
  | some v => exact ⟨v, rfl, h⟩
theorem cp_ws_get {L : cp_Lay} {D : cp_Dt} {k : Nat} (h : k < L.1) : (cp_ws L D)[k]? = some (L.2.1 k, cp_ce L D k) := by
  simp [cp_ws, h]
theorem cp_ws_inv {L : cp_Lay} {D : cp_Dt} {k : Nat} {q : Nat × va_E} (h : (cp_ws L D)[k]? = some q) : k < L.1 ∧ q = (L.2.1 k, cp_ce L D k) := by
  by_cases hk : k < L.1
  · rw [cp_ws_get hk] at h
    exact ⟨hk, (Option.some.inj h).symm⟩
  · rw [List.getElem?_eq_none (by simp [cp_ws]; omega)] at h
    cases h
theorem cp_ws_set {L : cp_Lay} {D D' : cp_Dt} {k : Nat} {e : va_E} (he : cp_ce L D' k = e) (ho : ∀ j, j ≠ k → D' j = D j) : (cp_ws L D).set k (L.2.1 k, e) = cp_ws L D' := by
  apply List.ext_getElem?
  intro i
  by_cases hi : i < L.1
  · rw [cp_ws_get hi]
    by_cases hk : i = k
    · subst hk
      rw [List.getElem?_set_self (by simp [cp_ws]; exact hi), he]
    · rw [List.getElem?_set_ne (fun h => hk h.symm), cp_ws_get hi]
      unfold cp_ce
      rw [ho i hk]
  · rw [List.getElem?_eq_none (by simp [cp_ws]; omega), List.getElem?_eq_none (by simp [cp_ws]; omega)]
theorem cp_up_ne {D : cp_Dt} {k j i : Nat} {v : Int32} (h : j ≠ k) : cp_up D k i v j = D j := if_neg h
theorem cp_up_eq {D : cp_Dt} {k i : Nat} {v : Int32} : cp_up D k i v k = upd (D k) i v := if_pos rfl
theorem cp_upA_ne {D : cp_Dt} {k j : Nat} {f : Nat → Int32} (h : j ≠ k) : cp_upA D k f j = D j := if_neg h
theorem cp_upA_eq {D : cp_Dt} {k : Nat} {f : Nat → Int32} : cp_upA D k f k = f := if_pos rfl
/-- what a read or a write asks of the layout, as functions that answer none where it isn't so -/
def cp_fl (L : cp_Lay) (k ci : Nat) : Option (List (Option (Option Nat))) := if k < L.1 then (match L.2.2.1 k with
  | .inr o => if o.1 = ci then some o.2 else none
  | .inl _ => none) else none
def cp_ar (L : cp_Lay) (k t : Nat) : Option (Nat × (Nat → Option Nat)) := if k < L.1 then (match L.2.2.1 k with
  | .inl a => if a.1 = t then some a.2 else none
  | .inr _ => none) else none
def cp_gI (L : cp_Lay) (D : cp_Dt) (k ci j : Nat) : Option Int32 := (cp_fl L k ci).bind fun fl => if fl[j]? = some none then some (D k j) else none
def cp_gR (L : cp_Lay) (k ci j : Nat) : Option Nat := (cp_fl L k ci).bind fun fl => ((fl[j]?).bind id).bind id
def cp_pI (L : cp_Lay) (D : cp_Dt) (k ci j : Nat) (v : Int32) : Option cp_Dt := (cp_fl L k ci).bind fun fl => if fl[j]? = some none then some (cp_up D k j v) else none
def cp_pZ (L : cp_Lay) (D : cp_Dt) (k ci j : Nat) (v : Int32) : Option cp_Dt := if v = 0 ∨ v = 1 then cp_pI L D k ci j v else none
def cp_aI (L : cp_Lay) (D : cp_Dt) (t k : Nat) (i : Int32) : Option Int32 := (cp_ar L k t).bind fun a => if i < 0 ∨ a.1 ≤ i.toNatClampNeg then none else some (D k i.toNatClampNeg)
def cp_aS (L : cp_Lay) (D : cp_Dt) (t k : Nat) (i x : Int32) : Option cp_Dt := (cp_ar L k t).bind fun a => if i < 0 ∨ a.1 ≤ i.toNatClampNeg then none else some (cp_up D k i.toNatClampNeg x)
def cp_aR (L : cp_Lay) (k : Nat) (i : Int32) : Option Nat := (cp_ar L k 2).bind fun a => if i < 0 ∨ a.1 ≤ i.toNatClampNeg then none else a.2 i.toNatClampNeg
def cp_aL (L : cp_Lay) (t k : Nat) : Option Int32 := (cp_ar L k t).bind fun a => some (Int32.ofNat a.1)
def cp_tb (N : Nat) (f : Nat → Int32) (i : Int32) : Option Int32 := if i < 0 ∨ N ≤ i.toNatClampNeg then none else some (f i.toNatClampNeg)
def cp_nz (y : Int32) : Option Unit := if y = 0 then none else some ()
def cp_g01 (v : Int32) : Option Unit := if v = 0 ∨ v = 1 then some () else none
def cp_gby (v : Int32) : Option Unit := if v.toInt8.toInt32 = v then some () else none
def cp_mn (x y : Int32) : Int32 := if y < x then y else x
def cp_mx (x y : Int32) : Int32 := if x < y then y else x
/-- arraycopy of ints or bytes between two arrays of kind t -/
def cp_cp (L : cp_Lay) (D : cp_Dt) (t k0 : Nat) (sp : Int32) (k1 : Nat) (dp n : Int32) : Option cp_Dt := (cp_ar L k0 t).bind fun a => (cp_ar L k1 t).bind fun b =>
  if sp < 0 ∨ dp < 0 ∨ n < 0 ∨ a.1 < sp.toNatClampNeg + n.toNatClampNeg ∨ b.1 < dp.toNatClampNeg + n.toNatClampNeg then none
  else if t = 1 ∧ (List.range n.toNatClampNeg).all (fun i => fits .byte (.int (D k0 (sp.toNatClampNeg + i)))) = false then none
  else some (cp_upA D k1 (va_cpy (D k0) (D k1) sp.toNatClampNeg dp.toNatClampNeg n.toNatClampNeg))
theorem cp_nz_ne {y : Int32} {u : Unit} (h : cp_nz y = some u) : ¬ y = 0 := by
  intro hy
  rw [cp_nz, if_pos hy] at h
  cases h
theorem cp_fl_spec {L : cp_Lay} {k ci : Nat} {fl : List (Option (Option Nat))} (h : cp_fl L k ci = some fl) : k < L.1 ∧ L.2.2.1 k = .inr (ci, fl) := by
  unfold cp_fl at h
  by_cases hk : k < L.1
  · rw [if_pos hk] at h
    refine ⟨hk, ?_⟩
    cases hs : L.2.2.1 k with
    | inl a => rw [hs] at h; cases h
    | inr o =>
      rw [hs] at h
      obtain ⟨c, f⟩ := o
      dsimp only at h
      by_cases hc : c = ci
      · rw [if_pos hc] at h
        cases h
        rw [hc]
      · rw [if_neg hc] at h
        cases h
  · rw [if_neg hk] at h
    cases h
theorem cp_ar_spec {L : cp_Lay} {k t : Nat} {a : Nat × (Nat → Option Nat)} (h : cp_ar L k t = some a) : k < L.1 ∧ L.2.2.1 k = .inl (t, a) := by
  unfold cp_ar at h
  by_cases hk : k < L.1
  · rw [if_pos hk] at h
    refine ⟨hk, ?_⟩
    cases hs : L.2.2.1 k with
    | inr o => rw [hs] at h; cases h
    | inl o =>
      rw [hs] at h
      obtain ⟨c, f⟩ := o
      dsimp only at h
      by_cases hc : c = t
      · rw [if_pos hc] at h
        cases h
        rw [hc]
      · rw [if_neg hc] at h
        cases h
  · rw [if_neg hk] at h
    cases h
theorem cp_fl_cell {L : cp_Lay} {D : cp_Dt} {k ci : Nat} {fl : List (Option (Option Nat))} (h : cp_fl L k ci = some fl) : (cp_ws L D)[k]? = some (L.2.1 k, .inr (ci, fl.mapIdx (cp_fv L.2.1 (D k)))) := by
  obtain ⟨hk, hs⟩ := cp_fl_spec h
  rw [cp_ws_get hk]
  unfold cp_ce
  rw [hs]
theorem cp_ar_cell {L : cp_Lay} {D : cp_Dt} {k t : Nat} {a : Nat × (Nat → Option Nat)} (h : cp_ar L k t = some a) : (cp_ws L D)[k]? = some (L.2.1 k, .inl (L.2.2.2 t, cp_ac L.2.1 (D k) t a.1 a.2)) := by
  obtain ⟨hk, hs⟩ := cp_ar_spec h
  rw [cp_ws_get hk]
  unfold cp_ce
  rw [hs]
theorem cp_gI_spec {L : cp_Lay} {D : cp_Dt} {k ci j : Nat} {v : Int32} (h : cp_gI L D k ci j = some v) : ∃ fl, cp_fl L k ci = some fl ∧ (fl.mapIdx (cp_fv L.2.1 (D k)))[j]? = some (.int v) := by
  obtain ⟨fl, h1, h2⟩ := cp_bind h
  refine ⟨fl, h1, ?_⟩
  by_cases hj : fl[j]? = some none
  · rw [if_pos hj] at h2
    cases h2
    rw [List.getElem?_mapIdx, hj]
    rfl
  · rw [if_neg hj] at h2
    cases h2
theorem cp_gR_spec {L : cp_Lay} {D : cp_Dt} {k ci j t : Nat} (h : cp_gR L k ci j = some t) : ∃ fl, cp_fl L k ci = some fl ∧ (fl.mapIdx (cp_fv L.2.1 (D k)))[j]? = some (.ref (L.2.1 t)) := by
  obtain ⟨fl, h1, h2⟩ := cp_bind h
  refine ⟨fl, h1, ?_⟩
  obtain ⟨o, h3, h4⟩ := cp_bind h2
  obtain ⟨o1, h5, h6⟩ := cp_bind h3
  rw [List.getElem?_mapIdx, h5]
  cases h6
  cases h4
  rfl
theorem cp_pI_spec {L : cp_Lay} {D D' : cp_Dt} {k ci j : Nat} {v : Int32} (h : cp_pI L D k ci j v = some D') : ∃ fl, cp_fl L k ci = some fl ∧ j < (fl.mapIdx (cp_fv L.2.1 (D k))).length ∧ (cp_ws L D).set k (L.2.1 k, .inr (ci, (fl.mapIdx (cp_fv L.2.1 (D k))).set j (.int v))) = cp_ws L D' := by
  obtain ⟨fl, h1, h2⟩ := cp_bind h
  by_cases hj : fl[j]? = some none
  · rw [if_pos hj] at h2
    cases h2
    have hl : j < fl.length := (List.getElem?_eq_some_iff.mp hj).1
    refine ⟨fl, h1, by simpa using hl, cp_ws_set ?_ (fun i hi => cp_up_ne hi)⟩
    obtain ⟨hk, hs⟩ := cp_fl_spec h1
    unfold cp_ce
    rw [hs]
    dsimp only
    congr 2
    apply List.ext_getElem?
    intro i
    rw [List.getElem?_mapIdx, cp_up_eq]
    by_cases hi : i = j
    · subst hi
      rw [hj, List.getElem?_set_self (by simpa using hl)]
      simp [cp_fv, upd]
    · rw [List.getElem?_set_ne (fun q => hi q.symm), List.getElem?_mapIdx]
      congr 1
      funext o
      cases o with
      | none => simp [cp_fv, upd, hi]
      | some t => rfl
  · rw [if_neg hj] at h2
    cases h2
end
section
/-! The kit's rows, said of the one layout -/
def cp_A (L : cp_Lay) : Nat → Prop := fun q => ∃ k, k < L.1 ∧ L.2.1 k = q
def cp_J (L : cp_Lay) : Prop := ∀ i j, i < L.1 → j < L.1 → L.2.1 i = L.2.1 j → i = j
def cp_tys (L : cp_Lay) : List (ClassId × FieldType) := [(L.2.2.2 0, .int), (L.2.2.2 1, .byte), (L.2.2.2 2, .object "CreaturePond$Animal"), (L.2.2.2 3, .long)]
theorem cp_D {L : cp_Lay} (hJ : cp_J L) (D : cp_Dt) : va_D (cp_A L) (cp_ws L D) := by
  refine ⟨fun i j x y hi hj hxy => ?_, fun k q hk => ?_⟩
  · obtain ⟨i1, rfl⟩ := cp_ws_inv hi
    obtain ⟨j1, rfl⟩ := cp_ws_inv hj
    exact hJ i j i1 j1 hxy
  · obtain ⟨k1, rfl⟩ := cp_ws_inv hk
    exact ⟨k, k1, rfl⟩
section CPR
variable {p : Program} {l : Launch} {e : Env} {R : Room} {s : State} {m : MethodId} {args : Array Value} {below : List Frame} {meth : Method} {c : Code} {H : Heap} {locs : List Loc} {cells slots : Nat} {Q : State → Prop}
variable {cc : ByteArray} {pc : Nat} {ls : Array Slot} {rest : List Value} {G : va_G} {cl : List vw_C} {tys : List (ClassId × FieldType)} {H0 : Heap} {L : cp_Lay} {D : cp_Dt}
theorem cp_getI (hx : p.tables.exec = Jvm.exec) (hb : c.code = cc) {own ref C : String} {T : u_T} {N ci index k j : Nat} {Ts : List Cond} (hts : ∀ w ∈ Ts, w.before args s = true) (hin : ∀ w ∈ u_ws C T N, w ∈ Ts) (hown : s.vm.findClass own = some m.cls) (hK : va_K G cl tys s) (hP : va_P G cl (cp_ws L D) H) (hc : cl[ci]? = some (C, T, N)) (hj : j < N) (href : (T j).1 = ref) (hlink : (Cond.fieldLink own index ref (T j).2.1 (T j).2.2.1).before args s = true) {v : Int32} (hv : cp_gI L D k ci j = some v) (hdg : decode cc pc = .ok (.getfield index, 3))
    (kk : W p l e R s m args below meth c H locs cells slots Q (F0 m (pc + 3) ls (.int v :: rest))) : W p l e R s m args below meth c H locs cells slots Q (F0 m pc ls (.ref (L.2.1 k) :: rest)) := by
  obtain ⟨fl, h1, h2⟩ := cp_gI_spec hv
  exact va_get hx hb hts hin hown hK hP k (cp_fl_cell h1) hc j hj hlink (fun x h => by rw [← href]; exact h) h2 hdg kk
theorem cp_getIN (hx : p.tables.exec = Jvm.exec) (hb : c.code = cc) {own ref C host : String} {T : u_T} {N ci index k j : Nat} {Ts : List Cond} (hts : ∀ w ∈ Ts, w.before args s = true) (hin : ∀ w ∈ u_ws C T N, w ∈ Ts) (hown : s.vm.findClass own = some m.cls) (hK : va_K G cl tys s) (hP : va_P G cl (cp_ws L D) H) (hc : cl[ci]? = some (C, T, N)) (hj : j < N) (href : (T j).1 = ref) (hlink : va_Nw (.fieldLinkNest own index ref (T j).2.1 (T j).2.2.1 host) s) {v : Int32} (hv : cp_gI L D k ci j = some v) (hdg : decode cc pc = .ok (.getfield index, 3))
    (kk : W p l e R s m args below meth c H locs cells slots Q (F0 m (pc + 3) ls (.int v :: rest))) : W p l e R s m args below meth c H locs cells slots Q (F0 m pc ls (.ref (L.2.1 k) :: rest)) := by
  obtain ⟨fl, h1, h2⟩ := cp_gI_spec hv
  exact va_getN hx hb hts hin hown hK hP k (cp_fl_cell h1) hc j hj (va_Nw.use rfl hlink) (fun x h => by rw [← href]; exact h) h2 hdg kk
theorem cp_getR (hx : p.tables.exec = Jvm.exec) (hb : c.code = cc) {own ref C : String} {T : u_T} {N ci index k j : Nat} {Ts : List Cond} (hts : ∀ w ∈ Ts, w.before args s = true) (hin : ∀ w ∈ u_ws C T N, w ∈ Ts) (hown : s.vm.findClass own = some m.cls) (hK : va_K G cl tys s) (hP : va_P G cl (cp_ws L D) H) (hc : cl[ci]? = some (C, T, N)) (hj : j < N) (href : (T j).1 = ref) (hlink : (Cond.fieldLink own index ref (T j).2.1 (T j).2.2.1).before args s = true) {v : Nat} (hv : cp_gR L k ci j = some v) (hdg : decode cc pc = .ok (.getfield index, 3))
    (kk : W p l e R s m args below meth c H locs cells slots Q (F0 m (pc + 3) ls (.ref (L.2.1 v) :: rest))) : W p l e R s m args below meth c H locs cells slots Q (F0 m pc ls (.ref (L.2.1 k) :: rest)) := by
  obtain ⟨fl, h1, h2⟩ := cp_gR_spec (D := D) hv
  exact va_get hx hb hts hin hown hK hP k (cp_fl_cell h1) hc j hj hlink (fun x h => by rw [← href]; exact h) h2 hdg kk
theorem cp_getRN (hx : p.tables.exec = Jvm.exec) (hb : c.code = cc) {own ref C host : String} {T : u_T} {N ci index k j : Nat} {Ts : List Cond} (hts : ∀ w ∈ Ts, w.before args s = true) (hin : ∀ w ∈ u_ws C T N, w ∈ Ts) (hown : s.vm.findClass own = some m.cls) (hK : va_K G cl tys s) (hP : va_P G cl (cp_ws L D) H) (hc : cl[ci]? = some (C, T, N)) (hj : j < N) (href : (T j).1 = ref) (hlink : va_Nw (.fieldLinkNest own index ref (T j).2.1 (T j).2.2.1 host) s) {v : Nat} (hv : cp_gR L k ci j = some v) (hdg : decode cc pc = .ok (.getfield index, 3))
    (kk : W p l e R s m args below meth c H locs cells slots Q (F0 m (pc + 3) ls (.ref (L.2.1 v) :: rest))) : W p l e R s m args below meth c H locs cells slots Q (F0 m pc ls (.ref (L.2.1 k) :: rest)) := by
  obtain ⟨fl, h1, h2⟩ := cp_gR_spec (D := D) hv
  exact va_getN hx hb hts hin hown hK hP k (cp_fl_cell h1) hc j hj (va_Nw.use rfl hlink) (fun x h => by rw [← href]; exact h) h2 hdg kk
theorem cp_put (hx : p.tables.exec = Jvm.exec) (hb : c.code = cc) {own ref C : String} {T : u_T} {N ci index k j : Nat} {Ts : List Cond} (hts : ∀ w ∈ Ts, w.before args s = true) (hin : ∀ w ∈ u_ws C T N, w ∈ Ts) (ty0 : Nat → FieldType) (hty : ∀ k, k < N → parseFieldDescriptor (T k).2.2.1 = some (ty0 k)) (hnm : ∀ a, a < N → ∀ b, b < N → a ≠ b → (T a).2.1 ≠ (T b).2.1) (hown : s.vm.findClass own = some m.cls) (hK : va_K G cl tys s) (hJ : cp_J L) (hP : va_P G cl (cp_ws L D) H) (hS : va_S (cp_A L) H0 H locs) (hc : cl[ci]? = some (C, T, N)) (hj : j < N) (href : (T j).1 = ref) (hlink : (Cond.fieldLink own index ref (T j).2.1 (T j).2.2.1).before args s = true) (hfin : (T j).2.2.2 = false) {v : Int32} (hn : narrow (ty0 j) (.int v) = .int v) (hfit : fits (ty0 j) (.int v) = true) {D' : cp_Dt} (hv : cp_pI L D k ci j v = some D') (hdg : decode cc pc = .ok (.putfield index, 3))
    (kk : ∀ (H1 : Heap) (locs1 : List Loc), va_P G cl (cp_ws L D') H1 → va_S (cp_A L) H0 H1 locs1 → W p l e R s m args below meth c H1 locs1 cells slots Q (F0 m (pc + 3) ls rest)) : W p l e R s m args below meth c H locs cells slots Q (F0 m pc ls (.int v :: .ref (L.2.1 k) :: rest)) := by
  obtain ⟨fl, h1, h2, h3⟩ := cp_pI_spec hv
  exact va_put hx hb hts hin ty0 hty hnm hown hK hP (cp_D hJ D) hS k (cp_fl_cell h1) hc j hj hlink (fun x h => by rw [← href]; exact h) hfin (hty j hj) hn hfit h2 hdg (fun H1 locs1 p1 _ s1 => kk H1 locs1 (h3 ▸ p1) s1)
theorem cp_putN (hx : p.tables.exec = Jvm.exec) (hb : c.code = cc) {own ref C host : String} {T : u_T} {N ci index k j : Nat} {Ts : List Cond} (hts : ∀ w ∈ Ts, w.before args s = true) (hin : ∀ w ∈ u_ws C T N, w ∈ Ts) (ty0 : Nat → FieldType) (hty : ∀ k, k < N → parseFieldDescriptor (T k).2.2.1 = some (ty0 k)) (hnm : ∀ a, a < N → ∀ b, b < N → a ≠ b → (T a).2.1 ≠ (T b).2.1) (hown : s.vm.findClass own = some m.cls) (hK : va_K G cl tys s) (hJ : cp_J L) (hP : va_P G cl (cp_ws L D) H) (hS : va_S (cp_A L) H0 H locs) (hc : cl[ci]? = some (C, T, N)) (hj : j < N) (href : (T j).1 = ref) (hlink : va_Nw (.fieldLinkNest own index ref (T j).2.1 (T j).2.2.1 host) s) (hfin : (T j).2.2.2 = false) {v : Int32} (hn : narrow (ty0 j) (.int v) = .int v) (hfit : fits (ty0 j) (.int v) = true) {D' : cp_Dt} (hv : cp_pI L D k ci j v = some D') (hdg : decode cc pc = .ok (.putfield index, 3))
    (kk : ∀ (H1 : Heap) (locs1 : List Loc), va_P G cl (cp_ws L D') H1 → va_S (cp_A L) H0 H1 locs1 → W p l e R s m args below meth c H1 locs1 cells slots Q (F0 m (pc + 3) ls rest)) : W p l e R s m args below meth c H locs cells slots Q (F0 m pc ls (.int v :: .ref (L.2.1 k) :: rest)) := by
  obtain ⟨fl, h1, h2, h3⟩ := cp_pI_spec hv
  exact va_putN hx hb hts hin ty0 hty hnm hown hK hP (cp_D hJ D) hS k (cp_fl_cell h1) hc j hj (va_Nw.use rfl hlink) (fun x h => by rw [← href]; exact h) hfin (hty j hj) hn hfit h2 hdg (fun H1 locs1 p1 _ s1 => kk H1 locs1 (h3 ▸ p1) s1)
theorem cp_pZ_spec {k ci j : Nat} {v : Int32} {D' : cp_Dt} (h : cp_pZ L D k ci j v = some D') : cp_pI L D k ci j v = some D' ∧ narrow .boolean (.int v) = .int v ∧ fits .boolean (.int v) = true := by
  unfold cp_pZ at h
  by_cases hv : v = 0 ∨ v = 1
  · rw [if_pos hv] at h
    rcases hv with rfl | rfl
    · exact ⟨h, by decide, by decide⟩
    · exact ⟨h, by decide, by decide⟩
  · rw [if_neg hv] at h
    cases h
theorem cp_in {i : Int32} {n : Nat} {α : Type} {x : Option α} {r : α} (h : (if i < 0 ∨ n ≤ i.toNatClampNeg then none else x) = some r) : vp_in i n ∧ x = some r := by
  by_cases hi : i < 0 ∨ n ≤ i.toNatClampNeg
  · rw [if_pos hi] at h
    cases h
  · rw [if_neg hi] at h
    exact ⟨hi, h⟩
theorem cp_cell0 {k : Nat} {a : Nat × (Nat → Option Nat)} (h : cp_ar L k 0 = some a) : (cp_ws L D)[k]? = some (L.2.1 k, .inl (L.2.2.2 0, a.1, .inl (D k))) := cp_ar_cell h
theorem cp_cell1 {k : Nat} {a : Nat × (Nat → Option Nat)} (h : cp_ar L k 1 = some a) : (cp_ws L D)[k]? = some (L.2.1 k, .inl (L.2.2.2 1, a.1, .inl (D k))) := cp_ar_cell h
theorem cp_cell2 {k : Nat} {a : Nat × (Nat → Option Nat)} (h : cp_ar L k 2 = some a) : (cp_ws L D)[k]? = some (L.2.1 k, .inl (L.2.2.2 2, a.1, .inr (.inr (.inr (.inr (fun i => (a.2 i).map L.2.1)))))) := cp_ar_cell h
theorem cp_cell3 {k : Nat} {a : Nat × (Nat → Option Nat)} (h : cp_ar L k 3 = some a) : (cp_ws L D)[k]? = some (L.2.1 k, .inl (L.2.2.2 3, a.1, .inr (.inl (fun i => (D k i).toInt64)))) := cp_ar_cell h
theorem cp_iald (hx : p.tables.exec = Jvm.exec) (hb : c.code = cc) (hK : va_K G cl (cp_tys L) s) (hP : va_P G cl (cp_ws L D) H) {k : Nat} {i v : Int32} (hv : cp_aI L D 0 k i = some v) (hdg : decode cc pc = .ok (.iaload, 1))
    (kk : W p l e R s m args below meth c H locs cells slots Q (F0 m (pc + 1) ls (.int v :: rest))) : W p l e R s m args below meth c H locs cells slots Q (F0 m pc ls (.int i :: .ref (L.2.1 k) :: rest)) := by
  obtain ⟨a, h1, h2⟩ := cp_bind hv
  obtain ⟨h3, h5⟩ := cp_in h2
  cases h5
  exact va_iald hx hb hK hP k 0 (cp_cell0 h1) rfl h3 hdg kk
theorem cp_bald (hx : p.tables.exec = Jvm.exec) (hb : c.code = cc) (hK : va_K G cl (cp_tys L) s) (hP : va_P G cl (cp_ws L D) H) {k : Nat} {i v : Int32} (hv : cp_aI L D 1 k i = some v) (hdg : decode cc pc = .ok (.baload, 1))
    (kk : W p l e R s m args below meth c H locs cells slots Q (F0 m (pc + 1) ls (.int v :: rest))) : W p l e R s m args below meth c H locs cells slots Q (F0 m pc ls (.int i :: .ref (L.2.1 k) :: rest)) := by
  obtain ⟨a, h1, h2⟩ := cp_bind hv
  obtain ⟨h3, h5⟩ := cp_in h2
  cases h5
  exact va_bald hx hb hK hP k 1 (cp_cell1 h1) rfl h3 hdg kk
theorem cp_aald (hx : p.tables.exec = Jvm.exec) (hb : c.code = cc) (hK : va_K G cl (cp_tys L) s) (hP : va_P G cl (cp_ws L D) H) {k : Nat} {i : Int32} {v : Nat} (hv : cp_aR L k i = some v) (hdg : decode cc pc = .ok (.aaload, 1))
    (kk : W p l e R s m args below meth c H locs cells slots Q (F0 m (pc + 1) ls (.ref (L.2.1 v) :: rest))) : W p l e R s m args below meth c H locs cells slots Q (F0 m pc ls (.int i :: .ref (L.2.1 k) :: rest)) := by
  obtain ⟨a, h1, h2⟩ := cp_bind hv
  obtain ⟨h3, h4⟩ := cp_in h2
  refine va_aldq hx hb hK hP k 2 (cp_cell2 h1) rfl h3 hdg ?_
  rw [h4]
  exact kk
theorem cp_iast (hx : p.tables.exec = Jvm.exec) (hb : c.code = cc) (hK : va_K G cl (cp_tys L) s) (hJ : cp_J L) (hP : va_P G cl (cp_ws L D) H) (hS : va_S (cp_A L) H0 H locs) {k : Nat} {i x : Int32} {D' : cp_Dt} (hv : cp_aS L D 0 k i x = some D') (hdg : decode cc pc = .ok (.iastore, 1))
    (kk : ∀ (H1 : Heap) (locs1 : List Loc), va_P G cl (cp_ws L D') H1 → va_S (cp_A L) H0 H1 locs1 → W p l e R s m args below meth c H1 locs1 cells slots Q (F0 m (pc + 1) ls rest)) : W p l e R s m args below meth c H locs cells slots Q (F0 m pc ls (.int x :: .int i :: .ref (L.2.1 k) :: rest)) := by
  obtain ⟨a, h1, h2⟩ := cp_bind hv
  obtain ⟨h3, h5⟩ := cp_in h2
  cases h5
  have h4 : (cp_ws L D).set k (L.2.1 k, .inl (L.2.2.2 0, a.1, .inl (upd (D k) i.toNatClampNeg x))) = cp_ws L (cp_up D k i.toNatClampNeg x) := by
    refine cp_ws_set ?_ (fun j hj => cp_up_ne hj)
    unfold cp_ce
    rw [(cp_ar_spec h1).2, cp_up_eq]
    rfl
  exact va_iast hx hb hK hP (cp_D hJ D) hS k 0 (cp_cell0 h1) rfl h3 hdg (fun H1 locs1 p1 _ s1 => kk H1 locs1 (h4 ▸ p1) s1)
theorem cp_bast (hx : p.tables.exec = Jvm.exec) (hb : c.code = cc) (hK : va_K G cl (cp_tys L) s) (hJ : cp_J L) (hP : va_P G cl (cp_ws L D) H) (hS : va_S (cp_A L) H0 H locs) {k : Nat} {i x : Int32} {D' : cp_Dt} (hv : cp_aS L D 1 k i x.toInt8.toInt32 = some D') (hdg : decode cc pc = .ok (.bastore, 1))
    (kk : ∀ (H1 : Heap) (locs1 : List Loc), va_P G cl (cp_ws L D') H1 → va_S (cp_A L) H0 H1 locs1 → W p l e R s m args below meth c H1 locs1 cells slots Q (F0 m (pc + 1) ls rest)) : W p l e R s m args below meth c H locs cells slots Q (F0 m pc ls (.int x :: .int i :: .ref (L.2.1 k) :: rest)) := by
  obtain ⟨a, h1, h2⟩ := cp_bind hv
  obtain ⟨h3, h5⟩ := cp_in h2
  cases h5
  have h4 : (cp_ws L D).set k (L.2.1 k, .inl (L.2.2.2 1, a.1, .inl (upd (D k) i.toNatClampNeg (vp_nar .byte x)))) = cp_ws L (cp_up D k i.toNatClampNeg x.toInt8.toInt32) := by
    refine cp_ws_set ?_ (fun j hj => cp_up_ne hj)
    unfold cp_ce
    rw [(cp_ar_spec h1).2, cp_up_eq, vp_nar_byte]
    rfl
  exact va_bast hx hb hK hP (cp_D hJ D) hS k 1 (cp_cell1 h1) rfl h3 hdg (fun H1 locs1 p1 _ s1 => kk H1 locs1 (h4 ▸ p1) s1)
theorem cp_alen0 (hx : p.tables.exec = Jvm.exec) (hb : c.code = cc) (hK : va_K G cl (cp_tys L) s) (hP : va_P G cl (cp_ws L D) H) {k : Nat} {v : Int32} (hv : cp_aL L 0 k = some v) (hdg : decode cc pc = .ok (.arraylength, 1))
    (kk : W p l e R s m args below meth c H locs cells slots Q (F0 m (pc + 1) ls (.int v :: rest))) : W p l e R s m args below meth c H locs cells slots Q (F0 m pc ls (.ref (L.2.1 k) :: rest)) := by
  obtain ⟨a, h1, h2⟩ := cp_bind hv
  exact va_alen hx hb hK hP k 0 (cp_cell0 h1) (ty := .int) rfl (Option.some.inj h2) hdg kk
end CPR
end
section
/-! What every method takes as given, what it leaves, and a call -/
def cp_isN : Cond → Bool
  | .fieldLinkNest .. => true
  | .methodLinkNest .. => true
  | _ => false
theorem cp_nw_ok : cp_nw.all cp_isN = true := by decide +kernel
def cp_N (nw : List Cond) (U : State) : Prop := ∀ w ∈ nw, va_Nw w U
theorem cp_N.warm {nw : List Cond} {s U : State} (hn : nw.all cp_isN = true) (hW : s.WarmedH U.vm) (h : cp_N nw s) : cp_N nw U := by
  intro w hw
  have h1 := List.all_eq_true.mp hn w hw
  have h2 := h w hw
  cases w <;> first | exact va_Nw.warmF hW h2 | exact va_Nw.warmM hW h2 | exact Bool.noConfusion h1
theorem cp_N.same {nw : List Cond} {u U : State} (hn : nw.all cp_isN = true) (hvm : u.vm = U.vm) (h : cp_N nw u) : cp_N nw U := by
  intro w hw
  have h1 := List.all_eq_true.mp hn w hw
  have h2 := h w hw
  cases w <;> first | exact Bool.noConfusion h1 | exact va_Nw.same rfl hvm h2
def cp_ops (j : Nat) : Int32 := ([0, 2, 2, 2, 2, 2, 2, 1, 1, 2, 2, 1, 2, 2, 2, 2, 1, 0, 0, 1, 1, 0] : List Int32).getD j 0
def cp_sx (j : Nat) : Int32 := ([0, 1, 0, -1] : List Int32).getD j 0
def cp_sy (j : Nat) : Int32 := ([-1, 0, 1, 0] : List Int32).getD j 0
def cp_Zt (C n : String) (N : Nat) (f : Nat → Int32) (A : Nat → Prop) (U : State) (H : Heap) : Prop := ∃ t : Nat, va_Z C n "[I" (.ref t) A U H ∧ va_T .int t N (fun j => .int (f j)) A U H
theorem cp_Zt.moved {C n : String} {N : Nat} {f : Nat → Int32} {A : Nat → Prop} {u U : State} {H : Heap} (hvm : u.vm.Alike U.vm) (h : cp_Zt C n N f A u H) : cp_Zt C n N f A U H := by
  obtain ⟨t, h1, h2⟩ := h
  exact ⟨t, h1.moved hvm, h2.moved hvm⟩
theorem cp_Zt.kept {C n : String} {N : Nat} {f : Nat → Int32} {A : Nat → Prop} {U : State} {H H1 : Heap} (h : cp_Zt C n N f A U H) (hq : ∀ a : Nat, a < H.size → ¬ A a → H1[a]? = H[a]?) : cp_Zt C n N f A U H1 := by
  obtain ⟨t, h1, h2⟩ := h
  exact ⟨t, h1.kept hq, h2.kept hq⟩
theorem cp_Zt.narrow {C n : String} {N : Nat} {f : Nat → Int32} {A B : Nat → Prop} {U : State} {H : Heap} (h : cp_Zt C n N f A U H) (hAB : ∀ q, B q → A q) : cp_Zt C n N f B U H := by
  obtain ⟨t, h1, h2⟩ := h
  exact ⟨t, h1.narrow hAB, h2.narrow hAB⟩
def cp_Z (A : Nat → Prop) (U : State) (H : Heap) : Prop := cp_Zt "CreaturePond$Mind" "OPERANDS" 22 cp_ops A U H ∧ cp_Zt "CreaturePond$Shape" "STEP_X" 4 cp_sx A U H ∧ cp_Zt "CreaturePond$Shape" "STEP_Y" 4 cp_sy A U H
theorem cp_Z.moved {A : Nat → Prop} {u U : State} {H : Heap} (hvm : u.vm.Alike U.vm) (h : cp_Z A u H) : cp_Z A U H := ⟨h.1.moved hvm, h.2.1.moved hvm, h.2.2.moved hvm⟩
theorem cp_Z.kept {A : Nat → Prop} {U : State} {H H1 : Heap} (h : cp_Z A U H) (hq : ∀ a : Nat, a < H.size → ¬ A a → H1[a]? = H[a]?) : cp_Z A U H1 := ⟨h.1.kept hq, h.2.1.kept hq, h.2.2.kept hq⟩
theorem cp_Z.narrow {A B : Nat → Prop} {U : State} {H : Heap} (h : cp_Z A U H) (hAB : ∀ q, B q → A q) : cp_Z B U H := ⟨h.1.narrow hAB, h.2.1.narrow hAB, h.2.2.narrow hAB⟩
def cp_Pre (G : va_G) (L : cp_Lay) (D : cp_Dt) (U : State) : Prop := va_P G vwCl (cp_ws L D) U.heap ∧ va_K G vwCl (cp_tys L) U ∧ cp_N cp_nw U ∧ cp_Z (cp_A L) U U.heap
def cp_Q (G : va_G) (L : cp_Lay) (D' : cp_Dt) (rv : Option Value) : Array Value → State → Outcome → State → Prop := fun _ st oc t => (oc = .returned rv ∧ va_P G vwCl (cp_ws L D') t.heap) ∧ va_F (cp_A L) st t
/-- the contract: from any heap that holds D in the layout L, y returns rv, the heap then holds D', nothing outside the layout has changed, nothing is made -/
def cp_Met (l : Launch) (G : va_G) (y : MethodName) (ws : List Cond) (rm : Room) (L : cp_Lay) (av : List Value) (D D' : cp_Dt) (rv : Option Value) : Prop := Met l y ws rm (va_Pc av (cp_Pre G L D)) (cp_Q G L D' rv) 0 0 (cp_A L)
theorem cp_blind {G : va_G} {L : cp_Lay} {D : cp_Dt} {av : List Value} : FrameBlind (va_Pc av (cp_Pre G L D)) := by
  intro a U g mk h
  obtain ⟨h0, h1, h2, h3, h4⟩ := h
  exact ⟨h0, h1, va_K.moved (u := U) (U := U.calling g mk a) (Vm.Alike.refl U.vm) h2, cp_N.same (u := U) (U := U.calling g mk a) cp_nw_ok rfl h3, cp_Z.moved (u := U) (U := U.calling g mk a) (Vm.Alike.refl U.vm) h4⟩
theorem cp_pre {G : va_G} {L : cp_Lay} {D : cp_Dt} {av : List Value} {s : State} {H : Heap} {locs : List Loc} (hP : va_P G vwCl (cp_ws L D) H) (hK : va_K G vwCl (cp_tys L) s) (hN : cp_N cp_nw s) (hZ : cp_Z (cp_A L) s s.heap) (hS : va_S (cp_A L) s.heap H locs) : ∀ U : State, U.heap = H → s.WarmedH U.vm → va_Pc av (cp_Pre G L D) av.toArray U := by
  intro U hU hW
  refine ⟨rfl, by rw [hU]; exact hP, va_K.moved hW.alike hK, cp_N.warm cp_nw_ok hW hN, ?_⟩
  rw [hU]
  exact (cp_Z.moved hW.alike hZ).kept hS.2.1
theorem cp_recv {G : va_G} {cl : List vw_C} {L : cp_Lay} {D : cp_Dt} {s : State} {H : Heap} {tys : List (ClassId × FieldType)} {k ci : Nat} {q : vw_C} {fl : List (Option (Option Nat))} (hK : va_K G cl tys s) (hP : va_P G cl (cp_ws L D) H) (hc : cl[ci]? = some q) (h : cp_fl L k ci = some fl) : ∃ cell : Cell, H[L.2.1 k]? = some cell ∧ cell.vm.isStatics = false ∧ s.vm.findClass q.1 = some cell.cls := va_recv hK hP hc (cp_fl_cell h)
section CPC
variable {p : Program} {l : Launch} {e : Env} {R : Room} {s : State} {m : MethodId} {args : Array Value} {below : List Frame} {meth : Method} {c : Code} {H : Heap} {locs : List Loc} {cells slots : Nat} {Q : State → Prop}
variable {cc : ByteArray} {pc : Nat} {ls : Array Slot} {rest : List Value} {G : va_G} {H0 : Heap} {L : cp_Lay} {D : cp_Dt}
theorem cp_call {st1 : List Value} {D' : cp_Dt} {rv : Option Value} {a : Array Value} {st0 : List Value} (hr : va_Run p l e R s m args below meth c H locs cells slots 0 0 (F0 m pc ls st0) rest (cp_Q G L D' rv a) (cp_A L)) (hS : va_S (cp_A L) H0 H locs)
    (kk : ∀ (H1 : Heap) (locs1 : List Loc), va_P G vwCl (cp_ws L D') H1 → va_S (cp_A L) H0 H1 locs1 → W p l e R s m args below meth c H1 locs1 cells slots Q (F0 m (pc + 3) ls st1)) (hst : rv.toList ++ rest = st1 := by rfl) : W p l e R s m args below meth c H locs cells slots Q (F0 m pc ls st0) := by
  subst hst
  intro T hT X
  obtain ⟨v, st₀, t, T', L1, h0, X', hL, e1, e2, ⟨⟨hv, hp⟩, hz, hk⟩, st⟩ := hr T hT X
  cases hv
  rw [h0] at hz hk
  obtain ⟨t2, a1, b1⟩ := kk T'.heap (locs ++ L1) (by rw [e1]; exact hp)
    ⟨Nat.le_trans hS.1 (by rw [e1]; exact hz), fun q h1 h2 => by rw [e1, hk q (Nat.lt_of_lt_of_le h1 hS.1) h2]; exact hS.2.1 q h1 h2, fun q hq => by
      rcases List.mem_append.mp hq with h | h
      · exact hS.2.2 q h
      · exact hL q h⟩ T' rfl X'
  exact ⟨t2, st t2 a1, b1⟩
theorem cp_iret (hx : p.tables.exec = Jvm.exec) (hb : c.code = cc) (hr : meth.sig.returnType = some .int) (hlocks : meth.locks = false) {v : Int32} {res : Int32 × cp_Dt} (hF : some (v, D) = some res) (hP : va_P G vwCl (cp_ws L D) H) (hS : va_S (cp_A L) s.heap H locs) (hdg : decode cc pc = .ok (.ireturn, 1)) : W p l e R s m args below meth c H locs 0 0 (MQ below (cp_Q G L res.2 (some (.int res.1))) args s 0 0 (cp_A L)) (F0 m pc ls [.int v]) := by
  cases hF
  exact W.iret hx hb hr (fun t ht _ => ⟨⟨rfl, by rw [ht]; exact hP⟩, hS.F ht⟩) hS.2.2 hdg hlocks
theorem cp_zret (hx : p.tables.exec = Jvm.exec) (hb : c.code = cc) {ty : FieldType} (hr : meth.sig.returnType = some ty) (hlocks : meth.locks = false) {v : Int32} (hn : narrow ty (.int v) = .int v) {res : Int32 × cp_Dt} (hF : some (v, D) = some res) (hP : va_P G vwCl (cp_ws L D) H) (hS : va_S (cp_A L) s.heap H locs) (hdg : decode cc pc = .ok (.ireturn, 1)) : W p l e R s m args below meth c H locs 0 0 (MQ below (cp_Q G L res.2 (some (.int res.1))) args s 0 0 (cp_A L)) (F0 m pc ls [.int v]) := by
  cases hF
  exact W.zret hx hb hr hn (fun t ht _ => ⟨⟨rfl, by rw [ht]; exact hP⟩, hS.F ht⟩) hS.2.2 hdg hlocks
theorem cp_vret (hx : p.tables.exec = Jvm.exec) (hb : c.code = cc) (hr : meth.sig.returnType = none) (hlocks : meth.locks = false) {res : cp_Dt} (hF : some D = some res) (hP : va_P G vwCl (cp_ws L D) H) (hS : va_S (cp_A L) s.heap H locs) (hdg : decode cc pc = .ok (.return_, 1)) : W p l e R s m args below meth c H locs 0 0 (MQ below (cp_Q G L res none) args s 0 0 (cp_A L)) (F0 m pc ls []) := by
  cases hF
  exact W.vret hx hb hr (fun t ht _ => ⟨⟨rfl, by rw [ht]; exact hP⟩, hS.F ht⟩) hS.2.2 hdg hlocks
theorem cp_aret (hx : p.tables.exec = Jvm.exec) (hb : c.code = cc) {n : String} (hr : meth.sig.returnType = some (.object n)) (hlocks : meth.locks = false) {v : Nat} {res : Nat × cp_Dt} (hF : some (v, D) = some res) (hP : va_P G vwCl (cp_ws L D) H) (hS : va_S (cp_A L) s.heap H locs) (hdg : decode cc pc = .ok (.areturn, 1)) : W p l e R s m args below meth c H locs 0 0 (MQ below (cp_Q G L res.2 (some (.ref (L.2.1 res.1)))) args s 0 0 (cp_A L)) (F0 m pc ls [.ref (L.2.1 v)]) := by
  cases hF
  exact W.aret hx hb hr (Or.inl ⟨n, rfl⟩) (Or.inr ⟨_, rfl⟩) (fun t ht _ => ⟨⟨rfl, by rw [ht]; exact hP⟩, hS.F ht⟩) hS.2.2 hdg hlocks
theorem cp_g01_n {v : Int32} {u : Unit} (h : cp_g01 v = some u) : narrow .boolean (.int v) = .int v := by
  unfold cp_g01 at h
  by_cases hv : v = 0 ∨ v = 1
  · rcases hv with rfl | rfl <;> decide
  · rw [if_neg hv] at h
    cases h
theorem cp_gby_n {v : Int32} {u : Unit} (h : cp_gby v = some u) : narrow .byte (.int v) = .int v := by
  unfold cp_gby at h
  by_cases hv : v.toInt8.toInt32 = v
  · rw [← hv]
    exact pk_nb v
  · rw [if_neg hv] at h
    cases h
theorem cp_ti (hx : p.tables.exec = Jvm.exec) (hb : c.code = cc) {A : Nat → Prop} {t N : Nat} {f : Nat → Int32} (hT : va_T .int t N (fun j => .int (f j)) A s s.heap) (hS : va_S A s.heap H locs) {i v : Int32} (hv : cp_tb N f i = some v) (hdg : decode cc pc = .ok (.iaload, 1))
    (kk : W p l e R s m args below meth c H locs cells slots Q (F0 m (pc + 1) ls (.int v :: rest))) : W p l e R s m args below meth c H locs cells slots Q (F0 m pc ls (.int i :: .ref t :: rest)) := by
  obtain ⟨h1, h2⟩ := cp_in hv
  cases h2
  exact va_ti hx hb hT hS h1 rfl hdg kk
theorem cp_copy (hx : p.tables.exec = Jvm.exec) (hb : c.code = cc) (hml : c.maxLocals = ls.size) {own : String} {index : Nat} (hown : s.vm.findClass own = some m.cls) (hlink : (Cond.methodLink own index arraycopyName).before args s = true) (hnat : (Cond.native arraycopyName).before args s = true) (hstat : (Cond.static arraycopyName).before args s = true) (hini : (Cond.initialized "java/lang/System").before args s = true)
    (hK : va_K G vwCl (cp_tys L) s) (hJ : cp_J L) (hP : va_P G vwCl (cp_ws L D) H) (hS : va_S (cp_A L) H0 H locs) {t k0 k1 : Nat} (ht : t = 0 ∨ t = 1) {sp dp n : Int32} {D' : cp_Dt} (hv : cp_cp L D t k0 sp k1 dp n = some D')
    (hframes : 1 ≤ R.frames) (hlocals : (rest.map fun v => v.category).sum + (nativeFrameWords "java/lang/System" "arraycopy" 5 + 11) ≤ R.locals) (hdg : decode cc pc = .ok (.invokestatic index, 3))
    (kk : ∀ (H1 : Heap) (locs1 : List Loc), va_P G vwCl (cp_ws L D') H1 → va_S (cp_A L) H0 H1 locs1 → W p l e R s m args below meth c H1 locs1 cells slots Q (F0 m (pc + 3) ls rest)) : W p l e R s m args below meth c H locs cells slots Q (F0 m pc ls (.int n :: .int dp :: .ref (L.2.1 k1) :: .int sp :: .ref (L.2.1 k0) :: rest)) := by
  obtain ⟨a, ha, hv⟩ := cp_bind hv
  obtain ⟨b, hb1, hv⟩ := cp_bind hv
  by_cases hc : sp < 0 ∨ dp < 0 ∨ n < 0 ∨ a.1 < sp.toNatClampNeg + n.toNatClampNeg ∨ b.1 < dp.toNatClampNeg + n.toNatClampNeg
  · rw [if_pos hc] at hv
    cases hv
  · rw [if_neg hc] at hv
    have c1 : ¬ sp < 0 := fun h => hc (Or.inl h)
    have c2 : ¬ dp < 0 := fun h => hc (Or.inr (Or.inl h))
    have c3 : ¬ n < 0 := fun h => hc (Or.inr (Or.inr (Or.inl h)))
    have c4 : sp.toNatClampNeg + n.toNatClampNeg ≤ a.1 := Nat.not_lt.mp fun h => hc (Or.inr (Or.inr (Or.inr (Or.inl h))))
    have c5 : dp.toNatClampNeg + n.toNatClampNeg ≤ b.1 := Nat.not_lt.mp fun h => hc (Or.inr (Or.inr (Or.inr (Or.inr h))))
    have h4 : ∀ (t : Nat) (hu : t = 0 ∨ t = 1), cp_ar L k1 t = some b → (cp_ws L D).set k1 (L.2.1 k1, .inl (L.2.2.2 t, b.1, .inl (va_cpy (D k0) (D k1) sp.toNatClampNeg dp.toNatClampNeg n.toNatClampNeg))) = cp_ws L (cp_upA D k1 (va_cpy (D k0) (D k1) sp.toNatClampNeg dp.toNatClampNeg n.toNatClampNeg)) := by
      intro t hu h1
      refine cp_ws_set ?_ (fun j hj => cp_upA_ne hj)
      unfold cp_ce
      rw [(cp_ar_spec h1).2, cp_upA_eq]
      rcases hu with rfl | rfl <;> rfl
    rcases ht with rfl | rfl
    · rw [if_neg (fun h => by have := h.1; omega)] at hv
      cases hv
      exact va_copyi hx hb hml hown hlink hnat hstat hini hK hP (cp_D hJ D) hS k0 k1 0 0 (ty := .int) (cp_cell0 ha) (cp_cell0 hb1) rfl rfl rfl c1 c2 c3 c4 c5 (fun _ _ => rfl) hframes hlocals hdg (fun H1 locs1 p1 _ s1 => kk H1 locs1 (h4 0 (Or.inl rfl) hb1 ▸ p1) s1)
    · by_cases hy : (List.range n.toNatClampNeg).all (fun i => fits .byte (.int (D k0 (sp.toNatClampNeg + i)))) = false
      · rw [if_pos ⟨rfl, hy⟩] at hv
        cases hv
      · rw [if_neg (fun h => hy h.2)] at hv
        cases hv
        have hy1 : (List.range n.toNatClampNeg).all (fun i => fits .byte (.int (D k0 (sp.toNatClampNeg + i)))) = true := by
          cases h : (List.range n.toNatClampNeg).all (fun i => fits .byte (.int (D k0 (sp.toNatClampNeg + i)))) with
          | true => rfl
          | false => exact absurd h hy
        exact va_copyi hx hb hml hown hlink hnat hstat hini hK hP (cp_D hJ D) hS k0 k1 1 1 (ty := .byte) (cp_cell1 ha) (cp_cell1 hb1) rfl rfl rfl c1 c2 c3 c4 c5 (fun i hi => List.all_eq_true.mp hy1 i (List.mem_range.mpr hi)) hframes hlocals hdg (fun H1 locs1 p1 _ s1 => kk H1 locs1 (h4 1 (Or.inr rfl) hb1 ▸ p1) s1)
end CPC
end
section
theorem dJ_floorMod_0 : decode cJ_floorMod 0 = .ok (.iload_n 0, 1) := by decide +kernel
theorem dJ_floorMod_1 : decode cJ_floorMod 1 = .ok (.iload_n 1, 1) := by decide +kernel
theorem dJ_floorMod_2 : decode cJ_floorMod 2 = .ok (.irem, 1) := by decide +kernel
theorem dJ_floorMod_3 : decode cJ_floorMod 3 = .ok (.istore_n 2, 1) := by decide +kernel
theorem dJ_floorMod_4 : decode cJ_floorMod 4 = .ok (.iload_n 0, 1) := by decide +kernel
theorem dJ_floorMod_5 : decode cJ_floorMod 5 = .ok (.iload_n 1, 1) := by decide +kernel
theorem dJ_floorMod_6 : decode cJ_floorMod 6 = .ok (.ixor, 1) := by decide +kernel
theorem dJ_floorMod_7 : decode cJ_floorMod 7 = .ok (.ifCond .ge 11, 3) := by decide +kernel
theorem dJ_floorMod_10 : decode cJ_floorMod 10 = .ok (.iload_n 2, 1) := by decide +kernel
theorem dJ_floorMod_11 : decode cJ_floorMod 11 = .ok (.ifCond .eq 7, 3) := by decide +kernel
theorem dJ_floorMod_14 : decode cJ_floorMod 14 = .ok (.iload_n 2, 1) := by decide +kernel
theorem dJ_floorMod_15 : decode cJ_floorMod 15 = .ok (.iload_n 1, 1) := by decide +kernel
theorem dJ_floorMod_16 : decode cJ_floorMod 16 = .ok (.iadd, 1) := by decide +kernel
theorem dJ_floorMod_17 : decode cJ_floorMod 17 = .ok (.ireturn, 1) := by decide +kernel
theorem dJ_floorMod_18 : decode cJ_floorMod 18 = .ok (.iload_n 2, 1) := by decide +kernel
theorem dJ_floorMod_19 : decode cJ_floorMod 19 = .ok (.ireturn, 1) := by decide +kernel
def fn_J_floorMod (L : cp_Lay) (q : Nat) (x1 : Int32) (x2 : Int32) (D : cp_Dt) : Option (Int32 × cp_Dt) :=
  (cp_nz x2).bind fun u1 =>
  if 0 ≤ (x1 ^^^ x2) then (some ((x1 - x1 / x2 * x2), D))
  else (if (x1 - x1 / x2 * x2) = 0 then (some ((x1 - x1 / x2 * x2), D))
  else (some (((x1 - x1 / x2 * x2) + x2), D)))
set_option maxHeartbeats 4000000 in
set_option maxRecDepth 100000 in
theorem ct_J_floorMod (l : Launch) (G : va_G) (L : cp_Lay) (hJ : cp_J L) (q : Nat) (x1 : Int32) (x2 : Int32) (D : cp_Dt) (res : Int32 × cp_Dt) (hF : fn_J_floorMod L q x1 x2 D = some res) : cp_Met l G yJ_floorMod wsJ_floorMod ({ frames := 0, cells := 0, slots := 0, locals := 0 }) L ([.int x1, .int x2] : List Value) D res.2 (some (.int res.1)) := by
  refine va_MetF (cc := cJ_floorMod) (maxL := 3) (ret := (some .int)) (by decide +kernel) rfl ?_
  intro p e s m args below meth c s₁ B hml hv
  obtain ⟨rfl, hP, hK, hN, hZ⟩ := hv
  have hx := B.exec
  have hb := B.bytes
  have hr := B.returns
  have hts := atoms_spec (ws := wsJ_floorMod) B.pre
  have hown : s.vm.findClass "java/lang/Math" = some m.cls := findClass_of_methodNamed B.named
  have hlocks := B.notSynchronized
  have hS : va_S (cp_A L) s.heap s.heap [] := va_S.rf
  have htT : ∀ w ∈ cp_T, w.before ([.int x1, .int x2] : List Value).toArray s = true := fun w h => hts w (List.mem_cons_of_mem _ h)
  have hl := lv_entry (([.int x1, .int x2] : List Value)) (n := 3) (Nat.le_of_ble_eq_true rfl)
  rw [lg_entry_eq]
  generalize (lg_sl (([.int x1, .int x2] : List Value)) ++ List.replicate (3 - (lg_sl (([.int x1, .int x2] : List Value))).length) Slot.unset).toArray = ls at hl ⊢
  have hl : lv_has ls 3 [(0, .int x1), (1, .int x2)] := hl
  unfold fn_J_floorMod at hF
  refine lv_iload_n hx hb dJ_floorMod_0 rfl (lv_at hl 0 rfl) ?_
  refine lv_iload_n hx hb dJ_floorMod_1 rfl (lv_at hl 1 rfl) ?_
  obtain ⟨u1, eu1, hF⟩ := cp_bind hF
  refine lv_irem hx hb dJ_floorMod_2 (cp_nz_ne eu1) ?_
  refine lv_istore_n (lv' := [(2, .int (x1 - x1 / x2 * x2)), (0, .int x1), (1, .int x2)]) hx hb dJ_floorMod_3 rfl hl (by decide) rfl (fun ls hl => ?_)
  refine lv_iload_n hx hb dJ_floorMod_4 rfl (lv_at hl 1 rfl) ?_
  refine lv_iload_n hx hb dJ_floorMod_5 rfl (lv_at hl 2 rfl) ?_
  refine lv_ixor hx hb dJ_floorMod_6 ?_
  refine lv_if_ge (tgt := 18) hx hb dJ_floorMod_7 (by decide) (fun hc2 => ?_) (fun hc2 => ?_)
  · rw [if_pos hc2] at hF
    refine lv_iload_n hx hb dJ_floorMod_18 rfl (lv_at hl 0 rfl) ?_
    exact cp_iret hx hb hr hlocks hF hP hS dJ_floorMod_19
  · rw [if_neg hc2] at hF
    refine lv_iload_n hx hb dJ_floorMod_10 rfl (lv_at hl 0 rfl) ?_
    refine lv_if_eq (tgt := 18) hx hb dJ_floorMod_11 (by decide) (fun hc3 => ?_) (fun hc3 => ?_)
    · rw [if_pos hc3] at hF
      refine lv_iload_n hx hb dJ_floorMod_18 rfl (lv_at hl 0 rfl) ?_
      exact cp_iret hx hb hr hlocks hF hP hS dJ_floorMod_19
    · rw [if_neg hc3] at hF
      refine lv_iload_n hx hb dJ_floorMod_14 rfl (lv_at hl 0 rfl) ?_
      refine lv_iload_n hx hb dJ_floorMod_15 rfl (lv_at hl 2 rfl) ?_
      refine lv_iadd hx hb dJ_floorMod_16 ?_
      exact cp_iret hx hb hr hlocks hF hP hS dJ_floorMod_17
theorem dX5_columnOf_0 : decode cX5_columnOf 0 = .ok (.iload_n 1, 1) := by decide +kernel
theorem dX5_columnOf_1 : decode cX5_columnOf 1 = .ok (.aload_n 0, 1) := by decide +kernel
theorem dX5_columnOf_2 : decode cX5_columnOf 2 = .ok (.getfield 9, 3) := by decide +kernel
theorem dX5_columnOf_5 : decode cX5_columnOf 5 = .ok (.irem, 1) := by decide +kernel
theorem dX5_columnOf_6 : decode cX5_columnOf 6 = .ok (.ireturn, 1) := by decide +kernel
def fn_X5_columnOf (L : cp_Lay) (q : Nat) (k0 : Nat) (x1 : Int32) (D : cp_Dt) : Option (Int32 × cp_Dt) :=
  (cp_gI L D k0 5 0).bind fun v1 =>
  (cp_nz v1).bind fun u2 =>
  some ((x1 - x1 / v1 * v1), D)
set_option maxHeartbeats 4000000 in
set_option maxRecDepth 100000 in
theorem ct_X5_columnOf (l : Launch) (G : va_G) (L : cp_Lay) (hJ : cp_J L) (q : Nat) (k0 : Nat) (x1 : Int32) (D : cp_Dt) (res : Int32 × cp_Dt) (hF : fn_X5_columnOf L q k0 x1 D = some res) : cp_Met l G yX5_columnOf wsX5_columnOf ({ frames := 0, cells := 0, slots := 0, locals := 0 }) L ([.ref (L.2.1 k0), .int x1] : List Value) D res.2 (some (.int res.1)) := by
  refine Met.ofW (cc := cX5_columnOf) (maxL := 2) (ret := (some .int)) (by decide) rfl ?_
  intro p e s m args below meth c s₁ B hml hv
  obtain ⟨rfl, hP, hK, hN, hZ⟩ := hv
  have hx := B.exec
  have hb := B.bytes
  have hr := B.returns
  have hts := atoms_spec (ws := wsX5_columnOf) B.pre
  have hown : s.vm.findClass "CreaturePond$Shape" = some m.cls := findClass_of_methodNamed B.named
  have hlocks := B.notSynchronized
  have hS : va_S (cp_A L) s.heap s.heap [] := va_S.rf
  have htT : ∀ w ∈ cp_T, w.before ([.ref (L.2.1 k0), .int x1] : List Value).toArray s = true := fun w h => hts w (List.mem_cons_of_mem _ h)
  have hl := lv_entry (([.ref (L.2.1 k0), .int x1] : List Value)) (n := 2) (Nat.le_of_ble_eq_true rfl)
  rw [lg_entry_eq]
  generalize (lg_sl (([.ref (L.2.1 k0), .int x1] : List Value)) ++ List.replicate (2 - (lg_sl (([.ref (L.2.1 k0), .int x1] : List Value))).length) Slot.unset).toArray = ls at hl ⊢
  have hl : lv_has ls 2 [(0, .ref (L.2.1 k0)), (1, .int x1)] := hl
  unfold fn_X5_columnOf at hF
  refine lv_iload_n hx hb dX5_columnOf_0 rfl (lv_at hl 1 rfl) ?_
  refine lv_aload_n hx hb dX5_columnOf_1 rfl (lv_at hl 0 rfl) ?_
  obtain ⟨v1, ev1, hF⟩ := cp_bind hF
  refine cp_getI (T := TX5) (N := 4) (ci := 5) (j := 0) hx hb htT hinX5 hown hK hP rfl (by decide) rfl (htT _ tw_49) ev1 dX5_columnOf_2 ?_
  obtain ⟨u2, eu2, hF⟩ := cp_bind hF
  refine lv_irem hx hb dX5_columnOf_5 (cp_nz_ne eu2) ?_
  exact cp_iret hx hb hr hlocks hF hP hS dX5_columnOf_6
theorem dX5_rowOf_0 : decode cX5_rowOf 0 = .ok (.iload_n 1, 1) := by decide +kernel
theorem dX5_rowOf_1 : decode cX5_rowOf 1 = .ok (.aload_n 0, 1) := by decide +kernel
theorem dX5_rowOf_2 : decode cX5_rowOf 2 = .ok (.getfield 9, 3) := by decide +kernel
theorem dX5_rowOf_5 : decode cX5_rowOf 5 = .ok (.idiv, 1) := by decide +kernel
theorem dX5_rowOf_6 : decode cX5_rowOf 6 = .ok (.ireturn, 1) := by decide +kernel
def fn_X5_rowOf (L : cp_Lay) (q : Nat) (k0 : Nat) (x1 : Int32) (D : cp_Dt) : Option (Int32 × cp_Dt) :=
  (cp_gI L D k0 5 0).bind fun v1 =>
  (cp_nz v1).bind fun u2 =>
  some ((x1 / v1), D)
set_option maxHeartbeats 4000000 in
set_option maxRecDepth 100000 in
theorem ct_X5_rowOf (l : Launch) (G : va_G) (L : cp_Lay) (hJ : cp_J L) (q : Nat) (k0 : Nat) (x1 : Int32) (D : cp_Dt) (res : Int32 × cp_Dt) (hF : fn_X5_rowOf L q k0 x1 D = some res) : cp_Met l G yX5_rowOf wsX5_rowOf ({ frames := 0, cells := 0, slots := 0, locals := 0 }) L ([.ref (L.2.1 k0), .int x1] : List Value) D res.2 (some (.int res.1)) := by
  refine Met.ofW (cc := cX5_rowOf) (maxL := 2) (ret := (some .int)) (by decide) rfl ?_
  intro p e s m args below meth c s₁ B hml hv
  obtain ⟨rfl, hP, hK, hN, hZ⟩ := hv
  have hx := B.exec
  have hb := B.bytes
  have hr := B.returns
  have hts := atoms_spec (ws := wsX5_rowOf) B.pre
  have hown : s.vm.findClass "CreaturePond$Shape" = some m.cls := findClass_of_methodNamed B.named
  have hlocks := B.notSynchronized
  have hS : va_S (cp_A L) s.heap s.heap [] := va_S.rf
  have htT : ∀ w ∈ cp_T, w.before ([.ref (L.2.1 k0), .int x1] : List Value).toArray s = true := fun w h => hts w (List.mem_cons_of_mem _ h)
  have hl := lv_entry (([.ref (L.2.1 k0), .int x1] : List Value)) (n := 2) (Nat.le_of_ble_eq_true rfl)
  rw [lg_entry_eq]
  generalize (lg_sl (([.ref (L.2.1 k0), .int x1] : List Value)) ++ List.replicate (2 - (lg_sl (([.ref (L.2.1 k0), .int x1] : List Value))).length) Slot.unset).toArray = ls at hl ⊢
  have hl : lv_has ls 2 [(0, .ref (L.2.1 k0)), (1, .int x1)] := hl
  unfold fn_X5_rowOf at hF
  refine lv_iload_n hx hb dX5_rowOf_0 rfl (lv_at hl 1 rfl) ?_
  refine lv_aload_n hx hb dX5_rowOf_1 rfl (lv_at hl 0 rfl) ?_
  obtain ⟨v1, ev1, hF⟩ := cp_bind hF
  refine cp_getI (T := TX5) (N := 4) (ci := 5) (j := 0) hx hb htT hinX5 hown hK hP rfl (by decide) rfl (htT _ tw_49) ev1 dX5_rowOf_2 ?_
  obtain ⟨u2, eu2, hF⟩ := cp_bind hF
  refine lv_idiv hx hb dX5_rowOf_5 (cp_nz_ne eu2) ?_
  exact cp_iret hx hb hr hlocks hF hP hS dX5_rowOf_6
theorem dX5_cellAt_0 : decode cX5_cellAt 0 = .ok (.iload_n 1, 1) := by decide +kernel
theorem dX5_cellAt_1 : decode cX5_cellAt 1 = .ok (.aload_n 0, 1) := by decide +kernel
theorem dX5_cellAt_2 : decode cX5_cellAt 2 = .ok (.getfield 9, 3) := by decide +kernel
theorem dX5_cellAt_5 : decode cX5_cellAt 5 = .ok (.invokestatic 42, 3) := by decide +kernel
theorem dX5_cellAt_8 : decode cX5_cellAt 8 = .ok (.iload_n 2, 1) := by decide +kernel
theorem dX5_cellAt_9 : decode cX5_cellAt 9 = .ok (.aload_n 0, 1) := by decide +kernel
theorem dX5_cellAt_10 : decode cX5_cellAt 10 = .ok (.getfield 15, 3) := by decide +kernel
theorem dX5_cellAt_13 : decode cX5_cellAt 13 = .ok (.invokestatic 42, 3) := by decide +kernel
theorem dX5_cellAt_16 : decode cX5_cellAt 16 = .ok (.aload_n 0, 1) := by decide +kernel
theorem dX5_cellAt_17 : decode cX5_cellAt 17 = .ok (.getfield 9, 3) := by decide +kernel
theorem dX5_cellAt_20 : decode cX5_cellAt 20 = .ok (.imul, 1) := by decide +kernel
theorem dX5_cellAt_21 : decode cX5_cellAt 21 = .ok (.iadd, 1) := by decide +kernel
theorem dX5_cellAt_22 : decode cX5_cellAt 22 = .ok (.ireturn, 1) := by decide +kernel
def fn_X5_cellAt (L : cp_Lay) (q : Nat) (k0 : Nat) (x1 : Int32) (x2 : Int32) (D : cp_Dt) : Option (Int32 × cp_Dt) :=
  (cp_gI L D k0 5 0).bind fun v1 =>
  (fn_J_floorMod L q x1 v1 D).bind fun y2 =>
  (cp_gI L y2.2 k0 5 1).bind fun v3 =>
  (fn_J_floorMod L q x2 v3 y2.2).bind fun y4 =>
  (cp_gI L y4.2 k0 5 0).bind fun v5 =>
  some ((y2.1 + (y4.1 * v5)), y4.2)
set_option maxHeartbeats 4000000 in
set_option maxRecDepth 100000 in
theorem ct_X5_cellAt (l : Launch) (G : va_G) (L : cp_Lay) (hJ : cp_J L) (q : Nat) (k0 : Nat) (x1 : Int32) (x2 : Int32) (D : cp_Dt) (res : Int32 × cp_Dt) (hF : fn_X5_cellAt L q k0 x1 x2 D = some res) : cp_Met l G yX5_cellAt wsX5_cellAt ({ frames := 1, cells := 0, slots := 0, locals := 22 }) L ([.ref (L.2.1 k0), .int x1, .int x2] : List Value) D res.2 (some (.int res.1)) := by
  refine Met.ofW (cc := cX5_cellAt) (maxL := 3) (ret := (some .int)) (by decide) rfl ?_
  intro p e s m args below meth c s₁ B hml hv
  obtain ⟨rfl, hP, hK, hN, hZ⟩ := hv
  have hx := B.exec
  have hb := B.bytes
  have hr := B.returns
  have hts := atoms_spec (ws := wsX5_cellAt) B.pre
  have hown : s.vm.findClass "CreaturePond$Shape" = some m.cls := findClass_of_methodNamed B.named
  have hlocks := B.notSynchronized
  have hS : va_S (cp_A L) s.heap s.heap [] := va_S.rf
  have htT : ∀ w ∈ cp_T, w.before ([.ref (L.2.1 k0), .int x1, .int x2] : List Value).toArray s = true := fun w h => hts w (List.mem_cons_of_mem _ h)
  have hl := lv_entry (([.ref (L.2.1 k0), .int x1, .int x2] : List Value)) (n := 3) (Nat.le_of_ble_eq_true rfl)
  rw [lg_entry_eq]
  generalize (lg_sl (([.ref (L.2.1 k0), .int x1, .int x2] : List Value)) ++ List.replicate (3 - (lg_sl (([.ref (L.2.1 k0), .int x1, .int x2] : List Value))).length) Slot.unset).toArray = ls at hl ⊢
  have hl : lv_has ls 3 [(0, .ref (L.2.1 k0)), (1, .int x1), (2, .int x2)] := hl
  unfold fn_X5_cellAt at hF
  refine lv_iload_n hx hb dX5_cellAt_0 rfl (lv_at hl 1 rfl) ?_
  refine lv_aload_n hx hb dX5_cellAt_1 rfl (lv_at hl 0 rfl) ?_
  obtain ⟨v1, ev1, hF⟩ := cp_bind hF
  refine cp_getI (T := TX5) (N := 4) (ci := 5) (j := 0) hx hb htT hinX5 hown hK hP rfl (by decide) rfl (htT _ tw_49) ev1 dX5_cellAt_2 ?_
  obtain ⟨y2, ey2, hF⟩ := cp_bind hF
  refine cp_call (st1 := [.int y2.1]) (va_runS (As := [.int x1, .int v1]) (rest := []) ⟨hx, hb, hml, hown, htT⟩ (ct_J_floorMod l G L hJ q x1 v1 D y2 ey2) ⟨callB_of 2 htT gdJ_floorMod rfl rfl rfl (htT _ tw_3) (htT _ tw_46) hdJ_floorMod ⟨Nat.le_of_ble_eq_true rfl, Nat.le_of_ble_eq_true rfl⟩, (htT _ tw_47)⟩ ⟨cp_blind, cp_pre hP hK hN hZ hS⟩ rfl rfl hl.1 rfl (lv_room (Nat.le_of_ble_eq_true rfl)) dX5_cellAt_5 ⟨Nat.zero_le _, Nat.zero_le _⟩) hS (fun H locs hP hS => ?_)
  refine lv_iload_n hx hb dX5_cellAt_8 rfl (lv_at hl 2 rfl) ?_
  refine lv_aload_n hx hb dX5_cellAt_9 rfl (lv_at hl 0 rfl) ?_
  obtain ⟨v3, ev3, hF⟩ := cp_bind hF
  refine cp_getI (T := TX5) (N := 4) (ci := 5) (j := 1) hx hb htT hinX5 hown hK hP rfl (by decide) rfl (htT _ tw_50) ev3 dX5_cellAt_10 ?_
  obtain ⟨y4, ey4, hF⟩ := cp_bind hF
  refine cp_call (st1 := [.int y4.1, .int y2.1]) (va_runS (As := [.int x2, .int v3]) (rest := [.int y2.1]) ⟨hx, hb, hml, hown, htT⟩ (ct_J_floorMod l G L hJ q x2 v3 y2.2 y4 ey4) ⟨callB_of 2 htT gdJ_floorMod rfl rfl rfl (htT _ tw_3) (htT _ tw_46) hdJ_floorMod ⟨Nat.le_of_ble_eq_true rfl, Nat.le_of_ble_eq_true rfl⟩, (htT _ tw_47)⟩ ⟨cp_blind, cp_pre hP hK hN hZ hS⟩ rfl rfl hl.1 rfl (lv_room (Nat.le_of_ble_eq_true rfl)) dX5_cellAt_13 ⟨Nat.zero_le _, Nat.zero_le _⟩) hS (fun H locs hP hS => ?_)
  refine lv_aload_n hx hb dX5_cellAt_16 rfl (lv_at hl 0 rfl) ?_
  obtain ⟨v5, ev5, hF⟩ := cp_bind hF
  refine cp_getI (T := TX5) (N := 4) (ci := 5) (j := 0) hx hb htT hinX5 hown hK hP rfl (by decide) rfl (htT _ tw_49) ev5 dX5_cellAt_17 ?_
  refine lv_imul hx hb dX5_cellAt_20 ?_
  refine lv_iadd hx hb dX5_cellAt_21 ?_
  exact cp_iret hx hb hr hlocks hF hP hS dX5_cellAt_22
theorem dX5_nextTo_0 : decode cX5_nextTo 0 = .ok (.aload_n 0, 1) := by decide +kernel
theorem dX5_nextTo_1 : decode cX5_nextTo 1 = .ok (.getfield 21, 3) := by decide +kernel
theorem dX5_nextTo_4 : decode cX5_nextTo 4 = .ok (.iload_n 1, 1) := by decide +kernel
theorem dX5_nextTo_5 : decode cX5_nextTo 5 = .ok (.iconst 4, 1) := by decide +kernel
theorem dX5_nextTo_6 : decode cX5_nextTo 6 = .ok (.imul, 1) := by decide +kernel
theorem dX5_nextTo_7 : decode cX5_nextTo 7 = .ok (.iload_n 2, 1) := by decide +kernel
theorem dX5_nextTo_8 : decode cX5_nextTo 8 = .ok (.iadd, 1) := by decide +kernel
theorem dX5_nextTo_9 : decode cX5_nextTo 9 = .ok (.iaload, 1) := by decide +kernel
theorem dX5_nextTo_10 : decode cX5_nextTo 10 = .ok (.ireturn, 1) := by decide +kernel
def fn_X5_nextTo (L : cp_Lay) (q : Nat) (k0 : Nat) (x1 : Int32) (x2 : Int32) (D : cp_Dt) : Option (Int32 × cp_Dt) :=
  (cp_gR L k0 5 3).bind fun r1 =>
  (cp_aI L D 0 r1 ((x1 * (4 : Int32)) + x2)).bind fun v2 =>
  some (v2, D)
set_option maxHeartbeats 4000000 in
set_option maxRecDepth 100000 in
theorem ct_X5_nextTo (l : Launch) (G : va_G) (L : cp_Lay) (hJ : cp_J L) (q : Nat) (k0 : Nat) (x1 : Int32) (x2 : Int32) (D : cp_Dt) (res : Int32 × cp_Dt) (hF : fn_X5_nextTo L q k0 x1 x2 D = some res) : cp_Met l G yX5_nextTo wsX5_nextTo ({ frames := 0, cells := 0, slots := 0, locals := 0 }) L ([.ref (L.2.1 k0), .int x1, .int x2] : List Value) D res.2 (some (.int res.1)) := by
  refine Met.ofW (cc := cX5_nextTo) (maxL := 3) (ret := (some .int)) (by decide) rfl ?_
  intro p e s m args below meth c s₁ B hml hv
  obtain ⟨rfl, hP, hK, hN, hZ⟩ := hv
  have hx := B.exec
  have hb := B.bytes
  have hr := B.returns
  have hts := atoms_spec (ws := wsX5_nextTo) B.pre
  have hown : s.vm.findClass "CreaturePond$Shape" = some m.cls := findClass_of_methodNamed B.named
  have hlocks := B.notSynchronized
  have hS : va_S (cp_A L) s.heap s.heap [] := va_S.rf
  have htT : ∀ w ∈ cp_T, w.before ([.ref (L.2.1 k0), .int x1, .int x2] : List Value).toArray s = true := fun w h => hts w (List.mem_cons_of_mem _ h)
  have hl := lv_entry (([.ref (L.2.1 k0), .int x1, .int x2] : List Value)) (n := 3) (Nat.le_of_ble_eq_true rfl)
  rw [lg_entry_eq]
  generalize (lg_sl (([.ref (L.2.1 k0), .int x1, .int x2] : List Value)) ++ List.replicate (3 - (lg_sl (([.ref (L.2.1 k0), .int x1, .int x2] : List Value))).length) Slot.unset).toArray = ls at hl ⊢
  have hl : lv_has ls 3 [(0, .ref (L.2.1 k0)), (1, .int x1), (2, .int x2)] := hl
  unfold fn_X5_nextTo at hF
  refine lv_aload_n hx hb dX5_nextTo_0 rfl (lv_at hl 0 rfl) ?_
  obtain ⟨r1, er1, hF⟩ := cp_bind hF
  refine cp_getR (T := TX5) (N := 4) (ci := 5) (j := 3) hx hb htT hinX5 hown hK hP rfl (by decide) rfl (htT _ tw_52) er1 dX5_nextTo_1 ?_
  refine lv_iload_n hx hb dX5_nextTo_4 rfl (lv_at hl 1 rfl) ?_
  refine lv_iconst (v := (4 : Int32)) hx hb dX5_nextTo_5 (by decide) ?_
  refine lv_imul hx hb dX5_nextTo_6 ?_
  refine lv_iload_n hx hb dX5_nextTo_7 rfl (lv_at hl 2 rfl) ?_
  refine lv_iadd hx hb dX5_nextTo_8 ?_
  obtain ⟨v2, ev2, hF⟩ := cp_bind hF
  refine cp_iald hx hb hK hP ev2 dX5_nextTo_9 ?_
  exact cp_iret hx hb hr hlocks hF hP hS dX5_nextTo_10
theorem dX1_trait_0 : decode cX1_trait 0 = .ok (.iload_n 1, 1) := by decide +kernel
theorem dX1_trait_1 : decode cX1_trait 1 = .ok (.tableswitch 104 10 18 #[51, 56, 61, 66, 71, 76, 81, 86, 91], 51) := by decide +kernel
theorem dX1_trait_52 : decode cX1_trait 52 = .ok (.aload_n 0, 1) := by decide +kernel
theorem dX1_trait_53 : decode cX1_trait 53 = .ok (.getfield 32, 3) := by decide +kernel
theorem dX1_trait_56 : decode cX1_trait 56 = .ok (.ireturn, 1) := by decide +kernel
theorem dX1_trait_57 : decode cX1_trait 57 = .ok (.aload_n 0, 1) := by decide +kernel
theorem dX1_trait_58 : decode cX1_trait 58 = .ok (.getfield 35, 3) := by decide +kernel
theorem dX1_trait_61 : decode cX1_trait 61 = .ok (.ireturn, 1) := by decide +kernel
theorem dX1_trait_62 : decode cX1_trait 62 = .ok (.aload_n 0, 1) := by decide +kernel
theorem dX1_trait_63 : decode cX1_trait 63 = .ok (.getfield 38, 3) := by decide +kernel
theorem dX1_trait_66 : decode cX1_trait 66 = .ok (.ireturn, 1) := by decide +kernel
theorem dX1_trait_67 : decode cX1_trait 67 = .ok (.aload_n 0, 1) := by decide +kernel
theorem dX1_trait_68 : decode cX1_trait 68 = .ok (.getfield 44, 3) := by decide +kernel
theorem dX1_trait_71 : decode cX1_trait 71 = .ok (.ireturn, 1) := by decide +kernel
theorem dX1_trait_72 : decode cX1_trait 72 = .ok (.aload_n 0, 1) := by decide +kernel
theorem dX1_trait_73 : decode cX1_trait 73 = .ok (.getfield 41, 3) := by decide +kernel
theorem dX1_trait_76 : decode cX1_trait 76 = .ok (.ireturn, 1) := by decide +kernel
theorem dX1_trait_77 : decode cX1_trait 77 = .ok (.aload_n 0, 1) := by decide +kernel
theorem dX1_trait_78 : decode cX1_trait 78 = .ok (.getfield 47, 3) := by decide +kernel
theorem dX1_trait_81 : decode cX1_trait 81 = .ok (.ireturn, 1) := by decide +kernel
theorem dX1_trait_82 : decode cX1_trait 82 = .ok (.aload_n 0, 1) := by decide +kernel
theorem dX1_trait_83 : decode cX1_trait 83 = .ok (.getfield 50, 3) := by decide +kernel
theorem dX1_trait_86 : decode cX1_trait 86 = .ok (.ireturn, 1) := by decide +kernel
theorem dX1_trait_87 : decode cX1_trait 87 = .ok (.aload_n 0, 1) := by decide +kernel
theorem dX1_trait_88 : decode cX1_trait 88 = .ok (.getfield 53, 3) := by decide +kernel
theorem dX1_trait_91 : decode cX1_trait 91 = .ok (.ireturn, 1) := by decide +kernel
theorem dX1_trait_92 : decode cX1_trait 92 = .ok (.aload_n 0, 1) := by decide +kernel
theorem dX1_trait_93 : decode cX1_trait 93 = .ok (.getfield 25, 3) := by decide +kernel
theorem dX1_trait_96 : decode cX1_trait 96 = .ok (.ifCond .eq 7, 3) := by decide +kernel
theorem dX1_trait_99 : decode cX1_trait 99 = .ok (.iconst 1, 1) := by decide +kernel
theorem dX1_trait_100 : decode cX1_trait 100 = .ok (.goto 4, 3) := by decide +kernel
theorem dX1_trait_103 : decode cX1_trait 103 = .ok (.iconst 0, 1) := by decide +kernel
theorem dX1_trait_104 : decode cX1_trait 104 = .ok (.ireturn, 1) := by decide +kernel
theorem dX1_trait_105 : decode cX1_trait 105 = .ok (.iconst (-1), 1) := by decide +kernel
theorem dX1_trait_106 : decode cX1_trait 106 = .ok (.ireturn, 1) := by decide +kernel
def fn_X1_trait (L : cp_Lay) (q : Nat) (k0 : Nat) (x1 : Int32) (D : cp_Dt) : Option (Int32 × cp_Dt) :=
  if x1 = (10 : Int32) then ((cp_gI L D k0 1 6).bind fun v2 =>
  some (v2, D))
  else if x1 = (11 : Int32) then ((cp_gI L D k0 1 7).bind fun v4 =>
  some (v4, D))
  else if x1 = (12 : Int32) then ((cp_gI L D k0 1 8).bind fun v6 =>
  some (v6, D))
  else if x1 = (13 : Int32) then ((cp_gI L D k0 1 10).bind fun v8 =>
  some (v8, D))
  else if x1 = (14 : Int32) then ((cp_gI L D k0 1 9).bind fun v10 =>
  some (v10, D))
  else if x1 = (15 : Int32) then ((cp_gI L D k0 1 11).bind fun v12 =>
  some (v12, D))
  else if x1 = (16 : Int32) then ((cp_gI L D k0 1 12).bind fun v14 =>
  some (v14, D))
  else if x1 = (17 : Int32) then ((cp_gI L D k0 1 13).bind fun v16 =>
  some (v16, D))
  else if x1 = (18 : Int32) then ((cp_gI L D k0 1 4).bind fun v18 =>
  if v18 = 0 then (some ((0 : Int32), D))
  else (some ((1 : Int32), D)))
  else (some ((-1 : Int32), D))
set_option maxHeartbeats 4000000 in
set_option maxRecDepth 100000 in
theorem ct_X1_trait (l : Launch) (G : va_G) (L : cp_Lay) (hJ : cp_J L) (q : Nat) (k0 : Nat) (x1 : Int32) (D : cp_Dt) (res : Int32 × cp_Dt) (hF : fn_X1_trait L q k0 x1 D = some res) : cp_Met l G yX1_trait wsX1_trait ({ frames := 0, cells := 0, slots := 0, locals := 0 }) L ([.ref (L.2.1 k0), .int x1] : List Value) D res.2 (some (.int res.1)) := by
  refine Met.ofW (cc := cX1_trait) (maxL := 2) (ret := (some .int)) (by decide) rfl ?_
  intro p e s m args below meth c s₁ B hml hv
  obtain ⟨rfl, hP, hK, hN, hZ⟩ := hv
  have hx := B.exec
  have hb := B.bytes
  have hr := B.returns
  have hts := atoms_spec (ws := wsX1_trait) B.pre
  have hown : s.vm.findClass "CreaturePond$Animal" = some m.cls := findClass_of_methodNamed B.named
  have hlocks := B.notSynchronized
  have hS : va_S (cp_A L) s.heap s.heap [] := va_S.rf
  have htT : ∀ w ∈ cp_T, w.before ([.ref (L.2.1 k0), .int x1] : List Value).toArray s = true := fun w h => hts w (List.mem_cons_of_mem _ h)
  have hl := lv_entry (([.ref (L.2.1 k0), .int x1] : List Value)) (n := 2) (Nat.le_of_ble_eq_true rfl)
  rw [lg_entry_eq]
  generalize (lg_sl (([.ref (L.2.1 k0), .int x1] : List Value)) ++ List.replicate (2 - (lg_sl (([.ref (L.2.1 k0), .int x1] : List Value))).length) Slot.unset).toArray = ls at hl ⊢
  have hl : lv_has ls 2 [(0, .ref (L.2.1 k0)), (1, .int x1)] := hl
  unfold fn_X1_trait at hF
  refine lv_iload_n hx hb dX1_trait_0 rfl (lv_at hl 1 rfl) ?_
  by_cases hc1 : x1 = (10 : Int32)
  · rw [if_pos hc1] at hF
    refine lv_tableIn (tgt := 52) hx hb dX1_trait_1 (by rw [hc1]; decide) (by rw [hc1]; decide) (by rw [hc1]; rfl) (by decide) ?_
    refine lv_aload_n hx hb dX1_trait_52 rfl (lv_at hl 0 rfl) ?_
    obtain ⟨v2, ev2, hF⟩ := cp_bind hF
    refine cp_getI (T := TX1) (N := 14) (ci := 1) (j := 6) hx hb htT hinX1 hown hK hP rfl (by decide) rfl (htT _ tw_74) ev2 dX1_trait_53 ?_
    exact cp_iret hx hb hr hlocks hF hP hS dX1_trait_56
  · rw [if_neg hc1] at hF
    by_cases hc3 : x1 = (11 : Int32)
    · rw [if_pos hc3] at hF
      refine lv_tableIn (tgt := 57) hx hb dX1_trait_1 (by rw [hc3]; decide) (by rw [hc3]; decide) (by rw [hc3]; rfl) (by decide) ?_
      refine lv_aload_n hx hb dX1_trait_57 rfl (lv_at hl 0 rfl) ?_
      obtain ⟨v4, ev4, hF⟩ := cp_bind hF
      refine cp_getI (T := TX1) (N := 14) (ci := 1) (j := 7) hx hb htT hinX1 hown hK hP rfl (by decide) rfl (htT _ tw_75) ev4 dX1_trait_58 ?_
      exact cp_iret hx hb hr hlocks hF hP hS dX1_trait_61
    · rw [if_neg hc3] at hF
      by_cases hc5 : x1 = (12 : Int32)
      · rw [if_pos hc5] at hF
        refine lv_tableIn (tgt := 62) hx hb dX1_trait_1 (by rw [hc5]; decide) (by rw [hc5]; decide) (by rw [hc5]; rfl) (by decide) ?_
        refine lv_aload_n hx hb dX1_trait_62 rfl (lv_at hl 0 rfl) ?_
        obtain ⟨v6, ev6, hF⟩ := cp_bind hF
        refine cp_getI (T := TX1) (N := 14) (ci := 1) (j := 8) hx hb htT hinX1 hown hK hP rfl (by decide) rfl (htT _ tw_76) ev6 dX1_trait_63 ?_
        exact cp_iret hx hb hr hlocks hF hP hS dX1_trait_66
      · rw [if_neg hc5] at hF
        by_cases hc7 : x1 = (13 : Int32)
        · rw [if_pos hc7] at hF
          refine lv_tableIn (tgt := 67) hx hb dX1_trait_1 (by rw [hc7]; decide) (by rw [hc7]; decide) (by rw [hc7]; rfl) (by decide) ?_
          refine lv_aload_n hx hb dX1_trait_67 rfl (lv_at hl 0 rfl) ?_
          obtain ⟨v8, ev8, hF⟩ := cp_bind hF
          refine cp_getI (T := TX1) (N := 14) (ci := 1) (j := 10) hx hb htT hinX1 hown hK hP rfl (by decide) rfl (htT _ tw_78) ev8 dX1_trait_68 ?_
          exact cp_iret hx hb hr hlocks hF hP hS dX1_trait_71
        · rw [if_neg hc7] at hF
          by_cases hc9 : x1 = (14 : Int32)
          · rw [if_pos hc9] at hF
            refine lv_tableIn (tgt := 72) hx hb dX1_trait_1 (by rw [hc9]; decide) (by rw [hc9]; decide) (by rw [hc9]; rfl) (by decide) ?_
            refine lv_aload_n hx hb dX1_trait_72 rfl (lv_at hl 0 rfl) ?_
            obtain ⟨v10, ev10, hF⟩ := cp_bind hF
            refine cp_getI (T := TX1) (N := 14) (ci := 1) (j := 9) hx hb htT hinX1 hown hK hP rfl (by decide) rfl (htT _ tw_77) ev10 dX1_trait_73 ?_
            exact cp_iret hx hb hr hlocks hF hP hS dX1_trait_76
          · rw [if_neg hc9] at hF
            by_cases hc11 : x1 = (15 : Int32)
            · rw [if_pos hc11] at hF
              refine lv_tableIn (tgt := 77) hx hb dX1_trait_1 (by rw [hc11]; decide) (by rw [hc11]; decide) (by rw [hc11]; rfl) (by decide) ?_
              refine lv_aload_n hx hb dX1_trait_77 rfl (lv_at hl 0 rfl) ?_
              obtain ⟨v12, ev12, hF⟩ := cp_bind hF
              refine cp_getI (T := TX1) (N := 14) (ci := 1) (j := 11) hx hb htT hinX1 hown hK hP rfl (by decide) rfl (htT _ tw_79) ev12 dX1_trait_78 ?_
              exact cp_iret hx hb hr hlocks hF hP hS dX1_trait_81
            · rw [if_neg hc11] at hF
              by_cases hc13 : x1 = (16 : Int32)
              · rw [if_pos hc13] at hF
                refine lv_tableIn (tgt := 82) hx hb dX1_trait_1 (by rw [hc13]; decide) (by rw [hc13]; decide) (by rw [hc13]; rfl) (by decide) ?_
                refine lv_aload_n hx hb dX1_trait_82 rfl (lv_at hl 0 rfl) ?_
                obtain ⟨v14, ev14, hF⟩ := cp_bind hF
                refine cp_getI (T := TX1) (N := 14) (ci := 1) (j := 12) hx hb htT hinX1 hown hK hP rfl (by decide) rfl (htT _ tw_80) ev14 dX1_trait_83 ?_
                exact cp_iret hx hb hr hlocks hF hP hS dX1_trait_86
              · rw [if_neg hc13] at hF
                by_cases hc15 : x1 = (17 : Int32)
                · rw [if_pos hc15] at hF
                  refine lv_tableIn (tgt := 87) hx hb dX1_trait_1 (by rw [hc15]; decide) (by rw [hc15]; decide) (by rw [hc15]; rfl) (by decide) ?_
                  refine lv_aload_n hx hb dX1_trait_87 rfl (lv_at hl 0 rfl) ?_
                  obtain ⟨v16, ev16, hF⟩ := cp_bind hF
                  refine cp_getI (T := TX1) (N := 14) (ci := 1) (j := 13) hx hb htT hinX1 hown hK hP rfl (by decide) rfl (htT _ tw_81) ev16 dX1_trait_88 ?_
                  exact cp_iret hx hb hr hlocks hF hP hS dX1_trait_91
                · rw [if_neg hc15] at hF
                  by_cases hc17 : x1 = (18 : Int32)
                  · rw [if_pos hc17] at hF
                    refine lv_tableIn (tgt := 92) hx hb dX1_trait_1 (by rw [hc17]; decide) (by rw [hc17]; decide) (by rw [hc17]; rfl) (by decide) ?_
                    refine lv_aload_n hx hb dX1_trait_92 rfl (lv_at hl 0 rfl) ?_
                    obtain ⟨v18, ev18, hF⟩ := cp_bind hF
                    refine cp_getI (T := TX1) (N := 14) (ci := 1) (j := 4) hx hb htT hinX1 hown hK hP rfl (by decide) rfl (htT _ tw_72) ev18 dX1_trait_93 ?_
                    refine lv_if_eq (tgt := 103) hx hb dX1_trait_96 (by decide) (fun hc19 => ?_) (fun hc19 => ?_)
                    · rw [if_pos hc19] at hF
                      refine lv_iconst (v := (0 : Int32)) hx hb dX1_trait_103 (by decide) ?_
                      exact cp_iret hx hb hr hlocks hF hP hS dX1_trait_104
                    · rw [if_neg hc19] at hF
                      refine lv_iconst (v := (1 : Int32)) hx hb dX1_trait_99 (by decide) ?_
                      refine lv_goto (tgt := 104) hx hb dX1_trait_100 (by decide) ?_
                      exact cp_iret hx hb hr hlocks hF hP hS dX1_trait_104
                  · rw [if_neg hc17] at hF
                    have zhc1 := lv_neT (a := 10) hc1 (by decide)
                    have zhc3 := lv_neT (a := 11) hc3 (by decide)
                    have zhc5 := lv_neT (a := 12) hc5 (by decide)
                    have zhc7 := lv_neT (a := 13) hc7 (by decide)
                    have zhc9 := lv_neT (a := 14) hc9 (by decide)
                    have zhc11 := lv_neT (a := 15) hc11 (by decide)
                    have zhc13 := lv_neT (a := 16) hc13 (by decide)
                    have zhc15 := lv_neT (a := 17) hc15 (by decide)
                    have zhc17 := lv_neT (a := 18) hc17 (by decide)
                    refine lv_tableOut (tgt := 105) hx hb dX1_trait_1 (by omega) (by decide) ?_
                    refine lv_iconst (v := (-1 : Int32)) hx hb dX1_trait_105 (by decide) ?_
                    exact cp_iret hx hb hr hlocks hF hP hS dX1_trait_106
theorem dX1_copyFrom_0 : decode cX1_copyFrom 0 = .ok (.aload_n 1, 1) := by decide +kernel
theorem dX1_copyFrom_1 : decode cX1_copyFrom 1 = .ok (.getfield 9, 3) := by decide +kernel
theorem dX1_copyFrom_4 : decode cX1_copyFrom 4 = .ok (.iconst 0, 1) := by decide +kernel
theorem dX1_copyFrom_5 : decode cX1_copyFrom 5 = .ok (.aload_n 0, 1) := by decide +kernel
theorem dX1_copyFrom_6 : decode cX1_copyFrom 6 = .ok (.getfield 9, 3) := by decide +kernel
theorem dX1_copyFrom_9 : decode cX1_copyFrom 9 = .ok (.iconst 0, 1) := by decide +kernel
theorem dX1_copyFrom_10 : decode cX1_copyFrom 10 = .ok (.bipush 8, 2) := by decide +kernel
theorem dX1_copyFrom_12 : decode cX1_copyFrom 12 = .ok (.invokestatic 56, 3) := by decide +kernel
theorem dX1_copyFrom_15 : decode cX1_copyFrom 15 = .ok (.aload_n 1, 1) := by decide +kernel
theorem dX1_copyFrom_16 : decode cX1_copyFrom 16 = .ok (.getfield 15, 3) := by decide +kernel
theorem dX1_copyFrom_19 : decode cX1_copyFrom 19 = .ok (.iconst 0, 1) := by decide +kernel
theorem dX1_copyFrom_20 : decode cX1_copyFrom 20 = .ok (.aload_n 0, 1) := by decide +kernel
theorem dX1_copyFrom_21 : decode cX1_copyFrom 21 = .ok (.getfield 15, 3) := by decide +kernel
theorem dX1_copyFrom_24 : decode cX1_copyFrom 24 = .ok (.iconst 0, 1) := by decide +kernel
theorem dX1_copyFrom_25 : decode cX1_copyFrom 25 = .ok (.bipush 16, 2) := by decide +kernel
theorem dX1_copyFrom_27 : decode cX1_copyFrom 27 = .ok (.invokestatic 56, 3) := by decide +kernel
theorem dX1_copyFrom_30 : decode cX1_copyFrom 30 = .ok (.aload_n 1, 1) := by decide +kernel
theorem dX1_copyFrom_31 : decode cX1_copyFrom 31 = .ok (.getfield 18, 3) := by decide +kernel
theorem dX1_copyFrom_34 : decode cX1_copyFrom 34 = .ok (.iconst 0, 1) := by decide +kernel
theorem dX1_copyFrom_35 : decode cX1_copyFrom 35 = .ok (.aload_n 0, 1) := by decide +kernel
theorem dX1_copyFrom_36 : decode cX1_copyFrom 36 = .ok (.getfield 18, 3) := by decide +kernel
theorem dX1_copyFrom_39 : decode cX1_copyFrom 39 = .ok (.iconst 0, 1) := by decide +kernel
theorem dX1_copyFrom_40 : decode cX1_copyFrom 40 = .ok (.bipush 20, 2) := by decide +kernel
theorem dX1_copyFrom_42 : decode cX1_copyFrom 42 = .ok (.invokestatic 56, 3) := by decide +kernel
theorem dX1_copyFrom_45 : decode cX1_copyFrom 45 = .ok (.aload_n 0, 1) := by decide +kernel
theorem dX1_copyFrom_46 : decode cX1_copyFrom 46 = .ok (.aload_n 1, 1) := by decide +kernel
theorem dX1_copyFrom_47 : decode cX1_copyFrom 47 = .ok (.getfield 21, 3) := by decide +kernel
theorem dX1_copyFrom_50 : decode cX1_copyFrom 50 = .ok (.putfield 21, 3) := by decide +kernel
theorem dX1_copyFrom_53 : decode cX1_copyFrom 53 = .ok (.aload_n 0, 1) := by decide +kernel
theorem dX1_copyFrom_54 : decode cX1_copyFrom 54 = .ok (.aload_n 1, 1) := by decide +kernel
theorem dX1_copyFrom_55 : decode cX1_copyFrom 55 = .ok (.getfield 25, 3) := by decide +kernel
theorem dX1_copyFrom_58 : decode cX1_copyFrom 58 = .ok (.putfield 25, 3) := by decide +kernel
theorem dX1_copyFrom_61 : decode cX1_copyFrom 61 = .ok (.aload_n 0, 1) := by decide +kernel
theorem dX1_copyFrom_62 : decode cX1_copyFrom 62 = .ok (.aload_n 1, 1) := by decide +kernel
theorem dX1_copyFrom_63 : decode cX1_copyFrom 63 = .ok (.getfield 28, 3) := by decide +kernel
theorem dX1_copyFrom_66 : decode cX1_copyFrom 66 = .ok (.putfield 28, 3) := by decide +kernel
theorem dX1_copyFrom_69 : decode cX1_copyFrom 69 = .ok (.aload_n 0, 1) := by decide +kernel
theorem dX1_copyFrom_70 : decode cX1_copyFrom 70 = .ok (.aload_n 1, 1) := by decide +kernel
theorem dX1_copyFrom_71 : decode cX1_copyFrom 71 = .ok (.getfield 32, 3) := by decide +kernel
theorem dX1_copyFrom_74 : decode cX1_copyFrom 74 = .ok (.putfield 32, 3) := by decide +kernel
theorem dX1_copyFrom_77 : decode cX1_copyFrom 77 = .ok (.aload_n 0, 1) := by decide +kernel
theorem dX1_copyFrom_78 : decode cX1_copyFrom 78 = .ok (.aload_n 1, 1) := by decide +kernel
theorem dX1_copyFrom_79 : decode cX1_copyFrom 79 = .ok (.getfield 35, 3) := by decide +kernel
theorem dX1_copyFrom_82 : decode cX1_copyFrom 82 = .ok (.putfield 35, 3) := by decide +kernel
theorem dX1_copyFrom_85 : decode cX1_copyFrom 85 = .ok (.aload_n 0, 1) := by decide +kernel
theorem dX1_copyFrom_86 : decode cX1_copyFrom 86 = .ok (.aload_n 1, 1) := by decide +kernel
theorem dX1_copyFrom_87 : decode cX1_copyFrom 87 = .ok (.getfield 38, 3) := by decide +kernel
theorem dX1_copyFrom_90 : decode cX1_copyFrom 90 = .ok (.putfield 38, 3) := by decide +kernel
theorem dX1_copyFrom_93 : decode cX1_copyFrom 93 = .ok (.aload_n 0, 1) := by decide +kernel
theorem dX1_copyFrom_94 : decode cX1_copyFrom 94 = .ok (.aload_n 1, 1) := by decide +kernel
theorem dX1_copyFrom_95 : decode cX1_copyFrom 95 = .ok (.getfield 41, 3) := by decide +kernel
theorem dX1_copyFrom_98 : decode cX1_copyFrom 98 = .ok (.putfield 41, 3) := by decide +kernel
theorem dX1_copyFrom_101 : decode cX1_copyFrom 101 = .ok (.aload_n 0, 1) := by decide +kernel
theorem dX1_copyFrom_102 : decode cX1_copyFrom 102 = .ok (.aload_n 1, 1) := by decide +kernel
theorem dX1_copyFrom_103 : decode cX1_copyFrom 103 = .ok (.getfield 44, 3) := by decide +kernel
theorem dX1_copyFrom_106 : decode cX1_copyFrom 106 = .ok (.putfield 44, 3) := by decide +kernel
theorem dX1_copyFrom_109 : decode cX1_copyFrom 109 = .ok (.aload_n 0, 1) := by decide +kernel
theorem dX1_copyFrom_110 : decode cX1_copyFrom 110 = .ok (.aload_n 1, 1) := by decide +kernel
theorem dX1_copyFrom_111 : decode cX1_copyFrom 111 = .ok (.getfield 47, 3) := by decide +kernel
theorem dX1_copyFrom_114 : decode cX1_copyFrom 114 = .ok (.putfield 47, 3) := by decide +kernel
theorem dX1_copyFrom_117 : decode cX1_copyFrom 117 = .ok (.aload_n 0, 1) := by decide +kernel
theorem dX1_copyFrom_118 : decode cX1_copyFrom 118 = .ok (.aload_n 1, 1) := by decide +kernel
theorem dX1_copyFrom_119 : decode cX1_copyFrom 119 = .ok (.getfield 50, 3) := by decide +kernel
theorem dX1_copyFrom_122 : decode cX1_copyFrom 122 = .ok (.putfield 50, 3) := by decide +kernel
theorem dX1_copyFrom_125 : decode cX1_copyFrom 125 = .ok (.aload_n 0, 1) := by decide +kernel
theorem dX1_copyFrom_126 : decode cX1_copyFrom 126 = .ok (.aload_n 1, 1) := by decide +kernel
theorem dX1_copyFrom_127 : decode cX1_copyFrom 127 = .ok (.getfield 53, 3) := by decide +kernel
theorem dX1_copyFrom_130 : decode cX1_copyFrom 130 = .ok (.putfield 53, 3) := by decide +kernel
theorem dX1_copyFrom_133 : decode cX1_copyFrom 133 = .ok (.return_, 1) := by decide +kernel
def fn_X1_copyFrom (L : cp_Lay) (q : Nat) (k0 : Nat) (k1 : Nat) (D : cp_Dt) : Option (cp_Dt) :=
  (cp_gR L k1 1 0).bind fun r1 =>
  (cp_gR L k0 1 0).bind fun r2 =>
  (cp_cp L D 1 r1 (0 : Int32) r2 (0 : Int32) (8 : Int32)).bind fun D3 =>
  (cp_gR L k1 1 1).bind fun r4 =>
  (cp_gR L k0 1 1).bind fun r5 =>
  (cp_cp L D3 1 r4 (0 : Int32) r5 (0 : Int32) (16 : Int32)).bind fun D6 =>
  (cp_gR L k1 1 2).bind fun r7 =>
  (cp_gR L k0 1 2).bind fun r8 =>
  (cp_cp L D6 1 r7 (0 : Int32) r8 (0 : Int32) (20 : Int32)).bind fun D9 =>
  (cp_gI L D9 k1 1 3).bind fun v10 =>
  (cp_pZ L D9 k0 1 3 v10).bind fun D11 =>
  (cp_gI L D11 k1 1 4).bind fun v12 =>
  (cp_pZ L D11 k0 1 4 v12).bind fun D13 =>
  (cp_gI L D13 k1 1 5).bind fun v14 =>
  (cp_pI L D13 k0 1 5 v14).bind fun D15 =>
  (cp_gI L D15 k1 1 6).bind fun v16 =>
  (cp_pI L D15 k0 1 6 v16).bind fun D17 =>
  (cp_gI L D17 k1 1 7).bind fun v18 =>
  (cp_pI L D17 k0 1 7 v18).bind fun D19 =>
  (cp_gI L D19 k1 1 8).bind fun v20 =>
  (cp_pI L D19 k0 1 8 v20).bind fun D21 =>
  (cp_gI L D21 k1 1 9).bind fun v22 =>
  (cp_pI L D21 k0 1 9 v22).bind fun D23 =>
  (cp_gI L D23 k1 1 10).bind fun v24 =>
  (cp_pI L D23 k0 1 10 v24).bind fun D25 =>
  (cp_gI L D25 k1 1 11).bind fun v26 =>
  (cp_pI L D25 k0 1 11 v26).bind fun D27 =>
  (cp_gI L D27 k1 1 12).bind fun v28 =>
  (cp_pI L D27 k0 1 12 v28).bind fun D29 =>
  (cp_gI L D29 k1 1 13).bind fun v30 =>
  (cp_pI L D29 k0 1 13 v30).bind fun D31 =>
  some D31
set_option maxHeartbeats 4000000 in
set_option maxRecDepth 100000 in
theorem ct_X1_copyFrom (l : Launch) (G : va_G) (L : cp_Lay) (hJ : cp_J L) (q : Nat) (k0 : Nat) (k1 : Nat) (D : cp_Dt) (res : cp_Dt) (hF : fn_X1_copyFrom L q k0 k1 D = some res) : cp_Met l G yX1_copyFrom wsX1_copyFrom ({ frames := 1, cells := 0, slots := 0, locals := 26 }) L ([.ref (L.2.1 k0), .ref (L.2.1 k1)] : List Value) D res none := by
  refine Met.ofW (cc := cX1_copyFrom) (maxL := 2) (ret := none) (by decide) rfl ?_
  intro p e s m args below meth c s₁ B hml hv
  obtain ⟨rfl, hP, hK, hN, hZ⟩ := hv
  have hx := B.exec
  have hb := B.bytes
  have hr := B.returns
  have hts := atoms_spec (ws := wsX1_copyFrom) B.pre
  have hown : s.vm.findClass "CreaturePond$Animal" = some m.cls := findClass_of_methodNamed B.named
  have hlocks := B.notSynchronized
  have hS : va_S (cp_A L) s.heap s.heap [] := va_S.rf
  have htT : ∀ w ∈ cp_T, w.before ([.ref (L.2.1 k0), .ref (L.2.1 k1)] : List Value).toArray s = true := fun w h => hts w (List.mem_cons_of_mem _ h)
  have hl := lv_entry (([.ref (L.2.1 k0), .ref (L.2.1 k1)] : List Value)) (n := 2) (Nat.le_of_ble_eq_true rfl)
  rw [lg_entry_eq]
  generalize (lg_sl (([.ref (L.2.1 k0), .ref (L.2.1 k1)] : List Value)) ++ List.replicate (2 - (lg_sl (([.ref (L.2.1 k0), .ref (L.2.1 k1)] : List Value))).length) Slot.unset).toArray = ls at hl ⊢
  have hl : lv_has ls 2 [(0, .ref (L.2.1 k0)), (1, .ref (L.2.1 k1))] := hl
  unfold fn_X1_copyFrom at hF
  refine lv_aload_n hx hb dX1_copyFrom_0 rfl (lv_at hl 1 rfl) ?_
  obtain ⟨r1, er1, hF⟩ := cp_bind hF
  refine cp_getR (T := TX1) (N := 14) (ci := 1) (j := 0) hx hb htT hinX1 hown hK hP rfl (by decide) rfl (htT _ tw_68) er1 dX1_copyFrom_1 ?_
  refine lv_iconst (v := (0 : Int32)) hx hb dX1_copyFrom_4 (by decide) ?_
  refine lv_aload_n hx hb dX1_copyFrom_5 rfl (lv_at hl 0 rfl) ?_
  obtain ⟨r2, er2, hF⟩ := cp_bind hF
  refine cp_getR (T := TX1) (N := 14) (ci := 1) (j := 0) hx hb htT hinX1 hown hK hP rfl (by decide) rfl (htT _ tw_68) er2 dX1_copyFrom_6 ?_
  refine lv_iconst (v := (0 : Int32)) hx hb dX1_copyFrom_9 (by decide) ?_
  refine lv_bipush (v := (8 : Int32)) hx hb dX1_copyFrom_10 (by decide) ?_
  obtain ⟨D3, eD3, hF⟩ := cp_bind hF
  refine cp_copy hx hb (by rw [hml]; exact hl.1.symm) hown (htT _ tw_193) (htT _ tw_190) (htT _ tw_189) (htT _ tw_15) hK hJ hP hS (Or.inr rfl) eD3 (Nat.le_of_ble_eq_true rfl) (Nat.le_of_ble_eq_true rfl) dX1_copyFrom_12 (fun H locs hP hS => ?_)
  refine lv_aload_n hx hb dX1_copyFrom_15 rfl (lv_at hl 1 rfl) ?_
  obtain ⟨r4, er4, hF⟩ := cp_bind hF
  refine cp_getR (T := TX1) (N := 14) (ci := 1) (j := 1) hx hb htT hinX1 hown hK hP rfl (by decide) rfl (htT _ tw_69) er4 dX1_copyFrom_16 ?_
  refine lv_iconst (v := (0 : Int32)) hx hb dX1_copyFrom_19 (by decide) ?_
  refine lv_aload_n hx hb dX1_copyFrom_20 rfl (lv_at hl 0 rfl) ?_
  obtain ⟨r5, er5, hF⟩ := cp_bind hF
  refine cp_getR (T := TX1) (N := 14) (ci := 1) (j := 1) hx hb htT hinX1 hown hK hP rfl (by decide) rfl (htT _ tw_69) er5 dX1_copyFrom_21 ?_
  refine lv_iconst (v := (0 : Int32)) hx hb dX1_copyFrom_24 (by decide) ?_
  refine lv_bipush (v := (16 : Int32)) hx hb dX1_copyFrom_25 (by decide) ?_
  obtain ⟨D6, eD6, hF⟩ := cp_bind hF
  refine cp_copy hx hb (by rw [hml]; exact hl.1.symm) hown (htT _ tw_193) (htT _ tw_190) (htT _ tw_189) (htT _ tw_15) hK hJ hP hS (Or.inr rfl) eD6 (Nat.le_of_ble_eq_true rfl) (Nat.le_of_ble_eq_true rfl) dX1_copyFrom_27 (fun H locs hP hS => ?_)
  refine lv_aload_n hx hb dX1_copyFrom_30 rfl (lv_at hl 1 rfl) ?_
  obtain ⟨r7, er7, hF⟩ := cp_bind hF
  refine cp_getR (T := TX1) (N := 14) (ci := 1) (j := 2) hx hb htT hinX1 hown hK hP rfl (by decide) rfl (htT _ tw_70) er7 dX1_copyFrom_31 ?_
  refine lv_iconst (v := (0 : Int32)) hx hb dX1_copyFrom_34 (by decide) ?_
  refine lv_aload_n hx hb dX1_copyFrom_35 rfl (lv_at hl 0 rfl) ?_
  obtain ⟨r8, er8, hF⟩ := cp_bind hF
  refine cp_getR (T := TX1) (N := 14) (ci := 1) (j := 2) hx hb htT hinX1 hown hK hP rfl (by decide) rfl (htT _ tw_70) er8 dX1_copyFrom_36 ?_
  refine lv_iconst (v := (0 : Int32)) hx hb dX1_copyFrom_39 (by decide) ?_
  refine lv_bipush (v := (20 : Int32)) hx hb dX1_copyFrom_40 (by decide) ?_
  obtain ⟨D9, eD9, hF⟩ := cp_bind hF
  refine cp_copy hx hb (by rw [hml]; exact hl.1.symm) hown (htT _ tw_193) (htT _ tw_190) (htT _ tw_189) (htT _ tw_15) hK hJ hP hS (Or.inr rfl) eD9 (Nat.le_of_ble_eq_true rfl) (Nat.le_of_ble_eq_true rfl) dX1_copyFrom_42 (fun H locs hP hS => ?_)
  refine lv_aload_n hx hb dX1_copyFrom_45 rfl (lv_at hl 0 rfl) ?_
  refine lv_aload_n hx hb dX1_copyFrom_46 rfl (lv_at hl 1 rfl) ?_
  obtain ⟨v10, ev10, hF⟩ := cp_bind hF
  refine cp_getI (T := TX1) (N := 14) (ci := 1) (j := 3) hx hb htT hinX1 hown hK hP rfl (by decide) rfl (htT _ tw_71) ev10 dX1_copyFrom_47 ?_
  obtain ⟨D11, eD11, hF⟩ := cp_bind hF
  refine cp_put (T := TX1) (N := 14) (ci := 1) (j := 3) hx hb htT hinX1 tyX1 tyX1_ok nmX1 hown hK hJ hP hS rfl (by decide) rfl (htT _ tw_71) rfl (cp_pZ_spec eD11).2.1 (cp_pZ_spec eD11).2.2 (cp_pZ_spec eD11).1 dX1_copyFrom_50 (fun H locs hP hS => ?_)
  refine lv_aload_n hx hb dX1_copyFrom_53 rfl (lv_at hl 0 rfl) ?_
  refine lv_aload_n hx hb dX1_copyFrom_54 rfl (lv_at hl 1 rfl) ?_
  obtain ⟨v12, ev12, hF⟩ := cp_bind hF
  refine cp_getI (T := TX1) (N := 14) (ci := 1) (j := 4) hx hb htT hinX1 hown hK hP rfl (by decide) rfl (htT _ tw_72) ev12 dX1_copyFrom_55 ?_
  obtain ⟨D13, eD13, hF⟩ := cp_bind hF
  refine cp_put (T := TX1) (N := 14) (ci := 1) (j := 4) hx hb htT hinX1 tyX1 tyX1_ok nmX1 hown hK hJ hP hS rfl (by decide) rfl (htT _ tw_72) rfl (cp_pZ_spec eD13).2.1 (cp_pZ_spec eD13).2.2 (cp_pZ_spec eD13).1 dX1_copyFrom_58 (fun H locs hP hS => ?_)
  refine lv_aload_n hx hb dX1_copyFrom_61 rfl (lv_at hl 0 rfl) ?_
  refine lv_aload_n hx hb dX1_copyFrom_62 rfl (lv_at hl 1 rfl) ?_
  obtain ⟨v14, ev14, hF⟩ := cp_bind hF
  refine cp_getI (T := TX1) (N := 14) (ci := 1) (j := 5) hx hb htT hinX1 hown hK hP rfl (by decide) rfl (htT _ tw_73) ev14 dX1_copyFrom_63 ?_
  obtain ⟨D15, eD15, hF⟩ := cp_bind hF
  refine cp_put (T := TX1) (N := 14) (ci := 1) (j := 5) hx hb htT hinX1 tyX1 tyX1_ok nmX1 hown hK hJ hP hS rfl (by decide) rfl (htT _ tw_73) rfl rfl rfl eD15 dX1_copyFrom_66 (fun H locs hP hS => ?_)
  refine lv_aload_n hx hb dX1_copyFrom_69 rfl (lv_at hl 0 rfl) ?_
  refine lv_aload_n hx hb dX1_copyFrom_70 rfl (lv_at hl 1 rfl) ?_
  obtain ⟨v16, ev16, hF⟩ := cp_bind hF
  refine cp_getI (T := TX1) (N := 14) (ci := 1) (j := 6) hx hb htT hinX1 hown hK hP rfl (by decide) rfl (htT _ tw_74) ev16 dX1_copyFrom_71 ?_
  obtain ⟨D17, eD17, hF⟩ := cp_bind hF
  refine cp_put (T := TX1) (N := 14) (ci := 1) (j := 6) hx hb htT hinX1 tyX1 tyX1_ok nmX1 hown hK hJ hP hS rfl (by decide) rfl (htT _ tw_74) rfl rfl rfl eD17 dX1_copyFrom_74 (fun H locs hP hS => ?_)
  refine lv_aload_n hx hb dX1_copyFrom_77 rfl (lv_at hl 0 rfl) ?_
  refine lv_aload_n hx hb dX1_copyFrom_78 rfl (lv_at hl 1 rfl) ?_
  obtain ⟨v18, ev18, hF⟩ := cp_bind hF
  refine cp_getI (T := TX1) (N := 14) (ci := 1) (j := 7) hx hb htT hinX1 hown hK hP rfl (by decide) rfl (htT _ tw_75) ev18 dX1_copyFrom_79 ?_
  obtain ⟨D19, eD19, hF⟩ := cp_bind hF
  refine cp_put (T := TX1) (N := 14) (ci := 1) (j := 7) hx hb htT hinX1 tyX1 tyX1_ok nmX1 hown hK hJ hP hS rfl (by decide) rfl (htT _ tw_75) rfl rfl rfl eD19 dX1_copyFrom_82 (fun H locs hP hS => ?_)
  refine lv_aload_n hx hb dX1_copyFrom_85 rfl (lv_at hl 0 rfl) ?_
  refine lv_aload_n hx hb dX1_copyFrom_86 rfl (lv_at hl 1 rfl) ?_
  obtain ⟨v20, ev20, hF⟩ := cp_bind hF
  refine cp_getI (T := TX1) (N := 14) (ci := 1) (j := 8) hx hb htT hinX1 hown hK hP rfl (by decide) rfl (htT _ tw_76) ev20 dX1_copyFrom_87 ?_
  obtain ⟨D21, eD21, hF⟩ := cp_bind hF
  refine cp_put (T := TX1) (N := 14) (ci := 1) (j := 8) hx hb htT hinX1 tyX1 tyX1_ok nmX1 hown hK hJ hP hS rfl (by decide) rfl (htT _ tw_76) rfl rfl rfl eD21 dX1_copyFrom_90 (fun H locs hP hS => ?_)
  refine lv_aload_n hx hb dX1_copyFrom_93 rfl (lv_at hl 0 rfl) ?_
  refine lv_aload_n hx hb dX1_copyFrom_94 rfl (lv_at hl 1 rfl) ?_
  obtain ⟨v22, ev22, hF⟩ := cp_bind hF
  refine cp_getI (T := TX1) (N := 14) (ci := 1) (j := 9) hx hb htT hinX1 hown hK hP rfl (by decide) rfl (htT _ tw_77) ev22 dX1_copyFrom_95 ?_
  obtain ⟨D23, eD23, hF⟩ := cp_bind hF
  refine cp_put (T := TX1) (N := 14) (ci := 1) (j := 9) hx hb htT hinX1 tyX1 tyX1_ok nmX1 hown hK hJ hP hS rfl (by decide) rfl (htT _ tw_77) rfl rfl rfl eD23 dX1_copyFrom_98 (fun H locs hP hS => ?_)
  refine lv_aload_n hx hb dX1_copyFrom_101 rfl (lv_at hl 0 rfl) ?_
  refine lv_aload_n hx hb dX1_copyFrom_102 rfl (lv_at hl 1 rfl) ?_
  obtain ⟨v24, ev24, hF⟩ := cp_bind hF
  refine cp_getI (T := TX1) (N := 14) (ci := 1) (j := 10) hx hb htT hinX1 hown hK hP rfl (by decide) rfl (htT _ tw_78) ev24 dX1_copyFrom_103 ?_
  obtain ⟨D25, eD25, hF⟩ := cp_bind hF
  refine cp_put (T := TX1) (N := 14) (ci := 1) (j := 10) hx hb htT hinX1 tyX1 tyX1_ok nmX1 hown hK hJ hP hS rfl (by decide) rfl (htT _ tw_78) rfl rfl rfl eD25 dX1_copyFrom_106 (fun H locs hP hS => ?_)
  refine lv_aload_n hx hb dX1_copyFrom_109 rfl (lv_at hl 0 rfl) ?_
  refine lv_aload_n hx hb dX1_copyFrom_110 rfl (lv_at hl 1 rfl) ?_
  obtain ⟨v26, ev26, hF⟩ := cp_bind hF
  refine cp_getI (T := TX1) (N := 14) (ci := 1) (j := 11) hx hb htT hinX1 hown hK hP rfl (by decide) rfl (htT _ tw_79) ev26 dX1_copyFrom_111 ?_
  obtain ⟨D27, eD27, hF⟩ := cp_bind hF
  refine cp_put (T := TX1) (N := 14) (ci := 1) (j := 11) hx hb htT hinX1 tyX1 tyX1_ok nmX1 hown hK hJ hP hS rfl (by decide) rfl (htT _ tw_79) rfl rfl rfl eD27 dX1_copyFrom_114 (fun H locs hP hS => ?_)
  refine lv_aload_n hx hb dX1_copyFrom_117 rfl (lv_at hl 0 rfl) ?_
  refine lv_aload_n hx hb dX1_copyFrom_118 rfl (lv_at hl 1 rfl) ?_
  obtain ⟨v28, ev28, hF⟩ := cp_bind hF
  refine cp_getI (T := TX1) (N := 14) (ci := 1) (j := 12) hx hb htT hinX1 hown hK hP rfl (by decide) rfl (htT _ tw_80) ev28 dX1_copyFrom_119 ?_
  obtain ⟨D29, eD29, hF⟩ := cp_bind hF
  refine cp_put (T := TX1) (N := 14) (ci := 1) (j := 12) hx hb htT hinX1 tyX1 tyX1_ok nmX1 hown hK hJ hP hS rfl (by decide) rfl (htT _ tw_80) rfl rfl rfl eD29 dX1_copyFrom_122 (fun H locs hP hS => ?_)
  refine lv_aload_n hx hb dX1_copyFrom_125 rfl (lv_at hl 0 rfl) ?_
  refine lv_aload_n hx hb dX1_copyFrom_126 rfl (lv_at hl 1 rfl) ?_
  obtain ⟨v30, ev30, hF⟩ := cp_bind hF
  refine cp_getI (T := TX1) (N := 14) (ci := 1) (j := 13) hx hb htT hinX1 hown hK hP rfl (by decide) rfl (htT _ tw_81) ev30 dX1_copyFrom_127 ?_
  obtain ⟨D31, eD31, hF⟩ := cp_bind hF
  refine cp_put (T := TX1) (N := 14) (ci := 1) (j := 13) hx hb htT hinX1 tyX1 tyX1_ok nmX1 hown hK hJ hP hS rfl (by decide) rfl (htT _ tw_81) rfl rfl rfl eD31 dX1_copyFrom_130 (fun H locs hP hS => ?_)
  exact cp_vret hx hb hr hlocks hF hP hS dX1_copyFrom_133
theorem dX1_begin_0 : decode cX1_begin 0 = .ok (.iconst 0, 1) := by decide +kernel
theorem dX1_begin_1 : decode cX1_begin 1 = .ok (.istore 4, 2) := by decide +kernel
theorem dX1_begin_3 : decode cX1_begin 3 = .ok (.iload 4, 2) := by decide +kernel
theorem dX1_begin_5 : decode cX1_begin 5 = .ok (.bipush 8, 2) := by decide +kernel
theorem dX1_begin_7 : decode cX1_begin 7 = .ok (.if_icmp .ge 17, 3) := by decide +kernel
theorem dX1_begin_10 : decode cX1_begin 10 = .ok (.aload_n 0, 1) := by decide +kernel
theorem dX1_begin_11 : decode cX1_begin 11 = .ok (.getfield 9, 3) := by decide +kernel
theorem dX1_begin_14 : decode cX1_begin 14 = .ok (.iload 4, 2) := by decide +kernel
theorem dX1_begin_16 : decode cX1_begin 16 = .ok (.iconst 0, 1) := by decide +kernel
theorem dX1_begin_17 : decode cX1_begin 17 = .ok (.bastore, 1) := by decide +kernel
theorem dX1_begin_18 : decode cX1_begin 18 = .ok (.iinc 4 1, 3) := by decide +kernel
theorem dX1_begin_21 : decode cX1_begin 21 = .ok (.goto (-18), 3) := by decide +kernel
theorem dX1_begin_24 : decode cX1_begin 24 = .ok (.iconst 0, 1) := by decide +kernel
theorem dX1_begin_25 : decode cX1_begin 25 = .ok (.istore 4, 2) := by decide +kernel
theorem dX1_begin_27 : decode cX1_begin 27 = .ok (.iload 4, 2) := by decide +kernel
theorem dX1_begin_29 : decode cX1_begin 29 = .ok (.bipush 16, 2) := by decide +kernel
theorem dX1_begin_31 : decode cX1_begin 31 = .ok (.if_icmp .ge 17, 3) := by decide +kernel
theorem dX1_begin_34 : decode cX1_begin 34 = .ok (.aload_n 0, 1) := by decide +kernel
theorem dX1_begin_35 : decode cX1_begin 35 = .ok (.getfield 15, 3) := by decide +kernel
theorem dX1_begin_38 : decode cX1_begin 38 = .ok (.iload 4, 2) := by decide +kernel
theorem dX1_begin_40 : decode cX1_begin 40 = .ok (.iconst 0, 1) := by decide +kernel
theorem dX1_begin_41 : decode cX1_begin 41 = .ok (.bastore, 1) := by decide +kernel
theorem dX1_begin_42 : decode cX1_begin 42 = .ok (.iinc 4 1, 3) := by decide +kernel
theorem dX1_begin_45 : decode cX1_begin 45 = .ok (.goto (-18), 3) := by decide +kernel
theorem dX1_begin_48 : decode cX1_begin 48 = .ok (.aload_n 0, 1) := by decide +kernel
theorem dX1_begin_49 : decode cX1_begin 49 = .ok (.iconst 1, 1) := by decide +kernel
theorem dX1_begin_50 : decode cX1_begin 50 = .ok (.putfield 21, 3) := by decide +kernel
theorem dX1_begin_53 : decode cX1_begin 53 = .ok (.aload_n 0, 1) := by decide +kernel
theorem dX1_begin_54 : decode cX1_begin 54 = .ok (.iconst 0, 1) := by decide +kernel
theorem dX1_begin_55 : decode cX1_begin 55 = .ok (.putfield 25, 3) := by decide +kernel
theorem dX1_begin_58 : decode cX1_begin 58 = .ok (.aload_n 0, 1) := by decide +kernel
theorem dX1_begin_59 : decode cX1_begin 59 = .ok (.iload_n 1, 1) := by decide +kernel
theorem dX1_begin_60 : decode cX1_begin 60 = .ok (.putfield 28, 3) := by decide +kernel
theorem dX1_begin_63 : decode cX1_begin 63 = .ok (.aload_n 0, 1) := by decide +kernel
theorem dX1_begin_64 : decode cX1_begin 64 = .ok (.iload_n 2, 1) := by decide +kernel
theorem dX1_begin_65 : decode cX1_begin 65 = .ok (.putfield 32, 3) := by decide +kernel
theorem dX1_begin_68 : decode cX1_begin 68 = .ok (.aload_n 0, 1) := by decide +kernel
theorem dX1_begin_69 : decode cX1_begin 69 = .ok (.iload_n 3, 1) := by decide +kernel
theorem dX1_begin_70 : decode cX1_begin 70 = .ok (.putfield 35, 3) := by decide +kernel
theorem dX1_begin_73 : decode cX1_begin 73 = .ok (.aload_n 0, 1) := by decide +kernel
theorem dX1_begin_74 : decode cX1_begin 74 = .ok (.iconst 0, 1) := by decide +kernel
theorem dX1_begin_75 : decode cX1_begin 75 = .ok (.putfield 38, 3) := by decide +kernel
theorem dX1_begin_78 : decode cX1_begin 78 = .ok (.aload_n 0, 1) := by decide +kernel
theorem dX1_begin_79 : decode cX1_begin 79 = .ok (.iconst 0, 1) := by decide +kernel
theorem dX1_begin_80 : decode cX1_begin 80 = .ok (.putfield 41, 3) := by decide +kernel
theorem dX1_begin_83 : decode cX1_begin 83 = .ok (.aload_n 0, 1) := by decide +kernel
theorem dX1_begin_84 : decode cX1_begin 84 = .ok (.iconst 0, 1) := by decide +kernel
theorem dX1_begin_85 : decode cX1_begin 85 = .ok (.putfield 44, 3) := by decide +kernel
theorem dX1_begin_88 : decode cX1_begin 88 = .ok (.aload_n 0, 1) := by decide +kernel
theorem dX1_begin_89 : decode cX1_begin 89 = .ok (.iconst (-1), 1) := by decide +kernel
theorem dX1_begin_90 : decode cX1_begin 90 = .ok (.putfield 47, 3) := by decide +kernel
theorem dX1_begin_93 : decode cX1_begin 93 = .ok (.aload_n 0, 1) := by decide +kernel
theorem dX1_begin_94 : decode cX1_begin 94 = .ok (.iconst (-1), 1) := by decide +kernel
theorem dX1_begin_95 : decode cX1_begin 95 = .ok (.putfield 50, 3) := by decide +kernel
theorem dX1_begin_98 : decode cX1_begin 98 = .ok (.aload_n 0, 1) := by decide +kernel
theorem dX1_begin_99 : decode cX1_begin 99 = .ok (.iconst 0, 1) := by decide +kernel
theorem dX1_begin_100 : decode cX1_begin 100 = .ok (.putfield 53, 3) := by decide +kernel
theorem dX1_begin_103 : decode cX1_begin 103 = .ok (.return_, 1) := by decide +kernel
def fn_X1_begin_L27 (L : cp_Lay) (q : Nat) : Nat → Nat → Int32 → Int32 → Int32 → Int32 → cp_Dt → Option (cp_Dt)
  | 0, _, _, _, _, _, _ => none
  | n + 1, a0, i1, i2, i3, i4, D =>
    if (16 : Int32) ≤ i4 then ((cp_pZ L D a0 1 3 (1 : Int32)).bind fun D5 =>
    (cp_pZ L D5 a0 1 4 (0 : Int32)).bind fun D6 =>
    (cp_pI L D6 a0 1 5 i1).bind fun D7 =>
    (cp_pI L D7 a0 1 6 i2).bind fun D8 =>
    (cp_pI L D8 a0 1 7 i3).bind fun D9 =>
    (cp_pI L D9 a0 1 8 (0 : Int32)).bind fun D10 =>
    (cp_pI L D10 a0 1 9 (0 : Int32)).bind fun D11 =>
    (cp_pI L D11 a0 1 10 (0 : Int32)).bind fun D12 =>
    (cp_pI L D12 a0 1 11 (-1 : Int32)).bind fun D13 =>
    (cp_pI L D13 a0 1 12 (-1 : Int32)).bind fun D14 =>
    (cp_pI L D14 a0 1 13 (0 : Int32)).bind fun D15 =>
    some D15)
    else ((cp_gR L a0 1 1).bind fun r16 =>
    (cp_aS L D 1 r16 i4 (0 : Int32).toInt8.toInt32).bind fun D17 =>
    fn_X1_begin_L27 L q n a0 i1 i2 i3 (i4 + 1) D17)
def fn_X1_begin_L3 (L : cp_Lay) (q : Nat) : Nat → Nat → Int32 → Int32 → Int32 → Int32 → cp_Dt → Option (cp_Dt)
  | 0, _, _, _, _, _, _ => none
  | n + 1, a0, i1, i2, i3, i4, D =>
    if (8 : Int32) ≤ i4 then (fn_X1_begin_L27 L q q a0 i1 i2 i3 (0 : Int32) D)
    else ((cp_gR L a0 1 0).bind fun r2 =>
    (cp_aS L D 1 r2 i4 (0 : Int32).toInt8.toInt32).bind fun D3 =>
    fn_X1_begin_L3 L q n a0 i1 i2 i3 (i4 + 1) D3)
def fn_X1_begin (L : cp_Lay) (q : Nat) (k0 : Nat) (x1 : Int32) (x2 : Int32) (x3 : Int32) (D : cp_Dt) : Option (cp_Dt) :=
  fn_X1_begin_L3 L q q k0 x1 x2 x3 (0 : Int32) D
set_option maxHeartbeats 4000000 in
set_option maxRecDepth 100000 in
theorem ct_X1_begin (l : Launch) (G : va_G) (L : cp_Lay) (hJ : cp_J L) (q : Nat) (k0 : Nat) (x1 : Int32) (x2 : Int32) (x3 : Int32) (D : cp_Dt) (res : cp_Dt) (hF : fn_X1_begin L q k0 x1 x2 x3 D = some res) : cp_Met l G yX1_begin wsX1_begin ({ frames := 0, cells := 0, slots := 0, locals := 0 }) L ([.ref (L.2.1 k0), .int x1, .int x2, .int x3] : List Value) D res none := by
  refine Met.ofW (cc := cX1_begin) (maxL := 5) (ret := none) (by decide) rfl ?_
  intro p e s m args below meth c s₁ B hml hv
  obtain ⟨rfl, hP, hK, hN, hZ⟩ := hv
  have hx := B.exec
  have hb := B.bytes
  have hr := B.returns
  have hts := atoms_spec (ws := wsX1_begin) B.pre
  have hown : s.vm.findClass "CreaturePond$Animal" = some m.cls := findClass_of_methodNamed B.named
  have hlocks := B.notSynchronized
  have hS : va_S (cp_A L) s.heap s.heap [] := va_S.rf
  have htT : ∀ w ∈ cp_T, w.before ([.ref (L.2.1 k0), .int x1, .int x2, .int x3] : List Value).toArray s = true := fun w h => hts w (List.mem_cons_of_mem _ h)
  have hl := lv_entry (([.ref (L.2.1 k0), .int x1, .int x2, .int x3] : List Value)) (n := 5) (Nat.le_of_ble_eq_true rfl)
  rw [lg_entry_eq]
  generalize (lg_sl (([.ref (L.2.1 k0), .int x1, .int x2, .int x3] : List Value)) ++ List.replicate (5 - (lg_sl (([.ref (L.2.1 k0), .int x1, .int x2, .int x3] : List Value))).length) Slot.unset).toArray = ls at hl ⊢
  have hl : lv_has ls 5 [(0, .ref (L.2.1 k0)), (1, .int x1), (2, .int x2), (3, .int x3)] := hl
  have hL27 : ∀ (n : Nat) (a0 : Nat) (i1 : Int32) (i2 : Int32) (i3 : Int32) (i4 : Int32) (D : cp_Dt) (H : Heap) (locs : List Loc) (ls : Array Slot), fn_X1_begin_L27 L q n a0 i1 i2 i3 i4 D = some res → va_P G vwCl (cp_ws L D) H → va_S (cp_A L) s.heap H locs → lv_has ls 5 [(0, .ref (L.2.1 a0)), (1, .int i1), (2, .int i2), (3, .int i3), (4, .int i4)] → W p l e (headSpec wsX1_begin ({ frames := 0, cells := 0, slots := 0, locals := 0 })).room s m ([.ref (L.2.1 k0), .int x1, .int x2, .int x3] : List Value).toArray below meth c H locs 0 0 (MQ below (cp_Q G L res none) ([.ref (L.2.1 k0), .int x1, .int x2, .int x3] : List Value).toArray s 0 0 (cp_A L)) (F0 m 27 ls []) := by
    intro n
    induction n with
    | zero =>
      intro a0 i1 i2 i3 i4 D H locs ls hF
      cases hF
    | succ n ih =>
      intro a0 i1 i2 i3 i4 D H locs ls hF hP hS hl
      unfold fn_X1_begin_L27 at hF
      refine lv_iload hx hb dX1_begin_27 (lv_at hl 4 rfl) ?_
      refine lv_bipush (v := (16 : Int32)) hx hb dX1_begin_29 (by decide) ?_
      refine lv_icmp_ge (tgt := 48) hx hb dX1_begin_31 (by decide) (fun hc4 => ?_) (fun hc4 => ?_)
      · rw [if_pos hc4] at hF
        refine lv_aload_n hx hb dX1_begin_48 rfl (lv_at hl 0 rfl) ?_
        refine lv_iconst (v := (1 : Int32)) hx hb dX1_begin_49 (by decide) ?_
        obtain ⟨D5, eD5, hF⟩ := cp_bind hF
        refine cp_put (T := TX1) (N := 14) (ci := 1) (j := 3) hx hb htT hinX1 tyX1 tyX1_ok nmX1 hown hK hJ hP hS rfl (by decide) rfl (htT _ tw_71) rfl (cp_pZ_spec eD5).2.1 (cp_pZ_spec eD5).2.2 (cp_pZ_spec eD5).1 dX1_begin_50 (fun H locs hP hS => ?_)
        refine lv_aload_n hx hb dX1_begin_53 rfl (lv_at hl 0 rfl) ?_
        refine lv_iconst (v := (0 : Int32)) hx hb dX1_begin_54 (by decide) ?_
        obtain ⟨D6, eD6, hF⟩ := cp_bind hF
        refine cp_put (T := TX1) (N := 14) (ci := 1) (j := 4) hx hb htT hinX1 tyX1 tyX1_ok nmX1 hown hK hJ hP hS rfl (by decide) rfl (htT _ tw_72) rfl (cp_pZ_spec eD6).2.1 (cp_pZ_spec eD6).2.2 (cp_pZ_spec eD6).1 dX1_begin_55 (fun H locs hP hS => ?_)
        refine lv_aload_n hx hb dX1_begin_58 rfl (lv_at hl 0 rfl) ?_
        refine lv_iload_n hx hb dX1_begin_59 rfl (lv_at hl 1 rfl) ?_
        obtain ⟨D7, eD7, hF⟩ := cp_bind hF
        refine cp_put (T := TX1) (N := 14) (ci := 1) (j := 5) hx hb htT hinX1 tyX1 tyX1_ok nmX1 hown hK hJ hP hS rfl (by decide) rfl (htT _ tw_73) rfl rfl rfl eD7 dX1_begin_60 (fun H locs hP hS => ?_)
        refine lv_aload_n hx hb dX1_begin_63 rfl (lv_at hl 0 rfl) ?_
        refine lv_iload_n hx hb dX1_begin_64 rfl (lv_at hl 2 rfl) ?_
        obtain ⟨D8, eD8, hF⟩ := cp_bind hF
        refine cp_put (T := TX1) (N := 14) (ci := 1) (j := 6) hx hb htT hinX1 tyX1 tyX1_ok nmX1 hown hK hJ hP hS rfl (by decide) rfl (htT _ tw_74) rfl rfl rfl eD8 dX1_begin_65 (fun H locs hP hS => ?_)
        refine lv_aload_n hx hb dX1_begin_68 rfl (lv_at hl 0 rfl) ?_
        refine lv_iload_n hx hb dX1_begin_69 rfl (lv_at hl 3 rfl) ?_
        obtain ⟨D9, eD9, hF⟩ := cp_bind hF
        refine cp_put (T := TX1) (N := 14) (ci := 1) (j := 7) hx hb htT hinX1 tyX1 tyX1_ok nmX1 hown hK hJ hP hS rfl (by decide) rfl (htT _ tw_75) rfl rfl rfl eD9 dX1_begin_70 (fun H locs hP hS => ?_)
        refine lv_aload_n hx hb dX1_begin_73 rfl (lv_at hl 0 rfl) ?_
        refine lv_iconst (v := (0 : Int32)) hx hb dX1_begin_74 (by decide) ?_
        obtain ⟨D10, eD10, hF⟩ := cp_bind hF
        refine cp_put (T := TX1) (N := 14) (ci := 1) (j := 8) hx hb htT hinX1 tyX1 tyX1_ok nmX1 hown hK hJ hP hS rfl (by decide) rfl (htT _ tw_76) rfl rfl rfl eD10 dX1_begin_75 (fun H locs hP hS => ?_)
        refine lv_aload_n hx hb dX1_begin_78 rfl (lv_at hl 0 rfl) ?_
        refine lv_iconst (v := (0 : Int32)) hx hb dX1_begin_79 (by decide) ?_
        obtain ⟨D11, eD11, hF⟩ := cp_bind hF
        refine cp_put (T := TX1) (N := 14) (ci := 1) (j := 9) hx hb htT hinX1 tyX1 tyX1_ok nmX1 hown hK hJ hP hS rfl (by decide) rfl (htT _ tw_77) rfl rfl rfl eD11 dX1_begin_80 (fun H locs hP hS => ?_)
        refine lv_aload_n hx hb dX1_begin_83 rfl (lv_at hl 0 rfl) ?_
        refine lv_iconst (v := (0 : Int32)) hx hb dX1_begin_84 (by decide) ?_
        obtain ⟨D12, eD12, hF⟩ := cp_bind hF
        refine cp_put (T := TX1) (N := 14) (ci := 1) (j := 10) hx hb htT hinX1 tyX1 tyX1_ok nmX1 hown hK hJ hP hS rfl (by decide) rfl (htT _ tw_78) rfl rfl rfl eD12 dX1_begin_85 (fun H locs hP hS => ?_)
        refine lv_aload_n hx hb dX1_begin_88 rfl (lv_at hl 0 rfl) ?_
        refine lv_iconst (v := (-1 : Int32)) hx hb dX1_begin_89 (by decide) ?_
        obtain ⟨D13, eD13, hF⟩ := cp_bind hF
        refine cp_put (T := TX1) (N := 14) (ci := 1) (j := 11) hx hb htT hinX1 tyX1 tyX1_ok nmX1 hown hK hJ hP hS rfl (by decide) rfl (htT _ tw_79) rfl rfl rfl eD13 dX1_begin_90 (fun H locs hP hS => ?_)
        refine lv_aload_n hx hb dX1_begin_93 rfl (lv_at hl 0 rfl) ?_
        refine lv_iconst (v := (-1 : Int32)) hx hb dX1_begin_94 (by decide) ?_
        obtain ⟨D14, eD14, hF⟩ := cp_bind hF
        refine cp_put (T := TX1) (N := 14) (ci := 1) (j := 12) hx hb htT hinX1 tyX1 tyX1_ok nmX1 hown hK hJ hP hS rfl (by decide) rfl (htT _ tw_80) rfl rfl rfl eD14 dX1_begin_95 (fun H locs hP hS => ?_)
        refine lv_aload_n hx hb dX1_begin_98 rfl (lv_at hl 0 rfl) ?_
        refine lv_iconst (v := (0 : Int32)) hx hb dX1_begin_99 (by decide) ?_
        obtain ⟨D15, eD15, hF⟩ := cp_bind hF
        refine cp_put (T := TX1) (N := 14) (ci := 1) (j := 13) hx hb htT hinX1 tyX1 tyX1_ok nmX1 hown hK hJ hP hS rfl (by decide) rfl (htT _ tw_81) rfl rfl rfl eD15 dX1_begin_100 (fun H locs hP hS => ?_)
        exact cp_vret hx hb hr hlocks hF hP hS dX1_begin_103
      · rw [if_neg hc4] at hF
        refine lv_aload_n hx hb dX1_begin_34 rfl (lv_at hl 0 rfl) ?_
        obtain ⟨r16, er16, hF⟩ := cp_bind hF
        refine cp_getR (T := TX1) (N := 14) (ci := 1) (j := 1) hx hb htT hinX1 hown hK hP rfl (by decide) rfl (htT _ tw_69) er16 dX1_begin_35 ?_
        refine lv_iload hx hb dX1_begin_38 (lv_at hl 4 rfl) ?_
        refine lv_iconst (v := (0 : Int32)) hx hb dX1_begin_40 (by decide) ?_
        obtain ⟨D17, eD17, hF⟩ := cp_bind hF
        refine cp_bast hx hb hK hJ hP hS eD17 dX1_begin_41 (fun H locs hP hS => ?_)
        refine lv_iinc (k := 4) (v := (i4 + 1)) (lv' := [(4, .int (i4 + 1)), (0, .ref (L.2.1 a0)), (1, .int i1), (2, .int i2), (3, .int i3)]) hx hb dX1_begin_42 hl rfl (congrArg (fun z => i4 + z) (by decide)) (by decide) rfl (fun ls hl => ?_)
        refine lv_goto (tgt := 27) hx hb dX1_begin_45 (by decide) ?_
        exact ih a0 i1 i2 i3 (i4 + 1) D17 _ _ _ hF hP hS (lv_sub hl [1, 2, 3, 4, 0] rfl)
  have hL3 : ∀ (n : Nat) (a0 : Nat) (i1 : Int32) (i2 : Int32) (i3 : Int32) (i4 : Int32) (D : cp_Dt) (H : Heap) (locs : List Loc) (ls : Array Slot), fn_X1_begin_L3 L q n a0 i1 i2 i3 i4 D = some res → va_P G vwCl (cp_ws L D) H → va_S (cp_A L) s.heap H locs → lv_has ls 5 [(0, .ref (L.2.1 a0)), (1, .int i1), (2, .int i2), (3, .int i3), (4, .int i4)] → W p l e (headSpec wsX1_begin ({ frames := 0, cells := 0, slots := 0, locals := 0 })).room s m ([.ref (L.2.1 k0), .int x1, .int x2, .int x3] : List Value).toArray below meth c H locs 0 0 (MQ below (cp_Q G L res none) ([.ref (L.2.1 k0), .int x1, .int x2, .int x3] : List Value).toArray s 0 0 (cp_A L)) (F0 m 3 ls []) := by
    intro n
    induction n with
    | zero =>
      intro a0 i1 i2 i3 i4 D H locs ls hF
      cases hF
    | succ n ih =>
      intro a0 i1 i2 i3 i4 D H locs ls hF hP hS hl
      unfold fn_X1_begin_L3 at hF
      refine lv_iload hx hb dX1_begin_3 (lv_at hl 4 rfl) ?_
      refine lv_bipush (v := (8 : Int32)) hx hb dX1_begin_5 (by decide) ?_
      refine lv_icmp_ge (tgt := 24) hx hb dX1_begin_7 (by decide) (fun hc1 => ?_) (fun hc1 => ?_)
      · rw [if_pos hc1] at hF
        refine lv_iconst (v := (0 : Int32)) hx hb dX1_begin_24 (by decide) ?_
        refine lv_istore (lv' := [(4, .int (0 : Int32)), (0, .ref (L.2.1 a0)), (1, .int i1), (2, .int i2), (3, .int i3)]) hx hb dX1_begin_25 hl (by decide) rfl (fun ls hl => ?_)
        exact hL27 q a0 i1 i2 i3 (0 : Int32) D _ _ _ hF hP hS (lv_sub hl [1, 2, 3, 4, 0] rfl)
      · rw [if_neg hc1] at hF
        refine lv_aload_n hx hb dX1_begin_10 rfl (lv_at hl 0 rfl) ?_
        obtain ⟨r2, er2, hF⟩ := cp_bind hF
        refine cp_getR (T := TX1) (N := 14) (ci := 1) (j := 0) hx hb htT hinX1 hown hK hP rfl (by decide) rfl (htT _ tw_68) er2 dX1_begin_11 ?_
        refine lv_iload hx hb dX1_begin_14 (lv_at hl 4 rfl) ?_
        refine lv_iconst (v := (0 : Int32)) hx hb dX1_begin_16 (by decide) ?_
        obtain ⟨D3, eD3, hF⟩ := cp_bind hF
        refine cp_bast hx hb hK hJ hP hS eD3 dX1_begin_17 (fun H locs hP hS => ?_)
        refine lv_iinc (k := 4) (v := (i4 + 1)) (lv' := [(4, .int (i4 + 1)), (0, .ref (L.2.1 a0)), (1, .int i1), (2, .int i2), (3, .int i3)]) hx hb dX1_begin_18 hl rfl (congrArg (fun z => i4 + z) (by decide)) (by decide) rfl (fun ls hl => ?_)
        refine lv_goto (tgt := 3) hx hb dX1_begin_21 (by decide) ?_
        exact ih a0 i1 i2 i3 (i4 + 1) D3 _ _ _ hF hP hS (lv_sub hl [1, 2, 3, 4, 0] rfl)
  unfold fn_X1_begin at hF
  refine lv_iconst (v := (0 : Int32)) hx hb dX1_begin_0 (by decide) ?_
  refine lv_istore (lv' := [(4, .int (0 : Int32)), (0, .ref (L.2.1 k0)), (1, .int x1), (2, .int x2), (3, .int x3)]) hx hb dX1_begin_1 hl (by decide) rfl (fun ls hl => ?_)
  exact hL3 q k0 x1 x2 x3 (0 : Int32) D _ _ _ hF hP hS (lv_sub hl [1, 2, 3, 4, 0] rfl)
end
section
theorem dX1_grow_0 : decode cX1_grow 0 = .ok (.aload_n 0, 1) := by decide +kernel
theorem dX1_grow_1 : decode cX1_grow 1 = .ok (.getfield 41, 3) := by decide +kernel
theorem dX1_grow_4 : decode cX1_grow 4 = .ok (.bipush 20, 2) := by decide +kernel
theorem dX1_grow_6 : decode cX1_grow 6 = .ok (.if_icmp .ge 23, 3) := by decide +kernel
theorem dX1_grow_9 : decode cX1_grow 9 = .ok (.aload_n 0, 1) := by decide +kernel
theorem dX1_grow_10 : decode cX1_grow 10 = .ok (.getfield 18, 3) := by decide +kernel
theorem dX1_grow_13 : decode cX1_grow 13 = .ok (.aload_n 0, 1) := by decide +kernel
theorem dX1_grow_14 : decode cX1_grow 14 = .ok (.getfield 41, 3) := by decide +kernel
theorem dX1_grow_17 : decode cX1_grow 17 = .ok (.iload_n 1, 1) := by decide +kernel
theorem dX1_grow_18 : decode cX1_grow 18 = .ok (.bastore, 1) := by decide +kernel
theorem dX1_grow_19 : decode cX1_grow 19 = .ok (.aload_n 0, 1) := by decide +kernel
theorem dX1_grow_20 : decode cX1_grow 20 = .ok (.dup, 1) := by decide +kernel
theorem dX1_grow_21 : decode cX1_grow 21 = .ok (.getfield 41, 3) := by decide +kernel
theorem dX1_grow_24 : decode cX1_grow 24 = .ok (.iconst 1, 1) := by decide +kernel
theorem dX1_grow_25 : decode cX1_grow 25 = .ok (.iadd, 1) := by decide +kernel
theorem dX1_grow_26 : decode cX1_grow 26 = .ok (.putfield 41, 3) := by decide +kernel
theorem dX1_grow_29 : decode cX1_grow 29 = .ok (.return_, 1) := by decide +kernel
def fn_X1_grow (L : cp_Lay) (q : Nat) (k0 : Nat) (x1 : Int32) (D : cp_Dt) : Option (cp_Dt) :=
  (cp_gI L D k0 1 9).bind fun v1 =>
  if (20 : Int32) ≤ v1 then (some D)
  else ((cp_gR L k0 1 2).bind fun r3 =>
  (cp_gI L D k0 1 9).bind fun v4 =>
  (cp_aS L D 1 r3 v4 x1.toInt8.toInt32).bind fun D5 =>
  (cp_gI L D5 k0 1 9).bind fun v6 =>
  (cp_pI L D5 k0 1 9 (v6 + (1 : Int32))).bind fun D7 =>
  some D7)
set_option maxHeartbeats 4000000 in
set_option maxRecDepth 100000 in
theorem ct_X1_grow (l : Launch) (G : va_G) (L : cp_Lay) (hJ : cp_J L) (q : Nat) (k0 : Nat) (x1 : Int32) (D : cp_Dt) (res : cp_Dt) (hF : fn_X1_grow L q k0 x1 D = some res) : cp_Met l G yX1_grow wsX1_grow ({ frames := 0, cells := 0, slots := 0, locals := 0 }) L ([.ref (L.2.1 k0), .int x1] : List Value) D res none := by
  refine Met.ofW (cc := cX1_grow) (maxL := 2) (ret := none) (by decide) rfl ?_
  intro p e s m args below meth c s₁ B hml hv
  obtain ⟨rfl, hP, hK, hN, hZ⟩ := hv
  have hx := B.exec
  have hb := B.bytes
  have hr := B.returns
  have hts := atoms_spec (ws := wsX1_grow) B.pre
  have hown : s.vm.findClass "CreaturePond$Animal" = some m.cls := findClass_of_methodNamed B.named
  have hlocks := B.notSynchronized
  have hS : va_S (cp_A L) s.heap s.heap [] := va_S.rf
  have htT : ∀ w ∈ cp_T, w.before ([.ref (L.2.1 k0), .int x1] : List Value).toArray s = true := fun w h => hts w (List.mem_cons_of_mem _ h)
  have hl := lv_entry (([.ref (L.2.1 k0), .int x1] : List Value)) (n := 2) (Nat.le_of_ble_eq_true rfl)
  rw [lg_entry_eq]
  generalize (lg_sl (([.ref (L.2.1 k0), .int x1] : List Value)) ++ List.replicate (2 - (lg_sl (([.ref (L.2.1 k0), .int x1] : List Value))).length) Slot.unset).toArray = ls at hl ⊢
  have hl : lv_has ls 2 [(0, .ref (L.2.1 k0)), (1, .int x1)] := hl
  unfold fn_X1_grow at hF
  refine lv_aload_n hx hb dX1_grow_0 rfl (lv_at hl 0 rfl) ?_
  obtain ⟨v1, ev1, hF⟩ := cp_bind hF
  refine cp_getI (T := TX1) (N := 14) (ci := 1) (j := 9) hx hb htT hinX1 hown hK hP rfl (by decide) rfl (htT _ tw_77) ev1 dX1_grow_1 ?_
  refine lv_bipush (v := (20 : Int32)) hx hb dX1_grow_4 (by decide) ?_
  refine lv_icmp_ge (tgt := 29) hx hb dX1_grow_6 (by decide) (fun hc2 => ?_) (fun hc2 => ?_)
  · rw [if_pos hc2] at hF
    exact cp_vret hx hb hr hlocks hF hP hS dX1_grow_29
  · rw [if_neg hc2] at hF
    refine lv_aload_n hx hb dX1_grow_9 rfl (lv_at hl 0 rfl) ?_
    obtain ⟨r3, er3, hF⟩ := cp_bind hF
    refine cp_getR (T := TX1) (N := 14) (ci := 1) (j := 2) hx hb htT hinX1 hown hK hP rfl (by decide) rfl (htT _ tw_70) er3 dX1_grow_10 ?_
    refine lv_aload_n hx hb dX1_grow_13 rfl (lv_at hl 0 rfl) ?_
    obtain ⟨v4, ev4, hF⟩ := cp_bind hF
    refine cp_getI (T := TX1) (N := 14) (ci := 1) (j := 9) hx hb htT hinX1 hown hK hP rfl (by decide) rfl (htT _ tw_77) ev4 dX1_grow_14 ?_
    refine lv_iload_n hx hb dX1_grow_17 rfl (lv_at hl 1 rfl) ?_
    obtain ⟨D5, eD5, hF⟩ := cp_bind hF
    refine cp_bast hx hb hK hJ hP hS eD5 dX1_grow_18 (fun H locs hP hS => ?_)
    refine lv_aload_n hx hb dX1_grow_19 rfl (lv_at hl 0 rfl) ?_
    refine lv_dup hx hb dX1_grow_20 rfl ?_
    obtain ⟨v6, ev6, hF⟩ := cp_bind hF
    refine cp_getI (T := TX1) (N := 14) (ci := 1) (j := 9) hx hb htT hinX1 hown hK hP rfl (by decide) rfl (htT _ tw_77) ev6 dX1_grow_21 ?_
    refine lv_iconst (v := (1 : Int32)) hx hb dX1_grow_24 (by decide) ?_
    refine lv_iadd hx hb dX1_grow_25 ?_
    obtain ⟨D7, eD7, hF⟩ := cp_bind hF
    refine cp_put (T := TX1) (N := 14) (ci := 1) (j := 9) hx hb htT hinX1 tyX1 tyX1_ok nmX1 hown hK hJ hP hS rfl (by decide) rfl (htT _ tw_77) rfl rfl rfl eD7 dX1_grow_26 (fun H locs hP hS => ?_)
    exact cp_vret hx hb hr hlocks hF hP hS dX1_grow_29
theorem dX1_wrapped_0 : decode cX1_wrapped 0 = .ok (.aload_n 0, 1) := by decide +kernel
theorem dX1_wrapped_1 : decode cX1_wrapped 1 = .ok (.getfield 41, 3) := by decide +kernel
theorem dX1_wrapped_4 : decode cX1_wrapped 4 = .ok (.ifCond .le 12, 3) := by decide +kernel
theorem dX1_wrapped_7 : decode cX1_wrapped 7 = .ok (.iload_n 1, 1) := by decide +kernel
theorem dX1_wrapped_8 : decode cX1_wrapped 8 = .ok (.aload_n 0, 1) := by decide +kernel
theorem dX1_wrapped_9 : decode cX1_wrapped 9 = .ok (.getfield 41, 3) := by decide +kernel
theorem dX1_wrapped_12 : decode cX1_wrapped 12 = .ok (.irem, 1) := by decide +kernel
theorem dX1_wrapped_13 : decode cX1_wrapped 13 = .ok (.goto 4, 3) := by decide +kernel
theorem dX1_wrapped_16 : decode cX1_wrapped 16 = .ok (.iconst 0, 1) := by decide +kernel
theorem dX1_wrapped_17 : decode cX1_wrapped 17 = .ok (.ireturn, 1) := by decide +kernel
def fn_X1_wrapped (L : cp_Lay) (q : Nat) (k0 : Nat) (x1 : Int32) (D : cp_Dt) : Option (Int32 × cp_Dt) :=
  (cp_gI L D k0 1 9).bind fun v1 =>
  if v1 ≤ 0 then (some ((0 : Int32), D))
  else ((cp_gI L D k0 1 9).bind fun v3 =>
  (cp_nz v3).bind fun u4 =>
  some ((x1 - x1 / v3 * v3), D))
set_option maxHeartbeats 4000000 in
set_option maxRecDepth 100000 in
theorem ct_X1_wrapped (l : Launch) (G : va_G) (L : cp_Lay) (hJ : cp_J L) (q : Nat) (k0 : Nat) (x1 : Int32) (D : cp_Dt) (res : Int32 × cp_Dt) (hF : fn_X1_wrapped L q k0 x1 D = some res) : cp_Met l G yX1_wrapped wsX1_wrapped ({ frames := 0, cells := 0, slots := 0, locals := 0 }) L ([.ref (L.2.1 k0), .int x1] : List Value) D res.2 (some (.int res.1)) := by
  refine Met.ofW (cc := cX1_wrapped) (maxL := 2) (ret := (some .int)) (by decide) rfl ?_
  intro p e s m args below meth c s₁ B hml hv
  obtain ⟨rfl, hP, hK, hN, hZ⟩ := hv
  have hx := B.exec
  have hb := B.bytes
  have hr := B.returns
  have hts := atoms_spec (ws := wsX1_wrapped) B.pre
  have hown : s.vm.findClass "CreaturePond$Animal" = some m.cls := findClass_of_methodNamed B.named
  have hlocks := B.notSynchronized
  have hS : va_S (cp_A L) s.heap s.heap [] := va_S.rf
  have htT : ∀ w ∈ cp_T, w.before ([.ref (L.2.1 k0), .int x1] : List Value).toArray s = true := fun w h => hts w (List.mem_cons_of_mem _ h)
  have hl := lv_entry (([.ref (L.2.1 k0), .int x1] : List Value)) (n := 2) (Nat.le_of_ble_eq_true rfl)
  rw [lg_entry_eq]
  generalize (lg_sl (([.ref (L.2.1 k0), .int x1] : List Value)) ++ List.replicate (2 - (lg_sl (([.ref (L.2.1 k0), .int x1] : List Value))).length) Slot.unset).toArray = ls at hl ⊢
  have hl : lv_has ls 2 [(0, .ref (L.2.1 k0)), (1, .int x1)] := hl
  unfold fn_X1_wrapped at hF
  refine lv_aload_n hx hb dX1_wrapped_0 rfl (lv_at hl 0 rfl) ?_
  obtain ⟨v1, ev1, hF⟩ := cp_bind hF
  refine cp_getI (T := TX1) (N := 14) (ci := 1) (j := 9) hx hb htT hinX1 hown hK hP rfl (by decide) rfl (htT _ tw_77) ev1 dX1_wrapped_1 ?_
  refine lv_if_le (tgt := 16) hx hb dX1_wrapped_4 (by decide) (fun hc2 => ?_) (fun hc2 => ?_)
  · rw [if_pos hc2] at hF
    refine lv_iconst (v := (0 : Int32)) hx hb dX1_wrapped_16 (by decide) ?_
    exact cp_iret hx hb hr hlocks hF hP hS dX1_wrapped_17
  · rw [if_neg hc2] at hF
    refine lv_iload_n hx hb dX1_wrapped_7 rfl (lv_at hl 1 rfl) ?_
    refine lv_aload_n hx hb dX1_wrapped_8 rfl (lv_at hl 0 rfl) ?_
    obtain ⟨v3, ev3, hF⟩ := cp_bind hF
    refine cp_getI (T := TX1) (N := 14) (ci := 1) (j := 9) hx hb htT hinX1 hown hK hP rfl (by decide) rfl (htT _ tw_77) ev3 dX1_wrapped_9 ?_
    obtain ⟨u4, eu4, hF⟩ := cp_bind hF
    refine lv_irem hx hb dX1_wrapped_12 (cp_nz_ne eu4) ?_
    refine lv_goto (tgt := 17) hx hb dX1_wrapped_13 (by decide) ?_
    exact cp_iret hx hb hr hlocks hF hP hS dX1_wrapped_17
theorem dX4_has_0 : decode cX4_has 0 = .ok (.iload_n 1, 1) := by decide +kernel
theorem dX4_has_1 : decode cX4_has 1 = .ok (.ifCond .lt 25, 3) := by decide +kernel
theorem dX4_has_4 : decode cX4_has 4 = .ok (.iload_n 1, 1) := by decide +kernel
theorem dX4_has_5 : decode cX4_has 5 = .ok (.bipush 16, 2) := by decide +kernel
theorem dX4_has_7 : decode cX4_has 7 = .ok (.if_icmp .ge 19, 3) := by decide +kernel
theorem dX4_has_10 : decode cX4_has 10 = .ok (.aload_n 0, 1) := by decide +kernel
theorem dX4_has_11 : decode cX4_has 11 = .ok (.getfield 11, 3) := by decide +kernel
theorem dX4_has_14 : decode cX4_has 14 = .ok (.iload_n 1, 1) := by decide +kernel
theorem dX4_has_15 : decode cX4_has 15 = .ok (.aaload, 1) := by decide +kernel
theorem dX4_has_16 : decode cX4_has 16 = .ok (.getfield 79, 3) := by decide +kernel
theorem dX4_has_19 : decode cX4_has 19 = .ok (.ifCond .eq 7, 3) := by decide +kernel
theorem dX4_has_22 : decode cX4_has 22 = .ok (.iconst 1, 1) := by decide +kernel
theorem dX4_has_23 : decode cX4_has 23 = .ok (.goto 4, 3) := by decide +kernel
theorem dX4_has_26 : decode cX4_has 26 = .ok (.iconst 0, 1) := by decide +kernel
theorem dX4_has_27 : decode cX4_has 27 = .ok (.ireturn, 1) := by decide +kernel
def fn_X4_has (L : cp_Lay) (q : Nat) (k0 : Nat) (x1 : Int32) (D : cp_Dt) : Option (Int32 × cp_Dt) :=
  if x1 < 0 then (some ((0 : Int32), D))
  else (if (16 : Int32) ≤ x1 then (some ((0 : Int32), D))
  else ((cp_gR L k0 4 4).bind fun r3 =>
  (cp_aR L r3 x1).bind fun r4 =>
  (cp_gI L D r4 1 3).bind fun v5 =>
  if v5 = 0 then (some ((0 : Int32), D))
  else (some ((1 : Int32), D))))
set_option maxHeartbeats 4000000 in
set_option maxRecDepth 100000 in
theorem ct_X4_has (l : Launch) (G : va_G) (L : cp_Lay) (hJ : cp_J L) (q : Nat) (k0 : Nat) (x1 : Int32) (D : cp_Dt) (res : Int32 × cp_Dt) (hF : fn_X4_has L q k0 x1 D = some res) : cp_Met l G yX4_has wsX4_has ({ frames := 0, cells := 0, slots := 0, locals := 0 }) L ([.ref (L.2.1 k0), .int x1] : List Value) D res.2 (some (.int res.1)) := by
  refine Met.ofW (cc := cX4_has) (maxL := 2) (ret := (some .boolean)) (by decide) rfl ?_
  intro p e s m args below meth c s₁ B hml hv
  obtain ⟨rfl, hP, hK, hN, hZ⟩ := hv
  have hx := B.exec
  have hb := B.bytes
  have hr := B.returns
  have hts := atoms_spec (ws := wsX4_has) B.pre
  have hown : s.vm.findClass "CreaturePond$Pond" = some m.cls := findClass_of_methodNamed B.named
  have hlocks := B.notSynchronized
  have hS : va_S (cp_A L) s.heap s.heap [] := va_S.rf
  have htT : ∀ w ∈ cp_T, w.before ([.ref (L.2.1 k0), .int x1] : List Value).toArray s = true := fun w h => hts w (List.mem_cons_of_mem _ h)
  have hl := lv_entry (([.ref (L.2.1 k0), .int x1] : List Value)) (n := 2) (Nat.le_of_ble_eq_true rfl)
  rw [lg_entry_eq]
  generalize (lg_sl (([.ref (L.2.1 k0), .int x1] : List Value)) ++ List.replicate (2 - (lg_sl (([.ref (L.2.1 k0), .int x1] : List Value))).length) Slot.unset).toArray = ls at hl ⊢
  have hl : lv_has ls 2 [(0, .ref (L.2.1 k0)), (1, .int x1)] := hl
  unfold fn_X4_has at hF
  refine lv_iload_n hx hb dX4_has_0 rfl (lv_at hl 1 rfl) ?_
  refine lv_if_lt (tgt := 26) hx hb dX4_has_1 (by decide) (fun hc1 => ?_) (fun hc1 => ?_)
  · rw [if_pos hc1] at hF
    refine lv_iconst (v := (0 : Int32)) hx hb dX4_has_26 (by decide) ?_
    exact cp_zret hx hb hr hlocks (by decide) hF hP hS dX4_has_27
  · rw [if_neg hc1] at hF
    refine lv_iload_n hx hb dX4_has_4 rfl (lv_at hl 1 rfl) ?_
    refine lv_bipush (v := (16 : Int32)) hx hb dX4_has_5 (by decide) ?_
    refine lv_icmp_ge (tgt := 26) hx hb dX4_has_7 (by decide) (fun hc2 => ?_) (fun hc2 => ?_)
    · rw [if_pos hc2] at hF
      refine lv_iconst (v := (0 : Int32)) hx hb dX4_has_26 (by decide) ?_
      exact cp_zret hx hb hr hlocks (by decide) hF hP hS dX4_has_27
    · rw [if_neg hc2] at hF
      refine lv_aload_n hx hb dX4_has_10 rfl (lv_at hl 0 rfl) ?_
      obtain ⟨r3, er3, hF⟩ := cp_bind hF
      refine cp_getR (T := TX4) (N := 12) (ci := 4) (j := 4) hx hb htT hinX4 hown hK hP rfl (by decide) rfl (htT _ tw_101) er3 dX4_has_11 ?_
      refine lv_iload_n hx hb dX4_has_14 rfl (lv_at hl 1 rfl) ?_
      obtain ⟨r4, er4, hF⟩ := cp_bind hF
      refine cp_aald hx hb hK hP er4 dX4_has_15 ?_
      obtain ⟨v5, ev5, hF⟩ := cp_bind hF
      refine cp_getIN (T := TX1) (N := 14) (ci := 1) (j := 3) hx hb htT hinX1 hown hK hP rfl (by decide) rfl (hN _ (List.mem_of_getElem? (i := 13) rfl)) ev5 dX4_has_16 ?_
      refine lv_if_eq (tgt := 26) hx hb dX4_has_19 (by decide) (fun hc6 => ?_) (fun hc6 => ?_)
      · rw [if_pos hc6] at hF
        refine lv_iconst (v := (0 : Int32)) hx hb dX4_has_26 (by decide) ?_
        exact cp_zret hx hb hr hlocks (by decide) hF hP hS dX4_has_27
      · rw [if_neg hc6] at hF
        refine lv_iconst (v := (1 : Int32)) hx hb dX4_has_22 (by decide) ?_
        refine lv_goto (tgt := 27) hx hb dX4_has_23 (by decide) ?_
        exact cp_zret hx hb hr hlocks (by decide) hF hP hS dX4_has_27
theorem dX4_energyOfAll_0 : decode cX4_energyOfAll 0 = .ok (.iconst 0, 1) := by decide +kernel
theorem dX4_energyOfAll_1 : decode cX4_energyOfAll 1 = .ok (.istore_n 1, 1) := by decide +kernel
theorem dX4_energyOfAll_2 : decode cX4_energyOfAll 2 = .ok (.iconst 0, 1) := by decide +kernel
theorem dX4_energyOfAll_3 : decode cX4_energyOfAll 3 = .ok (.istore_n 2, 1) := by decide +kernel
theorem dX4_energyOfAll_4 : decode cX4_energyOfAll 4 = .ok (.iload_n 2, 1) := by decide +kernel
theorem dX4_energyOfAll_5 : decode cX4_energyOfAll 5 = .ok (.bipush 16, 2) := by decide +kernel
theorem dX4_energyOfAll_7 : decode cX4_energyOfAll 7 = .ok (.if_icmp .ge 37, 3) := by decide +kernel
theorem dX4_energyOfAll_10 : decode cX4_energyOfAll 10 = .ok (.iload_n 1, 1) := by decide +kernel
theorem dX4_energyOfAll_11 : decode cX4_energyOfAll 11 = .ok (.aload_n 0, 1) := by decide +kernel
theorem dX4_energyOfAll_12 : decode cX4_energyOfAll 12 = .ok (.getfield 11, 3) := by decide +kernel
theorem dX4_energyOfAll_15 : decode cX4_energyOfAll 15 = .ok (.iload_n 2, 1) := by decide +kernel
theorem dX4_energyOfAll_16 : decode cX4_energyOfAll 16 = .ok (.aaload, 1) := by decide +kernel
theorem dX4_energyOfAll_17 : decode cX4_energyOfAll 17 = .ok (.getfield 79, 3) := by decide +kernel
theorem dX4_energyOfAll_20 : decode cX4_energyOfAll 20 = .ok (.ifCond .eq 15, 3) := by decide +kernel
theorem dX4_energyOfAll_23 : decode cX4_energyOfAll 23 = .ok (.aload_n 0, 1) := by decide +kernel
theorem dX4_energyOfAll_24 : decode cX4_energyOfAll 24 = .ok (.getfield 11, 3) := by decide +kernel
theorem dX4_energyOfAll_27 : decode cX4_energyOfAll 27 = .ok (.iload_n 2, 1) := by decide +kernel
theorem dX4_energyOfAll_28 : decode cX4_energyOfAll 28 = .ok (.aaload, 1) := by decide +kernel
theorem dX4_energyOfAll_29 : decode cX4_energyOfAll 29 = .ok (.getfield 83, 3) := by decide +kernel
theorem dX4_energyOfAll_32 : decode cX4_energyOfAll 32 = .ok (.goto 4, 3) := by decide +kernel
theorem dX4_energyOfAll_35 : decode cX4_energyOfAll 35 = .ok (.iconst 0, 1) := by decide +kernel
theorem dX4_energyOfAll_36 : decode cX4_energyOfAll 36 = .ok (.iadd, 1) := by decide +kernel
theorem dX4_energyOfAll_37 : decode cX4_energyOfAll 37 = .ok (.istore_n 1, 1) := by decide +kernel
theorem dX4_energyOfAll_38 : decode cX4_energyOfAll 38 = .ok (.iinc 2 1, 3) := by decide +kernel
theorem dX4_energyOfAll_41 : decode cX4_energyOfAll 41 = .ok (.goto (-37), 3) := by decide +kernel
theorem dX4_energyOfAll_44 : decode cX4_energyOfAll 44 = .ok (.iload_n 1, 1) := by decide +kernel
theorem dX4_energyOfAll_45 : decode cX4_energyOfAll 45 = .ok (.ireturn, 1) := by decide +kernel
def fn_X4_energyOfAll_L4 (L : cp_Lay) (q : Nat) : Nat → Nat → Int32 → Int32 → cp_Dt → Option (Int32 × cp_Dt)
  | 0, _, _, _, _ => none
  | n + 1, a0, i1, i2, D =>
    if (16 : Int32) ≤ i2 then (some (i1, D))
    else ((cp_gR L a0 4 4).bind fun r2 =>
    (cp_aR L r2 i2).bind fun r3 =>
    (cp_gI L D r3 1 3).bind fun v4 =>
    if v4 = 0 then (fn_X4_energyOfAll_L4 L q n a0 (i1 + (0 : Int32)) (i2 + 1) D)
    else ((cp_gR L a0 4 4).bind fun r6 =>
    (cp_aR L r6 i2).bind fun r7 =>
    (cp_gI L D r7 1 7).bind fun v8 =>
    fn_X4_energyOfAll_L4 L q n a0 (i1 + v8) (i2 + 1) D))
def fn_X4_energyOfAll (L : cp_Lay) (q : Nat) (k0 : Nat) (D : cp_Dt) : Option (Int32 × cp_Dt) :=
  fn_X4_energyOfAll_L4 L q q k0 (0 : Int32) (0 : Int32) D
set_option maxHeartbeats 4000000 in
set_option maxRecDepth 100000 in
theorem ct_X4_energyOfAll (l : Launch) (G : va_G) (L : cp_Lay) (hJ : cp_J L) (q : Nat) (k0 : Nat) (D : cp_Dt) (res : Int32 × cp_Dt) (hF : fn_X4_energyOfAll L q k0 D = some res) : cp_Met l G yX4_energyOfAll wsX4_energyOfAll ({ frames := 0, cells := 0, slots := 0, locals := 0 }) L ([.ref (L.2.1 k0)] : List Value) D res.2 (some (.int res.1)) := by
  refine Met.ofW (cc := cX4_energyOfAll) (maxL := 3) (ret := (some .int)) (by decide) rfl ?_
  intro p e s m args below meth c s₁ B hml hv
  obtain ⟨rfl, hP, hK, hN, hZ⟩ := hv
  have hx := B.exec
  have hb := B.bytes
  have hr := B.returns
  have hts := atoms_spec (ws := wsX4_energyOfAll) B.pre
  have hown : s.vm.findClass "CreaturePond$Pond" = some m.cls := findClass_of_methodNamed B.named
  have hlocks := B.notSynchronized
  have hS : va_S (cp_A L) s.heap s.heap [] := va_S.rf
  have htT : ∀ w ∈ cp_T, w.before ([.ref (L.2.1 k0)] : List Value).toArray s = true := fun w h => hts w (List.mem_cons_of_mem _ h)
  have hl := lv_entry (([.ref (L.2.1 k0)] : List Value)) (n := 3) (Nat.le_of_ble_eq_true rfl)
  rw [lg_entry_eq]
  generalize (lg_sl (([.ref (L.2.1 k0)] : List Value)) ++ List.replicate (3 - (lg_sl (([.ref (L.2.1 k0)] : List Value))).length) Slot.unset).toArray = ls at hl ⊢
  have hl : lv_has ls 3 [(0, .ref (L.2.1 k0))] := hl
  have hL4 : ∀ (n : Nat) (a0 : Nat) (i1 : Int32) (i2 : Int32) (D : cp_Dt) (H : Heap) (locs : List Loc) (ls : Array Slot), fn_X4_energyOfAll_L4 L q n a0 i1 i2 D = some res → va_P G vwCl (cp_ws L D) H → va_S (cp_A L) s.heap H locs → lv_has ls 3 [(0, .ref (L.2.1 a0)), (1, .int i1), (2, .int i2)] → W p l e (headSpec wsX4_energyOfAll ({ frames := 0, cells := 0, slots := 0, locals := 0 })).room s m ([.ref (L.2.1 k0)] : List Value).toArray below meth c H locs 0 0 (MQ below (cp_Q G L res.2 (some (.int res.1))) ([.ref (L.2.1 k0)] : List Value).toArray s 0 0 (cp_A L)) (F0 m 4 ls []) := by
    intro n
    induction n with
    | zero =>
      intro a0 i1 i2 D H locs ls hF
      cases hF
    | succ n ih =>
      intro a0 i1 i2 D H locs ls hF hP hS hl
      unfold fn_X4_energyOfAll_L4 at hF
      refine lv_iload_n hx hb dX4_energyOfAll_4 rfl (lv_at hl 2 rfl) ?_
      refine lv_bipush (v := (16 : Int32)) hx hb dX4_energyOfAll_5 (by decide) ?_
      refine lv_icmp_ge (tgt := 44) hx hb dX4_energyOfAll_7 (by decide) (fun hc1 => ?_) (fun hc1 => ?_)
      · rw [if_pos hc1] at hF
        refine lv_iload_n hx hb dX4_energyOfAll_44 rfl (lv_at hl 1 rfl) ?_
        exact cp_iret hx hb hr hlocks hF hP hS dX4_energyOfAll_45
      · rw [if_neg hc1] at hF
        refine lv_iload_n hx hb dX4_energyOfAll_10 rfl (lv_at hl 1 rfl) ?_
        refine lv_aload_n hx hb dX4_energyOfAll_11 rfl (lv_at hl 0 rfl) ?_
        obtain ⟨r2, er2, hF⟩ := cp_bind hF
        refine cp_getR (T := TX4) (N := 12) (ci := 4) (j := 4) hx hb htT hinX4 hown hK hP rfl (by decide) rfl (htT _ tw_101) er2 dX4_energyOfAll_12 ?_
        refine lv_iload_n hx hb dX4_energyOfAll_15 rfl (lv_at hl 2 rfl) ?_
        obtain ⟨r3, er3, hF⟩ := cp_bind hF
        refine cp_aald hx hb hK hP er3 dX4_energyOfAll_16 ?_
        obtain ⟨v4, ev4, hF⟩ := cp_bind hF
        refine cp_getIN (T := TX1) (N := 14) (ci := 1) (j := 3) hx hb htT hinX1 hown hK hP rfl (by decide) rfl (hN _ (List.mem_of_getElem? (i := 13) rfl)) ev4 dX4_energyOfAll_17 ?_
        refine lv_if_eq (tgt := 35) hx hb dX4_energyOfAll_20 (by decide) (fun hc5 => ?_) (fun hc5 => ?_)
        · rw [if_pos hc5] at hF
          refine lv_iconst (v := (0 : Int32)) hx hb dX4_energyOfAll_35 (by decide) ?_
          refine lv_iadd hx hb dX4_energyOfAll_36 ?_
          refine lv_istore_n (lv' := [(1, .int (i1 + (0 : Int32))), (0, .ref (L.2.1 a0)), (2, .int i2)]) hx hb dX4_energyOfAll_37 rfl hl (by decide) rfl (fun ls hl => ?_)
          refine lv_iinc (k := 2) (v := (i2 + 1)) (lv' := [(2, .int (i2 + 1)), (1, .int (i1 + (0 : Int32))), (0, .ref (L.2.1 a0))]) hx hb dX4_energyOfAll_38 hl rfl (congrArg (fun z => i2 + z) (by decide)) (by decide) rfl (fun ls hl => ?_)
          refine lv_goto (tgt := 4) hx hb dX4_energyOfAll_41 (by decide) ?_
          exact ih a0 (i1 + (0 : Int32)) (i2 + 1) D _ _ _ hF hP hS (lv_sub hl [2, 1, 0] rfl)
        · rw [if_neg hc5] at hF
          refine lv_aload_n hx hb dX4_energyOfAll_23 rfl (lv_at hl 0 rfl) ?_
          obtain ⟨r6, er6, hF⟩ := cp_bind hF
          refine cp_getR (T := TX4) (N := 12) (ci := 4) (j := 4) hx hb htT hinX4 hown hK hP rfl (by decide) rfl (htT _ tw_101) er6 dX4_energyOfAll_24 ?_
          refine lv_iload_n hx hb dX4_energyOfAll_27 rfl (lv_at hl 2 rfl) ?_
          obtain ⟨r7, er7, hF⟩ := cp_bind hF
          refine cp_aald hx hb hK hP er7 dX4_energyOfAll_28 ?_
          obtain ⟨v8, ev8, hF⟩ := cp_bind hF
          refine cp_getIN (T := TX1) (N := 14) (ci := 1) (j := 7) hx hb htT hinX1 hown hK hP rfl (by decide) rfl (hN _ (List.mem_of_getElem? (i := 25) rfl)) ev8 dX4_energyOfAll_29 ?_
          refine lv_goto (tgt := 36) hx hb dX4_energyOfAll_32 (by decide) ?_
          refine lv_iadd hx hb dX4_energyOfAll_36 ?_
          refine lv_istore_n (lv' := [(1, .int (i1 + v8)), (0, .ref (L.2.1 a0)), (2, .int i2)]) hx hb dX4_energyOfAll_37 rfl hl (by decide) rfl (fun ls hl => ?_)
          refine lv_iinc (k := 2) (v := (i2 + 1)) (lv' := [(2, .int (i2 + 1)), (1, .int (i1 + v8)), (0, .ref (L.2.1 a0))]) hx hb dX4_energyOfAll_38 hl rfl (congrArg (fun z => i2 + z) (by decide)) (by decide) rfl (fun ls hl => ?_)
          refine lv_goto (tgt := 4) hx hb dX4_energyOfAll_41 (by decide) ?_
          exact ih a0 (i1 + v8) (i2 + 1) D _ _ _ hF hP hS (lv_sub hl [2, 1, 0] rfl)
  unfold fn_X4_energyOfAll at hF
  refine lv_iconst (v := (0 : Int32)) hx hb dX4_energyOfAll_0 (by decide) ?_
  refine lv_istore_n (lv' := [(1, .int (0 : Int32)), (0, .ref (L.2.1 k0))]) hx hb dX4_energyOfAll_1 rfl hl (by decide) rfl (fun ls hl => ?_)
  refine lv_iconst (v := (0 : Int32)) hx hb dX4_energyOfAll_2 (by decide) ?_
  refine lv_istore_n (lv' := [(2, .int (0 : Int32)), (1, .int (0 : Int32)), (0, .ref (L.2.1 k0))]) hx hb dX4_energyOfAll_3 rfl hl (by decide) rfl (fun ls hl => ?_)
  exact hL4 q k0 (0 : Int32) (0 : Int32) D _ _ _ hF hP hS (lv_sub hl [2, 1, 0] rfl)
theorem dX4_grainOfAll_0 : decode cX4_grainOfAll 0 = .ok (.iconst 0, 1) := by decide +kernel
theorem dX4_grainOfAll_1 : decode cX4_grainOfAll 1 = .ok (.istore_n 1, 1) := by decide +kernel
theorem dX4_grainOfAll_2 : decode cX4_grainOfAll 2 = .ok (.aload_n 0, 1) := by decide +kernel
theorem dX4_grainOfAll_3 : decode cX4_grainOfAll 3 = .ok (.getfield 27, 3) := by decide +kernel
theorem dX4_grainOfAll_6 : decode cX4_grainOfAll 6 = .ok (.astore_n 2, 1) := by decide +kernel
theorem dX4_grainOfAll_7 : decode cX4_grainOfAll 7 = .ok (.aload_n 2, 1) := by decide +kernel
theorem dX4_grainOfAll_8 : decode cX4_grainOfAll 8 = .ok (.arraylength, 1) := by decide +kernel
theorem dX4_grainOfAll_9 : decode cX4_grainOfAll 9 = .ok (.istore_n 3, 1) := by decide +kernel
theorem dX4_grainOfAll_10 : decode cX4_grainOfAll 10 = .ok (.iconst 0, 1) := by decide +kernel
theorem dX4_grainOfAll_11 : decode cX4_grainOfAll 11 = .ok (.istore 4, 2) := by decide +kernel
theorem dX4_grainOfAll_13 : decode cX4_grainOfAll 13 = .ok (.iload 4, 2) := by decide +kernel
theorem dX4_grainOfAll_15 : decode cX4_grainOfAll 15 = .ok (.iload_n 3, 1) := by decide +kernel
theorem dX4_grainOfAll_16 : decode cX4_grainOfAll 16 = .ok (.if_icmp .ge 20, 3) := by decide +kernel
theorem dX4_grainOfAll_19 : decode cX4_grainOfAll 19 = .ok (.aload_n 2, 1) := by decide +kernel
theorem dX4_grainOfAll_20 : decode cX4_grainOfAll 20 = .ok (.iload 4, 2) := by decide +kernel
theorem dX4_grainOfAll_22 : decode cX4_grainOfAll 22 = .ok (.iaload, 1) := by decide +kernel
theorem dX4_grainOfAll_23 : decode cX4_grainOfAll 23 = .ok (.istore 5, 2) := by decide +kernel
theorem dX4_grainOfAll_25 : decode cX4_grainOfAll 25 = .ok (.iload_n 1, 1) := by decide +kernel
theorem dX4_grainOfAll_26 : decode cX4_grainOfAll 26 = .ok (.iload 5, 2) := by decide +kernel
theorem dX4_grainOfAll_28 : decode cX4_grainOfAll 28 = .ok (.iadd, 1) := by decide +kernel
theorem dX4_grainOfAll_29 : decode cX4_grainOfAll 29 = .ok (.istore_n 1, 1) := by decide +kernel
theorem dX4_grainOfAll_30 : decode cX4_grainOfAll 30 = .ok (.iinc 4 1, 3) := by decide +kernel
theorem dX4_grainOfAll_33 : decode cX4_grainOfAll 33 = .ok (.goto (-20), 3) := by decide +kernel
theorem dX4_grainOfAll_36 : decode cX4_grainOfAll 36 = .ok (.iload_n 1, 1) := by decide +kernel
theorem dX4_grainOfAll_37 : decode cX4_grainOfAll 37 = .ok (.ireturn, 1) := by decide +kernel
def fn_X4_grainOfAll_L13 (L : cp_Lay) (q : Nat) : Nat → Nat → Int32 → Nat → Int32 → Int32 → cp_Dt → Option (Int32 × cp_Dt)
  | 0, _, _, _, _, _, _ => none
  | n + 1, a0, i1, a2, i3, i4, D =>
    if i3 ≤ i4 then (some (i1, D))
    else ((cp_aI L D 0 a2 i4).bind fun v4 =>
    fn_X4_grainOfAll_L13 L q n a0 (i1 + v4) a2 i3 (i4 + 1) D)
def fn_X4_grainOfAll (L : cp_Lay) (q : Nat) (k0 : Nat) (D : cp_Dt) : Option (Int32 × cp_Dt) :=
  (cp_gR L k0 4 1).bind fun r1 =>
  (cp_aL L 0 r1).bind fun v2 =>
  fn_X4_grainOfAll_L13 L q q k0 (0 : Int32) r1 v2 (0 : Int32) D
set_option maxHeartbeats 4000000 in
set_option maxRecDepth 100000 in
theorem ct_X4_grainOfAll (l : Launch) (G : va_G) (L : cp_Lay) (hJ : cp_J L) (q : Nat) (k0 : Nat) (D : cp_Dt) (res : Int32 × cp_Dt) (hF : fn_X4_grainOfAll L q k0 D = some res) : cp_Met l G yX4_grainOfAll wsX4_grainOfAll ({ frames := 0, cells := 0, slots := 0, locals := 0 }) L ([.ref (L.2.1 k0)] : List Value) D res.2 (some (.int res.1)) := by
  refine Met.ofW (cc := cX4_grainOfAll) (maxL := 6) (ret := (some .int)) (by decide) rfl ?_
  intro p e s m args below meth c s₁ B hml hv
  obtain ⟨rfl, hP, hK, hN, hZ⟩ := hv
  have hx := B.exec
  have hb := B.bytes
  have hr := B.returns
  have hts := atoms_spec (ws := wsX4_grainOfAll) B.pre
  have hown : s.vm.findClass "CreaturePond$Pond" = some m.cls := findClass_of_methodNamed B.named
  have hlocks := B.notSynchronized
  have hS : va_S (cp_A L) s.heap s.heap [] := va_S.rf
  have htT : ∀ w ∈ cp_T, w.before ([.ref (L.2.1 k0)] : List Value).toArray s = true := fun w h => hts w (List.mem_cons_of_mem _ h)
  have hl := lv_entry (([.ref (L.2.1 k0)] : List Value)) (n := 6) (Nat.le_of_ble_eq_true rfl)
  rw [lg_entry_eq]
  generalize (lg_sl (([.ref (L.2.1 k0)] : List Value)) ++ List.replicate (6 - (lg_sl (([.ref (L.2.1 k0)] : List Value))).length) Slot.unset).toArray = ls at hl ⊢
  have hl : lv_has ls 6 [(0, .ref (L.2.1 k0))] := hl
  have hL13 : ∀ (n : Nat) (a0 : Nat) (i1 : Int32) (a2 : Nat) (i3 : Int32) (i4 : Int32) (D : cp_Dt) (H : Heap) (locs : List Loc) (ls : Array Slot), fn_X4_grainOfAll_L13 L q n a0 i1 a2 i3 i4 D = some res → va_P G vwCl (cp_ws L D) H → va_S (cp_A L) s.heap H locs → lv_has ls 6 [(0, .ref (L.2.1 a0)), (1, .int i1), (2, .ref (L.2.1 a2)), (3, .int i3), (4, .int i4)] → W p l e (headSpec wsX4_grainOfAll ({ frames := 0, cells := 0, slots := 0, locals := 0 })).room s m ([.ref (L.2.1 k0)] : List Value).toArray below meth c H locs 0 0 (MQ below (cp_Q G L res.2 (some (.int res.1))) ([.ref (L.2.1 k0)] : List Value).toArray s 0 0 (cp_A L)) (F0 m 13 ls []) := by
    intro n
    induction n with
    | zero =>
      intro a0 i1 a2 i3 i4 D H locs ls hF
      cases hF
    | succ n ih =>
      intro a0 i1 a2 i3 i4 D H locs ls hF hP hS hl
      unfold fn_X4_grainOfAll_L13 at hF
      refine lv_iload hx hb dX4_grainOfAll_13 (lv_at hl 4 rfl) ?_
      refine lv_iload_n hx hb dX4_grainOfAll_15 rfl (lv_at hl 3 rfl) ?_
      refine lv_icmp_ge (tgt := 36) hx hb dX4_grainOfAll_16 (by decide) (fun hc3 => ?_) (fun hc3 => ?_)
      · rw [if_pos hc3] at hF
        refine lv_iload_n hx hb dX4_grainOfAll_36 rfl (lv_at hl 1 rfl) ?_
        exact cp_iret hx hb hr hlocks hF hP hS dX4_grainOfAll_37
      · rw [if_neg hc3] at hF
        refine lv_aload_n hx hb dX4_grainOfAll_19 rfl (lv_at hl 2 rfl) ?_
        refine lv_iload hx hb dX4_grainOfAll_20 (lv_at hl 4 rfl) ?_
        obtain ⟨v4, ev4, hF⟩ := cp_bind hF
        refine cp_iald hx hb hK hP ev4 dX4_grainOfAll_22 ?_
        refine lv_istore (lv' := [(5, .int v4), (0, .ref (L.2.1 a0)), (1, .int i1), (2, .ref (L.2.1 a2)), (3, .int i3), (4, .int i4)]) hx hb dX4_grainOfAll_23 hl (by decide) rfl (fun ls hl => ?_)
        refine lv_iload_n hx hb dX4_grainOfAll_25 rfl (lv_at hl 2 rfl) ?_
        refine lv_iload hx hb dX4_grainOfAll_26 (lv_at hl 0 rfl) ?_
        refine lv_iadd hx hb dX4_grainOfAll_28 ?_
        refine lv_istore_n (lv' := [(1, .int (i1 + v4)), (5, .int v4), (0, .ref (L.2.1 a0)), (2, .ref (L.2.1 a2)), (3, .int i3), (4, .int i4)]) hx hb dX4_grainOfAll_29 rfl hl (by decide) rfl (fun ls hl => ?_)
        refine lv_iinc (k := 5) (v := (i4 + 1)) (lv' := [(4, .int (i4 + 1)), (1, .int (i1 + v4)), (5, .int v4), (0, .ref (L.2.1 a0)), (2, .ref (L.2.1 a2)), (3, .int i3)]) hx hb dX4_grainOfAll_30 hl rfl (congrArg (fun z => i4 + z) (by decide)) (by decide) rfl (fun ls hl => ?_)
        refine lv_goto (tgt := 13) hx hb dX4_grainOfAll_33 (by decide) ?_
        exact ih a0 (i1 + v4) a2 i3 (i4 + 1) D _ _ _ hF hP hS (lv_sub hl [3, 1, 4, 5, 0] rfl)
  unfold fn_X4_grainOfAll at hF
  refine lv_iconst (v := (0 : Int32)) hx hb dX4_grainOfAll_0 (by decide) ?_
  refine lv_istore_n (lv' := [(1, .int (0 : Int32)), (0, .ref (L.2.1 k0))]) hx hb dX4_grainOfAll_1 rfl hl (by decide) rfl (fun ls hl => ?_)
  refine lv_aload_n hx hb dX4_grainOfAll_2 rfl (lv_at hl 1 rfl) ?_
  obtain ⟨r1, er1, hF⟩ := cp_bind hF
  refine cp_getR (T := TX4) (N := 12) (ci := 4) (j := 1) hx hb htT hinX4 hown hK hP rfl (by decide) rfl (htT _ tw_98) er1 dX4_grainOfAll_3 ?_
  refine lv_astore_n (lv' := [(2, .ref (L.2.1 r1)), (1, .int (0 : Int32)), (0, .ref (L.2.1 k0))]) hx hb dX4_grainOfAll_6 rfl hl (by decide) rfl (fun ls hl => ?_)
  refine lv_aload_n hx hb dX4_grainOfAll_7 rfl (lv_at hl 0 rfl) ?_
  obtain ⟨v2, ev2, hF⟩ := cp_bind hF
  refine cp_alen0 hx hb hK hP ev2 dX4_grainOfAll_8 ?_
  refine lv_istore_n (lv' := [(3, .int v2), (2, .ref (L.2.1 r1)), (1, .int (0 : Int32)), (0, .ref (L.2.1 k0))]) hx hb dX4_grainOfAll_9 rfl hl (by decide) rfl (fun ls hl => ?_)
  refine lv_iconst (v := (0 : Int32)) hx hb dX4_grainOfAll_10 (by decide) ?_
  refine lv_istore (lv' := [(4, .int (0 : Int32)), (3, .int v2), (2, .ref (L.2.1 r1)), (1, .int (0 : Int32)), (0, .ref (L.2.1 k0))]) hx hb dX4_grainOfAll_11 hl (by decide) rfl (fun ls hl => ?_)
  exact hL13 q k0 (0 : Int32) r1 v2 (0 : Int32) D _ _ _ hF hP hS (lv_sub hl [4, 3, 2, 1, 0] rfl)
theorem dX4_countAnimals_0 : decode cX4_countAnimals 0 = .ok (.iconst 0, 1) := by decide +kernel
theorem dX4_countAnimals_1 : decode cX4_countAnimals 1 = .ok (.istore_n 1, 1) := by decide +kernel
theorem dX4_countAnimals_2 : decode cX4_countAnimals 2 = .ok (.iconst 0, 1) := by decide +kernel
theorem dX4_countAnimals_3 : decode cX4_countAnimals 3 = .ok (.istore_n 2, 1) := by decide +kernel
theorem dX4_countAnimals_4 : decode cX4_countAnimals 4 = .ok (.iload_n 2, 1) := by decide +kernel
theorem dX4_countAnimals_5 : decode cX4_countAnimals 5 = .ok (.bipush 16, 2) := by decide +kernel
theorem dX4_countAnimals_7 : decode cX4_countAnimals 7 = .ok (.if_icmp .ge 29, 3) := by decide +kernel
theorem dX4_countAnimals_10 : decode cX4_countAnimals 10 = .ok (.iload_n 1, 1) := by decide +kernel
theorem dX4_countAnimals_11 : decode cX4_countAnimals 11 = .ok (.aload_n 0, 1) := by decide +kernel
theorem dX4_countAnimals_12 : decode cX4_countAnimals 12 = .ok (.getfield 11, 3) := by decide +kernel
theorem dX4_countAnimals_15 : decode cX4_countAnimals 15 = .ok (.iload_n 2, 1) := by decide +kernel
theorem dX4_countAnimals_16 : decode cX4_countAnimals 16 = .ok (.aaload, 1) := by decide +kernel
theorem dX4_countAnimals_17 : decode cX4_countAnimals 17 = .ok (.getfield 79, 3) := by decide +kernel
theorem dX4_countAnimals_20 : decode cX4_countAnimals 20 = .ok (.ifCond .eq 7, 3) := by decide +kernel
theorem dX4_countAnimals_23 : decode cX4_countAnimals 23 = .ok (.iconst 1, 1) := by decide +kernel
theorem dX4_countAnimals_24 : decode cX4_countAnimals 24 = .ok (.goto 4, 3) := by decide +kernel
theorem dX4_countAnimals_27 : decode cX4_countAnimals 27 = .ok (.iconst 0, 1) := by decide +kernel
theorem dX4_countAnimals_28 : decode cX4_countAnimals 28 = .ok (.iadd, 1) := by decide +kernel
theorem dX4_countAnimals_29 : decode cX4_countAnimals 29 = .ok (.istore_n 1, 1) := by decide +kernel
theorem dX4_countAnimals_30 : decode cX4_countAnimals 30 = .ok (.iinc 2 1, 3) := by decide +kernel
theorem dX4_countAnimals_33 : decode cX4_countAnimals 33 = .ok (.goto (-29), 3) := by decide +kernel
theorem dX4_countAnimals_36 : decode cX4_countAnimals 36 = .ok (.iload_n 1, 1) := by decide +kernel
theorem dX4_countAnimals_37 : decode cX4_countAnimals 37 = .ok (.ireturn, 1) := by decide +kernel
def fn_X4_countAnimals_L4 (L : cp_Lay) (q : Nat) : Nat → Nat → Int32 → Int32 → cp_Dt → Option (Int32 × cp_Dt)
  | 0, _, _, _, _ => none
  | n + 1, a0, i1, i2, D =>
    if (16 : Int32) ≤ i2 then (some (i1, D))
    else ((cp_gR L a0 4 4).bind fun r2 =>
    (cp_aR L r2 i2).bind fun r3 =>
    (cp_gI L D r3 1 3).bind fun v4 =>
    if v4 = 0 then (fn_X4_countAnimals_L4 L q n a0 (i1 + (0 : Int32)) (i2 + 1) D)
    else (fn_X4_countAnimals_L4 L q n a0 (i1 + (1 : Int32)) (i2 + 1) D))
def fn_X4_countAnimals (L : cp_Lay) (q : Nat) (k0 : Nat) (D : cp_Dt) : Option (Int32 × cp_Dt) :=
  fn_X4_countAnimals_L4 L q q k0 (0 : Int32) (0 : Int32) D
set_option maxHeartbeats 4000000 in
set_option maxRecDepth 100000 in
theorem ct_X4_countAnimals (l : Launch) (G : va_G) (L : cp_Lay) (hJ : cp_J L) (q : Nat) (k0 : Nat) (D : cp_Dt) (res : Int32 × cp_Dt) (hF : fn_X4_countAnimals L q k0 D = some res) : cp_Met l G yX4_countAnimals wsX4_countAnimals ({ frames := 0, cells := 0, slots := 0, locals := 0 }) L ([.ref (L.2.1 k0)] : List Value) D res.2 (some (.int res.1)) := by
  refine Met.ofW (cc := cX4_countAnimals) (maxL := 3) (ret := (some .int)) (by decide) rfl ?_
  intro p e s m args below meth c s₁ B hml hv
  obtain ⟨rfl, hP, hK, hN, hZ⟩ := hv
  have hx := B.exec
  have hb := B.bytes
  have hr := B.returns
  have hts := atoms_spec (ws := wsX4_countAnimals) B.pre
  have hown : s.vm.findClass "CreaturePond$Pond" = some m.cls := findClass_of_methodNamed B.named
  have hlocks := B.notSynchronized
  have hS : va_S (cp_A L) s.heap s.heap [] := va_S.rf
  have htT : ∀ w ∈ cp_T, w.before ([.ref (L.2.1 k0)] : List Value).toArray s = true := fun w h => hts w (List.mem_cons_of_mem _ h)
  have hl := lv_entry (([.ref (L.2.1 k0)] : List Value)) (n := 3) (Nat.le_of_ble_eq_true rfl)
  rw [lg_entry_eq]
  generalize (lg_sl (([.ref (L.2.1 k0)] : List Value)) ++ List.replicate (3 - (lg_sl (([.ref (L.2.1 k0)] : List Value))).length) Slot.unset).toArray = ls at hl ⊢
  have hl : lv_has ls 3 [(0, .ref (L.2.1 k0))] := hl
  have hL4 : ∀ (n : Nat) (a0 : Nat) (i1 : Int32) (i2 : Int32) (D : cp_Dt) (H : Heap) (locs : List Loc) (ls : Array Slot), fn_X4_countAnimals_L4 L q n a0 i1 i2 D = some res → va_P G vwCl (cp_ws L D) H → va_S (cp_A L) s.heap H locs → lv_has ls 3 [(0, .ref (L.2.1 a0)), (1, .int i1), (2, .int i2)] → W p l e (headSpec wsX4_countAnimals ({ frames := 0, cells := 0, slots := 0, locals := 0 })).room s m ([.ref (L.2.1 k0)] : List Value).toArray below meth c H locs 0 0 (MQ below (cp_Q G L res.2 (some (.int res.1))) ([.ref (L.2.1 k0)] : List Value).toArray s 0 0 (cp_A L)) (F0 m 4 ls []) := by
    intro n
    induction n with
    | zero =>
      intro a0 i1 i2 D H locs ls hF
      cases hF
    | succ n ih =>
      intro a0 i1 i2 D H locs ls hF hP hS hl
      unfold fn_X4_countAnimals_L4 at hF
      refine lv_iload_n hx hb dX4_countAnimals_4 rfl (lv_at hl 2 rfl) ?_
      refine lv_bipush (v := (16 : Int32)) hx hb dX4_countAnimals_5 (by decide) ?_
      refine lv_icmp_ge (tgt := 36) hx hb dX4_countAnimals_7 (by decide) (fun hc1 => ?_) (fun hc1 => ?_)
      · rw [if_pos hc1] at hF
        refine lv_iload_n hx hb dX4_countAnimals_36 rfl (lv_at hl 1 rfl) ?_
        exact cp_iret hx hb hr hlocks hF hP hS dX4_countAnimals_37
      · rw [if_neg hc1] at hF
        refine lv_iload_n hx hb dX4_countAnimals_10 rfl (lv_at hl 1 rfl) ?_
        refine lv_aload_n hx hb dX4_countAnimals_11 rfl (lv_at hl 0 rfl) ?_
        obtain ⟨r2, er2, hF⟩ := cp_bind hF
        refine cp_getR (T := TX4) (N := 12) (ci := 4) (j := 4) hx hb htT hinX4 hown hK hP rfl (by decide) rfl (htT _ tw_101) er2 dX4_countAnimals_12 ?_
        refine lv_iload_n hx hb dX4_countAnimals_15 rfl (lv_at hl 2 rfl) ?_
        obtain ⟨r3, er3, hF⟩ := cp_bind hF
        refine cp_aald hx hb hK hP er3 dX4_countAnimals_16 ?_
        obtain ⟨v4, ev4, hF⟩ := cp_bind hF
        refine cp_getIN (T := TX1) (N := 14) (ci := 1) (j := 3) hx hb htT hinX1 hown hK hP rfl (by decide) rfl (hN _ (List.mem_of_getElem? (i := 13) rfl)) ev4 dX4_countAnimals_17 ?_
        refine lv_if_eq (tgt := 27) hx hb dX4_countAnimals_20 (by decide) (fun hc5 => ?_) (fun hc5 => ?_)
        · rw [if_pos hc5] at hF
          refine lv_iconst (v := (0 : Int32)) hx hb dX4_countAnimals_27 (by decide) ?_
          refine lv_iadd hx hb dX4_countAnimals_28 ?_
          refine lv_istore_n (lv' := [(1, .int (i1 + (0 : Int32))), (0, .ref (L.2.1 a0)), (2, .int i2)]) hx hb dX4_countAnimals_29 rfl hl (by decide) rfl (fun ls hl => ?_)
          refine lv_iinc (k := 2) (v := (i2 + 1)) (lv' := [(2, .int (i2 + 1)), (1, .int (i1 + (0 : Int32))), (0, .ref (L.2.1 a0))]) hx hb dX4_countAnimals_30 hl rfl (congrArg (fun z => i2 + z) (by decide)) (by decide) rfl (fun ls hl => ?_)
          refine lv_goto (tgt := 4) hx hb dX4_countAnimals_33 (by decide) ?_
          exact ih a0 (i1 + (0 : Int32)) (i2 + 1) D _ _ _ hF hP hS (lv_sub hl [2, 1, 0] rfl)
        · rw [if_neg hc5] at hF
          refine lv_iconst (v := (1 : Int32)) hx hb dX4_countAnimals_23 (by decide) ?_
          refine lv_goto (tgt := 28) hx hb dX4_countAnimals_24 (by decide) ?_
          refine lv_iadd hx hb dX4_countAnimals_28 ?_
          refine lv_istore_n (lv' := [(1, .int (i1 + (1 : Int32))), (0, .ref (L.2.1 a0)), (2, .int i2)]) hx hb dX4_countAnimals_29 rfl hl (by decide) rfl (fun ls hl => ?_)
          refine lv_iinc (k := 2) (v := (i2 + 1)) (lv' := [(2, .int (i2 + 1)), (1, .int (i1 + (1 : Int32))), (0, .ref (L.2.1 a0))]) hx hb dX4_countAnimals_30 hl rfl (congrArg (fun z => i2 + z) (by decide)) (by decide) rfl (fun ls hl => ?_)
          refine lv_goto (tgt := 4) hx hb dX4_countAnimals_33 (by decide) ?_
          exact ih a0 (i1 + (1 : Int32)) (i2 + 1) D _ _ _ hF hP hS (lv_sub hl [2, 1, 0] rfl)
  unfold fn_X4_countAnimals at hF
  refine lv_iconst (v := (0 : Int32)) hx hb dX4_countAnimals_0 (by decide) ?_
  refine lv_istore_n (lv' := [(1, .int (0 : Int32)), (0, .ref (L.2.1 k0))]) hx hb dX4_countAnimals_1 rfl hl (by decide) rfl (fun ls hl => ?_)
  refine lv_iconst (v := (0 : Int32)) hx hb dX4_countAnimals_2 (by decide) ?_
  refine lv_istore_n (lv' := [(2, .int (0 : Int32)), (1, .int (0 : Int32)), (0, .ref (L.2.1 k0))]) hx hb dX4_countAnimals_3 rfl hl (by decide) rfl (fun ls hl => ?_)
  exact hL4 q k0 (0 : Int32) (0 : Int32) D _ _ _ hF hP hS (lv_sub hl [2, 1, 0] rfl)
theorem dX4_copyFrom_0 : decode cX4_copyFrom 0 = .ok (.aload_n 1, 1) := by decide +kernel
theorem dX4_copyFrom_1 : decode cX4_copyFrom 1 = .ok (.getfield 27, 3) := by decide +kernel
theorem dX4_copyFrom_4 : decode cX4_copyFrom 4 = .ok (.iconst 0, 1) := by decide +kernel
theorem dX4_copyFrom_5 : decode cX4_copyFrom 5 = .ok (.aload_n 0, 1) := by decide +kernel
theorem dX4_copyFrom_6 : decode cX4_copyFrom 6 = .ok (.getfield 27, 3) := by decide +kernel
theorem dX4_copyFrom_9 : decode cX4_copyFrom 9 = .ok (.iconst 0, 1) := by decide +kernel
theorem dX4_copyFrom_10 : decode cX4_copyFrom 10 = .ok (.aload_n 0, 1) := by decide +kernel
theorem dX4_copyFrom_11 : decode cX4_copyFrom 11 = .ok (.getfield 17, 3) := by decide +kernel
theorem dX4_copyFrom_14 : decode cX4_copyFrom 14 = .ok (.getfield 21, 3) := by decide +kernel
theorem dX4_copyFrom_17 : decode cX4_copyFrom 17 = .ok (.invokestatic 39, 3) := by decide +kernel
theorem dX4_copyFrom_20 : decode cX4_copyFrom 20 = .ok (.aload_n 1, 1) := by decide +kernel
theorem dX4_copyFrom_21 : decode cX4_copyFrom 21 = .ok (.getfield 31, 3) := by decide +kernel
theorem dX4_copyFrom_24 : decode cX4_copyFrom 24 = .ok (.iconst 0, 1) := by decide +kernel
theorem dX4_copyFrom_25 : decode cX4_copyFrom 25 = .ok (.aload_n 0, 1) := by decide +kernel
theorem dX4_copyFrom_26 : decode cX4_copyFrom 26 = .ok (.getfield 31, 3) := by decide +kernel
theorem dX4_copyFrom_29 : decode cX4_copyFrom 29 = .ok (.iconst 0, 1) := by decide +kernel
theorem dX4_copyFrom_30 : decode cX4_copyFrom 30 = .ok (.aload_n 0, 1) := by decide +kernel
theorem dX4_copyFrom_31 : decode cX4_copyFrom 31 = .ok (.getfield 17, 3) := by decide +kernel
theorem dX4_copyFrom_34 : decode cX4_copyFrom 34 = .ok (.getfield 21, 3) := by decide +kernel
theorem dX4_copyFrom_37 : decode cX4_copyFrom 37 = .ok (.invokestatic 39, 3) := by decide +kernel
theorem dX4_copyFrom_40 : decode cX4_copyFrom 40 = .ok (.aload_n 1, 1) := by decide +kernel
theorem dX4_copyFrom_41 : decode cX4_copyFrom 41 = .ok (.getfield 35, 3) := by decide +kernel
theorem dX4_copyFrom_44 : decode cX4_copyFrom 44 = .ok (.iconst 0, 1) := by decide +kernel
theorem dX4_copyFrom_45 : decode cX4_copyFrom 45 = .ok (.aload_n 0, 1) := by decide +kernel
theorem dX4_copyFrom_46 : decode cX4_copyFrom 46 = .ok (.getfield 35, 3) := by decide +kernel
theorem dX4_copyFrom_49 : decode cX4_copyFrom 49 = .ok (.iconst 0, 1) := by decide +kernel
theorem dX4_copyFrom_50 : decode cX4_copyFrom 50 = .ok (.aload_n 0, 1) := by decide +kernel
theorem dX4_copyFrom_51 : decode cX4_copyFrom 51 = .ok (.getfield 17, 3) := by decide +kernel
theorem dX4_copyFrom_54 : decode cX4_copyFrom 54 = .ok (.getfield 21, 3) := by decide +kernel
theorem dX4_copyFrom_57 : decode cX4_copyFrom 57 = .ok (.invokestatic 39, 3) := by decide +kernel
theorem dX4_copyFrom_60 : decode cX4_copyFrom 60 = .ok (.iconst 0, 1) := by decide +kernel
theorem dX4_copyFrom_61 : decode cX4_copyFrom 61 = .ok (.istore_n 2, 1) := by decide +kernel
theorem dX4_copyFrom_62 : decode cX4_copyFrom 62 = .ok (.iload_n 2, 1) := by decide +kernel
theorem dX4_copyFrom_63 : decode cX4_copyFrom 63 = .ok (.bipush 16, 2) := by decide +kernel
theorem dX4_copyFrom_65 : decode cX4_copyFrom 65 = .ok (.if_icmp .ge 24, 3) := by decide +kernel
theorem dX4_copyFrom_68 : decode cX4_copyFrom 68 = .ok (.aload_n 0, 1) := by decide +kernel
theorem dX4_copyFrom_69 : decode cX4_copyFrom 69 = .ok (.getfield 11, 3) := by decide +kernel
theorem dX4_copyFrom_72 : decode cX4_copyFrom 72 = .ok (.iload_n 2, 1) := by decide +kernel
theorem dX4_copyFrom_73 : decode cX4_copyFrom 73 = .ok (.aaload, 1) := by decide +kernel
theorem dX4_copyFrom_74 : decode cX4_copyFrom 74 = .ok (.aload_n 1, 1) := by decide +kernel
theorem dX4_copyFrom_75 : decode cX4_copyFrom 75 = .ok (.getfield 11, 3) := by decide +kernel
theorem dX4_copyFrom_78 : decode cX4_copyFrom 78 = .ok (.iload_n 2, 1) := by decide +kernel
theorem dX4_copyFrom_79 : decode cX4_copyFrom 79 = .ok (.aaload, 1) := by decide +kernel
theorem dX4_copyFrom_80 : decode cX4_copyFrom 80 = .ok (.invokevirtual 45, 3) := by decide +kernel
theorem dX4_copyFrom_83 : decode cX4_copyFrom 83 = .ok (.iinc 2 1, 3) := by decide +kernel
theorem dX4_copyFrom_86 : decode cX4_copyFrom 86 = .ok (.goto (-24), 3) := by decide +kernel
theorem dX4_copyFrom_89 : decode cX4_copyFrom 89 = .ok (.aload_n 0, 1) := by decide +kernel
theorem dX4_copyFrom_90 : decode cX4_copyFrom 90 = .ok (.aload_n 1, 1) := by decide +kernel
theorem dX4_copyFrom_91 : decode cX4_copyFrom 91 = .ok (.getfield 49, 3) := by decide +kernel
theorem dX4_copyFrom_94 : decode cX4_copyFrom 94 = .ok (.putfield 49, 3) := by decide +kernel
theorem dX4_copyFrom_97 : decode cX4_copyFrom 97 = .ok (.aload_n 0, 1) := by decide +kernel
theorem dX4_copyFrom_98 : decode cX4_copyFrom 98 = .ok (.aload_n 1, 1) := by decide +kernel
theorem dX4_copyFrom_99 : decode cX4_copyFrom 99 = .ok (.getfield 52, 3) := by decide +kernel
theorem dX4_copyFrom_102 : decode cX4_copyFrom 102 = .ok (.putfield 52, 3) := by decide +kernel
theorem dX4_copyFrom_105 : decode cX4_copyFrom 105 = .ok (.aload_n 0, 1) := by decide +kernel
theorem dX4_copyFrom_106 : decode cX4_copyFrom 106 = .ok (.aload_n 1, 1) := by decide +kernel
theorem dX4_copyFrom_107 : decode cX4_copyFrom 107 = .ok (.getfield 55, 3) := by decide +kernel
theorem dX4_copyFrom_110 : decode cX4_copyFrom 110 = .ok (.putfield 55, 3) := by decide +kernel
theorem dX4_copyFrom_113 : decode cX4_copyFrom 113 = .ok (.aload_n 0, 1) := by decide +kernel
theorem dX4_copyFrom_114 : decode cX4_copyFrom 114 = .ok (.aload_n 1, 1) := by decide +kernel
theorem dX4_copyFrom_115 : decode cX4_copyFrom 115 = .ok (.getfield 58, 3) := by decide +kernel
theorem dX4_copyFrom_118 : decode cX4_copyFrom 118 = .ok (.putfield 58, 3) := by decide +kernel
theorem dX4_copyFrom_121 : decode cX4_copyFrom 121 = .ok (.aload_n 0, 1) := by decide +kernel
theorem dX4_copyFrom_122 : decode cX4_copyFrom 122 = .ok (.aload_n 1, 1) := by decide +kernel
theorem dX4_copyFrom_123 : decode cX4_copyFrom 123 = .ok (.getfield 61, 3) := by decide +kernel
theorem dX4_copyFrom_126 : decode cX4_copyFrom 126 = .ok (.putfield 61, 3) := by decide +kernel
theorem dX4_copyFrom_129 : decode cX4_copyFrom 129 = .ok (.aload_n 0, 1) := by decide +kernel
theorem dX4_copyFrom_130 : decode cX4_copyFrom 130 = .ok (.aload_n 1, 1) := by decide +kernel
theorem dX4_copyFrom_131 : decode cX4_copyFrom 131 = .ok (.getfield 64, 3) := by decide +kernel
theorem dX4_copyFrom_134 : decode cX4_copyFrom 134 = .ok (.putfield 64, 3) := by decide +kernel
theorem dX4_copyFrom_137 : decode cX4_copyFrom 137 = .ok (.aload_n 0, 1) := by decide +kernel
theorem dX4_copyFrom_138 : decode cX4_copyFrom 138 = .ok (.aload_n 1, 1) := by decide +kernel
theorem dX4_copyFrom_139 : decode cX4_copyFrom 139 = .ok (.getfield 67, 3) := by decide +kernel
theorem dX4_copyFrom_142 : decode cX4_copyFrom 142 = .ok (.putfield 67, 3) := by decide +kernel
theorem dX4_copyFrom_145 : decode cX4_copyFrom 145 = .ok (.return_, 1) := by decide +kernel
def fn_X4_copyFrom_L62 (L : cp_Lay) (q : Nat) : Nat → Nat → Nat → Int32 → cp_Dt → Option (cp_Dt)
  | 0, _, _, _, _ => none
  | n + 1, a0, a1, i2, D =>
    if (16 : Int32) ≤ i2 then ((cp_gI L D a1 4 5).bind fun v17 =>
    (cp_pI L D a0 4 5 v17).bind fun D18 =>
    (cp_gI L D18 a1 4 6).bind fun v19 =>
    (cp_pI L D18 a0 4 6 v19).bind fun D20 =>
    (cp_gI L D20 a1 4 7).bind fun v21 =>
    (cp_pI L D20 a0 4 7 v21).bind fun D22 =>
    (cp_gI L D22 a1 4 8).bind fun v23 =>
    (cp_pI L D22 a0 4 8 v23).bind fun D24 =>
    (cp_gI L D24 a1 4 9).bind fun v25 =>
    (cp_pI L D24 a0 4 9 v25).bind fun D26 =>
    (cp_gI L D26 a1 4 10).bind fun v27 =>
    (cp_pI L D26 a0 4 10 v27).bind fun D28 =>
    (cp_gI L D28 a1 4 11).bind fun v29 =>
    (cp_pI L D28 a0 4 11 v29).bind fun D30 =>
    some D30)
    else ((cp_gR L a0 4 4).bind fun r31 =>
    (cp_aR L r31 i2).bind fun r32 =>
    (cp_gR L a1 4 4).bind fun r33 =>
    (cp_aR L r33 i2).bind fun r34 =>
    (cp_fl L r32 1).bind fun f35 =>
    (fn_X1_copyFrom L q r32 r34 D).bind fun D36 =>
    fn_X4_copyFrom_L62 L q n a0 a1 (i2 + 1) D36)
def fn_X4_copyFrom (L : cp_Lay) (q : Nat) (k0 : Nat) (k1 : Nat) (D : cp_Dt) : Option (cp_Dt) :=
  (cp_gR L k1 4 1).bind fun r1 =>
  (cp_gR L k0 4 1).bind fun r2 =>
  (cp_gR L k0 4 0).bind fun r3 =>
  (cp_gI L D r3 5 2).bind fun v4 =>
  (cp_cp L D 0 r1 (0 : Int32) r2 (0 : Int32) v4).bind fun D5 =>
  (cp_gR L k1 4 2).bind fun r6 =>
  (cp_gR L k0 4 2).bind fun r7 =>
  (cp_gR L k0 4 0).bind fun r8 =>
  (cp_gI L D5 r8 5 2).bind fun v9 =>
  (cp_cp L D5 1 r6 (0 : Int32) r7 (0 : Int32) v9).bind fun D10 =>
  (cp_gR L k1 4 3).bind fun r11 =>
  (cp_gR L k0 4 3).bind fun r12 =>
  (cp_gR L k0 4 0).bind fun r13 =>
  (cp_gI L D10 r13 5 2).bind fun v14 =>
  (cp_cp L D10 0 r11 (0 : Int32) r12 (0 : Int32) v14).bind fun D15 =>
  fn_X4_copyFrom_L62 L q q k0 k1 (0 : Int32) D15
set_option maxHeartbeats 4000000 in
set_option maxRecDepth 100000 in
theorem ct_X4_copyFrom (l : Launch) (G : va_G) (L : cp_Lay) (hJ : cp_J L) (q : Nat) (k0 : Nat) (k1 : Nat) (D : cp_Dt) (res : cp_Dt) (hF : fn_X4_copyFrom L q k0 k1 D = some res) : cp_Met l G yX4_copyFrom wsX4_copyFrom ({ frames := 2, cells := 0, slots := 0, locals := 47 }) L ([.ref (L.2.1 k0), .ref (L.2.1 k1)] : List Value) D res none := by
  refine Met.ofW (cc := cX4_copyFrom) (maxL := 3) (ret := none) (by decide) rfl ?_
  intro p e s m args below meth c s₁ B hml hv
  obtain ⟨rfl, hP, hK, hN, hZ⟩ := hv
  have hx := B.exec
  have hb := B.bytes
  have hr := B.returns
  have hts := atoms_spec (ws := wsX4_copyFrom) B.pre
  have hown : s.vm.findClass "CreaturePond$Pond" = some m.cls := findClass_of_methodNamed B.named
  have hlocks := B.notSynchronized
  have hS : va_S (cp_A L) s.heap s.heap [] := va_S.rf
  have htT : ∀ w ∈ cp_T, w.before ([.ref (L.2.1 k0), .ref (L.2.1 k1)] : List Value).toArray s = true := fun w h => hts w (List.mem_cons_of_mem _ h)
  have hl := lv_entry (([.ref (L.2.1 k0), .ref (L.2.1 k1)] : List Value)) (n := 3) (Nat.le_of_ble_eq_true rfl)
  rw [lg_entry_eq]
  generalize (lg_sl (([.ref (L.2.1 k0), .ref (L.2.1 k1)] : List Value)) ++ List.replicate (3 - (lg_sl (([.ref (L.2.1 k0), .ref (L.2.1 k1)] : List Value))).length) Slot.unset).toArray = ls at hl ⊢
  have hl : lv_has ls 3 [(0, .ref (L.2.1 k0)), (1, .ref (L.2.1 k1))] := hl
  have hL62 : ∀ (n : Nat) (a0 : Nat) (a1 : Nat) (i2 : Int32) (D : cp_Dt) (H : Heap) (locs : List Loc) (ls : Array Slot), fn_X4_copyFrom_L62 L q n a0 a1 i2 D = some res → va_P G vwCl (cp_ws L D) H → va_S (cp_A L) s.heap H locs → lv_has ls 3 [(0, .ref (L.2.1 a0)), (1, .ref (L.2.1 a1)), (2, .int i2)] → W p l e (headSpec wsX4_copyFrom ({ frames := 2, cells := 0, slots := 0, locals := 47 })).room s m ([.ref (L.2.1 k0), .ref (L.2.1 k1)] : List Value).toArray below meth c H locs 0 0 (MQ below (cp_Q G L res none) ([.ref (L.2.1 k0), .ref (L.2.1 k1)] : List Value).toArray s 0 0 (cp_A L)) (F0 m 62 ls []) := by
    intro n
    induction n with
    | zero =>
      intro a0 a1 i2 D H locs ls hF
      cases hF
    | succ n ih =>
      intro a0 a1 i2 D H locs ls hF hP hS hl
      unfold fn_X4_copyFrom_L62 at hF
      refine lv_iload_n hx hb dX4_copyFrom_62 rfl (lv_at hl 2 rfl) ?_
      refine lv_bipush (v := (16 : Int32)) hx hb dX4_copyFrom_63 (by decide) ?_
      refine lv_icmp_ge (tgt := 89) hx hb dX4_copyFrom_65 (by decide) (fun hc16 => ?_) (fun hc16 => ?_)
      · rw [if_pos hc16] at hF
        refine lv_aload_n hx hb dX4_copyFrom_89 rfl (lv_at hl 0 rfl) ?_
        refine lv_aload_n hx hb dX4_copyFrom_90 rfl (lv_at hl 1 rfl) ?_
        obtain ⟨v17, ev17, hF⟩ := cp_bind hF
        refine cp_getI (T := TX4) (N := 12) (ci := 4) (j := 5) hx hb htT hinX4 hown hK hP rfl (by decide) rfl (htT _ tw_102) ev17 dX4_copyFrom_91 ?_
        obtain ⟨D18, eD18, hF⟩ := cp_bind hF
        refine cp_put (T := TX4) (N := 12) (ci := 4) (j := 5) hx hb htT hinX4 tyX4 tyX4_ok nmX4 hown hK hJ hP hS rfl (by decide) rfl (htT _ tw_102) rfl rfl rfl eD18 dX4_copyFrom_94 (fun H locs hP hS => ?_)
        refine lv_aload_n hx hb dX4_copyFrom_97 rfl (lv_at hl 0 rfl) ?_
        refine lv_aload_n hx hb dX4_copyFrom_98 rfl (lv_at hl 1 rfl) ?_
        obtain ⟨v19, ev19, hF⟩ := cp_bind hF
        refine cp_getI (T := TX4) (N := 12) (ci := 4) (j := 6) hx hb htT hinX4 hown hK hP rfl (by decide) rfl (htT _ tw_103) ev19 dX4_copyFrom_99 ?_
        obtain ⟨D20, eD20, hF⟩ := cp_bind hF
        refine cp_put (T := TX4) (N := 12) (ci := 4) (j := 6) hx hb htT hinX4 tyX4 tyX4_ok nmX4 hown hK hJ hP hS rfl (by decide) rfl (htT _ tw_103) rfl rfl rfl eD20 dX4_copyFrom_102 (fun H locs hP hS => ?_)
        refine lv_aload_n hx hb dX4_copyFrom_105 rfl (lv_at hl 0 rfl) ?_
        refine lv_aload_n hx hb dX4_copyFrom_106 rfl (lv_at hl 1 rfl) ?_
        obtain ⟨v21, ev21, hF⟩ := cp_bind hF
        refine cp_getI (T := TX4) (N := 12) (ci := 4) (j := 7) hx hb htT hinX4 hown hK hP rfl (by decide) rfl (htT _ tw_104) ev21 dX4_copyFrom_107 ?_
        obtain ⟨D22, eD22, hF⟩ := cp_bind hF
        refine cp_put (T := TX4) (N := 12) (ci := 4) (j := 7) hx hb htT hinX4 tyX4 tyX4_ok nmX4 hown hK hJ hP hS rfl (by decide) rfl (htT _ tw_104) rfl rfl rfl eD22 dX4_copyFrom_110 (fun H locs hP hS => ?_)
        refine lv_aload_n hx hb dX4_copyFrom_113 rfl (lv_at hl 0 rfl) ?_
        refine lv_aload_n hx hb dX4_copyFrom_114 rfl (lv_at hl 1 rfl) ?_
        obtain ⟨v23, ev23, hF⟩ := cp_bind hF
        refine cp_getI (T := TX4) (N := 12) (ci := 4) (j := 8) hx hb htT hinX4 hown hK hP rfl (by decide) rfl (htT _ tw_105) ev23 dX4_copyFrom_115 ?_
        obtain ⟨D24, eD24, hF⟩ := cp_bind hF
        refine cp_put (T := TX4) (N := 12) (ci := 4) (j := 8) hx hb htT hinX4 tyX4 tyX4_ok nmX4 hown hK hJ hP hS rfl (by decide) rfl (htT _ tw_105) rfl rfl rfl eD24 dX4_copyFrom_118 (fun H locs hP hS => ?_)
        refine lv_aload_n hx hb dX4_copyFrom_121 rfl (lv_at hl 0 rfl) ?_
        refine lv_aload_n hx hb dX4_copyFrom_122 rfl (lv_at hl 1 rfl) ?_
        obtain ⟨v25, ev25, hF⟩ := cp_bind hF
        refine cp_getI (T := TX4) (N := 12) (ci := 4) (j := 9) hx hb htT hinX4 hown hK hP rfl (by decide) rfl (htT _ tw_106) ev25 dX4_copyFrom_123 ?_
        obtain ⟨D26, eD26, hF⟩ := cp_bind hF
        refine cp_put (T := TX4) (N := 12) (ci := 4) (j := 9) hx hb htT hinX4 tyX4 tyX4_ok nmX4 hown hK hJ hP hS rfl (by decide) rfl (htT _ tw_106) rfl rfl rfl eD26 dX4_copyFrom_126 (fun H locs hP hS => ?_)
        refine lv_aload_n hx hb dX4_copyFrom_129 rfl (lv_at hl 0 rfl) ?_
        refine lv_aload_n hx hb dX4_copyFrom_130 rfl (lv_at hl 1 rfl) ?_
        obtain ⟨v27, ev27, hF⟩ := cp_bind hF
        refine cp_getI (T := TX4) (N := 12) (ci := 4) (j := 10) hx hb htT hinX4 hown hK hP rfl (by decide) rfl (htT _ tw_107) ev27 dX4_copyFrom_131 ?_
        obtain ⟨D28, eD28, hF⟩ := cp_bind hF
        refine cp_put (T := TX4) (N := 12) (ci := 4) (j := 10) hx hb htT hinX4 tyX4 tyX4_ok nmX4 hown hK hJ hP hS rfl (by decide) rfl (htT _ tw_107) rfl rfl rfl eD28 dX4_copyFrom_134 (fun H locs hP hS => ?_)
        refine lv_aload_n hx hb dX4_copyFrom_137 rfl (lv_at hl 0 rfl) ?_
        refine lv_aload_n hx hb dX4_copyFrom_138 rfl (lv_at hl 1 rfl) ?_
        obtain ⟨v29, ev29, hF⟩ := cp_bind hF
        refine cp_getI (T := TX4) (N := 12) (ci := 4) (j := 11) hx hb htT hinX4 hown hK hP rfl (by decide) rfl (htT _ tw_108) ev29 dX4_copyFrom_139 ?_
        obtain ⟨D30, eD30, hF⟩ := cp_bind hF
        refine cp_put (T := TX4) (N := 12) (ci := 4) (j := 11) hx hb htT hinX4 tyX4 tyX4_ok nmX4 hown hK hJ hP hS rfl (by decide) rfl (htT _ tw_108) rfl rfl rfl eD30 dX4_copyFrom_142 (fun H locs hP hS => ?_)
        exact cp_vret hx hb hr hlocks hF hP hS dX4_copyFrom_145
      · rw [if_neg hc16] at hF
        refine lv_aload_n hx hb dX4_copyFrom_68 rfl (lv_at hl 0 rfl) ?_
        obtain ⟨r31, er31, hF⟩ := cp_bind hF
        refine cp_getR (T := TX4) (N := 12) (ci := 4) (j := 4) hx hb htT hinX4 hown hK hP rfl (by decide) rfl (htT _ tw_101) er31 dX4_copyFrom_69 ?_
        refine lv_iload_n hx hb dX4_copyFrom_72 rfl (lv_at hl 2 rfl) ?_
        obtain ⟨r32, er32, hF⟩ := cp_bind hF
        refine cp_aald hx hb hK hP er32 dX4_copyFrom_73 ?_
        refine lv_aload_n hx hb dX4_copyFrom_74 rfl (lv_at hl 1 rfl) ?_
        obtain ⟨r33, er33, hF⟩ := cp_bind hF
        refine cp_getR (T := TX4) (N := 12) (ci := 4) (j := 4) hx hb htT hinX4 hown hK hP rfl (by decide) rfl (htT _ tw_101) er33 dX4_copyFrom_75 ?_
        refine lv_iload_n hx hb dX4_copyFrom_78 rfl (lv_at hl 2 rfl) ?_
        obtain ⟨r34, er34, hF⟩ := cp_bind hF
        refine cp_aald hx hb hK hP er34 dX4_copyFrom_79 ?_
        obtain ⟨f35, ef35, hF⟩ := cp_bind hF
        obtain ⟨D36, eD36, hF⟩ := cp_bind hF
        refine cp_call (st1 := []) (va_runVN (As := [.ref (L.2.1 r34)]) (rest := []) ⟨hx, hb, hml, hown, htT⟩ (ct_X1_copyFrom l G L hJ q r32 r34 D D36 eD36) ⟨va_cnB 1 htT gdX1_copyFrom rfl rfl rfl (hN _ (List.mem_of_getElem? (i := 65) rfl)) (htT _ tw_5) hdX1_copyFrom ⟨Nat.le_of_ble_eq_true rfl, Nat.le_of_ble_eq_true rfl⟩, (htT _ tw_191), (htT _ tw_537)⟩ ⟨cp_blind, cp_recv hK hP rfl ef35, cp_pre hP hK hN hZ hS⟩ rfl rfl hl.1 rfl (lv_room (Nat.le_of_ble_eq_true rfl)) dX4_copyFrom_80 ⟨Nat.zero_le _, Nat.zero_le _⟩) hS (fun H locs hP hS => ?_)
        refine lv_iinc (k := 2) (v := (i2 + 1)) (lv' := [(2, .int (i2 + 1)), (0, .ref (L.2.1 a0)), (1, .ref (L.2.1 a1))]) hx hb dX4_copyFrom_83 hl rfl (congrArg (fun z => i2 + z) (by decide)) (by decide) rfl (fun ls hl => ?_)
        refine lv_goto (tgt := 62) hx hb dX4_copyFrom_86 (by decide) ?_
        exact ih a0 a1 (i2 + 1) D36 _ _ _ hF hP hS (lv_sub hl [1, 2, 0] rfl)
  unfold fn_X4_copyFrom at hF
  refine lv_aload_n hx hb dX4_copyFrom_0 rfl (lv_at hl 1 rfl) ?_
  obtain ⟨r1, er1, hF⟩ := cp_bind hF
  refine cp_getR (T := TX4) (N := 12) (ci := 4) (j := 1) hx hb htT hinX4 hown hK hP rfl (by decide) rfl (htT _ tw_98) er1 dX4_copyFrom_1 ?_
  refine lv_iconst (v := (0 : Int32)) hx hb dX4_copyFrom_4 (by decide) ?_
  refine lv_aload_n hx hb dX4_copyFrom_5 rfl (lv_at hl 0 rfl) ?_
  obtain ⟨r2, er2, hF⟩ := cp_bind hF
  refine cp_getR (T := TX4) (N := 12) (ci := 4) (j := 1) hx hb htT hinX4 hown hK hP rfl (by decide) rfl (htT _ tw_98) er2 dX4_copyFrom_6 ?_
  refine lv_iconst (v := (0 : Int32)) hx hb dX4_copyFrom_9 (by decide) ?_
  refine lv_aload_n hx hb dX4_copyFrom_10 rfl (lv_at hl 0 rfl) ?_
  obtain ⟨r3, er3, hF⟩ := cp_bind hF
  refine cp_getR (T := TX4) (N := 12) (ci := 4) (j := 0) hx hb htT hinX4 hown hK hP rfl (by decide) rfl (htT _ tw_97) er3 dX4_copyFrom_11 ?_
  obtain ⟨v4, ev4, hF⟩ := cp_bind hF
  refine cp_getIN (T := TX5) (N := 4) (ci := 5) (j := 2) hx hb htT hinX5 hown hK hP rfl (by decide) rfl (hN _ (List.mem_of_getElem? (i := 1) rfl)) ev4 dX4_copyFrom_14 ?_
  obtain ⟨D5, eD5, hF⟩ := cp_bind hF
  refine cp_copy hx hb (by rw [hml]; exact hl.1.symm) hown (htT _ tw_188) (htT _ tw_190) (htT _ tw_189) (htT _ tw_15) hK hJ hP hS (Or.inl rfl) eD5 (Nat.le_of_ble_eq_true rfl) (Nat.le_of_ble_eq_true rfl) dX4_copyFrom_17 (fun H locs hP hS => ?_)
  refine lv_aload_n hx hb dX4_copyFrom_20 rfl (lv_at hl 1 rfl) ?_
  obtain ⟨r6, er6, hF⟩ := cp_bind hF
  refine cp_getR (T := TX4) (N := 12) (ci := 4) (j := 2) hx hb htT hinX4 hown hK hP rfl (by decide) rfl (htT _ tw_99) er6 dX4_copyFrom_21 ?_
  refine lv_iconst (v := (0 : Int32)) hx hb dX4_copyFrom_24 (by decide) ?_
  refine lv_aload_n hx hb dX4_copyFrom_25 rfl (lv_at hl 0 rfl) ?_
  obtain ⟨r7, er7, hF⟩ := cp_bind hF
  refine cp_getR (T := TX4) (N := 12) (ci := 4) (j := 2) hx hb htT hinX4 hown hK hP rfl (by decide) rfl (htT _ tw_99) er7 dX4_copyFrom_26 ?_
  refine lv_iconst (v := (0 : Int32)) hx hb dX4_copyFrom_29 (by decide) ?_
  refine lv_aload_n hx hb dX4_copyFrom_30 rfl (lv_at hl 0 rfl) ?_
  obtain ⟨r8, er8, hF⟩ := cp_bind hF
  refine cp_getR (T := TX4) (N := 12) (ci := 4) (j := 0) hx hb htT hinX4 hown hK hP rfl (by decide) rfl (htT _ tw_97) er8 dX4_copyFrom_31 ?_
  obtain ⟨v9, ev9, hF⟩ := cp_bind hF
  refine cp_getIN (T := TX5) (N := 4) (ci := 5) (j := 2) hx hb htT hinX5 hown hK hP rfl (by decide) rfl (hN _ (List.mem_of_getElem? (i := 1) rfl)) ev9 dX4_copyFrom_34 ?_
  obtain ⟨D10, eD10, hF⟩ := cp_bind hF
  refine cp_copy hx hb (by rw [hml]; exact hl.1.symm) hown (htT _ tw_188) (htT _ tw_190) (htT _ tw_189) (htT _ tw_15) hK hJ hP hS (Or.inr rfl) eD10 (Nat.le_of_ble_eq_true rfl) (Nat.le_of_ble_eq_true rfl) dX4_copyFrom_37 (fun H locs hP hS => ?_)
  refine lv_aload_n hx hb dX4_copyFrom_40 rfl (lv_at hl 1 rfl) ?_
  obtain ⟨r11, er11, hF⟩ := cp_bind hF
  refine cp_getR (T := TX4) (N := 12) (ci := 4) (j := 3) hx hb htT hinX4 hown hK hP rfl (by decide) rfl (htT _ tw_100) er11 dX4_copyFrom_41 ?_
  refine lv_iconst (v := (0 : Int32)) hx hb dX4_copyFrom_44 (by decide) ?_
  refine lv_aload_n hx hb dX4_copyFrom_45 rfl (lv_at hl 0 rfl) ?_
  obtain ⟨r12, er12, hF⟩ := cp_bind hF
  refine cp_getR (T := TX4) (N := 12) (ci := 4) (j := 3) hx hb htT hinX4 hown hK hP rfl (by decide) rfl (htT _ tw_100) er12 dX4_copyFrom_46 ?_
  refine lv_iconst (v := (0 : Int32)) hx hb dX4_copyFrom_49 (by decide) ?_
  refine lv_aload_n hx hb dX4_copyFrom_50 rfl (lv_at hl 0 rfl) ?_
  obtain ⟨r13, er13, hF⟩ := cp_bind hF
  refine cp_getR (T := TX4) (N := 12) (ci := 4) (j := 0) hx hb htT hinX4 hown hK hP rfl (by decide) rfl (htT _ tw_97) er13 dX4_copyFrom_51 ?_
  obtain ⟨v14, ev14, hF⟩ := cp_bind hF
  refine cp_getIN (T := TX5) (N := 4) (ci := 5) (j := 2) hx hb htT hinX5 hown hK hP rfl (by decide) rfl (hN _ (List.mem_of_getElem? (i := 1) rfl)) ev14 dX4_copyFrom_54 ?_
  obtain ⟨D15, eD15, hF⟩ := cp_bind hF
  refine cp_copy hx hb (by rw [hml]; exact hl.1.symm) hown (htT _ tw_188) (htT _ tw_190) (htT _ tw_189) (htT _ tw_15) hK hJ hP hS (Or.inl rfl) eD15 (Nat.le_of_ble_eq_true rfl) (Nat.le_of_ble_eq_true rfl) dX4_copyFrom_57 (fun H locs hP hS => ?_)
  refine lv_iconst (v := (0 : Int32)) hx hb dX4_copyFrom_60 (by decide) ?_
  refine lv_istore_n (lv' := [(2, .int (0 : Int32)), (0, .ref (L.2.1 k0)), (1, .ref (L.2.1 k1))]) hx hb dX4_copyFrom_61 rfl hl (by decide) rfl (fun ls hl => ?_)
  exact hL62 q k0 k1 (0 : Int32) D15 _ _ _ hF hP hS (lv_sub hl [1, 2, 0] rfl)
end
section
theorem dX4_freeNumber_0 : decode cX4_freeNumber 0 = .ok (.iconst 0, 1) := by decide +kernel
theorem dX4_freeNumber_1 : decode cX4_freeNumber 1 = .ok (.istore_n 1, 1) := by decide +kernel
theorem dX4_freeNumber_2 : decode cX4_freeNumber 2 = .ok (.iload_n 1, 1) := by decide +kernel
theorem dX4_freeNumber_3 : decode cX4_freeNumber 3 = .ok (.bipush 16, 2) := by decide +kernel
theorem dX4_freeNumber_5 : decode cX4_freeNumber 5 = .ok (.if_icmp .ge 23, 3) := by decide +kernel
theorem dX4_freeNumber_8 : decode cX4_freeNumber 8 = .ok (.aload_n 0, 1) := by decide +kernel
theorem dX4_freeNumber_9 : decode cX4_freeNumber 9 = .ok (.getfield 11, 3) := by decide +kernel
theorem dX4_freeNumber_12 : decode cX4_freeNumber 12 = .ok (.iload_n 1, 1) := by decide +kernel
theorem dX4_freeNumber_13 : decode cX4_freeNumber 13 = .ok (.aaload, 1) := by decide +kernel
theorem dX4_freeNumber_14 : decode cX4_freeNumber 14 = .ok (.getfield 79, 3) := by decide +kernel
theorem dX4_freeNumber_17 : decode cX4_freeNumber 17 = .ok (.ifCond .ne 5, 3) := by decide +kernel
theorem dX4_freeNumber_20 : decode cX4_freeNumber 20 = .ok (.iload_n 1, 1) := by decide +kernel
theorem dX4_freeNumber_21 : decode cX4_freeNumber 21 = .ok (.ireturn, 1) := by decide +kernel
theorem dX4_freeNumber_22 : decode cX4_freeNumber 22 = .ok (.iinc 1 1, 3) := by decide +kernel
theorem dX4_freeNumber_25 : decode cX4_freeNumber 25 = .ok (.goto (-23), 3) := by decide +kernel
theorem dX4_freeNumber_28 : decode cX4_freeNumber 28 = .ok (.iconst (-1), 1) := by decide +kernel
theorem dX4_freeNumber_29 : decode cX4_freeNumber 29 = .ok (.ireturn, 1) := by decide +kernel
def fn_X4_freeNumber_L2 (L : cp_Lay) (q : Nat) : Nat → Nat → Int32 → cp_Dt → Option (Int32 × cp_Dt)
  | 0, _, _, _ => none
  | n + 1, a0, i1, D =>
    if (16 : Int32) ≤ i1 then (some ((-1 : Int32), D))
    else ((cp_gR L a0 4 4).bind fun r2 =>
    (cp_aR L r2 i1).bind fun r3 =>
    (cp_gI L D r3 1 3).bind fun v4 =>
    if v4 = 0 then (some (i1, D))
    else (fn_X4_freeNumber_L2 L q n a0 (i1 + 1) D))
def fn_X4_freeNumber (L : cp_Lay) (q : Nat) (k0 : Nat) (D : cp_Dt) : Option (Int32 × cp_Dt) :=
  fn_X4_freeNumber_L2 L q q k0 (0 : Int32) D
set_option maxHeartbeats 4000000 in
set_option maxRecDepth 100000 in
theorem ct_X4_freeNumber (l : Launch) (G : va_G) (L : cp_Lay) (hJ : cp_J L) (q : Nat) (k0 : Nat) (D : cp_Dt) (res : Int32 × cp_Dt) (hF : fn_X4_freeNumber L q k0 D = some res) : cp_Met l G yX4_freeNumber wsX4_freeNumber ({ frames := 0, cells := 0, slots := 0, locals := 0 }) L ([.ref (L.2.1 k0)] : List Value) D res.2 (some (.int res.1)) := by
  refine Met.ofW (cc := cX4_freeNumber) (maxL := 2) (ret := (some .int)) (by decide) rfl ?_
  intro p e s m args below meth c s₁ B hml hv
  obtain ⟨rfl, hP, hK, hN, hZ⟩ := hv
  have hx := B.exec
  have hb := B.bytes
  have hr := B.returns
  have hts := atoms_spec (ws := wsX4_freeNumber) B.pre
  have hown : s.vm.findClass "CreaturePond$Pond" = some m.cls := findClass_of_methodNamed B.named
  have hlocks := B.notSynchronized
  have hS : va_S (cp_A L) s.heap s.heap [] := va_S.rf
  have htT : ∀ w ∈ cp_T, w.before ([.ref (L.2.1 k0)] : List Value).toArray s = true := fun w h => hts w (List.mem_cons_of_mem _ h)
  have hl := lv_entry (([.ref (L.2.1 k0)] : List Value)) (n := 2) (Nat.le_of_ble_eq_true rfl)
  rw [lg_entry_eq]
  generalize (lg_sl (([.ref (L.2.1 k0)] : List Value)) ++ List.replicate (2 - (lg_sl (([.ref (L.2.1 k0)] : List Value))).length) Slot.unset).toArray = ls at hl ⊢
  have hl : lv_has ls 2 [(0, .ref (L.2.1 k0))] := hl
  have hL2 : ∀ (n : Nat) (a0 : Nat) (i1 : Int32) (D : cp_Dt) (H : Heap) (locs : List Loc) (ls : Array Slot), fn_X4_freeNumber_L2 L q n a0 i1 D = some res → va_P G vwCl (cp_ws L D) H → va_S (cp_A L) s.heap H locs → lv_has ls 2 [(0, .ref (L.2.1 a0)), (1, .int i1)] → W p l e (headSpec wsX4_freeNumber ({ frames := 0, cells := 0, slots := 0, locals := 0 })).room s m ([.ref (L.2.1 k0)] : List Value).toArray below meth c H locs 0 0 (MQ below (cp_Q G L res.2 (some (.int res.1))) ([.ref (L.2.1 k0)] : List Value).toArray s 0 0 (cp_A L)) (F0 m 2 ls []) := by
    intro n
    induction n with
    | zero =>
      intro a0 i1 D H locs ls hF
      cases hF
    | succ n ih =>
      intro a0 i1 D H locs ls hF hP hS hl
      unfold fn_X4_freeNumber_L2 at hF
      refine lv_iload_n hx hb dX4_freeNumber_2 rfl (lv_at hl 1 rfl) ?_
      refine lv_bipush (v := (16 : Int32)) hx hb dX4_freeNumber_3 (by decide) ?_
      refine lv_icmp_ge (tgt := 28) hx hb dX4_freeNumber_5 (by decide) (fun hc1 => ?_) (fun hc1 => ?_)
      · rw [if_pos hc1] at hF
        refine lv_iconst (v := (-1 : Int32)) hx hb dX4_freeNumber_28 (by decide) ?_
        exact cp_iret hx hb hr hlocks hF hP hS dX4_freeNumber_29
      · rw [if_neg hc1] at hF
        refine lv_aload_n hx hb dX4_freeNumber_8 rfl (lv_at hl 0 rfl) ?_
        obtain ⟨r2, er2, hF⟩ := cp_bind hF
        refine cp_getR (T := TX4) (N := 12) (ci := 4) (j := 4) hx hb htT hinX4 hown hK hP rfl (by decide) rfl (htT _ tw_101) er2 dX4_freeNumber_9 ?_
        refine lv_iload_n hx hb dX4_freeNumber_12 rfl (lv_at hl 1 rfl) ?_
        obtain ⟨r3, er3, hF⟩ := cp_bind hF
        refine cp_aald hx hb hK hP er3 dX4_freeNumber_13 ?_
        obtain ⟨v4, ev4, hF⟩ := cp_bind hF
        refine cp_getIN (T := TX1) (N := 14) (ci := 1) (j := 3) hx hb htT hinX1 hown hK hP rfl (by decide) rfl (hN _ (List.mem_of_getElem? (i := 13) rfl)) ev4 dX4_freeNumber_14 ?_
        refine lv_if_ne (tgt := 22) hx hb dX4_freeNumber_17 (by decide) (fun hc5 => ?_) (fun hc5 => ?_)
        · rw [if_neg hc5] at hF
          refine lv_iinc (k := 1) (v := (i1 + 1)) (lv' := [(1, .int (i1 + 1)), (0, .ref (L.2.1 a0))]) hx hb dX4_freeNumber_22 hl rfl (congrArg (fun z => i1 + z) (by decide)) (by decide) rfl (fun ls hl => ?_)
          refine lv_goto (tgt := 2) hx hb dX4_freeNumber_25 (by decide) ?_
          exact ih a0 (i1 + 1) D _ _ _ hF hP hS (lv_sub hl [1, 0] rfl)
        · rw [if_pos hc5] at hF
          refine lv_iload_n hx hb dX4_freeNumber_20 rfl (lv_at hl 1 rfl) ?_
          exact cp_iret hx hb hr hlocks hF hP hS dX4_freeNumber_21
  unfold fn_X4_freeNumber at hF
  refine lv_iconst (v := (0 : Int32)) hx hb dX4_freeNumber_0 (by decide) ?_
  refine lv_istore_n (lv' := [(1, .int (0 : Int32)), (0, .ref (L.2.1 k0))]) hx hb dX4_freeNumber_1 rfl hl (by decide) rfl (fun ls hl => ?_)
  exact hL2 q k0 (0 : Int32) D _ _ _ hF hP hS (lv_sub hl [1, 0] rfl)
theorem dX4_settle_0 : decode cX4_settle 0 = .ok (.aload_n 0, 1) := by decide +kernel
theorem dX4_settle_1 : decode cX4_settle 1 = .ok (.getfield 11, 3) := by decide +kernel
theorem dX4_settle_4 : decode cX4_settle 4 = .ok (.iload_n 1, 1) := by decide +kernel
theorem dX4_settle_5 : decode cX4_settle 5 = .ok (.aaload, 1) := by decide +kernel
theorem dX4_settle_6 : decode cX4_settle 6 = .ok (.astore 5, 2) := by decide +kernel
theorem dX4_settle_8 : decode cX4_settle 8 = .ok (.aload 5, 2) := by decide +kernel
theorem dX4_settle_10 : decode cX4_settle 10 = .ok (.iload_n 2, 1) := by decide +kernel
theorem dX4_settle_11 : decode cX4_settle 11 = .ok (.iload_n 3, 1) := by decide +kernel
theorem dX4_settle_12 : decode cX4_settle 12 = .ok (.iload 4, 2) := by decide +kernel
theorem dX4_settle_14 : decode cX4_settle 14 = .ok (.invokevirtual 86, 3) := by decide +kernel
theorem dX4_settle_17 : decode cX4_settle 17 = .ok (.aload_n 0, 1) := by decide +kernel
theorem dX4_settle_18 : decode cX4_settle 18 = .ok (.getfield 35, 3) := by decide +kernel
theorem dX4_settle_21 : decode cX4_settle 21 = .ok (.iload_n 2, 1) := by decide +kernel
theorem dX4_settle_22 : decode cX4_settle 22 = .ok (.iload_n 1, 1) := by decide +kernel
theorem dX4_settle_23 : decode cX4_settle 23 = .ok (.iastore, 1) := by decide +kernel
theorem dX4_settle_24 : decode cX4_settle 24 = .ok (.aload 5, 2) := by decide +kernel
theorem dX4_settle_26 : decode cX4_settle 26 = .ok (.areturn, 1) := by decide +kernel
def fn_X4_settle (L : cp_Lay) (q : Nat) (k0 : Nat) (x1 : Int32) (x2 : Int32) (x3 : Int32) (x4 : Int32) (D : cp_Dt) : Option (Nat × cp_Dt) :=
  (cp_gR L k0 4 4).bind fun r1 =>
  (cp_aR L r1 x1).bind fun r2 =>
  (cp_fl L r2 1).bind fun f3 =>
  (fn_X1_begin L q r2 x2 x3 x4 D).bind fun D4 =>
  (cp_gR L k0 4 3).bind fun r5 =>
  (cp_aS L D4 0 r5 x2 x1).bind fun D6 =>
  some (r2, D6)
set_option maxHeartbeats 4000000 in
set_option maxRecDepth 100000 in
theorem ct_X4_settle (l : Launch) (G : va_G) (L : cp_Lay) (hJ : cp_J L) (q : Nat) (k0 : Nat) (x1 : Int32) (x2 : Int32) (x3 : Int32) (x4 : Int32) (D : cp_Dt) (res : Nat × cp_Dt) (hF : fn_X4_settle L q k0 x1 x2 x3 x4 D = some res) : cp_Met l G yX4_settle wsX4_settle ({ frames := 1, cells := 0, slots := 0, locals := 24 }) L ([.ref (L.2.1 k0), .int x1, .int x2, .int x3, .int x4] : List Value) D res.2 (some (.ref (L.2.1 res.1))) := by
  refine Met.ofW (cc := cX4_settle) (maxL := 6) (ret := (some (.object "CreaturePond$Animal"))) (by decide) rfl ?_
  intro p e s m args below meth c s₁ B hml hv
  obtain ⟨rfl, hP, hK, hN, hZ⟩ := hv
  have hx := B.exec
  have hb := B.bytes
  have hr := B.returns
  have hts := atoms_spec (ws := wsX4_settle) B.pre
  have hown : s.vm.findClass "CreaturePond$Pond" = some m.cls := findClass_of_methodNamed B.named
  have hlocks := B.notSynchronized
  have hS : va_S (cp_A L) s.heap s.heap [] := va_S.rf
  have htT : ∀ w ∈ cp_T, w.before ([.ref (L.2.1 k0), .int x1, .int x2, .int x3, .int x4] : List Value).toArray s = true := fun w h => hts w (List.mem_cons_of_mem _ h)
  have hl := lv_entry (([.ref (L.2.1 k0), .int x1, .int x2, .int x3, .int x4] : List Value)) (n := 6) (Nat.le_of_ble_eq_true rfl)
  rw [lg_entry_eq]
  generalize (lg_sl (([.ref (L.2.1 k0), .int x1, .int x2, .int x3, .int x4] : List Value)) ++ List.replicate (6 - (lg_sl (([.ref (L.2.1 k0), .int x1, .int x2, .int x3, .int x4] : List Value))).length) Slot.unset).toArray = ls at hl ⊢
  have hl : lv_has ls 6 [(0, .ref (L.2.1 k0)), (1, .int x1), (2, .int x2), (3, .int x3), (4, .int x4)] := hl
  unfold fn_X4_settle at hF
  refine lv_aload_n hx hb dX4_settle_0 rfl (lv_at hl 0 rfl) ?_
  obtain ⟨r1, er1, hF⟩ := cp_bind hF
  refine cp_getR (T := TX4) (N := 12) (ci := 4) (j := 4) hx hb htT hinX4 hown hK hP rfl (by decide) rfl (htT _ tw_101) er1 dX4_settle_1 ?_
  refine lv_iload_n hx hb dX4_settle_4 rfl (lv_at hl 1 rfl) ?_
  obtain ⟨r2, er2, hF⟩ := cp_bind hF
  refine cp_aald hx hb hK hP er2 dX4_settle_5 ?_
  refine lv_astore (lv' := [(5, .ref (L.2.1 r2)), (0, .ref (L.2.1 k0)), (1, .int x1), (2, .int x2), (3, .int x3), (4, .int x4)]) hx hb dX4_settle_6 hl (by decide) rfl (fun ls hl => ?_)
  refine lv_aload hx hb dX4_settle_8 (lv_at hl 0 rfl) ?_
  refine lv_iload_n hx hb dX4_settle_10 rfl (lv_at hl 3 rfl) ?_
  refine lv_iload_n hx hb dX4_settle_11 rfl (lv_at hl 4 rfl) ?_
  refine lv_iload hx hb dX4_settle_12 (lv_at hl 5 rfl) ?_
  obtain ⟨f3, ef3, hF⟩ := cp_bind hF
  obtain ⟨D4, eD4, hF⟩ := cp_bind hF
  refine cp_call (st1 := []) (va_runVN (As := [.int x2, .int x3, .int x4]) (rest := []) ⟨hx, hb, hml, hown, htT⟩ (ct_X1_begin l G L hJ q r2 x2 x3 x4 D D4 eD4) ⟨va_cnB 3 htT gdX1_begin rfl rfl rfl (hN _ (List.mem_of_getElem? (i := 68) rfl)) (htT _ tw_5) hdX1_begin ⟨Nat.le_of_ble_eq_true rfl, Nat.le_of_ble_eq_true rfl⟩, (htT _ tw_243), (htT _ tw_540)⟩ ⟨cp_blind, cp_recv hK hP rfl ef3, cp_pre hP hK hN hZ hS⟩ rfl rfl hl.1 rfl (lv_room (Nat.le_of_ble_eq_true rfl)) dX4_settle_14 ⟨Nat.zero_le _, Nat.zero_le _⟩) hS (fun H locs hP hS => ?_)
  refine lv_aload_n hx hb dX4_settle_17 rfl (lv_at hl 1 rfl) ?_
  obtain ⟨r5, er5, hF⟩ := cp_bind hF
  refine cp_getR (T := TX4) (N := 12) (ci := 4) (j := 3) hx hb htT hinX4 hown hK hP rfl (by decide) rfl (htT _ tw_100) er5 dX4_settle_18 ?_
  refine lv_iload_n hx hb dX4_settle_21 rfl (lv_at hl 3 rfl) ?_
  refine lv_iload_n hx hb dX4_settle_22 rfl (lv_at hl 2 rfl) ?_
  obtain ⟨D6, eD6, hF⟩ := cp_bind hF
  refine cp_iast hx hb hK hJ hP hS eD6 dX4_settle_23 (fun H locs hP hS => ?_)
  refine lv_aload hx hb dX4_settle_24 (lv_at hl 0 rfl) ?_
  exact cp_aret hx hb hr hlocks hF hP hS dX4_settle_26
theorem dX4_shine_0 : decode cX4_shine 0 = .ok (.iconst 0, 1) := by decide +kernel
theorem dX4_shine_1 : decode cX4_shine 1 = .ok (.istore_n 1, 1) := by decide +kernel
theorem dX4_shine_2 : decode cX4_shine 2 = .ok (.iload_n 1, 1) := by decide +kernel
theorem dX4_shine_3 : decode cX4_shine 3 = .ok (.aload_n 0, 1) := by decide +kernel
theorem dX4_shine_4 : decode cX4_shine 4 = .ok (.getfield 52, 3) := by decide +kernel
theorem dX4_shine_7 : decode cX4_shine 7 = .ok (.if_icmp .ge 84, 3) := by decide +kernel
theorem dX4_shine_10 : decode cX4_shine 10 = .ok (.aload_n 0, 1) := by decide +kernel
theorem dX4_shine_11 : decode cX4_shine 11 = .ok (.getfield 49, 3) := by decide +kernel
theorem dX4_shine_14 : decode cX4_shine 14 = .ok (.ifCond .le 77, 3) := by decide +kernel
theorem dX4_shine_17 : decode cX4_shine 17 = .ok (.aload_n 0, 1) := by decide +kernel
theorem dX4_shine_18 : decode cX4_shine 18 = .ok (.getfield 27, 3) := by decide +kernel
theorem dX4_shine_21 : decode cX4_shine 21 = .ok (.aload_n 0, 1) := by decide +kernel
theorem dX4_shine_22 : decode cX4_shine 22 = .ok (.getfield 58, 3) := by decide +kernel
theorem dX4_shine_25 : decode cX4_shine 25 = .ok (.iaload, 1) := by decide +kernel
theorem dX4_shine_26 : decode cX4_shine 26 = .ok (.sipush 250, 3) := by decide +kernel
theorem dX4_shine_29 : decode cX4_shine 29 = .ok (.if_icmp .ge 26, 3) := by decide +kernel
theorem dX4_shine_32 : decode cX4_shine 32 = .ok (.aload_n 0, 1) := by decide +kernel
theorem dX4_shine_33 : decode cX4_shine 33 = .ok (.getfield 27, 3) := by decide +kernel
theorem dX4_shine_36 : decode cX4_shine 36 = .ok (.aload_n 0, 1) := by decide +kernel
theorem dX4_shine_37 : decode cX4_shine 37 = .ok (.getfield 58, 3) := by decide +kernel
theorem dX4_shine_40 : decode cX4_shine 40 = .ok (.dup2, 1) := by decide +kernel
theorem dX4_shine_41 : decode cX4_shine 41 = .ok (.iaload, 1) := by decide +kernel
theorem dX4_shine_42 : decode cX4_shine 42 = .ok (.iconst 1, 1) := by decide +kernel
theorem dX4_shine_43 : decode cX4_shine 43 = .ok (.iadd, 1) := by decide +kernel
theorem dX4_shine_44 : decode cX4_shine 44 = .ok (.iastore, 1) := by decide +kernel
theorem dX4_shine_45 : decode cX4_shine 45 = .ok (.aload_n 0, 1) := by decide +kernel
theorem dX4_shine_46 : decode cX4_shine 46 = .ok (.dup, 1) := by decide +kernel
theorem dX4_shine_47 : decode cX4_shine 47 = .ok (.getfield 49, 3) := by decide +kernel
theorem dX4_shine_50 : decode cX4_shine 50 = .ok (.iconst 1, 1) := by decide +kernel
theorem dX4_shine_51 : decode cX4_shine 51 = .ok (.isub, 1) := by decide +kernel
theorem dX4_shine_52 : decode cX4_shine 52 = .ok (.putfield 49, 3) := by decide +kernel
theorem dX4_shine_55 : decode cX4_shine 55 = .ok (.aload_n 0, 1) := by decide +kernel
theorem dX4_shine_56 : decode cX4_shine 56 = .ok (.aload_n 0, 1) := by decide +kernel
theorem dX4_shine_57 : decode cX4_shine 57 = .ok (.getfield 58, 3) := by decide +kernel
theorem dX4_shine_60 : decode cX4_shine 60 = .ok (.iconst 1, 1) := by decide +kernel
theorem dX4_shine_61 : decode cX4_shine 61 = .ok (.iadd, 1) := by decide +kernel
theorem dX4_shine_62 : decode cX4_shine 62 = .ok (.aload_n 0, 1) := by decide +kernel
theorem dX4_shine_63 : decode cX4_shine 63 = .ok (.getfield 17, 3) := by decide +kernel
theorem dX4_shine_66 : decode cX4_shine 66 = .ok (.getfield 21, 3) := by decide +kernel
theorem dX4_shine_69 : decode cX4_shine 69 = .ok (.if_icmp .ge 12, 3) := by decide +kernel
theorem dX4_shine_72 : decode cX4_shine 72 = .ok (.aload_n 0, 1) := by decide +kernel
theorem dX4_shine_73 : decode cX4_shine 73 = .ok (.getfield 58, 3) := by decide +kernel
theorem dX4_shine_76 : decode cX4_shine 76 = .ok (.iconst 1, 1) := by decide +kernel
theorem dX4_shine_77 : decode cX4_shine 77 = .ok (.iadd, 1) := by decide +kernel
theorem dX4_shine_78 : decode cX4_shine 78 = .ok (.goto 4, 3) := by decide +kernel
theorem dX4_shine_81 : decode cX4_shine 81 = .ok (.iconst 0, 1) := by decide +kernel
theorem dX4_shine_82 : decode cX4_shine 82 = .ok (.putfield 58, 3) := by decide +kernel
theorem dX4_shine_85 : decode cX4_shine 85 = .ok (.iinc 1 1, 3) := by decide +kernel
theorem dX4_shine_88 : decode cX4_shine 88 = .ok (.goto (-86), 3) := by decide +kernel
theorem dX4_shine_91 : decode cX4_shine 91 = .ok (.return_, 1) := by decide +kernel
def fn_X4_shine_L2 (L : cp_Lay) (q : Nat) : Nat → Nat → Int32 → cp_Dt → Option (cp_Dt)
  | 0, _, _, _ => none
  | n + 1, a0, i1, D =>
    (cp_gI L D a0 4 6).bind fun v1 =>
    if v1 ≤ i1 then (some D)
    else ((cp_gI L D a0 4 5).bind fun v3 =>
    if v3 ≤ 0 then (some D)
    else ((cp_gR L a0 4 1).bind fun r5 =>
    (cp_gI L D a0 4 8).bind fun v6 =>
    (cp_aI L D 0 r5 v6).bind fun v7 =>
    if (250 : Int32) ≤ v7 then ((cp_gI L D a0 4 8).bind fun v9 =>
    (cp_gR L a0 4 0).bind fun r10 =>
    (cp_gI L D r10 5 2).bind fun v11 =>
    if v11 ≤ (v9 + (1 : Int32)) then ((cp_pI L D a0 4 8 (0 : Int32)).bind fun D13 =>
    fn_X4_shine_L2 L q n a0 (i1 + 1) D13)
    else ((cp_gI L D a0 4 8).bind fun v14 =>
    (cp_pI L D a0 4 8 (v14 + (1 : Int32))).bind fun D15 =>
    fn_X4_shine_L2 L q n a0 (i1 + 1) D15))
    else ((cp_gR L a0 4 1).bind fun r16 =>
    (cp_gI L D a0 4 8).bind fun v17 =>
    (cp_aI L D 0 r16 v17).bind fun v18 =>
    (cp_aS L D 0 r16 v17 (v18 + (1 : Int32))).bind fun D19 =>
    (cp_gI L D19 a0 4 5).bind fun v20 =>
    (cp_pI L D19 a0 4 5 (v20 - (1 : Int32))).bind fun D21 =>
    (cp_gI L D21 a0 4 8).bind fun v22 =>
    (cp_gR L a0 4 0).bind fun r23 =>
    (cp_gI L D21 r23 5 2).bind fun v24 =>
    if v24 ≤ (v22 + (1 : Int32)) then ((cp_pI L D21 a0 4 8 (0 : Int32)).bind fun D26 =>
    fn_X4_shine_L2 L q n a0 (i1 + 1) D26)
    else ((cp_gI L D21 a0 4 8).bind fun v27 =>
    (cp_pI L D21 a0 4 8 (v27 + (1 : Int32))).bind fun D28 =>
    fn_X4_shine_L2 L q n a0 (i1 + 1) D28))))
def fn_X4_shine (L : cp_Lay) (q : Nat) (k0 : Nat) (D : cp_Dt) : Option (cp_Dt) :=
  fn_X4_shine_L2 L q q k0 (0 : Int32) D
set_option maxHeartbeats 4000000 in
set_option maxRecDepth 100000 in
theorem ct_X4_shine (l : Launch) (G : va_G) (L : cp_Lay) (hJ : cp_J L) (q : Nat) (k0 : Nat) (D : cp_Dt) (res : cp_Dt) (hF : fn_X4_shine L q k0 D = some res) : cp_Met l G yX4_shine wsX4_shine ({ frames := 0, cells := 0, slots := 0, locals := 0 }) L ([.ref (L.2.1 k0)] : List Value) D res none := by
  refine Met.ofW (cc := cX4_shine) (maxL := 2) (ret := none) (by decide) rfl ?_
  intro p e s m args below meth c s₁ B hml hv
  obtain ⟨rfl, hP, hK, hN, hZ⟩ := hv
  have hx := B.exec
  have hb := B.bytes
  have hr := B.returns
  have hts := atoms_spec (ws := wsX4_shine) B.pre
  have hown : s.vm.findClass "CreaturePond$Pond" = some m.cls := findClass_of_methodNamed B.named
  have hlocks := B.notSynchronized
  have hS : va_S (cp_A L) s.heap s.heap [] := va_S.rf
  have htT : ∀ w ∈ cp_T, w.before ([.ref (L.2.1 k0)] : List Value).toArray s = true := fun w h => hts w (List.mem_cons_of_mem _ h)
  have hl := lv_entry (([.ref (L.2.1 k0)] : List Value)) (n := 2) (Nat.le_of_ble_eq_true rfl)
  rw [lg_entry_eq]
  generalize (lg_sl (([.ref (L.2.1 k0)] : List Value)) ++ List.replicate (2 - (lg_sl (([.ref (L.2.1 k0)] : List Value))).length) Slot.unset).toArray = ls at hl ⊢
  have hl : lv_has ls 2 [(0, .ref (L.2.1 k0))] := hl
  have hL2 : ∀ (n : Nat) (a0 : Nat) (i1 : Int32) (D : cp_Dt) (H : Heap) (locs : List Loc) (ls : Array Slot), fn_X4_shine_L2 L q n a0 i1 D = some res → va_P G vwCl (cp_ws L D) H → va_S (cp_A L) s.heap H locs → lv_has ls 2 [(0, .ref (L.2.1 a0)), (1, .int i1)] → W p l e (headSpec wsX4_shine ({ frames := 0, cells := 0, slots := 0, locals := 0 })).room s m ([.ref (L.2.1 k0)] : List Value).toArray below meth c H locs 0 0 (MQ below (cp_Q G L res none) ([.ref (L.2.1 k0)] : List Value).toArray s 0 0 (cp_A L)) (F0 m 2 ls []) := by
    intro n
    induction n with
    | zero =>
      intro a0 i1 D H locs ls hF
      cases hF
    | succ n ih =>
      intro a0 i1 D H locs ls hF hP hS hl
      unfold fn_X4_shine_L2 at hF
      refine lv_iload_n hx hb dX4_shine_2 rfl (lv_at hl 1 rfl) ?_
      refine lv_aload_n hx hb dX4_shine_3 rfl (lv_at hl 0 rfl) ?_
      obtain ⟨v1, ev1, hF⟩ := cp_bind hF
      refine cp_getI (T := TX4) (N := 12) (ci := 4) (j := 6) hx hb htT hinX4 hown hK hP rfl (by decide) rfl (htT _ tw_103) ev1 dX4_shine_4 ?_
      refine lv_icmp_ge (tgt := 91) hx hb dX4_shine_7 (by decide) (fun hc2 => ?_) (fun hc2 => ?_)
      · rw [if_pos hc2] at hF
        exact cp_vret hx hb hr hlocks hF hP hS dX4_shine_91
      · rw [if_neg hc2] at hF
        refine lv_aload_n hx hb dX4_shine_10 rfl (lv_at hl 0 rfl) ?_
        obtain ⟨v3, ev3, hF⟩ := cp_bind hF
        refine cp_getI (T := TX4) (N := 12) (ci := 4) (j := 5) hx hb htT hinX4 hown hK hP rfl (by decide) rfl (htT _ tw_102) ev3 dX4_shine_11 ?_
        refine lv_if_le (tgt := 91) hx hb dX4_shine_14 (by decide) (fun hc4 => ?_) (fun hc4 => ?_)
        · rw [if_pos hc4] at hF
          exact cp_vret hx hb hr hlocks hF hP hS dX4_shine_91
        · rw [if_neg hc4] at hF
          refine lv_aload_n hx hb dX4_shine_17 rfl (lv_at hl 0 rfl) ?_
          obtain ⟨r5, er5, hF⟩ := cp_bind hF
          refine cp_getR (T := TX4) (N := 12) (ci := 4) (j := 1) hx hb htT hinX4 hown hK hP rfl (by decide) rfl (htT _ tw_98) er5 dX4_shine_18 ?_
          refine lv_aload_n hx hb dX4_shine_21 rfl (lv_at hl 0 rfl) ?_
          obtain ⟨v6, ev6, hF⟩ := cp_bind hF
          refine cp_getI (T := TX4) (N := 12) (ci := 4) (j := 8) hx hb htT hinX4 hown hK hP rfl (by decide) rfl (htT _ tw_105) ev6 dX4_shine_22 ?_
          obtain ⟨v7, ev7, hF⟩ := cp_bind hF
          refine cp_iald hx hb hK hP ev7 dX4_shine_25 ?_
          refine lv_sipush (v := (250 : Int32)) hx hb dX4_shine_26 (by decide) ?_
          refine lv_icmp_ge (tgt := 55) hx hb dX4_shine_29 (by decide) (fun hc8 => ?_) (fun hc8 => ?_)
          · rw [if_pos hc8] at hF
            refine lv_aload_n hx hb dX4_shine_55 rfl (lv_at hl 0 rfl) ?_
            refine lv_aload_n hx hb dX4_shine_56 rfl (lv_at hl 0 rfl) ?_
            obtain ⟨v9, ev9, hF⟩ := cp_bind hF
            refine cp_getI (T := TX4) (N := 12) (ci := 4) (j := 8) hx hb htT hinX4 hown hK hP rfl (by decide) rfl (htT _ tw_105) ev9 dX4_shine_57 ?_
            refine lv_iconst (v := (1 : Int32)) hx hb dX4_shine_60 (by decide) ?_
            refine lv_iadd hx hb dX4_shine_61 ?_
            refine lv_aload_n hx hb dX4_shine_62 rfl (lv_at hl 0 rfl) ?_
            obtain ⟨r10, er10, hF⟩ := cp_bind hF
            refine cp_getR (T := TX4) (N := 12) (ci := 4) (j := 0) hx hb htT hinX4 hown hK hP rfl (by decide) rfl (htT _ tw_97) er10 dX4_shine_63 ?_
            obtain ⟨v11, ev11, hF⟩ := cp_bind hF
            refine cp_getIN (T := TX5) (N := 4) (ci := 5) (j := 2) hx hb htT hinX5 hown hK hP rfl (by decide) rfl (hN _ (List.mem_of_getElem? (i := 1) rfl)) ev11 dX4_shine_66 ?_
            refine lv_icmp_ge (tgt := 81) hx hb dX4_shine_69 (by decide) (fun hc12 => ?_) (fun hc12 => ?_)
            · rw [if_pos hc12] at hF
              refine lv_iconst (v := (0 : Int32)) hx hb dX4_shine_81 (by decide) ?_
              obtain ⟨D13, eD13, hF⟩ := cp_bind hF
              refine cp_put (T := TX4) (N := 12) (ci := 4) (j := 8) hx hb htT hinX4 tyX4 tyX4_ok nmX4 hown hK hJ hP hS rfl (by decide) rfl (htT _ tw_105) rfl rfl rfl eD13 dX4_shine_82 (fun H locs hP hS => ?_)
              refine lv_iinc (k := 1) (v := (i1 + 1)) (lv' := [(1, .int (i1 + 1)), (0, .ref (L.2.1 a0))]) hx hb dX4_shine_85 hl rfl (congrArg (fun z => i1 + z) (by decide)) (by decide) rfl (fun ls hl => ?_)
              refine lv_goto (tgt := 2) hx hb dX4_shine_88 (by decide) ?_
              exact ih a0 (i1 + 1) D13 _ _ _ hF hP hS (lv_sub hl [1, 0] rfl)
            · rw [if_neg hc12] at hF
              refine lv_aload_n hx hb dX4_shine_72 rfl (lv_at hl 0 rfl) ?_
              obtain ⟨v14, ev14, hF⟩ := cp_bind hF
              refine cp_getI (T := TX4) (N := 12) (ci := 4) (j := 8) hx hb htT hinX4 hown hK hP rfl (by decide) rfl (htT _ tw_105) ev14 dX4_shine_73 ?_
              refine lv_iconst (v := (1 : Int32)) hx hb dX4_shine_76 (by decide) ?_
              refine lv_iadd hx hb dX4_shine_77 ?_
              refine lv_goto (tgt := 82) hx hb dX4_shine_78 (by decide) ?_
              obtain ⟨D15, eD15, hF⟩ := cp_bind hF
              refine cp_put (T := TX4) (N := 12) (ci := 4) (j := 8) hx hb htT hinX4 tyX4 tyX4_ok nmX4 hown hK hJ hP hS rfl (by decide) rfl (htT _ tw_105) rfl rfl rfl eD15 dX4_shine_82 (fun H locs hP hS => ?_)
              refine lv_iinc (k := 1) (v := (i1 + 1)) (lv' := [(1, .int (i1 + 1)), (0, .ref (L.2.1 a0))]) hx hb dX4_shine_85 hl rfl (congrArg (fun z => i1 + z) (by decide)) (by decide) rfl (fun ls hl => ?_)
              refine lv_goto (tgt := 2) hx hb dX4_shine_88 (by decide) ?_
              exact ih a0 (i1 + 1) D15 _ _ _ hF hP hS (lv_sub hl [1, 0] rfl)
          · rw [if_neg hc8] at hF
            refine lv_aload_n hx hb dX4_shine_32 rfl (lv_at hl 0 rfl) ?_
            obtain ⟨r16, er16, hF⟩ := cp_bind hF
            refine cp_getR (T := TX4) (N := 12) (ci := 4) (j := 1) hx hb htT hinX4 hown hK hP rfl (by decide) rfl (htT _ tw_98) er16 dX4_shine_33 ?_
            refine lv_aload_n hx hb dX4_shine_36 rfl (lv_at hl 0 rfl) ?_
            obtain ⟨v17, ev17, hF⟩ := cp_bind hF
            refine cp_getI (T := TX4) (N := 12) (ci := 4) (j := 8) hx hb htT hinX4 hown hK hP rfl (by decide) rfl (htT _ tw_105) ev17 dX4_shine_37 ?_
            refine lv_dup2_11 hx hb dX4_shine_40 rfl rfl ?_
            obtain ⟨v18, ev18, hF⟩ := cp_bind hF
            refine cp_iald hx hb hK hP ev18 dX4_shine_41 ?_
            refine lv_iconst (v := (1 : Int32)) hx hb dX4_shine_42 (by decide) ?_
            refine lv_iadd hx hb dX4_shine_43 ?_
            obtain ⟨D19, eD19, hF⟩ := cp_bind hF
            refine cp_iast hx hb hK hJ hP hS eD19 dX4_shine_44 (fun H locs hP hS => ?_)
            refine lv_aload_n hx hb dX4_shine_45 rfl (lv_at hl 0 rfl) ?_
            refine lv_dup hx hb dX4_shine_46 rfl ?_
            obtain ⟨v20, ev20, hF⟩ := cp_bind hF
            refine cp_getI (T := TX4) (N := 12) (ci := 4) (j := 5) hx hb htT hinX4 hown hK hP rfl (by decide) rfl (htT _ tw_102) ev20 dX4_shine_47 ?_
            refine lv_iconst (v := (1 : Int32)) hx hb dX4_shine_50 (by decide) ?_
            refine lv_isub hx hb dX4_shine_51 ?_
            obtain ⟨D21, eD21, hF⟩ := cp_bind hF
            refine cp_put (T := TX4) (N := 12) (ci := 4) (j := 5) hx hb htT hinX4 tyX4 tyX4_ok nmX4 hown hK hJ hP hS rfl (by decide) rfl (htT _ tw_102) rfl rfl rfl eD21 dX4_shine_52 (fun H locs hP hS => ?_)
            refine lv_aload_n hx hb dX4_shine_55 rfl (lv_at hl 0 rfl) ?_
            refine lv_aload_n hx hb dX4_shine_56 rfl (lv_at hl 0 rfl) ?_
            obtain ⟨v22, ev22, hF⟩ := cp_bind hF
            refine cp_getI (T := TX4) (N := 12) (ci := 4) (j := 8) hx hb htT hinX4 hown hK hP rfl (by decide) rfl (htT _ tw_105) ev22 dX4_shine_57 ?_
            refine lv_iconst (v := (1 : Int32)) hx hb dX4_shine_60 (by decide) ?_
            refine lv_iadd hx hb dX4_shine_61 ?_
            refine lv_aload_n hx hb dX4_shine_62 rfl (lv_at hl 0 rfl) ?_
            obtain ⟨r23, er23, hF⟩ := cp_bind hF
            refine cp_getR (T := TX4) (N := 12) (ci := 4) (j := 0) hx hb htT hinX4 hown hK hP rfl (by decide) rfl (htT _ tw_97) er23 dX4_shine_63 ?_
            obtain ⟨v24, ev24, hF⟩ := cp_bind hF
            refine cp_getIN (T := TX5) (N := 4) (ci := 5) (j := 2) hx hb htT hinX5 hown hK hP rfl (by decide) rfl (hN _ (List.mem_of_getElem? (i := 1) rfl)) ev24 dX4_shine_66 ?_
            refine lv_icmp_ge (tgt := 81) hx hb dX4_shine_69 (by decide) (fun hc25 => ?_) (fun hc25 => ?_)
            · rw [if_pos hc25] at hF
              refine lv_iconst (v := (0 : Int32)) hx hb dX4_shine_81 (by decide) ?_
              obtain ⟨D26, eD26, hF⟩ := cp_bind hF
              refine cp_put (T := TX4) (N := 12) (ci := 4) (j := 8) hx hb htT hinX4 tyX4 tyX4_ok nmX4 hown hK hJ hP hS rfl (by decide) rfl (htT _ tw_105) rfl rfl rfl eD26 dX4_shine_82 (fun H locs hP hS => ?_)
              refine lv_iinc (k := 1) (v := (i1 + 1)) (lv' := [(1, .int (i1 + 1)), (0, .ref (L.2.1 a0))]) hx hb dX4_shine_85 hl rfl (congrArg (fun z => i1 + z) (by decide)) (by decide) rfl (fun ls hl => ?_)
              refine lv_goto (tgt := 2) hx hb dX4_shine_88 (by decide) ?_
              exact ih a0 (i1 + 1) D26 _ _ _ hF hP hS (lv_sub hl [1, 0] rfl)
            · rw [if_neg hc25] at hF
              refine lv_aload_n hx hb dX4_shine_72 rfl (lv_at hl 0 rfl) ?_
              obtain ⟨v27, ev27, hF⟩ := cp_bind hF
              refine cp_getI (T := TX4) (N := 12) (ci := 4) (j := 8) hx hb htT hinX4 hown hK hP rfl (by decide) rfl (htT _ tw_105) ev27 dX4_shine_73 ?_
              refine lv_iconst (v := (1 : Int32)) hx hb dX4_shine_76 (by decide) ?_
              refine lv_iadd hx hb dX4_shine_77 ?_
              refine lv_goto (tgt := 82) hx hb dX4_shine_78 (by decide) ?_
              obtain ⟨D28, eD28, hF⟩ := cp_bind hF
              refine cp_put (T := TX4) (N := 12) (ci := 4) (j := 8) hx hb htT hinX4 tyX4 tyX4_ok nmX4 hown hK hJ hP hS rfl (by decide) rfl (htT _ tw_105) rfl rfl rfl eD28 dX4_shine_82 (fun H locs hP hS => ?_)
              refine lv_iinc (k := 1) (v := (i1 + 1)) (lv' := [(1, .int (i1 + 1)), (0, .ref (L.2.1 a0))]) hx hb dX4_shine_85 hl rfl (congrArg (fun z => i1 + z) (by decide)) (by decide) rfl (fun ls hl => ?_)
              refine lv_goto (tgt := 2) hx hb dX4_shine_88 (by decide) ?_
              exact ih a0 (i1 + 1) D28 _ _ _ hF hP hS (lv_sub hl [1, 0] rfl)
  unfold fn_X4_shine at hF
  refine lv_iconst (v := (0 : Int32)) hx hb dX4_shine_0 (by decide) ?_
  refine lv_istore_n (lv' := [(1, .int (0 : Int32)), (0, .ref (L.2.1 k0))]) hx hb dX4_shine_1 rfl hl (by decide) rfl (fun ls hl => ?_)
  exact hL2 q k0 (0 : Int32) D _ _ _ hF hP hS (lv_sub hl [1, 0] rfl)
theorem dX4_pay_0 : decode cX4_pay 0 = .ok (.iload_n 2, 1) := by decide +kernel
theorem dX4_pay_1 : decode cX4_pay 1 = .ok (.aload_n 1, 1) := by decide +kernel
theorem dX4_pay_2 : decode cX4_pay 2 = .ok (.getfield 83, 3) := by decide +kernel
theorem dX4_pay_5 : decode cX4_pay 5 = .ok (.invokestatic 90, 3) := by decide +kernel
theorem dX4_pay_8 : decode cX4_pay 8 = .ok (.istore_n 3, 1) := by decide +kernel
theorem dX4_pay_9 : decode cX4_pay 9 = .ok (.aload_n 1, 1) := by decide +kernel
theorem dX4_pay_10 : decode cX4_pay 10 = .ok (.dup, 1) := by decide +kernel
theorem dX4_pay_11 : decode cX4_pay 11 = .ok (.getfield 83, 3) := by decide +kernel
theorem dX4_pay_14 : decode cX4_pay 14 = .ok (.iload_n 3, 1) := by decide +kernel
theorem dX4_pay_15 : decode cX4_pay 15 = .ok (.isub, 1) := by decide +kernel
theorem dX4_pay_16 : decode cX4_pay 16 = .ok (.putfield 83, 3) := by decide +kernel
theorem dX4_pay_19 : decode cX4_pay 19 = .ok (.aload_n 0, 1) := by decide +kernel
theorem dX4_pay_20 : decode cX4_pay 20 = .ok (.dup, 1) := by decide +kernel
theorem dX4_pay_21 : decode cX4_pay 21 = .ok (.getfield 49, 3) := by decide +kernel
theorem dX4_pay_24 : decode cX4_pay 24 = .ok (.iload_n 3, 1) := by decide +kernel
theorem dX4_pay_25 : decode cX4_pay 25 = .ok (.iadd, 1) := by decide +kernel
theorem dX4_pay_26 : decode cX4_pay 26 = .ok (.putfield 49, 3) := by decide +kernel
theorem dX4_pay_29 : decode cX4_pay 29 = .ok (.return_, 1) := by decide +kernel
def fn_X4_pay (L : cp_Lay) (q : Nat) (k0 : Nat) (k1 : Nat) (x2 : Int32) (D : cp_Dt) : Option (cp_Dt) :=
  (cp_gI L D k1 1 7).bind fun v1 =>
  (cp_gI L D k1 1 7).bind fun v2 =>
  (cp_pI L D k1 1 7 (v2 - (cp_mn x2 v1))).bind fun D3 =>
  (cp_gI L D3 k0 4 5).bind fun v4 =>
  (cp_pI L D3 k0 4 5 (v4 + (cp_mn x2 v1))).bind fun D5 =>
  some D5
set_option maxHeartbeats 4000000 in
set_option maxRecDepth 100000 in
theorem ct_X4_pay (l : Launch) (G : va_G) (L : cp_Lay) (hJ : cp_J L) (q : Nat) (k0 : Nat) (k1 : Nat) (x2 : Int32) (D : cp_Dt) (res : cp_Dt) (hF : fn_X4_pay L q k0 k1 x2 D = some res) : cp_Met l G yX4_pay wsX4_pay ({ frames := 1, cells := 0, slots := 0, locals := 21 }) L ([.ref (L.2.1 k0), .ref (L.2.1 k1), .int x2] : List Value) D res none := by
  refine Met.ofW (cc := cX4_pay) (maxL := 4) (ret := none) (by decide) rfl ?_
  intro p e s m args below meth c s₁ B hml hv
  obtain ⟨rfl, hP, hK, hN, hZ⟩ := hv
  have hx := B.exec
  have hb := B.bytes
  have hr := B.returns
  have hts := atoms_spec (ws := wsX4_pay) B.pre
  have hown : s.vm.findClass "CreaturePond$Pond" = some m.cls := findClass_of_methodNamed B.named
  have hlocks := B.notSynchronized
  have hS : va_S (cp_A L) s.heap s.heap [] := va_S.rf
  have htT : ∀ w ∈ cp_T, w.before ([.ref (L.2.1 k0), .ref (L.2.1 k1), .int x2] : List Value).toArray s = true := fun w h => hts w (List.mem_cons_of_mem _ h)
  have hl := lv_entry (([.ref (L.2.1 k0), .ref (L.2.1 k1), .int x2] : List Value)) (n := 4) (Nat.le_of_ble_eq_true rfl)
  rw [lg_entry_eq]
  generalize (lg_sl (([.ref (L.2.1 k0), .ref (L.2.1 k1), .int x2] : List Value)) ++ List.replicate (4 - (lg_sl (([.ref (L.2.1 k0), .ref (L.2.1 k1), .int x2] : List Value))).length) Slot.unset).toArray = ls at hl ⊢
  have hl : lv_has ls 4 [(0, .ref (L.2.1 k0)), (1, .ref (L.2.1 k1)), (2, .int x2)] := hl
  unfold fn_X4_pay at hF
  refine lv_iload_n hx hb dX4_pay_0 rfl (lv_at hl 2 rfl) ?_
  refine lv_aload_n hx hb dX4_pay_1 rfl (lv_at hl 1 rfl) ?_
  obtain ⟨v1, ev1, hF⟩ := cp_bind hF
  refine cp_getIN (T := TX1) (N := 14) (ci := 1) (j := 7) hx hb htT hinX1 hown hK hP rfl (by decide) rfl (hN _ (List.mem_of_getElem? (i := 25) rfl)) ev1 dX4_pay_2 ?_
  refine va_mmin hx hb (by rw [hml]; exact hl.1.symm) hown (htT _ tw_268) (htT _ tw_27) (htT _ tw_3) (htT _ tw_28) (Nat.le_of_ble_eq_true rfl) (Nat.le_of_ble_eq_true rfl) (Nat.zero_le _) (Nat.zero_le _) dX4_pay_5 ?_
  refine lv_istore_n (lv' := [(3, .int (cp_mn x2 v1)), (0, .ref (L.2.1 k0)), (1, .ref (L.2.1 k1)), (2, .int x2)]) hx hb dX4_pay_8 rfl hl (by decide) rfl (fun ls hl => ?_)
  refine lv_aload_n hx hb dX4_pay_9 rfl (lv_at hl 2 rfl) ?_
  refine lv_dup hx hb dX4_pay_10 rfl ?_
  obtain ⟨v2, ev2, hF⟩ := cp_bind hF
  refine cp_getIN (T := TX1) (N := 14) (ci := 1) (j := 7) hx hb htT hinX1 hown hK hP rfl (by decide) rfl (hN _ (List.mem_of_getElem? (i := 25) rfl)) ev2 dX4_pay_11 ?_
  refine lv_iload_n hx hb dX4_pay_14 rfl (lv_at hl 0 rfl) ?_
  refine lv_isub hx hb dX4_pay_15 ?_
  obtain ⟨D3, eD3, hF⟩ := cp_bind hF
  refine cp_putN (T := TX1) (N := 14) (ci := 1) (j := 7) hx hb htT hinX1 tyX1 tyX1_ok nmX1 hown hK hJ hP hS rfl (by decide) rfl (hN _ (List.mem_of_getElem? (i := 25) rfl)) rfl rfl rfl eD3 dX4_pay_16 (fun H locs hP hS => ?_)
  refine lv_aload_n hx hb dX4_pay_19 rfl (lv_at hl 1 rfl) ?_
  refine lv_dup hx hb dX4_pay_20 rfl ?_
  obtain ⟨v4, ev4, hF⟩ := cp_bind hF
  refine cp_getI (T := TX4) (N := 12) (ci := 4) (j := 5) hx hb htT hinX4 hown hK hP rfl (by decide) rfl (htT _ tw_102) ev4 dX4_pay_21 ?_
  refine lv_iload_n hx hb dX4_pay_24 rfl (lv_at hl 0 rfl) ?_
  refine lv_iadd hx hb dX4_pay_25 ?_
  obtain ⟨D5, eD5, hF⟩ := cp_bind hF
  refine cp_put (T := TX4) (N := 12) (ci := 4) (j := 5) hx hb htT hinX4 tyX4 tyX4_ok nmX4 hown hK hJ hP hS rfl (by decide) rfl (htT _ tw_102) rfl rfl rfl eD5 dX4_pay_26 (fun H locs hP hS => ?_)
  exact cp_vret hx hb hr hlocks hF hP hS dX4_pay_29
theorem dX4_aheadOf_0 : decode cX4_aheadOf 0 = .ok (.aload_n 0, 1) := by decide +kernel
theorem dX4_aheadOf_1 : decode cX4_aheadOf 1 = .ok (.getfield 17, 3) := by decide +kernel
theorem dX4_aheadOf_4 : decode cX4_aheadOf 4 = .ok (.getfield 70, 3) := by decide +kernel
theorem dX4_aheadOf_7 : decode cX4_aheadOf 7 = .ok (.aload_n 1, 1) := by decide +kernel
theorem dX4_aheadOf_8 : decode cX4_aheadOf 8 = .ok (.getfield 73, 3) := by decide +kernel
theorem dX4_aheadOf_11 : decode cX4_aheadOf 11 = .ok (.iconst 4, 1) := by decide +kernel
theorem dX4_aheadOf_12 : decode cX4_aheadOf 12 = .ok (.imul, 1) := by decide +kernel
theorem dX4_aheadOf_13 : decode cX4_aheadOf 13 = .ok (.aload_n 1, 1) := by decide +kernel
theorem dX4_aheadOf_14 : decode cX4_aheadOf 14 = .ok (.getfield 76, 3) := by decide +kernel
theorem dX4_aheadOf_17 : decode cX4_aheadOf 17 = .ok (.iadd, 1) := by decide +kernel
theorem dX4_aheadOf_18 : decode cX4_aheadOf 18 = .ok (.iaload, 1) := by decide +kernel
theorem dX4_aheadOf_19 : decode cX4_aheadOf 19 = .ok (.ireturn, 1) := by decide +kernel
def fn_X4_aheadOf (L : cp_Lay) (q : Nat) (k0 : Nat) (k1 : Nat) (D : cp_Dt) : Option (Int32 × cp_Dt) :=
  (cp_gR L k0 4 0).bind fun r1 =>
  (cp_gR L r1 5 3).bind fun r2 =>
  (cp_gI L D k1 1 5).bind fun v3 =>
  (cp_gI L D k1 1 6).bind fun v4 =>
  (cp_aI L D 0 r2 ((v3 * (4 : Int32)) + v4)).bind fun v5 =>
  some (v5, D)
set_option maxHeartbeats 4000000 in
set_option maxRecDepth 100000 in
theorem ct_X4_aheadOf (l : Launch) (G : va_G) (L : cp_Lay) (hJ : cp_J L) (q : Nat) (k0 : Nat) (k1 : Nat) (D : cp_Dt) (res : Int32 × cp_Dt) (hF : fn_X4_aheadOf L q k0 k1 D = some res) : cp_Met l G yX4_aheadOf wsX4_aheadOf ({ frames := 0, cells := 0, slots := 0, locals := 0 }) L ([.ref (L.2.1 k0), .ref (L.2.1 k1)] : List Value) D res.2 (some (.int res.1)) := by
  refine Met.ofW (cc := cX4_aheadOf) (maxL := 2) (ret := (some .int)) (by decide) rfl ?_
  intro p e s m args below meth c s₁ B hml hv
  obtain ⟨rfl, hP, hK, hN, hZ⟩ := hv
  have hx := B.exec
  have hb := B.bytes
  have hr := B.returns
  have hts := atoms_spec (ws := wsX4_aheadOf) B.pre
  have hown : s.vm.findClass "CreaturePond$Pond" = some m.cls := findClass_of_methodNamed B.named
  have hlocks := B.notSynchronized
  have hS : va_S (cp_A L) s.heap s.heap [] := va_S.rf
  have htT : ∀ w ∈ cp_T, w.before ([.ref (L.2.1 k0), .ref (L.2.1 k1)] : List Value).toArray s = true := fun w h => hts w (List.mem_cons_of_mem _ h)
  have hl := lv_entry (([.ref (L.2.1 k0), .ref (L.2.1 k1)] : List Value)) (n := 2) (Nat.le_of_ble_eq_true rfl)
  rw [lg_entry_eq]
  generalize (lg_sl (([.ref (L.2.1 k0), .ref (L.2.1 k1)] : List Value)) ++ List.replicate (2 - (lg_sl (([.ref (L.2.1 k0), .ref (L.2.1 k1)] : List Value))).length) Slot.unset).toArray = ls at hl ⊢
  have hl : lv_has ls 2 [(0, .ref (L.2.1 k0)), (1, .ref (L.2.1 k1))] := hl
  unfold fn_X4_aheadOf at hF
  refine lv_aload_n hx hb dX4_aheadOf_0 rfl (lv_at hl 0 rfl) ?_
  obtain ⟨r1, er1, hF⟩ := cp_bind hF
  refine cp_getR (T := TX4) (N := 12) (ci := 4) (j := 0) hx hb htT hinX4 hown hK hP rfl (by decide) rfl (htT _ tw_97) er1 dX4_aheadOf_1 ?_
  obtain ⟨r2, er2, hF⟩ := cp_bind hF
  refine cp_getRN (T := TX5) (N := 4) (ci := 5) (j := 3) hx hb htT hinX5 hown hK hP rfl (by decide) rfl (hN _ (List.mem_of_getElem? (i := 2) rfl)) er2 dX4_aheadOf_4 ?_
  refine lv_aload_n hx hb dX4_aheadOf_7 rfl (lv_at hl 1 rfl) ?_
  obtain ⟨v3, ev3, hF⟩ := cp_bind hF
  refine cp_getIN (T := TX1) (N := 14) (ci := 1) (j := 5) hx hb htT hinX1 hown hK hP rfl (by decide) rfl (hN _ (List.mem_of_getElem? (i := 16) rfl)) ev3 dX4_aheadOf_8 ?_
  refine lv_iconst (v := (4 : Int32)) hx hb dX4_aheadOf_11 (by decide) ?_
  refine lv_imul hx hb dX4_aheadOf_12 ?_
  refine lv_aload_n hx hb dX4_aheadOf_13 rfl (lv_at hl 1 rfl) ?_
  obtain ⟨v4, ev4, hF⟩ := cp_bind hF
  refine cp_getIN (T := TX1) (N := 14) (ci := 1) (j := 6) hx hb htT hinX1 hown hK hP rfl (by decide) rfl (hN _ (List.mem_of_getElem? (i := 20) rfl)) ev4 dX4_aheadOf_14 ?_
  refine lv_iadd hx hb dX4_aheadOf_17 ?_
  obtain ⟨v5, ev5, hF⟩ := cp_bind hF
  refine cp_iald hx hb hK hP ev5 dX4_aheadOf_18 ?_
  exact cp_iret hx hb hr hlocks hF hP hS dX4_aheadOf_19
theorem dX4_nextNumber_0 : decode cX4_nextNumber 0 = .ok (.aload_n 0, 1) := by decide +kernel
theorem dX4_nextNumber_1 : decode cX4_nextNumber 1 = .ok (.getfield 55, 3) := by decide +kernel
theorem dX4_nextNumber_4 : decode cX4_nextNumber 4 = .ok (.bipush 16, 2) := by decide +kernel
theorem dX4_nextNumber_6 : decode cX4_nextNumber 6 = .ok (.iushr, 1) := by decide +kernel
theorem dX4_nextNumber_7 : decode cX4_nextNumber 7 = .ok (.istore_n 1, 1) := by decide +kernel
theorem dX4_nextNumber_8 : decode cX4_nextNumber 8 = .ok (.aload_n 0, 1) := by decide +kernel
theorem dX4_nextNumber_9 : decode cX4_nextNumber 9 = .ok (.aload_n 0, 1) := by decide +kernel
theorem dX4_nextNumber_10 : decode cX4_nextNumber 10 = .ok (.getfield 55, 3) := by decide +kernel
theorem dX4_nextNumber_13 : decode cX4_nextNumber 13 = .ok (.ldc 96, 2) := by decide +kernel
theorem dX4_nextNumber_15 : decode cX4_nextNumber 15 = .ok (.imul, 1) := by decide +kernel
theorem dX4_nextNumber_16 : decode cX4_nextNumber 16 = .ok (.iconst 1, 1) := by decide +kernel
theorem dX4_nextNumber_17 : decode cX4_nextNumber 17 = .ok (.iadd, 1) := by decide +kernel
theorem dX4_nextNumber_18 : decode cX4_nextNumber 18 = .ok (.putfield 55, 3) := by decide +kernel
theorem dX4_nextNumber_21 : decode cX4_nextNumber 21 = .ok (.iload_n 1, 1) := by decide +kernel
theorem dX4_nextNumber_22 : decode cX4_nextNumber 22 = .ok (.ireturn, 1) := by decide +kernel
def fn_X4_nextNumber (L : cp_Lay) (q : Nat) (k0 : Nat) (D : cp_Dt) : Option (Int32 × cp_Dt) :=
  (cp_gI L D k0 4 7).bind fun v1 =>
  (cp_gI L D k0 4 7).bind fun v2 =>
  (cp_pI L D k0 4 7 ((v2 * (134775813 : Int32)) + (1 : Int32))).bind fun D3 =>
  some ((v1.toUInt32 >>> ((16 : Int32).toUInt32 &&& Int32.toUInt32 31)).toInt32, D3)
set_option maxHeartbeats 4000000 in
set_option maxRecDepth 100000 in
theorem ct_X4_nextNumber (l : Launch) (G : va_G) (L : cp_Lay) (hJ : cp_J L) (q : Nat) (k0 : Nat) (D : cp_Dt) (res : Int32 × cp_Dt) (hF : fn_X4_nextNumber L q k0 D = some res) : cp_Met l G yX4_nextNumber wsX4_nextNumber ({ frames := 0, cells := 0, slots := 0, locals := 0 }) L ([.ref (L.2.1 k0)] : List Value) D res.2 (some (.int res.1)) := by
  refine Met.ofW (cc := cX4_nextNumber) (maxL := 2) (ret := (some .int)) (by decide) rfl ?_
  intro p e s m args below meth c s₁ B hml hv
  obtain ⟨rfl, hP, hK, hN, hZ⟩ := hv
  have hx := B.exec
  have hb := B.bytes
  have hr := B.returns
  have hts := atoms_spec (ws := wsX4_nextNumber) B.pre
  have hown : s.vm.findClass "CreaturePond$Pond" = some m.cls := findClass_of_methodNamed B.named
  have hlocks := B.notSynchronized
  have hS : va_S (cp_A L) s.heap s.heap [] := va_S.rf
  have htT : ∀ w ∈ cp_T, w.before ([.ref (L.2.1 k0)] : List Value).toArray s = true := fun w h => hts w (List.mem_cons_of_mem _ h)
  have hl := lv_entry (([.ref (L.2.1 k0)] : List Value)) (n := 2) (Nat.le_of_ble_eq_true rfl)
  rw [lg_entry_eq]
  generalize (lg_sl (([.ref (L.2.1 k0)] : List Value)) ++ List.replicate (2 - (lg_sl (([.ref (L.2.1 k0)] : List Value))).length) Slot.unset).toArray = ls at hl ⊢
  have hl : lv_has ls 2 [(0, .ref (L.2.1 k0))] := hl
  unfold fn_X4_nextNumber at hF
  refine lv_aload_n hx hb dX4_nextNumber_0 rfl (lv_at hl 0 rfl) ?_
  obtain ⟨v1, ev1, hF⟩ := cp_bind hF
  refine cp_getI (T := TX4) (N := 12) (ci := 4) (j := 7) hx hb htT hinX4 hown hK hP rfl (by decide) rfl (htT _ tw_104) ev1 dX4_nextNumber_1 ?_
  refine lv_bipush (v := (16 : Int32)) hx hb dX4_nextNumber_4 (by decide) ?_
  refine lv_iushr hx hb dX4_nextNumber_6 rfl ?_
  refine lv_istore_n (lv' := [(1, .int ((v1.toUInt32 >>> ((16 : Int32).toUInt32 &&& Int32.toUInt32 31)).toInt32)), (0, .ref (L.2.1 k0))]) hx hb dX4_nextNumber_7 rfl hl (by decide) rfl (fun ls hl => ?_)
  refine lv_aload_n hx hb dX4_nextNumber_8 rfl (lv_at hl 1 rfl) ?_
  refine lv_aload_n hx hb dX4_nextNumber_9 rfl (lv_at hl 1 rfl) ?_
  obtain ⟨v2, ev2, hF⟩ := cp_bind hF
  refine cp_getI (T := TX4) (N := 12) (ci := 4) (j := 7) hx hb htT hinX4 hown hK hP rfl (by decide) rfl (htT _ tw_104) ev2 dX4_nextNumber_10 ?_
  refine lv_ldc (v := (134775813 : Int32)) hx hb hown (htT _ tw_330) dX4_nextNumber_13 ?_
  refine lv_imul hx hb dX4_nextNumber_15 ?_
  refine lv_iconst (v := (1 : Int32)) hx hb dX4_nextNumber_16 (by decide) ?_
  refine lv_iadd hx hb dX4_nextNumber_17 ?_
  obtain ⟨D3, eD3, hF⟩ := cp_bind hF
  refine cp_put (T := TX4) (N := 12) (ci := 4) (j := 7) hx hb htT hinX4 tyX4 tyX4_ok nmX4 hown hK hJ hP hS rfl (by decide) rfl (htT _ tw_104) rfl rfl rfl eD3 dX4_nextNumber_18 (fun H locs hP hS => ?_)
  refine lv_iload_n hx hb dX4_nextNumber_21 rfl (lv_at hl 0 rfl) ?_
  exact cp_iret hx hb hr hlocks hF hP hS dX4_nextNumber_22
theorem dX4_end_0 : decode cX4_end 0 = .ok (.aload_n 0, 1) := by decide +kernel
theorem dX4_end_1 : decode cX4_end 1 = .ok (.getfield 27, 3) := by decide +kernel
theorem dX4_end_4 : decode cX4_end 4 = .ok (.aload_n 1, 1) := by decide +kernel
theorem dX4_end_5 : decode cX4_end 5 = .ok (.getfield 73, 3) := by decide +kernel
theorem dX4_end_8 : decode cX4_end 8 = .ok (.iaload, 1) := by decide +kernel
theorem dX4_end_9 : decode cX4_end 9 = .ok (.aload_n 1, 1) := by decide +kernel
theorem dX4_end_10 : decode cX4_end 10 = .ok (.getfield 83, 3) := by decide +kernel
theorem dX4_end_13 : decode cX4_end 13 = .ok (.iadd, 1) := by decide +kernel
theorem dX4_end_14 : decode cX4_end 14 = .ok (.istore_n 2, 1) := by decide +kernel
theorem dX4_end_15 : decode cX4_end 15 = .ok (.iload_n 2, 1) := by decide +kernel
theorem dX4_end_16 : decode cX4_end 16 = .ok (.sipush 250, 3) := by decide +kernel
theorem dX4_end_19 : decode cX4_end 19 = .ok (.invokestatic 90, 3) := by decide +kernel
theorem dX4_end_22 : decode cX4_end 22 = .ok (.istore_n 3, 1) := by decide +kernel
theorem dX4_end_23 : decode cX4_end 23 = .ok (.aload_n 0, 1) := by decide +kernel
theorem dX4_end_24 : decode cX4_end 24 = .ok (.getfield 27, 3) := by decide +kernel
theorem dX4_end_27 : decode cX4_end 27 = .ok (.aload_n 1, 1) := by decide +kernel
theorem dX4_end_28 : decode cX4_end 28 = .ok (.getfield 73, 3) := by decide +kernel
theorem dX4_end_31 : decode cX4_end 31 = .ok (.iload_n 3, 1) := by decide +kernel
theorem dX4_end_32 : decode cX4_end 32 = .ok (.iastore, 1) := by decide +kernel
theorem dX4_end_33 : decode cX4_end 33 = .ok (.aload_n 0, 1) := by decide +kernel
theorem dX4_end_34 : decode cX4_end 34 = .ok (.dup, 1) := by decide +kernel
theorem dX4_end_35 : decode cX4_end 35 = .ok (.getfield 49, 3) := by decide +kernel
theorem dX4_end_38 : decode cX4_end 38 = .ok (.iload_n 2, 1) := by decide +kernel
theorem dX4_end_39 : decode cX4_end 39 = .ok (.iload_n 3, 1) := by decide +kernel
theorem dX4_end_40 : decode cX4_end 40 = .ok (.isub, 1) := by decide +kernel
theorem dX4_end_41 : decode cX4_end 41 = .ok (.iadd, 1) := by decide +kernel
theorem dX4_end_42 : decode cX4_end 42 = .ok (.putfield 49, 3) := by decide +kernel
theorem dX4_end_45 : decode cX4_end 45 = .ok (.aload_n 0, 1) := by decide +kernel
theorem dX4_end_46 : decode cX4_end 46 = .ok (.getfield 35, 3) := by decide +kernel
theorem dX4_end_49 : decode cX4_end 49 = .ok (.aload_n 1, 1) := by decide +kernel
theorem dX4_end_50 : decode cX4_end 50 = .ok (.getfield 73, 3) := by decide +kernel
theorem dX4_end_53 : decode cX4_end 53 = .ok (.iconst (-1), 1) := by decide +kernel
theorem dX4_end_54 : decode cX4_end 54 = .ok (.iastore, 1) := by decide +kernel
theorem dX4_end_55 : decode cX4_end 55 = .ok (.aload_n 1, 1) := by decide +kernel
theorem dX4_end_56 : decode cX4_end 56 = .ok (.iconst 0, 1) := by decide +kernel
theorem dX4_end_57 : decode cX4_end 57 = .ok (.putfield 79, 3) := by decide +kernel
theorem dX4_end_60 : decode cX4_end 60 = .ok (.aload_n 0, 1) := by decide +kernel
theorem dX4_end_61 : decode cX4_end 61 = .ok (.dup, 1) := by decide +kernel
theorem dX4_end_62 : decode cX4_end 62 = .ok (.getfield 64, 3) := by decide +kernel
theorem dX4_end_65 : decode cX4_end 65 = .ok (.iconst 1, 1) := by decide +kernel
theorem dX4_end_66 : decode cX4_end 66 = .ok (.iadd, 1) := by decide +kernel
theorem dX4_end_67 : decode cX4_end 67 = .ok (.putfield 64, 3) := by decide +kernel
theorem dX4_end_70 : decode cX4_end 70 = .ok (.return_, 1) := by decide +kernel
def fn_X4_end (L : cp_Lay) (q : Nat) (k0 : Nat) (k1 : Nat) (D : cp_Dt) : Option (cp_Dt) :=
  (cp_gR L k0 4 1).bind fun r1 =>
  (cp_gI L D k1 1 5).bind fun v2 =>
  (cp_aI L D 0 r1 v2).bind fun v3 =>
  (cp_gI L D k1 1 7).bind fun v4 =>
  (cp_gR L k0 4 1).bind fun r5 =>
  (cp_gI L D k1 1 5).bind fun v6 =>
  (cp_aS L D 0 r5 v6 (cp_mn (v3 + v4) (250 : Int32))).bind fun D7 =>
  (cp_gI L D7 k0 4 5).bind fun v8 =>
  (cp_pI L D7 k0 4 5 (v8 + ((v3 + v4) - (cp_mn (v3 + v4) (250 : Int32))))).bind fun D9 =>
  (cp_gR L k0 4 3).bind fun r10 =>
  (cp_gI L D9 k1 1 5).bind fun v11 =>
  (cp_aS L D9 0 r10 v11 (-1 : Int32)).bind fun D12 =>
  (cp_pZ L D12 k1 1 3 (0 : Int32)).bind fun D13 =>
  (cp_gI L D13 k0 4 10).bind fun v14 =>
  (cp_pI L D13 k0 4 10 (v14 + (1 : Int32))).bind fun D15 =>
  some D15
set_option maxHeartbeats 4000000 in
set_option maxRecDepth 100000 in
theorem ct_X4_end (l : Launch) (G : va_G) (L : cp_Lay) (hJ : cp_J L) (q : Nat) (k0 : Nat) (k1 : Nat) (D : cp_Dt) (res : cp_Dt) (hF : fn_X4_end L q k0 k1 D = some res) : cp_Met l G yX4_end wsX4_end ({ frames := 1, cells := 0, slots := 0, locals := 21 }) L ([.ref (L.2.1 k0), .ref (L.2.1 k1)] : List Value) D res none := by
  refine Met.ofW (cc := cX4_end) (maxL := 4) (ret := none) (by decide) rfl ?_
  intro p e s m args below meth c s₁ B hml hv
  obtain ⟨rfl, hP, hK, hN, hZ⟩ := hv
  have hx := B.exec
  have hb := B.bytes
  have hr := B.returns
  have hts := atoms_spec (ws := wsX4_end) B.pre
  have hown : s.vm.findClass "CreaturePond$Pond" = some m.cls := findClass_of_methodNamed B.named
  have hlocks := B.notSynchronized
  have hS : va_S (cp_A L) s.heap s.heap [] := va_S.rf
  have htT : ∀ w ∈ cp_T, w.before ([.ref (L.2.1 k0), .ref (L.2.1 k1)] : List Value).toArray s = true := fun w h => hts w (List.mem_cons_of_mem _ h)
  have hl := lv_entry (([.ref (L.2.1 k0), .ref (L.2.1 k1)] : List Value)) (n := 4) (Nat.le_of_ble_eq_true rfl)
  rw [lg_entry_eq]
  generalize (lg_sl (([.ref (L.2.1 k0), .ref (L.2.1 k1)] : List Value)) ++ List.replicate (4 - (lg_sl (([.ref (L.2.1 k0), .ref (L.2.1 k1)] : List Value))).length) Slot.unset).toArray = ls at hl ⊢
  have hl : lv_has ls 4 [(0, .ref (L.2.1 k0)), (1, .ref (L.2.1 k1))] := hl
  unfold fn_X4_end at hF
  refine lv_aload_n hx hb dX4_end_0 rfl (lv_at hl 0 rfl) ?_
  obtain ⟨r1, er1, hF⟩ := cp_bind hF
  refine cp_getR (T := TX4) (N := 12) (ci := 4) (j := 1) hx hb htT hinX4 hown hK hP rfl (by decide) rfl (htT _ tw_98) er1 dX4_end_1 ?_
  refine lv_aload_n hx hb dX4_end_4 rfl (lv_at hl 1 rfl) ?_
  obtain ⟨v2, ev2, hF⟩ := cp_bind hF
  refine cp_getIN (T := TX1) (N := 14) (ci := 1) (j := 5) hx hb htT hinX1 hown hK hP rfl (by decide) rfl (hN _ (List.mem_of_getElem? (i := 16) rfl)) ev2 dX4_end_5 ?_
  obtain ⟨v3, ev3, hF⟩ := cp_bind hF
  refine cp_iald hx hb hK hP ev3 dX4_end_8 ?_
  refine lv_aload_n hx hb dX4_end_9 rfl (lv_at hl 1 rfl) ?_
  obtain ⟨v4, ev4, hF⟩ := cp_bind hF
  refine cp_getIN (T := TX1) (N := 14) (ci := 1) (j := 7) hx hb htT hinX1 hown hK hP rfl (by decide) rfl (hN _ (List.mem_of_getElem? (i := 25) rfl)) ev4 dX4_end_10 ?_
  refine lv_iadd hx hb dX4_end_13 ?_
  refine lv_istore_n (lv' := [(2, .int (v3 + v4)), (0, .ref (L.2.1 k0)), (1, .ref (L.2.1 k1))]) hx hb dX4_end_14 rfl hl (by decide) rfl (fun ls hl => ?_)
  refine lv_iload_n hx hb dX4_end_15 rfl (lv_at hl 0 rfl) ?_
  refine lv_sipush (v := (250 : Int32)) hx hb dX4_end_16 (by decide) ?_
  refine va_mmin hx hb (by rw [hml]; exact hl.1.symm) hown (htT _ tw_268) (htT _ tw_27) (htT _ tw_3) (htT _ tw_28) (Nat.le_of_ble_eq_true rfl) (Nat.le_of_ble_eq_true rfl) (Nat.zero_le _) (Nat.zero_le _) dX4_end_19 ?_
  refine lv_istore_n (lv' := [(3, .int (cp_mn (v3 + v4) (250 : Int32))), (2, .int (v3 + v4)), (0, .ref (L.2.1 k0)), (1, .ref (L.2.1 k1))]) hx hb dX4_end_22 rfl hl (by decide) rfl (fun ls hl => ?_)
  refine lv_aload_n hx hb dX4_end_23 rfl (lv_at hl 2 rfl) ?_
  obtain ⟨r5, er5, hF⟩ := cp_bind hF
  refine cp_getR (T := TX4) (N := 12) (ci := 4) (j := 1) hx hb htT hinX4 hown hK hP rfl (by decide) rfl (htT _ tw_98) er5 dX4_end_24 ?_
  refine lv_aload_n hx hb dX4_end_27 rfl (lv_at hl 3 rfl) ?_
  obtain ⟨v6, ev6, hF⟩ := cp_bind hF
  refine cp_getIN (T := TX1) (N := 14) (ci := 1) (j := 5) hx hb htT hinX1 hown hK hP rfl (by decide) rfl (hN _ (List.mem_of_getElem? (i := 16) rfl)) ev6 dX4_end_28 ?_
  refine lv_iload_n hx hb dX4_end_31 rfl (lv_at hl 0 rfl) ?_
  obtain ⟨D7, eD7, hF⟩ := cp_bind hF
  refine cp_iast hx hb hK hJ hP hS eD7 dX4_end_32 (fun H locs hP hS => ?_)
  refine lv_aload_n hx hb dX4_end_33 rfl (lv_at hl 2 rfl) ?_
  refine lv_dup hx hb dX4_end_34 rfl ?_
  obtain ⟨v8, ev8, hF⟩ := cp_bind hF
  refine cp_getI (T := TX4) (N := 12) (ci := 4) (j := 5) hx hb htT hinX4 hown hK hP rfl (by decide) rfl (htT _ tw_102) ev8 dX4_end_35 ?_
  refine lv_iload_n hx hb dX4_end_38 rfl (lv_at hl 1 rfl) ?_
  refine lv_iload_n hx hb dX4_end_39 rfl (lv_at hl 0 rfl) ?_
  refine lv_isub hx hb dX4_end_40 ?_
  refine lv_iadd hx hb dX4_end_41 ?_
  obtain ⟨D9, eD9, hF⟩ := cp_bind hF
  refine cp_put (T := TX4) (N := 12) (ci := 4) (j := 5) hx hb htT hinX4 tyX4 tyX4_ok nmX4 hown hK hJ hP hS rfl (by decide) rfl (htT _ tw_102) rfl rfl rfl eD9 dX4_end_42 (fun H locs hP hS => ?_)
  refine lv_aload_n hx hb dX4_end_45 rfl (lv_at hl 2 rfl) ?_
  obtain ⟨r10, er10, hF⟩ := cp_bind hF
  refine cp_getR (T := TX4) (N := 12) (ci := 4) (j := 3) hx hb htT hinX4 hown hK hP rfl (by decide) rfl (htT _ tw_100) er10 dX4_end_46 ?_
  refine lv_aload_n hx hb dX4_end_49 rfl (lv_at hl 3 rfl) ?_
  obtain ⟨v11, ev11, hF⟩ := cp_bind hF
  refine cp_getIN (T := TX1) (N := 14) (ci := 1) (j := 5) hx hb htT hinX1 hown hK hP rfl (by decide) rfl (hN _ (List.mem_of_getElem? (i := 16) rfl)) ev11 dX4_end_50 ?_
  refine lv_iconst (v := (-1 : Int32)) hx hb dX4_end_53 (by decide) ?_
  obtain ⟨D12, eD12, hF⟩ := cp_bind hF
  refine cp_iast hx hb hK hJ hP hS eD12 dX4_end_54 (fun H locs hP hS => ?_)
  refine lv_aload_n hx hb dX4_end_55 rfl (lv_at hl 3 rfl) ?_
  refine lv_iconst (v := (0 : Int32)) hx hb dX4_end_56 (by decide) ?_
  obtain ⟨D13, eD13, hF⟩ := cp_bind hF
  refine cp_putN (T := TX1) (N := 14) (ci := 1) (j := 3) hx hb htT hinX1 tyX1 tyX1_ok nmX1 hown hK hJ hP hS rfl (by decide) rfl (hN _ (List.mem_of_getElem? (i := 13) rfl)) rfl (cp_pZ_spec eD13).2.1 (cp_pZ_spec eD13).2.2 (cp_pZ_spec eD13).1 dX4_end_57 (fun H locs hP hS => ?_)
  refine lv_aload_n hx hb dX4_end_60 rfl (lv_at hl 2 rfl) ?_
  refine lv_dup hx hb dX4_end_61 rfl ?_
  obtain ⟨v14, ev14, hF⟩ := cp_bind hF
  refine cp_getI (T := TX4) (N := 12) (ci := 4) (j := 10) hx hb htT hinX4 hown hK hP rfl (by decide) rfl (htT _ tw_107) ev14 dX4_end_62 ?_
  refine lv_iconst (v := (1 : Int32)) hx hb dX4_end_65 (by decide) ?_
  refine lv_iadd hx hb dX4_end_66 ?_
  obtain ⟨D15, eD15, hF⟩ := cp_bind hF
  refine cp_put (T := TX4) (N := 12) (ci := 4) (j := 10) hx hb htT hinX4 tyX4 tyX4_ok nmX4 hown hK hJ hP hS rfl (by decide) rfl (htT _ tw_107) rfl rfl rfl eD15 dX4_end_67 (fun H locs hP hS => ?_)
  exact cp_vret hx hb hr hlocks hF hP hS dX4_end_70
theorem dX4_hasOtherDweller_0 : decode cX4_hasOtherDweller 0 = .ok (.aload_n 0, 1) := by decide +kernel
theorem dX4_hasOtherDweller_1 : decode cX4_hasOtherDweller 1 = .ok (.getfield 35, 3) := by decide +kernel
theorem dX4_hasOtherDweller_4 : decode cX4_hasOtherDweller 4 = .ok (.iload_n 2, 1) := by decide +kernel
theorem dX4_hasOtherDweller_5 : decode cX4_hasOtherDweller 5 = .ok (.iaload, 1) := by decide +kernel
theorem dX4_hasOtherDweller_6 : decode cX4_hasOtherDweller 6 = .ok (.istore_n 3, 1) := by decide +kernel
theorem dX4_hasOtherDweller_7 : decode cX4_hasOtherDweller 7 = .ok (.iload_n 3, 1) := by decide +kernel
theorem dX4_hasOtherDweller_8 : decode cX4_hasOtherDweller 8 = .ok (.aload_n 1, 1) := by decide +kernel
theorem dX4_hasOtherDweller_9 : decode cX4_hasOtherDweller 9 = .ok (.getfield 35, 3) := by decide +kernel
theorem dX4_hasOtherDweller_12 : decode cX4_hasOtherDweller 12 = .ok (.iload_n 2, 1) := by decide +kernel
theorem dX4_hasOtherDweller_13 : decode cX4_hasOtherDweller 13 = .ok (.iaload, 1) := by decide +kernel
theorem dX4_hasOtherDweller_14 : decode cX4_hasOtherDweller 14 = .ok (.if_icmp .eq 5, 3) := by decide +kernel
theorem dX4_hasOtherDweller_17 : decode cX4_hasOtherDweller 17 = .ok (.iconst 1, 1) := by decide +kernel
theorem dX4_hasOtherDweller_18 : decode cX4_hasOtherDweller 18 = .ok (.ireturn, 1) := by decide +kernel
theorem dX4_hasOtherDweller_19 : decode cX4_hasOtherDweller 19 = .ok (.iload_n 3, 1) := by decide +kernel
theorem dX4_hasOtherDweller_20 : decode cX4_hasOtherDweller 20 = .ok (.iconst (-1), 1) := by decide +kernel
theorem dX4_hasOtherDweller_21 : decode cX4_hasOtherDweller 21 = .ok (.if_icmp .ne 5, 3) := by decide +kernel
theorem dX4_hasOtherDweller_24 : decode cX4_hasOtherDweller 24 = .ok (.iconst 0, 1) := by decide +kernel
theorem dX4_hasOtherDweller_25 : decode cX4_hasOtherDweller 25 = .ok (.ireturn, 1) := by decide +kernel
theorem dX4_hasOtherDweller_26 : decode cX4_hasOtherDweller 26 = .ok (.aload_n 0, 1) := by decide +kernel
theorem dX4_hasOtherDweller_27 : decode cX4_hasOtherDweller 27 = .ok (.getfield 11, 3) := by decide +kernel
theorem dX4_hasOtherDweller_30 : decode cX4_hasOtherDweller 30 = .ok (.iload_n 3, 1) := by decide +kernel
theorem dX4_hasOtherDweller_31 : decode cX4_hasOtherDweller 31 = .ok (.aaload, 1) := by decide +kernel
theorem dX4_hasOtherDweller_32 : decode cX4_hasOtherDweller 32 = .ok (.astore 4, 2) := by decide +kernel
theorem dX4_hasOtherDweller_34 : decode cX4_hasOtherDweller 34 = .ok (.aload_n 1, 1) := by decide +kernel
theorem dX4_hasOtherDweller_35 : decode cX4_hasOtherDweller 35 = .ok (.getfield 11, 3) := by decide +kernel
theorem dX4_hasOtherDweller_38 : decode cX4_hasOtherDweller 38 = .ok (.iload_n 3, 1) := by decide +kernel
theorem dX4_hasOtherDweller_39 : decode cX4_hasOtherDweller 39 = .ok (.aaload, 1) := by decide +kernel
theorem dX4_hasOtherDweller_40 : decode cX4_hasOtherDweller 40 = .ok (.astore 5, 2) := by decide +kernel
theorem dX4_hasOtherDweller_42 : decode cX4_hasOtherDweller 42 = .ok (.aload 4, 2) := by decide +kernel
theorem dX4_hasOtherDweller_44 : decode cX4_hasOtherDweller 44 = .ok (.getfield 76, 3) := by decide +kernel
theorem dX4_hasOtherDweller_47 : decode cX4_hasOtherDweller 47 = .ok (.aload 5, 2) := by decide +kernel
theorem dX4_hasOtherDweller_49 : decode cX4_hasOtherDweller 49 = .ok (.getfield 76, 3) := by decide +kernel
theorem dX4_hasOtherDweller_52 : decode cX4_hasOtherDweller 52 = .ok (.if_icmp .ne 16, 3) := by decide +kernel
theorem dX4_hasOtherDweller_55 : decode cX4_hasOtherDweller 55 = .ok (.aload 4, 2) := by decide +kernel
theorem dX4_hasOtherDweller_57 : decode cX4_hasOtherDweller 57 = .ok (.getfield 83, 3) := by decide +kernel
theorem dX4_hasOtherDweller_60 : decode cX4_hasOtherDweller 60 = .ok (.aload 5, 2) := by decide +kernel
theorem dX4_hasOtherDweller_62 : decode cX4_hasOtherDweller 62 = .ok (.getfield 83, 3) := by decide +kernel
theorem dX4_hasOtherDweller_65 : decode cX4_hasOtherDweller 65 = .ok (.if_icmp .eq 7, 3) := by decide +kernel
theorem dX4_hasOtherDweller_68 : decode cX4_hasOtherDweller 68 = .ok (.iconst 1, 1) := by decide +kernel
theorem dX4_hasOtherDweller_69 : decode cX4_hasOtherDweller 69 = .ok (.goto 4, 3) := by decide +kernel
theorem dX4_hasOtherDweller_72 : decode cX4_hasOtherDweller 72 = .ok (.iconst 0, 1) := by decide +kernel
theorem dX4_hasOtherDweller_73 : decode cX4_hasOtherDweller 73 = .ok (.ireturn, 1) := by decide +kernel
def fn_X4_hasOtherDweller (L : cp_Lay) (q : Nat) (k0 : Nat) (k1 : Nat) (x2 : Int32) (D : cp_Dt) : Option (Int32 × cp_Dt) :=
  (cp_gR L k0 4 3).bind fun r1 =>
  (cp_aI L D 0 r1 x2).bind fun v2 =>
  (cp_gR L k1 4 3).bind fun r3 =>
  (cp_aI L D 0 r3 x2).bind fun v4 =>
  if v2 = v4 then (if v2 = (-1 : Int32) then (some ((0 : Int32), D))
  else ((cp_gR L k0 4 4).bind fun r7 =>
  (cp_aR L r7 v2).bind fun r8 =>
  (cp_gR L k1 4 4).bind fun r9 =>
  (cp_aR L r9 v2).bind fun r10 =>
  (cp_gI L D r8 1 6).bind fun v11 =>
  (cp_gI L D r10 1 6).bind fun v12 =>
  if v11 = v12 then ((cp_gI L D r8 1 7).bind fun v14 =>
  (cp_gI L D r10 1 7).bind fun v15 =>
  if v14 = v15 then (some ((0 : Int32), D))
  else (some ((1 : Int32), D)))
  else (some ((1 : Int32), D))))
  else (some ((1 : Int32), D))
set_option maxHeartbeats 4000000 in
set_option maxRecDepth 100000 in
theorem ct_X4_hasOtherDweller (l : Launch) (G : va_G) (L : cp_Lay) (hJ : cp_J L) (q : Nat) (k0 : Nat) (k1 : Nat) (x2 : Int32) (D : cp_Dt) (res : Int32 × cp_Dt) (hF : fn_X4_hasOtherDweller L q k0 k1 x2 D = some res) : cp_Met l G yX4_hasOtherDweller wsX4_hasOtherDweller ({ frames := 0, cells := 0, slots := 0, locals := 0 }) L ([.ref (L.2.1 k0), .ref (L.2.1 k1), .int x2] : List Value) D res.2 (some (.int res.1)) := by
  refine Met.ofW (cc := cX4_hasOtherDweller) (maxL := 6) (ret := (some .boolean)) (by decide) rfl ?_
  intro p e s m args below meth c s₁ B hml hv
  obtain ⟨rfl, hP, hK, hN, hZ⟩ := hv
  have hx := B.exec
  have hb := B.bytes
  have hr := B.returns
  have hts := atoms_spec (ws := wsX4_hasOtherDweller) B.pre
  have hown : s.vm.findClass "CreaturePond$Pond" = some m.cls := findClass_of_methodNamed B.named
  have hlocks := B.notSynchronized
  have hS : va_S (cp_A L) s.heap s.heap [] := va_S.rf
  have htT : ∀ w ∈ cp_T, w.before ([.ref (L.2.1 k0), .ref (L.2.1 k1), .int x2] : List Value).toArray s = true := fun w h => hts w (List.mem_cons_of_mem _ h)
  have hl := lv_entry (([.ref (L.2.1 k0), .ref (L.2.1 k1), .int x2] : List Value)) (n := 6) (Nat.le_of_ble_eq_true rfl)
  rw [lg_entry_eq]
  generalize (lg_sl (([.ref (L.2.1 k0), .ref (L.2.1 k1), .int x2] : List Value)) ++ List.replicate (6 - (lg_sl (([.ref (L.2.1 k0), .ref (L.2.1 k1), .int x2] : List Value))).length) Slot.unset).toArray = ls at hl ⊢
  have hl : lv_has ls 6 [(0, .ref (L.2.1 k0)), (1, .ref (L.2.1 k1)), (2, .int x2)] := hl
  unfold fn_X4_hasOtherDweller at hF
  refine lv_aload_n hx hb dX4_hasOtherDweller_0 rfl (lv_at hl 0 rfl) ?_
  obtain ⟨r1, er1, hF⟩ := cp_bind hF
  refine cp_getR (T := TX4) (N := 12) (ci := 4) (j := 3) hx hb htT hinX4 hown hK hP rfl (by decide) rfl (htT _ tw_100) er1 dX4_hasOtherDweller_1 ?_
  refine lv_iload_n hx hb dX4_hasOtherDweller_4 rfl (lv_at hl 2 rfl) ?_
  obtain ⟨v2, ev2, hF⟩ := cp_bind hF
  refine cp_iald hx hb hK hP ev2 dX4_hasOtherDweller_5 ?_
  refine lv_istore_n (lv' := [(3, .int v2), (0, .ref (L.2.1 k0)), (1, .ref (L.2.1 k1)), (2, .int x2)]) hx hb dX4_hasOtherDweller_6 rfl hl (by decide) rfl (fun ls hl => ?_)
  refine lv_iload_n hx hb dX4_hasOtherDweller_7 rfl (lv_at hl 0 rfl) ?_
  refine lv_aload_n hx hb dX4_hasOtherDweller_8 rfl (lv_at hl 2 rfl) ?_
  obtain ⟨r3, er3, hF⟩ := cp_bind hF
  refine cp_getR (T := TX4) (N := 12) (ci := 4) (j := 3) hx hb htT hinX4 hown hK hP rfl (by decide) rfl (htT _ tw_100) er3 dX4_hasOtherDweller_9 ?_
  refine lv_iload_n hx hb dX4_hasOtherDweller_12 rfl (lv_at hl 3 rfl) ?_
  obtain ⟨v4, ev4, hF⟩ := cp_bind hF
  refine cp_iald hx hb hK hP ev4 dX4_hasOtherDweller_13 ?_
  refine lv_icmp_eq (tgt := 19) hx hb dX4_hasOtherDweller_14 (by decide) (fun hc5 => ?_) (fun hc5 => ?_)
  · rw [if_pos hc5] at hF
    refine lv_iload_n hx hb dX4_hasOtherDweller_19 rfl (lv_at hl 0 rfl) ?_
    refine lv_iconst (v := (-1 : Int32)) hx hb dX4_hasOtherDweller_20 (by decide) ?_
    refine lv_icmp_ne (tgt := 26) hx hb dX4_hasOtherDweller_21 (by decide) (fun hc6 => ?_) (fun hc6 => ?_)
    · rw [if_neg hc6] at hF
      refine lv_aload_n hx hb dX4_hasOtherDweller_26 rfl (lv_at hl 1 rfl) ?_
      obtain ⟨r7, er7, hF⟩ := cp_bind hF
      refine cp_getR (T := TX4) (N := 12) (ci := 4) (j := 4) hx hb htT hinX4 hown hK hP rfl (by decide) rfl (htT _ tw_101) er7 dX4_hasOtherDweller_27 ?_
      refine lv_iload_n hx hb dX4_hasOtherDweller_30 rfl (lv_at hl 0 rfl) ?_
      obtain ⟨r8, er8, hF⟩ := cp_bind hF
      refine cp_aald hx hb hK hP er8 dX4_hasOtherDweller_31 ?_
      refine lv_astore (lv' := [(4, .ref (L.2.1 r8)), (3, .int v2), (0, .ref (L.2.1 k0)), (1, .ref (L.2.1 k1)), (2, .int x2)]) hx hb dX4_hasOtherDweller_32 hl (by decide) rfl (fun ls hl => ?_)
      refine lv_aload_n hx hb dX4_hasOtherDweller_34 rfl (lv_at hl 3 rfl) ?_
      obtain ⟨r9, er9, hF⟩ := cp_bind hF
      refine cp_getR (T := TX4) (N := 12) (ci := 4) (j := 4) hx hb htT hinX4 hown hK hP rfl (by decide) rfl (htT _ tw_101) er9 dX4_hasOtherDweller_35 ?_
      refine lv_iload_n hx hb dX4_hasOtherDweller_38 rfl (lv_at hl 1 rfl) ?_
      obtain ⟨r10, er10, hF⟩ := cp_bind hF
      refine cp_aald hx hb hK hP er10 dX4_hasOtherDweller_39 ?_
      refine lv_astore (lv' := [(5, .ref (L.2.1 r10)), (4, .ref (L.2.1 r8)), (3, .int v2), (0, .ref (L.2.1 k0)), (1, .ref (L.2.1 k1)), (2, .int x2)]) hx hb dX4_hasOtherDweller_40 hl (by decide) rfl (fun ls hl => ?_)
      refine lv_aload hx hb dX4_hasOtherDweller_42 (lv_at hl 1 rfl) ?_
      obtain ⟨v11, ev11, hF⟩ := cp_bind hF
      refine cp_getIN (T := TX1) (N := 14) (ci := 1) (j := 6) hx hb htT hinX1 hown hK hP rfl (by decide) rfl (hN _ (List.mem_of_getElem? (i := 20) rfl)) ev11 dX4_hasOtherDweller_44 ?_
      refine lv_aload hx hb dX4_hasOtherDweller_47 (lv_at hl 0 rfl) ?_
      obtain ⟨v12, ev12, hF⟩ := cp_bind hF
      refine cp_getIN (T := TX1) (N := 14) (ci := 1) (j := 6) hx hb htT hinX1 hown hK hP rfl (by decide) rfl (hN _ (List.mem_of_getElem? (i := 20) rfl)) ev12 dX4_hasOtherDweller_49 ?_
      refine lv_icmp_ne (tgt := 68) hx hb dX4_hasOtherDweller_52 (by decide) (fun hc13 => ?_) (fun hc13 => ?_)
      · rw [if_neg hc13] at hF
        refine lv_iconst (v := (1 : Int32)) hx hb dX4_hasOtherDweller_68 (by decide) ?_
        refine lv_goto (tgt := 73) hx hb dX4_hasOtherDweller_69 (by decide) ?_
        exact cp_zret hx hb hr hlocks (by decide) hF hP hS dX4_hasOtherDweller_73
      · rw [if_pos hc13] at hF
        refine lv_aload hx hb dX4_hasOtherDweller_55 (lv_at hl 1 rfl) ?_
        obtain ⟨v14, ev14, hF⟩ := cp_bind hF
        refine cp_getIN (T := TX1) (N := 14) (ci := 1) (j := 7) hx hb htT hinX1 hown hK hP rfl (by decide) rfl (hN _ (List.mem_of_getElem? (i := 25) rfl)) ev14 dX4_hasOtherDweller_57 ?_
        refine lv_aload hx hb dX4_hasOtherDweller_60 (lv_at hl 0 rfl) ?_
        obtain ⟨v15, ev15, hF⟩ := cp_bind hF
        refine cp_getIN (T := TX1) (N := 14) (ci := 1) (j := 7) hx hb htT hinX1 hown hK hP rfl (by decide) rfl (hN _ (List.mem_of_getElem? (i := 25) rfl)) ev15 dX4_hasOtherDweller_62 ?_
        refine lv_icmp_eq (tgt := 72) hx hb dX4_hasOtherDweller_65 (by decide) (fun hc16 => ?_) (fun hc16 => ?_)
        · rw [if_pos hc16] at hF
          refine lv_iconst (v := (0 : Int32)) hx hb dX4_hasOtherDweller_72 (by decide) ?_
          exact cp_zret hx hb hr hlocks (by decide) hF hP hS dX4_hasOtherDweller_73
        · rw [if_neg hc16] at hF
          refine lv_iconst (v := (1 : Int32)) hx hb dX4_hasOtherDweller_68 (by decide) ?_
          refine lv_goto (tgt := 73) hx hb dX4_hasOtherDweller_69 (by decide) ?_
          exact cp_zret hx hb hr hlocks (by decide) hF hP hS dX4_hasOtherDweller_73
    · rw [if_pos hc6] at hF
      refine lv_iconst (v := (0 : Int32)) hx hb dX4_hasOtherDweller_24 (by decide) ?_
      exact cp_zret hx hb hr hlocks (by decide) hF hP hS dX4_hasOtherDweller_25
  · rw [if_neg hc5] at hF
    refine lv_iconst (v := (1 : Int32)) hx hb dX4_hasOtherDweller_17 (by decide) ?_
    exact cp_zret hx hb hr hlocks (by decide) hF hP hS dX4_hasOtherDweller_18
end
section
theorem dX3_goAhead_0 : decode cX3_goAhead 0 = .ok (.aload_n 0, 1) := by decide +kernel
theorem dX3_goAhead_1 : decode cX3_goAhead 1 = .ok (.getfield 11, 3) := by decide +kernel
theorem dX3_goAhead_4 : decode cX3_goAhead 4 = .ok (.aload_n 1, 1) := by decide +kernel
theorem dX3_goAhead_5 : decode cX3_goAhead 5 = .ok (.invokevirtual 97, 3) := by decide +kernel
theorem dX3_goAhead_8 : decode cX3_goAhead 8 = .ok (.istore_n 2, 1) := by decide +kernel
theorem dX3_goAhead_9 : decode cX3_goAhead 9 = .ok (.aload_n 0, 1) := by decide +kernel
theorem dX3_goAhead_10 : decode cX3_goAhead 10 = .ok (.getfield 11, 3) := by decide +kernel
theorem dX3_goAhead_13 : decode cX3_goAhead 13 = .ok (.getfield 101, 3) := by decide +kernel
theorem dX3_goAhead_16 : decode cX3_goAhead 16 = .ok (.iload_n 2, 1) := by decide +kernel
theorem dX3_goAhead_17 : decode cX3_goAhead 17 = .ok (.iaload, 1) := by decide +kernel
theorem dX3_goAhead_18 : decode cX3_goAhead 18 = .ok (.iconst (-1), 1) := by decide +kernel
theorem dX3_goAhead_19 : decode cX3_goAhead 19 = .ok (.if_icmp .ne 42, 3) := by decide +kernel
theorem dX3_goAhead_22 : decode cX3_goAhead 22 = .ok (.aload_n 0, 1) := by decide +kernel
theorem dX3_goAhead_23 : decode cX3_goAhead 23 = .ok (.getfield 11, 3) := by decide +kernel
theorem dX3_goAhead_26 : decode cX3_goAhead 26 = .ok (.getfield 101, 3) := by decide +kernel
theorem dX3_goAhead_29 : decode cX3_goAhead 29 = .ok (.iload_n 2, 1) := by decide +kernel
theorem dX3_goAhead_30 : decode cX3_goAhead 30 = .ok (.aload_n 0, 1) := by decide +kernel
theorem dX3_goAhead_31 : decode cX3_goAhead 31 = .ok (.getfield 11, 3) := by decide +kernel
theorem dX3_goAhead_34 : decode cX3_goAhead 34 = .ok (.getfield 101, 3) := by decide +kernel
theorem dX3_goAhead_37 : decode cX3_goAhead 37 = .ok (.aload_n 1, 1) := by decide +kernel
theorem dX3_goAhead_38 : decode cX3_goAhead 38 = .ok (.getfield 119, 3) := by decide +kernel
theorem dX3_goAhead_41 : decode cX3_goAhead 41 = .ok (.iaload, 1) := by decide +kernel
theorem dX3_goAhead_42 : decode cX3_goAhead 42 = .ok (.iastore, 1) := by decide +kernel
theorem dX3_goAhead_43 : decode cX3_goAhead 43 = .ok (.aload_n 0, 1) := by decide +kernel
theorem dX3_goAhead_44 : decode cX3_goAhead 44 = .ok (.getfield 11, 3) := by decide +kernel
theorem dX3_goAhead_47 : decode cX3_goAhead 47 = .ok (.getfield 101, 3) := by decide +kernel
theorem dX3_goAhead_50 : decode cX3_goAhead 50 = .ok (.aload_n 1, 1) := by decide +kernel
theorem dX3_goAhead_51 : decode cX3_goAhead 51 = .ok (.getfield 119, 3) := by decide +kernel
theorem dX3_goAhead_54 : decode cX3_goAhead 54 = .ok (.iconst (-1), 1) := by decide +kernel
theorem dX3_goAhead_55 : decode cX3_goAhead 55 = .ok (.iastore, 1) := by decide +kernel
theorem dX3_goAhead_56 : decode cX3_goAhead 56 = .ok (.aload_n 1, 1) := by decide +kernel
theorem dX3_goAhead_57 : decode cX3_goAhead 57 = .ok (.iload_n 2, 1) := by decide +kernel
theorem dX3_goAhead_58 : decode cX3_goAhead 58 = .ok (.putfield 119, 3) := by decide +kernel
theorem dX3_goAhead_61 : decode cX3_goAhead 61 = .ok (.return_, 1) := by decide +kernel
def fn_X3_goAhead (L : cp_Lay) (q : Nat) (k0 : Nat) (k1 : Nat) (D : cp_Dt) : Option (cp_Dt) :=
  (cp_gR L k0 3 0).bind fun r1 =>
  (cp_fl L r1 4).bind fun f2 =>
  (fn_X4_aheadOf L q r1 k1 D).bind fun y3 =>
  (cp_gR L k0 3 0).bind fun r4 =>
  (cp_gR L r4 4 3).bind fun r5 =>
  (cp_aI L y3.2 0 r5 y3.1).bind fun v6 =>
  if v6 = (-1 : Int32) then ((cp_gR L k0 3 0).bind fun r8 =>
  (cp_gR L r8 4 3).bind fun r9 =>
  (cp_gR L k0 3 0).bind fun r10 =>
  (cp_gR L r10 4 3).bind fun r11 =>
  (cp_gI L y3.2 k1 1 5).bind fun v12 =>
  (cp_aI L y3.2 0 r11 v12).bind fun v13 =>
  (cp_aS L y3.2 0 r9 y3.1 v13).bind fun D14 =>
  (cp_gR L k0 3 0).bind fun r15 =>
  (cp_gR L r15 4 3).bind fun r16 =>
  (cp_gI L D14 k1 1 5).bind fun v17 =>
  (cp_aS L D14 0 r16 v17 (-1 : Int32)).bind fun D18 =>
  (cp_pI L D18 k1 1 5 y3.1).bind fun D19 =>
  some D19)
  else (some y3.2)
set_option maxHeartbeats 4000000 in
set_option maxRecDepth 100000 in
theorem ct_X3_goAhead (l : Launch) (G : va_G) (L : cp_Lay) (hJ : cp_J L) (q : Nat) (k0 : Nat) (k1 : Nat) (D : cp_Dt) (res : cp_Dt) (hF : fn_X3_goAhead L q k0 k1 D = some res) : cp_Met l G yX3_goAhead wsX3_goAhead ({ frames := 1, cells := 0, slots := 0, locals := 21 }) L ([.ref (L.2.1 k0), .ref (L.2.1 k1)] : List Value) D res none := by
  refine Met.ofW (cc := cX3_goAhead) (maxL := 3) (ret := none) (by decide) rfl ?_
  intro p e s m args below meth c s₁ B hml hv
  obtain ⟨rfl, hP, hK, hN, hZ⟩ := hv
  have hx := B.exec
  have hb := B.bytes
  have hr := B.returns
  have hts := atoms_spec (ws := wsX3_goAhead) B.pre
  have hown : s.vm.findClass "CreaturePond$Mind" = some m.cls := findClass_of_methodNamed B.named
  have hlocks := B.notSynchronized
  have hS : va_S (cp_A L) s.heap s.heap [] := va_S.rf
  have htT : ∀ w ∈ cp_T, w.before ([.ref (L.2.1 k0), .ref (L.2.1 k1)] : List Value).toArray s = true := fun w h => hts w (List.mem_cons_of_mem _ h)
  have hl := lv_entry (([.ref (L.2.1 k0), .ref (L.2.1 k1)] : List Value)) (n := 3) (Nat.le_of_ble_eq_true rfl)
  rw [lg_entry_eq]
  generalize (lg_sl (([.ref (L.2.1 k0), .ref (L.2.1 k1)] : List Value)) ++ List.replicate (3 - (lg_sl (([.ref (L.2.1 k0), .ref (L.2.1 k1)] : List Value))).length) Slot.unset).toArray = ls at hl ⊢
  have hl : lv_has ls 3 [(0, .ref (L.2.1 k0)), (1, .ref (L.2.1 k1))] := hl
  unfold fn_X3_goAhead at hF
  refine lv_aload_n hx hb dX3_goAhead_0 rfl (lv_at hl 0 rfl) ?_
  obtain ⟨r1, er1, hF⟩ := cp_bind hF
  refine cp_getR (T := TX3) (N := 1) (ci := 3) (j := 0) hx hb htT hinX3 hown hK hP rfl (by decide) rfl (htT _ tw_126) er1 dX3_goAhead_1 ?_
  refine lv_aload_n hx hb dX3_goAhead_4 rfl (lv_at hl 1 rfl) ?_
  obtain ⟨f2, ef2, hF⟩ := cp_bind hF
  obtain ⟨y3, ey3, hF⟩ := cp_bind hF
  refine cp_call (st1 := [.int y3.1]) (va_runVN (As := [.ref (L.2.1 k1)]) (rest := []) ⟨hx, hb, hml, hown, htT⟩ (ct_X4_aheadOf l G L hJ q r1 k1 D y3 ey3) ⟨va_cnB 1 htT gdX4_aheadOf rfl rfl rfl (hN _ (List.mem_of_getElem? (i := 75) rfl)) (htT _ tw_4) hdX4_aheadOf ⟨Nat.le_of_ble_eq_true rfl, Nat.le_of_ble_eq_true rfl⟩, (htT _ tw_284), (htT _ tw_551)⟩ ⟨cp_blind, cp_recv hK hP rfl ef2, cp_pre hP hK hN hZ hS⟩ rfl rfl hl.1 rfl (lv_room (Nat.le_of_ble_eq_true rfl)) dX3_goAhead_5 ⟨Nat.zero_le _, Nat.zero_le _⟩) hS (fun H locs hP hS => ?_)
  refine lv_istore_n (lv' := [(2, .int y3.1), (0, .ref (L.2.1 k0)), (1, .ref (L.2.1 k1))]) hx hb dX3_goAhead_8 rfl hl (by decide) rfl (fun ls hl => ?_)
  refine lv_aload_n hx hb dX3_goAhead_9 rfl (lv_at hl 1 rfl) ?_
  obtain ⟨r4, er4, hF⟩ := cp_bind hF
  refine cp_getR (T := TX3) (N := 1) (ci := 3) (j := 0) hx hb htT hinX3 hown hK hP rfl (by decide) rfl (htT _ tw_126) er4 dX3_goAhead_10 ?_
  obtain ⟨r5, er5, hF⟩ := cp_bind hF
  refine cp_getRN (T := TX4) (N := 12) (ci := 4) (j := 3) hx hb htT hinX4 hown hK hP rfl (by decide) rfl (hN _ (List.mem_of_getElem? (i := 42) rfl)) er5 dX3_goAhead_13 ?_
  refine lv_iload_n hx hb dX3_goAhead_16 rfl (lv_at hl 0 rfl) ?_
  obtain ⟨v6, ev6, hF⟩ := cp_bind hF
  refine cp_iald hx hb hK hP ev6 dX3_goAhead_17 ?_
  refine lv_iconst (v := (-1 : Int32)) hx hb dX3_goAhead_18 (by decide) ?_
  refine lv_icmp_ne (tgt := 61) hx hb dX3_goAhead_19 (by decide) (fun hc7 => ?_) (fun hc7 => ?_)
  · rw [if_neg hc7] at hF
    exact cp_vret hx hb hr hlocks hF hP hS dX3_goAhead_61
  · rw [if_pos hc7] at hF
    refine lv_aload_n hx hb dX3_goAhead_22 rfl (lv_at hl 1 rfl) ?_
    obtain ⟨r8, er8, hF⟩ := cp_bind hF
    refine cp_getR (T := TX3) (N := 1) (ci := 3) (j := 0) hx hb htT hinX3 hown hK hP rfl (by decide) rfl (htT _ tw_126) er8 dX3_goAhead_23 ?_
    obtain ⟨r9, er9, hF⟩ := cp_bind hF
    refine cp_getRN (T := TX4) (N := 12) (ci := 4) (j := 3) hx hb htT hinX4 hown hK hP rfl (by decide) rfl (hN _ (List.mem_of_getElem? (i := 42) rfl)) er9 dX3_goAhead_26 ?_
    refine lv_iload_n hx hb dX3_goAhead_29 rfl (lv_at hl 0 rfl) ?_
    refine lv_aload_n hx hb dX3_goAhead_30 rfl (lv_at hl 1 rfl) ?_
    obtain ⟨r10, er10, hF⟩ := cp_bind hF
    refine cp_getR (T := TX3) (N := 1) (ci := 3) (j := 0) hx hb htT hinX3 hown hK hP rfl (by decide) rfl (htT _ tw_126) er10 dX3_goAhead_31 ?_
    obtain ⟨r11, er11, hF⟩ := cp_bind hF
    refine cp_getRN (T := TX4) (N := 12) (ci := 4) (j := 3) hx hb htT hinX4 hown hK hP rfl (by decide) rfl (hN _ (List.mem_of_getElem? (i := 42) rfl)) er11 dX3_goAhead_34 ?_
    refine lv_aload_n hx hb dX3_goAhead_37 rfl (lv_at hl 2 rfl) ?_
    obtain ⟨v12, ev12, hF⟩ := cp_bind hF
    refine cp_getIN (T := TX1) (N := 14) (ci := 1) (j := 5) hx hb htT hinX1 hown hK hP rfl (by decide) rfl (hN _ (List.mem_of_getElem? (i := 18) rfl)) ev12 dX3_goAhead_38 ?_
    obtain ⟨v13, ev13, hF⟩ := cp_bind hF
    refine cp_iald hx hb hK hP ev13 dX3_goAhead_41 ?_
    obtain ⟨D14, eD14, hF⟩ := cp_bind hF
    refine cp_iast hx hb hK hJ hP hS eD14 dX3_goAhead_42 (fun H locs hP hS => ?_)
    refine lv_aload_n hx hb dX3_goAhead_43 rfl (lv_at hl 1 rfl) ?_
    obtain ⟨r15, er15, hF⟩ := cp_bind hF
    refine cp_getR (T := TX3) (N := 1) (ci := 3) (j := 0) hx hb htT hinX3 hown hK hP rfl (by decide) rfl (htT _ tw_126) er15 dX3_goAhead_44 ?_
    obtain ⟨r16, er16, hF⟩ := cp_bind hF
    refine cp_getRN (T := TX4) (N := 12) (ci := 4) (j := 3) hx hb htT hinX4 hown hK hP rfl (by decide) rfl (hN _ (List.mem_of_getElem? (i := 42) rfl)) er16 dX3_goAhead_47 ?_
    refine lv_aload_n hx hb dX3_goAhead_50 rfl (lv_at hl 2 rfl) ?_
    obtain ⟨v17, ev17, hF⟩ := cp_bind hF
    refine cp_getIN (T := TX1) (N := 14) (ci := 1) (j := 5) hx hb htT hinX1 hown hK hP rfl (by decide) rfl (hN _ (List.mem_of_getElem? (i := 18) rfl)) ev17 dX3_goAhead_51 ?_
    refine lv_iconst (v := (-1 : Int32)) hx hb dX3_goAhead_54 (by decide) ?_
    obtain ⟨D18, eD18, hF⟩ := cp_bind hF
    refine cp_iast hx hb hK hJ hP hS eD18 dX3_goAhead_55 (fun H locs hP hS => ?_)
    refine lv_aload_n hx hb dX3_goAhead_56 rfl (lv_at hl 2 rfl) ?_
    refine lv_iload_n hx hb dX3_goAhead_57 rfl (lv_at hl 0 rfl) ?_
    obtain ⟨D19, eD19, hF⟩ := cp_bind hF
    refine cp_putN (T := TX1) (N := 14) (ci := 1) (j := 5) hx hb htT hinX1 tyX1 tyX1_ok nmX1 hown hK hJ hP hS rfl (by decide) rfl (hN _ (List.mem_of_getElem? (i := 18) rfl)) rfl rfl rfl eD19 dX3_goAhead_58 (fun H locs hP hS => ?_)
    exact cp_vret hx hb hr hlocks hF hP hS dX3_goAhead_61
theorem dX3_eat_0 : decode cX3_eat 0 = .ok (.bipush 30, 2) := by decide +kernel
theorem dX3_eat_2 : decode cX3_eat 2 = .ok (.aload_n 0, 1) := by decide +kernel
theorem dX3_eat_3 : decode cX3_eat 3 = .ok (.getfield 11, 3) := by decide +kernel
theorem dX3_eat_6 : decode cX3_eat 6 = .ok (.getfield 104, 3) := by decide +kernel
theorem dX3_eat_9 : decode cX3_eat 9 = .ok (.aload_n 1, 1) := by decide +kernel
theorem dX3_eat_10 : decode cX3_eat 10 = .ok (.getfield 119, 3) := by decide +kernel
theorem dX3_eat_13 : decode cX3_eat 13 = .ok (.iaload, 1) := by decide +kernel
theorem dX3_eat_14 : decode cX3_eat 14 = .ok (.invokestatic 113, 3) := by decide +kernel
theorem dX3_eat_17 : decode cX3_eat 17 = .ok (.istore_n 2, 1) := by decide +kernel
theorem dX3_eat_18 : decode cX3_eat 18 = .ok (.aload_n 0, 1) := by decide +kernel
theorem dX3_eat_19 : decode cX3_eat 19 = .ok (.getfield 11, 3) := by decide +kernel
theorem dX3_eat_22 : decode cX3_eat 22 = .ok (.getfield 104, 3) := by decide +kernel
theorem dX3_eat_25 : decode cX3_eat 25 = .ok (.aload_n 1, 1) := by decide +kernel
theorem dX3_eat_26 : decode cX3_eat 26 = .ok (.getfield 119, 3) := by decide +kernel
theorem dX3_eat_29 : decode cX3_eat 29 = .ok (.dup2, 1) := by decide +kernel
theorem dX3_eat_30 : decode cX3_eat 30 = .ok (.iaload, 1) := by decide +kernel
theorem dX3_eat_31 : decode cX3_eat 31 = .ok (.iload_n 2, 1) := by decide +kernel
theorem dX3_eat_32 : decode cX3_eat 32 = .ok (.isub, 1) := by decide +kernel
theorem dX3_eat_33 : decode cX3_eat 33 = .ok (.iastore, 1) := by decide +kernel
theorem dX3_eat_34 : decode cX3_eat 34 = .ok (.aload_n 1, 1) := by decide +kernel
theorem dX3_eat_35 : decode cX3_eat 35 = .ok (.dup, 1) := by decide +kernel
theorem dX3_eat_36 : decode cX3_eat 36 = .ok (.getfield 42, 3) := by decide +kernel
theorem dX3_eat_39 : decode cX3_eat 39 = .ok (.iload_n 2, 1) := by decide +kernel
theorem dX3_eat_40 : decode cX3_eat 40 = .ok (.iadd, 1) := by decide +kernel
theorem dX3_eat_41 : decode cX3_eat 41 = .ok (.putfield 42, 3) := by decide +kernel
theorem dX3_eat_44 : decode cX3_eat 44 = .ok (.return_, 1) := by decide +kernel
def fn_X3_eat (L : cp_Lay) (q : Nat) (k0 : Nat) (k1 : Nat) (D : cp_Dt) : Option (cp_Dt) :=
  (cp_gR L k0 3 0).bind fun r1 =>
  (cp_gR L r1 4 1).bind fun r2 =>
  (cp_gI L D k1 1 5).bind fun v3 =>
  (cp_aI L D 0 r2 v3).bind fun v4 =>
  (cp_gR L k0 3 0).bind fun r5 =>
  (cp_gR L r5 4 1).bind fun r6 =>
  (cp_gI L D k1 1 5).bind fun v7 =>
  (cp_aI L D 0 r6 v7).bind fun v8 =>
  (cp_aS L D 0 r6 v7 (v8 - (cp_mn (30 : Int32) v4))).bind fun D9 =>
  (cp_gI L D9 k1 1 7).bind fun v10 =>
  (cp_pI L D9 k1 1 7 (v10 + (cp_mn (30 : Int32) v4))).bind fun D11 =>
  some D11
set_option maxHeartbeats 4000000 in
set_option maxRecDepth 100000 in
theorem ct_X3_eat (l : Launch) (G : va_G) (L : cp_Lay) (hJ : cp_J L) (q : Nat) (k0 : Nat) (k1 : Nat) (D : cp_Dt) (res : cp_Dt) (hF : fn_X3_eat L q k0 k1 D = some res) : cp_Met l G yX3_eat wsX3_eat ({ frames := 1, cells := 0, slots := 0, locals := 21 }) L ([.ref (L.2.1 k0), .ref (L.2.1 k1)] : List Value) D res none := by
  refine Met.ofW (cc := cX3_eat) (maxL := 3) (ret := none) (by decide) rfl ?_
  intro p e s m args below meth c s₁ B hml hv
  obtain ⟨rfl, hP, hK, hN, hZ⟩ := hv
  have hx := B.exec
  have hb := B.bytes
  have hr := B.returns
  have hts := atoms_spec (ws := wsX3_eat) B.pre
  have hown : s.vm.findClass "CreaturePond$Mind" = some m.cls := findClass_of_methodNamed B.named
  have hlocks := B.notSynchronized
  have hS : va_S (cp_A L) s.heap s.heap [] := va_S.rf
  have htT : ∀ w ∈ cp_T, w.before ([.ref (L.2.1 k0), .ref (L.2.1 k1)] : List Value).toArray s = true := fun w h => hts w (List.mem_cons_of_mem _ h)
  have hl := lv_entry (([.ref (L.2.1 k0), .ref (L.2.1 k1)] : List Value)) (n := 3) (Nat.le_of_ble_eq_true rfl)
  rw [lg_entry_eq]
  generalize (lg_sl (([.ref (L.2.1 k0), .ref (L.2.1 k1)] : List Value)) ++ List.replicate (3 - (lg_sl (([.ref (L.2.1 k0), .ref (L.2.1 k1)] : List Value))).length) Slot.unset).toArray = ls at hl ⊢
  have hl : lv_has ls 3 [(0, .ref (L.2.1 k0)), (1, .ref (L.2.1 k1))] := hl
  unfold fn_X3_eat at hF
  refine lv_bipush (v := (30 : Int32)) hx hb dX3_eat_0 (by decide) ?_
  refine lv_aload_n hx hb dX3_eat_2 rfl (lv_at hl 0 rfl) ?_
  obtain ⟨r1, er1, hF⟩ := cp_bind hF
  refine cp_getR (T := TX3) (N := 1) (ci := 3) (j := 0) hx hb htT hinX3 hown hK hP rfl (by decide) rfl (htT _ tw_126) er1 dX3_eat_3 ?_
  obtain ⟨r2, er2, hF⟩ := cp_bind hF
  refine cp_getRN (T := TX4) (N := 12) (ci := 4) (j := 1) hx hb htT hinX4 hown hK hP rfl (by decide) rfl (hN _ (List.mem_of_getElem? (i := 37) rfl)) er2 dX3_eat_6 ?_
  refine lv_aload_n hx hb dX3_eat_9 rfl (lv_at hl 1 rfl) ?_
  obtain ⟨v3, ev3, hF⟩ := cp_bind hF
  refine cp_getIN (T := TX1) (N := 14) (ci := 1) (j := 5) hx hb htT hinX1 hown hK hP rfl (by decide) rfl (hN _ (List.mem_of_getElem? (i := 18) rfl)) ev3 dX3_eat_10 ?_
  obtain ⟨v4, ev4, hF⟩ := cp_bind hF
  refine cp_iald hx hb hK hP ev4 dX3_eat_13 ?_
  refine va_mmin hx hb (by rw [hml]; exact hl.1.symm) hown (htT _ tw_289) (htT _ tw_27) (htT _ tw_3) (htT _ tw_28) (Nat.le_of_ble_eq_true rfl) (Nat.le_of_ble_eq_true rfl) (Nat.zero_le _) (Nat.zero_le _) dX3_eat_14 ?_
  refine lv_istore_n (lv' := [(2, .int (cp_mn (30 : Int32) v4)), (0, .ref (L.2.1 k0)), (1, .ref (L.2.1 k1))]) hx hb dX3_eat_17 rfl hl (by decide) rfl (fun ls hl => ?_)
  refine lv_aload_n hx hb dX3_eat_18 rfl (lv_at hl 1 rfl) ?_
  obtain ⟨r5, er5, hF⟩ := cp_bind hF
  refine cp_getR (T := TX3) (N := 1) (ci := 3) (j := 0) hx hb htT hinX3 hown hK hP rfl (by decide) rfl (htT _ tw_126) er5 dX3_eat_19 ?_
  obtain ⟨r6, er6, hF⟩ := cp_bind hF
  refine cp_getRN (T := TX4) (N := 12) (ci := 4) (j := 1) hx hb htT hinX4 hown hK hP rfl (by decide) rfl (hN _ (List.mem_of_getElem? (i := 37) rfl)) er6 dX3_eat_22 ?_
  refine lv_aload_n hx hb dX3_eat_25 rfl (lv_at hl 2 rfl) ?_
  obtain ⟨v7, ev7, hF⟩ := cp_bind hF
  refine cp_getIN (T := TX1) (N := 14) (ci := 1) (j := 5) hx hb htT hinX1 hown hK hP rfl (by decide) rfl (hN _ (List.mem_of_getElem? (i := 18) rfl)) ev7 dX3_eat_26 ?_
  refine lv_dup2_11 hx hb dX3_eat_29 rfl rfl ?_
  obtain ⟨v8, ev8, hF⟩ := cp_bind hF
  refine cp_iald hx hb hK hP ev8 dX3_eat_30 ?_
  refine lv_iload_n hx hb dX3_eat_31 rfl (lv_at hl 0 rfl) ?_
  refine lv_isub hx hb dX3_eat_32 ?_
  obtain ⟨D9, eD9, hF⟩ := cp_bind hF
  refine cp_iast hx hb hK hJ hP hS eD9 dX3_eat_33 (fun H locs hP hS => ?_)
  refine lv_aload_n hx hb dX3_eat_34 rfl (lv_at hl 2 rfl) ?_
  refine lv_dup hx hb dX3_eat_35 rfl ?_
  obtain ⟨v10, ev10, hF⟩ := cp_bind hF
  refine cp_getIN (T := TX1) (N := 14) (ci := 1) (j := 7) hx hb htT hinX1 hown hK hP rfl (by decide) rfl (hN _ (List.mem_of_getElem? (i := 23) rfl)) ev10 dX3_eat_36 ?_
  refine lv_iload_n hx hb dX3_eat_39 rfl (lv_at hl 0 rfl) ?_
  refine lv_iadd hx hb dX3_eat_40 ?_
  obtain ⟨D11, eD11, hF⟩ := cp_bind hF
  refine cp_putN (T := TX1) (N := 14) (ci := 1) (j := 7) hx hb htT hinX1 tyX1 tyX1_ok nmX1 hown hK hJ hP hS rfl (by decide) rfl (hN _ (List.mem_of_getElem? (i := 23) rfl)) rfl rfl rfl eD11 dX3_eat_41 (fun H locs hP hS => ?_)
  exact cp_vret hx hb hr hlocks hF hP hS dX3_eat_44
theorem dX3_give_0 : decode cX3_give 0 = .ok (.aload_n 0, 1) := by decide +kernel
theorem dX3_give_1 : decode cX3_give 1 = .ok (.getfield 11, 3) := by decide +kernel
theorem dX3_give_4 : decode cX3_give 4 = .ok (.getfield 101, 3) := by decide +kernel
theorem dX3_give_7 : decode cX3_give 7 = .ok (.aload_n 0, 1) := by decide +kernel
theorem dX3_give_8 : decode cX3_give 8 = .ok (.getfield 11, 3) := by decide +kernel
theorem dX3_give_11 : decode cX3_give 11 = .ok (.aload_n 1, 1) := by decide +kernel
theorem dX3_give_12 : decode cX3_give 12 = .ok (.invokevirtual 97, 3) := by decide +kernel
theorem dX3_give_15 : decode cX3_give 15 = .ok (.iaload, 1) := by decide +kernel
theorem dX3_give_16 : decode cX3_give 16 = .ok (.istore_n 3, 1) := by decide +kernel
theorem dX3_give_17 : decode cX3_give 17 = .ok (.iload_n 3, 1) := by decide +kernel
theorem dX3_give_18 : decode cX3_give 18 = .ok (.iconst (-1), 1) := by decide +kernel
theorem dX3_give_19 : decode cX3_give 19 = .ok (.if_icmp .eq 43, 3) := by decide +kernel
theorem dX3_give_22 : decode cX3_give 22 = .ok (.iload_n 2, 1) := by decide +kernel
theorem dX3_give_23 : decode cX3_give 23 = .ok (.aload_n 1, 1) := by decide +kernel
theorem dX3_give_24 : decode cX3_give 24 = .ok (.getfield 42, 3) := by decide +kernel
theorem dX3_give_27 : decode cX3_give 27 = .ok (.invokestatic 113, 3) := by decide +kernel
theorem dX3_give_30 : decode cX3_give 30 = .ok (.istore 4, 2) := by decide +kernel
theorem dX3_give_32 : decode cX3_give 32 = .ok (.aload_n 1, 1) := by decide +kernel
theorem dX3_give_33 : decode cX3_give 33 = .ok (.dup, 1) := by decide +kernel
theorem dX3_give_34 : decode cX3_give 34 = .ok (.getfield 42, 3) := by decide +kernel
theorem dX3_give_37 : decode cX3_give 37 = .ok (.iload 4, 2) := by decide +kernel
theorem dX3_give_39 : decode cX3_give 39 = .ok (.isub, 1) := by decide +kernel
theorem dX3_give_40 : decode cX3_give 40 = .ok (.putfield 42, 3) := by decide +kernel
theorem dX3_give_43 : decode cX3_give 43 = .ok (.aload_n 0, 1) := by decide +kernel
theorem dX3_give_44 : decode cX3_give 44 = .ok (.getfield 11, 3) := by decide +kernel
theorem dX3_give_47 : decode cX3_give 47 = .ok (.getfield 15, 3) := by decide +kernel
theorem dX3_give_50 : decode cX3_give 50 = .ok (.iload_n 3, 1) := by decide +kernel
theorem dX3_give_51 : decode cX3_give 51 = .ok (.aaload, 1) := by decide +kernel
theorem dX3_give_52 : decode cX3_give 52 = .ok (.dup, 1) := by decide +kernel
theorem dX3_give_53 : decode cX3_give 53 = .ok (.getfield 42, 3) := by decide +kernel
theorem dX3_give_56 : decode cX3_give 56 = .ok (.iload 4, 2) := by decide +kernel
theorem dX3_give_58 : decode cX3_give 58 = .ok (.iadd, 1) := by decide +kernel
theorem dX3_give_59 : decode cX3_give 59 = .ok (.putfield 42, 3) := by decide +kernel
theorem dX3_give_62 : decode cX3_give 62 = .ok (.return_, 1) := by decide +kernel
def fn_X3_give (L : cp_Lay) (q : Nat) (k0 : Nat) (k1 : Nat) (x2 : Int32) (D : cp_Dt) : Option (cp_Dt) :=
  (cp_gR L k0 3 0).bind fun r1 =>
  (cp_gR L r1 4 3).bind fun r2 =>
  (cp_gR L k0 3 0).bind fun r3 =>
  (cp_fl L r3 4).bind fun f4 =>
  (fn_X4_aheadOf L q r3 k1 D).bind fun y5 =>
  (cp_aI L y5.2 0 r2 y5.1).bind fun v6 =>
  if v6 = (-1 : Int32) then (some y5.2)
  else ((cp_gI L y5.2 k1 1 7).bind fun v8 =>
  (cp_gI L y5.2 k1 1 7).bind fun v9 =>
  (cp_pI L y5.2 k1 1 7 (v9 - (cp_mn x2 v8))).bind fun D10 =>
  (cp_gR L k0 3 0).bind fun r11 =>
  (cp_gR L r11 4 4).bind fun r12 =>
  (cp_aR L r12 v6).bind fun r13 =>
  (cp_gI L D10 r13 1 7).bind fun v14 =>
  (cp_pI L D10 r13 1 7 (v14 + (cp_mn x2 v8))).bind fun D15 =>
  some D15)
set_option maxHeartbeats 4000000 in
set_option maxRecDepth 100000 in
theorem ct_X3_give (l : Launch) (G : va_G) (L : cp_Lay) (hJ : cp_J L) (q : Nat) (k0 : Nat) (k1 : Nat) (x2 : Int32) (D : cp_Dt) (res : cp_Dt) (hF : fn_X3_give L q k0 k1 x2 D = some res) : cp_Met l G yX3_give wsX3_give ({ frames := 1, cells := 0, slots := 0, locals := 21 }) L ([.ref (L.2.1 k0), .ref (L.2.1 k1), .int x2] : List Value) D res none := by
  refine Met.ofW (cc := cX3_give) (maxL := 5) (ret := none) (by decide) rfl ?_
  intro p e s m args below meth c s₁ B hml hv
  obtain ⟨rfl, hP, hK, hN, hZ⟩ := hv
  have hx := B.exec
  have hb := B.bytes
  have hr := B.returns
  have hts := atoms_spec (ws := wsX3_give) B.pre
  have hown : s.vm.findClass "CreaturePond$Mind" = some m.cls := findClass_of_methodNamed B.named
  have hlocks := B.notSynchronized
  have hS : va_S (cp_A L) s.heap s.heap [] := va_S.rf
  have htT : ∀ w ∈ cp_T, w.before ([.ref (L.2.1 k0), .ref (L.2.1 k1), .int x2] : List Value).toArray s = true := fun w h => hts w (List.mem_cons_of_mem _ h)
  have hl := lv_entry (([.ref (L.2.1 k0), .ref (L.2.1 k1), .int x2] : List Value)) (n := 5) (Nat.le_of_ble_eq_true rfl)
  rw [lg_entry_eq]
  generalize (lg_sl (([.ref (L.2.1 k0), .ref (L.2.1 k1), .int x2] : List Value)) ++ List.replicate (5 - (lg_sl (([.ref (L.2.1 k0), .ref (L.2.1 k1), .int x2] : List Value))).length) Slot.unset).toArray = ls at hl ⊢
  have hl : lv_has ls 5 [(0, .ref (L.2.1 k0)), (1, .ref (L.2.1 k1)), (2, .int x2)] := hl
  unfold fn_X3_give at hF
  refine lv_aload_n hx hb dX3_give_0 rfl (lv_at hl 0 rfl) ?_
  obtain ⟨r1, er1, hF⟩ := cp_bind hF
  refine cp_getR (T := TX3) (N := 1) (ci := 3) (j := 0) hx hb htT hinX3 hown hK hP rfl (by decide) rfl (htT _ tw_126) er1 dX3_give_1 ?_
  obtain ⟨r2, er2, hF⟩ := cp_bind hF
  refine cp_getRN (T := TX4) (N := 12) (ci := 4) (j := 3) hx hb htT hinX4 hown hK hP rfl (by decide) rfl (hN _ (List.mem_of_getElem? (i := 42) rfl)) er2 dX3_give_4 ?_
  refine lv_aload_n hx hb dX3_give_7 rfl (lv_at hl 0 rfl) ?_
  obtain ⟨r3, er3, hF⟩ := cp_bind hF
  refine cp_getR (T := TX3) (N := 1) (ci := 3) (j := 0) hx hb htT hinX3 hown hK hP rfl (by decide) rfl (htT _ tw_126) er3 dX3_give_8 ?_
  refine lv_aload_n hx hb dX3_give_11 rfl (lv_at hl 1 rfl) ?_
  obtain ⟨f4, ef4, hF⟩ := cp_bind hF
  obtain ⟨y5, ey5, hF⟩ := cp_bind hF
  refine cp_call (st1 := [.int y5.1, .ref (L.2.1 r2)]) (va_runVN (As := [.ref (L.2.1 k1)]) (rest := [.ref (L.2.1 r2)]) ⟨hx, hb, hml, hown, htT⟩ (ct_X4_aheadOf l G L hJ q r3 k1 D y5 ey5) ⟨va_cnB 1 htT gdX4_aheadOf rfl rfl rfl (hN _ (List.mem_of_getElem? (i := 75) rfl)) (htT _ tw_4) hdX4_aheadOf ⟨Nat.le_of_ble_eq_true rfl, Nat.le_of_ble_eq_true rfl⟩, (htT _ tw_284), (htT _ tw_551)⟩ ⟨cp_blind, cp_recv hK hP rfl ef4, cp_pre hP hK hN hZ hS⟩ rfl rfl hl.1 rfl (lv_room (Nat.le_of_ble_eq_true rfl)) dX3_give_12 ⟨Nat.zero_le _, Nat.zero_le _⟩) hS (fun H locs hP hS => ?_)
  obtain ⟨v6, ev6, hF⟩ := cp_bind hF
  refine cp_iald hx hb hK hP ev6 dX3_give_15 ?_
  refine lv_istore_n (lv' := [(3, .int v6), (0, .ref (L.2.1 k0)), (1, .ref (L.2.1 k1)), (2, .int x2)]) hx hb dX3_give_16 rfl hl (by decide) rfl (fun ls hl => ?_)
  refine lv_iload_n hx hb dX3_give_17 rfl (lv_at hl 0 rfl) ?_
  refine lv_iconst (v := (-1 : Int32)) hx hb dX3_give_18 (by decide) ?_
  refine lv_icmp_eq (tgt := 62) hx hb dX3_give_19 (by decide) (fun hc7 => ?_) (fun hc7 => ?_)
  · rw [if_pos hc7] at hF
    exact cp_vret hx hb hr hlocks hF hP hS dX3_give_62
  · rw [if_neg hc7] at hF
    refine lv_iload_n hx hb dX3_give_22 rfl (lv_at hl 3 rfl) ?_
    refine lv_aload_n hx hb dX3_give_23 rfl (lv_at hl 2 rfl) ?_
    obtain ⟨v8, ev8, hF⟩ := cp_bind hF
    refine cp_getIN (T := TX1) (N := 14) (ci := 1) (j := 7) hx hb htT hinX1 hown hK hP rfl (by decide) rfl (hN _ (List.mem_of_getElem? (i := 23) rfl)) ev8 dX3_give_24 ?_
    refine va_mmin hx hb (by rw [hml]; exact hl.1.symm) hown (htT _ tw_289) (htT _ tw_27) (htT _ tw_3) (htT _ tw_28) (Nat.le_of_ble_eq_true rfl) (Nat.le_of_ble_eq_true rfl) (Nat.zero_le _) (Nat.zero_le _) dX3_give_27 ?_
    refine lv_istore (lv' := [(4, .int (cp_mn x2 v8)), (3, .int v6), (0, .ref (L.2.1 k0)), (1, .ref (L.2.1 k1)), (2, .int x2)]) hx hb dX3_give_30 hl (by decide) rfl (fun ls hl => ?_)
    refine lv_aload_n hx hb dX3_give_32 rfl (lv_at hl 3 rfl) ?_
    refine lv_dup hx hb dX3_give_33 rfl ?_
    obtain ⟨v9, ev9, hF⟩ := cp_bind hF
    refine cp_getIN (T := TX1) (N := 14) (ci := 1) (j := 7) hx hb htT hinX1 hown hK hP rfl (by decide) rfl (hN _ (List.mem_of_getElem? (i := 23) rfl)) ev9 dX3_give_34 ?_
    refine lv_iload hx hb dX3_give_37 (lv_at hl 0 rfl) ?_
    refine lv_isub hx hb dX3_give_39 ?_
    obtain ⟨D10, eD10, hF⟩ := cp_bind hF
    refine cp_putN (T := TX1) (N := 14) (ci := 1) (j := 7) hx hb htT hinX1 tyX1 tyX1_ok nmX1 hown hK hJ hP hS rfl (by decide) rfl (hN _ (List.mem_of_getElem? (i := 23) rfl)) rfl rfl rfl eD10 dX3_give_40 (fun H locs hP hS => ?_)
    refine lv_aload_n hx hb dX3_give_43 rfl (lv_at hl 2 rfl) ?_
    obtain ⟨r11, er11, hF⟩ := cp_bind hF
    refine cp_getR (T := TX3) (N := 1) (ci := 3) (j := 0) hx hb htT hinX3 hown hK hP rfl (by decide) rfl (htT _ tw_126) er11 dX3_give_44 ?_
    obtain ⟨r12, er12, hF⟩ := cp_bind hF
    refine cp_getRN (T := TX4) (N := 12) (ci := 4) (j := 4) hx hb htT hinX4 hown hK hP rfl (by decide) rfl (hN _ (List.mem_of_getElem? (i := 43) rfl)) er12 dX3_give_47 ?_
    refine lv_iload_n hx hb dX3_give_50 rfl (lv_at hl 1 rfl) ?_
    obtain ⟨r13, er13, hF⟩ := cp_bind hF
    refine cp_aald hx hb hK hP er13 dX3_give_51 ?_
    refine lv_dup hx hb dX3_give_52 rfl ?_
    obtain ⟨v14, ev14, hF⟩ := cp_bind hF
    refine cp_getIN (T := TX1) (N := 14) (ci := 1) (j := 7) hx hb htT hinX1 hown hK hP rfl (by decide) rfl (hN _ (List.mem_of_getElem? (i := 23) rfl)) ev14 dX3_give_53 ?_
    refine lv_iload hx hb dX3_give_56 (lv_at hl 0 rfl) ?_
    refine lv_iadd hx hb dX3_give_58 ?_
    obtain ⟨D15, eD15, hF⟩ := cp_bind hF
    refine cp_putN (T := TX1) (N := 14) (ci := 1) (j := 7) hx hb htT hinX1 tyX1 tyX1_ok nmX1 hown hK hJ hP hS rfl (by decide) rfl (hN _ (List.mem_of_getElem? (i := 23) rfl)) rfl rfl rfl eD15 dX3_give_59 (fun H locs hP hS => ?_)
    exact cp_vret hx hb hr hlocks hF hP hS dX3_give_62
theorem dX3_memoryIndex_0 : decode cX3_memoryIndex 0 = .ok (.aload_n 1, 1) := by decide +kernel
theorem dX3_memoryIndex_1 : decode cX3_memoryIndex 1 = .ok (.getfield 79, 3) := by decide +kernel
theorem dX3_memoryIndex_4 : decode cX3_memoryIndex 4 = .ok (.iload_n 2, 1) := by decide +kernel
theorem dX3_memoryIndex_5 : decode cX3_memoryIndex 5 = .ok (.bipush 7, 2) := by decide +kernel
theorem dX3_memoryIndex_7 : decode cX3_memoryIndex 7 = .ok (.iand, 1) := by decide +kernel
theorem dX3_memoryIndex_8 : decode cX3_memoryIndex 8 = .ok (.baload, 1) := by decide +kernel
theorem dX3_memoryIndex_9 : decode cX3_memoryIndex 9 = .ok (.bipush 15, 2) := by decide +kernel
theorem dX3_memoryIndex_11 : decode cX3_memoryIndex 11 = .ok (.iand, 1) := by decide +kernel
theorem dX3_memoryIndex_12 : decode cX3_memoryIndex 12 = .ok (.ireturn, 1) := by decide +kernel
def fn_X3_memoryIndex (L : cp_Lay) (q : Nat) (k0 : Nat) (k1 : Nat) (x2 : Int32) (D : cp_Dt) : Option (Int32 × cp_Dt) :=
  (cp_gR L k1 1 0).bind fun r1 =>
  (cp_aI L D 1 r1 (x2 &&& (7 : Int32))).bind fun v2 =>
  some ((v2 &&& (15 : Int32)), D)
set_option maxHeartbeats 4000000 in
set_option maxRecDepth 100000 in
theorem ct_X3_memoryIndex (l : Launch) (G : va_G) (L : cp_Lay) (hJ : cp_J L) (q : Nat) (k0 : Nat) (k1 : Nat) (x2 : Int32) (D : cp_Dt) (res : Int32 × cp_Dt) (hF : fn_X3_memoryIndex L q k0 k1 x2 D = some res) : cp_Met l G yX3_memoryIndex wsX3_memoryIndex ({ frames := 0, cells := 0, slots := 0, locals := 0 }) L ([.ref (L.2.1 k0), .ref (L.2.1 k1), .int x2] : List Value) D res.2 (some (.int res.1)) := by
  refine Met.ofW (cc := cX3_memoryIndex) (maxL := 3) (ret := (some .int)) (by decide) rfl ?_
  intro p e s m args below meth c s₁ B hml hv
  obtain ⟨rfl, hP, hK, hN, hZ⟩ := hv
  have hx := B.exec
  have hb := B.bytes
  have hr := B.returns
  have hts := atoms_spec (ws := wsX3_memoryIndex) B.pre
  have hown : s.vm.findClass "CreaturePond$Mind" = some m.cls := findClass_of_methodNamed B.named
  have hlocks := B.notSynchronized
  have hS : va_S (cp_A L) s.heap s.heap [] := va_S.rf
  have htT : ∀ w ∈ cp_T, w.before ([.ref (L.2.1 k0), .ref (L.2.1 k1), .int x2] : List Value).toArray s = true := fun w h => hts w (List.mem_cons_of_mem _ h)
  have hl := lv_entry (([.ref (L.2.1 k0), .ref (L.2.1 k1), .int x2] : List Value)) (n := 3) (Nat.le_of_ble_eq_true rfl)
  rw [lg_entry_eq]
  generalize (lg_sl (([.ref (L.2.1 k0), .ref (L.2.1 k1), .int x2] : List Value)) ++ List.replicate (3 - (lg_sl (([.ref (L.2.1 k0), .ref (L.2.1 k1), .int x2] : List Value))).length) Slot.unset).toArray = ls at hl ⊢
  have hl : lv_has ls 3 [(0, .ref (L.2.1 k0)), (1, .ref (L.2.1 k1)), (2, .int x2)] := hl
  unfold fn_X3_memoryIndex at hF
  refine lv_aload_n hx hb dX3_memoryIndex_0 rfl (lv_at hl 1 rfl) ?_
  obtain ⟨r1, er1, hF⟩ := cp_bind hF
  refine cp_getRN (T := TX1) (N := 14) (ci := 1) (j := 0) hx hb htT hinX1 hown hK hP rfl (by decide) rfl (hN _ (List.mem_of_getElem? (i := 5) rfl)) er1 dX3_memoryIndex_1 ?_
  refine lv_iload_n hx hb dX3_memoryIndex_4 rfl (lv_at hl 2 rfl) ?_
  refine lv_bipush (v := (7 : Int32)) hx hb dX3_memoryIndex_5 (by decide) ?_
  refine lv_iand hx hb dX3_memoryIndex_7 ?_
  obtain ⟨v2, ev2, hF⟩ := cp_bind hF
  refine cp_bald hx hb hK hP ev2 dX3_memoryIndex_8 ?_
  refine lv_bipush (v := (15 : Int32)) hx hb dX3_memoryIndex_9 (by decide) ?_
  refine lv_iand hx hb dX3_memoryIndex_11 ?_
  exact cp_iret hx hb hr hlocks hF hP hS dX3_memoryIndex_12
theorem dX3_jump_0 : decode cX3_jump 0 = .ok (.aload_n 1, 1) := by decide +kernel
theorem dX3_jump_1 : decode cX3_jump 1 = .ok (.aload_n 1, 1) := by decide +kernel
theorem dX3_jump_2 : decode cX3_jump 2 = .ok (.iload_n 2, 1) := by decide +kernel
theorem dX3_jump_3 : decode cX3_jump 3 = .ok (.sipush 255, 3) := by decide +kernel
theorem dX3_jump_6 : decode cX3_jump 6 = .ok (.iand, 1) := by decide +kernel
theorem dX3_jump_7 : decode cX3_jump 7 = .ok (.invokevirtual 63, 3) := by decide +kernel
theorem dX3_jump_10 : decode cX3_jump 10 = .ok (.putfield 56, 3) := by decide +kernel
theorem dX3_jump_13 : decode cX3_jump 13 = .ok (.return_, 1) := by decide +kernel
def fn_X3_jump (L : cp_Lay) (q : Nat) (k0 : Nat) (k1 : Nat) (x2 : Int32) (D : cp_Dt) : Option (cp_Dt) :=
  (cp_fl L k1 1).bind fun f1 =>
  (fn_X1_wrapped L q k1 (x2 &&& (255 : Int32)) D).bind fun y2 =>
  (cp_pI L y2.2 k1 1 10 y2.1).bind fun D3 =>
  some D3
set_option maxHeartbeats 4000000 in
set_option maxRecDepth 100000 in
theorem ct_X3_jump (l : Launch) (G : va_G) (L : cp_Lay) (hJ : cp_J L) (q : Nat) (k0 : Nat) (k1 : Nat) (x2 : Int32) (D : cp_Dt) (res : cp_Dt) (hF : fn_X3_jump L q k0 k1 x2 D = some res) : cp_Met l G yX3_jump wsX3_jump ({ frames := 1, cells := 0, slots := 0, locals := 21 }) L ([.ref (L.2.1 k0), .ref (L.2.1 k1), .int x2] : List Value) D res none := by
  refine Met.ofW (cc := cX3_jump) (maxL := 3) (ret := none) (by decide) rfl ?_
  intro p e s m args below meth c s₁ B hml hv
  obtain ⟨rfl, hP, hK, hN, hZ⟩ := hv
  have hx := B.exec
  have hb := B.bytes
  have hr := B.returns
  have hts := atoms_spec (ws := wsX3_jump) B.pre
  have hown : s.vm.findClass "CreaturePond$Mind" = some m.cls := findClass_of_methodNamed B.named
  have hlocks := B.notSynchronized
  have hS : va_S (cp_A L) s.heap s.heap [] := va_S.rf
  have htT : ∀ w ∈ cp_T, w.before ([.ref (L.2.1 k0), .ref (L.2.1 k1), .int x2] : List Value).toArray s = true := fun w h => hts w (List.mem_cons_of_mem _ h)
  have hl := lv_entry (([.ref (L.2.1 k0), .ref (L.2.1 k1), .int x2] : List Value)) (n := 3) (Nat.le_of_ble_eq_true rfl)
  rw [lg_entry_eq]
  generalize (lg_sl (([.ref (L.2.1 k0), .ref (L.2.1 k1), .int x2] : List Value)) ++ List.replicate (3 - (lg_sl (([.ref (L.2.1 k0), .ref (L.2.1 k1), .int x2] : List Value))).length) Slot.unset).toArray = ls at hl ⊢
  have hl : lv_has ls 3 [(0, .ref (L.2.1 k0)), (1, .ref (L.2.1 k1)), (2, .int x2)] := hl
  unfold fn_X3_jump at hF
  refine lv_aload_n hx hb dX3_jump_0 rfl (lv_at hl 1 rfl) ?_
  refine lv_aload_n hx hb dX3_jump_1 rfl (lv_at hl 1 rfl) ?_
  refine lv_iload_n hx hb dX3_jump_2 rfl (lv_at hl 2 rfl) ?_
  refine lv_sipush (v := (255 : Int32)) hx hb dX3_jump_3 (by decide) ?_
  refine lv_iand hx hb dX3_jump_6 ?_
  obtain ⟨f1, ef1, hF⟩ := cp_bind hF
  obtain ⟨y2, ey2, hF⟩ := cp_bind hF
  refine cp_call (st1 := [.int y2.1, .ref (L.2.1 k1)]) (va_runVN (As := [.int (x2 &&& (255 : Int32))]) (rest := [.ref (L.2.1 k1)]) ⟨hx, hb, hml, hown, htT⟩ (ct_X1_wrapped l G L hJ q k1 (x2 &&& (255 : Int32)) D y2 ey2) ⟨va_cnB 1 htT gdX1_wrapped rfl rfl rfl (hN _ (List.mem_of_getElem? (i := 74) rfl)) (htT _ tw_5) hdX1_wrapped ⟨Nat.le_of_ble_eq_true rfl, Nat.le_of_ble_eq_true rfl⟩, (htT _ tw_275), (htT _ tw_548)⟩ ⟨cp_blind, cp_recv hK hP rfl ef1, cp_pre hP hK hN hZ hS⟩ rfl rfl hl.1 rfl (lv_room (Nat.le_of_ble_eq_true rfl)) dX3_jump_7 ⟨Nat.zero_le _, Nat.zero_le _⟩) hS (fun H locs hP hS => ?_)
  obtain ⟨D3, eD3, hF⟩ := cp_bind hF
  refine cp_putN (T := TX1) (N := 14) (ci := 1) (j := 10) hx hb htT hinX1 tyX1 tyX1_ok nmX1 hown hK hJ hP hS rfl (by decide) rfl (hN _ (List.mem_of_getElem? (i := 31) rfl)) rfl rfl rfl eD3 dX3_jump_10 (fun H locs hP hS => ?_)
  exact cp_vret hx hb hr hlocks hF hP hS dX3_jump_13
theorem dX3_seenAhead_0 : decode cX3_seenAhead 0 = .ok (.aload_n 0, 1) := by decide +kernel
theorem dX3_seenAhead_1 : decode cX3_seenAhead 1 = .ok (.getfield 11, 3) := by decide +kernel
theorem dX3_seenAhead_4 : decode cX3_seenAhead 4 = .ok (.aload_n 1, 1) := by decide +kernel
theorem dX3_seenAhead_5 : decode cX3_seenAhead 5 = .ok (.invokevirtual 97, 3) := by decide +kernel
theorem dX3_seenAhead_8 : decode cX3_seenAhead 8 = .ok (.istore_n 3, 1) := by decide +kernel
theorem dX3_seenAhead_9 : decode cX3_seenAhead 9 = .ok (.aload_n 0, 1) := by decide +kernel
theorem dX3_seenAhead_10 : decode cX3_seenAhead 10 = .ok (.getfield 11, 3) := by decide +kernel
theorem dX3_seenAhead_13 : decode cX3_seenAhead 13 = .ok (.getfield 101, 3) := by decide +kernel
theorem dX3_seenAhead_16 : decode cX3_seenAhead 16 = .ok (.iload_n 3, 1) := by decide +kernel
theorem dX3_seenAhead_17 : decode cX3_seenAhead 17 = .ok (.iaload, 1) := by decide +kernel
theorem dX3_seenAhead_18 : decode cX3_seenAhead 18 = .ok (.istore 4, 2) := by decide +kernel
theorem dX3_seenAhead_20 : decode cX3_seenAhead 20 = .ok (.iload_n 2, 1) := by decide +kernel
theorem dX3_seenAhead_21 : decode cX3_seenAhead 21 = .ok (.tableswitch 61 0 2 #[27, 39, 51], 27) := by decide +kernel
theorem dX3_seenAhead_48 : decode cX3_seenAhead 48 = .ok (.aload_n 0, 1) := by decide +kernel
theorem dX3_seenAhead_49 : decode cX3_seenAhead 49 = .ok (.getfield 11, 3) := by decide +kernel
theorem dX3_seenAhead_52 : decode cX3_seenAhead 52 = .ok (.getfield 104, 3) := by decide +kernel
theorem dX3_seenAhead_55 : decode cX3_seenAhead 55 = .ok (.iload_n 3, 1) := by decide +kernel
theorem dX3_seenAhead_56 : decode cX3_seenAhead 56 = .ok (.iaload, 1) := by decide +kernel
theorem dX3_seenAhead_57 : decode cX3_seenAhead 57 = .ok (.iconst 1, 1) := by decide +kernel
theorem dX3_seenAhead_58 : decode cX3_seenAhead 58 = .ok (.ishr, 1) := by decide +kernel
theorem dX3_seenAhead_59 : decode cX3_seenAhead 59 = .ok (.ireturn, 1) := by decide +kernel
theorem dX3_seenAhead_60 : decode cX3_seenAhead 60 = .ok (.iload 4, 2) := by decide +kernel
theorem dX3_seenAhead_62 : decode cX3_seenAhead 62 = .ok (.iconst (-1), 1) := by decide +kernel
theorem dX3_seenAhead_63 : decode cX3_seenAhead 63 = .ok (.if_icmp .ne 7, 3) := by decide +kernel
theorem dX3_seenAhead_66 : decode cX3_seenAhead 66 = .ok (.iconst 0, 1) := by decide +kernel
theorem dX3_seenAhead_67 : decode cX3_seenAhead 67 = .ok (.goto 4, 3) := by decide +kernel
theorem dX3_seenAhead_70 : decode cX3_seenAhead 70 = .ok (.iconst 1, 1) := by decide +kernel
theorem dX3_seenAhead_71 : decode cX3_seenAhead 71 = .ok (.ireturn, 1) := by decide +kernel
theorem dX3_seenAhead_72 : decode cX3_seenAhead 72 = .ok (.aload_n 0, 1) := by decide +kernel
theorem dX3_seenAhead_73 : decode cX3_seenAhead 73 = .ok (.getfield 11, 3) := by decide +kernel
theorem dX3_seenAhead_76 : decode cX3_seenAhead 76 = .ok (.getfield 107, 3) := by decide +kernel
theorem dX3_seenAhead_79 : decode cX3_seenAhead 79 = .ok (.iload_n 3, 1) := by decide +kernel
theorem dX3_seenAhead_80 : decode cX3_seenAhead 80 = .ok (.baload, 1) := by decide +kernel
theorem dX3_seenAhead_81 : decode cX3_seenAhead 81 = .ok (.ireturn, 1) := by decide +kernel
theorem dX3_seenAhead_82 : decode cX3_seenAhead 82 = .ok (.iload 4, 2) := by decide +kernel
theorem dX3_seenAhead_84 : decode cX3_seenAhead 84 = .ok (.iconst (-1), 1) := by decide +kernel
theorem dX3_seenAhead_85 : decode cX3_seenAhead 85 = .ok (.if_icmp .ne 7, 3) := by decide +kernel
theorem dX3_seenAhead_88 : decode cX3_seenAhead 88 = .ok (.iconst (-1), 1) := by decide +kernel
theorem dX3_seenAhead_89 : decode cX3_seenAhead 89 = .ok (.goto 16, 3) := by decide +kernel
theorem dX3_seenAhead_92 : decode cX3_seenAhead 92 = .ok (.aload_n 0, 1) := by decide +kernel
theorem dX3_seenAhead_93 : decode cX3_seenAhead 93 = .ok (.getfield 11, 3) := by decide +kernel
theorem dX3_seenAhead_96 : decode cX3_seenAhead 96 = .ok (.getfield 15, 3) := by decide +kernel
theorem dX3_seenAhead_99 : decode cX3_seenAhead 99 = .ok (.iload 4, 2) := by decide +kernel
theorem dX3_seenAhead_101 : decode cX3_seenAhead 101 = .ok (.aaload, 1) := by decide +kernel
theorem dX3_seenAhead_102 : decode cX3_seenAhead 102 = .ok (.getfield 110, 3) := by decide +kernel
theorem dX3_seenAhead_105 : decode cX3_seenAhead 105 = .ok (.ireturn, 1) := by decide +kernel
def fn_X3_seenAhead (L : cp_Lay) (q : Nat) (k0 : Nat) (k1 : Nat) (x2 : Int32) (D : cp_Dt) : Option (Int32 × cp_Dt) :=
  (cp_gR L k0 3 0).bind fun r1 =>
  (cp_fl L r1 4).bind fun f2 =>
  (fn_X4_aheadOf L q r1 k1 D).bind fun y3 =>
  (cp_gR L k0 3 0).bind fun r4 =>
  (cp_gR L r4 4 3).bind fun r5 =>
  (cp_aI L y3.2 0 r5 y3.1).bind fun v6 =>
  if x2 = (0 : Int32) then ((cp_gR L k0 3 0).bind fun r8 =>
  (cp_gR L r8 4 1).bind fun r9 =>
  (cp_aI L y3.2 0 r9 y3.1).bind fun v10 =>
  some ((v10 >>> ((1 : Int32) &&& 31)), y3.2))
  else if x2 = (1 : Int32) then (if v6 = (-1 : Int32) then (some ((0 : Int32), y3.2))
  else (some ((1 : Int32), y3.2)))
  else if x2 = (2 : Int32) then ((cp_gR L k0 3 0).bind fun r14 =>
  (cp_gR L r14 4 2).bind fun r15 =>
  (cp_aI L y3.2 1 r15 y3.1).bind fun v16 =>
  some (v16, y3.2))
  else (if v6 = (-1 : Int32) then (some ((-1 : Int32), y3.2))
  else ((cp_gR L k0 3 0).bind fun r18 =>
  (cp_gR L r18 4 4).bind fun r19 =>
  (cp_aR L r19 v6).bind fun r20 =>
  (cp_gI L y3.2 r20 1 6).bind fun v21 =>
  some (v21, y3.2)))
set_option maxHeartbeats 4000000 in
set_option maxRecDepth 100000 in
theorem ct_X3_seenAhead (l : Launch) (G : va_G) (L : cp_Lay) (hJ : cp_J L) (q : Nat) (k0 : Nat) (k1 : Nat) (x2 : Int32) (D : cp_Dt) (res : Int32 × cp_Dt) (hF : fn_X3_seenAhead L q k0 k1 x2 D = some res) : cp_Met l G yX3_seenAhead wsX3_seenAhead ({ frames := 1, cells := 0, slots := 0, locals := 21 }) L ([.ref (L.2.1 k0), .ref (L.2.1 k1), .int x2] : List Value) D res.2 (some (.int res.1)) := by
  refine Met.ofW (cc := cX3_seenAhead) (maxL := 5) (ret := (some .int)) (by decide) rfl ?_
  intro p e s m args below meth c s₁ B hml hv
  obtain ⟨rfl, hP, hK, hN, hZ⟩ := hv
  have hx := B.exec
  have hb := B.bytes
  have hr := B.returns
  have hts := atoms_spec (ws := wsX3_seenAhead) B.pre
  have hown : s.vm.findClass "CreaturePond$Mind" = some m.cls := findClass_of_methodNamed B.named
  have hlocks := B.notSynchronized
  have hS : va_S (cp_A L) s.heap s.heap [] := va_S.rf
  have htT : ∀ w ∈ cp_T, w.before ([.ref (L.2.1 k0), .ref (L.2.1 k1), .int x2] : List Value).toArray s = true := fun w h => hts w (List.mem_cons_of_mem _ h)
  have hl := lv_entry (([.ref (L.2.1 k0), .ref (L.2.1 k1), .int x2] : List Value)) (n := 5) (Nat.le_of_ble_eq_true rfl)
  rw [lg_entry_eq]
  generalize (lg_sl (([.ref (L.2.1 k0), .ref (L.2.1 k1), .int x2] : List Value)) ++ List.replicate (5 - (lg_sl (([.ref (L.2.1 k0), .ref (L.2.1 k1), .int x2] : List Value))).length) Slot.unset).toArray = ls at hl ⊢
  have hl : lv_has ls 5 [(0, .ref (L.2.1 k0)), (1, .ref (L.2.1 k1)), (2, .int x2)] := hl
  unfold fn_X3_seenAhead at hF
  refine lv_aload_n hx hb dX3_seenAhead_0 rfl (lv_at hl 0 rfl) ?_
  obtain ⟨r1, er1, hF⟩ := cp_bind hF
  refine cp_getR (T := TX3) (N := 1) (ci := 3) (j := 0) hx hb htT hinX3 hown hK hP rfl (by decide) rfl (htT _ tw_126) er1 dX3_seenAhead_1 ?_
  refine lv_aload_n hx hb dX3_seenAhead_4 rfl (lv_at hl 1 rfl) ?_
  obtain ⟨f2, ef2, hF⟩ := cp_bind hF
  obtain ⟨y3, ey3, hF⟩ := cp_bind hF
  refine cp_call (st1 := [.int y3.1]) (va_runVN (As := [.ref (L.2.1 k1)]) (rest := []) ⟨hx, hb, hml, hown, htT⟩ (ct_X4_aheadOf l G L hJ q r1 k1 D y3 ey3) ⟨va_cnB 1 htT gdX4_aheadOf rfl rfl rfl (hN _ (List.mem_of_getElem? (i := 75) rfl)) (htT _ tw_4) hdX4_aheadOf ⟨Nat.le_of_ble_eq_true rfl, Nat.le_of_ble_eq_true rfl⟩, (htT _ tw_284), (htT _ tw_551)⟩ ⟨cp_blind, cp_recv hK hP rfl ef2, cp_pre hP hK hN hZ hS⟩ rfl rfl hl.1 rfl (lv_room (Nat.le_of_ble_eq_true rfl)) dX3_seenAhead_5 ⟨Nat.zero_le _, Nat.zero_le _⟩) hS (fun H locs hP hS => ?_)
  refine lv_istore_n (lv' := [(3, .int y3.1), (0, .ref (L.2.1 k0)), (1, .ref (L.2.1 k1)), (2, .int x2)]) hx hb dX3_seenAhead_8 rfl hl (by decide) rfl (fun ls hl => ?_)
  refine lv_aload_n hx hb dX3_seenAhead_9 rfl (lv_at hl 1 rfl) ?_
  obtain ⟨r4, er4, hF⟩ := cp_bind hF
  refine cp_getR (T := TX3) (N := 1) (ci := 3) (j := 0) hx hb htT hinX3 hown hK hP rfl (by decide) rfl (htT _ tw_126) er4 dX3_seenAhead_10 ?_
  obtain ⟨r5, er5, hF⟩ := cp_bind hF
  refine cp_getRN (T := TX4) (N := 12) (ci := 4) (j := 3) hx hb htT hinX4 hown hK hP rfl (by decide) rfl (hN _ (List.mem_of_getElem? (i := 42) rfl)) er5 dX3_seenAhead_13 ?_
  refine lv_iload_n hx hb dX3_seenAhead_16 rfl (lv_at hl 0 rfl) ?_
  obtain ⟨v6, ev6, hF⟩ := cp_bind hF
  refine cp_iald hx hb hK hP ev6 dX3_seenAhead_17 ?_
  refine lv_istore (lv' := [(4, .int v6), (3, .int y3.1), (0, .ref (L.2.1 k0)), (1, .ref (L.2.1 k1)), (2, .int x2)]) hx hb dX3_seenAhead_18 hl (by decide) rfl (fun ls hl => ?_)
  refine lv_iload_n hx hb dX3_seenAhead_20 rfl (lv_at hl 4 rfl) ?_
  by_cases hc7 : x2 = (0 : Int32)
  · rw [if_pos hc7] at hF
    refine lv_tableIn (tgt := 48) hx hb dX3_seenAhead_21 (by rw [hc7]; decide) (by rw [hc7]; decide) (by rw [hc7]; rfl) (by decide) ?_
    refine lv_aload_n hx hb dX3_seenAhead_48 rfl (lv_at hl 2 rfl) ?_
    obtain ⟨r8, er8, hF⟩ := cp_bind hF
    refine cp_getR (T := TX3) (N := 1) (ci := 3) (j := 0) hx hb htT hinX3 hown hK hP rfl (by decide) rfl (htT _ tw_126) er8 dX3_seenAhead_49 ?_
    obtain ⟨r9, er9, hF⟩ := cp_bind hF
    refine cp_getRN (T := TX4) (N := 12) (ci := 4) (j := 1) hx hb htT hinX4 hown hK hP rfl (by decide) rfl (hN _ (List.mem_of_getElem? (i := 37) rfl)) er9 dX3_seenAhead_52 ?_
    refine lv_iload_n hx hb dX3_seenAhead_55 rfl (lv_at hl 1 rfl) ?_
    obtain ⟨v10, ev10, hF⟩ := cp_bind hF
    refine cp_iald hx hb hK hP ev10 dX3_seenAhead_56 ?_
    refine lv_iconst (v := (1 : Int32)) hx hb dX3_seenAhead_57 (by decide) ?_
    refine lv_ishr hx hb dX3_seenAhead_58 ?_
    exact cp_iret hx hb hr hlocks hF hP hS dX3_seenAhead_59
  · rw [if_neg hc7] at hF
    by_cases hc11 : x2 = (1 : Int32)
    · rw [if_pos hc11] at hF
      refine lv_tableIn (tgt := 60) hx hb dX3_seenAhead_21 (by rw [hc11]; decide) (by rw [hc11]; decide) (by rw [hc11]; rfl) (by decide) ?_
      refine lv_iload hx hb dX3_seenAhead_60 (lv_at hl 0 rfl) ?_
      refine lv_iconst (v := (-1 : Int32)) hx hb dX3_seenAhead_62 (by decide) ?_
      refine lv_icmp_ne (tgt := 70) hx hb dX3_seenAhead_63 (by decide) (fun hc12 => ?_) (fun hc12 => ?_)
      · rw [if_neg hc12] at hF
        refine lv_iconst (v := (1 : Int32)) hx hb dX3_seenAhead_70 (by decide) ?_
        exact cp_iret hx hb hr hlocks hF hP hS dX3_seenAhead_71
      · rw [if_pos hc12] at hF
        refine lv_iconst (v := (0 : Int32)) hx hb dX3_seenAhead_66 (by decide) ?_
        refine lv_goto (tgt := 71) hx hb dX3_seenAhead_67 (by decide) ?_
        exact cp_iret hx hb hr hlocks hF hP hS dX3_seenAhead_71
    · rw [if_neg hc11] at hF
      by_cases hc13 : x2 = (2 : Int32)
      · rw [if_pos hc13] at hF
        refine lv_tableIn (tgt := 72) hx hb dX3_seenAhead_21 (by rw [hc13]; decide) (by rw [hc13]; decide) (by rw [hc13]; rfl) (by decide) ?_
        refine lv_aload_n hx hb dX3_seenAhead_72 rfl (lv_at hl 2 rfl) ?_
        obtain ⟨r14, er14, hF⟩ := cp_bind hF
        refine cp_getR (T := TX3) (N := 1) (ci := 3) (j := 0) hx hb htT hinX3 hown hK hP rfl (by decide) rfl (htT _ tw_126) er14 dX3_seenAhead_73 ?_
        obtain ⟨r15, er15, hF⟩ := cp_bind hF
        refine cp_getRN (T := TX4) (N := 12) (ci := 4) (j := 2) hx hb htT hinX4 hown hK hP rfl (by decide) rfl (hN _ (List.mem_of_getElem? (i := 39) rfl)) er15 dX3_seenAhead_76 ?_
        refine lv_iload_n hx hb dX3_seenAhead_79 rfl (lv_at hl 1 rfl) ?_
        obtain ⟨v16, ev16, hF⟩ := cp_bind hF
        refine cp_bald hx hb hK hP ev16 dX3_seenAhead_80 ?_
        exact cp_iret hx hb hr hlocks hF hP hS dX3_seenAhead_81
      · rw [if_neg hc13] at hF
        have zhc7 := lv_neT (a := 0) hc7 (by decide)
        have zhc11 := lv_neT (a := 1) hc11 (by decide)
        have zhc13 := lv_neT (a := 2) hc13 (by decide)
        refine lv_tableOut (tgt := 82) hx hb dX3_seenAhead_21 (by omega) (by decide) ?_
        refine lv_iload hx hb dX3_seenAhead_82 (lv_at hl 0 rfl) ?_
        refine lv_iconst (v := (-1 : Int32)) hx hb dX3_seenAhead_84 (by decide) ?_
        refine lv_icmp_ne (tgt := 92) hx hb dX3_seenAhead_85 (by decide) (fun hc17 => ?_) (fun hc17 => ?_)
        · rw [if_neg hc17] at hF
          refine lv_aload_n hx hb dX3_seenAhead_92 rfl (lv_at hl 2 rfl) ?_
          obtain ⟨r18, er18, hF⟩ := cp_bind hF
          refine cp_getR (T := TX3) (N := 1) (ci := 3) (j := 0) hx hb htT hinX3 hown hK hP rfl (by decide) rfl (htT _ tw_126) er18 dX3_seenAhead_93 ?_
          obtain ⟨r19, er19, hF⟩ := cp_bind hF
          refine cp_getRN (T := TX4) (N := 12) (ci := 4) (j := 4) hx hb htT hinX4 hown hK hP rfl (by decide) rfl (hN _ (List.mem_of_getElem? (i := 43) rfl)) er19 dX3_seenAhead_96 ?_
          refine lv_iload hx hb dX3_seenAhead_99 (lv_at hl 0 rfl) ?_
          obtain ⟨r20, er20, hF⟩ := cp_bind hF
          refine cp_aald hx hb hK hP er20 dX3_seenAhead_101 ?_
          obtain ⟨v21, ev21, hF⟩ := cp_bind hF
          refine cp_getIN (T := TX1) (N := 14) (ci := 1) (j := 6) hx hb htT hinX1 hown hK hP rfl (by decide) rfl (hN _ (List.mem_of_getElem? (i := 22) rfl)) ev21 dX3_seenAhead_102 ?_
          exact cp_iret hx hb hr hlocks hF hP hS dX3_seenAhead_105
        · rw [if_pos hc17] at hF
          refine lv_iconst (v := (-1 : Int32)) hx hb dX3_seenAhead_88 (by decide) ?_
          refine lv_goto (tgt := 105) hx hb dX3_seenAhead_89 (by decide) ?_
          exact cp_iret hx hb hr hlocks hF hP hS dX3_seenAhead_105
theorem dX3_seenInside_0 : decode cX3_seenInside 0 = .ok (.iload_n 2, 1) := by decide +kernel
theorem dX3_seenInside_1 : decode cX3_seenInside 1 = .ok (.tableswitch 50 0 2 #[27, 37, 45], 27) := by decide +kernel
theorem dX3_seenInside_28 : decode cX3_seenInside 28 = .ok (.aload_n 1, 1) := by decide +kernel
theorem dX3_seenInside_29 : decode cX3_seenInside 29 = .ok (.getfield 42, 3) := by decide +kernel
theorem dX3_seenInside_32 : decode cX3_seenInside 32 = .ok (.bipush 127, 2) := by decide +kernel
theorem dX3_seenInside_34 : decode cX3_seenInside 34 = .ok (.invokestatic 113, 3) := by decide +kernel
theorem dX3_seenInside_37 : decode cX3_seenInside 37 = .ok (.ireturn, 1) := by decide +kernel
theorem dX3_seenInside_38 : decode cX3_seenInside 38 = .ok (.aload_n 1, 1) := by decide +kernel
theorem dX3_seenInside_39 : decode cX3_seenInside 39 = .ok (.getfield 34, 3) := by decide +kernel
theorem dX3_seenInside_42 : decode cX3_seenInside 42 = .ok (.bipush 127, 2) := by decide +kernel
theorem dX3_seenInside_44 : decode cX3_seenInside 44 = .ok (.iand, 1) := by decide +kernel
theorem dX3_seenInside_45 : decode cX3_seenInside 45 = .ok (.ireturn, 1) := by decide +kernel
theorem dX3_seenInside_46 : decode cX3_seenInside 46 = .ok (.aload_n 1, 1) := by decide +kernel
theorem dX3_seenInside_47 : decode cX3_seenInside 47 = .ok (.getfield 110, 3) := by decide +kernel
theorem dX3_seenInside_50 : decode cX3_seenInside 50 = .ok (.ireturn, 1) := by decide +kernel
theorem dX3_seenInside_51 : decode cX3_seenInside 51 = .ok (.aload_n 0, 1) := by decide +kernel
theorem dX3_seenInside_52 : decode cX3_seenInside 52 = .ok (.getfield 11, 3) := by decide +kernel
theorem dX3_seenInside_55 : decode cX3_seenInside 55 = .ok (.getfield 104, 3) := by decide +kernel
theorem dX3_seenInside_58 : decode cX3_seenInside 58 = .ok (.aload_n 1, 1) := by decide +kernel
theorem dX3_seenInside_59 : decode cX3_seenInside 59 = .ok (.getfield 119, 3) := by decide +kernel
theorem dX3_seenInside_62 : decode cX3_seenInside 62 = .ok (.iaload, 1) := by decide +kernel
theorem dX3_seenInside_63 : decode cX3_seenInside 63 = .ok (.iconst 1, 1) := by decide +kernel
theorem dX3_seenInside_64 : decode cX3_seenInside 64 = .ok (.ishr, 1) := by decide +kernel
theorem dX3_seenInside_65 : decode cX3_seenInside 65 = .ok (.ireturn, 1) := by decide +kernel
def fn_X3_seenInside (L : cp_Lay) (q : Nat) (k0 : Nat) (k1 : Nat) (x2 : Int32) (D : cp_Dt) : Option (Int32 × cp_Dt) :=
  if x2 = (0 : Int32) then ((cp_gI L D k1 1 7).bind fun v2 =>
  some ((cp_mn v2 (127 : Int32)), D))
  else if x2 = (1 : Int32) then ((cp_gI L D k1 1 8).bind fun v4 =>
  some ((v4 &&& (127 : Int32)), D))
  else if x2 = (2 : Int32) then ((cp_gI L D k1 1 6).bind fun v6 =>
  some (v6, D))
  else ((cp_gR L k0 3 0).bind fun r7 =>
  (cp_gR L r7 4 1).bind fun r8 =>
  (cp_gI L D k1 1 5).bind fun v9 =>
  (cp_aI L D 0 r8 v9).bind fun v10 =>
  some ((v10 >>> ((1 : Int32) &&& 31)), D))
set_option maxHeartbeats 4000000 in
set_option maxRecDepth 100000 in
theorem ct_X3_seenInside (l : Launch) (G : va_G) (L : cp_Lay) (hJ : cp_J L) (q : Nat) (k0 : Nat) (k1 : Nat) (x2 : Int32) (D : cp_Dt) (res : Int32 × cp_Dt) (hF : fn_X3_seenInside L q k0 k1 x2 D = some res) : cp_Met l G yX3_seenInside wsX3_seenInside ({ frames := 1, cells := 0, slots := 0, locals := 21 }) L ([.ref (L.2.1 k0), .ref (L.2.1 k1), .int x2] : List Value) D res.2 (some (.int res.1)) := by
  refine Met.ofW (cc := cX3_seenInside) (maxL := 3) (ret := (some .int)) (by decide) rfl ?_
  intro p e s m args below meth c s₁ B hml hv
  obtain ⟨rfl, hP, hK, hN, hZ⟩ := hv
  have hx := B.exec
  have hb := B.bytes
  have hr := B.returns
  have hts := atoms_spec (ws := wsX3_seenInside) B.pre
  have hown : s.vm.findClass "CreaturePond$Mind" = some m.cls := findClass_of_methodNamed B.named
  have hlocks := B.notSynchronized
  have hS : va_S (cp_A L) s.heap s.heap [] := va_S.rf
  have htT : ∀ w ∈ cp_T, w.before ([.ref (L.2.1 k0), .ref (L.2.1 k1), .int x2] : List Value).toArray s = true := fun w h => hts w (List.mem_cons_of_mem _ h)
  have hl := lv_entry (([.ref (L.2.1 k0), .ref (L.2.1 k1), .int x2] : List Value)) (n := 3) (Nat.le_of_ble_eq_true rfl)
  rw [lg_entry_eq]
  generalize (lg_sl (([.ref (L.2.1 k0), .ref (L.2.1 k1), .int x2] : List Value)) ++ List.replicate (3 - (lg_sl (([.ref (L.2.1 k0), .ref (L.2.1 k1), .int x2] : List Value))).length) Slot.unset).toArray = ls at hl ⊢
  have hl : lv_has ls 3 [(0, .ref (L.2.1 k0)), (1, .ref (L.2.1 k1)), (2, .int x2)] := hl
  unfold fn_X3_seenInside at hF
  refine lv_iload_n hx hb dX3_seenInside_0 rfl (lv_at hl 2 rfl) ?_
  by_cases hc1 : x2 = (0 : Int32)
  · rw [if_pos hc1] at hF
    refine lv_tableIn (tgt := 28) hx hb dX3_seenInside_1 (by rw [hc1]; decide) (by rw [hc1]; decide) (by rw [hc1]; rfl) (by decide) ?_
    refine lv_aload_n hx hb dX3_seenInside_28 rfl (lv_at hl 1 rfl) ?_
    obtain ⟨v2, ev2, hF⟩ := cp_bind hF
    refine cp_getIN (T := TX1) (N := 14) (ci := 1) (j := 7) hx hb htT hinX1 hown hK hP rfl (by decide) rfl (hN _ (List.mem_of_getElem? (i := 23) rfl)) ev2 dX3_seenInside_29 ?_
    refine lv_bipush (v := (127 : Int32)) hx hb dX3_seenInside_32 (by decide) ?_
    refine va_mmin hx hb (by rw [hml]; exact hl.1.symm) hown (htT _ tw_289) (htT _ tw_27) (htT _ tw_3) (htT _ tw_28) (Nat.le_of_ble_eq_true rfl) (Nat.le_of_ble_eq_true rfl) (Nat.zero_le _) (Nat.zero_le _) dX3_seenInside_34 ?_
    exact cp_iret hx hb hr hlocks hF hP hS dX3_seenInside_37
  · rw [if_neg hc1] at hF
    by_cases hc3 : x2 = (1 : Int32)
    · rw [if_pos hc3] at hF
      refine lv_tableIn (tgt := 38) hx hb dX3_seenInside_1 (by rw [hc3]; decide) (by rw [hc3]; decide) (by rw [hc3]; rfl) (by decide) ?_
      refine lv_aload_n hx hb dX3_seenInside_38 rfl (lv_at hl 1 rfl) ?_
      obtain ⟨v4, ev4, hF⟩ := cp_bind hF
      refine cp_getIN (T := TX1) (N := 14) (ci := 1) (j := 8) hx hb htT hinX1 hown hK hP rfl (by decide) rfl (hN _ (List.mem_of_getElem? (i := 26) rfl)) ev4 dX3_seenInside_39 ?_
      refine lv_bipush (v := (127 : Int32)) hx hb dX3_seenInside_42 (by decide) ?_
      refine lv_iand hx hb dX3_seenInside_44 ?_
      exact cp_iret hx hb hr hlocks hF hP hS dX3_seenInside_45
    · rw [if_neg hc3] at hF
      by_cases hc5 : x2 = (2 : Int32)
      · rw [if_pos hc5] at hF
        refine lv_tableIn (tgt := 46) hx hb dX3_seenInside_1 (by rw [hc5]; decide) (by rw [hc5]; decide) (by rw [hc5]; rfl) (by decide) ?_
        refine lv_aload_n hx hb dX3_seenInside_46 rfl (lv_at hl 1 rfl) ?_
        obtain ⟨v6, ev6, hF⟩ := cp_bind hF
        refine cp_getIN (T := TX1) (N := 14) (ci := 1) (j := 6) hx hb htT hinX1 hown hK hP rfl (by decide) rfl (hN _ (List.mem_of_getElem? (i := 22) rfl)) ev6 dX3_seenInside_47 ?_
        exact cp_iret hx hb hr hlocks hF hP hS dX3_seenInside_50
      · rw [if_neg hc5] at hF
        have zhc1 := lv_neT (a := 0) hc1 (by decide)
        have zhc3 := lv_neT (a := 1) hc3 (by decide)
        have zhc5 := lv_neT (a := 2) hc5 (by decide)
        refine lv_tableOut (tgt := 51) hx hb dX3_seenInside_1 (by omega) (by decide) ?_
        refine lv_aload_n hx hb dX3_seenInside_51 rfl (lv_at hl 0 rfl) ?_
        obtain ⟨r7, er7, hF⟩ := cp_bind hF
        refine cp_getR (T := TX3) (N := 1) (ci := 3) (j := 0) hx hb htT hinX3 hown hK hP rfl (by decide) rfl (htT _ tw_126) er7 dX3_seenInside_52 ?_
        obtain ⟨r8, er8, hF⟩ := cp_bind hF
        refine cp_getRN (T := TX4) (N := 12) (ci := 4) (j := 1) hx hb htT hinX4 hown hK hP rfl (by decide) rfl (hN _ (List.mem_of_getElem? (i := 37) rfl)) er8 dX3_seenInside_55 ?_
        refine lv_aload_n hx hb dX3_seenInside_58 rfl (lv_at hl 1 rfl) ?_
        obtain ⟨v9, ev9, hF⟩ := cp_bind hF
        refine cp_getIN (T := TX1) (N := 14) (ci := 1) (j := 5) hx hb htT hinX1 hown hK hP rfl (by decide) rfl (hN _ (List.mem_of_getElem? (i := 18) rfl)) ev9 dX3_seenInside_59 ?_
        obtain ⟨v10, ev10, hF⟩ := cp_bind hF
        refine cp_iald hx hb hK hP ev10 dX3_seenInside_62 ?_
        refine lv_iconst (v := (1 : Int32)) hx hb dX3_seenInside_63 (by decide) ?_
        refine lv_ishr hx hb dX3_seenInside_64 ?_
        exact cp_iret hx hb hr hlocks hF hP hS dX3_seenInside_65
theorem dX2_greaterOfPair_0 : decode cX2_greaterOfPair 0 = .ok (.aload_n 0, 1) := by decide +kernel
theorem dX2_greaterOfPair_1 : decode cX2_greaterOfPair 1 = .ok (.getfield 9, 3) := by decide +kernel
theorem dX2_greaterOfPair_4 : decode cX2_greaterOfPair 4 = .ok (.getfield 23, 3) := by decide +kernel
theorem dX2_greaterOfPair_7 : decode cX2_greaterOfPair 7 = .ok (.iload_n 1, 1) := by decide +kernel
theorem dX2_greaterOfPair_8 : decode cX2_greaterOfPair 8 = .ok (.aaload, 1) := by decide +kernel
theorem dX2_greaterOfPair_9 : decode cX2_greaterOfPair 9 = .ok (.astore_n 2, 1) := by decide +kernel
theorem dX2_greaterOfPair_10 : decode cX2_greaterOfPair 10 = .ok (.aload_n 2, 1) := by decide +kernel
theorem dX2_greaterOfPair_11 : decode cX2_greaterOfPair 11 = .ok (.getfield 29, 3) := by decide +kernel
theorem dX2_greaterOfPair_14 : decode cX2_greaterOfPair 14 = .ok (.ifCond .eq 10, 3) := by decide +kernel
theorem dX2_greaterOfPair_17 : decode cX2_greaterOfPair 17 = .ok (.aload_n 2, 1) := by decide +kernel
theorem dX2_greaterOfPair_18 : decode cX2_greaterOfPair 18 = .ok (.getfield 35, 3) := by decide +kernel
theorem dX2_greaterOfPair_21 : decode cX2_greaterOfPair 21 = .ok (.ifCond .ne 5, 3) := by decide +kernel
theorem dX2_greaterOfPair_24 : decode cX2_greaterOfPair 24 = .ok (.iconst (-1), 1) := by decide +kernel
theorem dX2_greaterOfPair_25 : decode cX2_greaterOfPair 25 = .ok (.ireturn, 1) := by decide +kernel
theorem dX2_greaterOfPair_26 : decode cX2_greaterOfPair 26 = .ok (.aload_n 0, 1) := by decide +kernel
theorem dX2_greaterOfPair_27 : decode cX2_greaterOfPair 27 = .ok (.getfield 9, 3) := by decide +kernel
theorem dX2_greaterOfPair_30 : decode cX2_greaterOfPair 30 = .ok (.getfield 38, 3) := by decide +kernel
theorem dX2_greaterOfPair_33 : decode cX2_greaterOfPair 33 = .ok (.aload_n 0, 1) := by decide +kernel
theorem dX2_greaterOfPair_34 : decode cX2_greaterOfPair 34 = .ok (.getfield 9, 3) := by decide +kernel
theorem dX2_greaterOfPair_37 : decode cX2_greaterOfPair 37 = .ok (.aload_n 2, 1) := by decide +kernel
theorem dX2_greaterOfPair_38 : decode cX2_greaterOfPair 38 = .ok (.invokevirtual 42, 3) := by decide +kernel
theorem dX2_greaterOfPair_41 : decode cX2_greaterOfPair 41 = .ok (.iaload, 1) := by decide +kernel
theorem dX2_greaterOfPair_42 : decode cX2_greaterOfPair 42 = .ok (.istore_n 3, 1) := by decide +kernel
theorem dX2_greaterOfPair_43 : decode cX2_greaterOfPair 43 = .ok (.iload_n 3, 1) := by decide +kernel
theorem dX2_greaterOfPair_44 : decode cX2_greaterOfPair 44 = .ok (.iload_n 1, 1) := by decide +kernel
theorem dX2_greaterOfPair_45 : decode cX2_greaterOfPair 45 = .ok (.if_icmp .gt 5, 3) := by decide +kernel
theorem dX2_greaterOfPair_48 : decode cX2_greaterOfPair 48 = .ok (.iconst (-1), 1) := by decide +kernel
theorem dX2_greaterOfPair_49 : decode cX2_greaterOfPair 49 = .ok (.ireturn, 1) := by decide +kernel
theorem dX2_greaterOfPair_50 : decode cX2_greaterOfPair 50 = .ok (.aload_n 0, 1) := by decide +kernel
theorem dX2_greaterOfPair_51 : decode cX2_greaterOfPair 51 = .ok (.getfield 9, 3) := by decide +kernel
theorem dX2_greaterOfPair_54 : decode cX2_greaterOfPair 54 = .ok (.getfield 23, 3) := by decide +kernel
theorem dX2_greaterOfPair_57 : decode cX2_greaterOfPair 57 = .ok (.iload_n 3, 1) := by decide +kernel
theorem dX2_greaterOfPair_58 : decode cX2_greaterOfPair 58 = .ok (.aaload, 1) := by decide +kernel
theorem dX2_greaterOfPair_59 : decode cX2_greaterOfPair 59 = .ok (.astore 4, 2) := by decide +kernel
theorem dX2_greaterOfPair_61 : decode cX2_greaterOfPair 61 = .ok (.aload 4, 2) := by decide +kernel
theorem dX2_greaterOfPair_63 : decode cX2_greaterOfPair 63 = .ok (.getfield 35, 3) := by decide +kernel
theorem dX2_greaterOfPair_66 : decode cX2_greaterOfPair 66 = .ok (.ifCond .eq 23, 3) := by decide +kernel
theorem dX2_greaterOfPair_69 : decode cX2_greaterOfPair 69 = .ok (.aload_n 0, 1) := by decide +kernel
theorem dX2_greaterOfPair_70 : decode cX2_greaterOfPair 70 = .ok (.getfield 9, 3) := by decide +kernel
theorem dX2_greaterOfPair_73 : decode cX2_greaterOfPair 73 = .ok (.aload 4, 2) := by decide +kernel
theorem dX2_greaterOfPair_75 : decode cX2_greaterOfPair 75 = .ok (.invokevirtual 42, 3) := by decide +kernel
theorem dX2_greaterOfPair_78 : decode cX2_greaterOfPair 78 = .ok (.aload_n 2, 1) := by decide +kernel
theorem dX2_greaterOfPair_79 : decode cX2_greaterOfPair 79 = .ok (.getfield 46, 3) := by decide +kernel
theorem dX2_greaterOfPair_82 : decode cX2_greaterOfPair 82 = .ok (.if_icmp .ne 7, 3) := by decide +kernel
theorem dX2_greaterOfPair_85 : decode cX2_greaterOfPair 85 = .ok (.iload_n 3, 1) := by decide +kernel
theorem dX2_greaterOfPair_86 : decode cX2_greaterOfPair 86 = .ok (.goto 4, 3) := by decide +kernel
theorem dX2_greaterOfPair_89 : decode cX2_greaterOfPair 89 = .ok (.iconst (-1), 1) := by decide +kernel
theorem dX2_greaterOfPair_90 : decode cX2_greaterOfPair 90 = .ok (.ireturn, 1) := by decide +kernel
def fn_X2_greaterOfPair (L : cp_Lay) (q : Nat) (k0 : Nat) (x1 : Int32) (D : cp_Dt) : Option (Int32 × cp_Dt) :=
  (cp_gR L k0 2 0).bind fun r1 =>
  (cp_gR L r1 4 4).bind fun r2 =>
  (cp_aR L r2 x1).bind fun r3 =>
  (cp_gI L D r3 1 3).bind fun v4 =>
  if v4 = 0 then (some ((-1 : Int32), D))
  else ((cp_gI L D r3 1 4).bind fun v6 =>
  if v6 = 0 then (some ((-1 : Int32), D))
  else ((cp_gR L k0 2 0).bind fun r8 =>
  (cp_gR L r8 4 3).bind fun r9 =>
  (cp_gR L k0 2 0).bind fun r10 =>
  (cp_fl L r10 4).bind fun f11 =>
  (fn_X4_aheadOf L q r10 r3 D).bind fun y12 =>
  (cp_aI L y12.2 0 r9 y12.1).bind fun v13 =>
  if x1 < v13 then ((cp_gR L k0 2 0).bind fun r15 =>
  (cp_gR L r15 4 4).bind fun r16 =>
  (cp_aR L r16 v13).bind fun r17 =>
  (cp_gI L y12.2 r17 1 4).bind fun v18 =>
  if v18 = 0 then (some ((-1 : Int32), y12.2))
  else ((cp_gR L k0 2 0).bind fun r20 =>
  (cp_fl L r20 4).bind fun f21 =>
  (fn_X4_aheadOf L q r20 r17 y12.2).bind fun y22 =>
  (cp_gI L y22.2 r3 1 5).bind fun v23 =>
  if y22.1 = v23 then (some (v13, y22.2))
  else (some ((-1 : Int32), y22.2))))
  else (some ((-1 : Int32), y12.2))))
set_option maxHeartbeats 4000000 in
set_option maxRecDepth 100000 in
theorem ct_X2_greaterOfPair (l : Launch) (G : va_G) (L : cp_Lay) (hJ : cp_J L) (q : Nat) (k0 : Nat) (x1 : Int32) (D : cp_Dt) (res : Int32 × cp_Dt) (hF : fn_X2_greaterOfPair L q k0 x1 D = some res) : cp_Met l G yX2_greaterOfPair wsX2_greaterOfPair ({ frames := 1, cells := 0, slots := 0, locals := 21 }) L ([.ref (L.2.1 k0), .int x1] : List Value) D res.2 (some (.int res.1)) := by
  refine Met.ofW (cc := cX2_greaterOfPair) (maxL := 5) (ret := (some .int)) (by decide) rfl ?_
  intro p e s m args below meth c s₁ B hml hv
  obtain ⟨rfl, hP, hK, hN, hZ⟩ := hv
  have hx := B.exec
  have hb := B.bytes
  have hr := B.returns
  have hts := atoms_spec (ws := wsX2_greaterOfPair) B.pre
  have hown : s.vm.findClass "CreaturePond$Breeding" = some m.cls := findClass_of_methodNamed B.named
  have hlocks := B.notSynchronized
  have hS : va_S (cp_A L) s.heap s.heap [] := va_S.rf
  have htT : ∀ w ∈ cp_T, w.before ([.ref (L.2.1 k0), .int x1] : List Value).toArray s = true := fun w h => hts w (List.mem_cons_of_mem _ h)
  have hl := lv_entry (([.ref (L.2.1 k0), .int x1] : List Value)) (n := 5) (Nat.le_of_ble_eq_true rfl)
  rw [lg_entry_eq]
  generalize (lg_sl (([.ref (L.2.1 k0), .int x1] : List Value)) ++ List.replicate (5 - (lg_sl (([.ref (L.2.1 k0), .int x1] : List Value))).length) Slot.unset).toArray = ls at hl ⊢
  have hl : lv_has ls 5 [(0, .ref (L.2.1 k0)), (1, .int x1)] := hl
  unfold fn_X2_greaterOfPair at hF
  refine lv_aload_n hx hb dX2_greaterOfPair_0 rfl (lv_at hl 0 rfl) ?_
  obtain ⟨r1, er1, hF⟩ := cp_bind hF
  refine cp_getR (T := TX2) (N := 1) (ci := 2) (j := 0) hx hb htT hinX2 hown hK hP rfl (by decide) rfl (htT _ tw_133) er1 dX2_greaterOfPair_1 ?_
  obtain ⟨r2, er2, hF⟩ := cp_bind hF
  refine cp_getRN (T := TX4) (N := 12) (ci := 4) (j := 4) hx hb htT hinX4 hown hK hP rfl (by decide) rfl (hN _ (List.mem_of_getElem? (i := 44) rfl)) er2 dX2_greaterOfPair_4 ?_
  refine lv_iload_n hx hb dX2_greaterOfPair_7 rfl (lv_at hl 1 rfl) ?_
  obtain ⟨r3, er3, hF⟩ := cp_bind hF
  refine cp_aald hx hb hK hP er3 dX2_greaterOfPair_8 ?_
  refine lv_astore_n (lv' := [(2, .ref (L.2.1 r3)), (0, .ref (L.2.1 k0)), (1, .int x1)]) hx hb dX2_greaterOfPair_9 rfl hl (by decide) rfl (fun ls hl => ?_)
  refine lv_aload_n hx hb dX2_greaterOfPair_10 rfl (lv_at hl 0 rfl) ?_
  obtain ⟨v4, ev4, hF⟩ := cp_bind hF
  refine cp_getIN (T := TX1) (N := 14) (ci := 1) (j := 3) hx hb htT hinX1 hown hK hP rfl (by decide) rfl (hN _ (List.mem_of_getElem? (i := 12) rfl)) ev4 dX2_greaterOfPair_11 ?_
  refine lv_if_eq (tgt := 24) hx hb dX2_greaterOfPair_14 (by decide) (fun hc5 => ?_) (fun hc5 => ?_)
  · rw [if_pos hc5] at hF
    refine lv_iconst (v := (-1 : Int32)) hx hb dX2_greaterOfPair_24 (by decide) ?_
    exact cp_iret hx hb hr hlocks hF hP hS dX2_greaterOfPair_25
  · rw [if_neg hc5] at hF
    refine lv_aload_n hx hb dX2_greaterOfPair_17 rfl (lv_at hl 0 rfl) ?_
    obtain ⟨v6, ev6, hF⟩ := cp_bind hF
    refine cp_getIN (T := TX1) (N := 14) (ci := 1) (j := 4) hx hb htT hinX1 hown hK hP rfl (by decide) rfl (hN _ (List.mem_of_getElem? (i := 15) rfl)) ev6 dX2_greaterOfPair_18 ?_
    refine lv_if_ne (tgt := 26) hx hb dX2_greaterOfPair_21 (by decide) (fun hc7 => ?_) (fun hc7 => ?_)
    · rw [if_neg hc7] at hF
      refine lv_aload_n hx hb dX2_greaterOfPair_26 rfl (lv_at hl 1 rfl) ?_
      obtain ⟨r8, er8, hF⟩ := cp_bind hF
      refine cp_getR (T := TX2) (N := 1) (ci := 2) (j := 0) hx hb htT hinX2 hown hK hP rfl (by decide) rfl (htT _ tw_133) er8 dX2_greaterOfPair_27 ?_
      obtain ⟨r9, er9, hF⟩ := cp_bind hF
      refine cp_getRN (T := TX4) (N := 12) (ci := 4) (j := 3) hx hb htT hinX4 hown hK hP rfl (by decide) rfl (hN _ (List.mem_of_getElem? (i := 40) rfl)) er9 dX2_greaterOfPair_30 ?_
      refine lv_aload_n hx hb dX2_greaterOfPair_33 rfl (lv_at hl 1 rfl) ?_
      obtain ⟨r10, er10, hF⟩ := cp_bind hF
      refine cp_getR (T := TX2) (N := 1) (ci := 2) (j := 0) hx hb htT hinX2 hown hK hP rfl (by decide) rfl (htT _ tw_133) er10 dX2_greaterOfPair_34 ?_
      refine lv_aload_n hx hb dX2_greaterOfPair_37 rfl (lv_at hl 0 rfl) ?_
      obtain ⟨f11, ef11, hF⟩ := cp_bind hF
      obtain ⟨y12, ey12, hF⟩ := cp_bind hF
      refine cp_call (st1 := [.int y12.1, .ref (L.2.1 r9)]) (va_runVN (As := [.ref (L.2.1 r3)]) (rest := [.ref (L.2.1 r9)]) ⟨hx, hb, hml, hown, htT⟩ (ct_X4_aheadOf l G L hJ q r10 r3 D y12 ey12) ⟨va_cnB 1 htT gdX4_aheadOf rfl rfl rfl (hN _ (List.mem_of_getElem? (i := 77) rfl)) (htT _ tw_4) hdX4_aheadOf ⟨Nat.le_of_ble_eq_true rfl, Nat.le_of_ble_eq_true rfl⟩, (htT _ tw_284), (htT _ tw_551)⟩ ⟨cp_blind, cp_recv hK hP rfl ef11, cp_pre hP hK hN hZ hS⟩ rfl rfl hl.1 rfl (lv_room (Nat.le_of_ble_eq_true rfl)) dX2_greaterOfPair_38 ⟨Nat.zero_le _, Nat.zero_le _⟩) hS (fun H locs hP hS => ?_)
      obtain ⟨v13, ev13, hF⟩ := cp_bind hF
      refine cp_iald hx hb hK hP ev13 dX2_greaterOfPair_41 ?_
      refine lv_istore_n (lv' := [(3, .int v13), (2, .ref (L.2.1 r3)), (0, .ref (L.2.1 k0)), (1, .int x1)]) hx hb dX2_greaterOfPair_42 rfl hl (by decide) rfl (fun ls hl => ?_)
      refine lv_iload_n hx hb dX2_greaterOfPair_43 rfl (lv_at hl 0 rfl) ?_
      refine lv_iload_n hx hb dX2_greaterOfPair_44 rfl (lv_at hl 3 rfl) ?_
      refine lv_icmp_gt (tgt := 50) hx hb dX2_greaterOfPair_45 (by decide) (fun hc14 => ?_) (fun hc14 => ?_)
      · rw [if_pos hc14] at hF
        refine lv_aload_n hx hb dX2_greaterOfPair_50 rfl (lv_at hl 2 rfl) ?_
        obtain ⟨r15, er15, hF⟩ := cp_bind hF
        refine cp_getR (T := TX2) (N := 1) (ci := 2) (j := 0) hx hb htT hinX2 hown hK hP rfl (by decide) rfl (htT _ tw_133) er15 dX2_greaterOfPair_51 ?_
        obtain ⟨r16, er16, hF⟩ := cp_bind hF
        refine cp_getRN (T := TX4) (N := 12) (ci := 4) (j := 4) hx hb htT hinX4 hown hK hP rfl (by decide) rfl (hN _ (List.mem_of_getElem? (i := 44) rfl)) er16 dX2_greaterOfPair_54 ?_
        refine lv_iload_n hx hb dX2_greaterOfPair_57 rfl (lv_at hl 0 rfl) ?_
        obtain ⟨r17, er17, hF⟩ := cp_bind hF
        refine cp_aald hx hb hK hP er17 dX2_greaterOfPair_58 ?_
        refine lv_astore (lv' := [(4, .ref (L.2.1 r17)), (3, .int v13), (2, .ref (L.2.1 r3)), (0, .ref (L.2.1 k0)), (1, .int x1)]) hx hb dX2_greaterOfPair_59 hl (by decide) rfl (fun ls hl => ?_)
        refine lv_aload hx hb dX2_greaterOfPair_61 (lv_at hl 0 rfl) ?_
        obtain ⟨v18, ev18, hF⟩ := cp_bind hF
        refine cp_getIN (T := TX1) (N := 14) (ci := 1) (j := 4) hx hb htT hinX1 hown hK hP rfl (by decide) rfl (hN _ (List.mem_of_getElem? (i := 15) rfl)) ev18 dX2_greaterOfPair_63 ?_
        refine lv_if_eq (tgt := 89) hx hb dX2_greaterOfPair_66 (by decide) (fun hc19 => ?_) (fun hc19 => ?_)
        · rw [if_pos hc19] at hF
          refine lv_iconst (v := (-1 : Int32)) hx hb dX2_greaterOfPair_89 (by decide) ?_
          exact cp_iret hx hb hr hlocks hF hP hS dX2_greaterOfPair_90
        · rw [if_neg hc19] at hF
          refine lv_aload_n hx hb dX2_greaterOfPair_69 rfl (lv_at hl 3 rfl) ?_
          obtain ⟨r20, er20, hF⟩ := cp_bind hF
          refine cp_getR (T := TX2) (N := 1) (ci := 2) (j := 0) hx hb htT hinX2 hown hK hP rfl (by decide) rfl (htT _ tw_133) er20 dX2_greaterOfPair_70 ?_
          refine lv_aload hx hb dX2_greaterOfPair_73 (lv_at hl 0 rfl) ?_
          obtain ⟨f21, ef21, hF⟩ := cp_bind hF
          obtain ⟨y22, ey22, hF⟩ := cp_bind hF
          refine cp_call (st1 := [.int y22.1]) (va_runVN (As := [.ref (L.2.1 r17)]) (rest := []) ⟨hx, hb, hml, hown, htT⟩ (ct_X4_aheadOf l G L hJ q r20 r17 y12.2 y22 ey22) ⟨va_cnB 1 htT gdX4_aheadOf rfl rfl rfl (hN _ (List.mem_of_getElem? (i := 77) rfl)) (htT _ tw_4) hdX4_aheadOf ⟨Nat.le_of_ble_eq_true rfl, Nat.le_of_ble_eq_true rfl⟩, (htT _ tw_284), (htT _ tw_551)⟩ ⟨cp_blind, cp_recv hK hP rfl ef21, cp_pre hP hK hN hZ hS⟩ rfl rfl hl.1 rfl (lv_room (Nat.le_of_ble_eq_true rfl)) dX2_greaterOfPair_75 ⟨Nat.zero_le _, Nat.zero_le _⟩) hS (fun H locs hP hS => ?_)
          refine lv_aload_n hx hb dX2_greaterOfPair_78 rfl (lv_at hl 2 rfl) ?_
          obtain ⟨v23, ev23, hF⟩ := cp_bind hF
          refine cp_getIN (T := TX1) (N := 14) (ci := 1) (j := 5) hx hb htT hinX1 hown hK hP rfl (by decide) rfl (hN _ (List.mem_of_getElem? (i := 17) rfl)) ev23 dX2_greaterOfPair_79 ?_
          refine lv_icmp_ne (tgt := 89) hx hb dX2_greaterOfPair_82 (by decide) (fun hc24 => ?_) (fun hc24 => ?_)
          · rw [if_neg hc24] at hF
            refine lv_iconst (v := (-1 : Int32)) hx hb dX2_greaterOfPair_89 (by decide) ?_
            exact cp_iret hx hb hr hlocks hF hP hS dX2_greaterOfPair_90
          · rw [if_pos hc24] at hF
            refine lv_iload_n hx hb dX2_greaterOfPair_85 rfl (lv_at hl 1 rfl) ?_
            refine lv_goto (tgt := 90) hx hb dX2_greaterOfPair_86 (by decide) ?_
            exact cp_iret hx hb hr hlocks hF hP hS dX2_greaterOfPair_90
      · rw [if_neg hc14] at hF
        refine lv_iconst (v := (-1 : Int32)) hx hb dX2_greaterOfPair_48 (by decide) ?_
        exact cp_iret hx hb hr hlocks hF hP hS dX2_greaterOfPair_49
    · rw [if_pos hc7] at hF
      refine lv_iconst (v := (-1 : Int32)) hx hb dX2_greaterOfPair_24 (by decide) ?_
      exact cp_iret hx hb hr hlocks hF hP hS dX2_greaterOfPair_25
end
section
theorem dX2_firstFreeAround_0 : decode cX2_firstFreeAround 0 = .ok (.iconst 0, 1) := by decide +kernel
theorem dX2_firstFreeAround_1 : decode cX2_firstFreeAround 1 = .ok (.istore_n 2, 1) := by decide +kernel
theorem dX2_firstFreeAround_2 : decode cX2_firstFreeAround 2 = .ok (.iload_n 2, 1) := by decide +kernel
theorem dX2_firstFreeAround_3 : decode cX2_firstFreeAround 3 = .ok (.iconst 4, 1) := by decide +kernel
theorem dX2_firstFreeAround_4 : decode cX2_firstFreeAround 4 = .ok (.if_icmp .ge 37, 3) := by decide +kernel
theorem dX2_firstFreeAround_7 : decode cX2_firstFreeAround 7 = .ok (.aload_n 0, 1) := by decide +kernel
theorem dX2_firstFreeAround_8 : decode cX2_firstFreeAround 8 = .ok (.getfield 9, 3) := by decide +kernel
theorem dX2_firstFreeAround_11 : decode cX2_firstFreeAround 11 = .ok (.getfield 96, 3) := by decide +kernel
theorem dX2_firstFreeAround_14 : decode cX2_firstFreeAround 14 = .ok (.iload_n 1, 1) := by decide +kernel
theorem dX2_firstFreeAround_15 : decode cX2_firstFreeAround 15 = .ok (.iload_n 2, 1) := by decide +kernel
theorem dX2_firstFreeAround_16 : decode cX2_firstFreeAround 16 = .ok (.invokevirtual 100, 3) := by decide +kernel
theorem dX2_firstFreeAround_19 : decode cX2_firstFreeAround 19 = .ok (.istore_n 3, 1) := by decide +kernel
theorem dX2_firstFreeAround_20 : decode cX2_firstFreeAround 20 = .ok (.aload_n 0, 1) := by decide +kernel
theorem dX2_firstFreeAround_21 : decode cX2_firstFreeAround 21 = .ok (.getfield 9, 3) := by decide +kernel
theorem dX2_firstFreeAround_24 : decode cX2_firstFreeAround 24 = .ok (.getfield 38, 3) := by decide +kernel
theorem dX2_firstFreeAround_27 : decode cX2_firstFreeAround 27 = .ok (.iload_n 3, 1) := by decide +kernel
theorem dX2_firstFreeAround_28 : decode cX2_firstFreeAround 28 = .ok (.iaload, 1) := by decide +kernel
theorem dX2_firstFreeAround_29 : decode cX2_firstFreeAround 29 = .ok (.iconst (-1), 1) := by decide +kernel
theorem dX2_firstFreeAround_30 : decode cX2_firstFreeAround 30 = .ok (.if_icmp .ne 5, 3) := by decide +kernel
theorem dX2_firstFreeAround_33 : decode cX2_firstFreeAround 33 = .ok (.iload_n 3, 1) := by decide +kernel
theorem dX2_firstFreeAround_34 : decode cX2_firstFreeAround 34 = .ok (.ireturn, 1) := by decide +kernel
theorem dX2_firstFreeAround_35 : decode cX2_firstFreeAround 35 = .ok (.iinc 2 1, 3) := by decide +kernel
theorem dX2_firstFreeAround_38 : decode cX2_firstFreeAround 38 = .ok (.goto (-36), 3) := by decide +kernel
theorem dX2_firstFreeAround_41 : decode cX2_firstFreeAround 41 = .ok (.iconst (-1), 1) := by decide +kernel
theorem dX2_firstFreeAround_42 : decode cX2_firstFreeAround 42 = .ok (.ireturn, 1) := by decide +kernel
def fn_X2_firstFreeAround_L2 (L : cp_Lay) (q : Nat) : Nat → Nat → Int32 → Int32 → cp_Dt → Option (Int32 × cp_Dt)
  | 0, _, _, _, _ => none
  | n + 1, a0, i1, i2, D =>
    if (4 : Int32) ≤ i2 then (some ((-1 : Int32), D))
    else ((cp_gR L a0 2 0).bind fun r2 =>
    (cp_gR L r2 4 0).bind fun r3 =>
    (cp_fl L r3 5).bind fun f4 =>
    (fn_X5_nextTo L q r3 i1 i2 D).bind fun y5 =>
    (cp_gR L a0 2 0).bind fun r6 =>
    (cp_gR L r6 4 3).bind fun r7 =>
    (cp_aI L y5.2 0 r7 y5.1).bind fun v8 =>
    if v8 = (-1 : Int32) then (some (y5.1, y5.2))
    else (fn_X2_firstFreeAround_L2 L q n a0 i1 (i2 + 1) y5.2))
def fn_X2_firstFreeAround (L : cp_Lay) (q : Nat) (k0 : Nat) (x1 : Int32) (D : cp_Dt) : Option (Int32 × cp_Dt) :=
  fn_X2_firstFreeAround_L2 L q q k0 x1 (0 : Int32) D
set_option maxHeartbeats 4000000 in
set_option maxRecDepth 100000 in
theorem ct_X2_firstFreeAround (l : Launch) (G : va_G) (L : cp_Lay) (hJ : cp_J L) (q : Nat) (k0 : Nat) (x1 : Int32) (D : cp_Dt) (res : Int32 × cp_Dt) (hF : fn_X2_firstFreeAround L q k0 x1 D = some res) : cp_Met l G yX2_firstFreeAround wsX2_firstFreeAround ({ frames := 1, cells := 0, slots := 0, locals := 22 }) L ([.ref (L.2.1 k0), .int x1] : List Value) D res.2 (some (.int res.1)) := by
  refine Met.ofW (cc := cX2_firstFreeAround) (maxL := 4) (ret := (some .int)) (by decide) rfl ?_
  intro p e s m args below meth c s₁ B hml hv
  obtain ⟨rfl, hP, hK, hN, hZ⟩ := hv
  have hx := B.exec
  have hb := B.bytes
  have hr := B.returns
  have hts := atoms_spec (ws := wsX2_firstFreeAround) B.pre
  have hown : s.vm.findClass "CreaturePond$Breeding" = some m.cls := findClass_of_methodNamed B.named
  have hlocks := B.notSynchronized
  have hS : va_S (cp_A L) s.heap s.heap [] := va_S.rf
  have htT : ∀ w ∈ cp_T, w.before ([.ref (L.2.1 k0), .int x1] : List Value).toArray s = true := fun w h => hts w (List.mem_cons_of_mem _ h)
  have hl := lv_entry (([.ref (L.2.1 k0), .int x1] : List Value)) (n := 4) (Nat.le_of_ble_eq_true rfl)
  rw [lg_entry_eq]
  generalize (lg_sl (([.ref (L.2.1 k0), .int x1] : List Value)) ++ List.replicate (4 - (lg_sl (([.ref (L.2.1 k0), .int x1] : List Value))).length) Slot.unset).toArray = ls at hl ⊢
  have hl : lv_has ls 4 [(0, .ref (L.2.1 k0)), (1, .int x1)] := hl
  have hL2 : ∀ (n : Nat) (a0 : Nat) (i1 : Int32) (i2 : Int32) (D : cp_Dt) (H : Heap) (locs : List Loc) (ls : Array Slot), fn_X2_firstFreeAround_L2 L q n a0 i1 i2 D = some res → va_P G vwCl (cp_ws L D) H → va_S (cp_A L) s.heap H locs → lv_has ls 4 [(0, .ref (L.2.1 a0)), (1, .int i1), (2, .int i2)] → W p l e (headSpec wsX2_firstFreeAround ({ frames := 1, cells := 0, slots := 0, locals := 22 })).room s m ([.ref (L.2.1 k0), .int x1] : List Value).toArray below meth c H locs 0 0 (MQ below (cp_Q G L res.2 (some (.int res.1))) ([.ref (L.2.1 k0), .int x1] : List Value).toArray s 0 0 (cp_A L)) (F0 m 2 ls []) := by
    intro n
    induction n with
    | zero =>
      intro a0 i1 i2 D H locs ls hF
      cases hF
    | succ n ih =>
      intro a0 i1 i2 D H locs ls hF hP hS hl
      unfold fn_X2_firstFreeAround_L2 at hF
      refine lv_iload_n hx hb dX2_firstFreeAround_2 rfl (lv_at hl 2 rfl) ?_
      refine lv_iconst (v := (4 : Int32)) hx hb dX2_firstFreeAround_3 (by decide) ?_
      refine lv_icmp_ge (tgt := 41) hx hb dX2_firstFreeAround_4 (by decide) (fun hc1 => ?_) (fun hc1 => ?_)
      · rw [if_pos hc1] at hF
        refine lv_iconst (v := (-1 : Int32)) hx hb dX2_firstFreeAround_41 (by decide) ?_
        exact cp_iret hx hb hr hlocks hF hP hS dX2_firstFreeAround_42
      · rw [if_neg hc1] at hF
        refine lv_aload_n hx hb dX2_firstFreeAround_7 rfl (lv_at hl 0 rfl) ?_
        obtain ⟨r2, er2, hF⟩ := cp_bind hF
        refine cp_getR (T := TX2) (N := 1) (ci := 2) (j := 0) hx hb htT hinX2 hown hK hP rfl (by decide) rfl (htT _ tw_133) er2 dX2_firstFreeAround_8 ?_
        obtain ⟨r3, er3, hF⟩ := cp_bind hF
        refine cp_getRN (T := TX4) (N := 12) (ci := 4) (j := 0) hx hb htT hinX4 hown hK hP rfl (by decide) rfl (hN _ (List.mem_of_getElem? (i := 35) rfl)) er3 dX2_firstFreeAround_11 ?_
        refine lv_iload_n hx hb dX2_firstFreeAround_14 rfl (lv_at hl 1 rfl) ?_
        refine lv_iload_n hx hb dX2_firstFreeAround_15 rfl (lv_at hl 2 rfl) ?_
        obtain ⟨f4, ef4, hF⟩ := cp_bind hF
        obtain ⟨y5, ey5, hF⟩ := cp_bind hF
        refine cp_call (st1 := [.int y5.1]) (va_runVN (As := [.int i1, .int i2]) (rest := []) ⟨hx, hb, hml, hown, htT⟩ (ct_X5_nextTo l G L hJ q r3 i1 i2 D y5 ey5) ⟨va_cnB 2 htT gdX5_nextTo rfl rfl rfl (hN _ (List.mem_of_getElem? (i := 78) rfl)) (htT _ tw_2) hdX5_nextTo ⟨Nat.le_of_ble_eq_true rfl, Nat.le_of_ble_eq_true rfl⟩, (htT _ tw_319), (htT _ tw_563)⟩ ⟨cp_blind, cp_recv hK hP rfl ef4, cp_pre hP hK hN hZ hS⟩ rfl rfl hl.1 rfl (lv_room (Nat.le_of_ble_eq_true rfl)) dX2_firstFreeAround_16 ⟨Nat.zero_le _, Nat.zero_le _⟩) hS (fun H locs hP hS => ?_)
        refine lv_istore_n (lv' := [(3, .int y5.1), (0, .ref (L.2.1 a0)), (1, .int i1), (2, .int i2)]) hx hb dX2_firstFreeAround_19 rfl hl (by decide) rfl (fun ls hl => ?_)
        refine lv_aload_n hx hb dX2_firstFreeAround_20 rfl (lv_at hl 1 rfl) ?_
        obtain ⟨r6, er6, hF⟩ := cp_bind hF
        refine cp_getR (T := TX2) (N := 1) (ci := 2) (j := 0) hx hb htT hinX2 hown hK hP rfl (by decide) rfl (htT _ tw_133) er6 dX2_firstFreeAround_21 ?_
        obtain ⟨r7, er7, hF⟩ := cp_bind hF
        refine cp_getRN (T := TX4) (N := 12) (ci := 4) (j := 3) hx hb htT hinX4 hown hK hP rfl (by decide) rfl (hN _ (List.mem_of_getElem? (i := 40) rfl)) er7 dX2_firstFreeAround_24 ?_
        refine lv_iload_n hx hb dX2_firstFreeAround_27 rfl (lv_at hl 0 rfl) ?_
        obtain ⟨v8, ev8, hF⟩ := cp_bind hF
        refine cp_iald hx hb hK hP ev8 dX2_firstFreeAround_28 ?_
        refine lv_iconst (v := (-1 : Int32)) hx hb dX2_firstFreeAround_29 (by decide) ?_
        refine lv_icmp_ne (tgt := 35) hx hb dX2_firstFreeAround_30 (by decide) (fun hc9 => ?_) (fun hc9 => ?_)
        · rw [if_neg hc9] at hF
          refine lv_iinc (k := 3) (v := (i2 + 1)) (lv' := [(2, .int (i2 + 1)), (3, .int y5.1), (0, .ref (L.2.1 a0)), (1, .int i1)]) hx hb dX2_firstFreeAround_35 hl rfl (congrArg (fun z => i2 + z) (by decide)) (by decide) rfl (fun ls hl => ?_)
          refine lv_goto (tgt := 2) hx hb dX2_firstFreeAround_38 (by decide) ?_
          exact ih a0 i1 (i2 + 1) y5.2 _ _ _ hF hP hS (lv_sub hl [2, 3, 0] rfl)
        · rw [if_pos hc9] at hF
          refine lv_iload_n hx hb dX2_firstFreeAround_33 rfl (lv_at hl 0 rfl) ?_
          exact cp_iret hx hb hr hlocks hF hP hS dX2_firstFreeAround_34
  unfold fn_X2_firstFreeAround at hF
  refine lv_iconst (v := (0 : Int32)) hx hb dX2_firstFreeAround_0 (by decide) ?_
  refine lv_istore_n (lv' := [(2, .int (0 : Int32)), (0, .ref (L.2.1 k0)), (1, .int x1)]) hx hb dX2_firstFreeAround_1 rfl hl (by decide) rfl (fun ls hl => ?_)
  exact hL2 q k0 x1 (0 : Int32) D _ _ _ hF hP hS (lv_sub hl [1, 2, 0] rfl)
theorem dX2_payAndHalve_0 : decode cX2_payAndHalve 0 = .ok (.aload_n 0, 1) := by decide +kernel
theorem dX2_payAndHalve_1 : decode cX2_payAndHalve 1 = .ok (.getfield 9, 3) := by decide +kernel
theorem dX2_payAndHalve_4 : decode cX2_payAndHalve 4 = .ok (.aload_n 1, 1) := by decide +kernel
theorem dX2_payAndHalve_5 : decode cX2_payAndHalve 5 = .ok (.bipush 10, 2) := by decide +kernel
theorem dX2_payAndHalve_7 : decode cX2_payAndHalve 7 = .ok (.invokevirtual 105, 3) := by decide +kernel
theorem dX2_payAndHalve_10 : decode cX2_payAndHalve 10 = .ok (.aload_n 1, 1) := by decide +kernel
theorem dX2_payAndHalve_11 : decode cX2_payAndHalve 11 = .ok (.getfield 57, 3) := by decide +kernel
theorem dX2_payAndHalve_14 : decode cX2_payAndHalve 14 = .ok (.iconst 2, 1) := by decide +kernel
theorem dX2_payAndHalve_15 : decode cX2_payAndHalve 15 = .ok (.idiv, 1) := by decide +kernel
theorem dX2_payAndHalve_16 : decode cX2_payAndHalve 16 = .ok (.istore_n 2, 1) := by decide +kernel
theorem dX2_payAndHalve_17 : decode cX2_payAndHalve 17 = .ok (.aload_n 1, 1) := by decide +kernel
theorem dX2_payAndHalve_18 : decode cX2_payAndHalve 18 = .ok (.dup, 1) := by decide +kernel
theorem dX2_payAndHalve_19 : decode cX2_payAndHalve 19 = .ok (.getfield 57, 3) := by decide +kernel
theorem dX2_payAndHalve_22 : decode cX2_payAndHalve 22 = .ok (.iload_n 2, 1) := by decide +kernel
theorem dX2_payAndHalve_23 : decode cX2_payAndHalve 23 = .ok (.isub, 1) := by decide +kernel
theorem dX2_payAndHalve_24 : decode cX2_payAndHalve 24 = .ok (.putfield 57, 3) := by decide +kernel
theorem dX2_payAndHalve_27 : decode cX2_payAndHalve 27 = .ok (.iload_n 2, 1) := by decide +kernel
theorem dX2_payAndHalve_28 : decode cX2_payAndHalve 28 = .ok (.ireturn, 1) := by decide +kernel
def fn_X2_payAndHalve (L : cp_Lay) (q : Nat) (k0 : Nat) (k1 : Nat) (D : cp_Dt) : Option (Int32 × cp_Dt) :=
  (cp_gR L k0 2 0).bind fun r1 =>
  (cp_fl L r1 4).bind fun f2 =>
  (fn_X4_pay L q r1 k1 (10 : Int32) D).bind fun D3 =>
  (cp_gI L D3 k1 1 7).bind fun v4 =>
  (cp_gI L D3 k1 1 7).bind fun v5 =>
  (cp_pI L D3 k1 1 7 (v5 - (v4 / (2 : Int32)))).bind fun D6 =>
  some ((v4 / (2 : Int32)), D6)
set_option maxHeartbeats 4000000 in
set_option maxRecDepth 100000 in
theorem ct_X2_payAndHalve (l : Launch) (G : va_G) (L : cp_Lay) (hJ : cp_J L) (q : Nat) (k0 : Nat) (k1 : Nat) (D : cp_Dt) (res : Int32 × cp_Dt) (hF : fn_X2_payAndHalve L q k0 k1 D = some res) : cp_Met l G yX2_payAndHalve wsX2_payAndHalve ({ frames := 2, cells := 0, slots := 0, locals := 44 }) L ([.ref (L.2.1 k0), .ref (L.2.1 k1)] : List Value) D res.2 (some (.int res.1)) := by
  refine Met.ofW (cc := cX2_payAndHalve) (maxL := 3) (ret := (some .int)) (by decide) rfl ?_
  intro p e s m args below meth c s₁ B hml hv
  obtain ⟨rfl, hP, hK, hN, hZ⟩ := hv
  have hx := B.exec
  have hb := B.bytes
  have hr := B.returns
  have hts := atoms_spec (ws := wsX2_payAndHalve) B.pre
  have hown : s.vm.findClass "CreaturePond$Breeding" = some m.cls := findClass_of_methodNamed B.named
  have hlocks := B.notSynchronized
  have hS : va_S (cp_A L) s.heap s.heap [] := va_S.rf
  have htT : ∀ w ∈ cp_T, w.before ([.ref (L.2.1 k0), .ref (L.2.1 k1)] : List Value).toArray s = true := fun w h => hts w (List.mem_cons_of_mem _ h)
  have hl := lv_entry (([.ref (L.2.1 k0), .ref (L.2.1 k1)] : List Value)) (n := 3) (Nat.le_of_ble_eq_true rfl)
  rw [lg_entry_eq]
  generalize (lg_sl (([.ref (L.2.1 k0), .ref (L.2.1 k1)] : List Value)) ++ List.replicate (3 - (lg_sl (([.ref (L.2.1 k0), .ref (L.2.1 k1)] : List Value))).length) Slot.unset).toArray = ls at hl ⊢
  have hl : lv_has ls 3 [(0, .ref (L.2.1 k0)), (1, .ref (L.2.1 k1))] := hl
  unfold fn_X2_payAndHalve at hF
  refine lv_aload_n hx hb dX2_payAndHalve_0 rfl (lv_at hl 0 rfl) ?_
  obtain ⟨r1, er1, hF⟩ := cp_bind hF
  refine cp_getR (T := TX2) (N := 1) (ci := 2) (j := 0) hx hb htT hinX2 hown hK hP rfl (by decide) rfl (htT _ tw_133) er1 dX2_payAndHalve_1 ?_
  refine lv_aload_n hx hb dX2_payAndHalve_4 rfl (lv_at hl 1 rfl) ?_
  refine lv_bipush (v := (10 : Int32)) hx hb dX2_payAndHalve_5 (by decide) ?_
  obtain ⟨f2, ef2, hF⟩ := cp_bind hF
  obtain ⟨D3, eD3, hF⟩ := cp_bind hF
  refine cp_call (st1 := []) (va_runVN (As := [.ref (L.2.1 k1), .int (10 : Int32)]) (rest := []) ⟨hx, hb, hml, hown, htT⟩ (ct_X4_pay l G L hJ q r1 k1 (10 : Int32) D D3 eD3) ⟨va_cnB 2 htT gdX4_pay rfl rfl rfl (hN _ (List.mem_of_getElem? (i := 80) rfl)) (htT _ tw_4) hdX4_pay ⟨Nat.le_of_ble_eq_true rfl, Nat.le_of_ble_eq_true rfl⟩, (htT _ tw_266), (htT _ tw_545)⟩ ⟨cp_blind, cp_recv hK hP rfl ef2, cp_pre hP hK hN hZ hS⟩ rfl rfl hl.1 rfl (lv_room (Nat.le_of_ble_eq_true rfl)) dX2_payAndHalve_7 ⟨Nat.zero_le _, Nat.zero_le _⟩) hS (fun H locs hP hS => ?_)
  refine lv_aload_n hx hb dX2_payAndHalve_10 rfl (lv_at hl 1 rfl) ?_
  obtain ⟨v4, ev4, hF⟩ := cp_bind hF
  refine cp_getIN (T := TX1) (N := 14) (ci := 1) (j := 7) hx hb htT hinX1 hown hK hP rfl (by decide) rfl (hN _ (List.mem_of_getElem? (i := 24) rfl)) ev4 dX2_payAndHalve_11 ?_
  refine lv_iconst (v := (2 : Int32)) hx hb dX2_payAndHalve_14 (by decide) ?_
  refine lv_idiv hx hb dX2_payAndHalve_15 (by decide) ?_
  refine lv_istore_n (lv' := [(2, .int (v4 / (2 : Int32))), (0, .ref (L.2.1 k0)), (1, .ref (L.2.1 k1))]) hx hb dX2_payAndHalve_16 rfl hl (by decide) rfl (fun ls hl => ?_)
  refine lv_aload_n hx hb dX2_payAndHalve_17 rfl (lv_at hl 2 rfl) ?_
  refine lv_dup hx hb dX2_payAndHalve_18 rfl ?_
  obtain ⟨v5, ev5, hF⟩ := cp_bind hF
  refine cp_getIN (T := TX1) (N := 14) (ci := 1) (j := 7) hx hb htT hinX1 hown hK hP rfl (by decide) rfl (hN _ (List.mem_of_getElem? (i := 24) rfl)) ev5 dX2_payAndHalve_19 ?_
  refine lv_iload_n hx hb dX2_payAndHalve_22 rfl (lv_at hl 0 rfl) ?_
  refine lv_isub hx hb dX2_payAndHalve_23 ?_
  obtain ⟨D6, eD6, hF⟩ := cp_bind hF
  refine cp_putN (T := TX1) (N := 14) (ci := 1) (j := 7) hx hb htT hinX1 tyX1 tyX1_ok nmX1 hown hK hJ hP hS rfl (by decide) rfl (hN _ (List.mem_of_getElem? (i := 24) rfl)) rfl rfl rfl eD6 dX2_payAndHalve_24 (fun H locs hP hS => ?_)
  refine lv_iload_n hx hb dX2_payAndHalve_27 rfl (lv_at hl 0 rfl) ?_
  exact cp_iret hx hb hr hlocks hF hP hS dX2_payAndHalve_28
theorem dX2_growFrom_0 : decode cX2_growFrom 0 = .ok (.iload 4, 2) := by decide +kernel
theorem dX2_growFrom_2 : decode cX2_growFrom 2 = .ok (.aload_n 2, 1) := by decide +kernel
theorem dX2_growFrom_3 : decode cX2_growFrom 3 = .ok (.getfield 112, 3) := by decide +kernel
theorem dX2_growFrom_6 : decode cX2_growFrom 6 = .ok (.invokestatic 119, 3) := by decide +kernel
theorem dX2_growFrom_9 : decode cX2_growFrom 9 = .ok (.istore 5, 2) := by decide +kernel
theorem dX2_growFrom_11 : decode cX2_growFrom 11 = .ok (.iload_n 3, 1) := by decide +kernel
theorem dX2_growFrom_12 : decode cX2_growFrom 12 = .ok (.istore 6, 2) := by decide +kernel
theorem dX2_growFrom_14 : decode cX2_growFrom 14 = .ok (.iload 6, 2) := by decide +kernel
theorem dX2_growFrom_16 : decode cX2_growFrom 16 = .ok (.iload 5, 2) := by decide +kernel
theorem dX2_growFrom_18 : decode cX2_growFrom 18 = .ok (.if_icmp .ge 20, 3) := by decide +kernel
theorem dX2_growFrom_21 : decode cX2_growFrom 21 = .ok (.aload_n 1, 1) := by decide +kernel
theorem dX2_growFrom_22 : decode cX2_growFrom 22 = .ok (.aload_n 2, 1) := by decide +kernel
theorem dX2_growFrom_23 : decode cX2_growFrom 23 = .ok (.getfield 122, 3) := by decide +kernel
theorem dX2_growFrom_26 : decode cX2_growFrom 26 = .ok (.iload 6, 2) := by decide +kernel
theorem dX2_growFrom_28 : decode cX2_growFrom 28 = .ok (.baload, 1) := by decide +kernel
theorem dX2_growFrom_29 : decode cX2_growFrom 29 = .ok (.invokevirtual 126, 3) := by decide +kernel
theorem dX2_growFrom_32 : decode cX2_growFrom 32 = .ok (.iinc 6 1, 3) := by decide +kernel
theorem dX2_growFrom_35 : decode cX2_growFrom 35 = .ok (.goto (-21), 3) := by decide +kernel
theorem dX2_growFrom_38 : decode cX2_growFrom 38 = .ok (.return_, 1) := by decide +kernel
def fn_X2_growFrom_L14 (L : cp_Lay) (q : Nat) : Nat → Nat → Nat → Nat → Int32 → Int32 → Int32 → Int32 → cp_Dt → Option (cp_Dt)
  | 0, _, _, _, _, _, _, _, _ => none
  | n + 1, a0, a1, a2, i3, i4, i5, i6, D =>
    if i5 ≤ i6 then (some D)
    else ((cp_gR L a2 1 2).bind fun r3 =>
    (cp_aI L D 1 r3 i6).bind fun v4 =>
    (cp_fl L a1 1).bind fun f5 =>
    (fn_X1_grow L q a1 v4 D).bind fun D6 =>
    fn_X2_growFrom_L14 L q n a0 a1 a2 i3 i4 i5 (i6 + 1) D6)
def fn_X2_growFrom (L : cp_Lay) (q : Nat) (k0 : Nat) (k1 : Nat) (k2 : Nat) (x3 : Int32) (x4 : Int32) (D : cp_Dt) : Option (cp_Dt) :=
  (cp_gI L D k2 1 9).bind fun v1 =>
  fn_X2_growFrom_L14 L q q k0 k1 k2 x3 x4 (cp_mn x4 v1) x3 D
set_option maxHeartbeats 4000000 in
set_option maxRecDepth 100000 in
theorem ct_X2_growFrom (l : Launch) (G : va_G) (L : cp_Lay) (hJ : cp_J L) (q : Nat) (k0 : Nat) (k1 : Nat) (k2 : Nat) (x3 : Int32) (x4 : Int32) (D : cp_Dt) (res : cp_Dt) (hF : fn_X2_growFrom L q k0 k1 k2 x3 x4 D = some res) : cp_Met l G yX2_growFrom wsX2_growFrom ({ frames := 1, cells := 0, slots := 0, locals := 21 }) L ([.ref (L.2.1 k0), .ref (L.2.1 k1), .ref (L.2.1 k2), .int x3, .int x4] : List Value) D res none := by
  refine Met.ofW (cc := cX2_growFrom) (maxL := 7) (ret := none) (by decide) rfl ?_
  intro p e s m args below meth c s₁ B hml hv
  obtain ⟨rfl, hP, hK, hN, hZ⟩ := hv
  have hx := B.exec
  have hb := B.bytes
  have hr := B.returns
  have hts := atoms_spec (ws := wsX2_growFrom) B.pre
  have hown : s.vm.findClass "CreaturePond$Breeding" = some m.cls := findClass_of_methodNamed B.named
  have hlocks := B.notSynchronized
  have hS : va_S (cp_A L) s.heap s.heap [] := va_S.rf
  have htT : ∀ w ∈ cp_T, w.before ([.ref (L.2.1 k0), .ref (L.2.1 k1), .ref (L.2.1 k2), .int x3, .int x4] : List Value).toArray s = true := fun w h => hts w (List.mem_cons_of_mem _ h)
  have hl := lv_entry (([.ref (L.2.1 k0), .ref (L.2.1 k1), .ref (L.2.1 k2), .int x3, .int x4] : List Value)) (n := 7) (Nat.le_of_ble_eq_true rfl)
  rw [lg_entry_eq]
  generalize (lg_sl (([.ref (L.2.1 k0), .ref (L.2.1 k1), .ref (L.2.1 k2), .int x3, .int x4] : List Value)) ++ List.replicate (7 - (lg_sl (([.ref (L.2.1 k0), .ref (L.2.1 k1), .ref (L.2.1 k2), .int x3, .int x4] : List Value))).length) Slot.unset).toArray = ls at hl ⊢
  have hl : lv_has ls 7 [(0, .ref (L.2.1 k0)), (1, .ref (L.2.1 k1)), (2, .ref (L.2.1 k2)), (3, .int x3), (4, .int x4)] := hl
  have hL14 : ∀ (n : Nat) (a0 : Nat) (a1 : Nat) (a2 : Nat) (i3 : Int32) (i4 : Int32) (i5 : Int32) (i6 : Int32) (D : cp_Dt) (H : Heap) (locs : List Loc) (ls : Array Slot), fn_X2_growFrom_L14 L q n a0 a1 a2 i3 i4 i5 i6 D = some res → va_P G vwCl (cp_ws L D) H → va_S (cp_A L) s.heap H locs → lv_has ls 7 [(0, .ref (L.2.1 a0)), (1, .ref (L.2.1 a1)), (2, .ref (L.2.1 a2)), (3, .int i3), (4, .int i4), (5, .int i5), (6, .int i6)] → W p l e (headSpec wsX2_growFrom ({ frames := 1, cells := 0, slots := 0, locals := 21 })).room s m ([.ref (L.2.1 k0), .ref (L.2.1 k1), .ref (L.2.1 k2), .int x3, .int x4] : List Value).toArray below meth c H locs 0 0 (MQ below (cp_Q G L res none) ([.ref (L.2.1 k0), .ref (L.2.1 k1), .ref (L.2.1 k2), .int x3, .int x4] : List Value).toArray s 0 0 (cp_A L)) (F0 m 14 ls []) := by
    intro n
    induction n with
    | zero =>
      intro a0 a1 a2 i3 i4 i5 i6 D H locs ls hF
      cases hF
    | succ n ih =>
      intro a0 a1 a2 i3 i4 i5 i6 D H locs ls hF hP hS hl
      unfold fn_X2_growFrom_L14 at hF
      refine lv_iload hx hb dX2_growFrom_14 (lv_at hl 6 rfl) ?_
      refine lv_iload hx hb dX2_growFrom_16 (lv_at hl 5 rfl) ?_
      refine lv_icmp_ge (tgt := 38) hx hb dX2_growFrom_18 (by decide) (fun hc2 => ?_) (fun hc2 => ?_)
      · rw [if_pos hc2] at hF
        exact cp_vret hx hb hr hlocks hF hP hS dX2_growFrom_38
      · rw [if_neg hc2] at hF
        refine lv_aload_n hx hb dX2_growFrom_21 rfl (lv_at hl 1 rfl) ?_
        refine lv_aload_n hx hb dX2_growFrom_22 rfl (lv_at hl 2 rfl) ?_
        obtain ⟨r3, er3, hF⟩ := cp_bind hF
        refine cp_getRN (T := TX1) (N := 14) (ci := 1) (j := 2) hx hb htT hinX1 hown hK hP rfl (by decide) rfl (hN _ (List.mem_of_getElem? (i := 9) rfl)) er3 dX2_growFrom_23 ?_
        refine lv_iload hx hb dX2_growFrom_26 (lv_at hl 6 rfl) ?_
        obtain ⟨v4, ev4, hF⟩ := cp_bind hF
        refine cp_bald hx hb hK hP ev4 dX2_growFrom_28 ?_
        obtain ⟨f5, ef5, hF⟩ := cp_bind hF
        obtain ⟨D6, eD6, hF⟩ := cp_bind hF
        refine cp_call (st1 := []) (va_runVN (As := [.int v4]) (rest := []) ⟨hx, hb, hml, hown, htT⟩ (ct_X1_grow l G L hJ q a1 v4 D D6 eD6) ⟨va_cnB 1 htT gdX1_grow rfl rfl rfl (hN _ (List.mem_of_getElem? (i := 83) rfl)) (htT _ tw_5) hdX1_grow ⟨Nat.le_of_ble_eq_true rfl, Nat.le_of_ble_eq_true rfl⟩, (htT _ tw_251), (htT _ tw_541)⟩ ⟨cp_blind, cp_recv hK hP rfl ef5, cp_pre hP hK hN hZ hS⟩ rfl rfl hl.1 rfl (lv_room (Nat.le_of_ble_eq_true rfl)) dX2_growFrom_29 ⟨Nat.zero_le _, Nat.zero_le _⟩) hS (fun H locs hP hS => ?_)
        refine lv_iinc (k := 6) (v := (i6 + 1)) (lv' := [(6, .int (i6 + 1)), (0, .ref (L.2.1 a0)), (1, .ref (L.2.1 a1)), (2, .ref (L.2.1 a2)), (3, .int i3), (4, .int i4), (5, .int i5)]) hx hb dX2_growFrom_32 hl rfl (congrArg (fun z => i6 + z) (by decide)) (by decide) rfl (fun ls hl => ?_)
        refine lv_goto (tgt := 14) hx hb dX2_growFrom_35 (by decide) ?_
        exact ih a0 a1 a2 i3 i4 i5 (i6 + 1) D6 _ _ _ hF hP hS (lv_sub hl [1, 2, 3, 4, 5, 6, 0] rfl)
  unfold fn_X2_growFrom at hF
  refine lv_iload hx hb dX2_growFrom_0 (lv_at hl 4 rfl) ?_
  refine lv_aload_n hx hb dX2_growFrom_2 rfl (lv_at hl 2 rfl) ?_
  obtain ⟨v1, ev1, hF⟩ := cp_bind hF
  refine cp_getIN (T := TX1) (N := 14) (ci := 1) (j := 9) hx hb htT hinX1 hown hK hP rfl (by decide) rfl (hN _ (List.mem_of_getElem? (i := 30) rfl)) ev1 dX2_growFrom_3 ?_
  refine va_mmin hx hb (by rw [hml]; exact hl.1.symm) hown (htT _ tw_334) (htT _ tw_27) (htT _ tw_3) (htT _ tw_28) (Nat.le_of_ble_eq_true rfl) (Nat.le_of_ble_eq_true rfl) (Nat.zero_le _) (Nat.zero_le _) dX2_growFrom_6 ?_
  refine lv_istore (lv' := [(5, .int (cp_mn x4 v1)), (0, .ref (L.2.1 k0)), (1, .ref (L.2.1 k1)), (2, .ref (L.2.1 k2)), (3, .int x3), (4, .int x4)]) hx hb dX2_growFrom_9 hl (by decide) rfl (fun ls hl => ?_)
  refine lv_iload_n hx hb dX2_growFrom_11 rfl (lv_at hl 4 rfl) ?_
  refine lv_istore (lv' := [(6, .int x3), (5, .int (cp_mn x4 v1)), (0, .ref (L.2.1 k0)), (1, .ref (L.2.1 k1)), (2, .ref (L.2.1 k2)), (3, .int x3), (4, .int x4)]) hx hb dX2_growFrom_12 hl (by decide) rfl (fun ls hl => ?_)
  exact hL14 q k0 k1 k2 x3 x4 (cp_mn x4 v1) x3 D _ _ _ hF hP hS (lv_sub hl [2, 3, 4, 5, 6, 1, 0] rfl)
theorem dX2_changeCode_0 : decode cX2_changeCode 0 = .ok (.aload_n 0, 1) := by decide +kernel
theorem dX2_changeCode_1 : decode cX2_changeCode 1 = .ok (.getfield 9, 3) := by decide +kernel
theorem dX2_changeCode_4 : decode cX2_changeCode 4 = .ok (.invokevirtual 109, 3) := by decide +kernel
theorem dX2_changeCode_7 : decode cX2_changeCode 7 = .ok (.iconst 4, 1) := by decide +kernel
theorem dX2_changeCode_8 : decode cX2_changeCode 8 = .ok (.irem, 1) := by decide +kernel
theorem dX2_changeCode_9 : decode cX2_changeCode 9 = .ok (.ifCond .ne 36, 3) := by decide +kernel
theorem dX2_changeCode_12 : decode cX2_changeCode 12 = .ok (.aload_n 1, 1) := by decide +kernel
theorem dX2_changeCode_13 : decode cX2_changeCode 13 = .ok (.getfield 112, 3) := by decide +kernel
theorem dX2_changeCode_16 : decode cX2_changeCode 16 = .ok (.ifCond .le 29, 3) := by decide +kernel
theorem dX2_changeCode_19 : decode cX2_changeCode 19 = .ok (.aload_n 1, 1) := by decide +kernel
theorem dX2_changeCode_20 : decode cX2_changeCode 20 = .ok (.aload_n 0, 1) := by decide +kernel
theorem dX2_changeCode_21 : decode cX2_changeCode 21 = .ok (.getfield 9, 3) := by decide +kernel
theorem dX2_changeCode_24 : decode cX2_changeCode 24 = .ok (.invokevirtual 109, 3) := by decide +kernel
theorem dX2_changeCode_27 : decode cX2_changeCode 27 = .ok (.invokevirtual 130, 3) := by decide +kernel
theorem dX2_changeCode_30 : decode cX2_changeCode 30 = .ok (.istore_n 2, 1) := by decide +kernel
theorem dX2_changeCode_31 : decode cX2_changeCode 31 = .ok (.aload_n 1, 1) := by decide +kernel
theorem dX2_changeCode_32 : decode cX2_changeCode 32 = .ok (.getfield 122, 3) := by decide +kernel
theorem dX2_changeCode_35 : decode cX2_changeCode 35 = .ok (.iload_n 2, 1) := by decide +kernel
theorem dX2_changeCode_36 : decode cX2_changeCode 36 = .ok (.aload_n 0, 1) := by decide +kernel
theorem dX2_changeCode_37 : decode cX2_changeCode 37 = .ok (.getfield 9, 3) := by decide +kernel
theorem dX2_changeCode_40 : decode cX2_changeCode 40 = .ok (.invokevirtual 109, 3) := by decide +kernel
theorem dX2_changeCode_43 : decode cX2_changeCode 43 = .ok (.i2b, 1) := by decide +kernel
theorem dX2_changeCode_44 : decode cX2_changeCode 44 = .ok (.bastore, 1) := by decide +kernel
theorem dX2_changeCode_45 : decode cX2_changeCode 45 = .ok (.return_, 1) := by decide +kernel
def fn_X2_changeCode (L : cp_Lay) (q : Nat) (k0 : Nat) (k1 : Nat) (D : cp_Dt) : Option (cp_Dt) :=
  (cp_gR L k0 2 0).bind fun r1 =>
  (cp_fl L r1 4).bind fun f2 =>
  (fn_X4_nextNumber L q r1 D).bind fun y3 =>
  if (y3.1 - y3.1 / (4 : Int32) * (4 : Int32)) = 0 then ((cp_gI L y3.2 k1 1 9).bind fun v5 =>
  if v5 ≤ 0 then (some y3.2)
  else ((cp_gR L k0 2 0).bind fun r7 =>
  (cp_fl L r7 4).bind fun f8 =>
  (fn_X4_nextNumber L q r7 y3.2).bind fun y9 =>
  (cp_fl L k1 1).bind fun f10 =>
  (fn_X1_wrapped L q k1 y9.1 y9.2).bind fun y11 =>
  (cp_gR L k1 1 2).bind fun r12 =>
  (cp_gR L k0 2 0).bind fun r13 =>
  (cp_fl L r13 4).bind fun f14 =>
  (fn_X4_nextNumber L q r13 y11.2).bind fun y15 =>
  (cp_aS L y15.2 1 r12 y11.1 y15.1.toInt8.toInt32.toInt8.toInt32).bind fun D16 =>
  some D16))
  else (some y3.2)
set_option maxHeartbeats 4000000 in
set_option maxRecDepth 100000 in
theorem ct_X2_changeCode (l : Launch) (G : va_G) (L : cp_Lay) (hJ : cp_J L) (q : Nat) (k0 : Nat) (k1 : Nat) (D : cp_Dt) (res : cp_Dt) (hF : fn_X2_changeCode L q k0 k1 D = some res) : cp_Met l G yX2_changeCode wsX2_changeCode ({ frames := 1, cells := 0, slots := 0, locals := 21 }) L ([.ref (L.2.1 k0), .ref (L.2.1 k1)] : List Value) D res none := by
  refine Met.ofW (cc := cX2_changeCode) (maxL := 3) (ret := none) (by decide) rfl ?_
  intro p e s m args below meth c s₁ B hml hv
  obtain ⟨rfl, hP, hK, hN, hZ⟩ := hv
  have hx := B.exec
  have hb := B.bytes
  have hr := B.returns
  have hts := atoms_spec (ws := wsX2_changeCode) B.pre
  have hown : s.vm.findClass "CreaturePond$Breeding" = some m.cls := findClass_of_methodNamed B.named
  have hlocks := B.notSynchronized
  have hS : va_S (cp_A L) s.heap s.heap [] := va_S.rf
  have htT : ∀ w ∈ cp_T, w.before ([.ref (L.2.1 k0), .ref (L.2.1 k1)] : List Value).toArray s = true := fun w h => hts w (List.mem_cons_of_mem _ h)
  have hl := lv_entry (([.ref (L.2.1 k0), .ref (L.2.1 k1)] : List Value)) (n := 3) (Nat.le_of_ble_eq_true rfl)
  rw [lg_entry_eq]
  generalize (lg_sl (([.ref (L.2.1 k0), .ref (L.2.1 k1)] : List Value)) ++ List.replicate (3 - (lg_sl (([.ref (L.2.1 k0), .ref (L.2.1 k1)] : List Value))).length) Slot.unset).toArray = ls at hl ⊢
  have hl : lv_has ls 3 [(0, .ref (L.2.1 k0)), (1, .ref (L.2.1 k1))] := hl
  unfold fn_X2_changeCode at hF
  refine lv_aload_n hx hb dX2_changeCode_0 rfl (lv_at hl 0 rfl) ?_
  obtain ⟨r1, er1, hF⟩ := cp_bind hF
  refine cp_getR (T := TX2) (N := 1) (ci := 2) (j := 0) hx hb htT hinX2 hown hK hP rfl (by decide) rfl (htT _ tw_133) er1 dX2_changeCode_1 ?_
  obtain ⟨f2, ef2, hF⟩ := cp_bind hF
  obtain ⟨y3, ey3, hF⟩ := cp_bind hF
  refine cp_call (st1 := [.int y3.1]) (va_runVN (As := []) (rest := []) ⟨hx, hb, hml, hown, htT⟩ (ct_X4_nextNumber l G L hJ q r1 D y3 ey3) ⟨va_cnB 0 htT gdX4_nextNumber rfl rfl rfl (hN _ (List.mem_of_getElem? (i := 82) rfl)) (htT _ tw_4) hdX4_nextNumber ⟨Nat.le_of_ble_eq_true rfl, Nat.le_of_ble_eq_true rfl⟩, (htT _ tw_328), (htT _ tw_566)⟩ ⟨cp_blind, cp_recv hK hP rfl ef2, cp_pre hP hK hN hZ hS⟩ rfl rfl hl.1 rfl (lv_room (Nat.le_of_ble_eq_true rfl)) dX2_changeCode_4 ⟨Nat.zero_le _, Nat.zero_le _⟩) hS (fun H locs hP hS => ?_)
  refine lv_iconst (v := (4 : Int32)) hx hb dX2_changeCode_7 (by decide) ?_
  refine lv_irem hx hb dX2_changeCode_8 (by decide) ?_
  refine lv_if_ne (tgt := 45) hx hb dX2_changeCode_9 (by decide) (fun hc4 => ?_) (fun hc4 => ?_)
  · rw [if_neg hc4] at hF
    exact cp_vret hx hb hr hlocks hF hP hS dX2_changeCode_45
  · rw [if_pos hc4] at hF
    refine lv_aload_n hx hb dX2_changeCode_12 rfl (lv_at hl 1 rfl) ?_
    obtain ⟨v5, ev5, hF⟩ := cp_bind hF
    refine cp_getIN (T := TX1) (N := 14) (ci := 1) (j := 9) hx hb htT hinX1 hown hK hP rfl (by decide) rfl (hN _ (List.mem_of_getElem? (i := 30) rfl)) ev5 dX2_changeCode_13 ?_
    refine lv_if_le (tgt := 45) hx hb dX2_changeCode_16 (by decide) (fun hc6 => ?_) (fun hc6 => ?_)
    · rw [if_pos hc6] at hF
      exact cp_vret hx hb hr hlocks hF hP hS dX2_changeCode_45
    · rw [if_neg hc6] at hF
      refine lv_aload_n hx hb dX2_changeCode_19 rfl (lv_at hl 1 rfl) ?_
      refine lv_aload_n hx hb dX2_changeCode_20 rfl (lv_at hl 0 rfl) ?_
      obtain ⟨r7, er7, hF⟩ := cp_bind hF
      refine cp_getR (T := TX2) (N := 1) (ci := 2) (j := 0) hx hb htT hinX2 hown hK hP rfl (by decide) rfl (htT _ tw_133) er7 dX2_changeCode_21 ?_
      obtain ⟨f8, ef8, hF⟩ := cp_bind hF
      obtain ⟨y9, ey9, hF⟩ := cp_bind hF
      refine cp_call (st1 := [.int y9.1, .ref (L.2.1 k1)]) (va_runVN (As := []) (rest := [.ref (L.2.1 k1)]) ⟨hx, hb, hml, hown, htT⟩ (ct_X4_nextNumber l G L hJ q r7 y3.2 y9 ey9) ⟨va_cnB 0 htT gdX4_nextNumber rfl rfl rfl (hN _ (List.mem_of_getElem? (i := 82) rfl)) (htT _ tw_4) hdX4_nextNumber ⟨Nat.le_of_ble_eq_true rfl, Nat.le_of_ble_eq_true rfl⟩, (htT _ tw_328), (htT _ tw_566)⟩ ⟨cp_blind, cp_recv hK hP rfl ef8, cp_pre hP hK hN hZ hS⟩ rfl rfl hl.1 rfl (lv_room (Nat.le_of_ble_eq_true rfl)) dX2_changeCode_24 ⟨Nat.zero_le _, Nat.zero_le _⟩) hS (fun H locs hP hS => ?_)
      obtain ⟨f10, ef10, hF⟩ := cp_bind hF
      obtain ⟨y11, ey11, hF⟩ := cp_bind hF
      refine cp_call (st1 := [.int y11.1]) (va_runVN (As := [.int y9.1]) (rest := []) ⟨hx, hb, hml, hown, htT⟩ (ct_X1_wrapped l G L hJ q k1 y9.1 y9.2 y11 ey11) ⟨va_cnB 1 htT gdX1_wrapped rfl rfl rfl (hN _ (List.mem_of_getElem? (i := 84) rfl)) (htT _ tw_5) hdX1_wrapped ⟨Nat.le_of_ble_eq_true rfl, Nat.le_of_ble_eq_true rfl⟩, (htT _ tw_275), (htT _ tw_548)⟩ ⟨cp_blind, cp_recv hK hP rfl ef10, cp_pre hP hK hN hZ hS⟩ rfl rfl hl.1 rfl (lv_room (Nat.le_of_ble_eq_true rfl)) dX2_changeCode_27 ⟨Nat.zero_le _, Nat.zero_le _⟩) hS (fun H locs hP hS => ?_)
      refine lv_istore_n (lv' := [(2, .int y11.1), (0, .ref (L.2.1 k0)), (1, .ref (L.2.1 k1))]) hx hb dX2_changeCode_30 rfl hl (by decide) rfl (fun ls hl => ?_)
      refine lv_aload_n hx hb dX2_changeCode_31 rfl (lv_at hl 2 rfl) ?_
      obtain ⟨r12, er12, hF⟩ := cp_bind hF
      refine cp_getRN (T := TX1) (N := 14) (ci := 1) (j := 2) hx hb htT hinX1 hown hK hP rfl (by decide) rfl (hN _ (List.mem_of_getElem? (i := 9) rfl)) er12 dX2_changeCode_32 ?_
      refine lv_iload_n hx hb dX2_changeCode_35 rfl (lv_at hl 0 rfl) ?_
      refine lv_aload_n hx hb dX2_changeCode_36 rfl (lv_at hl 1 rfl) ?_
      obtain ⟨r13, er13, hF⟩ := cp_bind hF
      refine cp_getR (T := TX2) (N := 1) (ci := 2) (j := 0) hx hb htT hinX2 hown hK hP rfl (by decide) rfl (htT _ tw_133) er13 dX2_changeCode_37 ?_
      obtain ⟨f14, ef14, hF⟩ := cp_bind hF
      obtain ⟨y15, ey15, hF⟩ := cp_bind hF
      refine cp_call (st1 := [.int y15.1, .int y11.1, .ref (L.2.1 r12)]) (va_runVN (As := []) (rest := [.int y11.1, .ref (L.2.1 r12)]) ⟨hx, hb, hml, hown, htT⟩ (ct_X4_nextNumber l G L hJ q r13 y11.2 y15 ey15) ⟨va_cnB 0 htT gdX4_nextNumber rfl rfl rfl (hN _ (List.mem_of_getElem? (i := 82) rfl)) (htT _ tw_4) hdX4_nextNumber ⟨Nat.le_of_ble_eq_true rfl, Nat.le_of_ble_eq_true rfl⟩, (htT _ tw_328), (htT _ tw_566)⟩ ⟨cp_blind, cp_recv hK hP rfl ef14, cp_pre hP hK hN hZ hS⟩ rfl rfl hl.1 rfl (lv_room (Nat.le_of_ble_eq_true rfl)) dX2_changeCode_40 ⟨Nat.zero_le _, Nat.zero_le _⟩) hS (fun H locs hP hS => ?_)
      refine lv_i2b hx hb dX2_changeCode_43 rfl ?_
      obtain ⟨D16, eD16, hF⟩ := cp_bind hF
      refine cp_bast hx hb hK hJ hP hS eD16 dX2_changeCode_44 (fun H locs hP hS => ?_)
      exact cp_vret hx hb hr hlocks hF hP hS dX2_changeCode_45
theorem dX0_set_0 : decode cX0_set 0 = .ok (.iload_n 1, 1) := by decide +kernel
theorem dX0_set_1 : decode cX0_set 1 = .ok (.ifCond .lt 9, 3) := by decide +kernel
theorem dX0_set_4 : decode cX0_set 4 = .ok (.iload_n 1, 1) := by decide +kernel
theorem dX0_set_5 : decode cX0_set 5 = .ok (.bipush 50, 2) := by decide +kernel
theorem dX0_set_7 : decode cX0_set 7 = .ok (.if_icmp .le 5, 3) := by decide +kernel
theorem dX0_set_10 : decode cX0_set 10 = .ok (.iconst 0, 1) := by decide +kernel
theorem dX0_set_11 : decode cX0_set 11 = .ok (.ireturn, 1) := by decide +kernel
theorem dX0_set_12 : decode cX0_set 12 = .ok (.aload_n 0, 1) := by decide +kernel
theorem dX0_set_13 : decode cX0_set 13 = .ok (.getfield 32, 3) := by decide +kernel
theorem dX0_set_16 : decode cX0_set 16 = .ok (.iload_n 1, 1) := by decide +kernel
theorem dX0_set_17 : decode cX0_set 17 = .ok (.putfield 55, 3) := by decide +kernel
theorem dX0_set_20 : decode cX0_set 20 = .ok (.aload_n 0, 1) := by decide +kernel
theorem dX0_set_21 : decode cX0_set 21 = .ok (.getfield 32, 3) := by decide +kernel
theorem dX0_set_24 : decode cX0_set 24 = .ok (.iload_n 2, 1) := by decide +kernel
theorem dX0_set_25 : decode cX0_set 25 = .ok (.putfield 59, 3) := by decide +kernel
theorem dX0_set_28 : decode cX0_set 28 = .ok (.iconst 1, 1) := by decide +kernel
theorem dX0_set_29 : decode cX0_set 29 = .ok (.ireturn, 1) := by decide +kernel
def fn_X0_set (L : cp_Lay) (q : Nat) (k0 : Nat) (x1 : Int32) (x2 : Int32) (D : cp_Dt) : Option (Int32 × cp_Dt) :=
  if x1 < 0 then (some ((0 : Int32), D))
  else (if x1 ≤ (50 : Int32) then ((cp_gR L k0 0 1).bind fun r3 =>
  (cp_pI L D r3 4 6 x1).bind fun D4 =>
  (cp_gR L k0 0 1).bind fun r5 =>
  (cp_pI L D4 r5 4 7 x2).bind fun D6 =>
  some ((1 : Int32), D6))
  else (some ((0 : Int32), D)))
set_option maxHeartbeats 4000000 in
set_option maxRecDepth 100000 in
theorem ct_X0_set (l : Launch) (G : va_G) (L : cp_Lay) (hJ : cp_J L) (q : Nat) (k0 : Nat) (x1 : Int32) (x2 : Int32) (D : cp_Dt) (res : Int32 × cp_Dt) (hF : fn_X0_set L q k0 x1 x2 D = some res) : cp_Met l G yX0_set wsX0_set ({ frames := 0, cells := 0, slots := 0, locals := 0 }) L ([.ref (L.2.1 k0), .int x1, .int x2] : List Value) D res.2 (some (.int res.1)) := by
  refine Met.ofW (cc := cX0_set) (maxL := 3) (ret := (some .boolean)) (by decide) rfl ?_
  intro p e s m args below meth c s₁ B hml hv
  obtain ⟨rfl, hP, hK, hN, hZ⟩ := hv
  have hx := B.exec
  have hb := B.bytes
  have hr := B.returns
  have hts := atoms_spec (ws := wsX0_set) B.pre
  have hown : s.vm.findClass "CreaturePond" = some m.cls := findClass_of_methodNamed B.named
  have hlocks := B.notSynchronized
  have hS : va_S (cp_A L) s.heap s.heap [] := va_S.rf
  have htT : ∀ w ∈ cp_T, w.before ([.ref (L.2.1 k0), .int x1, .int x2] : List Value).toArray s = true := fun w h => hts w (List.mem_cons_of_mem _ h)
  have hl := lv_entry (([.ref (L.2.1 k0), .int x1, .int x2] : List Value)) (n := 3) (Nat.le_of_ble_eq_true rfl)
  rw [lg_entry_eq]
  generalize (lg_sl (([.ref (L.2.1 k0), .int x1, .int x2] : List Value)) ++ List.replicate (3 - (lg_sl (([.ref (L.2.1 k0), .int x1, .int x2] : List Value))).length) Slot.unset).toArray = ls at hl ⊢
  have hl : lv_has ls 3 [(0, .ref (L.2.1 k0)), (1, .int x1), (2, .int x2)] := hl
  unfold fn_X0_set at hF
  refine lv_iload_n hx hb dX0_set_0 rfl (lv_at hl 1 rfl) ?_
  refine lv_if_lt (tgt := 10) hx hb dX0_set_1 (by decide) (fun hc1 => ?_) (fun hc1 => ?_)
  · rw [if_pos hc1] at hF
    refine lv_iconst (v := (0 : Int32)) hx hb dX0_set_10 (by decide) ?_
    exact cp_zret hx hb hr hlocks (by decide) hF hP hS dX0_set_11
  · rw [if_neg hc1] at hF
    refine lv_iload_n hx hb dX0_set_4 rfl (lv_at hl 1 rfl) ?_
    refine lv_bipush (v := (50 : Int32)) hx hb dX0_set_5 (by decide) ?_
    refine lv_icmp_le (tgt := 12) hx hb dX0_set_7 (by decide) (fun hc2 => ?_) (fun hc2 => ?_)
    · rw [if_pos hc2] at hF
      refine lv_aload_n hx hb dX0_set_12 rfl (lv_at hl 0 rfl) ?_
      obtain ⟨r3, er3, hF⟩ := cp_bind hF
      refine cp_getR (T := TX0) (N := 6) (ci := 0) (j := 1) hx hb htT hinX0 hown hK hP rfl (by decide) rfl (htT _ tw_136) er3 dX0_set_13 ?_
      refine lv_iload_n hx hb dX0_set_16 rfl (lv_at hl 1 rfl) ?_
      obtain ⟨D4, eD4, hF⟩ := cp_bind hF
      refine cp_putN (T := TX4) (N := 12) (ci := 4) (j := 6) hx hb htT hinX4 tyX4 tyX4_ok nmX4 hown hK hJ hP hS rfl (by decide) rfl (hN _ (List.mem_of_getElem? (i := 47) rfl)) rfl rfl rfl eD4 dX0_set_17 (fun H locs hP hS => ?_)
      refine lv_aload_n hx hb dX0_set_20 rfl (lv_at hl 0 rfl) ?_
      obtain ⟨r5, er5, hF⟩ := cp_bind hF
      refine cp_getR (T := TX0) (N := 6) (ci := 0) (j := 1) hx hb htT hinX0 hown hK hP rfl (by decide) rfl (htT _ tw_136) er5 dX0_set_21 ?_
      refine lv_iload_n hx hb dX0_set_24 rfl (lv_at hl 2 rfl) ?_
      obtain ⟨D6, eD6, hF⟩ := cp_bind hF
      refine cp_putN (T := TX4) (N := 12) (ci := 4) (j := 7) hx hb htT hinX4 tyX4 tyX4_ok nmX4 hown hK hJ hP hS rfl (by decide) rfl (hN _ (List.mem_of_getElem? (i := 48) rfl)) rfl rfl rfl eD6 dX0_set_25 (fun H locs hP hS => ?_)
      refine lv_iconst (v := (1 : Int32)) hx hb dX0_set_28 (by decide) ?_
      exact cp_zret hx hb hr hlocks (by decide) hF hP hS dX0_set_29
    · rw [if_neg hc2] at hF
      refine lv_iconst (v := (0 : Int32)) hx hb dX0_set_10 (by decide) ?_
      exact cp_zret hx hb hr hlocks (by decide) hF hP hS dX0_set_11
theorem dX0_store_0 : decode cX0_store 0 = .ok (.iload_n 1, 1) := by decide +kernel
theorem dX0_store_1 : decode cX0_store 1 = .ok (.ifCond .lt 24, 3) := by decide +kernel
theorem dX0_store_4 : decode cX0_store 4 = .ok (.iload_n 1, 1) := by decide +kernel
theorem dX0_store_5 : decode cX0_store 5 = .ok (.sipush 10000, 3) := by decide +kernel
theorem dX0_store_8 : decode cX0_store 8 = .ok (.if_icmp .gt 17, 3) := by decide +kernel
theorem dX0_store_11 : decode cX0_store 11 = .ok (.aload_n 0, 1) := by decide +kernel
theorem dX0_store_12 : decode cX0_store 12 = .ok (.getfield 32, 3) := by decide +kernel
theorem dX0_store_15 : decode cX0_store 15 = .ok (.getfield 62, 3) := by decide +kernel
theorem dX0_store_18 : decode cX0_store 18 = .ok (.iload_n 1, 1) := by decide +kernel
theorem dX0_store_19 : decode cX0_store 19 = .ok (.iadd, 1) := by decide +kernel
theorem dX0_store_20 : decode cX0_store 20 = .ok (.ldc 65, 2) := by decide +kernel
theorem dX0_store_22 : decode cX0_store 22 = .ok (.if_icmp .le 5, 3) := by decide +kernel
theorem dX0_store_25 : decode cX0_store 25 = .ok (.iconst 0, 1) := by decide +kernel
theorem dX0_store_26 : decode cX0_store 26 = .ok (.ireturn, 1) := by decide +kernel
theorem dX0_store_27 : decode cX0_store 27 = .ok (.aload_n 0, 1) := by decide +kernel
theorem dX0_store_28 : decode cX0_store 28 = .ok (.getfield 32, 3) := by decide +kernel
theorem dX0_store_31 : decode cX0_store 31 = .ok (.dup, 1) := by decide +kernel
theorem dX0_store_32 : decode cX0_store 32 = .ok (.getfield 62, 3) := by decide +kernel
theorem dX0_store_35 : decode cX0_store 35 = .ok (.iload_n 1, 1) := by decide +kernel
theorem dX0_store_36 : decode cX0_store 36 = .ok (.iadd, 1) := by decide +kernel
theorem dX0_store_37 : decode cX0_store 37 = .ok (.putfield 62, 3) := by decide +kernel
theorem dX0_store_40 : decode cX0_store 40 = .ok (.iconst 1, 1) := by decide +kernel
theorem dX0_store_41 : decode cX0_store 41 = .ok (.ireturn, 1) := by decide +kernel
def fn_X0_store (L : cp_Lay) (q : Nat) (k0 : Nat) (x1 : Int32) (D : cp_Dt) : Option (Int32 × cp_Dt) :=
  if x1 < 0 then (some ((0 : Int32), D))
  else (if (10000 : Int32) < x1 then (some ((0 : Int32), D))
  else ((cp_gR L k0 0 1).bind fun r3 =>
  (cp_gI L D r3 4 5).bind fun v4 =>
  if (v4 + x1) ≤ (1000000 : Int32) then ((cp_gR L k0 0 1).bind fun r6 =>
  (cp_gI L D r6 4 5).bind fun v7 =>
  (cp_pI L D r6 4 5 (v7 + x1)).bind fun D8 =>
  some ((1 : Int32), D8))
  else (some ((0 : Int32), D))))
set_option maxHeartbeats 4000000 in
set_option maxRecDepth 100000 in
theorem ct_X0_store (l : Launch) (G : va_G) (L : cp_Lay) (hJ : cp_J L) (q : Nat) (k0 : Nat) (x1 : Int32) (D : cp_Dt) (res : Int32 × cp_Dt) (hF : fn_X0_store L q k0 x1 D = some res) : cp_Met l G yX0_store wsX0_store ({ frames := 0, cells := 0, slots := 0, locals := 0 }) L ([.ref (L.2.1 k0), .int x1] : List Value) D res.2 (some (.int res.1)) := by
  refine Met.ofW (cc := cX0_store) (maxL := 2) (ret := (some .boolean)) (by decide) rfl ?_
  intro p e s m args below meth c s₁ B hml hv
  obtain ⟨rfl, hP, hK, hN, hZ⟩ := hv
  have hx := B.exec
  have hb := B.bytes
  have hr := B.returns
  have hts := atoms_spec (ws := wsX0_store) B.pre
  have hown : s.vm.findClass "CreaturePond" = some m.cls := findClass_of_methodNamed B.named
  have hlocks := B.notSynchronized
  have hS : va_S (cp_A L) s.heap s.heap [] := va_S.rf
  have htT : ∀ w ∈ cp_T, w.before ([.ref (L.2.1 k0), .int x1] : List Value).toArray s = true := fun w h => hts w (List.mem_cons_of_mem _ h)
  have hl := lv_entry (([.ref (L.2.1 k0), .int x1] : List Value)) (n := 2) (Nat.le_of_ble_eq_true rfl)
  rw [lg_entry_eq]
  generalize (lg_sl (([.ref (L.2.1 k0), .int x1] : List Value)) ++ List.replicate (2 - (lg_sl (([.ref (L.2.1 k0), .int x1] : List Value))).length) Slot.unset).toArray = ls at hl ⊢
  have hl : lv_has ls 2 [(0, .ref (L.2.1 k0)), (1, .int x1)] := hl
  unfold fn_X0_store at hF
  refine lv_iload_n hx hb dX0_store_0 rfl (lv_at hl 1 rfl) ?_
  refine lv_if_lt (tgt := 25) hx hb dX0_store_1 (by decide) (fun hc1 => ?_) (fun hc1 => ?_)
  · rw [if_pos hc1] at hF
    refine lv_iconst (v := (0 : Int32)) hx hb dX0_store_25 (by decide) ?_
    exact cp_zret hx hb hr hlocks (by decide) hF hP hS dX0_store_26
  · rw [if_neg hc1] at hF
    refine lv_iload_n hx hb dX0_store_4 rfl (lv_at hl 1 rfl) ?_
    refine lv_sipush (v := (10000 : Int32)) hx hb dX0_store_5 (by decide) ?_
    refine lv_icmp_gt (tgt := 25) hx hb dX0_store_8 (by decide) (fun hc2 => ?_) (fun hc2 => ?_)
    · rw [if_pos hc2] at hF
      refine lv_iconst (v := (0 : Int32)) hx hb dX0_store_25 (by decide) ?_
      exact cp_zret hx hb hr hlocks (by decide) hF hP hS dX0_store_26
    · rw [if_neg hc2] at hF
      refine lv_aload_n hx hb dX0_store_11 rfl (lv_at hl 0 rfl) ?_
      obtain ⟨r3, er3, hF⟩ := cp_bind hF
      refine cp_getR (T := TX0) (N := 6) (ci := 0) (j := 1) hx hb htT hinX0 hown hK hP rfl (by decide) rfl (htT _ tw_136) er3 dX0_store_12 ?_
      obtain ⟨v4, ev4, hF⟩ := cp_bind hF
      refine cp_getIN (T := TX4) (N := 12) (ci := 4) (j := 5) hx hb htT hinX4 hown hK hP rfl (by decide) rfl (hN _ (List.mem_of_getElem? (i := 46) rfl)) ev4 dX0_store_15 ?_
      refine lv_iload_n hx hb dX0_store_18 rfl (lv_at hl 1 rfl) ?_
      refine lv_iadd hx hb dX0_store_19 ?_
      refine lv_ldc (v := (1000000 : Int32)) hx hb hown (htT _ tw_155) dX0_store_20 ?_
      refine lv_icmp_le (tgt := 27) hx hb dX0_store_22 (by decide) (fun hc5 => ?_) (fun hc5 => ?_)
      · rw [if_pos hc5] at hF
        refine lv_aload_n hx hb dX0_store_27 rfl (lv_at hl 0 rfl) ?_
        obtain ⟨r6, er6, hF⟩ := cp_bind hF
        refine cp_getR (T := TX0) (N := 6) (ci := 0) (j := 1) hx hb htT hinX0 hown hK hP rfl (by decide) rfl (htT _ tw_136) er6 dX0_store_28 ?_
        refine lv_dup hx hb dX0_store_31 rfl ?_
        obtain ⟨v7, ev7, hF⟩ := cp_bind hF
        refine cp_getIN (T := TX4) (N := 12) (ci := 4) (j := 5) hx hb htT hinX4 hown hK hP rfl (by decide) rfl (hN _ (List.mem_of_getElem? (i := 46) rfl)) ev7 dX0_store_32 ?_
        refine lv_iload_n hx hb dX0_store_35 rfl (lv_at hl 1 rfl) ?_
        refine lv_iadd hx hb dX0_store_36 ?_
        obtain ⟨D8, eD8, hF⟩ := cp_bind hF
        refine cp_putN (T := TX4) (N := 12) (ci := 4) (j := 5) hx hb htT hinX4 tyX4 tyX4_ok nmX4 hown hK hJ hP hS rfl (by decide) rfl (hN _ (List.mem_of_getElem? (i := 46) rfl)) rfl rfl rfl eD8 dX0_store_37 (fun H locs hP hS => ?_)
        refine lv_iconst (v := (1 : Int32)) hx hb dX0_store_40 (by decide) ?_
        exact cp_zret hx hb hr hlocks (by decide) hF hP hS dX0_store_41
      · rw [if_neg hc5] at hF
        refine lv_iconst (v := (0 : Int32)) hx hb dX0_store_25 (by decide) ?_
        exact cp_zret hx hb hr hlocks (by decide) hF hP hS dX0_store_26
theorem dX0_grain_0 : decode cX0_grain 0 = .ok (.iload_n 3, 1) := by decide +kernel
theorem dX0_grain_1 : decode cX0_grain 1 = .ok (.ifCond .lt 10, 3) := by decide +kernel
theorem dX0_grain_4 : decode cX0_grain 4 = .ok (.iload_n 3, 1) := by decide +kernel
theorem dX0_grain_5 : decode cX0_grain 5 = .ok (.sipush 250, 3) := by decide +kernel
theorem dX0_grain_8 : decode cX0_grain 8 = .ok (.if_icmp .le 5, 3) := by decide +kernel
theorem dX0_grain_11 : decode cX0_grain 11 = .ok (.iconst 0, 1) := by decide +kernel
theorem dX0_grain_12 : decode cX0_grain 12 = .ok (.ireturn, 1) := by decide +kernel
theorem dX0_grain_13 : decode cX0_grain 13 = .ok (.aload_n 0, 1) := by decide +kernel
theorem dX0_grain_14 : decode cX0_grain 14 = .ok (.getfield 32, 3) := by decide +kernel
theorem dX0_grain_17 : decode cX0_grain 17 = .ok (.getfield 66, 3) := by decide +kernel
theorem dX0_grain_20 : decode cX0_grain 20 = .ok (.aload_n 0, 1) := by decide +kernel
theorem dX0_grain_21 : decode cX0_grain 21 = .ok (.getfield 23, 3) := by decide +kernel
theorem dX0_grain_24 : decode cX0_grain 24 = .ok (.iload_n 1, 1) := by decide +kernel
theorem dX0_grain_25 : decode cX0_grain 25 = .ok (.iload_n 2, 1) := by decide +kernel
theorem dX0_grain_26 : decode cX0_grain 26 = .ok (.invokevirtual 70, 3) := by decide +kernel
theorem dX0_grain_29 : decode cX0_grain 29 = .ok (.iload_n 3, 1) := by decide +kernel
theorem dX0_grain_30 : decode cX0_grain 30 = .ok (.iastore, 1) := by decide +kernel
theorem dX0_grain_31 : decode cX0_grain 31 = .ok (.iconst 1, 1) := by decide +kernel
theorem dX0_grain_32 : decode cX0_grain 32 = .ok (.ireturn, 1) := by decide +kernel
def fn_X0_grain (L : cp_Lay) (q : Nat) (k0 : Nat) (x1 : Int32) (x2 : Int32) (x3 : Int32) (D : cp_Dt) : Option (Int32 × cp_Dt) :=
  if x3 < 0 then (some ((0 : Int32), D))
  else (if x3 ≤ (250 : Int32) then ((cp_gR L k0 0 1).bind fun r3 =>
  (cp_gR L r3 4 1).bind fun r4 =>
  (cp_gR L k0 0 0).bind fun r5 =>
  (cp_fl L r5 5).bind fun f6 =>
  (fn_X5_cellAt L q r5 x1 x2 D).bind fun y7 =>
  (cp_aS L y7.2 0 r4 y7.1 x3).bind fun D8 =>
  some ((1 : Int32), D8))
  else (some ((0 : Int32), D)))
set_option maxHeartbeats 4000000 in
set_option maxRecDepth 100000 in
theorem ct_X0_grain (l : Launch) (G : va_G) (L : cp_Lay) (hJ : cp_J L) (q : Nat) (k0 : Nat) (x1 : Int32) (x2 : Int32) (x3 : Int32) (D : cp_Dt) (res : Int32 × cp_Dt) (hF : fn_X0_grain L q k0 x1 x2 x3 D = some res) : cp_Met l G yX0_grain wsX0_grain ({ frames := 2, cells := 0, slots := 0, locals := 44 }) L ([.ref (L.2.1 k0), .int x1, .int x2, .int x3] : List Value) D res.2 (some (.int res.1)) := by
  refine Met.ofW (cc := cX0_grain) (maxL := 4) (ret := (some .boolean)) (by decide) rfl ?_
  intro p e s m args below meth c s₁ B hml hv
  obtain ⟨rfl, hP, hK, hN, hZ⟩ := hv
  have hx := B.exec
  have hb := B.bytes
  have hr := B.returns
  have hts := atoms_spec (ws := wsX0_grain) B.pre
  have hown : s.vm.findClass "CreaturePond" = some m.cls := findClass_of_methodNamed B.named
  have hlocks := B.notSynchronized
  have hS : va_S (cp_A L) s.heap s.heap [] := va_S.rf
  have htT : ∀ w ∈ cp_T, w.before ([.ref (L.2.1 k0), .int x1, .int x2, .int x3] : List Value).toArray s = true := fun w h => hts w (List.mem_cons_of_mem _ h)
  have hl := lv_entry (([.ref (L.2.1 k0), .int x1, .int x2, .int x3] : List Value)) (n := 4) (Nat.le_of_ble_eq_true rfl)
  rw [lg_entry_eq]
  generalize (lg_sl (([.ref (L.2.1 k0), .int x1, .int x2, .int x3] : List Value)) ++ List.replicate (4 - (lg_sl (([.ref (L.2.1 k0), .int x1, .int x2, .int x3] : List Value))).length) Slot.unset).toArray = ls at hl ⊢
  have hl : lv_has ls 4 [(0, .ref (L.2.1 k0)), (1, .int x1), (2, .int x2), (3, .int x3)] := hl
  unfold fn_X0_grain at hF
  refine lv_iload_n hx hb dX0_grain_0 rfl (lv_at hl 3 rfl) ?_
  refine lv_if_lt (tgt := 11) hx hb dX0_grain_1 (by decide) (fun hc1 => ?_) (fun hc1 => ?_)
  · rw [if_pos hc1] at hF
    refine lv_iconst (v := (0 : Int32)) hx hb dX0_grain_11 (by decide) ?_
    exact cp_zret hx hb hr hlocks (by decide) hF hP hS dX0_grain_12
  · rw [if_neg hc1] at hF
    refine lv_iload_n hx hb dX0_grain_4 rfl (lv_at hl 3 rfl) ?_
    refine lv_sipush (v := (250 : Int32)) hx hb dX0_grain_5 (by decide) ?_
    refine lv_icmp_le (tgt := 13) hx hb dX0_grain_8 (by decide) (fun hc2 => ?_) (fun hc2 => ?_)
    · rw [if_pos hc2] at hF
      refine lv_aload_n hx hb dX0_grain_13 rfl (lv_at hl 0 rfl) ?_
      obtain ⟨r3, er3, hF⟩ := cp_bind hF
      refine cp_getR (T := TX0) (N := 6) (ci := 0) (j := 1) hx hb htT hinX0 hown hK hP rfl (by decide) rfl (htT _ tw_136) er3 dX0_grain_14 ?_
      obtain ⟨r4, er4, hF⟩ := cp_bind hF
      refine cp_getRN (T := TX4) (N := 12) (ci := 4) (j := 1) hx hb htT hinX4 hown hK hP rfl (by decide) rfl (hN _ (List.mem_of_getElem? (i := 36) rfl)) er4 dX0_grain_17 ?_
      refine lv_aload_n hx hb dX0_grain_20 rfl (lv_at hl 0 rfl) ?_
      obtain ⟨r5, er5, hF⟩ := cp_bind hF
      refine cp_getR (T := TX0) (N := 6) (ci := 0) (j := 0) hx hb htT hinX0 hown hK hP rfl (by decide) rfl (htT _ tw_135) er5 dX0_grain_21 ?_
      refine lv_iload_n hx hb dX0_grain_24 rfl (lv_at hl 1 rfl) ?_
      refine lv_iload_n hx hb dX0_grain_25 rfl (lv_at hl 2 rfl) ?_
      obtain ⟨f6, ef6, hF⟩ := cp_bind hF
      obtain ⟨y7, ey7, hF⟩ := cp_bind hF
      refine cp_call (st1 := [.int y7.1, .ref (L.2.1 r4)]) (va_runVN (As := [.int x1, .int x2]) (rest := [.ref (L.2.1 r4)]) ⟨hx, hb, hml, hown, htT⟩ (ct_X5_cellAt l G L hJ q r5 x1 x2 D y7 ey7) ⟨va_cnB 2 htT gdX5_cellAt rfl rfl rfl (hN _ (List.mem_of_getElem? (i := 56) rfl)) (htT _ tw_2) hdX5_cellAt ⟨Nat.le_of_ble_eq_true rfl, Nat.le_of_ble_eq_true rfl⟩, (htT _ tw_44), (htT _ tw_530)⟩ ⟨cp_blind, cp_recv hK hP rfl ef6, cp_pre hP hK hN hZ hS⟩ rfl rfl hl.1 rfl (lv_room (Nat.le_of_ble_eq_true rfl)) dX0_grain_26 ⟨Nat.zero_le _, Nat.zero_le _⟩) hS (fun H locs hP hS => ?_)
      refine lv_iload_n hx hb dX0_grain_29 rfl (lv_at hl 3 rfl) ?_
      obtain ⟨D8, eD8, hF⟩ := cp_bind hF
      refine cp_iast hx hb hK hJ hP hS eD8 dX0_grain_30 (fun H locs hP hS => ?_)
      refine lv_iconst (v := (1 : Int32)) hx hb dX0_grain_31 (by decide) ?_
      exact cp_zret hx hb hr hlocks (by decide) hF hP hS dX0_grain_32
    · rw [if_neg hc2] at hF
      refine lv_iconst (v := (0 : Int32)) hx hb dX0_grain_11 (by decide) ?_
      exact cp_zret hx hb hr hlocks (by decide) hF hP hS dX0_grain_12
theorem dX0_cell_0 : decode cX0_cell 0 = .ok (.aload_n 0, 1) := by decide +kernel
theorem dX0_cell_1 : decode cX0_cell 1 = .ok (.getfield 23, 3) := by decide +kernel
theorem dX0_cell_4 : decode cX0_cell 4 = .ok (.iload_n 1, 1) := by decide +kernel
theorem dX0_cell_5 : decode cX0_cell 5 = .ok (.iload_n 2, 1) := by decide +kernel
theorem dX0_cell_6 : decode cX0_cell 6 = .ok (.invokevirtual 70, 3) := by decide +kernel
theorem dX0_cell_9 : decode cX0_cell 9 = .ok (.istore 4, 2) := by decide +kernel
theorem dX0_cell_11 : decode cX0_cell 11 = .ok (.iload_n 3, 1) := by decide +kernel
theorem dX0_cell_12 : decode cX0_cell 12 = .ok (.tableswitch 61 0 2 #[28, 39, 50], 28) := by decide +kernel
theorem dX0_cell_40 : decode cX0_cell 40 = .ok (.aload_n 0, 1) := by decide +kernel
theorem dX0_cell_41 : decode cX0_cell 41 = .ok (.getfield 32, 3) := by decide +kernel
theorem dX0_cell_44 : decode cX0_cell 44 = .ok (.getfield 66, 3) := by decide +kernel
theorem dX0_cell_47 : decode cX0_cell 47 = .ok (.iload 4, 2) := by decide +kernel
theorem dX0_cell_49 : decode cX0_cell 49 = .ok (.iaload, 1) := by decide +kernel
theorem dX0_cell_50 : decode cX0_cell 50 = .ok (.ireturn, 1) := by decide +kernel
theorem dX0_cell_51 : decode cX0_cell 51 = .ok (.aload_n 0, 1) := by decide +kernel
theorem dX0_cell_52 : decode cX0_cell 52 = .ok (.getfield 32, 3) := by decide +kernel
theorem dX0_cell_55 : decode cX0_cell 55 = .ok (.getfield 137, 3) := by decide +kernel
theorem dX0_cell_58 : decode cX0_cell 58 = .ok (.iload 4, 2) := by decide +kernel
theorem dX0_cell_60 : decode cX0_cell 60 = .ok (.baload, 1) := by decide +kernel
theorem dX0_cell_61 : decode cX0_cell 61 = .ok (.ireturn, 1) := by decide +kernel
theorem dX0_cell_62 : decode cX0_cell 62 = .ok (.aload_n 0, 1) := by decide +kernel
theorem dX0_cell_63 : decode cX0_cell 63 = .ok (.getfield 32, 3) := by decide +kernel
theorem dX0_cell_66 : decode cX0_cell 66 = .ok (.getfield 84, 3) := by decide +kernel
theorem dX0_cell_69 : decode cX0_cell 69 = .ok (.iload 4, 2) := by decide +kernel
theorem dX0_cell_71 : decode cX0_cell 71 = .ok (.iaload, 1) := by decide +kernel
theorem dX0_cell_72 : decode cX0_cell 72 = .ok (.ireturn, 1) := by decide +kernel
theorem dX0_cell_73 : decode cX0_cell 73 = .ok (.iconst (-1), 1) := by decide +kernel
theorem dX0_cell_74 : decode cX0_cell 74 = .ok (.ireturn, 1) := by decide +kernel
def fn_X0_cell (L : cp_Lay) (q : Nat) (k0 : Nat) (x1 : Int32) (x2 : Int32) (x3 : Int32) (D : cp_Dt) : Option (Int32 × cp_Dt) :=
  (cp_gR L k0 0 0).bind fun r1 =>
  (cp_fl L r1 5).bind fun f2 =>
  (fn_X5_cellAt L q r1 x1 x2 D).bind fun y3 =>
  if x3 = (0 : Int32) then ((cp_gR L k0 0 1).bind fun r5 =>
  (cp_gR L r5 4 1).bind fun r6 =>
  (cp_aI L y3.2 0 r6 y3.1).bind fun v7 =>
  some (v7, y3.2))
  else if x3 = (1 : Int32) then ((cp_gR L k0 0 1).bind fun r9 =>
  (cp_gR L r9 4 2).bind fun r10 =>
  (cp_aI L y3.2 1 r10 y3.1).bind fun v11 =>
  some (v11, y3.2))
  else if x3 = (2 : Int32) then ((cp_gR L k0 0 1).bind fun r13 =>
  (cp_gR L r13 4 3).bind fun r14 =>
  (cp_aI L y3.2 0 r14 y3.1).bind fun v15 =>
  some (v15, y3.2))
  else (some ((-1 : Int32), y3.2))
set_option maxHeartbeats 4000000 in
set_option maxRecDepth 100000 in
theorem ct_X0_cell (l : Launch) (G : va_G) (L : cp_Lay) (hJ : cp_J L) (q : Nat) (k0 : Nat) (x1 : Int32) (x2 : Int32) (x3 : Int32) (D : cp_Dt) (res : Int32 × cp_Dt) (hF : fn_X0_cell L q k0 x1 x2 x3 D = some res) : cp_Met l G yX0_cell wsX0_cell ({ frames := 2, cells := 0, slots := 0, locals := 44 }) L ([.ref (L.2.1 k0), .int x1, .int x2, .int x3] : List Value) D res.2 (some (.int res.1)) := by
  refine Met.ofW (cc := cX0_cell) (maxL := 5) (ret := (some .int)) (by decide) rfl ?_
  intro p e s m args below meth c s₁ B hml hv
  obtain ⟨rfl, hP, hK, hN, hZ⟩ := hv
  have hx := B.exec
  have hb := B.bytes
  have hr := B.returns
  have hts := atoms_spec (ws := wsX0_cell) B.pre
  have hown : s.vm.findClass "CreaturePond" = some m.cls := findClass_of_methodNamed B.named
  have hlocks := B.notSynchronized
  have hS : va_S (cp_A L) s.heap s.heap [] := va_S.rf
  have htT : ∀ w ∈ cp_T, w.before ([.ref (L.2.1 k0), .int x1, .int x2, .int x3] : List Value).toArray s = true := fun w h => hts w (List.mem_cons_of_mem _ h)
  have hl := lv_entry (([.ref (L.2.1 k0), .int x1, .int x2, .int x3] : List Value)) (n := 5) (Nat.le_of_ble_eq_true rfl)
  rw [lg_entry_eq]
  generalize (lg_sl (([.ref (L.2.1 k0), .int x1, .int x2, .int x3] : List Value)) ++ List.replicate (5 - (lg_sl (([.ref (L.2.1 k0), .int x1, .int x2, .int x3] : List Value))).length) Slot.unset).toArray = ls at hl ⊢
  have hl : lv_has ls 5 [(0, .ref (L.2.1 k0)), (1, .int x1), (2, .int x2), (3, .int x3)] := hl
  unfold fn_X0_cell at hF
  refine lv_aload_n hx hb dX0_cell_0 rfl (lv_at hl 0 rfl) ?_
  obtain ⟨r1, er1, hF⟩ := cp_bind hF
  refine cp_getR (T := TX0) (N := 6) (ci := 0) (j := 0) hx hb htT hinX0 hown hK hP rfl (by decide) rfl (htT _ tw_135) er1 dX0_cell_1 ?_
  refine lv_iload_n hx hb dX0_cell_4 rfl (lv_at hl 1 rfl) ?_
  refine lv_iload_n hx hb dX0_cell_5 rfl (lv_at hl 2 rfl) ?_
  obtain ⟨f2, ef2, hF⟩ := cp_bind hF
  obtain ⟨y3, ey3, hF⟩ := cp_bind hF
  refine cp_call (st1 := [.int y3.1]) (va_runVN (As := [.int x1, .int x2]) (rest := []) ⟨hx, hb, hml, hown, htT⟩ (ct_X5_cellAt l G L hJ q r1 x1 x2 D y3 ey3) ⟨va_cnB 2 htT gdX5_cellAt rfl rfl rfl (hN _ (List.mem_of_getElem? (i := 56) rfl)) (htT _ tw_2) hdX5_cellAt ⟨Nat.le_of_ble_eq_true rfl, Nat.le_of_ble_eq_true rfl⟩, (htT _ tw_44), (htT _ tw_530)⟩ ⟨cp_blind, cp_recv hK hP rfl ef2, cp_pre hP hK hN hZ hS⟩ rfl rfl hl.1 rfl (lv_room (Nat.le_of_ble_eq_true rfl)) dX0_cell_6 ⟨Nat.zero_le _, Nat.zero_le _⟩) hS (fun H locs hP hS => ?_)
  refine lv_istore (lv' := [(4, .int y3.1), (0, .ref (L.2.1 k0)), (1, .int x1), (2, .int x2), (3, .int x3)]) hx hb dX0_cell_9 hl (by decide) rfl (fun ls hl => ?_)
  refine lv_iload_n hx hb dX0_cell_11 rfl (lv_at hl 4 rfl) ?_
  by_cases hc4 : x3 = (0 : Int32)
  · rw [if_pos hc4] at hF
    refine lv_tableIn (tgt := 40) hx hb dX0_cell_12 (by rw [hc4]; decide) (by rw [hc4]; decide) (by rw [hc4]; rfl) (by decide) ?_
    refine lv_aload_n hx hb dX0_cell_40 rfl (lv_at hl 1 rfl) ?_
    obtain ⟨r5, er5, hF⟩ := cp_bind hF
    refine cp_getR (T := TX0) (N := 6) (ci := 0) (j := 1) hx hb htT hinX0 hown hK hP rfl (by decide) rfl (htT _ tw_136) er5 dX0_cell_41 ?_
    obtain ⟨r6, er6, hF⟩ := cp_bind hF
    refine cp_getRN (T := TX4) (N := 12) (ci := 4) (j := 1) hx hb htT hinX4 hown hK hP rfl (by decide) rfl (hN _ (List.mem_of_getElem? (i := 36) rfl)) er6 dX0_cell_44 ?_
    refine lv_iload hx hb dX0_cell_47 (lv_at hl 0 rfl) ?_
    obtain ⟨v7, ev7, hF⟩ := cp_bind hF
    refine cp_iald hx hb hK hP ev7 dX0_cell_49 ?_
    exact cp_iret hx hb hr hlocks hF hP hS dX0_cell_50
  · rw [if_neg hc4] at hF
    by_cases hc8 : x3 = (1 : Int32)
    · rw [if_pos hc8] at hF
      refine lv_tableIn (tgt := 51) hx hb dX0_cell_12 (by rw [hc8]; decide) (by rw [hc8]; decide) (by rw [hc8]; rfl) (by decide) ?_
      refine lv_aload_n hx hb dX0_cell_51 rfl (lv_at hl 1 rfl) ?_
      obtain ⟨r9, er9, hF⟩ := cp_bind hF
      refine cp_getR (T := TX0) (N := 6) (ci := 0) (j := 1) hx hb htT hinX0 hown hK hP rfl (by decide) rfl (htT _ tw_136) er9 dX0_cell_52 ?_
      obtain ⟨r10, er10, hF⟩ := cp_bind hF
      refine cp_getRN (T := TX4) (N := 12) (ci := 4) (j := 2) hx hb htT hinX4 hown hK hP rfl (by decide) rfl (hN _ (List.mem_of_getElem? (i := 38) rfl)) er10 dX0_cell_55 ?_
      refine lv_iload hx hb dX0_cell_58 (lv_at hl 0 rfl) ?_
      obtain ⟨v11, ev11, hF⟩ := cp_bind hF
      refine cp_bald hx hb hK hP ev11 dX0_cell_60 ?_
      exact cp_iret hx hb hr hlocks hF hP hS dX0_cell_61
    · rw [if_neg hc8] at hF
      by_cases hc12 : x3 = (2 : Int32)
      · rw [if_pos hc12] at hF
        refine lv_tableIn (tgt := 62) hx hb dX0_cell_12 (by rw [hc12]; decide) (by rw [hc12]; decide) (by rw [hc12]; rfl) (by decide) ?_
        refine lv_aload_n hx hb dX0_cell_62 rfl (lv_at hl 1 rfl) ?_
        obtain ⟨r13, er13, hF⟩ := cp_bind hF
        refine cp_getR (T := TX0) (N := 6) (ci := 0) (j := 1) hx hb htT hinX0 hown hK hP rfl (by decide) rfl (htT _ tw_136) er13 dX0_cell_63 ?_
        obtain ⟨r14, er14, hF⟩ := cp_bind hF
        refine cp_getRN (T := TX4) (N := 12) (ci := 4) (j := 3) hx hb htT hinX4 hown hK hP rfl (by decide) rfl (hN _ (List.mem_of_getElem? (i := 41) rfl)) er14 dX0_cell_66 ?_
        refine lv_iload hx hb dX0_cell_69 (lv_at hl 0 rfl) ?_
        obtain ⟨v15, ev15, hF⟩ := cp_bind hF
        refine cp_iald hx hb hK hP ev15 dX0_cell_71 ?_
        exact cp_iret hx hb hr hlocks hF hP hS dX0_cell_72
      · rw [if_neg hc12] at hF
        have zhc4 := lv_neT (a := 0) hc4 (by decide)
        have zhc8 := lv_neT (a := 1) hc8 (by decide)
        have zhc12 := lv_neT (a := 2) hc12 (by decide)
        refine lv_tableOut (tgt := 73) hx hb dX0_cell_12 (by omega) (by decide) ?_
        refine lv_iconst (v := (-1 : Int32)) hx hb dX0_cell_73 (by decide) ?_
        exact cp_iret hx hb hr hlocks hF hP hS dX0_cell_74
end
