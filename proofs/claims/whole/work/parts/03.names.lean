/-! ===== BEGIN printed: names, fields, word lists, decode rows ===== -/
def RX0 : String := "BackMirror$Thing"
def TX0 : u_T := fun k => match k with
  | 0 => ("BackMirror$Thing", "kind", "I", true)
  | 1 => ("BackMirror$Thing", "rights", "I", true)
  | _ => ("BackMirror$Thing", "numbers", "[I", true)
def tyX0 : Nat → FieldType := fun k => match k with
  | 0 => .int
  | 1 => .int
  | _ => .array .int
abbrev wsX00 : List Cond := u_ws RX0 TX0 3
theorem nmX0 : ∀ a, a < 3 → ∀ b, b < 3 → a ≠ b → (TX0 a).2.1 ≠ (TX0 b).2.1 := by decide +kernel
theorem tyX0_ok : ∀ k, k < 3 → parseFieldDescriptor (TX0 k).2.2.1 = some (tyX0 k) := by decide +kernel
abbrev cX0_init : ByteArray := prog_2_method_1_code
def yX0_init : MethodName := ⟨RX0, "<init>", "(II[I)V"⟩
abbrev cX0_isLike : ByteArray := prog_2_method_2_code
def yX0_isLike : MethodName := ⟨RX0, "isLike", "(LBackMirror$Thing;)Z"⟩
def RX1 : String := "BackMirror"
def TX1 : u_T := fun k => match k with
  | 0 => ("BackMirror", "live", "[LBackMirror$Thing;", true)
  | 1 => ("BackMirror", "kept", "[LBackMirror$Thing;", true)
  | 2 => ("BackMirror", "oldestDate", "I", false)
  | 3 => ("BackMirror", "lastDate", "I", false)
  | 4 => ("BackMirror", "broken", "Z", false)
  | _ => ("BackMirror", "brokenSteps", "I", false)
def tyX1 : Nat → FieldType := fun k => match k with
  | 0 => .array (.object "BackMirror$Thing")
  | 1 => .array (.object "BackMirror$Thing")
  | 2 => .int
  | 3 => .int
  | 4 => .boolean
  | _ => .int
abbrev wsX10 : List Cond := u_ws RX1 TX1 6
theorem nmX1 : ∀ a, a < 6 → ∀ b, b < 6 → a ≠ b → (TX1 a).2.1 ≠ (TX1 b).2.1 := by decide +kernel
theorem tyX1_ok : ∀ k, k < 6 → parseFieldDescriptor (TX1 k).2.2.1 = some (tyX1 k) := by decide +kernel
abbrev cX1_init : ByteArray := prog_1_method_1_code
def yX1_init : MethodName := ⟨RX1, "<init>", "()V"⟩
abbrev cX1_makeFile : ByteArray := prog_1_method_2_code
def yX1_makeFile : MethodName := ⟨RX1, "makeFile", "(I)I"⟩
abbrev cX1_makeLink : ByteArray := prog_1_method_3_code
def yX1_makeLink : MethodName := ⟨RX1, "makeLink", "(II)I"⟩
abbrev cX1_remove : ByteArray := prog_1_method_4_code
def yX1_remove : MethodName := ⟨RX1, "remove", "(I)I"⟩
abbrev cX1_put : ByteArray := prog_1_method_5_code
def yX1_put : MethodName := ⟨RX1, "put", "(III)I"⟩
abbrev cX1_take : ByteArray := prog_1_method_6_code
def yX1_take : MethodName := ⟨RX1, "take", "(II)I"⟩
abbrev cX1_setRights : ByteArray := prog_1_method_7_code
def yX1_setRights : MethodName := ⟨RX1, "setRights", "(II)I"⟩
abbrev cX1_run : ByteArray := prog_1_method_8_code
def yX1_run : MethodName := ⟨RX1, "run", "(I)I"⟩
abbrev cX1_mend : ByteArray := prog_1_method_9_code
def yX1_mend : MethodName := ⟨RX1, "mend", "()I"⟩
abbrev cX1_thin : ByteArray := prog_1_method_10_code
def yX1_thin : MethodName := ⟨RX1, "thin", "(I)I"⟩
abbrev cX1_restore : ByteArray := prog_1_method_11_code
def yX1_restore : MethodName := ⟨RX1, "restore", "(I)I"⟩
abbrev cX1_last : ByteArray := prog_1_method_12_code
def yX1_last : MethodName := ⟨RX1, "last", "()I"⟩
abbrev cX1_oldest : ByteArray := prog_1_method_13_code
def yX1_oldest : MethodName := ⟨RX1, "oldest", "()I"⟩
abbrev cX1_isBroken : ByteArray := prog_1_method_14_code
def yX1_isBroken : MethodName := ⟨RX1, "isBroken", "()Z"⟩
abbrev cX1_needs : ByteArray := prog_1_method_15_code
def yX1_needs : MethodName := ⟨RX1, "needs", "()I"⟩
abbrev cX1_kindAt : ByteArray := prog_1_method_16_code
def yX1_kindAt : MethodName := ⟨RX1, "kindAt", "(II)I"⟩
abbrev cX1_numberAt : ByteArray := prog_1_method_17_code
def yX1_numberAt : MethodName := ⟨RX1, "numberAt", "(III)I"⟩
abbrev cX1_rightsAt : ByteArray := prog_1_method_18_code
def yX1_rightsAt : MethodName := ⟨RX1, "rightsAt", "(II)I"⟩
abbrev cX1_sizeAt : ByteArray := prog_1_method_19_code
def yX1_sizeAt : MethodName := ⟨RX1, "sizeAt", "(II)I"⟩
abbrev cX1_size : ByteArray := prog_1_method_20_code
def yX1_size : MethodName := ⟨RX1, "size", "()I"⟩
abbrev cX1_checkPlace : ByteArray := prog_1_method_21_code
def yX1_checkPlace : MethodName := ⟨RX1, "checkPlace", "(I)V"⟩
abbrev cX1_checkKept : ByteArray := prog_1_method_22_code
def yX1_checkKept : MethodName := ⟨RX1, "checkKept", "(I)V"⟩
abbrev cX1_keptIndex : ByteArray := prog_1_method_23_code
def yX1_keptIndex : MethodName := ⟨RX1, "keptIndex", "(II)I"⟩
abbrev cX1_thingOn : ByteArray := prog_1_method_24_code
def yX1_thingOn : MethodName := ⟨RX1, "thingOn", "(II)LBackMirror$Thing;"⟩
abbrev cX1_exchange : ByteArray := prog_1_method_25_code
def yX1_exchange : MethodName := ⟨RX1, "exchange", "(ILBackMirror$Thing;)I"⟩
abbrev cX1_stepsNeeded : ByteArray := prog_1_method_26_code
def yX1_stepsNeeded : MethodName := ⟨RX1, "stepsNeeded", "()I"⟩
abbrev cX1_undoBrokenRun : ByteArray := prog_1_method_27_code
def yX1_undoBrokenRun : MethodName := ⟨RX1, "undoBrokenRun", "()I"⟩
abbrev cX1_differenceTakes : ByteArray := prog_1_method_28_code
def yX1_differenceTakes : MethodName := ⟨RX1, "differenceTakes", "(II)I"⟩
abbrev cX1_rowTakes : ByteArray := prog_1_method_29_code
def yX1_rowTakes : MethodName := ⟨RX1, "rowTakes", "([I[I)I"⟩
abbrev cX1_longestCopy : ByteArray := prog_1_method_30_code
def yX1_longestCopy : MethodName := ⟨RX1, "longestCopy", "([II[I)I"⟩
abbrev cX1_sharedLength : ByteArray := prog_1_method_31_code
def yX1_sharedLength : MethodName := ⟨RX1, "sharedLength", "([II[II)I"⟩
abbrev cX1_isSameRow : ByteArray := prog_1_method_32_code
def yX1_isSameRow : MethodName := ⟨RX1, "isSameRow", "([I[I)Z"⟩
abbrev cX1_rowWith : ByteArray := prog_1_method_33_code
def yX1_rowWith : MethodName := ⟨RX1, "rowWith", "([III)[I"⟩
abbrev cX1_rowWithout : ByteArray := prog_1_method_34_code
def yX1_rowWithout : MethodName := ⟨RX1, "rowWithout", "([II)[I"⟩
def RX2 : String := "BackMirrorModel"
def TX2 : u_T := fun k => match k with
  | 0 => ("BackMirrorModel", "kinds", "[I", true)
  | 1 => ("BackMirrorModel", "rights", "[I", true)
  | 2 => ("BackMirrorModel", "lengths", "[I", true)
  | 3 => ("BackMirrorModel", "numbers", "[I", true)
  | 4 => ("BackMirrorModel", "last", "I", false)
  | 5 => ("BackMirrorModel", "oldest", "I", false)
  | 6 => ("BackMirrorModel", "isBroken", "Z", false)
  | 7 => ("BackMirrorModel", "made", "I", false)
  | _ => ("BackMirrorModel", "thrown", "I", false)
def tyX2 : Nat → FieldType := fun k => match k with
  | 0 => .array .int
  | 1 => .array .int
  | 2 => .array .int
  | 3 => .array .int
  | 4 => .int
  | 5 => .int
  | 6 => .boolean
  | 7 => .int
  | _ => .int
abbrev wsX20 : List Cond := u_ws RX2 TX2 9
theorem nmX2 : ∀ a, a < 9 → ∀ b, b < 9 → a ≠ b → (TX2 a).2.1 ≠ (TX2 b).2.1 := by decide +kernel
theorem tyX2_ok : ∀ k, k < 9 → parseFieldDescriptor (TX2 k).2.2.1 = some (tyX2 k) := by decide +kernel
abbrev cX2_init : ByteArray := prog_4_method_1_code
def yX2_init : MethodName := ⟨RX2, "<init>", "()V"⟩
abbrev cX2_thrown : ByteArray := prog_4_method_2_code
def yX2_thrown : MethodName := ⟨RX2, "thrown", "()I"⟩
abbrev cX2_goes : ByteArray := prog_4_method_3_code
def yX2_goes : MethodName := ⟨RX2, "goes", "(I)Z"⟩
abbrev cX2_isIn : ByteArray := prog_4_method_4_code
def yX2_isIn : MethodName := ⟨RX2, "isIn", "(III)Z"⟩
abbrev cX2_isPlace : ByteArray := prog_4_method_5_code
def yX2_isPlace : MethodName := ⟨RX2, "isPlace", "(I)Z"⟩
abbrev cX2_at : ByteArray := prog_4_method_6_code
def yX2_at : MethodName := ⟨RX2, "at", "(II)I"⟩
abbrev cX2_live : ByteArray := prog_4_method_7_code
def yX2_live : MethodName := ⟨RX2, "live", "(I)I"⟩
abbrev cX2_becomes : ByteArray := prog_4_method_8_code
def yX2_becomes : MethodName := ⟨RX2, "becomes", "(II)I"⟩
abbrev cX2_makeFile : ByteArray := prog_4_method_9_code
def yX2_makeFile : MethodName := ⟨RX2, "makeFile", "(I)I"⟩
abbrev cX2_makeLink : ByteArray := prog_4_method_10_code
def yX2_makeLink : MethodName := ⟨RX2, "makeLink", "(II)I"⟩
abbrev cX2_remove : ByteArray := prog_4_method_11_code
def yX2_remove : MethodName := ⟨RX2, "remove", "(I)I"⟩
abbrev cX2_put : ByteArray := prog_4_method_12_code
def yX2_put : MethodName := ⟨RX2, "put", "(III)I"⟩
abbrev cX2_take : ByteArray := prog_4_method_13_code
def yX2_take : MethodName := ⟨RX2, "take", "(II)I"⟩
abbrev cX2_setRights : ByteArray := prog_4_method_14_code
def yX2_setRights : MethodName := ⟨RX2, "setRights", "(II)I"⟩
abbrev cX2_areSameNumbers : ByteArray := prog_4_method_15_code
def yX2_areSameNumbers : MethodName := ⟨RX2, "areSameNumbers", "(II)Z"⟩
abbrev cX2_areSame : ByteArray := prog_4_method_16_code
def yX2_areSame : MethodName := ⟨RX2, "areSame", "(II)Z"⟩
abbrev cX2_differs : ByteArray := prog_4_method_17_code
def yX2_differs : MethodName := ⟨RX2, "differs", "(I)I"⟩
abbrev cX2_copies : ByteArray := prog_4_method_18_code
def yX2_copies : MethodName := ⟨RX2, "copies", "(II)V"⟩
abbrev cX2_mends : ByteArray := prog_4_method_19_code
def yX2_mends : MethodName := ⟨RX2, "mends", "()I"⟩
abbrev cX2_run : ByteArray := prog_4_method_20_code
def yX2_run : MethodName := ⟨RX2, "run", "(I)I"⟩
abbrev cX2_mend : ByteArray := prog_4_method_21_code
def yX2_mend : MethodName := ⟨RX2, "mend", "()I"⟩
abbrev cX2_thin : ByteArray := prog_4_method_22_code
def yX2_thin : MethodName := ⟨RX2, "thin", "(I)I"⟩
abbrev cX2_isKept : ByteArray := prog_4_method_23_code
def yX2_isKept : MethodName := ⟨RX2, "isKept", "(I)Z"⟩
abbrev cX2_restore : ByteArray := prog_4_method_24_code
def yX2_restore : MethodName := ⟨RX2, "restore", "(I)I"⟩
abbrev cX2_last : ByteArray := prog_4_method_25_code
def yX2_last : MethodName := ⟨RX2, "last", "()I"⟩
abbrev cX2_oldest : ByteArray := prog_4_method_26_code
def yX2_oldest : MethodName := ⟨RX2, "oldest", "()I"⟩
abbrev cX2_isBroken : ByteArray := prog_4_method_27_code
def yX2_isBroken : MethodName := ⟨RX2, "isBroken", "()Z"⟩
abbrev cX2_needs : ByteArray := prog_4_method_28_code
def yX2_needs : MethodName := ⟨RX2, "needs", "()I"⟩
abbrev cX2_asks : ByteArray := prog_4_method_29_code
def yX2_asks : MethodName := ⟨RX2, "asks", "(II)Z"⟩
abbrev cX2_where : ByteArray := prog_4_method_30_code
def yX2_where : MethodName := ⟨RX2, "where", "(II)I"⟩
abbrev cX2_kindAt : ByteArray := prog_4_method_31_code
def yX2_kindAt : MethodName := ⟨RX2, "kindAt", "(II)I"⟩
abbrev cX2_numberAt : ByteArray := prog_4_method_32_code
def yX2_numberAt : MethodName := ⟨RX2, "numberAt", "(III)I"⟩
abbrev cX2_rightsAt : ByteArray := prog_4_method_33_code
def yX2_rightsAt : MethodName := ⟨RX2, "rightsAt", "(II)I"⟩
abbrev cX2_longest : ByteArray := prog_4_method_34_code
def yX2_longest : MethodName := ⟨RX2, "longest", "(III)I"⟩
abbrev cX2_taken : ByteArray := prog_4_method_35_code
def yX2_taken : MethodName := ⟨RX2, "taken", "(II)I"⟩
abbrev cX2_takes : ByteArray := prog_4_method_36_code
def yX2_takes : MethodName := ⟨RX2, "takes", "(II)I"⟩
abbrev cX2_sizeOf : ByteArray := prog_4_method_37_code
def yX2_sizeOf : MethodName := ⟨RX2, "sizeOf", "(II)I"⟩
abbrev cX2_sizeAt : ByteArray := prog_4_method_38_code
def yX2_sizeAt : MethodName := ⟨RX2, "sizeAt", "(II)I"⟩
abbrev cX2_size : ByteArray := prog_4_method_39_code
def yX2_size : MethodName := ⟨RX2, "size", "()I"⟩
def RJ9 : String := "java/lang/Math"
def TJ9 : u_T := fun k => match k with
  | _ => ("", "", "", false)
def tyJ9 : Nat → FieldType := fun k => match k with
  | _ => .int
abbrev wsJ90 : List Cond := u_ws RJ9 TJ9 0
theorem nmJ9 : ∀ a, a < 0 → ∀ b, b < 0 → a ≠ b → (TJ9 a).2.1 ≠ (TJ9 b).2.1 := by decide +kernel
theorem tyJ9_ok : ∀ k, k < 0 → parseFieldDescriptor (TJ9 k).2.2.1 = some (tyJ9 k) := by decide +kernel
abbrev cJ9_max_7cf53 : ByteArray := prog_9_method_65_code
def yJ9_max_7cf53 : MethodName := ⟨RJ9, "max", "(II)I"⟩
def RJ0 : String := "java/lang/String"
def TJ0 : u_T := fun k => match k with
  | _ => ("", "", "", false)
def tyJ0 : Nat → FieldType := fun k => match k with
  | _ => .int
abbrev wsJ00 : List Cond := u_ws RJ0 TJ0 0
theorem nmJ0 : ∀ a, a < 0 → ∀ b, b < 0 → a ≠ b → (TJ0 a).2.1 ≠ (TJ0 b).2.1 := by decide +kernel
theorem tyJ0_ok : ∀ k, k < 0 → parseFieldDescriptor (TJ0 k).2.2.1 = some (tyJ0 k) := by decide +kernel
def RL : String := "BackMirrorLaw"
abbrev cL_makeFile : ByteArray := method_3_code
def yL_makeFile : MethodName := ⟨RL, "makeFile", "(LBackMirror;I[J)I"⟩
abbrev cL_makeLink : ByteArray := method_4_code
def yL_makeLink : MethodName := ⟨RL, "makeLink", "(LBackMirror;II[J)I"⟩
abbrev cL_remove : ByteArray := method_5_code
def yL_remove : MethodName := ⟨RL, "remove", "(LBackMirror;I[J)I"⟩
abbrev cL_put : ByteArray := method_6_code
def yL_put : MethodName := ⟨RL, "put", "(LBackMirror;III[J)I"⟩
abbrev cL_take : ByteArray := method_7_code
def yL_take : MethodName := ⟨RL, "take", "(LBackMirror;II[J)I"⟩
abbrev cL_setRights : ByteArray := method_8_code
def yL_setRights : MethodName := ⟨RL, "setRights", "(LBackMirror;II[J)I"⟩
abbrev cL_run : ByteArray := method_9_code
def yL_run : MethodName := ⟨RL, "run", "(LBackMirror;I[J)I"⟩
abbrev cL_thin : ByteArray := method_10_code
def yL_thin : MethodName := ⟨RL, "thin", "(LBackMirror;I[J)I"⟩
abbrev cL_restore : ByteArray := method_11_code
def yL_restore : MethodName := ⟨RL, "restore", "(LBackMirror;I[J)I"⟩
abbrev cL_kindAt : ByteArray := method_12_code
def yL_kindAt : MethodName := ⟨RL, "kindAt", "(LBackMirror;II[J)I"⟩
abbrev cL_numberAt : ByteArray := method_13_code
def yL_numberAt : MethodName := ⟨RL, "numberAt", "(LBackMirror;III[J)I"⟩
abbrev cL_rightsAt : ByteArray := method_14_code
def yL_rightsAt : MethodName := ⟨RL, "rightsAt", "(LBackMirror;II[J)I"⟩
abbrev cL_sizeAt : ByteArray := method_15_code
def yL_sizeAt : MethodName := ⟨RL, "sizeAt", "(LBackMirror;II[J)I"⟩
abbrev cL_law : ByteArray := code
def yL_law : MethodName := ⟨RL, "law", "([I)Z"⟩
def wsX0_init : List Cond := .code yX0_init cX0_init 4 none :: ([.methodLink RX0 1 objectInit, .instanceMethod objectInit, .code objectInit ⟨#[0xb1]⟩ 1 none, .fieldLink RX0 7 "BackMirror$Thing" "kind" "I", .fieldLink RX0 13 "BackMirror$Thing" "rights" "I", .fieldLink RX0 16 "BackMirror$Thing" "numbers" "[I"] ++ wsX00)
def wsX1_sharedLength : List Cond := .code yX1_sharedLength cX1_sharedLength 5 (some .int) :: ([])
def wsX1_isSameRow : List Cond := .code yX1_isSameRow cX1_isSameRow 2 (some .boolean) :: ([.methodLink RX1 129 yX1_sharedLength, .static yX1_sharedLength, .initialized RX1, .code yX1_sharedLength cX1_sharedLength 5 (some .int)])
def wsX0_isLike : List Cond := .code yX0_isLike cX0_isLike 2 (some .boolean) :: ([.fieldLink RX0 7 "BackMirror$Thing" "kind" "I", .fieldLink RX0 13 "BackMirror$Thing" "rights" "I", .fieldLink RX0 16 "BackMirror$Thing" "numbers" "[I", .static yX1_isSameRow, .initialized RX1, .code yX1_isSameRow cX1_isSameRow 2 (some .boolean), .methodLink RX1 129 yX1_sharedLength, .static yX1_sharedLength, .code yX1_sharedLength cX1_sharedLength 5 (some .int)] ++ wsX00)
def wsX1_init : List Cond := .code yX1_init cX1_init 3 none :: ([.methodLink RX1 1 objectInit, .instanceMethod objectInit, .code objectInit ⟨#[0xb1]⟩ 1 none, .classLink RX1 7 RX0, .instantiable RX0 3, .initialized RX0, .arrayClass .int, .fieldLink RX1 14 "BackMirror" "live" "[LBackMirror$Thing;", .fieldLink RX1 18 "BackMirror" "kept" "[LBackMirror$Thing;", .fieldLink RX1 21 "BackMirror" "oldestDate" "I", .fieldLink RX1 25 "BackMirror" "lastDate" "I", .fieldLink RX1 28 "BackMirror" "broken" "Z", .fieldLink RX1 32 "BackMirror" "brokenSteps" "I", .methodLink RX1 11 yX0_init, .instanceMethod yX0_init, .code yX0_init cX0_init 4 none, .methodLink RX0 1 objectInit, .fieldLink RX0 7 "BackMirror$Thing" "kind" "I", .fieldLink RX0 13 "BackMirror$Thing" "rights" "I", .fieldLink RX0 16 "BackMirror$Thing" "numbers" "[I"] ++ wsX00 ++ wsX10)
def wsX1_checkPlace : List Cond := .code yX1_checkPlace cX1_checkPlace 1 none :: ([.classLink RX1 111 "java/lang/IndexOutOfBoundsException", .initialized "java/lang/IndexOutOfBoundsException"] ++ (vx_atS RX1 113 "java/lang/IndexOutOfBoundsException" ["java/lang/RuntimeException", "java/lang/Exception"]).filter goodWord)
def wsX1_exchange : List Cond := .code yX1_exchange cX1_exchange 4 (some .int) :: ([.fieldLink RX1 14 "BackMirror" "live" "[LBackMirror$Thing;", .fieldLink RX1 47 "BackMirror$Thing" "kind" "I"] ++ wsX10 ++ wsX00)
def wsX1_makeFile_r1 : List Cond := [Cond.classLink RX1 7 RX0, Cond.instantiable RX0 3, Cond.initialized RX0, Cond.arrayClass .int, Cond.methodLink RX1 35 yX1_checkPlace, Cond.static yX1_checkPlace, Cond.initialized RX1, Cond.code yX1_checkPlace cX1_checkPlace 1 none, Cond.classLink RX1 111 "java/lang/IndexOutOfBoundsException", Cond.initialized "java/lang/IndexOutOfBoundsException", Cond.methodLink RX1 11 yX0_init, Cond.instanceMethod yX0_init, Cond.code yX0_init cX0_init 4 none, Cond.methodLink RX0 1 objectInit, Cond.instanceMethod objectInit, Cond.code objectInit ⟨#[0xb1]⟩ 1 none, Cond.fieldLink RX0 7 "BackMirror$Thing" "kind" "I", Cond.fieldLink RX0 13 "BackMirror$Thing" "rights" "I", Cond.fieldLink RX0 16 "BackMirror$Thing" "numbers" "[I", Cond.methodLink RX1 39 yX1_exchange, Cond.instanceMethod yX1_exchange, Cond.selects RX1 yX1_exchange yX1_exchange, Cond.code yX1_exchange cX1_exchange 4 (some .int), Cond.fieldLink RX1 14 "BackMirror" "live" "[LBackMirror$Thing;"]
def wsX1_makeFile_r2 : List Cond := [Cond.fieldLink RX1 47 "BackMirror$Thing" "kind" "I"]
def wsX1_makeFile : List Cond := .code yX1_makeFile cX1_makeFile 2 (some .int) :: ((wsX1_makeFile_r1 ++ wsX1_makeFile_r2) ++ wsX00 ++ wsX10 ++ (vx_atS RX1 113 "java/lang/IndexOutOfBoundsException" ["java/lang/RuntimeException", "java/lang/Exception"]).filter goodWord)
def wsX1_makeLink_r1 : List Cond := [Cond.classLink RX1 7 RX0, Cond.instantiable RX0 3, Cond.initialized RX0, Cond.arrayClass .int, Cond.methodLink RX1 35 yX1_checkPlace, Cond.static yX1_checkPlace, Cond.initialized RX1, Cond.code yX1_checkPlace cX1_checkPlace 1 none, Cond.classLink RX1 111 "java/lang/IndexOutOfBoundsException", Cond.initialized "java/lang/IndexOutOfBoundsException", Cond.methodLink RX1 11 yX0_init, Cond.instanceMethod yX0_init, Cond.code yX0_init cX0_init 4 none, Cond.methodLink RX0 1 objectInit, Cond.instanceMethod objectInit, Cond.code objectInit ⟨#[0xb1]⟩ 1 none, Cond.fieldLink RX0 7 "BackMirror$Thing" "kind" "I", Cond.fieldLink RX0 13 "BackMirror$Thing" "rights" "I", Cond.fieldLink RX0 16 "BackMirror$Thing" "numbers" "[I", Cond.methodLink RX1 39 yX1_exchange, Cond.instanceMethod yX1_exchange, Cond.selects RX1 yX1_exchange yX1_exchange, Cond.code yX1_exchange cX1_exchange 4 (some .int), Cond.fieldLink RX1 14 "BackMirror" "live" "[LBackMirror$Thing;"]
def wsX1_makeLink_r2 : List Cond := [Cond.fieldLink RX1 47 "BackMirror$Thing" "kind" "I"]
def wsX1_makeLink : List Cond := .code yX1_makeLink cX1_makeLink 3 (some .int) :: ((wsX1_makeLink_r1 ++ wsX1_makeLink_r2) ++ wsX00 ++ wsX10 ++ (vx_atS RX1 113 "java/lang/IndexOutOfBoundsException" ["java/lang/RuntimeException", "java/lang/Exception"]).filter goodWord)
def wsX1_remove_r1 : List Cond := [Cond.classLink RX1 7 RX0, Cond.instantiable RX0 3, Cond.initialized RX0, Cond.arrayClass .int, Cond.methodLink RX1 35 yX1_checkPlace, Cond.static yX1_checkPlace, Cond.initialized RX1, Cond.code yX1_checkPlace cX1_checkPlace 1 none, Cond.classLink RX1 111 "java/lang/IndexOutOfBoundsException", Cond.initialized "java/lang/IndexOutOfBoundsException", Cond.methodLink RX1 11 yX0_init, Cond.instanceMethod yX0_init, Cond.code yX0_init cX0_init 4 none, Cond.methodLink RX0 1 objectInit, Cond.instanceMethod objectInit, Cond.code objectInit ⟨#[0xb1]⟩ 1 none, Cond.fieldLink RX0 7 "BackMirror$Thing" "kind" "I", Cond.fieldLink RX0 13 "BackMirror$Thing" "rights" "I", Cond.fieldLink RX0 16 "BackMirror$Thing" "numbers" "[I", Cond.methodLink RX1 39 yX1_exchange, Cond.instanceMethod yX1_exchange, Cond.selects RX1 yX1_exchange yX1_exchange, Cond.code yX1_exchange cX1_exchange 4 (some .int), Cond.fieldLink RX1 14 "BackMirror" "live" "[LBackMirror$Thing;"]
def wsX1_remove_r2 : List Cond := [Cond.fieldLink RX1 47 "BackMirror$Thing" "kind" "I"]
def wsX1_remove : List Cond := .code yX1_remove cX1_remove 2 (some .int) :: ((wsX1_remove_r1 ++ wsX1_remove_r2) ++ wsX00 ++ wsX10 ++ (vx_atS RX1 113 "java/lang/IndexOutOfBoundsException" ["java/lang/RuntimeException", "java/lang/Exception"]).filter goodWord)
def wsX1_rowWith : List Cond := .code yX1_rowWith cX1_rowWith 5 (some (.array .int)) :: ([.arrayClass .int])
def wsX1_put_r1 : List Cond := [Cond.classLink RX1 50 "java/lang/IllegalStateException", Cond.initialized "java/lang/IllegalStateException", Cond.classLink RX1 57 "java/lang/IllegalArgumentException", Cond.initialized "java/lang/IllegalArgumentException", Cond.fieldLink RX1 14 "BackMirror" "live" "[LBackMirror$Thing;", Cond.fieldLink RX1 43 "BackMirror$Thing" "numbers" "[I", Cond.fieldLink RX1 47 "BackMirror$Thing" "kind" "I", Cond.classLink RX1 7 RX0, Cond.instantiable RX0 3, Cond.initialized RX0, Cond.fieldLink RX1 62 "BackMirror$Thing" "rights" "I", Cond.methodLink RX1 35 yX1_checkPlace, Cond.static yX1_checkPlace, Cond.initialized RX1, Cond.code yX1_checkPlace cX1_checkPlace 1 none, Cond.classLink RX1 111 "java/lang/IndexOutOfBoundsException", Cond.initialized "java/lang/IndexOutOfBoundsException", Cond.methodLink RX1 65 yX1_rowWith, Cond.static yX1_rowWith, Cond.code yX1_rowWith cX1_rowWith 5 (some (.array .int)), Cond.arrayClass .int, Cond.methodLink RX1 11 yX0_init, Cond.instanceMethod yX0_init, Cond.code yX0_init cX0_init 4 none]
def wsX1_put_r2 : List Cond := [Cond.methodLink RX0 1 objectInit, Cond.instanceMethod objectInit, Cond.code objectInit ⟨#[0xb1]⟩ 1 none, Cond.fieldLink RX0 7 "BackMirror$Thing" "kind" "I", Cond.fieldLink RX0 13 "BackMirror$Thing" "rights" "I", Cond.fieldLink RX0 16 "BackMirror$Thing" "numbers" "[I"]
def wsX1_put : List Cond := .code yX1_put cX1_put 6 (some .int) :: ((wsX1_put_r1 ++ wsX1_put_r2) ++ wsX10 ++ wsX00 ++ (vx_atS RX1 54 "java/lang/IllegalStateException" ["java/lang/RuntimeException", "java/lang/Exception"]).filter goodWord ++ (vx_atS RX1 61 "java/lang/IllegalArgumentException" ["java/lang/RuntimeException", "java/lang/Exception"]).filter goodWord ++ (vx_atS RX1 113 "java/lang/IndexOutOfBoundsException" ["java/lang/RuntimeException", "java/lang/Exception"]).filter goodWord)
def wsX1_rowWithout : List Cond := .code yX1_rowWithout cX1_rowWithout 4 (some (.array .int)) :: ([.arrayClass .int])
def wsX1_take_r1 : List Cond := [Cond.classLink RX1 50 "java/lang/IllegalStateException", Cond.initialized "java/lang/IllegalStateException", Cond.classLink RX1 57 "java/lang/IllegalArgumentException", Cond.initialized "java/lang/IllegalArgumentException", Cond.fieldLink RX1 14 "BackMirror" "live" "[LBackMirror$Thing;", Cond.fieldLink RX1 47 "BackMirror$Thing" "kind" "I", Cond.fieldLink RX1 43 "BackMirror$Thing" "numbers" "[I", Cond.classLink RX1 7 RX0, Cond.instantiable RX0 3, Cond.initialized RX0, Cond.fieldLink RX1 62 "BackMirror$Thing" "rights" "I", Cond.methodLink RX1 35 yX1_checkPlace, Cond.static yX1_checkPlace, Cond.initialized RX1, Cond.code yX1_checkPlace cX1_checkPlace 1 none, Cond.classLink RX1 111 "java/lang/IndexOutOfBoundsException", Cond.initialized "java/lang/IndexOutOfBoundsException", Cond.methodLink RX1 73 yX1_rowWithout, Cond.static yX1_rowWithout, Cond.code yX1_rowWithout cX1_rowWithout 4 (some (.array .int)), Cond.arrayClass .int, Cond.methodLink RX1 11 yX0_init, Cond.instanceMethod yX0_init, Cond.code yX0_init cX0_init 4 none]
def wsX1_take_r2 : List Cond := [Cond.methodLink RX0 1 objectInit, Cond.instanceMethod objectInit, Cond.code objectInit ⟨#[0xb1]⟩ 1 none, Cond.fieldLink RX0 7 "BackMirror$Thing" "kind" "I", Cond.fieldLink RX0 13 "BackMirror$Thing" "rights" "I", Cond.fieldLink RX0 16 "BackMirror$Thing" "numbers" "[I"]
def wsX1_take : List Cond := .code yX1_take cX1_take 4 (some .int) :: ((wsX1_take_r1 ++ wsX1_take_r2) ++ wsX10 ++ wsX00 ++ (vx_atS RX1 54 "java/lang/IllegalStateException" ["java/lang/RuntimeException", "java/lang/Exception"]).filter goodWord ++ (vx_atS RX1 61 "java/lang/IllegalArgumentException" ["java/lang/RuntimeException", "java/lang/Exception"]).filter goodWord ++ (vx_atS RX1 113 "java/lang/IndexOutOfBoundsException" ["java/lang/RuntimeException", "java/lang/Exception"]).filter goodWord)
def wsX1_setRights_r1 : List Cond := [Cond.classLink RX1 50 "java/lang/IllegalStateException", Cond.initialized "java/lang/IllegalStateException", Cond.classLink RX1 57 "java/lang/IllegalArgumentException", Cond.initialized "java/lang/IllegalArgumentException", Cond.fieldLink RX1 14 "BackMirror" "live" "[LBackMirror$Thing;", Cond.fieldLink RX1 47 "BackMirror$Thing" "kind" "I", Cond.classLink RX1 7 RX0, Cond.instantiable RX0 3, Cond.initialized RX0, Cond.fieldLink RX1 43 "BackMirror$Thing" "numbers" "[I", Cond.fieldLink RX1 62 "BackMirror$Thing" "rights" "I", Cond.methodLink RX1 35 yX1_checkPlace, Cond.static yX1_checkPlace, Cond.initialized RX1, Cond.code yX1_checkPlace cX1_checkPlace 1 none, Cond.classLink RX1 111 "java/lang/IndexOutOfBoundsException", Cond.initialized "java/lang/IndexOutOfBoundsException", Cond.methodLink RX1 11 yX0_init, Cond.instanceMethod yX0_init, Cond.code yX0_init cX0_init 4 none, Cond.methodLink RX0 1 objectInit, Cond.instanceMethod objectInit, Cond.code objectInit ⟨#[0xb1]⟩ 1 none, Cond.fieldLink RX0 7 "BackMirror$Thing" "kind" "I"]
def wsX1_setRights_r2 : List Cond := [Cond.fieldLink RX0 13 "BackMirror$Thing" "rights" "I", Cond.fieldLink RX0 16 "BackMirror$Thing" "numbers" "[I"]
def wsX1_setRights : List Cond := .code yX1_setRights cX1_setRights 4 (some .int) :: ((wsX1_setRights_r1 ++ wsX1_setRights_r2) ++ wsX10 ++ wsX00 ++ (vx_atS RX1 54 "java/lang/IllegalStateException" ["java/lang/RuntimeException", "java/lang/Exception"]).filter goodWord ++ (vx_atS RX1 61 "java/lang/IllegalArgumentException" ["java/lang/RuntimeException", "java/lang/Exception"]).filter goodWord ++ (vx_atS RX1 113 "java/lang/IndexOutOfBoundsException" ["java/lang/RuntimeException", "java/lang/Exception"]).filter goodWord)
def wsX1_undoBrokenRun : List Cond := .code yX1_undoBrokenRun cX1_undoBrokenRun 2 (some .int) :: ([.fieldLink RX1 32 "BackMirror" "brokenSteps" "I", .fieldLink RX1 28 "BackMirror" "broken" "Z"] ++ wsX10)
def wsX1_keptIndex : List Cond := .code yX1_keptIndex cX1_keptIndex 2 (some .int) :: ([])
def wsX1_stepsNeeded : List Cond := .code yX1_stepsNeeded cX1_stepsNeeded 3 (some .int) :: ([.fieldLink RX1 14 "BackMirror" "live" "[LBackMirror$Thing;", .fieldLink RX1 18 "BackMirror" "kept" "[LBackMirror$Thing;", .fieldLink RX1 25 "BackMirror" "lastDate" "I", .methodLink RX1 92 yX1_keptIndex, .static yX1_keptIndex, .initialized RX1, .code yX1_keptIndex cX1_keptIndex 2 (some .int), .methodLink RX1 103 yX0_isLike, .instanceMethod yX0_isLike, .selects RX0 yX0_isLike yX0_isLike, .initialized RX0, .code yX0_isLike cX0_isLike 2 (some .boolean), .fieldLink RX0 7 "BackMirror$Thing" "kind" "I", .fieldLink RX0 13 "BackMirror$Thing" "rights" "I", .fieldLink RX0 16 "BackMirror$Thing" "numbers" "[I", .static yX1_isSameRow, .code yX1_isSameRow cX1_isSameRow 2 (some .boolean), .methodLink RX1 129 yX1_sharedLength, .static yX1_sharedLength, .code yX1_sharedLength cX1_sharedLength 5 (some .int)] ++ wsX10 ++ wsX00)
def wsX1_run_r1 : List Cond := [Cond.classLink RX1 57 "java/lang/IllegalArgumentException", Cond.initialized "java/lang/IllegalArgumentException", Cond.classLink RX1 50 "java/lang/IllegalStateException", Cond.initialized "java/lang/IllegalStateException", Cond.fieldLink RX1 25 "BackMirror" "lastDate" "I", Cond.fieldLink RX1 28 "BackMirror" "broken" "Z", Cond.fieldLink RX1 32 "BackMirror" "brokenSteps" "I", Cond.fieldLink RX1 18 "BackMirror" "kept" "[LBackMirror$Thing;", Cond.fieldLink RX1 14 "BackMirror" "live" "[LBackMirror$Thing;", Cond.methodLink RX1 85 yX1_undoBrokenRun, Cond.instanceMethod yX1_undoBrokenRun, Cond.selects RX1 yX1_undoBrokenRun yX1_undoBrokenRun, Cond.initialized RX1, Cond.code yX1_undoBrokenRun cX1_undoBrokenRun 2 (some .int), Cond.methodLink RX1 89 yX1_stepsNeeded, Cond.instanceMethod yX1_stepsNeeded, Cond.selects RX1 yX1_stepsNeeded yX1_stepsNeeded, Cond.code yX1_stepsNeeded cX1_stepsNeeded 3 (some .int), Cond.methodLink RX1 92 yX1_keptIndex, Cond.static yX1_keptIndex, Cond.code yX1_keptIndex cX1_keptIndex 2 (some .int), Cond.methodLink RX1 103 yX0_isLike, Cond.instanceMethod yX0_isLike, Cond.selects RX0 yX0_isLike yX0_isLike]
def wsX1_run_r2 : List Cond := [Cond.initialized RX0, Cond.code yX0_isLike cX0_isLike 2 (some .boolean), Cond.fieldLink RX0 7 "BackMirror$Thing" "kind" "I", Cond.fieldLink RX0 13 "BackMirror$Thing" "rights" "I", Cond.fieldLink RX0 16 "BackMirror$Thing" "numbers" "[I", Cond.static yX1_isSameRow, Cond.code yX1_isSameRow cX1_isSameRow 2 (some .boolean), Cond.methodLink RX1 129 yX1_sharedLength, Cond.static yX1_sharedLength, Cond.code yX1_sharedLength cX1_sharedLength 5 (some .int)]
def wsX1_run : List Cond := .code yX1_run cX1_run 3 (some .int) :: ((wsX1_run_r1 ++ wsX1_run_r2) ++ wsX10 ++ wsX00 ++ (vx_atS RX1 61 "java/lang/IllegalArgumentException" ["java/lang/RuntimeException", "java/lang/Exception"]).filter goodWord ++ (vx_atS RX1 54 "java/lang/IllegalStateException" ["java/lang/RuntimeException", "java/lang/Exception"]).filter goodWord)
def wsX1_mend : List Cond := .code yX1_mend cX1_mend 1 (some .int) :: ([.methodLink RX1 85 yX1_undoBrokenRun, .instanceMethod yX1_undoBrokenRun, .selects RX1 yX1_undoBrokenRun yX1_undoBrokenRun, .initialized RX1, .code yX1_undoBrokenRun cX1_undoBrokenRun 2 (some .int), .fieldLink RX1 32 "BackMirror" "brokenSteps" "I", .fieldLink RX1 28 "BackMirror" "broken" "Z"] ++ wsX10)
def wsX1_thin : List Cond := .code yX1_thin cX1_thin 2 (some .int) :: ([.classLink RX1 57 "java/lang/IllegalArgumentException", .initialized "java/lang/IllegalArgumentException", .classLink RX1 50 "java/lang/IllegalStateException", .initialized "java/lang/IllegalStateException", .fieldLink RX1 21 "BackMirror" "oldestDate" "I", .fieldLink RX1 25 "BackMirror" "lastDate" "I", .methodLink RX1 85 yX1_undoBrokenRun, .instanceMethod yX1_undoBrokenRun, .selects RX1 yX1_undoBrokenRun yX1_undoBrokenRun, .initialized RX1, .code yX1_undoBrokenRun cX1_undoBrokenRun 2 (some .int), .fieldLink RX1 32 "BackMirror" "brokenSteps" "I", .fieldLink RX1 28 "BackMirror" "broken" "Z"] ++ wsX10 ++ (vx_atS RX1 61 "java/lang/IllegalArgumentException" ["java/lang/RuntimeException", "java/lang/Exception"]).filter goodWord ++ (vx_atS RX1 54 "java/lang/IllegalStateException" ["java/lang/RuntimeException", "java/lang/Exception"]).filter goodWord)
def wsX1_checkKept : List Cond := .code yX1_checkKept cX1_checkKept 2 none :: ([.classLink RX1 111 "java/lang/IndexOutOfBoundsException", .initialized "java/lang/IndexOutOfBoundsException", .fieldLink RX1 21 "BackMirror" "oldestDate" "I", .fieldLink RX1 25 "BackMirror" "lastDate" "I"] ++ wsX10 ++ (vx_atS RX1 113 "java/lang/IndexOutOfBoundsException" ["java/lang/RuntimeException", "java/lang/Exception"]).filter goodWord)
def wsX1_restore_r1 : List Cond := [Cond.fieldLink RX1 18 "BackMirror" "kept" "[LBackMirror$Thing;", Cond.fieldLink RX1 14 "BackMirror" "live" "[LBackMirror$Thing;", Cond.methodLink RX1 100 yX1_checkKept, Cond.instanceMethod yX1_checkKept, Cond.selects RX1 yX1_checkKept yX1_checkKept, Cond.initialized RX1, Cond.code yX1_checkKept cX1_checkKept 2 none, Cond.classLink RX1 111 "java/lang/IndexOutOfBoundsException", Cond.initialized "java/lang/IndexOutOfBoundsException", Cond.fieldLink RX1 21 "BackMirror" "oldestDate" "I", Cond.fieldLink RX1 25 "BackMirror" "lastDate" "I", Cond.methodLink RX1 85 yX1_undoBrokenRun, Cond.instanceMethod yX1_undoBrokenRun, Cond.selects RX1 yX1_undoBrokenRun yX1_undoBrokenRun, Cond.code yX1_undoBrokenRun cX1_undoBrokenRun 2 (some .int), Cond.fieldLink RX1 32 "BackMirror" "brokenSteps" "I", Cond.fieldLink RX1 28 "BackMirror" "broken" "Z", Cond.methodLink RX1 92 yX1_keptIndex, Cond.static yX1_keptIndex, Cond.code yX1_keptIndex cX1_keptIndex 2 (some .int), Cond.methodLink RX1 103 yX0_isLike, Cond.instanceMethod yX0_isLike, Cond.selects RX0 yX0_isLike yX0_isLike, Cond.initialized RX0]
def wsX1_restore_r2 : List Cond := [Cond.code yX0_isLike cX0_isLike 2 (some .boolean), Cond.fieldLink RX0 7 "BackMirror$Thing" "kind" "I", Cond.fieldLink RX0 13 "BackMirror$Thing" "rights" "I", Cond.fieldLink RX0 16 "BackMirror$Thing" "numbers" "[I", Cond.static yX1_isSameRow, Cond.code yX1_isSameRow cX1_isSameRow 2 (some .boolean), Cond.methodLink RX1 129 yX1_sharedLength, Cond.static yX1_sharedLength, Cond.code yX1_sharedLength cX1_sharedLength 5 (some .int)]
def wsX1_restore : List Cond := .code yX1_restore cX1_restore 5 (some .int) :: ((wsX1_restore_r1 ++ wsX1_restore_r2) ++ wsX10 ++ wsX00 ++ (vx_atS RX1 113 "java/lang/IndexOutOfBoundsException" ["java/lang/RuntimeException", "java/lang/Exception"]).filter goodWord)
def wsX1_last : List Cond := .code yX1_last cX1_last 1 (some .int) :: ([.fieldLink RX1 25 "BackMirror" "lastDate" "I"] ++ wsX10)
def wsX1_oldest : List Cond := .code yX1_oldest cX1_oldest 1 (some .int) :: ([.fieldLink RX1 21 "BackMirror" "oldestDate" "I"] ++ wsX10)
def wsX1_isBroken : List Cond := .code yX1_isBroken cX1_isBroken 1 (some .boolean) :: ([.fieldLink RX1 28 "BackMirror" "broken" "Z"] ++ wsX10)
def wsX1_needs : List Cond := .code yX1_needs cX1_needs 1 (some .int) :: ([.methodLink RX1 89 yX1_stepsNeeded, .instanceMethod yX1_stepsNeeded, .selects RX1 yX1_stepsNeeded yX1_stepsNeeded, .initialized RX1, .code yX1_stepsNeeded cX1_stepsNeeded 3 (some .int), .fieldLink RX1 14 "BackMirror" "live" "[LBackMirror$Thing;", .fieldLink RX1 18 "BackMirror" "kept" "[LBackMirror$Thing;", .fieldLink RX1 25 "BackMirror" "lastDate" "I", .methodLink RX1 92 yX1_keptIndex, .static yX1_keptIndex, .code yX1_keptIndex cX1_keptIndex 2 (some .int), .methodLink RX1 103 yX0_isLike, .instanceMethod yX0_isLike, .selects RX0 yX0_isLike yX0_isLike, .initialized RX0, .code yX0_isLike cX0_isLike 2 (some .boolean), .fieldLink RX0 7 "BackMirror$Thing" "kind" "I", .fieldLink RX0 13 "BackMirror$Thing" "rights" "I", .fieldLink RX0 16 "BackMirror$Thing" "numbers" "[I", .static yX1_isSameRow, .code yX1_isSameRow cX1_isSameRow 2 (some .boolean), .methodLink RX1 129 yX1_sharedLength, .static yX1_sharedLength, .code yX1_sharedLength cX1_sharedLength 5 (some .int)] ++ wsX10 ++ wsX00)
def wsX1_thingOn : List Cond := .code yX1_thingOn cX1_thingOn 3 (some (.object "BackMirror$Thing")) :: ([.fieldLink RX1 14 "BackMirror" "live" "[LBackMirror$Thing;", .fieldLink RX1 18 "BackMirror" "kept" "[LBackMirror$Thing;", .methodLink RX1 100 yX1_checkKept, .instanceMethod yX1_checkKept, .selects RX1 yX1_checkKept yX1_checkKept, .initialized RX1, .code yX1_checkKept cX1_checkKept 2 none, .classLink RX1 111 "java/lang/IndexOutOfBoundsException", .initialized "java/lang/IndexOutOfBoundsException", .fieldLink RX1 21 "BackMirror" "oldestDate" "I", .fieldLink RX1 25 "BackMirror" "lastDate" "I", .methodLink RX1 35 yX1_checkPlace, .static yX1_checkPlace, .code yX1_checkPlace cX1_checkPlace 1 none, .methodLink RX1 92 yX1_keptIndex, .static yX1_keptIndex, .code yX1_keptIndex cX1_keptIndex 2 (some .int)] ++ wsX10 ++ (vx_atS RX1 113 "java/lang/IndexOutOfBoundsException" ["java/lang/RuntimeException", "java/lang/Exception"]).filter goodWord)
def wsX1_kindAt : List Cond := .code yX1_kindAt cX1_kindAt 3 (some .int) :: ([.fieldLink RX1 47 "BackMirror$Thing" "kind" "I", .methodLink RX1 107 yX1_thingOn, .instanceMethod yX1_thingOn, .selects RX1 yX1_thingOn yX1_thingOn, .initialized RX1, .code yX1_thingOn cX1_thingOn 3 (some (.object "BackMirror$Thing")), .fieldLink RX1 14 "BackMirror" "live" "[LBackMirror$Thing;", .fieldLink RX1 18 "BackMirror" "kept" "[LBackMirror$Thing;", .methodLink RX1 100 yX1_checkKept, .instanceMethod yX1_checkKept, .selects RX1 yX1_checkKept yX1_checkKept, .code yX1_checkKept cX1_checkKept 2 none, .classLink RX1 111 "java/lang/IndexOutOfBoundsException", .initialized "java/lang/IndexOutOfBoundsException", .fieldLink RX1 21 "BackMirror" "oldestDate" "I", .fieldLink RX1 25 "BackMirror" "lastDate" "I", .methodLink RX1 35 yX1_checkPlace, .static yX1_checkPlace, .code yX1_checkPlace cX1_checkPlace 1 none, .methodLink RX1 92 yX1_keptIndex, .static yX1_keptIndex, .code yX1_keptIndex cX1_keptIndex 2 (some .int)] ++ wsX00 ++ wsX10 ++ (vx_atS RX1 113 "java/lang/IndexOutOfBoundsException" ["java/lang/RuntimeException", "java/lang/Exception"]).filter goodWord)
def wsX1_numberAt : List Cond := .code yX1_numberAt cX1_numberAt 5 (some .int) :: ([.classLink RX1 111 "java/lang/IndexOutOfBoundsException", .initialized "java/lang/IndexOutOfBoundsException", .fieldLink RX1 43 "BackMirror$Thing" "numbers" "[I", .methodLink RX1 107 yX1_thingOn, .instanceMethod yX1_thingOn, .selects RX1 yX1_thingOn yX1_thingOn, .initialized RX1, .code yX1_thingOn cX1_thingOn 3 (some (.object "BackMirror$Thing")), .fieldLink RX1 14 "BackMirror" "live" "[LBackMirror$Thing;", .fieldLink RX1 18 "BackMirror" "kept" "[LBackMirror$Thing;", .methodLink RX1 100 yX1_checkKept, .instanceMethod yX1_checkKept, .selects RX1 yX1_checkKept yX1_checkKept, .code yX1_checkKept cX1_checkKept 2 none, .fieldLink RX1 21 "BackMirror" "oldestDate" "I", .fieldLink RX1 25 "BackMirror" "lastDate" "I", .methodLink RX1 35 yX1_checkPlace, .static yX1_checkPlace, .code yX1_checkPlace cX1_checkPlace 1 none, .methodLink RX1 92 yX1_keptIndex, .static yX1_keptIndex, .code yX1_keptIndex cX1_keptIndex 2 (some .int)] ++ wsX00 ++ wsX10 ++ (vx_atS RX1 113 "java/lang/IndexOutOfBoundsException" ["java/lang/RuntimeException", "java/lang/Exception"]).filter goodWord)
def wsX1_rightsAt : List Cond := .code yX1_rightsAt cX1_rightsAt 3 (some .int) :: ([.fieldLink RX1 62 "BackMirror$Thing" "rights" "I", .methodLink RX1 107 yX1_thingOn, .instanceMethod yX1_thingOn, .selects RX1 yX1_thingOn yX1_thingOn, .initialized RX1, .code yX1_thingOn cX1_thingOn 3 (some (.object "BackMirror$Thing")), .fieldLink RX1 14 "BackMirror" "live" "[LBackMirror$Thing;", .fieldLink RX1 18 "BackMirror" "kept" "[LBackMirror$Thing;", .methodLink RX1 100 yX1_checkKept, .instanceMethod yX1_checkKept, .selects RX1 yX1_checkKept yX1_checkKept, .code yX1_checkKept cX1_checkKept 2 none, .classLink RX1 111 "java/lang/IndexOutOfBoundsException", .initialized "java/lang/IndexOutOfBoundsException", .fieldLink RX1 21 "BackMirror" "oldestDate" "I", .fieldLink RX1 25 "BackMirror" "lastDate" "I", .methodLink RX1 35 yX1_checkPlace, .static yX1_checkPlace, .code yX1_checkPlace cX1_checkPlace 1 none, .methodLink RX1 92 yX1_keptIndex, .static yX1_keptIndex, .code yX1_keptIndex cX1_keptIndex 2 (some .int)] ++ wsX00 ++ wsX10 ++ (vx_atS RX1 113 "java/lang/IndexOutOfBoundsException" ["java/lang/RuntimeException", "java/lang/Exception"]).filter goodWord)
def wsX1_longestCopy : List Cond := .code yX1_longestCopy cX1_longestCopy 5 (some .int) :: ([.methodLink RX1 133 Lib.Math.max.name, .static Lib.Math.max.name, .initialized "java/lang/Math", .code Lib.Math.max.name Lib.Math.max.code 2 (some .int), .methodLink RX1 129 yX1_sharedLength, .static yX1_sharedLength, .initialized RX1, .code yX1_sharedLength cX1_sharedLength 5 (some .int)])
def wsX1_rowTakes : List Cond := .code yX1_rowTakes cX1_rowTakes 5 (some .int) :: ([.methodLink RX1 125 yX1_longestCopy, .static yX1_longestCopy, .initialized RX1, .code yX1_longestCopy cX1_longestCopy 5 (some .int), .methodLink RX1 133 Lib.Math.max.name, .static Lib.Math.max.name, .initialized "java/lang/Math", .code Lib.Math.max.name Lib.Math.max.code 2 (some .int), .methodLink RX1 129 yX1_sharedLength, .static yX1_sharedLength, .code yX1_sharedLength cX1_sharedLength 5 (some .int)])
def wsX1_differenceTakes_r1 : List Cond := [Cond.fieldLink RX1 25 "BackMirror" "lastDate" "I", Cond.fieldLink RX1 18 "BackMirror" "kept" "[LBackMirror$Thing;", Cond.fieldLink RX1 62 "BackMirror$Thing" "rights" "I", Cond.fieldLink RX1 47 "BackMirror$Thing" "kind" "I", Cond.fieldLink RX1 43 "BackMirror$Thing" "numbers" "[I", Cond.methodLink RX1 92 yX1_keptIndex, Cond.static yX1_keptIndex, Cond.initialized RX1, Cond.code yX1_keptIndex cX1_keptIndex 2 (some .int), Cond.methodLink RX1 103 yX0_isLike, Cond.instanceMethod yX0_isLike, Cond.selects RX0 yX0_isLike yX0_isLike, Cond.initialized RX0, Cond.code yX0_isLike cX0_isLike 2 (some .boolean), Cond.fieldLink RX0 7 "BackMirror$Thing" "kind" "I", Cond.fieldLink RX0 13 "BackMirror$Thing" "rights" "I", Cond.fieldLink RX0 16 "BackMirror$Thing" "numbers" "[I", Cond.static yX1_isSameRow, Cond.code yX1_isSameRow cX1_isSameRow 2 (some .boolean), Cond.methodLink RX1 129 yX1_sharedLength, Cond.static yX1_sharedLength, Cond.code yX1_sharedLength cX1_sharedLength 5 (some .int), Cond.methodLink RX1 121 yX1_rowTakes, Cond.static yX1_rowTakes]
def wsX1_differenceTakes_r2 : List Cond := [Cond.code yX1_rowTakes cX1_rowTakes 5 (some .int), Cond.methodLink RX1 125 yX1_longestCopy, Cond.static yX1_longestCopy, Cond.code yX1_longestCopy cX1_longestCopy 5 (some .int), Cond.methodLink RX1 133 Lib.Math.max.name, Cond.static Lib.Math.max.name, Cond.initialized "java/lang/Math", Cond.code Lib.Math.max.name Lib.Math.max.code 2 (some .int)]
def wsX1_differenceTakes : List Cond := .code yX1_differenceTakes cX1_differenceTakes 6 (some .int) :: ((wsX1_differenceTakes_r1 ++ wsX1_differenceTakes_r2) ++ wsX10 ++ wsX00)
def wsX1_sizeAt_r1 : List Cond := [Cond.methodLink RX1 100 yX1_checkKept, Cond.instanceMethod yX1_checkKept, Cond.selects RX1 yX1_checkKept yX1_checkKept, Cond.initialized RX1, Cond.code yX1_checkKept cX1_checkKept 2 none, Cond.classLink RX1 111 "java/lang/IndexOutOfBoundsException", Cond.initialized "java/lang/IndexOutOfBoundsException", Cond.fieldLink RX1 21 "BackMirror" "oldestDate" "I", Cond.fieldLink RX1 25 "BackMirror" "lastDate" "I", Cond.methodLink RX1 35 yX1_checkPlace, Cond.static yX1_checkPlace, Cond.code yX1_checkPlace cX1_checkPlace 1 none, Cond.methodLink RX1 114 yX1_differenceTakes, Cond.instanceMethod yX1_differenceTakes, Cond.selects RX1 yX1_differenceTakes yX1_differenceTakes, Cond.code yX1_differenceTakes cX1_differenceTakes 6 (some .int), Cond.fieldLink RX1 18 "BackMirror" "kept" "[LBackMirror$Thing;", Cond.fieldLink RX1 62 "BackMirror$Thing" "rights" "I", Cond.fieldLink RX1 47 "BackMirror$Thing" "kind" "I", Cond.fieldLink RX1 43 "BackMirror$Thing" "numbers" "[I", Cond.methodLink RX1 92 yX1_keptIndex, Cond.static yX1_keptIndex, Cond.code yX1_keptIndex cX1_keptIndex 2 (some .int), Cond.methodLink RX1 103 yX0_isLike]
def wsX1_sizeAt_r2 : List Cond := [Cond.instanceMethod yX0_isLike, Cond.selects RX0 yX0_isLike yX0_isLike, Cond.initialized RX0, Cond.code yX0_isLike cX0_isLike 2 (some .boolean), Cond.fieldLink RX0 7 "BackMirror$Thing" "kind" "I", Cond.fieldLink RX0 13 "BackMirror$Thing" "rights" "I", Cond.fieldLink RX0 16 "BackMirror$Thing" "numbers" "[I", Cond.static yX1_isSameRow, Cond.code yX1_isSameRow cX1_isSameRow 2 (some .boolean), Cond.methodLink RX1 129 yX1_sharedLength, Cond.static yX1_sharedLength, Cond.code yX1_sharedLength cX1_sharedLength 5 (some .int), Cond.methodLink RX1 121 yX1_rowTakes, Cond.static yX1_rowTakes, Cond.code yX1_rowTakes cX1_rowTakes 5 (some .int), Cond.methodLink RX1 125 yX1_longestCopy, Cond.static yX1_longestCopy, Cond.code yX1_longestCopy cX1_longestCopy 5 (some .int), Cond.methodLink RX1 133 Lib.Math.max.name, Cond.static Lib.Math.max.name, Cond.initialized "java/lang/Math", Cond.code Lib.Math.max.name Lib.Math.max.code 2 (some .int)]
def wsX1_sizeAt : List Cond := .code yX1_sizeAt cX1_sizeAt 3 (some .int) :: ((wsX1_sizeAt_r1 ++ wsX1_sizeAt_r2) ++ wsX10 ++ wsX00 ++ (vx_atS RX1 113 "java/lang/IndexOutOfBoundsException" ["java/lang/RuntimeException", "java/lang/Exception"]).filter goodWord)
def wsX1_size_r1 : List Cond := [Cond.fieldLink RX1 21 "BackMirror" "oldestDate" "I", Cond.fieldLink RX1 25 "BackMirror" "lastDate" "I", Cond.methodLink RX1 114 yX1_differenceTakes, Cond.instanceMethod yX1_differenceTakes, Cond.selects RX1 yX1_differenceTakes yX1_differenceTakes, Cond.initialized RX1, Cond.code yX1_differenceTakes cX1_differenceTakes 6 (some .int), Cond.fieldLink RX1 18 "BackMirror" "kept" "[LBackMirror$Thing;", Cond.fieldLink RX1 62 "BackMirror$Thing" "rights" "I", Cond.fieldLink RX1 47 "BackMirror$Thing" "kind" "I", Cond.fieldLink RX1 43 "BackMirror$Thing" "numbers" "[I", Cond.methodLink RX1 92 yX1_keptIndex, Cond.static yX1_keptIndex, Cond.code yX1_keptIndex cX1_keptIndex 2 (some .int), Cond.methodLink RX1 103 yX0_isLike, Cond.instanceMethod yX0_isLike, Cond.selects RX0 yX0_isLike yX0_isLike, Cond.initialized RX0, Cond.code yX0_isLike cX0_isLike 2 (some .boolean), Cond.fieldLink RX0 7 "BackMirror$Thing" "kind" "I", Cond.fieldLink RX0 13 "BackMirror$Thing" "rights" "I", Cond.fieldLink RX0 16 "BackMirror$Thing" "numbers" "[I", Cond.static yX1_isSameRow, Cond.code yX1_isSameRow cX1_isSameRow 2 (some .boolean)]
def wsX1_size_r2 : List Cond := [Cond.methodLink RX1 129 yX1_sharedLength, Cond.static yX1_sharedLength, Cond.code yX1_sharedLength cX1_sharedLength 5 (some .int), Cond.methodLink RX1 121 yX1_rowTakes, Cond.static yX1_rowTakes, Cond.code yX1_rowTakes cX1_rowTakes 5 (some .int), Cond.methodLink RX1 125 yX1_longestCopy, Cond.static yX1_longestCopy, Cond.code yX1_longestCopy cX1_longestCopy 5 (some .int), Cond.methodLink RX1 133 Lib.Math.max.name, Cond.static Lib.Math.max.name, Cond.initialized "java/lang/Math", Cond.code Lib.Math.max.name Lib.Math.max.code 2 (some .int)]
def wsX1_size : List Cond := .code yX1_size cX1_size 4 (some .int) :: ((wsX1_size_r1 ++ wsX1_size_r2) ++ wsX10 ++ wsX00)
def wsX2_init : List Cond := .code yX2_init cX2_init 1 none :: ([.methodLink RX2 1 objectInit, .instanceMethod objectInit, .code objectInit ⟨#[0xb1]⟩ 1 none, .arrayClass .int, .fieldLink RX2 7 "BackMirrorModel" "kinds" "[I", .fieldLink RX2 13 "BackMirrorModel" "rights" "[I", .fieldLink RX2 16 "BackMirrorModel" "lengths" "[I", .fieldLink RX2 19 "BackMirrorModel" "numbers" "[I"] ++ wsX20)
def wsX2_thrown : List Cond := .code yX2_thrown cX2_thrown 1 (some .int) :: ([.fieldLink RX2 22 "BackMirrorModel" "thrown" "I"] ++ wsX20)
def wsX2_goes : List Cond := .code yX2_goes cX2_goes 2 (some .boolean) :: ([.fieldLink RX2 22 "BackMirrorModel" "thrown" "I"] ++ wsX20)
def wsX2_isIn : List Cond := .code yX2_isIn cX2_isIn 3 (some .boolean) :: ([])
def wsX2_isPlace : List Cond := .code yX2_isPlace cX2_isPlace 1 (some .boolean) :: ([.methodLink RX2 26 yX2_isIn, .static yX2_isIn, .initialized RX2, .code yX2_isIn cX2_isIn 3 (some .boolean)])
def wsX2_at : List Cond := .code yX2_at cX2_at 2 (some .int) :: ([])
def wsX2_live : List Cond := .code yX2_live cX2_live 1 (some .int) :: ([.methodLink RX2 30 yX2_at, .static yX2_at, .initialized RX2, .code yX2_at cX2_at 2 (some .int)])
def wsX2_becomes : List Cond := .code yX2_becomes cX2_becomes 4 (some .int) :: ([.fieldLink RX2 7 "BackMirrorModel" "kinds" "[I", .fieldLink RX2 13 "BackMirrorModel" "rights" "[I", .fieldLink RX2 16 "BackMirrorModel" "lengths" "[I", .methodLink RX2 34 yX2_live, .static yX2_live, .initialized RX2, .code yX2_live cX2_live 1 (some .int), .methodLink RX2 30 yX2_at, .static yX2_at, .code yX2_at cX2_at 2 (some .int)] ++ wsX20)
def wsX2_makeFile_r1 : List Cond := [Cond.methodLink RX2 38 yX2_isPlace, Cond.static yX2_isPlace, Cond.initialized RX2, Cond.code yX2_isPlace cX2_isPlace 1 (some .boolean), Cond.methodLink RX2 26 yX2_isIn, Cond.static yX2_isIn, Cond.code yX2_isIn cX2_isIn 3 (some .boolean), Cond.methodLink RX2 42 yX2_goes, Cond.instanceMethod yX2_goes, Cond.selects RX2 yX2_goes yX2_goes, Cond.code yX2_goes cX2_goes 2 (some .boolean), Cond.fieldLink RX2 22 "BackMirrorModel" "thrown" "I", Cond.methodLink RX2 45 yX2_becomes, Cond.instanceMethod yX2_becomes, Cond.selects RX2 yX2_becomes yX2_becomes, Cond.code yX2_becomes cX2_becomes 4 (some .int), Cond.fieldLink RX2 7 "BackMirrorModel" "kinds" "[I", Cond.fieldLink RX2 13 "BackMirrorModel" "rights" "[I", Cond.fieldLink RX2 16 "BackMirrorModel" "lengths" "[I", Cond.methodLink RX2 34 yX2_live, Cond.static yX2_live, Cond.code yX2_live cX2_live 1 (some .int), Cond.methodLink RX2 30 yX2_at, Cond.static yX2_at]
def wsX2_makeFile_r2 : List Cond := [Cond.code yX2_at cX2_at 2 (some .int)]
def wsX2_makeFile : List Cond := .code yX2_makeFile cX2_makeFile 2 (some .int) :: ((wsX2_makeFile_r1 ++ wsX2_makeFile_r2) ++ wsX20)
def wsX2_makeLink_r1 : List Cond := [Cond.fieldLink RX2 16 "BackMirrorModel" "lengths" "[I", Cond.fieldLink RX2 19 "BackMirrorModel" "numbers" "[I", Cond.methodLink RX2 38 yX2_isPlace, Cond.static yX2_isPlace, Cond.initialized RX2, Cond.code yX2_isPlace cX2_isPlace 1 (some .boolean), Cond.methodLink RX2 26 yX2_isIn, Cond.static yX2_isIn, Cond.code yX2_isIn cX2_isIn 3 (some .boolean), Cond.methodLink RX2 42 yX2_goes, Cond.instanceMethod yX2_goes, Cond.selects RX2 yX2_goes yX2_goes, Cond.code yX2_goes cX2_goes 2 (some .boolean), Cond.fieldLink RX2 22 "BackMirrorModel" "thrown" "I", Cond.methodLink RX2 45 yX2_becomes, Cond.instanceMethod yX2_becomes, Cond.selects RX2 yX2_becomes yX2_becomes, Cond.code yX2_becomes cX2_becomes 4 (some .int), Cond.fieldLink RX2 7 "BackMirrorModel" "kinds" "[I", Cond.fieldLink RX2 13 "BackMirrorModel" "rights" "[I", Cond.methodLink RX2 34 yX2_live, Cond.static yX2_live, Cond.code yX2_live cX2_live 1 (some .int), Cond.methodLink RX2 30 yX2_at]
def wsX2_makeLink_r2 : List Cond := [Cond.static yX2_at, Cond.code yX2_at cX2_at 2 (some .int)]
def wsX2_makeLink : List Cond := .code yX2_makeLink cX2_makeLink 4 (some .int) :: ((wsX2_makeLink_r1 ++ wsX2_makeLink_r2) ++ wsX20)
def wsX2_remove_r1 : List Cond := [Cond.methodLink RX2 38 yX2_isPlace, Cond.static yX2_isPlace, Cond.initialized RX2, Cond.code yX2_isPlace cX2_isPlace 1 (some .boolean), Cond.methodLink RX2 26 yX2_isIn, Cond.static yX2_isIn, Cond.code yX2_isIn cX2_isIn 3 (some .boolean), Cond.methodLink RX2 42 yX2_goes, Cond.instanceMethod yX2_goes, Cond.selects RX2 yX2_goes yX2_goes, Cond.code yX2_goes cX2_goes 2 (some .boolean), Cond.fieldLink RX2 22 "BackMirrorModel" "thrown" "I", Cond.methodLink RX2 45 yX2_becomes, Cond.instanceMethod yX2_becomes, Cond.selects RX2 yX2_becomes yX2_becomes, Cond.code yX2_becomes cX2_becomes 4 (some .int), Cond.fieldLink RX2 7 "BackMirrorModel" "kinds" "[I", Cond.fieldLink RX2 13 "BackMirrorModel" "rights" "[I", Cond.fieldLink RX2 16 "BackMirrorModel" "lengths" "[I", Cond.methodLink RX2 34 yX2_live, Cond.static yX2_live, Cond.code yX2_live cX2_live 1 (some .int), Cond.methodLink RX2 30 yX2_at, Cond.static yX2_at]
def wsX2_remove_r2 : List Cond := [Cond.code yX2_at cX2_at 2 (some .int)]
def wsX2_remove : List Cond := .code yX2_remove cX2_remove 2 (some .int) :: ((wsX2_remove_r1 ++ wsX2_remove_r2) ++ wsX20)
def wsX2_put : List Cond := .code yX2_put cX2_put 6 (some .int) :: ([.fieldLink RX2 7 "BackMirrorModel" "kinds" "[I", .fieldLink RX2 16 "BackMirrorModel" "lengths" "[I", .fieldLink RX2 19 "BackMirrorModel" "numbers" "[I", .methodLink RX2 38 yX2_isPlace, .static yX2_isPlace, .initialized RX2, .code yX2_isPlace cX2_isPlace 1 (some .boolean), .methodLink RX2 26 yX2_isIn, .static yX2_isIn, .code yX2_isIn cX2_isIn 3 (some .boolean), .methodLink RX2 42 yX2_goes, .instanceMethod yX2_goes, .selects RX2 yX2_goes yX2_goes, .code yX2_goes cX2_goes 2 (some .boolean), .fieldLink RX2 22 "BackMirrorModel" "thrown" "I", .methodLink RX2 34 yX2_live, .static yX2_live, .code yX2_live cX2_live 1 (some .int), .methodLink RX2 30 yX2_at, .static yX2_at, .code yX2_at cX2_at 2 (some .int)] ++ wsX20)
def wsX2_take : List Cond := .code yX2_take cX2_take 6 (some .int) :: ([.fieldLink RX2 7 "BackMirrorModel" "kinds" "[I", .fieldLink RX2 16 "BackMirrorModel" "lengths" "[I", .fieldLink RX2 19 "BackMirrorModel" "numbers" "[I", .methodLink RX2 38 yX2_isPlace, .static yX2_isPlace, .initialized RX2, .code yX2_isPlace cX2_isPlace 1 (some .boolean), .methodLink RX2 26 yX2_isIn, .static yX2_isIn, .code yX2_isIn cX2_isIn 3 (some .boolean), .methodLink RX2 42 yX2_goes, .instanceMethod yX2_goes, .selects RX2 yX2_goes yX2_goes, .code yX2_goes cX2_goes 2 (some .boolean), .fieldLink RX2 22 "BackMirrorModel" "thrown" "I", .methodLink RX2 34 yX2_live, .static yX2_live, .code yX2_live cX2_live 1 (some .int), .methodLink RX2 30 yX2_at, .static yX2_at, .code yX2_at cX2_at 2 (some .int)] ++ wsX20)
def wsX2_setRights : List Cond := .code yX2_setRights cX2_setRights 4 (some .int) :: ([.fieldLink RX2 7 "BackMirrorModel" "kinds" "[I", .fieldLink RX2 13 "BackMirrorModel" "rights" "[I", .methodLink RX2 38 yX2_isPlace, .static yX2_isPlace, .initialized RX2, .code yX2_isPlace cX2_isPlace 1 (some .boolean), .methodLink RX2 26 yX2_isIn, .static yX2_isIn, .code yX2_isIn cX2_isIn 3 (some .boolean), .methodLink RX2 34 yX2_live, .static yX2_live, .code yX2_live cX2_live 1 (some .int), .methodLink RX2 30 yX2_at, .static yX2_at, .code yX2_at cX2_at 2 (some .int), .methodLink RX2 42 yX2_goes, .instanceMethod yX2_goes, .selects RX2 yX2_goes yX2_goes, .code yX2_goes cX2_goes 2 (some .boolean), .fieldLink RX2 22 "BackMirrorModel" "thrown" "I"] ++ wsX20)
def wsX2_areSameNumbers : List Cond := .code yX2_areSameNumbers cX2_areSameNumbers 5 (some .boolean) :: ([.fieldLink RX2 16 "BackMirrorModel" "lengths" "[I", .fieldLink RX2 19 "BackMirrorModel" "numbers" "[I"] ++ wsX20)
def wsX2_areSame : List Cond := .code yX2_areSame cX2_areSame 3 (some .boolean) :: ([.fieldLink RX2 7 "BackMirrorModel" "kinds" "[I", .fieldLink RX2 13 "BackMirrorModel" "rights" "[I", .methodLink RX2 48 yX2_areSameNumbers, .instanceMethod yX2_areSameNumbers, .selects RX2 yX2_areSameNumbers yX2_areSameNumbers, .initialized RX2, .code yX2_areSameNumbers cX2_areSameNumbers 5 (some .boolean), .fieldLink RX2 16 "BackMirrorModel" "lengths" "[I", .fieldLink RX2 19 "BackMirrorModel" "numbers" "[I"] ++ wsX20)
def wsX2_differs : List Cond := .code yX2_differs cX2_differs 4 (some .int) :: ([.methodLink RX2 30 yX2_at, .static yX2_at, .initialized RX2, .code yX2_at cX2_at 2 (some .int), .methodLink RX2 34 yX2_live, .static yX2_live, .code yX2_live cX2_live 1 (some .int), .methodLink RX2 52 yX2_areSame, .instanceMethod yX2_areSame, .selects RX2 yX2_areSame yX2_areSame, .code yX2_areSame cX2_areSame 3 (some .boolean), .fieldLink RX2 7 "BackMirrorModel" "kinds" "[I", .fieldLink RX2 13 "BackMirrorModel" "rights" "[I", .methodLink RX2 48 yX2_areSameNumbers, .instanceMethod yX2_areSameNumbers, .selects RX2 yX2_areSameNumbers yX2_areSameNumbers, .code yX2_areSameNumbers cX2_areSameNumbers 5 (some .boolean), .fieldLink RX2 16 "BackMirrorModel" "lengths" "[I", .fieldLink RX2 19 "BackMirrorModel" "numbers" "[I"] ++ wsX20)
def wsX2_copies : List Cond := .code yX2_copies cX2_copies 7 none :: ([.fieldLink RX2 7 "BackMirrorModel" "kinds" "[I", .fieldLink RX2 13 "BackMirrorModel" "rights" "[I", .fieldLink RX2 16 "BackMirrorModel" "lengths" "[I", .fieldLink RX2 19 "BackMirrorModel" "numbers" "[I", .methodLink RX2 30 yX2_at, .static yX2_at, .initialized RX2, .code yX2_at cX2_at 2 (some .int)] ++ wsX20)
def wsX2_mends : List Cond := .code yX2_mends cX2_mends 2 (some .int) :: ([.fieldLink RX2 55 "BackMirrorModel" "isBroken" "Z", .fieldLink RX2 59 "BackMirrorModel" "made" "I"] ++ wsX20)
def wsX2_run_r1 : List Cond := [Cond.fieldLink RX2 62 "BackMirrorModel" "last" "I", Cond.fieldLink RX2 55 "BackMirrorModel" "isBroken" "Z", Cond.fieldLink RX2 59 "BackMirrorModel" "made" "I", Cond.methodLink RX2 26 yX2_isIn, Cond.static yX2_isIn, Cond.initialized RX2, Cond.code yX2_isIn cX2_isIn 3 (some .boolean), Cond.methodLink RX2 42 yX2_goes, Cond.instanceMethod yX2_goes, Cond.selects RX2 yX2_goes yX2_goes, Cond.code yX2_goes cX2_goes 2 (some .boolean), Cond.fieldLink RX2 22 "BackMirrorModel" "thrown" "I", Cond.methodLink RX2 65 yX2_mends, Cond.instanceMethod yX2_mends, Cond.selects RX2 yX2_mends yX2_mends, Cond.code yX2_mends cX2_mends 2 (some .int), Cond.methodLink RX2 69 yX2_differs, Cond.instanceMethod yX2_differs, Cond.selects RX2 yX2_differs yX2_differs, Cond.code yX2_differs cX2_differs 4 (some .int), Cond.methodLink RX2 30 yX2_at, Cond.static yX2_at, Cond.code yX2_at cX2_at 2 (some .int), Cond.methodLink RX2 34 yX2_live]
def wsX2_run_r2 : List Cond := [Cond.static yX2_live, Cond.code yX2_live cX2_live 1 (some .int), Cond.methodLink RX2 52 yX2_areSame, Cond.instanceMethod yX2_areSame, Cond.selects RX2 yX2_areSame yX2_areSame, Cond.code yX2_areSame cX2_areSame 3 (some .boolean), Cond.fieldLink RX2 7 "BackMirrorModel" "kinds" "[I", Cond.fieldLink RX2 13 "BackMirrorModel" "rights" "[I", Cond.methodLink RX2 48 yX2_areSameNumbers, Cond.instanceMethod yX2_areSameNumbers, Cond.selects RX2 yX2_areSameNumbers yX2_areSameNumbers, Cond.code yX2_areSameNumbers cX2_areSameNumbers 5 (some .boolean), Cond.fieldLink RX2 16 "BackMirrorModel" "lengths" "[I", Cond.fieldLink RX2 19 "BackMirrorModel" "numbers" "[I", Cond.methodLink RX2 72 yX2_copies, Cond.instanceMethod yX2_copies, Cond.selects RX2 yX2_copies yX2_copies, Cond.code yX2_copies cX2_copies 7 none]
def wsX2_run : List Cond := .code yX2_run cX2_run 2 (some .int) :: ((wsX2_run_r1 ++ wsX2_run_r2) ++ wsX20)
def wsX2_mend : List Cond := .code yX2_mend cX2_mend 1 (some .int) :: ([.fieldLink RX2 22 "BackMirrorModel" "thrown" "I", .methodLink RX2 65 yX2_mends, .instanceMethod yX2_mends, .selects RX2 yX2_mends yX2_mends, .initialized RX2, .code yX2_mends cX2_mends 2 (some .int), .fieldLink RX2 55 "BackMirrorModel" "isBroken" "Z", .fieldLink RX2 59 "BackMirrorModel" "made" "I"] ++ wsX20)
def wsX2_thin : List Cond := .code yX2_thin cX2_thin 2 (some .int) :: ([.fieldLink RX2 76 "BackMirrorModel" "oldest" "I", .fieldLink RX2 62 "BackMirrorModel" "last" "I", .methodLink RX2 26 yX2_isIn, .static yX2_isIn, .initialized RX2, .code yX2_isIn cX2_isIn 3 (some .boolean), .methodLink RX2 42 yX2_goes, .instanceMethod yX2_goes, .selects RX2 yX2_goes yX2_goes, .code yX2_goes cX2_goes 2 (some .boolean), .fieldLink RX2 22 "BackMirrorModel" "thrown" "I", .methodLink RX2 65 yX2_mends, .instanceMethod yX2_mends, .selects RX2 yX2_mends yX2_mends, .code yX2_mends cX2_mends 2 (some .int), .fieldLink RX2 55 "BackMirrorModel" "isBroken" "Z", .fieldLink RX2 59 "BackMirrorModel" "made" "I"] ++ wsX20)
def wsX2_isKept : List Cond := .code yX2_isKept cX2_isKept 2 (some .boolean) :: ([.fieldLink RX2 76 "BackMirrorModel" "oldest" "I", .fieldLink RX2 62 "BackMirrorModel" "last" "I", .methodLink RX2 26 yX2_isIn, .static yX2_isIn, .initialized RX2, .code yX2_isIn cX2_isIn 3 (some .boolean)] ++ wsX20)
def wsX2_restore_r1 : List Cond := [Cond.methodLink RX2 79 yX2_isKept, Cond.instanceMethod yX2_isKept, Cond.selects RX2 yX2_isKept yX2_isKept, Cond.initialized RX2, Cond.code yX2_isKept cX2_isKept 2 (some .boolean), Cond.fieldLink RX2 76 "BackMirrorModel" "oldest" "I", Cond.fieldLink RX2 62 "BackMirrorModel" "last" "I", Cond.methodLink RX2 26 yX2_isIn, Cond.static yX2_isIn, Cond.code yX2_isIn cX2_isIn 3 (some .boolean), Cond.methodLink RX2 42 yX2_goes, Cond.instanceMethod yX2_goes, Cond.selects RX2 yX2_goes yX2_goes, Cond.code yX2_goes cX2_goes 2 (some .boolean), Cond.fieldLink RX2 22 "BackMirrorModel" "thrown" "I", Cond.methodLink RX2 65 yX2_mends, Cond.instanceMethod yX2_mends, Cond.selects RX2 yX2_mends yX2_mends, Cond.code yX2_mends cX2_mends 2 (some .int), Cond.fieldLink RX2 55 "BackMirrorModel" "isBroken" "Z", Cond.fieldLink RX2 59 "BackMirrorModel" "made" "I", Cond.methodLink RX2 69 yX2_differs, Cond.instanceMethod yX2_differs, Cond.selects RX2 yX2_differs yX2_differs]
def wsX2_restore_r2 : List Cond := [Cond.code yX2_differs cX2_differs 4 (some .int), Cond.methodLink RX2 30 yX2_at, Cond.static yX2_at, Cond.code yX2_at cX2_at 2 (some .int), Cond.methodLink RX2 34 yX2_live, Cond.static yX2_live, Cond.code yX2_live cX2_live 1 (some .int), Cond.methodLink RX2 52 yX2_areSame, Cond.instanceMethod yX2_areSame, Cond.selects RX2 yX2_areSame yX2_areSame, Cond.code yX2_areSame cX2_areSame 3 (some .boolean), Cond.fieldLink RX2 7 "BackMirrorModel" "kinds" "[I", Cond.fieldLink RX2 13 "BackMirrorModel" "rights" "[I", Cond.methodLink RX2 48 yX2_areSameNumbers, Cond.instanceMethod yX2_areSameNumbers, Cond.selects RX2 yX2_areSameNumbers yX2_areSameNumbers, Cond.code yX2_areSameNumbers cX2_areSameNumbers 5 (some .boolean), Cond.fieldLink RX2 16 "BackMirrorModel" "lengths" "[I", Cond.fieldLink RX2 19 "BackMirrorModel" "numbers" "[I", Cond.methodLink RX2 72 yX2_copies, Cond.instanceMethod yX2_copies, Cond.selects RX2 yX2_copies yX2_copies, Cond.code yX2_copies cX2_copies 7 none]
def wsX2_restore : List Cond := .code yX2_restore cX2_restore 3 (some .int) :: ((wsX2_restore_r1 ++ wsX2_restore_r2) ++ wsX20)
def wsX2_last : List Cond := .code yX2_last cX2_last 1 (some .int) :: ([.fieldLink RX2 22 "BackMirrorModel" "thrown" "I", .fieldLink RX2 62 "BackMirrorModel" "last" "I"] ++ wsX20)
def wsX2_oldest : List Cond := .code yX2_oldest cX2_oldest 1 (some .int) :: ([.fieldLink RX2 22 "BackMirrorModel" "thrown" "I", .fieldLink RX2 76 "BackMirrorModel" "oldest" "I"] ++ wsX20)
def wsX2_isBroken : List Cond := .code yX2_isBroken cX2_isBroken 1 (some .boolean) :: ([.fieldLink RX2 22 "BackMirrorModel" "thrown" "I", .fieldLink RX2 55 "BackMirrorModel" "isBroken" "Z"] ++ wsX20)
def wsX2_needs_r1 : List Cond := [Cond.fieldLink RX2 22 "BackMirrorModel" "thrown" "I", Cond.fieldLink RX2 62 "BackMirrorModel" "last" "I", Cond.methodLink RX2 69 yX2_differs, Cond.instanceMethod yX2_differs, Cond.selects RX2 yX2_differs yX2_differs, Cond.initialized RX2, Cond.code yX2_differs cX2_differs 4 (some .int), Cond.methodLink RX2 30 yX2_at, Cond.static yX2_at, Cond.code yX2_at cX2_at 2 (some .int), Cond.methodLink RX2 34 yX2_live, Cond.static yX2_live, Cond.code yX2_live cX2_live 1 (some .int), Cond.methodLink RX2 52 yX2_areSame, Cond.instanceMethod yX2_areSame, Cond.selects RX2 yX2_areSame yX2_areSame, Cond.code yX2_areSame cX2_areSame 3 (some .boolean), Cond.fieldLink RX2 7 "BackMirrorModel" "kinds" "[I", Cond.fieldLink RX2 13 "BackMirrorModel" "rights" "[I", Cond.methodLink RX2 48 yX2_areSameNumbers, Cond.instanceMethod yX2_areSameNumbers, Cond.selects RX2 yX2_areSameNumbers yX2_areSameNumbers, Cond.code yX2_areSameNumbers cX2_areSameNumbers 5 (some .boolean), Cond.fieldLink RX2 16 "BackMirrorModel" "lengths" "[I"]
def wsX2_needs_r2 : List Cond := [Cond.fieldLink RX2 19 "BackMirrorModel" "numbers" "[I"]
def wsX2_needs : List Cond := .code yX2_needs cX2_needs 1 (some .int) :: ((wsX2_needs_r1 ++ wsX2_needs_r2) ++ wsX20)
def wsX2_asks : List Cond := .code yX2_asks cX2_asks 3 (some .boolean) :: ([.methodLink RX2 79 yX2_isKept, .instanceMethod yX2_isKept, .selects RX2 yX2_isKept yX2_isKept, .initialized RX2, .code yX2_isKept cX2_isKept 2 (some .boolean), .fieldLink RX2 76 "BackMirrorModel" "oldest" "I", .fieldLink RX2 62 "BackMirrorModel" "last" "I", .methodLink RX2 26 yX2_isIn, .static yX2_isIn, .code yX2_isIn cX2_isIn 3 (some .boolean), .methodLink RX2 38 yX2_isPlace, .static yX2_isPlace, .code yX2_isPlace cX2_isPlace 1 (some .boolean), .methodLink RX2 42 yX2_goes, .instanceMethod yX2_goes, .selects RX2 yX2_goes yX2_goes, .code yX2_goes cX2_goes 2 (some .boolean), .fieldLink RX2 22 "BackMirrorModel" "thrown" "I"] ++ wsX20)
def wsX2_where : List Cond := .code yX2_where cX2_where 2 (some .int) :: ([.methodLink RX2 30 yX2_at, .static yX2_at, .initialized RX2, .code yX2_at cX2_at 2 (some .int)])
def wsX2_kindAt_r1 : List Cond := [Cond.fieldLink RX2 7 "BackMirrorModel" "kinds" "[I", Cond.methodLink RX2 82 yX2_asks, Cond.instanceMethod yX2_asks, Cond.selects RX2 yX2_asks yX2_asks, Cond.initialized RX2, Cond.code yX2_asks cX2_asks 3 (some .boolean), Cond.methodLink RX2 79 yX2_isKept, Cond.instanceMethod yX2_isKept, Cond.selects RX2 yX2_isKept yX2_isKept, Cond.code yX2_isKept cX2_isKept 2 (some .boolean), Cond.fieldLink RX2 76 "BackMirrorModel" "oldest" "I", Cond.fieldLink RX2 62 "BackMirrorModel" "last" "I", Cond.methodLink RX2 26 yX2_isIn, Cond.static yX2_isIn, Cond.code yX2_isIn cX2_isIn 3 (some .boolean), Cond.methodLink RX2 38 yX2_isPlace, Cond.static yX2_isPlace, Cond.code yX2_isPlace cX2_isPlace 1 (some .boolean), Cond.methodLink RX2 42 yX2_goes, Cond.instanceMethod yX2_goes, Cond.selects RX2 yX2_goes yX2_goes, Cond.code yX2_goes cX2_goes 2 (some .boolean), Cond.fieldLink RX2 22 "BackMirrorModel" "thrown" "I", Cond.methodLink RX2 85 yX2_where]
def wsX2_kindAt_r2 : List Cond := [Cond.static yX2_where, Cond.code yX2_where cX2_where 2 (some .int), Cond.methodLink RX2 30 yX2_at, Cond.static yX2_at, Cond.code yX2_at cX2_at 2 (some .int)]
def wsX2_kindAt : List Cond := .code yX2_kindAt cX2_kindAt 3 (some .int) :: ((wsX2_kindAt_r1 ++ wsX2_kindAt_r2) ++ wsX20)
def wsX2_numberAt_r1 : List Cond := [Cond.fieldLink RX2 16 "BackMirrorModel" "lengths" "[I", Cond.fieldLink RX2 19 "BackMirrorModel" "numbers" "[I", Cond.methodLink RX2 82 yX2_asks, Cond.instanceMethod yX2_asks, Cond.selects RX2 yX2_asks yX2_asks, Cond.initialized RX2, Cond.code yX2_asks cX2_asks 3 (some .boolean), Cond.methodLink RX2 79 yX2_isKept, Cond.instanceMethod yX2_isKept, Cond.selects RX2 yX2_isKept yX2_isKept, Cond.code yX2_isKept cX2_isKept 2 (some .boolean), Cond.fieldLink RX2 76 "BackMirrorModel" "oldest" "I", Cond.fieldLink RX2 62 "BackMirrorModel" "last" "I", Cond.methodLink RX2 26 yX2_isIn, Cond.static yX2_isIn, Cond.code yX2_isIn cX2_isIn 3 (some .boolean), Cond.methodLink RX2 38 yX2_isPlace, Cond.static yX2_isPlace, Cond.code yX2_isPlace cX2_isPlace 1 (some .boolean), Cond.methodLink RX2 42 yX2_goes, Cond.instanceMethod yX2_goes, Cond.selects RX2 yX2_goes yX2_goes, Cond.code yX2_goes cX2_goes 2 (some .boolean), Cond.fieldLink RX2 22 "BackMirrorModel" "thrown" "I"]
def wsX2_numberAt_r2 : List Cond := [Cond.methodLink RX2 85 yX2_where, Cond.static yX2_where, Cond.code yX2_where cX2_where 2 (some .int), Cond.methodLink RX2 30 yX2_at, Cond.static yX2_at, Cond.code yX2_at cX2_at 2 (some .int)]
def wsX2_numberAt : List Cond := .code yX2_numberAt cX2_numberAt 5 (some .int) :: ((wsX2_numberAt_r1 ++ wsX2_numberAt_r2) ++ wsX20)
def wsX2_rightsAt_r1 : List Cond := [Cond.fieldLink RX2 13 "BackMirrorModel" "rights" "[I", Cond.methodLink RX2 82 yX2_asks, Cond.instanceMethod yX2_asks, Cond.selects RX2 yX2_asks yX2_asks, Cond.initialized RX2, Cond.code yX2_asks cX2_asks 3 (some .boolean), Cond.methodLink RX2 79 yX2_isKept, Cond.instanceMethod yX2_isKept, Cond.selects RX2 yX2_isKept yX2_isKept, Cond.code yX2_isKept cX2_isKept 2 (some .boolean), Cond.fieldLink RX2 76 "BackMirrorModel" "oldest" "I", Cond.fieldLink RX2 62 "BackMirrorModel" "last" "I", Cond.methodLink RX2 26 yX2_isIn, Cond.static yX2_isIn, Cond.code yX2_isIn cX2_isIn 3 (some .boolean), Cond.methodLink RX2 38 yX2_isPlace, Cond.static yX2_isPlace, Cond.code yX2_isPlace cX2_isPlace 1 (some .boolean), Cond.methodLink RX2 42 yX2_goes, Cond.instanceMethod yX2_goes, Cond.selects RX2 yX2_goes yX2_goes, Cond.code yX2_goes cX2_goes 2 (some .boolean), Cond.fieldLink RX2 22 "BackMirrorModel" "thrown" "I", Cond.methodLink RX2 85 yX2_where]
def wsX2_rightsAt_r2 : List Cond := [Cond.static yX2_where, Cond.code yX2_where cX2_where 2 (some .int), Cond.methodLink RX2 30 yX2_at, Cond.static yX2_at, Cond.code yX2_at cX2_at 2 (some .int)]
def wsX2_rightsAt : List Cond := .code yX2_rightsAt cX2_rightsAt 3 (some .int) :: ((wsX2_rightsAt_r1 ++ wsX2_rightsAt_r2) ++ wsX20)
def wsX2_longest : List Cond := .code yX2_longest cX2_longest 7 (some .int) :: ([.fieldLink RX2 16 "BackMirrorModel" "lengths" "[I", .fieldLink RX2 19 "BackMirrorModel" "numbers" "[I"] ++ wsX20)
def wsX2_taken : List Cond := .code yX2_taken cX2_taken 6 (some .int) :: ([.fieldLink RX2 16 "BackMirrorModel" "lengths" "[I", .methodLink RX2 88 yX2_longest, .instanceMethod yX2_longest, .selects RX2 yX2_longest yX2_longest, .initialized RX2, .code yX2_longest cX2_longest 7 (some .int), .fieldLink RX2 19 "BackMirrorModel" "numbers" "[I"] ++ wsX20)
def wsX2_takes : List Cond := .code yX2_takes cX2_takes 5 (some .int) :: ([.fieldLink RX2 7 "BackMirrorModel" "kinds" "[I", .fieldLink RX2 16 "BackMirrorModel" "lengths" "[I", .fieldLink RX2 13 "BackMirrorModel" "rights" "[I", .methodLink RX2 52 yX2_areSame, .instanceMethod yX2_areSame, .selects RX2 yX2_areSame yX2_areSame, .initialized RX2, .code yX2_areSame cX2_areSame 3 (some .boolean), .methodLink RX2 48 yX2_areSameNumbers, .instanceMethod yX2_areSameNumbers, .selects RX2 yX2_areSameNumbers yX2_areSameNumbers, .code yX2_areSameNumbers cX2_areSameNumbers 5 (some .boolean), .fieldLink RX2 19 "BackMirrorModel" "numbers" "[I", .methodLink RX2 92 yX2_taken, .instanceMethod yX2_taken, .selects RX2 yX2_taken yX2_taken, .code yX2_taken cX2_taken 6 (some .int), .methodLink RX2 88 yX2_longest, .instanceMethod yX2_longest, .selects RX2 yX2_longest yX2_longest, .code yX2_longest cX2_longest 7 (some .int)] ++ wsX20)
def wsX2_sizeOf_r1 : List Cond := [Cond.fieldLink RX2 62 "BackMirrorModel" "last" "I", Cond.methodLink RX2 30 yX2_at, Cond.static yX2_at, Cond.initialized RX2, Cond.code yX2_at cX2_at 2 (some .int), Cond.methodLink RX2 95 yX2_takes, Cond.instanceMethod yX2_takes, Cond.selects RX2 yX2_takes yX2_takes, Cond.code yX2_takes cX2_takes 5 (some .int), Cond.fieldLink RX2 7 "BackMirrorModel" "kinds" "[I", Cond.fieldLink RX2 16 "BackMirrorModel" "lengths" "[I", Cond.fieldLink RX2 13 "BackMirrorModel" "rights" "[I", Cond.methodLink RX2 52 yX2_areSame, Cond.instanceMethod yX2_areSame, Cond.selects RX2 yX2_areSame yX2_areSame, Cond.code yX2_areSame cX2_areSame 3 (some .boolean), Cond.methodLink RX2 48 yX2_areSameNumbers, Cond.instanceMethod yX2_areSameNumbers, Cond.selects RX2 yX2_areSameNumbers yX2_areSameNumbers, Cond.code yX2_areSameNumbers cX2_areSameNumbers 5 (some .boolean), Cond.fieldLink RX2 19 "BackMirrorModel" "numbers" "[I", Cond.methodLink RX2 92 yX2_taken, Cond.instanceMethod yX2_taken, Cond.selects RX2 yX2_taken yX2_taken]
def wsX2_sizeOf_r2 : List Cond := [Cond.code yX2_taken cX2_taken 6 (some .int), Cond.methodLink RX2 88 yX2_longest, Cond.instanceMethod yX2_longest, Cond.selects RX2 yX2_longest yX2_longest, Cond.code yX2_longest cX2_longest 7 (some .int)]
def wsX2_sizeOf : List Cond := .code yX2_sizeOf cX2_sizeOf 3 (some .int) :: ((wsX2_sizeOf_r1 ++ wsX2_sizeOf_r2) ++ wsX20)
def wsX2_sizeAt_r1 : List Cond := [Cond.methodLink RX2 79 yX2_isKept, Cond.instanceMethod yX2_isKept, Cond.selects RX2 yX2_isKept yX2_isKept, Cond.initialized RX2, Cond.code yX2_isKept cX2_isKept 2 (some .boolean), Cond.fieldLink RX2 76 "BackMirrorModel" "oldest" "I", Cond.fieldLink RX2 62 "BackMirrorModel" "last" "I", Cond.methodLink RX2 26 yX2_isIn, Cond.static yX2_isIn, Cond.code yX2_isIn cX2_isIn 3 (some .boolean), Cond.methodLink RX2 38 yX2_isPlace, Cond.static yX2_isPlace, Cond.code yX2_isPlace cX2_isPlace 1 (some .boolean), Cond.methodLink RX2 42 yX2_goes, Cond.instanceMethod yX2_goes, Cond.selects RX2 yX2_goes yX2_goes, Cond.code yX2_goes cX2_goes 2 (some .boolean), Cond.fieldLink RX2 22 "BackMirrorModel" "thrown" "I", Cond.methodLink RX2 98 yX2_sizeOf, Cond.instanceMethod yX2_sizeOf, Cond.selects RX2 yX2_sizeOf yX2_sizeOf, Cond.code yX2_sizeOf cX2_sizeOf 3 (some .int), Cond.methodLink RX2 30 yX2_at, Cond.static yX2_at]
def wsX2_sizeAt_r2 : List Cond := [Cond.code yX2_at cX2_at 2 (some .int), Cond.methodLink RX2 95 yX2_takes, Cond.instanceMethod yX2_takes, Cond.selects RX2 yX2_takes yX2_takes, Cond.code yX2_takes cX2_takes 5 (some .int), Cond.fieldLink RX2 7 "BackMirrorModel" "kinds" "[I", Cond.fieldLink RX2 16 "BackMirrorModel" "lengths" "[I", Cond.fieldLink RX2 13 "BackMirrorModel" "rights" "[I", Cond.methodLink RX2 52 yX2_areSame, Cond.instanceMethod yX2_areSame, Cond.selects RX2 yX2_areSame yX2_areSame, Cond.code yX2_areSame cX2_areSame 3 (some .boolean), Cond.methodLink RX2 48 yX2_areSameNumbers, Cond.instanceMethod yX2_areSameNumbers, Cond.selects RX2 yX2_areSameNumbers yX2_areSameNumbers, Cond.code yX2_areSameNumbers cX2_areSameNumbers 5 (some .boolean), Cond.fieldLink RX2 19 "BackMirrorModel" "numbers" "[I", Cond.methodLink RX2 92 yX2_taken, Cond.instanceMethod yX2_taken, Cond.selects RX2 yX2_taken yX2_taken, Cond.code yX2_taken cX2_taken 6 (some .int), Cond.methodLink RX2 88 yX2_longest, Cond.instanceMethod yX2_longest, Cond.selects RX2 yX2_longest yX2_longest]
def wsX2_sizeAt_r3 : List Cond := [Cond.code yX2_longest cX2_longest 7 (some .int)]
def wsX2_sizeAt : List Cond := .code yX2_sizeAt cX2_sizeAt 3 (some .int) :: ((wsX2_sizeAt_r1 ++ (wsX2_sizeAt_r2 ++ wsX2_sizeAt_r3)) ++ wsX20)
def wsX2_size_r1 : List Cond := [Cond.fieldLink RX2 22 "BackMirrorModel" "thrown" "I", Cond.fieldLink RX2 76 "BackMirrorModel" "oldest" "I", Cond.fieldLink RX2 62 "BackMirrorModel" "last" "I", Cond.methodLink RX2 98 yX2_sizeOf, Cond.instanceMethod yX2_sizeOf, Cond.selects RX2 yX2_sizeOf yX2_sizeOf, Cond.initialized RX2, Cond.code yX2_sizeOf cX2_sizeOf 3 (some .int), Cond.methodLink RX2 30 yX2_at, Cond.static yX2_at, Cond.code yX2_at cX2_at 2 (some .int), Cond.methodLink RX2 95 yX2_takes, Cond.instanceMethod yX2_takes, Cond.selects RX2 yX2_takes yX2_takes, Cond.code yX2_takes cX2_takes 5 (some .int), Cond.fieldLink RX2 7 "BackMirrorModel" "kinds" "[I", Cond.fieldLink RX2 16 "BackMirrorModel" "lengths" "[I", Cond.fieldLink RX2 13 "BackMirrorModel" "rights" "[I", Cond.methodLink RX2 52 yX2_areSame, Cond.instanceMethod yX2_areSame, Cond.selects RX2 yX2_areSame yX2_areSame, Cond.code yX2_areSame cX2_areSame 3 (some .boolean), Cond.methodLink RX2 48 yX2_areSameNumbers, Cond.instanceMethod yX2_areSameNumbers]
def wsX2_size_r2 : List Cond := [Cond.selects RX2 yX2_areSameNumbers yX2_areSameNumbers, Cond.code yX2_areSameNumbers cX2_areSameNumbers 5 (some .boolean), Cond.fieldLink RX2 19 "BackMirrorModel" "numbers" "[I", Cond.methodLink RX2 92 yX2_taken, Cond.instanceMethod yX2_taken, Cond.selects RX2 yX2_taken yX2_taken, Cond.code yX2_taken cX2_taken 6 (some .int), Cond.methodLink RX2 88 yX2_longest, Cond.instanceMethod yX2_longest, Cond.selects RX2 yX2_longest yX2_longest, Cond.code yX2_longest cX2_longest 7 (some .int)]
def wsX2_size : List Cond := .code yX2_size cX2_size 3 (some .int) :: ((wsX2_size_r1 ++ wsX2_size_r2) ++ wsX20)
def wsJ9_max_7cf53 : List Cond := .code yJ9_max_7cf53 cJ9_max_7cf53 2 (some .int) :: ([])
def wsL_makeFile_r1 : List Cond := [Cond.classLink RL 13 "java/lang/IndexOutOfBoundsException", Cond.methodLink RL 7 yX1_makeFile, Cond.instanceMethod yX1_makeFile, Cond.selects RX1 yX1_makeFile yX1_makeFile, Cond.initialized RX1, Cond.code yX1_makeFile cX1_makeFile 2 (some .int), Cond.classLink RX1 7 RX0, Cond.instantiable RX0 3, Cond.initialized RX0, Cond.arrayClass .int, Cond.methodLink RX1 35 yX1_checkPlace, Cond.static yX1_checkPlace, Cond.code yX1_checkPlace cX1_checkPlace 1 none, Cond.classLink RX1 111 "java/lang/IndexOutOfBoundsException", Cond.initialized "java/lang/IndexOutOfBoundsException", Cond.methodLink RX1 11 yX0_init, Cond.instanceMethod yX0_init, Cond.code yX0_init cX0_init 4 none, Cond.methodLink RX0 1 objectInit, Cond.instanceMethod objectInit, Cond.code objectInit ⟨#[0xb1]⟩ 1 none, Cond.fieldLink RX0 7 "BackMirror$Thing" "kind" "I", Cond.fieldLink RX0 13 "BackMirror$Thing" "rights" "I", Cond.fieldLink RX0 16 "BackMirror$Thing" "numbers" "[I"]
def wsL_makeFile_r2 : List Cond := [Cond.methodLink RX1 39 yX1_exchange, Cond.instanceMethod yX1_exchange, Cond.selects RX1 yX1_exchange yX1_exchange, Cond.code yX1_exchange cX1_exchange 4 (some .int), Cond.fieldLink RX1 14 "BackMirror" "live" "[LBackMirror$Thing;", Cond.fieldLink RX1 47 "BackMirror$Thing" "kind" "I"]
def wsL_makeFile : List Cond := .codeWith yL_makeFile cL_makeFile 4 (some .int) [(0, 9, 12, 13)] :: ((wsL_makeFile_r1 ++ wsL_makeFile_r2) ++ wsX00 ++ wsX10 ++ (vx_atS RX1 113 "java/lang/IndexOutOfBoundsException" ["java/lang/RuntimeException", "java/lang/Exception"]).filter goodWord)
def wsL_makeLink_r1 : List Cond := [Cond.classLink RL 13 "java/lang/IndexOutOfBoundsException", Cond.methodLink RL 15 yX1_makeLink, Cond.instanceMethod yX1_makeLink, Cond.selects RX1 yX1_makeLink yX1_makeLink, Cond.initialized RX1, Cond.code yX1_makeLink cX1_makeLink 3 (some .int), Cond.classLink RX1 7 RX0, Cond.instantiable RX0 3, Cond.initialized RX0, Cond.arrayClass .int, Cond.methodLink RX1 35 yX1_checkPlace, Cond.static yX1_checkPlace, Cond.code yX1_checkPlace cX1_checkPlace 1 none, Cond.classLink RX1 111 "java/lang/IndexOutOfBoundsException", Cond.initialized "java/lang/IndexOutOfBoundsException", Cond.methodLink RX1 11 yX0_init, Cond.instanceMethod yX0_init, Cond.code yX0_init cX0_init 4 none, Cond.methodLink RX0 1 objectInit, Cond.instanceMethod objectInit, Cond.code objectInit ⟨#[0xb1]⟩ 1 none, Cond.fieldLink RX0 7 "BackMirror$Thing" "kind" "I", Cond.fieldLink RX0 13 "BackMirror$Thing" "rights" "I", Cond.fieldLink RX0 16 "BackMirror$Thing" "numbers" "[I"]
def wsL_makeLink_r2 : List Cond := [Cond.methodLink RX1 39 yX1_exchange, Cond.instanceMethod yX1_exchange, Cond.selects RX1 yX1_exchange yX1_exchange, Cond.code yX1_exchange cX1_exchange 4 (some .int), Cond.fieldLink RX1 14 "BackMirror" "live" "[LBackMirror$Thing;", Cond.fieldLink RX1 47 "BackMirror$Thing" "kind" "I"]
def wsL_makeLink : List Cond := .codeWith yL_makeLink cL_makeLink 5 (some .int) [(0, 10, 13, 13)] :: ((wsL_makeLink_r1 ++ wsL_makeLink_r2) ++ wsX00 ++ wsX10 ++ (vx_atS RX1 113 "java/lang/IndexOutOfBoundsException" ["java/lang/RuntimeException", "java/lang/Exception"]).filter goodWord)
def wsL_remove_r1 : List Cond := [Cond.classLink RL 13 "java/lang/IndexOutOfBoundsException", Cond.methodLink RL 19 yX1_remove, Cond.instanceMethod yX1_remove, Cond.selects RX1 yX1_remove yX1_remove, Cond.initialized RX1, Cond.code yX1_remove cX1_remove 2 (some .int), Cond.classLink RX1 7 RX0, Cond.instantiable RX0 3, Cond.initialized RX0, Cond.arrayClass .int, Cond.methodLink RX1 35 yX1_checkPlace, Cond.static yX1_checkPlace, Cond.code yX1_checkPlace cX1_checkPlace 1 none, Cond.classLink RX1 111 "java/lang/IndexOutOfBoundsException", Cond.initialized "java/lang/IndexOutOfBoundsException", Cond.methodLink RX1 11 yX0_init, Cond.instanceMethod yX0_init, Cond.code yX0_init cX0_init 4 none, Cond.methodLink RX0 1 objectInit, Cond.instanceMethod objectInit, Cond.code objectInit ⟨#[0xb1]⟩ 1 none, Cond.fieldLink RX0 7 "BackMirror$Thing" "kind" "I", Cond.fieldLink RX0 13 "BackMirror$Thing" "rights" "I", Cond.fieldLink RX0 16 "BackMirror$Thing" "numbers" "[I"]
def wsL_remove_r2 : List Cond := [Cond.methodLink RX1 39 yX1_exchange, Cond.instanceMethod yX1_exchange, Cond.selects RX1 yX1_exchange yX1_exchange, Cond.code yX1_exchange cX1_exchange 4 (some .int), Cond.fieldLink RX1 14 "BackMirror" "live" "[LBackMirror$Thing;", Cond.fieldLink RX1 47 "BackMirror$Thing" "kind" "I"]
def wsL_remove : List Cond := .codeWith yL_remove cL_remove 4 (some .int) [(0, 9, 12, 13)] :: ((wsL_remove_r1 ++ wsL_remove_r2) ++ wsX00 ++ wsX10 ++ (vx_atS RX1 113 "java/lang/IndexOutOfBoundsException" ["java/lang/RuntimeException", "java/lang/Exception"]).filter goodWord)
def wsL_put_r1 : List Cond := [Cond.classLink RL 13 "java/lang/IndexOutOfBoundsException", Cond.classLink RL 26 "java/lang/IllegalStateException", Cond.classLink RL 28 "java/lang/IllegalArgumentException", Cond.methodLink RL 22 yX1_put, Cond.instanceMethod yX1_put, Cond.selects RX1 yX1_put yX1_put, Cond.initialized RX1, Cond.code yX1_put cX1_put 6 (some .int), Cond.classLink RX1 50 "java/lang/IllegalStateException", Cond.initialized "java/lang/IllegalStateException", Cond.classLink RX1 57 "java/lang/IllegalArgumentException", Cond.initialized "java/lang/IllegalArgumentException", Cond.fieldLink RX1 14 "BackMirror" "live" "[LBackMirror$Thing;", Cond.fieldLink RX1 43 "BackMirror$Thing" "numbers" "[I", Cond.fieldLink RX1 47 "BackMirror$Thing" "kind" "I", Cond.classLink RX1 7 RX0, Cond.instantiable RX0 3, Cond.initialized RX0, Cond.fieldLink RX1 62 "BackMirror$Thing" "rights" "I", Cond.methodLink RX1 35 yX1_checkPlace, Cond.static yX1_checkPlace, Cond.code yX1_checkPlace cX1_checkPlace 1 none, Cond.classLink RX1 111 "java/lang/IndexOutOfBoundsException", Cond.initialized "java/lang/IndexOutOfBoundsException"]
def wsL_put_r2 : List Cond := [Cond.methodLink RX1 65 yX1_rowWith, Cond.static yX1_rowWith, Cond.code yX1_rowWith cX1_rowWith 5 (some (.array .int)), Cond.arrayClass .int, Cond.methodLink RX1 11 yX0_init, Cond.instanceMethod yX0_init, Cond.code yX0_init cX0_init 4 none, Cond.methodLink RX0 1 objectInit, Cond.instanceMethod objectInit, Cond.code objectInit ⟨#[0xb1]⟩ 1 none, Cond.fieldLink RX0 7 "BackMirror$Thing" "kind" "I", Cond.fieldLink RX0 13 "BackMirror$Thing" "rights" "I", Cond.fieldLink RX0 16 "BackMirror$Thing" "numbers" "[I"]
def wsL_put : List Cond := .codeWith yL_put cL_put 6 (some .int) [(0, 12, 15, 13), (0, 12, 19, 26), (0, 12, 23, 28)] :: ((wsL_put_r1 ++ wsL_put_r2) ++ wsX10 ++ wsX00 ++ (vx_atS RX1 54 "java/lang/IllegalStateException" ["java/lang/RuntimeException", "java/lang/Exception"]).filter goodWord ++ (vx_atS RX1 61 "java/lang/IllegalArgumentException" ["java/lang/RuntimeException", "java/lang/Exception"]).filter goodWord ++ (vx_atS RX1 113 "java/lang/IndexOutOfBoundsException" ["java/lang/RuntimeException", "java/lang/Exception"]).filter goodWord)
def wsL_take_r1 : List Cond := [Cond.classLink RL 13 "java/lang/IndexOutOfBoundsException", Cond.classLink RL 26 "java/lang/IllegalStateException", Cond.classLink RL 28 "java/lang/IllegalArgumentException", Cond.methodLink RL 30 yX1_take, Cond.instanceMethod yX1_take, Cond.selects RX1 yX1_take yX1_take, Cond.initialized RX1, Cond.code yX1_take cX1_take 4 (some .int), Cond.classLink RX1 50 "java/lang/IllegalStateException", Cond.initialized "java/lang/IllegalStateException", Cond.classLink RX1 57 "java/lang/IllegalArgumentException", Cond.initialized "java/lang/IllegalArgumentException", Cond.fieldLink RX1 14 "BackMirror" "live" "[LBackMirror$Thing;", Cond.fieldLink RX1 47 "BackMirror$Thing" "kind" "I", Cond.fieldLink RX1 43 "BackMirror$Thing" "numbers" "[I", Cond.classLink RX1 7 RX0, Cond.instantiable RX0 3, Cond.initialized RX0, Cond.fieldLink RX1 62 "BackMirror$Thing" "rights" "I", Cond.methodLink RX1 35 yX1_checkPlace, Cond.static yX1_checkPlace, Cond.code yX1_checkPlace cX1_checkPlace 1 none, Cond.classLink RX1 111 "java/lang/IndexOutOfBoundsException", Cond.initialized "java/lang/IndexOutOfBoundsException"]
def wsL_take_r2 : List Cond := [Cond.methodLink RX1 73 yX1_rowWithout, Cond.static yX1_rowWithout, Cond.code yX1_rowWithout cX1_rowWithout 4 (some (.array .int)), Cond.arrayClass .int, Cond.methodLink RX1 11 yX0_init, Cond.instanceMethod yX0_init, Cond.code yX0_init cX0_init 4 none, Cond.methodLink RX0 1 objectInit, Cond.instanceMethod objectInit, Cond.code objectInit ⟨#[0xb1]⟩ 1 none, Cond.fieldLink RX0 7 "BackMirror$Thing" "kind" "I", Cond.fieldLink RX0 13 "BackMirror$Thing" "rights" "I", Cond.fieldLink RX0 16 "BackMirror$Thing" "numbers" "[I"]
def wsL_take : List Cond := .codeWith yL_take cL_take 5 (some .int) [(0, 10, 13, 13), (0, 10, 17, 26), (0, 10, 21, 28)] :: ((wsL_take_r1 ++ wsL_take_r2) ++ wsX10 ++ wsX00 ++ (vx_atS RX1 54 "java/lang/IllegalStateException" ["java/lang/RuntimeException", "java/lang/Exception"]).filter goodWord ++ (vx_atS RX1 61 "java/lang/IllegalArgumentException" ["java/lang/RuntimeException", "java/lang/Exception"]).filter goodWord ++ (vx_atS RX1 113 "java/lang/IndexOutOfBoundsException" ["java/lang/RuntimeException", "java/lang/Exception"]).filter goodWord)
def wsL_setRights_r1 : List Cond := [Cond.classLink RL 13 "java/lang/IndexOutOfBoundsException", Cond.classLink RL 26 "java/lang/IllegalStateException", Cond.classLink RL 28 "java/lang/IllegalArgumentException", Cond.methodLink RL 33 yX1_setRights, Cond.instanceMethod yX1_setRights, Cond.selects RX1 yX1_setRights yX1_setRights, Cond.initialized RX1, Cond.code yX1_setRights cX1_setRights 4 (some .int), Cond.classLink RX1 50 "java/lang/IllegalStateException", Cond.initialized "java/lang/IllegalStateException", Cond.classLink RX1 57 "java/lang/IllegalArgumentException", Cond.initialized "java/lang/IllegalArgumentException", Cond.fieldLink RX1 14 "BackMirror" "live" "[LBackMirror$Thing;", Cond.fieldLink RX1 47 "BackMirror$Thing" "kind" "I", Cond.classLink RX1 7 RX0, Cond.instantiable RX0 3, Cond.initialized RX0, Cond.fieldLink RX1 43 "BackMirror$Thing" "numbers" "[I", Cond.fieldLink RX1 62 "BackMirror$Thing" "rights" "I", Cond.methodLink RX1 35 yX1_checkPlace, Cond.static yX1_checkPlace, Cond.code yX1_checkPlace cX1_checkPlace 1 none, Cond.classLink RX1 111 "java/lang/IndexOutOfBoundsException", Cond.initialized "java/lang/IndexOutOfBoundsException"]
def wsL_setRights_r2 : List Cond := [Cond.methodLink RX1 11 yX0_init, Cond.instanceMethod yX0_init, Cond.code yX0_init cX0_init 4 none, Cond.methodLink RX0 1 objectInit, Cond.instanceMethod objectInit, Cond.code objectInit ⟨#[0xb1]⟩ 1 none, Cond.fieldLink RX0 7 "BackMirror$Thing" "kind" "I", Cond.fieldLink RX0 13 "BackMirror$Thing" "rights" "I", Cond.fieldLink RX0 16 "BackMirror$Thing" "numbers" "[I"]
def wsL_setRights : List Cond := .codeWith yL_setRights cL_setRights 5 (some .int) [(0, 10, 13, 13), (0, 10, 17, 26), (0, 10, 21, 28)] :: ((wsL_setRights_r1 ++ wsL_setRights_r2) ++ wsX10 ++ wsX00 ++ (vx_atS RX1 54 "java/lang/IllegalStateException" ["java/lang/RuntimeException", "java/lang/Exception"]).filter goodWord ++ (vx_atS RX1 61 "java/lang/IllegalArgumentException" ["java/lang/RuntimeException", "java/lang/Exception"]).filter goodWord ++ (vx_atS RX1 113 "java/lang/IndexOutOfBoundsException" ["java/lang/RuntimeException", "java/lang/Exception"]).filter goodWord)
def wsL_run_r1 : List Cond := [Cond.classLink RL 28 "java/lang/IllegalArgumentException", Cond.classLink RL 26 "java/lang/IllegalStateException", Cond.methodLink RL 36 yX1_run, Cond.instanceMethod yX1_run, Cond.selects RX1 yX1_run yX1_run, Cond.initialized RX1, Cond.code yX1_run cX1_run 3 (some .int), Cond.classLink RX1 57 "java/lang/IllegalArgumentException", Cond.initialized "java/lang/IllegalArgumentException", Cond.classLink RX1 50 "java/lang/IllegalStateException", Cond.initialized "java/lang/IllegalStateException", Cond.fieldLink RX1 25 "BackMirror" "lastDate" "I", Cond.fieldLink RX1 28 "BackMirror" "broken" "Z", Cond.fieldLink RX1 32 "BackMirror" "brokenSteps" "I", Cond.fieldLink RX1 18 "BackMirror" "kept" "[LBackMirror$Thing;", Cond.fieldLink RX1 14 "BackMirror" "live" "[LBackMirror$Thing;", Cond.methodLink RX1 85 yX1_undoBrokenRun, Cond.instanceMethod yX1_undoBrokenRun, Cond.selects RX1 yX1_undoBrokenRun yX1_undoBrokenRun, Cond.code yX1_undoBrokenRun cX1_undoBrokenRun 2 (some .int), Cond.methodLink RX1 89 yX1_stepsNeeded, Cond.instanceMethod yX1_stepsNeeded, Cond.selects RX1 yX1_stepsNeeded yX1_stepsNeeded, Cond.code yX1_stepsNeeded cX1_stepsNeeded 3 (some .int)]
def wsL_run_r2 : List Cond := [Cond.methodLink RX1 92 yX1_keptIndex, Cond.static yX1_keptIndex, Cond.code yX1_keptIndex cX1_keptIndex 2 (some .int), Cond.methodLink RX1 103 yX0_isLike, Cond.instanceMethod yX0_isLike, Cond.selects RX0 yX0_isLike yX0_isLike, Cond.initialized RX0, Cond.code yX0_isLike cX0_isLike 2 (some .boolean), Cond.fieldLink RX0 7 "BackMirror$Thing" "kind" "I", Cond.fieldLink RX0 13 "BackMirror$Thing" "rights" "I", Cond.fieldLink RX0 16 "BackMirror$Thing" "numbers" "[I", Cond.static yX1_isSameRow, Cond.code yX1_isSameRow cX1_isSameRow 2 (some .boolean), Cond.methodLink RX1 129 yX1_sharedLength, Cond.static yX1_sharedLength, Cond.code yX1_sharedLength cX1_sharedLength 5 (some .int)]
def wsL_run : List Cond := .codeWith yL_run cL_run 4 (some .int) [(0, 9, 12, 28), (0, 9, 15, 26)] :: ((wsL_run_r1 ++ wsL_run_r2) ++ wsX10 ++ wsX00 ++ (vx_atS RX1 61 "java/lang/IllegalArgumentException" ["java/lang/RuntimeException", "java/lang/Exception"]).filter goodWord ++ (vx_atS RX1 54 "java/lang/IllegalStateException" ["java/lang/RuntimeException", "java/lang/Exception"]).filter goodWord)
def wsL_thin : List Cond := .codeWith yL_thin cL_thin 4 (some .int) [(0, 9, 12, 28), (0, 9, 15, 26)] :: ([.classLink RL 28 "java/lang/IllegalArgumentException", .classLink RL 26 "java/lang/IllegalStateException", .methodLink RL 39 yX1_thin, .instanceMethod yX1_thin, .selects RX1 yX1_thin yX1_thin, .initialized RX1, .code yX1_thin cX1_thin 2 (some .int), .classLink RX1 57 "java/lang/IllegalArgumentException", .initialized "java/lang/IllegalArgumentException", .classLink RX1 50 "java/lang/IllegalStateException", .initialized "java/lang/IllegalStateException", .fieldLink RX1 21 "BackMirror" "oldestDate" "I", .fieldLink RX1 25 "BackMirror" "lastDate" "I", .methodLink RX1 85 yX1_undoBrokenRun, .instanceMethod yX1_undoBrokenRun, .selects RX1 yX1_undoBrokenRun yX1_undoBrokenRun, .code yX1_undoBrokenRun cX1_undoBrokenRun 2 (some .int), .fieldLink RX1 32 "BackMirror" "brokenSteps" "I", .fieldLink RX1 28 "BackMirror" "broken" "Z"] ++ wsX10 ++ (vx_atS RX1 61 "java/lang/IllegalArgumentException" ["java/lang/RuntimeException", "java/lang/Exception"]).filter goodWord ++ (vx_atS RX1 54 "java/lang/IllegalStateException" ["java/lang/RuntimeException", "java/lang/Exception"]).filter goodWord)
def wsL_restore_r1 : List Cond := [Cond.classLink RL 13 "java/lang/IndexOutOfBoundsException", Cond.methodLink RL 42 yX1_restore, Cond.instanceMethod yX1_restore, Cond.selects RX1 yX1_restore yX1_restore, Cond.initialized RX1, Cond.code yX1_restore cX1_restore 5 (some .int), Cond.fieldLink RX1 18 "BackMirror" "kept" "[LBackMirror$Thing;", Cond.fieldLink RX1 14 "BackMirror" "live" "[LBackMirror$Thing;", Cond.methodLink RX1 100 yX1_checkKept, Cond.instanceMethod yX1_checkKept, Cond.selects RX1 yX1_checkKept yX1_checkKept, Cond.code yX1_checkKept cX1_checkKept 2 none, Cond.classLink RX1 111 "java/lang/IndexOutOfBoundsException", Cond.initialized "java/lang/IndexOutOfBoundsException", Cond.fieldLink RX1 21 "BackMirror" "oldestDate" "I", Cond.fieldLink RX1 25 "BackMirror" "lastDate" "I", Cond.methodLink RX1 85 yX1_undoBrokenRun, Cond.instanceMethod yX1_undoBrokenRun, Cond.selects RX1 yX1_undoBrokenRun yX1_undoBrokenRun, Cond.code yX1_undoBrokenRun cX1_undoBrokenRun 2 (some .int), Cond.fieldLink RX1 32 "BackMirror" "brokenSteps" "I", Cond.fieldLink RX1 28 "BackMirror" "broken" "Z", Cond.methodLink RX1 92 yX1_keptIndex, Cond.static yX1_keptIndex]
def wsL_restore_r2 : List Cond := [Cond.code yX1_keptIndex cX1_keptIndex 2 (some .int), Cond.methodLink RX1 103 yX0_isLike, Cond.instanceMethod yX0_isLike, Cond.selects RX0 yX0_isLike yX0_isLike, Cond.initialized RX0, Cond.code yX0_isLike cX0_isLike 2 (some .boolean), Cond.fieldLink RX0 7 "BackMirror$Thing" "kind" "I", Cond.fieldLink RX0 13 "BackMirror$Thing" "rights" "I", Cond.fieldLink RX0 16 "BackMirror$Thing" "numbers" "[I", Cond.static yX1_isSameRow, Cond.code yX1_isSameRow cX1_isSameRow 2 (some .boolean), Cond.methodLink RX1 129 yX1_sharedLength, Cond.static yX1_sharedLength, Cond.code yX1_sharedLength cX1_sharedLength 5 (some .int)]
def wsL_restore : List Cond := .codeWith yL_restore cL_restore 4 (some .int) [(0, 9, 12, 13)] :: ((wsL_restore_r1 ++ wsL_restore_r2) ++ wsX10 ++ wsX00 ++ (vx_atS RX1 113 "java/lang/IndexOutOfBoundsException" ["java/lang/RuntimeException", "java/lang/Exception"]).filter goodWord)
def wsL_kindAt_r1 : List Cond := [Cond.classLink RL 13 "java/lang/IndexOutOfBoundsException", Cond.methodLink RL 45 yX1_kindAt, Cond.instanceMethod yX1_kindAt, Cond.selects RX1 yX1_kindAt yX1_kindAt, Cond.initialized RX1, Cond.code yX1_kindAt cX1_kindAt 3 (some .int), Cond.fieldLink RX1 47 "BackMirror$Thing" "kind" "I", Cond.methodLink RX1 107 yX1_thingOn, Cond.instanceMethod yX1_thingOn, Cond.selects RX1 yX1_thingOn yX1_thingOn, Cond.code yX1_thingOn cX1_thingOn 3 (some (.object "BackMirror$Thing")), Cond.fieldLink RX1 14 "BackMirror" "live" "[LBackMirror$Thing;", Cond.fieldLink RX1 18 "BackMirror" "kept" "[LBackMirror$Thing;", Cond.methodLink RX1 100 yX1_checkKept, Cond.instanceMethod yX1_checkKept, Cond.selects RX1 yX1_checkKept yX1_checkKept, Cond.code yX1_checkKept cX1_checkKept 2 none, Cond.classLink RX1 111 "java/lang/IndexOutOfBoundsException", Cond.initialized "java/lang/IndexOutOfBoundsException", Cond.fieldLink RX1 21 "BackMirror" "oldestDate" "I", Cond.fieldLink RX1 25 "BackMirror" "lastDate" "I", Cond.methodLink RX1 35 yX1_checkPlace, Cond.static yX1_checkPlace, Cond.code yX1_checkPlace cX1_checkPlace 1 none]
def wsL_kindAt_r2 : List Cond := [Cond.methodLink RX1 92 yX1_keptIndex, Cond.static yX1_keptIndex, Cond.code yX1_keptIndex cX1_keptIndex 2 (some .int)]
def wsL_kindAt : List Cond := .codeWith yL_kindAt cL_kindAt 5 (some .int) [(0, 10, 13, 13)] :: ((wsL_kindAt_r1 ++ wsL_kindAt_r2) ++ wsX00 ++ wsX10 ++ (vx_atS RX1 113 "java/lang/IndexOutOfBoundsException" ["java/lang/RuntimeException", "java/lang/Exception"]).filter goodWord)
def wsL_numberAt_r1 : List Cond := [Cond.classLink RL 13 "java/lang/IndexOutOfBoundsException", Cond.methodLink RL 48 yX1_numberAt, Cond.instanceMethod yX1_numberAt, Cond.selects RX1 yX1_numberAt yX1_numberAt, Cond.initialized RX1, Cond.code yX1_numberAt cX1_numberAt 5 (some .int), Cond.classLink RX1 111 "java/lang/IndexOutOfBoundsException", Cond.initialized "java/lang/IndexOutOfBoundsException", Cond.fieldLink RX1 43 "BackMirror$Thing" "numbers" "[I", Cond.methodLink RX1 107 yX1_thingOn, Cond.instanceMethod yX1_thingOn, Cond.selects RX1 yX1_thingOn yX1_thingOn, Cond.code yX1_thingOn cX1_thingOn 3 (some (.object "BackMirror$Thing")), Cond.fieldLink RX1 14 "BackMirror" "live" "[LBackMirror$Thing;", Cond.fieldLink RX1 18 "BackMirror" "kept" "[LBackMirror$Thing;", Cond.methodLink RX1 100 yX1_checkKept, Cond.instanceMethod yX1_checkKept, Cond.selects RX1 yX1_checkKept yX1_checkKept, Cond.code yX1_checkKept cX1_checkKept 2 none, Cond.fieldLink RX1 21 "BackMirror" "oldestDate" "I", Cond.fieldLink RX1 25 "BackMirror" "lastDate" "I", Cond.methodLink RX1 35 yX1_checkPlace, Cond.static yX1_checkPlace, Cond.code yX1_checkPlace cX1_checkPlace 1 none]
def wsL_numberAt_r2 : List Cond := [Cond.methodLink RX1 92 yX1_keptIndex, Cond.static yX1_keptIndex, Cond.code yX1_keptIndex cX1_keptIndex 2 (some .int)]
def wsL_numberAt : List Cond := .codeWith yL_numberAt cL_numberAt 6 (some .int) [(0, 12, 15, 13)] :: ((wsL_numberAt_r1 ++ wsL_numberAt_r2) ++ wsX00 ++ wsX10 ++ (vx_atS RX1 113 "java/lang/IndexOutOfBoundsException" ["java/lang/RuntimeException", "java/lang/Exception"]).filter goodWord)
def wsL_rightsAt_r1 : List Cond := [Cond.classLink RL 13 "java/lang/IndexOutOfBoundsException", Cond.methodLink RL 51 yX1_rightsAt, Cond.instanceMethod yX1_rightsAt, Cond.selects RX1 yX1_rightsAt yX1_rightsAt, Cond.initialized RX1, Cond.code yX1_rightsAt cX1_rightsAt 3 (some .int), Cond.fieldLink RX1 62 "BackMirror$Thing" "rights" "I", Cond.methodLink RX1 107 yX1_thingOn, Cond.instanceMethod yX1_thingOn, Cond.selects RX1 yX1_thingOn yX1_thingOn, Cond.code yX1_thingOn cX1_thingOn 3 (some (.object "BackMirror$Thing")), Cond.fieldLink RX1 14 "BackMirror" "live" "[LBackMirror$Thing;", Cond.fieldLink RX1 18 "BackMirror" "kept" "[LBackMirror$Thing;", Cond.methodLink RX1 100 yX1_checkKept, Cond.instanceMethod yX1_checkKept, Cond.selects RX1 yX1_checkKept yX1_checkKept, Cond.code yX1_checkKept cX1_checkKept 2 none, Cond.classLink RX1 111 "java/lang/IndexOutOfBoundsException", Cond.initialized "java/lang/IndexOutOfBoundsException", Cond.fieldLink RX1 21 "BackMirror" "oldestDate" "I", Cond.fieldLink RX1 25 "BackMirror" "lastDate" "I", Cond.methodLink RX1 35 yX1_checkPlace, Cond.static yX1_checkPlace, Cond.code yX1_checkPlace cX1_checkPlace 1 none]
def wsL_rightsAt_r2 : List Cond := [Cond.methodLink RX1 92 yX1_keptIndex, Cond.static yX1_keptIndex, Cond.code yX1_keptIndex cX1_keptIndex 2 (some .int)]
def wsL_rightsAt : List Cond := .codeWith yL_rightsAt cL_rightsAt 5 (some .int) [(0, 10, 13, 13)] :: ((wsL_rightsAt_r1 ++ wsL_rightsAt_r2) ++ wsX00 ++ wsX10 ++ (vx_atS RX1 113 "java/lang/IndexOutOfBoundsException" ["java/lang/RuntimeException", "java/lang/Exception"]).filter goodWord)
def wsL_sizeAt_r1 : List Cond := [Cond.classLink RL 13 "java/lang/IndexOutOfBoundsException", Cond.methodLink RL 54 yX1_sizeAt, Cond.instanceMethod yX1_sizeAt, Cond.selects RX1 yX1_sizeAt yX1_sizeAt, Cond.initialized RX1, Cond.code yX1_sizeAt cX1_sizeAt 3 (some .int), Cond.methodLink RX1 100 yX1_checkKept, Cond.instanceMethod yX1_checkKept, Cond.selects RX1 yX1_checkKept yX1_checkKept, Cond.code yX1_checkKept cX1_checkKept 2 none, Cond.classLink RX1 111 "java/lang/IndexOutOfBoundsException", Cond.initialized "java/lang/IndexOutOfBoundsException", Cond.fieldLink RX1 21 "BackMirror" "oldestDate" "I", Cond.fieldLink RX1 25 "BackMirror" "lastDate" "I", Cond.methodLink RX1 35 yX1_checkPlace, Cond.static yX1_checkPlace, Cond.code yX1_checkPlace cX1_checkPlace 1 none, Cond.methodLink RX1 114 yX1_differenceTakes, Cond.instanceMethod yX1_differenceTakes, Cond.selects RX1 yX1_differenceTakes yX1_differenceTakes, Cond.code yX1_differenceTakes cX1_differenceTakes 6 (some .int), Cond.fieldLink RX1 18 "BackMirror" "kept" "[LBackMirror$Thing;", Cond.fieldLink RX1 62 "BackMirror$Thing" "rights" "I", Cond.fieldLink RX1 47 "BackMirror$Thing" "kind" "I"]
def wsL_sizeAt_r2 : List Cond := [Cond.fieldLink RX1 43 "BackMirror$Thing" "numbers" "[I", Cond.methodLink RX1 92 yX1_keptIndex, Cond.static yX1_keptIndex, Cond.code yX1_keptIndex cX1_keptIndex 2 (some .int), Cond.methodLink RX1 103 yX0_isLike, Cond.instanceMethod yX0_isLike, Cond.selects RX0 yX0_isLike yX0_isLike, Cond.initialized RX0, Cond.code yX0_isLike cX0_isLike 2 (some .boolean), Cond.fieldLink RX0 7 "BackMirror$Thing" "kind" "I", Cond.fieldLink RX0 13 "BackMirror$Thing" "rights" "I", Cond.fieldLink RX0 16 "BackMirror$Thing" "numbers" "[I", Cond.static yX1_isSameRow, Cond.code yX1_isSameRow cX1_isSameRow 2 (some .boolean), Cond.methodLink RX1 129 yX1_sharedLength, Cond.static yX1_sharedLength, Cond.code yX1_sharedLength cX1_sharedLength 5 (some .int), Cond.methodLink RX1 121 yX1_rowTakes, Cond.static yX1_rowTakes, Cond.code yX1_rowTakes cX1_rowTakes 5 (some .int), Cond.methodLink RX1 125 yX1_longestCopy, Cond.static yX1_longestCopy, Cond.code yX1_longestCopy cX1_longestCopy 5 (some .int), Cond.methodLink RX1 133 Lib.Math.max.name]
def wsL_sizeAt_r3 : List Cond := [Cond.static Lib.Math.max.name, Cond.initialized "java/lang/Math", Cond.code Lib.Math.max.name Lib.Math.max.code 2 (some .int)]
def wsL_sizeAt : List Cond := .codeWith yL_sizeAt cL_sizeAt 5 (some .int) [(0, 10, 13, 13)] :: ((wsL_sizeAt_r1 ++ (wsL_sizeAt_r2 ++ wsL_sizeAt_r3)) ++ wsX10 ++ wsX00 ++ (vx_atS RX1 113 "java/lang/IndexOutOfBoundsException" ["java/lang/RuntimeException", "java/lang/Exception"]).filter goodWord)
def wsL_law0_r1 : List Cond := [Cond.classLink RL 8 RX1, Cond.instantiable RX1 6, Cond.initialized RX1, Cond.classLink RL 58 RX2, Cond.instantiable RX2 9, Cond.initialized RX2, Cond.arrayClass .long, Cond.methodLink RL 57 yX1_init, Cond.instanceMethod yX1_init, Cond.code yX1_init cX1_init 3 none, Cond.methodLink RX1 1 objectInit, Cond.instanceMethod objectInit, Cond.code objectInit ⟨#[0xb1]⟩ 1 none, Cond.classLink RX1 7 RX0, Cond.instantiable RX0 3, Cond.initialized RX0, Cond.arrayClass .int, Cond.fieldLink RX1 14 "BackMirror" "live" "[LBackMirror$Thing;", Cond.fieldLink RX1 18 "BackMirror" "kept" "[LBackMirror$Thing;", Cond.fieldLink RX1 21 "BackMirror" "oldestDate" "I", Cond.fieldLink RX1 25 "BackMirror" "lastDate" "I", Cond.fieldLink RX1 28 "BackMirror" "broken" "Z", Cond.fieldLink RX1 32 "BackMirror" "brokenSteps" "I", Cond.methodLink RX1 11 yX0_init]
def wsL_law0_r2 : List Cond := [Cond.instanceMethod yX0_init, Cond.code yX0_init cX0_init 4 none, Cond.methodLink RX0 1 objectInit, Cond.fieldLink RX0 7 "BackMirror$Thing" "kind" "I", Cond.fieldLink RX0 13 "BackMirror$Thing" "rights" "I", Cond.fieldLink RX0 16 "BackMirror$Thing" "numbers" "[I", Cond.methodLink RL 60 yX2_init, Cond.instanceMethod yX2_init, Cond.code yX2_init cX2_init 1 none, Cond.methodLink RX2 1 objectInit, Cond.fieldLink RX2 7 "BackMirrorModel" "kinds" "[I", Cond.fieldLink RX2 13 "BackMirrorModel" "rights" "[I", Cond.fieldLink RX2 16 "BackMirrorModel" "lengths" "[I", Cond.fieldLink RX2 19 "BackMirrorModel" "numbers" "[I", Cond.methodLink RL 61 yL_makeFile, Cond.static yL_makeFile, Cond.initialized RL, Cond.codeWith yL_makeFile cL_makeFile 4 (some .int) [(0, 9, 12, 13)], Cond.classLink RL 13 "java/lang/IndexOutOfBoundsException", Cond.methodLink RL 7 yX1_makeFile, Cond.instanceMethod yX1_makeFile, Cond.selects RX1 yX1_makeFile yX1_makeFile, Cond.code yX1_makeFile cX1_makeFile 2 (some .int), Cond.methodLink RX1 35 yX1_checkPlace]
def wsL_law0_r3 : List Cond := [Cond.static yX1_checkPlace, Cond.code yX1_checkPlace cX1_checkPlace 1 none, Cond.classLink RX1 111 "java/lang/IndexOutOfBoundsException", Cond.initialized "java/lang/IndexOutOfBoundsException", Cond.methodLink RX1 39 yX1_exchange, Cond.instanceMethod yX1_exchange, Cond.selects RX1 yX1_exchange yX1_exchange, Cond.code yX1_exchange cX1_exchange 4 (some .int), Cond.fieldLink RX1 47 "BackMirror$Thing" "kind" "I", Cond.methodLink RL 66 yX2_makeFile, Cond.instanceMethod yX2_makeFile, Cond.selects RX2 yX2_makeFile yX2_makeFile, Cond.code yX2_makeFile cX2_makeFile 2 (some .int), Cond.methodLink RX2 38 yX2_isPlace, Cond.static yX2_isPlace, Cond.code yX2_isPlace cX2_isPlace 1 (some .boolean), Cond.methodLink RX2 26 yX2_isIn, Cond.static yX2_isIn, Cond.code yX2_isIn cX2_isIn 3 (some .boolean), Cond.methodLink RX2 42 yX2_goes, Cond.instanceMethod yX2_goes, Cond.selects RX2 yX2_goes yX2_goes, Cond.code yX2_goes cX2_goes 2 (some .boolean), Cond.fieldLink RX2 22 "BackMirrorModel" "thrown" "I"]
def wsL_law0_r4 : List Cond := [Cond.methodLink RX2 45 yX2_becomes, Cond.instanceMethod yX2_becomes, Cond.selects RX2 yX2_becomes yX2_becomes, Cond.code yX2_becomes cX2_becomes 4 (some .int), Cond.methodLink RX2 34 yX2_live, Cond.static yX2_live, Cond.code yX2_live cX2_live 1 (some .int), Cond.methodLink RX2 30 yX2_at, Cond.static yX2_at, Cond.code yX2_at cX2_at 2 (some .int), Cond.methodLink RL 67 yX2_thrown, Cond.instanceMethod yX2_thrown, Cond.selects RX2 yX2_thrown yX2_thrown, Cond.code yX2_thrown cX2_thrown 1 (some .int), Cond.methodLink RL 71 yL_makeLink, Cond.static yL_makeLink, Cond.codeWith yL_makeLink cL_makeLink 5 (some .int) [(0, 10, 13, 13)], Cond.methodLink RL 15 yX1_makeLink, Cond.instanceMethod yX1_makeLink, Cond.selects RX1 yX1_makeLink yX1_makeLink, Cond.code yX1_makeLink cX1_makeLink 3 (some .int), Cond.methodLink RL 74 yX2_makeLink, Cond.instanceMethod yX2_makeLink, Cond.selects RX2 yX2_makeLink yX2_makeLink]
def wsL_law0_r5 : List Cond := [Cond.code yX2_makeLink cX2_makeLink 4 (some .int), Cond.methodLink RL 75 yL_remove, Cond.static yL_remove, Cond.codeWith yL_remove cL_remove 4 (some .int) [(0, 9, 12, 13)], Cond.methodLink RL 19 yX1_remove, Cond.instanceMethod yX1_remove, Cond.selects RX1 yX1_remove yX1_remove, Cond.code yX1_remove cX1_remove 2 (some .int), Cond.methodLink RL 77 yX2_remove, Cond.instanceMethod yX2_remove, Cond.selects RX2 yX2_remove yX2_remove, Cond.code yX2_remove cX2_remove 2 (some .int), Cond.methodLink RL 78 yL_put, Cond.static yL_put, Cond.codeWith yL_put cL_put 6 (some .int) [(0, 12, 15, 13), (0, 12, 19, 26), (0, 12, 23, 28)], Cond.classLink RL 26 "java/lang/IllegalStateException", Cond.classLink RL 28 "java/lang/IllegalArgumentException", Cond.methodLink RL 22 yX1_put, Cond.instanceMethod yX1_put, Cond.selects RX1 yX1_put yX1_put, Cond.code yX1_put cX1_put 6 (some .int), Cond.classLink RX1 50 "java/lang/IllegalStateException", Cond.initialized "java/lang/IllegalStateException", Cond.classLink RX1 57 "java/lang/IllegalArgumentException"]
def wsL_law0_r6 : List Cond := [Cond.initialized "java/lang/IllegalArgumentException", Cond.fieldLink RX1 43 "BackMirror$Thing" "numbers" "[I", Cond.fieldLink RX1 62 "BackMirror$Thing" "rights" "I", Cond.methodLink RX1 65 yX1_rowWith, Cond.static yX1_rowWith, Cond.code yX1_rowWith cX1_rowWith 5 (some (.array .int)), Cond.methodLink RL 81 yX2_put, Cond.instanceMethod yX2_put, Cond.selects RX2 yX2_put yX2_put, Cond.code yX2_put cX2_put 6 (some .int), Cond.methodLink RL 82 yL_take, Cond.static yL_take, Cond.codeWith yL_take cL_take 5 (some .int) [(0, 10, 13, 13), (0, 10, 17, 26), (0, 10, 21, 28)], Cond.methodLink RL 30 yX1_take, Cond.instanceMethod yX1_take, Cond.selects RX1 yX1_take yX1_take, Cond.code yX1_take cX1_take 4 (some .int), Cond.methodLink RX1 73 yX1_rowWithout, Cond.static yX1_rowWithout, Cond.code yX1_rowWithout cX1_rowWithout 4 (some (.array .int)), Cond.methodLink RL 84 yX2_take, Cond.instanceMethod yX2_take, Cond.selects RX2 yX2_take yX2_take, Cond.code yX2_take cX2_take 6 (some .int)]
def wsL_law0_r7 : List Cond := [Cond.methodLink RL 85 yL_setRights, Cond.static yL_setRights, Cond.codeWith yL_setRights cL_setRights 5 (some .int) [(0, 10, 13, 13), (0, 10, 17, 26), (0, 10, 21, 28)], Cond.methodLink RL 33 yX1_setRights, Cond.instanceMethod yX1_setRights, Cond.selects RX1 yX1_setRights yX1_setRights, Cond.code yX1_setRights cX1_setRights 4 (some .int), Cond.methodLink RL 87 yX2_setRights, Cond.instanceMethod yX2_setRights, Cond.selects RX2 yX2_setRights yX2_setRights, Cond.code yX2_setRights cX2_setRights 4 (some .int), Cond.methodLink RL 88 yL_run, Cond.static yL_run, Cond.codeWith yL_run cL_run 4 (some .int) [(0, 9, 12, 28), (0, 9, 15, 26)], Cond.methodLink RL 36 yX1_run, Cond.instanceMethod yX1_run, Cond.selects RX1 yX1_run yX1_run, Cond.code yX1_run cX1_run 3 (some .int), Cond.methodLink RX1 85 yX1_undoBrokenRun, Cond.instanceMethod yX1_undoBrokenRun, Cond.selects RX1 yX1_undoBrokenRun yX1_undoBrokenRun, Cond.code yX1_undoBrokenRun cX1_undoBrokenRun 2 (some .int), Cond.methodLink RX1 89 yX1_stepsNeeded, Cond.instanceMethod yX1_stepsNeeded]
def wsL_law0_r8 : List Cond := [Cond.selects RX1 yX1_stepsNeeded yX1_stepsNeeded, Cond.code yX1_stepsNeeded cX1_stepsNeeded 3 (some .int), Cond.methodLink RX1 92 yX1_keptIndex, Cond.static yX1_keptIndex, Cond.code yX1_keptIndex cX1_keptIndex 2 (some .int), Cond.methodLink RX1 103 yX0_isLike, Cond.instanceMethod yX0_isLike, Cond.selects RX0 yX0_isLike yX0_isLike, Cond.code yX0_isLike cX0_isLike 2 (some .boolean), Cond.static yX1_isSameRow, Cond.code yX1_isSameRow cX1_isSameRow 2 (some .boolean), Cond.methodLink RX1 129 yX1_sharedLength, Cond.static yX1_sharedLength, Cond.code yX1_sharedLength cX1_sharedLength 5 (some .int), Cond.methodLink RL 90 yX2_run, Cond.instanceMethod yX2_run, Cond.selects RX2 yX2_run yX2_run, Cond.code yX2_run cX2_run 2 (some .int), Cond.fieldLink RX2 62 "BackMirrorModel" "last" "I", Cond.fieldLink RX2 55 "BackMirrorModel" "isBroken" "Z", Cond.fieldLink RX2 59 "BackMirrorModel" "made" "I", Cond.methodLink RX2 65 yX2_mends, Cond.instanceMethod yX2_mends, Cond.selects RX2 yX2_mends yX2_mends]
def wsL_law0_r9 : List Cond := [Cond.code yX2_mends cX2_mends 2 (some .int), Cond.methodLink RX2 69 yX2_differs, Cond.instanceMethod yX2_differs, Cond.selects RX2 yX2_differs yX2_differs, Cond.code yX2_differs cX2_differs 4 (some .int), Cond.methodLink RX2 52 yX2_areSame, Cond.instanceMethod yX2_areSame, Cond.selects RX2 yX2_areSame yX2_areSame, Cond.code yX2_areSame cX2_areSame 3 (some .boolean), Cond.methodLink RX2 48 yX2_areSameNumbers, Cond.instanceMethod yX2_areSameNumbers, Cond.selects RX2 yX2_areSameNumbers yX2_areSameNumbers, Cond.code yX2_areSameNumbers cX2_areSameNumbers 5 (some .boolean), Cond.methodLink RX2 72 yX2_copies, Cond.instanceMethod yX2_copies, Cond.selects RX2 yX2_copies yX2_copies, Cond.code yX2_copies cX2_copies 7 none, Cond.methodLink RL 91 yX1_mend, Cond.instanceMethod yX1_mend, Cond.selects RX1 yX1_mend yX1_mend, Cond.code yX1_mend cX1_mend 1 (some .int), Cond.methodLink RL 94 yX2_mend, Cond.instanceMethod yX2_mend, Cond.selects RX2 yX2_mend yX2_mend]
def wsL_law0_r10 : List Cond := [Cond.code yX2_mend cX2_mend 1 (some .int), Cond.methodLink RL 95 yL_thin, Cond.static yL_thin, Cond.codeWith yL_thin cL_thin 4 (some .int) [(0, 9, 12, 28), (0, 9, 15, 26)], Cond.methodLink RL 39 yX1_thin, Cond.instanceMethod yX1_thin, Cond.selects RX1 yX1_thin yX1_thin, Cond.code yX1_thin cX1_thin 2 (some .int), Cond.methodLink RL 97 yX2_thin, Cond.instanceMethod yX2_thin, Cond.selects RX2 yX2_thin yX2_thin, Cond.code yX2_thin cX2_thin 2 (some .int), Cond.fieldLink RX2 76 "BackMirrorModel" "oldest" "I", Cond.methodLink RL 98 yL_restore, Cond.static yL_restore, Cond.codeWith yL_restore cL_restore 4 (some .int) [(0, 9, 12, 13)], Cond.methodLink RL 42 yX1_restore, Cond.instanceMethod yX1_restore, Cond.selects RX1 yX1_restore yX1_restore, Cond.code yX1_restore cX1_restore 5 (some .int), Cond.methodLink RX1 100 yX1_checkKept, Cond.instanceMethod yX1_checkKept, Cond.selects RX1 yX1_checkKept yX1_checkKept, Cond.code yX1_checkKept cX1_checkKept 2 none]
def wsL_law0_r11 : List Cond := [Cond.methodLink RL 100 yX2_restore, Cond.instanceMethod yX2_restore, Cond.selects RX2 yX2_restore yX2_restore, Cond.code yX2_restore cX2_restore 3 (some .int), Cond.methodLink RX2 79 yX2_isKept, Cond.instanceMethod yX2_isKept, Cond.selects RX2 yX2_isKept yX2_isKept, Cond.code yX2_isKept cX2_isKept 2 (some .boolean), Cond.methodLink RL 101 yX1_last, Cond.instanceMethod yX1_last, Cond.selects RX1 yX1_last yX1_last, Cond.code yX1_last cX1_last 1 (some .int), Cond.methodLink RL 104 yX2_last, Cond.instanceMethod yX2_last, Cond.selects RX2 yX2_last yX2_last, Cond.code yX2_last cX2_last 1 (some .int), Cond.methodLink RL 105 yX1_oldest, Cond.instanceMethod yX1_oldest, Cond.selects RX1 yX1_oldest yX1_oldest, Cond.code yX1_oldest cX1_oldest 1 (some .int), Cond.methodLink RL 108 yX2_oldest, Cond.instanceMethod yX2_oldest, Cond.selects RX2 yX2_oldest yX2_oldest, Cond.code yX2_oldest cX2_oldest 1 (some .int)]
def wsL_law0_r12 : List Cond := [Cond.methodLink RL 109 yX1_isBroken, Cond.instanceMethod yX1_isBroken, Cond.selects RX1 yX1_isBroken yX1_isBroken, Cond.code yX1_isBroken cX1_isBroken 1 (some .boolean), Cond.methodLink RL 113 yX2_isBroken, Cond.instanceMethod yX2_isBroken, Cond.selects RX2 yX2_isBroken yX2_isBroken, Cond.code yX2_isBroken cX2_isBroken 1 (some .boolean), Cond.methodLink RL 114 yX1_needs, Cond.instanceMethod yX1_needs, Cond.selects RX1 yX1_needs yX1_needs, Cond.code yX1_needs cX1_needs 1 (some .int), Cond.methodLink RL 117 yX2_needs, Cond.instanceMethod yX2_needs, Cond.selects RX2 yX2_needs yX2_needs, Cond.code yX2_needs cX2_needs 1 (some .int), Cond.methodLink RL 118 yL_kindAt, Cond.static yL_kindAt, Cond.codeWith yL_kindAt cL_kindAt 5 (some .int) [(0, 10, 13, 13)], Cond.methodLink RL 45 yX1_kindAt, Cond.instanceMethod yX1_kindAt, Cond.selects RX1 yX1_kindAt yX1_kindAt, Cond.code yX1_kindAt cX1_kindAt 3 (some .int), Cond.methodLink RX1 107 yX1_thingOn]
def wsL_law0_r13 : List Cond := [Cond.instanceMethod yX1_thingOn, Cond.selects RX1 yX1_thingOn yX1_thingOn, Cond.code yX1_thingOn cX1_thingOn 3 (some (.object "BackMirror$Thing")), Cond.methodLink RL 120 yX2_kindAt, Cond.instanceMethod yX2_kindAt, Cond.selects RX2 yX2_kindAt yX2_kindAt, Cond.code yX2_kindAt cX2_kindAt 3 (some .int), Cond.methodLink RX2 82 yX2_asks, Cond.instanceMethod yX2_asks, Cond.selects RX2 yX2_asks yX2_asks, Cond.code yX2_asks cX2_asks 3 (some .boolean), Cond.methodLink RX2 85 yX2_where, Cond.static yX2_where, Cond.code yX2_where cX2_where 2 (some .int), Cond.methodLink RL 121 yL_numberAt, Cond.static yL_numberAt, Cond.codeWith yL_numberAt cL_numberAt 6 (some .int) [(0, 12, 15, 13)], Cond.methodLink RL 48 yX1_numberAt, Cond.instanceMethod yX1_numberAt, Cond.selects RX1 yX1_numberAt yX1_numberAt, Cond.code yX1_numberAt cX1_numberAt 5 (some .int), Cond.methodLink RL 123 yX2_numberAt, Cond.instanceMethod yX2_numberAt, Cond.selects RX2 yX2_numberAt yX2_numberAt]
def wsL_law0_r14 : List Cond := [Cond.code yX2_numberAt cX2_numberAt 5 (some .int), Cond.methodLink RL 124 yL_rightsAt, Cond.static yL_rightsAt, Cond.codeWith yL_rightsAt cL_rightsAt 5 (some .int) [(0, 10, 13, 13)], Cond.methodLink RL 51 yX1_rightsAt, Cond.instanceMethod yX1_rightsAt, Cond.selects RX1 yX1_rightsAt yX1_rightsAt, Cond.code yX1_rightsAt cX1_rightsAt 3 (some .int), Cond.methodLink RL 126 yX2_rightsAt, Cond.instanceMethod yX2_rightsAt, Cond.selects RX2 yX2_rightsAt yX2_rightsAt, Cond.code yX2_rightsAt cX2_rightsAt 3 (some .int), Cond.methodLink RL 127 yL_sizeAt, Cond.static yL_sizeAt, Cond.codeWith yL_sizeAt cL_sizeAt 5 (some .int) [(0, 10, 13, 13)], Cond.methodLink RL 54 yX1_sizeAt, Cond.instanceMethod yX1_sizeAt, Cond.selects RX1 yX1_sizeAt yX1_sizeAt, Cond.code yX1_sizeAt cX1_sizeAt 3 (some .int), Cond.methodLink RX1 114 yX1_differenceTakes, Cond.instanceMethod yX1_differenceTakes, Cond.selects RX1 yX1_differenceTakes yX1_differenceTakes, Cond.code yX1_differenceTakes cX1_differenceTakes 6 (some .int), Cond.methodLink RX1 121 yX1_rowTakes]
def wsL_law0_r15 : List Cond := [Cond.static yX1_rowTakes, Cond.code yX1_rowTakes cX1_rowTakes 5 (some .int), Cond.methodLink RX1 125 yX1_longestCopy, Cond.static yX1_longestCopy, Cond.code yX1_longestCopy cX1_longestCopy 5 (some .int), Cond.methodLink RX1 133 Lib.Math.max.name, Cond.static Lib.Math.max.name, Cond.initialized "java/lang/Math", Cond.code Lib.Math.max.name Lib.Math.max.code 2 (some .int), Cond.methodLink RL 129 yX2_sizeAt, Cond.instanceMethod yX2_sizeAt, Cond.selects RX2 yX2_sizeAt yX2_sizeAt, Cond.code yX2_sizeAt cX2_sizeAt 3 (some .int), Cond.methodLink RX2 98 yX2_sizeOf, Cond.instanceMethod yX2_sizeOf, Cond.selects RX2 yX2_sizeOf yX2_sizeOf, Cond.code yX2_sizeOf cX2_sizeOf 3 (some .int), Cond.methodLink RX2 95 yX2_takes, Cond.instanceMethod yX2_takes, Cond.selects RX2 yX2_takes yX2_takes, Cond.code yX2_takes cX2_takes 5 (some .int), Cond.methodLink RX2 92 yX2_taken, Cond.instanceMethod yX2_taken, Cond.selects RX2 yX2_taken yX2_taken]
def wsL_law0_r16 : List Cond := [Cond.code yX2_taken cX2_taken 6 (some .int), Cond.methodLink RX2 88 yX2_longest, Cond.instanceMethod yX2_longest, Cond.selects RX2 yX2_longest yX2_longest, Cond.code yX2_longest cX2_longest 7 (some .int), Cond.methodLink RL 130 yX1_size, Cond.instanceMethod yX1_size, Cond.selects RX1 yX1_size yX1_size, Cond.code yX1_size cX1_size 4 (some .int), Cond.methodLink RL 133 yX2_size, Cond.instanceMethod yX2_size, Cond.selects RX2 yX2_size yX2_size, Cond.code yX2_size cX2_size 3 (some .int)]
def wsL_law0 : List Cond := (wsL_law0_r1 ++ (wsL_law0_r2 ++ (wsL_law0_r3 ++ (wsL_law0_r4 ++ (wsL_law0_r5 ++ (wsL_law0_r6 ++ (wsL_law0_r7 ++ (wsL_law0_r8 ++ (wsL_law0_r9 ++ (wsL_law0_r10 ++ (wsL_law0_r11 ++ (wsL_law0_r12 ++ (wsL_law0_r13 ++ (wsL_law0_r14 ++ (wsL_law0_r15 ++ wsL_law0_r16))))))))))))))) ++ wsX10 ++ wsX20 ++ wsX00 ++ ([] : List Cond)
def wsL_law : List Cond := wsL_law0 ++ (vx_atS RX1 113 "java/lang/IndexOutOfBoundsException" ["java/lang/RuntimeException", "java/lang/Exception"]).filter goodWord ++ (vx_atS RX1 54 "java/lang/IllegalStateException" ["java/lang/RuntimeException", "java/lang/Exception"]).filter goodWord ++ (vx_atS RX1 61 "java/lang/IllegalArgumentException" ["java/lang/RuntimeException", "java/lang/Exception"]).filter goodWord
set_option maxRecDepth 20000 in
theorem wsL_law_in0 : ∀ w ∈ wsL_law0, w ∈ lw_tbl := fun w h => (goodIn_p wsL_law0 [35, 38, 43, 365, 144, 147, 219, 402, 405, 408, 412, 416, 419, 422, 398, 226, 426, 233, 430, 242, 277, 434, 284, 289, 438, 296, 442, 305, 86, 106, 109, 113, 116, 119, 446, 450, 454, 458, 462, 466, 82, 470, 314, 474, 323, 327, 478, 482, 90, 486, 94, 490, 98, 494, 102, 498, 335, 339, 502, 506, 509, 346, 513, 353, 517, 360, 127, 130, 133, 136, 521, 525, 529, 533, 537, 123, 541] (by decide +kernel) (by decide +kernel) w h).1
theorem wsL_law_x0 : ∀ w ∈ (vx_atS RX1 113 "java/lang/IndexOutOfBoundsException" ["java/lang/RuntimeException", "java/lang/Exception"]).filter goodWord, w ∈ lw_tbl := by decide +kernel
theorem wsL_law_x1 : ∀ w ∈ (vx_atS RX1 54 "java/lang/IllegalStateException" ["java/lang/RuntimeException", "java/lang/Exception"]).filter goodWord, w ∈ lw_tbl := by decide +kernel
theorem wsL_law_x2 : ∀ w ∈ (vx_atS RX1 61 "java/lang/IllegalArgumentException" ["java/lang/RuntimeException", "java/lang/Exception"]).filter goodWord, w ∈ lw_tbl := by decide +kernel
theorem wsL_law_in : ∀ w ∈ wsL_law, w ∈ lw_tbl := fun w h => (List.mem_append.mp h).elim (fun h => (List.mem_append.mp h).elim (fun h => (List.mem_append.mp h).elim (fun h => wsL_law_in0 w h) (fun h => wsL_law_x0 w h)) (fun h => wsL_law_x1 w h)) (fun h => wsL_law_x2 w h)
theorem inlX0 : ∀ w ∈ wsX00, w ∈ wsL_law := fun _ h => List.mem_append_left _ (List.mem_append_left _ (List.mem_append_left _ (List.mem_append_left _ (List.mem_append_right _ h))))
theorem inX0 : ∀ w ∈ wsX00, w ∈ lw_tbl := fun w h => wsL_law_in w (inlX0 w h)
theorem inlX1 : ∀ w ∈ wsX10, w ∈ wsL_law := fun _ h => List.mem_append_left _ (List.mem_append_left _ (List.mem_append_left _ (List.mem_append_left _ (List.mem_append_left _ (List.mem_append_left _ (List.mem_append_right _ h))))))
theorem inX1 : ∀ w ∈ wsX10, w ∈ lw_tbl := fun w h => wsL_law_in w (inlX1 w h)
theorem inlX2 : ∀ w ∈ wsX20, w ∈ wsL_law := fun _ h => List.mem_append_left _ (List.mem_append_left _ (List.mem_append_left _ (List.mem_append_left _ (List.mem_append_left _ (List.mem_append_right _ h)))))
theorem inX2 : ∀ w ∈ wsX20, w ∈ lw_tbl := fun w h => wsL_law_in w (inlX2 w h)
theorem inJ9 : ∀ w ∈ wsJ90, w ∈ lw_tbl := by decide +kernel
theorem inJ0 : ∀ w ∈ wsJ00, w ∈ lw_tbl := by decide +kernel
theorem dX0_init_0 : decode cX0_init 0 = .ok (.aload_n 0, 1) := by decide +kernel
theorem dX0_init_1 : decode cX0_init 1 = .ok (.invokespecial 1, 3) := by decide +kernel
theorem dX0_init_4 : decode cX0_init 4 = .ok (.aload_n 0, 1) := by decide +kernel
theorem dX0_init_5 : decode cX0_init 5 = .ok (.iload_n 1, 1) := by decide +kernel
theorem dX0_init_6 : decode cX0_init 6 = .ok (.putfield 7, 3) := by decide +kernel
theorem dX0_init_9 : decode cX0_init 9 = .ok (.aload_n 0, 1) := by decide +kernel
theorem dX0_init_10 : decode cX0_init 10 = .ok (.iload_n 2, 1) := by decide +kernel
theorem dX0_init_11 : decode cX0_init 11 = .ok (.putfield 13, 3) := by decide +kernel
theorem dX0_init_14 : decode cX0_init 14 = .ok (.aload_n 0, 1) := by decide +kernel
theorem dX0_init_15 : decode cX0_init 15 = .ok (.aload_n 3, 1) := by decide +kernel
theorem dX0_init_16 : decode cX0_init 16 = .ok (.putfield 16, 3) := by decide +kernel
theorem dX0_init_19 : decode cX0_init 19 = .ok (.return_, 1) := by decide +kernel
set_option maxRecDepth 20000 in
theorem ggX0_isLike_X1_isSameRow : GoodIn wsX0_isLike wsX1_isSameRow := goodIn_r _ [6, 7, 8, 5, 9] (by decide +kernel) (by decide +kernel)
set_option maxRecDepth 20000 in
theorem gX0_isLike_X1_isSameRow_n20 : GoodIn wsX0_isLike (wsX1_isSameRow) := ggX0_isLike_X1_isSameRow
theorem dX0_isLike_0 : decode cX0_isLike 0 = .ok (.aload_n 0, 1) := by decide +kernel
theorem dX0_isLike_1 : decode cX0_isLike 1 = .ok (.getfield 7, 3) := by decide +kernel
theorem dX0_isLike_4 : decode cX0_isLike 4 = .ok (.aload_n 1, 1) := by decide +kernel
theorem dX0_isLike_5 : decode cX0_isLike 5 = .ok (.getfield 7, 3) := by decide +kernel
theorem dX0_isLike_8 : decode cX0_isLike 8 = .ok (.if_icmp .ne 32, 3) := by decide +kernel
theorem dX0_isLike_11 : decode cX0_isLike 11 = .ok (.aload_n 0, 1) := by decide +kernel
theorem dX0_isLike_12 : decode cX0_isLike 12 = .ok (.getfield 13, 3) := by decide +kernel
theorem dX0_isLike_15 : decode cX0_isLike 15 = .ok (.aload_n 1, 1) := by decide +kernel
theorem dX0_isLike_16 : decode cX0_isLike 16 = .ok (.getfield 13, 3) := by decide +kernel
theorem dX0_isLike_19 : decode cX0_isLike 19 = .ok (.if_icmp .ne 21, 3) := by decide +kernel
theorem dX0_isLike_22 : decode cX0_isLike 22 = .ok (.aload_n 0, 1) := by decide +kernel
theorem dX0_isLike_23 : decode cX0_isLike 23 = .ok (.getfield 16, 3) := by decide +kernel
theorem dX0_isLike_26 : decode cX0_isLike 26 = .ok (.aload_n 1, 1) := by decide +kernel
theorem dX0_isLike_27 : decode cX0_isLike 27 = .ok (.getfield 16, 3) := by decide +kernel
theorem dX0_isLike_30 : decode cX0_isLike 30 = .ok (.invokestatic 20, 3) := by decide +kernel
theorem dX0_isLike_33 : decode cX0_isLike 33 = .ok (.ifCond .eq 7, 3) := by decide +kernel
theorem dX0_isLike_36 : decode cX0_isLike 36 = .ok (.iconst 1, 1) := by decide +kernel
theorem dX0_isLike_37 : decode cX0_isLike 37 = .ok (.goto 4, 3) := by decide +kernel
theorem dX0_isLike_40 : decode cX0_isLike 40 = .ok (.iconst 0, 1) := by decide +kernel
theorem dX0_isLike_41 : decode cX0_isLike 41 = .ok (.ireturn, 1) := by decide +kernel
set_option maxRecDepth 20000 in
theorem ggX1_init_X0_init : GoodIn wsX1_init wsX0_init := goodIn_r _ [16, 17, 2, 3, 18, 19, 20, 21, 22, 23] (by decide +kernel) (by decide +kernel)
set_option maxRecDepth 20000 in
theorem gX1_init_X0_init : GoodIn wsX1_init (wsX0_init) := ggX1_init_X0_init
theorem dX1_init_0 : decode cX1_init 0 = .ok (.aload_n 0, 1) := by decide +kernel
theorem dX1_init_1 : decode cX1_init 1 = .ok (.invokespecial 1, 3) := by decide +kernel
theorem dX1_init_4 : decode cX1_init 4 = .ok (.new 7, 3) := by decide +kernel
theorem dX1_init_7 : decode cX1_init 7 = .ok (.dup, 1) := by decide +kernel
theorem dX1_init_8 : decode cX1_init 8 = .ok (.iconst 0, 1) := by decide +kernel
theorem dX1_init_9 : decode cX1_init 9 = .ok (.iconst 0, 1) := by decide +kernel
theorem dX1_init_10 : decode cX1_init 10 = .ok (.iconst 0, 1) := by decide +kernel
theorem dX1_init_11 : decode cX1_init 11 = .ok (.newarray .int, 2) := by decide +kernel
theorem dX1_init_13 : decode cX1_init 13 = .ok (.invokespecial 11, 3) := by decide +kernel
theorem dX1_init_16 : decode cX1_init 16 = .ok (.astore_n 1, 1) := by decide +kernel
theorem dX1_init_17 : decode cX1_init 17 = .ok (.aload_n 0, 1) := by decide +kernel
theorem dX1_init_18 : decode cX1_init 18 = .ok (.bipush 6, 2) := by decide +kernel
theorem dX1_init_20 : decode cX1_init 20 = .ok (.anewarray 7, 3) := by decide +kernel
theorem dX1_init_23 : decode cX1_init 23 = .ok (.putfield 14, 3) := by decide +kernel
theorem dX1_init_26 : decode cX1_init 26 = .ok (.iconst 0, 1) := by decide +kernel
theorem dX1_init_27 : decode cX1_init 27 = .ok (.istore_n 2, 1) := by decide +kernel
theorem dX1_init_28 : decode cX1_init 28 = .ok (.iload_n 2, 1) := by decide +kernel
theorem dX1_init_29 : decode cX1_init 29 = .ok (.aload_n 0, 1) := by decide +kernel
theorem dX1_init_30 : decode cX1_init 30 = .ok (.getfield 14, 3) := by decide +kernel
theorem dX1_init_33 : decode cX1_init 33 = .ok (.arraylength, 1) := by decide +kernel
theorem dX1_init_34 : decode cX1_init 34 = .ok (.if_icmp .ge 16, 3) := by decide +kernel
theorem dX1_init_37 : decode cX1_init 37 = .ok (.aload_n 0, 1) := by decide +kernel
theorem dX1_init_38 : decode cX1_init 38 = .ok (.getfield 14, 3) := by decide +kernel
theorem dX1_init_41 : decode cX1_init 41 = .ok (.iload_n 2, 1) := by decide +kernel
theorem dX1_init_42 : decode cX1_init 42 = .ok (.aload_n 1, 1) := by decide +kernel
theorem dX1_init_43 : decode cX1_init 43 = .ok (.aastore, 1) := by decide +kernel
theorem dX1_init_44 : decode cX1_init 44 = .ok (.iinc 2 1, 3) := by decide +kernel
theorem dX1_init_47 : decode cX1_init 47 = .ok (.goto (-19), 3) := by decide +kernel
theorem dX1_init_50 : decode cX1_init 50 = .ok (.aload_n 0, 1) := by decide +kernel
theorem dX1_init_51 : decode cX1_init 51 = .ok (.sipush 246, 3) := by decide +kernel
theorem dX1_init_54 : decode cX1_init 54 = .ok (.anewarray 7, 3) := by decide +kernel
theorem dX1_init_57 : decode cX1_init 57 = .ok (.putfield 18, 3) := by decide +kernel
theorem dX1_init_60 : decode cX1_init 60 = .ok (.iconst 0, 1) := by decide +kernel
theorem dX1_init_61 : decode cX1_init 61 = .ok (.istore_n 2, 1) := by decide +kernel
theorem dX1_init_62 : decode cX1_init 62 = .ok (.iload_n 2, 1) := by decide +kernel
theorem dX1_init_63 : decode cX1_init 63 = .ok (.aload_n 0, 1) := by decide +kernel
theorem dX1_init_64 : decode cX1_init 64 = .ok (.getfield 18, 3) := by decide +kernel
theorem dX1_init_67 : decode cX1_init 67 = .ok (.arraylength, 1) := by decide +kernel
theorem dX1_init_68 : decode cX1_init 68 = .ok (.if_icmp .ge 16, 3) := by decide +kernel
theorem dX1_init_71 : decode cX1_init 71 = .ok (.aload_n 0, 1) := by decide +kernel
theorem dX1_init_72 : decode cX1_init 72 = .ok (.getfield 18, 3) := by decide +kernel
theorem dX1_init_75 : decode cX1_init 75 = .ok (.iload_n 2, 1) := by decide +kernel
theorem dX1_init_76 : decode cX1_init 76 = .ok (.aload_n 1, 1) := by decide +kernel
theorem dX1_init_77 : decode cX1_init 77 = .ok (.aastore, 1) := by decide +kernel
theorem dX1_init_78 : decode cX1_init 78 = .ok (.iinc 2 1, 3) := by decide +kernel
theorem dX1_init_81 : decode cX1_init 81 = .ok (.goto (-19), 3) := by decide +kernel
theorem dX1_init_84 : decode cX1_init 84 = .ok (.aload_n 0, 1) := by decide +kernel
theorem dX1_init_85 : decode cX1_init 85 = .ok (.iconst 0, 1) := by decide +kernel
theorem dX1_init_86 : decode cX1_init 86 = .ok (.putfield 21, 3) := by decide +kernel
theorem dX1_init_89 : decode cX1_init 89 = .ok (.aload_n 0, 1) := by decide +kernel
theorem dX1_init_90 : decode cX1_init 90 = .ok (.iconst 0, 1) := by decide +kernel
theorem dX1_init_91 : decode cX1_init 91 = .ok (.putfield 25, 3) := by decide +kernel
theorem dX1_init_94 : decode cX1_init 94 = .ok (.aload_n 0, 1) := by decide +kernel
theorem dX1_init_95 : decode cX1_init 95 = .ok (.iconst 0, 1) := by decide +kernel
theorem dX1_init_96 : decode cX1_init 96 = .ok (.putfield 28, 3) := by decide +kernel
theorem dX1_init_99 : decode cX1_init 99 = .ok (.aload_n 0, 1) := by decide +kernel
theorem dX1_init_100 : decode cX1_init 100 = .ok (.iconst 0, 1) := by decide +kernel
theorem dX1_init_101 : decode cX1_init 101 = .ok (.putfield 32, 3) := by decide +kernel
theorem dX1_init_104 : decode cX1_init 104 = .ok (.return_, 1) := by decide +kernel
set_option maxRecDepth 20000 in
theorem ggX1_makeFile_X1_checkPlace : GoodIn wsX1_makeFile wsX1_checkPlace := goodIn_ca (goodIn_r _ [8, 9, 10] (by decide +kernel) (by decide +kernel)) (goodIn_sub (fun _ h => List.mem_cons_of_mem _ (List.mem_append_right _ h)) (by decide +kernel))
set_option maxRecDepth 20000 in
theorem gX1_makeFile_X1_checkPlace : GoodIn wsX1_makeFile (va_wsS RX1 35 yX1_checkPlace wsX1_checkPlace) := goodIn_app (goodIn_of _ (by decide +kernel)) ggX1_makeFile_X1_checkPlace
set_option maxRecDepth 20000 in
theorem ggX1_makeFile_X0_init : GoodIn wsX1_makeFile wsX0_init := goodIn_r _ [13, 14, 15, 16, 17, 18, 19, 26, 27, 28] (by decide +kernel) (by decide +kernel)
set_option maxRecDepth 20000 in
theorem gX1_makeFile_X0_init : GoodIn wsX1_makeFile (wsX0_init) := ggX1_makeFile_X0_init
set_option maxRecDepth 20000 in
theorem ggX1_makeFile_X1_exchange : GoodIn wsX1_makeFile wsX1_exchange := goodIn_r _ [23, 24, 25, 29, 30, 31, 32, 33, 34, 26, 27, 28] (by decide +kernel) (by decide +kernel)
set_option maxRecDepth 20000 in
theorem gX1_makeFile_X1_exchange : GoodIn wsX1_makeFile (wsV RX1 39 RX1 yX1_exchange wsX1_exchange) := goodIn_app (goodIn_of _ (by decide +kernel)) ggX1_makeFile_X1_exchange
theorem dX1_makeFile_0 : decode cX1_makeFile 0 = .ok (.iload_n 1, 1) := by decide +kernel
theorem dX1_makeFile_1 : decode cX1_makeFile 1 = .ok (.invokestatic 35, 3) := by decide +kernel
theorem dX1_makeFile_4 : decode cX1_makeFile 4 = .ok (.aload_n 0, 1) := by decide +kernel
theorem dX1_makeFile_5 : decode cX1_makeFile 5 = .ok (.iload_n 1, 1) := by decide +kernel
theorem dX1_makeFile_6 : decode cX1_makeFile 6 = .ok (.new 7, 3) := by decide +kernel
theorem dX1_makeFile_9 : decode cX1_makeFile 9 = .ok (.dup, 1) := by decide +kernel
theorem dX1_makeFile_10 : decode cX1_makeFile 10 = .ok (.iconst 1, 1) := by decide +kernel
theorem dX1_makeFile_11 : decode cX1_makeFile 11 = .ok (.iconst 0, 1) := by decide +kernel
theorem dX1_makeFile_12 : decode cX1_makeFile 12 = .ok (.iconst 0, 1) := by decide +kernel
theorem dX1_makeFile_13 : decode cX1_makeFile 13 = .ok (.newarray .int, 2) := by decide +kernel
theorem dX1_makeFile_15 : decode cX1_makeFile 15 = .ok (.invokespecial 11, 3) := by decide +kernel
theorem dX1_makeFile_18 : decode cX1_makeFile 18 = .ok (.invokevirtual 39, 3) := by decide +kernel
theorem dX1_makeFile_21 : decode cX1_makeFile 21 = .ok (.ireturn, 1) := by decide +kernel
set_option maxRecDepth 20000 in
theorem ggX1_makeLink_X1_checkPlace : GoodIn wsX1_makeLink wsX1_checkPlace := goodIn_ca (goodIn_r _ [8, 9, 10] (by decide +kernel) (by decide +kernel)) (goodIn_sub (fun _ h => List.mem_cons_of_mem _ (List.mem_append_right _ h)) (by decide +kernel))
set_option maxRecDepth 20000 in
theorem gX1_makeLink_X1_checkPlace : GoodIn wsX1_makeLink (va_wsS RX1 35 yX1_checkPlace wsX1_checkPlace) := goodIn_app (goodIn_of _ (by decide +kernel)) ggX1_makeLink_X1_checkPlace
set_option maxRecDepth 20000 in
theorem ggX1_makeLink_X0_init : GoodIn wsX1_makeLink wsX0_init := goodIn_r _ [13, 14, 15, 16, 17, 18, 19, 26, 27, 28] (by decide +kernel) (by decide +kernel)
set_option maxRecDepth 20000 in
theorem gX1_makeLink_X0_init : GoodIn wsX1_makeLink (wsX0_init) := ggX1_makeLink_X0_init
set_option maxRecDepth 20000 in
theorem ggX1_makeLink_X1_exchange : GoodIn wsX1_makeLink wsX1_exchange := goodIn_r _ [23, 24, 25, 29, 30, 31, 32, 33, 34, 26, 27, 28] (by decide +kernel) (by decide +kernel)
set_option maxRecDepth 20000 in
theorem gX1_makeLink_X1_exchange : GoodIn wsX1_makeLink (wsV RX1 39 RX1 yX1_exchange wsX1_exchange) := goodIn_app (goodIn_of _ (by decide +kernel)) ggX1_makeLink_X1_exchange
theorem dX1_makeLink_0 : decode cX1_makeLink 0 = .ok (.iload_n 1, 1) := by decide +kernel
theorem dX1_makeLink_1 : decode cX1_makeLink 1 = .ok (.invokestatic 35, 3) := by decide +kernel
theorem dX1_makeLink_4 : decode cX1_makeLink 4 = .ok (.iload_n 2, 1) := by decide +kernel
theorem dX1_makeLink_5 : decode cX1_makeLink 5 = .ok (.invokestatic 35, 3) := by decide +kernel
theorem dX1_makeLink_8 : decode cX1_makeLink 8 = .ok (.aload_n 0, 1) := by decide +kernel
theorem dX1_makeLink_9 : decode cX1_makeLink 9 = .ok (.iload_n 1, 1) := by decide +kernel
theorem dX1_makeLink_10 : decode cX1_makeLink 10 = .ok (.new 7, 3) := by decide +kernel
theorem dX1_makeLink_13 : decode cX1_makeLink 13 = .ok (.dup, 1) := by decide +kernel
theorem dX1_makeLink_14 : decode cX1_makeLink 14 = .ok (.iconst 2, 1) := by decide +kernel
theorem dX1_makeLink_15 : decode cX1_makeLink 15 = .ok (.iconst 0, 1) := by decide +kernel
theorem dX1_makeLink_16 : decode cX1_makeLink 16 = .ok (.iconst 1, 1) := by decide +kernel
theorem dX1_makeLink_17 : decode cX1_makeLink 17 = .ok (.newarray .int, 2) := by decide +kernel
theorem dX1_makeLink_19 : decode cX1_makeLink 19 = .ok (.dup, 1) := by decide +kernel
theorem dX1_makeLink_20 : decode cX1_makeLink 20 = .ok (.iconst 0, 1) := by decide +kernel
theorem dX1_makeLink_21 : decode cX1_makeLink 21 = .ok (.iload_n 2, 1) := by decide +kernel
theorem dX1_makeLink_22 : decode cX1_makeLink 22 = .ok (.iastore, 1) := by decide +kernel
theorem dX1_makeLink_23 : decode cX1_makeLink 23 = .ok (.invokespecial 11, 3) := by decide +kernel
theorem dX1_makeLink_26 : decode cX1_makeLink 26 = .ok (.invokevirtual 39, 3) := by decide +kernel
theorem dX1_makeLink_29 : decode cX1_makeLink 29 = .ok (.ireturn, 1) := by decide +kernel
set_option maxRecDepth 20000 in
theorem ggX1_remove_X1_checkPlace : GoodIn wsX1_remove wsX1_checkPlace := goodIn_ca (goodIn_r _ [8, 9, 10] (by decide +kernel) (by decide +kernel)) (goodIn_sub (fun _ h => List.mem_cons_of_mem _ (List.mem_append_right _ h)) (by decide +kernel))
set_option maxRecDepth 20000 in
theorem gX1_remove_X1_checkPlace : GoodIn wsX1_remove (va_wsS RX1 35 yX1_checkPlace wsX1_checkPlace) := goodIn_app (goodIn_of _ (by decide +kernel)) ggX1_remove_X1_checkPlace
set_option maxRecDepth 20000 in
theorem ggX1_remove_X0_init : GoodIn wsX1_remove wsX0_init := goodIn_r _ [13, 14, 15, 16, 17, 18, 19, 26, 27, 28] (by decide +kernel) (by decide +kernel)
set_option maxRecDepth 20000 in
theorem gX1_remove_X0_init : GoodIn wsX1_remove (wsX0_init) := ggX1_remove_X0_init
set_option maxRecDepth 20000 in
theorem ggX1_remove_X1_exchange : GoodIn wsX1_remove wsX1_exchange := goodIn_r _ [23, 24, 25, 29, 30, 31, 32, 33, 34, 26, 27, 28] (by decide +kernel) (by decide +kernel)
set_option maxRecDepth 20000 in
theorem gX1_remove_X1_exchange : GoodIn wsX1_remove (wsV RX1 39 RX1 yX1_exchange wsX1_exchange) := goodIn_app (goodIn_of _ (by decide +kernel)) ggX1_remove_X1_exchange
theorem dX1_remove_0 : decode cX1_remove 0 = .ok (.iload_n 1, 1) := by decide +kernel
theorem dX1_remove_1 : decode cX1_remove 1 = .ok (.invokestatic 35, 3) := by decide +kernel
theorem dX1_remove_4 : decode cX1_remove 4 = .ok (.aload_n 0, 1) := by decide +kernel
theorem dX1_remove_5 : decode cX1_remove 5 = .ok (.iload_n 1, 1) := by decide +kernel
theorem dX1_remove_6 : decode cX1_remove 6 = .ok (.new 7, 3) := by decide +kernel
theorem dX1_remove_9 : decode cX1_remove 9 = .ok (.dup, 1) := by decide +kernel
theorem dX1_remove_10 : decode cX1_remove 10 = .ok (.iconst 0, 1) := by decide +kernel
theorem dX1_remove_11 : decode cX1_remove 11 = .ok (.iconst 0, 1) := by decide +kernel
theorem dX1_remove_12 : decode cX1_remove 12 = .ok (.iconst 0, 1) := by decide +kernel
theorem dX1_remove_13 : decode cX1_remove 13 = .ok (.newarray .int, 2) := by decide +kernel
theorem dX1_remove_15 : decode cX1_remove 15 = .ok (.invokespecial 11, 3) := by decide +kernel
theorem dX1_remove_18 : decode cX1_remove 18 = .ok (.invokevirtual 39, 3) := by decide +kernel
theorem dX1_remove_21 : decode cX1_remove 21 = .ok (.ireturn, 1) := by decide +kernel
set_option maxRecDepth 20000 in
theorem ggX1_put_X1_checkPlace : GoodIn wsX1_put wsX1_checkPlace := goodIn_ca (goodIn_r _ [15, 16, 17] (by decide +kernel) (by decide +kernel)) (goodIn_sub (fun _ h => List.mem_cons_of_mem _ (List.mem_append_right _ h)) (by decide +kernel))
set_option maxRecDepth 20000 in
theorem gX1_put_X1_checkPlace : GoodIn wsX1_put (va_wsS RX1 35 yX1_checkPlace wsX1_checkPlace) := goodIn_app (goodIn_of _ (by decide +kernel)) ggX1_put_X1_checkPlace
set_option maxRecDepth 20000 in
theorem ggX1_put_X1_rowWith : GoodIn wsX1_put wsX1_rowWith := goodIn_r _ [20, 21] (by decide +kernel) (by decide +kernel)
set_option maxRecDepth 20000 in
theorem gX1_put_X1_rowWith : GoodIn wsX1_put (va_wsS RX1 65 yX1_rowWith wsX1_rowWith) := goodIn_app (goodIn_of _ (by decide +kernel)) ggX1_put_X1_rowWith
set_option maxRecDepth 20000 in
theorem ggX1_put_X0_init : GoodIn wsX1_put wsX0_init := goodIn_r _ [24, 25, 26, 27, 28, 29, 30, 37, 38, 39] (by decide +kernel) (by decide +kernel)
set_option maxRecDepth 20000 in
theorem gX1_put_X0_init : GoodIn wsX1_put (wsX0_init) := ggX1_put_X0_init
theorem dX1_put_0 : decode cX1_put 0 = .ok (.iload_n 1, 1) := by decide +kernel
theorem dX1_put_1 : decode cX1_put 1 = .ok (.invokestatic 35, 3) := by decide +kernel
theorem dX1_put_4 : decode cX1_put 4 = .ok (.aload_n 0, 1) := by decide +kernel
theorem dX1_put_5 : decode cX1_put 5 = .ok (.getfield 14, 3) := by decide +kernel
theorem dX1_put_8 : decode cX1_put 8 = .ok (.iload_n 1, 1) := by decide +kernel
theorem dX1_put_9 : decode cX1_put 9 = .ok (.aaload, 1) := by decide +kernel
theorem dX1_put_10 : decode cX1_put 10 = .ok (.astore 4, 2) := by decide +kernel
theorem dX1_put_12 : decode cX1_put 12 = .ok (.aload 4, 2) := by decide +kernel
theorem dX1_put_14 : decode cX1_put 14 = .ok (.getfield 43, 3) := by decide +kernel
theorem dX1_put_17 : decode cX1_put 17 = .ok (.arraylength, 1) := by decide +kernel
theorem dX1_put_18 : decode cX1_put 18 = .ok (.istore 5, 2) := by decide +kernel
theorem dX1_put_20 : decode cX1_put 20 = .ok (.aload 4, 2) := by decide +kernel
theorem dX1_put_22 : decode cX1_put 22 = .ok (.getfield 47, 3) := by decide +kernel
theorem dX1_put_25 : decode cX1_put 25 = .ok (.iconst 1, 1) := by decide +kernel
theorem dX1_put_26 : decode cX1_put 26 = .ok (.if_icmp .ne 10, 3) := by decide +kernel
theorem dX1_put_29 : decode cX1_put 29 = .ok (.iload 5, 2) := by decide +kernel
theorem dX1_put_31 : decode cX1_put 31 = .ok (.bipush 12, 2) := by decide +kernel
theorem dX1_put_33 : decode cX1_put 33 = .ok (.if_icmp .lt 13, 3) := by decide +kernel
theorem dX1_put_36 : decode cX1_put 36 = .ok (.new 50, 3) := by decide +kernel
theorem dX1_put_39 : decode cX1_put 39 = .ok (.dup, 1) := by decide +kernel
theorem dX1_put_40 : decode cX1_put 40 = .ok (.ldc 52, 2) := by decide +kernel
theorem dX1_put_42 : decode cX1_put 42 = .ok (.invokespecial 54, 3) := by decide +kernel
theorem dX1_put_45 : decode cX1_put 45 = .ok (.athrow, 1) := by decide +kernel
theorem dX1_put_46 : decode cX1_put 46 = .ok (.iload_n 2, 1) := by decide +kernel
theorem dX1_put_47 : decode cX1_put 47 = .ok (.ifCond .lt 19, 3) := by decide +kernel
theorem dX1_put_50 : decode cX1_put 50 = .ok (.iload_n 2, 1) := by decide +kernel
theorem dX1_put_51 : decode cX1_put 51 = .ok (.iload 5, 2) := by decide +kernel
theorem dX1_put_53 : decode cX1_put 53 = .ok (.if_icmp .gt 13, 3) := by decide +kernel
theorem dX1_put_56 : decode cX1_put 56 = .ok (.iload_n 3, 1) := by decide +kernel
theorem dX1_put_57 : decode cX1_put 57 = .ok (.ifCond .lt 9, 3) := by decide +kernel
theorem dX1_put_60 : decode cX1_put 60 = .ok (.iload_n 3, 1) := by decide +kernel
theorem dX1_put_61 : decode cX1_put 61 = .ok (.bipush 9, 2) := by decide +kernel
theorem dX1_put_63 : decode cX1_put 63 = .ok (.if_icmp .le 13, 3) := by decide +kernel
theorem dX1_put_66 : decode cX1_put 66 = .ok (.new 57, 3) := by decide +kernel
theorem dX1_put_69 : decode cX1_put 69 = .ok (.dup, 1) := by decide +kernel
theorem dX1_put_70 : decode cX1_put 70 = .ok (.ldc 59, 2) := by decide +kernel
theorem dX1_put_72 : decode cX1_put 72 = .ok (.invokespecial 61, 3) := by decide +kernel
theorem dX1_put_75 : decode cX1_put 75 = .ok (.athrow, 1) := by decide +kernel
theorem dX1_put_76 : decode cX1_put 76 = .ok (.aload_n 0, 1) := by decide +kernel
theorem dX1_put_77 : decode cX1_put 77 = .ok (.getfield 14, 3) := by decide +kernel
theorem dX1_put_80 : decode cX1_put 80 = .ok (.iload_n 1, 1) := by decide +kernel
theorem dX1_put_81 : decode cX1_put 81 = .ok (.new 7, 3) := by decide +kernel
theorem dX1_put_84 : decode cX1_put 84 = .ok (.dup, 1) := by decide +kernel
theorem dX1_put_85 : decode cX1_put 85 = .ok (.iconst 1, 1) := by decide +kernel
theorem dX1_put_86 : decode cX1_put 86 = .ok (.aload 4, 2) := by decide +kernel
theorem dX1_put_88 : decode cX1_put 88 = .ok (.getfield 62, 3) := by decide +kernel
theorem dX1_put_91 : decode cX1_put 91 = .ok (.aload 4, 2) := by decide +kernel
theorem dX1_put_93 : decode cX1_put 93 = .ok (.getfield 43, 3) := by decide +kernel
theorem dX1_put_96 : decode cX1_put 96 = .ok (.iload_n 2, 1) := by decide +kernel
theorem dX1_put_97 : decode cX1_put 97 = .ok (.iload_n 3, 1) := by decide +kernel
theorem dX1_put_98 : decode cX1_put 98 = .ok (.invokestatic 65, 3) := by decide +kernel
theorem dX1_put_101 : decode cX1_put 101 = .ok (.invokespecial 11, 3) := by decide +kernel
theorem dX1_put_104 : decode cX1_put 104 = .ok (.aastore, 1) := by decide +kernel
theorem dX1_put_105 : decode cX1_put 105 = .ok (.iload 5, 2) := by decide +kernel
theorem dX1_put_107 : decode cX1_put 107 = .ok (.iconst 1, 1) := by decide +kernel
theorem dX1_put_108 : decode cX1_put 108 = .ok (.iadd, 1) := by decide +kernel
theorem dX1_put_109 : decode cX1_put 109 = .ok (.ireturn, 1) := by decide +kernel
set_option maxRecDepth 20000 in
theorem ggX1_take_X1_checkPlace : GoodIn wsX1_take wsX1_checkPlace := goodIn_ca (goodIn_r _ [15, 16, 17] (by decide +kernel) (by decide +kernel)) (goodIn_sub (fun _ h => List.mem_cons_of_mem _ (List.mem_append_right _ h)) (by decide +kernel))
set_option maxRecDepth 20000 in
theorem gX1_take_X1_checkPlace : GoodIn wsX1_take (va_wsS RX1 35 yX1_checkPlace wsX1_checkPlace) := goodIn_app (goodIn_of _ (by decide +kernel)) ggX1_take_X1_checkPlace
set_option maxRecDepth 20000 in
theorem ggX1_take_X1_rowWithout : GoodIn wsX1_take wsX1_rowWithout := goodIn_r _ [20, 21] (by decide +kernel) (by decide +kernel)
set_option maxRecDepth 20000 in
theorem gX1_take_X1_rowWithout : GoodIn wsX1_take (va_wsS RX1 73 yX1_rowWithout wsX1_rowWithout) := goodIn_app (goodIn_of _ (by decide +kernel)) ggX1_take_X1_rowWithout
set_option maxRecDepth 20000 in
theorem ggX1_take_X0_init : GoodIn wsX1_take wsX0_init := goodIn_r _ [24, 25, 26, 27, 28, 29, 30, 37, 38, 39] (by decide +kernel) (by decide +kernel)
set_option maxRecDepth 20000 in
theorem gX1_take_X0_init : GoodIn wsX1_take (wsX0_init) := ggX1_take_X0_init
theorem dX1_take_0 : decode cX1_take 0 = .ok (.iload_n 1, 1) := by decide +kernel
theorem dX1_take_1 : decode cX1_take 1 = .ok (.invokestatic 35, 3) := by decide +kernel
theorem dX1_take_4 : decode cX1_take 4 = .ok (.aload_n 0, 1) := by decide +kernel
theorem dX1_take_5 : decode cX1_take 5 = .ok (.getfield 14, 3) := by decide +kernel
theorem dX1_take_8 : decode cX1_take 8 = .ok (.iload_n 1, 1) := by decide +kernel
theorem dX1_take_9 : decode cX1_take 9 = .ok (.aaload, 1) := by decide +kernel
theorem dX1_take_10 : decode cX1_take 10 = .ok (.astore_n 3, 1) := by decide +kernel
theorem dX1_take_11 : decode cX1_take 11 = .ok (.aload_n 3, 1) := by decide +kernel
theorem dX1_take_12 : decode cX1_take 12 = .ok (.getfield 47, 3) := by decide +kernel
theorem dX1_take_15 : decode cX1_take 15 = .ok (.iconst 1, 1) := by decide +kernel
theorem dX1_take_16 : decode cX1_take 16 = .ok (.if_icmp .eq 13, 3) := by decide +kernel
theorem dX1_take_19 : decode cX1_take 19 = .ok (.new 50, 3) := by decide +kernel
theorem dX1_take_22 : decode cX1_take 22 = .ok (.dup, 1) := by decide +kernel
theorem dX1_take_23 : decode cX1_take 23 = .ok (.ldc 69, 2) := by decide +kernel
theorem dX1_take_25 : decode cX1_take 25 = .ok (.invokespecial 54, 3) := by decide +kernel
theorem dX1_take_28 : decode cX1_take 28 = .ok (.athrow, 1) := by decide +kernel
theorem dX1_take_29 : decode cX1_take 29 = .ok (.iload_n 2, 1) := by decide +kernel
theorem dX1_take_30 : decode cX1_take 30 = .ok (.ifCond .lt 12, 3) := by decide +kernel
theorem dX1_take_33 : decode cX1_take 33 = .ok (.iload_n 2, 1) := by decide +kernel
theorem dX1_take_34 : decode cX1_take 34 = .ok (.aload_n 3, 1) := by decide +kernel
theorem dX1_take_35 : decode cX1_take 35 = .ok (.getfield 43, 3) := by decide +kernel
theorem dX1_take_38 : decode cX1_take 38 = .ok (.arraylength, 1) := by decide +kernel
theorem dX1_take_39 : decode cX1_take 39 = .ok (.if_icmp .lt 13, 3) := by decide +kernel
theorem dX1_take_42 : decode cX1_take 42 = .ok (.new 57, 3) := by decide +kernel
theorem dX1_take_45 : decode cX1_take 45 = .ok (.dup, 1) := by decide +kernel
theorem dX1_take_46 : decode cX1_take 46 = .ok (.ldc 71, 2) := by decide +kernel
theorem dX1_take_48 : decode cX1_take 48 = .ok (.invokespecial 61, 3) := by decide +kernel
theorem dX1_take_51 : decode cX1_take 51 = .ok (.athrow, 1) := by decide +kernel
theorem dX1_take_52 : decode cX1_take 52 = .ok (.aload_n 0, 1) := by decide +kernel
theorem dX1_take_53 : decode cX1_take 53 = .ok (.getfield 14, 3) := by decide +kernel
theorem dX1_take_56 : decode cX1_take 56 = .ok (.iload_n 1, 1) := by decide +kernel
theorem dX1_take_57 : decode cX1_take 57 = .ok (.new 7, 3) := by decide +kernel
theorem dX1_take_60 : decode cX1_take 60 = .ok (.dup, 1) := by decide +kernel
theorem dX1_take_61 : decode cX1_take 61 = .ok (.iconst 1, 1) := by decide +kernel
theorem dX1_take_62 : decode cX1_take 62 = .ok (.aload_n 3, 1) := by decide +kernel
theorem dX1_take_63 : decode cX1_take 63 = .ok (.getfield 62, 3) := by decide +kernel
theorem dX1_take_66 : decode cX1_take 66 = .ok (.aload_n 3, 1) := by decide +kernel
theorem dX1_take_67 : decode cX1_take 67 = .ok (.getfield 43, 3) := by decide +kernel
theorem dX1_take_70 : decode cX1_take 70 = .ok (.iload_n 2, 1) := by decide +kernel
theorem dX1_take_71 : decode cX1_take 71 = .ok (.invokestatic 73, 3) := by decide +kernel
theorem dX1_take_74 : decode cX1_take 74 = .ok (.invokespecial 11, 3) := by decide +kernel
theorem dX1_take_77 : decode cX1_take 77 = .ok (.aastore, 1) := by decide +kernel
theorem dX1_take_78 : decode cX1_take 78 = .ok (.aload_n 3, 1) := by decide +kernel
theorem dX1_take_79 : decode cX1_take 79 = .ok (.getfield 43, 3) := by decide +kernel
theorem dX1_take_82 : decode cX1_take 82 = .ok (.iload_n 2, 1) := by decide +kernel
theorem dX1_take_83 : decode cX1_take 83 = .ok (.iaload, 1) := by decide +kernel
theorem dX1_take_84 : decode cX1_take 84 = .ok (.ireturn, 1) := by decide +kernel
set_option maxRecDepth 20000 in
theorem ggX1_setRights_X1_checkPlace : GoodIn wsX1_setRights wsX1_checkPlace := goodIn_ca (goodIn_r _ [15, 16, 17] (by decide +kernel) (by decide +kernel)) (goodIn_sub (fun _ h => List.mem_cons_of_mem _ (List.mem_append_right _ h)) (by decide +kernel))
set_option maxRecDepth 20000 in
theorem gX1_setRights_X1_checkPlace : GoodIn wsX1_setRights (va_wsS RX1 35 yX1_checkPlace wsX1_checkPlace) := goodIn_app (goodIn_of _ (by decide +kernel)) ggX1_setRights_X1_checkPlace
set_option maxRecDepth 20000 in
theorem ggX1_setRights_X0_init : GoodIn wsX1_setRights wsX0_init := goodIn_r _ [20, 21, 22, 23, 24, 25, 26, 33, 34, 35] (by decide +kernel) (by decide +kernel)
set_option maxRecDepth 20000 in
theorem gX1_setRights_X0_init : GoodIn wsX1_setRights (wsX0_init) := ggX1_setRights_X0_init
theorem dX1_setRights_0 : decode cX1_setRights 0 = .ok (.iload_n 1, 1) := by decide +kernel
theorem dX1_setRights_1 : decode cX1_setRights 1 = .ok (.invokestatic 35, 3) := by decide +kernel
theorem dX1_setRights_4 : decode cX1_setRights 4 = .ok (.aload_n 0, 1) := by decide +kernel
theorem dX1_setRights_5 : decode cX1_setRights 5 = .ok (.getfield 14, 3) := by decide +kernel
theorem dX1_setRights_8 : decode cX1_setRights 8 = .ok (.iload_n 1, 1) := by decide +kernel
theorem dX1_setRights_9 : decode cX1_setRights 9 = .ok (.aaload, 1) := by decide +kernel
theorem dX1_setRights_10 : decode cX1_setRights 10 = .ok (.astore_n 3, 1) := by decide +kernel
theorem dX1_setRights_11 : decode cX1_setRights 11 = .ok (.aload_n 3, 1) := by decide +kernel
theorem dX1_setRights_12 : decode cX1_setRights 12 = .ok (.getfield 47, 3) := by decide +kernel
theorem dX1_setRights_15 : decode cX1_setRights 15 = .ok (.ifCond .ne 13, 3) := by decide +kernel
theorem dX1_setRights_18 : decode cX1_setRights 18 = .ok (.new 50, 3) := by decide +kernel
theorem dX1_setRights_21 : decode cX1_setRights 21 = .ok (.dup, 1) := by decide +kernel
theorem dX1_setRights_22 : decode cX1_setRights 22 = .ok (.ldc 77, 2) := by decide +kernel
theorem dX1_setRights_24 : decode cX1_setRights 24 = .ok (.invokespecial 54, 3) := by decide +kernel
theorem dX1_setRights_27 : decode cX1_setRights 27 = .ok (.athrow, 1) := by decide +kernel
theorem dX1_setRights_28 : decode cX1_setRights 28 = .ok (.iload_n 2, 1) := by decide +kernel
theorem dX1_setRights_29 : decode cX1_setRights 29 = .ok (.ifCond .lt 9, 3) := by decide +kernel
theorem dX1_setRights_32 : decode cX1_setRights 32 = .ok (.iload_n 2, 1) := by decide +kernel
theorem dX1_setRights_33 : decode cX1_setRights 33 = .ok (.bipush 7, 2) := by decide +kernel
theorem dX1_setRights_35 : decode cX1_setRights 35 = .ok (.if_icmp .le 13, 3) := by decide +kernel
theorem dX1_setRights_38 : decode cX1_setRights 38 = .ok (.new 57, 3) := by decide +kernel
theorem dX1_setRights_41 : decode cX1_setRights 41 = .ok (.dup, 1) := by decide +kernel
theorem dX1_setRights_42 : decode cX1_setRights 42 = .ok (.ldc 79, 2) := by decide +kernel
theorem dX1_setRights_44 : decode cX1_setRights 44 = .ok (.invokespecial 61, 3) := by decide +kernel
theorem dX1_setRights_47 : decode cX1_setRights 47 = .ok (.athrow, 1) := by decide +kernel
theorem dX1_setRights_48 : decode cX1_setRights 48 = .ok (.aload_n 0, 1) := by decide +kernel
theorem dX1_setRights_49 : decode cX1_setRights 49 = .ok (.getfield 14, 3) := by decide +kernel
theorem dX1_setRights_52 : decode cX1_setRights 52 = .ok (.iload_n 1, 1) := by decide +kernel
theorem dX1_setRights_53 : decode cX1_setRights 53 = .ok (.new 7, 3) := by decide +kernel
theorem dX1_setRights_56 : decode cX1_setRights 56 = .ok (.dup, 1) := by decide +kernel
theorem dX1_setRights_57 : decode cX1_setRights 57 = .ok (.aload_n 3, 1) := by decide +kernel
theorem dX1_setRights_58 : decode cX1_setRights 58 = .ok (.getfield 47, 3) := by decide +kernel
theorem dX1_setRights_61 : decode cX1_setRights 61 = .ok (.iload_n 2, 1) := by decide +kernel
theorem dX1_setRights_62 : decode cX1_setRights 62 = .ok (.aload_n 3, 1) := by decide +kernel
theorem dX1_setRights_63 : decode cX1_setRights 63 = .ok (.getfield 43, 3) := by decide +kernel
theorem dX1_setRights_66 : decode cX1_setRights 66 = .ok (.invokespecial 11, 3) := by decide +kernel
theorem dX1_setRights_69 : decode cX1_setRights 69 = .ok (.aastore, 1) := by decide +kernel
theorem dX1_setRights_70 : decode cX1_setRights 70 = .ok (.aload_n 3, 1) := by decide +kernel
theorem dX1_setRights_71 : decode cX1_setRights 71 = .ok (.getfield 62, 3) := by decide +kernel
theorem dX1_setRights_74 : decode cX1_setRights 74 = .ok (.ireturn, 1) := by decide +kernel
set_option maxRecDepth 20000 in
theorem ggX1_run_X1_undoBrokenRun : GoodIn wsX1_run wsX1_undoBrokenRun := goodIn_r _ [14, 7, 6, 35, 36, 37, 38, 39, 40] (by decide +kernel) (by decide +kernel)
set_option maxRecDepth 20000 in
theorem gX1_run_X1_undoBrokenRun : GoodIn wsX1_run (wsV RX1 85 RX1 yX1_undoBrokenRun wsX1_undoBrokenRun) := goodIn_app (goodIn_of _ (by decide +kernel)) ggX1_run_X1_undoBrokenRun
set_option maxRecDepth 20000 in
theorem ggX1_run_X1_stepsNeeded : GoodIn wsX1_run wsX1_stepsNeeded := goodIn_r _ [18, 9, 8, 5, 19, 20, 13, 21, 22, 23, 24, 25, 26, 27, 28, 29, 30, 31, 32, 33, 34, 35, 36, 37, 38, 39, 40, 41, 42, 43] (by decide +kernel) (by decide +kernel)
set_option maxRecDepth 20000 in
theorem gX1_run_X1_stepsNeeded : GoodIn wsX1_run (wsV RX1 89 RX1 yX1_stepsNeeded wsX1_stepsNeeded) := goodIn_app (goodIn_of _ (by decide +kernel)) ggX1_run_X1_stepsNeeded
set_option maxRecDepth 20000 in
theorem ggX1_run_X1_keptIndex : GoodIn wsX1_run wsX1_keptIndex := goodIn_r _ [21] (by decide +kernel) (by decide +kernel)
set_option maxRecDepth 20000 in
theorem gX1_run_X1_keptIndex : GoodIn wsX1_run (va_wsS RX1 92 yX1_keptIndex wsX1_keptIndex) := goodIn_app (goodIn_of _ (by decide +kernel)) ggX1_run_X1_keptIndex
theorem dX1_run_0 : decode cX1_run 0 = .ok (.iload_n 1, 1) := by decide +kernel
theorem dX1_run_1 : decode cX1_run 1 = .ok (.ifCond .lt 9, 3) := by decide +kernel
theorem dX1_run_4 : decode cX1_run 4 = .ok (.iload_n 1, 1) := by decide +kernel
theorem dX1_run_5 : decode cX1_run 5 = .ok (.bipush 6, 2) := by decide +kernel
theorem dX1_run_7 : decode cX1_run 7 = .ok (.if_icmp .le 13, 3) := by decide +kernel
theorem dX1_run_10 : decode cX1_run 10 = .ok (.new 57, 3) := by decide +kernel
theorem dX1_run_13 : decode cX1_run 13 = .ok (.dup, 1) := by decide +kernel
theorem dX1_run_14 : decode cX1_run 14 = .ok (.ldc 81, 2) := by decide +kernel
theorem dX1_run_16 : decode cX1_run 16 = .ok (.invokespecial 61, 3) := by decide +kernel
theorem dX1_run_19 : decode cX1_run 19 = .ok (.athrow, 1) := by decide +kernel
theorem dX1_run_20 : decode cX1_run 20 = .ok (.aload_n 0, 1) := by decide +kernel
theorem dX1_run_21 : decode cX1_run 21 = .ok (.getfield 25, 3) := by decide +kernel
theorem dX1_run_24 : decode cX1_run 24 = .ok (.bipush 40, 2) := by decide +kernel
theorem dX1_run_26 : decode cX1_run 26 = .ok (.if_icmp .lt 13, 3) := by decide +kernel
theorem dX1_run_29 : decode cX1_run 29 = .ok (.new 50, 3) := by decide +kernel
theorem dX1_run_32 : decode cX1_run 32 = .ok (.dup, 1) := by decide +kernel
theorem dX1_run_33 : decode cX1_run 33 = .ok (.ldc 83, 2) := by decide +kernel
theorem dX1_run_35 : decode cX1_run 35 = .ok (.invokespecial 54, 3) := by decide +kernel
theorem dX1_run_38 : decode cX1_run 38 = .ok (.athrow, 1) := by decide +kernel
theorem dX1_run_39 : decode cX1_run 39 = .ok (.aload_n 0, 1) := by decide +kernel
theorem dX1_run_40 : decode cX1_run 40 = .ok (.invokevirtual 85, 3) := by decide +kernel
theorem dX1_run_43 : decode cX1_run 43 = .ok (.pop, 1) := by decide +kernel
theorem dX1_run_44 : decode cX1_run 44 = .ok (.iload_n 1, 1) := by decide +kernel
theorem dX1_run_45 : decode cX1_run 45 = .ok (.aload_n 0, 1) := by decide +kernel
theorem dX1_run_46 : decode cX1_run 46 = .ok (.invokevirtual 89, 3) := by decide +kernel
theorem dX1_run_49 : decode cX1_run 49 = .ok (.if_icmp .ge 15, 3) := by decide +kernel
theorem dX1_run_52 : decode cX1_run 52 = .ok (.aload_n 0, 1) := by decide +kernel
theorem dX1_run_53 : decode cX1_run 53 = .ok (.iconst 1, 1) := by decide +kernel
theorem dX1_run_54 : decode cX1_run 54 = .ok (.putfield 28, 3) := by decide +kernel
theorem dX1_run_57 : decode cX1_run 57 = .ok (.aload_n 0, 1) := by decide +kernel
theorem dX1_run_58 : decode cX1_run 58 = .ok (.iload_n 1, 1) := by decide +kernel
theorem dX1_run_59 : decode cX1_run 59 = .ok (.putfield 32, 3) := by decide +kernel
theorem dX1_run_62 : decode cX1_run 62 = .ok (.iconst (-1), 1) := by decide +kernel
theorem dX1_run_63 : decode cX1_run 63 = .ok (.ireturn, 1) := by decide +kernel
theorem dX1_run_64 : decode cX1_run 64 = .ok (.aload_n 0, 1) := by decide +kernel
theorem dX1_run_65 : decode cX1_run 65 = .ok (.dup, 1) := by decide +kernel
theorem dX1_run_66 : decode cX1_run 66 = .ok (.getfield 25, 3) := by decide +kernel
theorem dX1_run_69 : decode cX1_run 69 = .ok (.iconst 1, 1) := by decide +kernel
theorem dX1_run_70 : decode cX1_run 70 = .ok (.iadd, 1) := by decide +kernel
theorem dX1_run_71 : decode cX1_run 71 = .ok (.putfield 25, 3) := by decide +kernel
theorem dX1_run_74 : decode cX1_run 74 = .ok (.iconst 0, 1) := by decide +kernel
theorem dX1_run_75 : decode cX1_run 75 = .ok (.istore_n 2, 1) := by decide +kernel
theorem dX1_run_76 : decode cX1_run 76 = .ok (.iload_n 2, 1) := by decide +kernel
theorem dX1_run_77 : decode cX1_run 77 = .ok (.bipush 6, 2) := by decide +kernel
theorem dX1_run_79 : decode cX1_run 79 = .ok (.if_icmp .ge 28, 3) := by decide +kernel
theorem dX1_run_82 : decode cX1_run 82 = .ok (.aload_n 0, 1) := by decide +kernel
theorem dX1_run_83 : decode cX1_run 83 = .ok (.getfield 18, 3) := by decide +kernel
theorem dX1_run_86 : decode cX1_run 86 = .ok (.aload_n 0, 1) := by decide +kernel
theorem dX1_run_87 : decode cX1_run 87 = .ok (.getfield 25, 3) := by decide +kernel
theorem dX1_run_90 : decode cX1_run 90 = .ok (.iload_n 2, 1) := by decide +kernel
theorem dX1_run_91 : decode cX1_run 91 = .ok (.invokestatic 92, 3) := by decide +kernel
theorem dX1_run_94 : decode cX1_run 94 = .ok (.aload_n 0, 1) := by decide +kernel
theorem dX1_run_95 : decode cX1_run 95 = .ok (.getfield 14, 3) := by decide +kernel
theorem dX1_run_98 : decode cX1_run 98 = .ok (.iload_n 2, 1) := by decide +kernel
theorem dX1_run_99 : decode cX1_run 99 = .ok (.aaload, 1) := by decide +kernel
theorem dX1_run_100 : decode cX1_run 100 = .ok (.aastore, 1) := by decide +kernel
theorem dX1_run_101 : decode cX1_run 101 = .ok (.iinc 2 1, 3) := by decide +kernel
theorem dX1_run_104 : decode cX1_run 104 = .ok (.goto (-28), 3) := by decide +kernel
theorem dX1_run_107 : decode cX1_run 107 = .ok (.aload_n 0, 1) := by decide +kernel
theorem dX1_run_108 : decode cX1_run 108 = .ok (.getfield 25, 3) := by decide +kernel
theorem dX1_run_111 : decode cX1_run 111 = .ok (.ireturn, 1) := by decide +kernel
set_option maxRecDepth 20000 in
theorem ggX1_mend_X1_undoBrokenRun : GoodIn wsX1_mend wsX1_undoBrokenRun := goodIn_r _ [5, 6, 7, 8, 9, 10, 11, 12, 13] (by decide +kernel) (by decide +kernel)
set_option maxRecDepth 20000 in
theorem gX1_mend_X1_undoBrokenRun : GoodIn wsX1_mend (wsV RX1 85 RX1 yX1_undoBrokenRun wsX1_undoBrokenRun) := goodIn_app (goodIn_of _ (by decide +kernel)) ggX1_mend_X1_undoBrokenRun
theorem dX1_mend_0 : decode cX1_mend 0 = .ok (.aload_n 0, 1) := by decide +kernel
theorem dX1_mend_1 : decode cX1_mend 1 = .ok (.invokevirtual 85, 3) := by decide +kernel
theorem dX1_mend_4 : decode cX1_mend 4 = .ok (.ireturn, 1) := by decide +kernel
set_option maxRecDepth 20000 in
theorem ggX1_thin_X1_undoBrokenRun : GoodIn wsX1_thin wsX1_undoBrokenRun := goodIn_r _ [11, 12, 13, 14, 15, 16, 17, 18, 19] (by decide +kernel) (by decide +kernel)
set_option maxRecDepth 20000 in
theorem gX1_thin_X1_undoBrokenRun : GoodIn wsX1_thin (wsV RX1 85 RX1 yX1_undoBrokenRun wsX1_undoBrokenRun) := goodIn_app (goodIn_of _ (by decide +kernel)) ggX1_thin_X1_undoBrokenRun
theorem dX1_thin_0 : decode cX1_thin 0 = .ok (.iload_n 1, 1) := by decide +kernel
theorem dX1_thin_1 : decode cX1_thin 1 = .ok (.iconst 1, 1) := by decide +kernel
theorem dX1_thin_2 : decode cX1_thin 2 = .ok (.if_icmp .lt 9, 3) := by decide +kernel
theorem dX1_thin_5 : decode cX1_thin 5 = .ok (.iload_n 1, 1) := by decide +kernel
theorem dX1_thin_6 : decode cX1_thin 6 = .ok (.bipush 40, 2) := by decide +kernel
theorem dX1_thin_8 : decode cX1_thin 8 = .ok (.if_icmp .le 13, 3) := by decide +kernel
theorem dX1_thin_11 : decode cX1_thin 11 = .ok (.new 57, 3) := by decide +kernel
theorem dX1_thin_14 : decode cX1_thin 14 = .ok (.dup, 1) := by decide +kernel
theorem dX1_thin_15 : decode cX1_thin 15 = .ok (.ldc 96, 2) := by decide +kernel
theorem dX1_thin_17 : decode cX1_thin 17 = .ok (.invokespecial 61, 3) := by decide +kernel
theorem dX1_thin_20 : decode cX1_thin 20 = .ok (.athrow, 1) := by decide +kernel
theorem dX1_thin_21 : decode cX1_thin 21 = .ok (.aload_n 0, 1) := by decide +kernel
theorem dX1_thin_22 : decode cX1_thin 22 = .ok (.getfield 21, 3) := by decide +kernel
theorem dX1_thin_25 : decode cX1_thin 25 = .ok (.iload_n 1, 1) := by decide +kernel
theorem dX1_thin_26 : decode cX1_thin 26 = .ok (.iadd, 1) := by decide +kernel
theorem dX1_thin_27 : decode cX1_thin 27 = .ok (.aload_n 0, 1) := by decide +kernel
theorem dX1_thin_28 : decode cX1_thin 28 = .ok (.getfield 25, 3) := by decide +kernel
theorem dX1_thin_31 : decode cX1_thin 31 = .ok (.if_icmp .le 13, 3) := by decide +kernel
theorem dX1_thin_34 : decode cX1_thin 34 = .ok (.new 50, 3) := by decide +kernel
theorem dX1_thin_37 : decode cX1_thin 37 = .ok (.dup, 1) := by decide +kernel
theorem dX1_thin_38 : decode cX1_thin 38 = .ok (.ldc 98, 2) := by decide +kernel
theorem dX1_thin_40 : decode cX1_thin 40 = .ok (.invokespecial 54, 3) := by decide +kernel
theorem dX1_thin_43 : decode cX1_thin 43 = .ok (.athrow, 1) := by decide +kernel
theorem dX1_thin_44 : decode cX1_thin 44 = .ok (.aload_n 0, 1) := by decide +kernel
theorem dX1_thin_45 : decode cX1_thin 45 = .ok (.invokevirtual 85, 3) := by decide +kernel
theorem dX1_thin_48 : decode cX1_thin 48 = .ok (.pop, 1) := by decide +kernel
theorem dX1_thin_49 : decode cX1_thin 49 = .ok (.aload_n 0, 1) := by decide +kernel
theorem dX1_thin_50 : decode cX1_thin 50 = .ok (.dup, 1) := by decide +kernel
theorem dX1_thin_51 : decode cX1_thin 51 = .ok (.getfield 21, 3) := by decide +kernel
theorem dX1_thin_54 : decode cX1_thin 54 = .ok (.iload_n 1, 1) := by decide +kernel
theorem dX1_thin_55 : decode cX1_thin 55 = .ok (.iadd, 1) := by decide +kernel
theorem dX1_thin_56 : decode cX1_thin 56 = .ok (.putfield 21, 3) := by decide +kernel
theorem dX1_thin_59 : decode cX1_thin 59 = .ok (.aload_n 0, 1) := by decide +kernel
theorem dX1_thin_60 : decode cX1_thin 60 = .ok (.getfield 21, 3) := by decide +kernel
theorem dX1_thin_63 : decode cX1_thin 63 = .ok (.ireturn, 1) := by decide +kernel
set_option maxRecDepth 20000 in
theorem ggX1_restore_X1_checkKept : GoodIn wsX1_restore wsX1_checkKept := goodIn_ca (goodIn_r _ [7, 8, 9, 10, 11, 34, 35, 36, 37, 38, 39] (by decide +kernel) (by decide +kernel)) (goodIn_sub (fun _ h => List.mem_cons_of_mem _ (List.mem_append_right _ h)) (by decide +kernel))
set_option maxRecDepth 20000 in
theorem gX1_restore_X1_checkKept : GoodIn wsX1_restore (wsV RX1 100 RX1 yX1_checkKept wsX1_checkKept) := goodIn_app (goodIn_of _ (by decide +kernel)) ggX1_restore_X1_checkKept
set_option maxRecDepth 20000 in
theorem ggX1_restore_X1_undoBrokenRun : GoodIn wsX1_restore wsX1_undoBrokenRun := goodIn_r _ [15, 16, 17, 34, 35, 36, 37, 38, 39] (by decide +kernel) (by decide +kernel)
set_option maxRecDepth 20000 in
theorem gX1_restore_X1_undoBrokenRun : GoodIn wsX1_restore (wsV RX1 85 RX1 yX1_undoBrokenRun wsX1_undoBrokenRun) := goodIn_app (goodIn_of _ (by decide +kernel)) ggX1_restore_X1_undoBrokenRun
set_option maxRecDepth 20000 in
theorem ggX1_restore_X1_keptIndex : GoodIn wsX1_restore wsX1_keptIndex := goodIn_r _ [20] (by decide +kernel) (by decide +kernel)
set_option maxRecDepth 20000 in
theorem gX1_restore_X1_keptIndex : GoodIn wsX1_restore (va_wsS RX1 92 yX1_keptIndex wsX1_keptIndex) := goodIn_app (goodIn_of _ (by decide +kernel)) ggX1_restore_X1_keptIndex
set_option maxRecDepth 20000 in
theorem ggX1_restore_X0_isLike : GoodIn wsX1_restore wsX0_isLike := goodIn_r _ [25, 26, 27, 28, 29, 6, 30, 31, 32, 33, 40, 41, 42] (by decide +kernel) (by decide +kernel)
set_option maxRecDepth 20000 in
theorem gX1_restore_X0_isLike : GoodIn wsX1_restore (wsV RX1 103 RX0 yX0_isLike wsX0_isLike) := goodIn_app (goodIn_of _ (by decide +kernel)) ggX1_restore_X0_isLike
theorem dX1_restore_0 : decode cX1_restore 0 = .ok (.aload_n 0, 1) := by decide +kernel
theorem dX1_restore_1 : decode cX1_restore 1 = .ok (.iload_n 1, 1) := by decide +kernel
theorem dX1_restore_2 : decode cX1_restore 2 = .ok (.invokevirtual 100, 3) := by decide +kernel
theorem dX1_restore_5 : decode cX1_restore 5 = .ok (.aload_n 0, 1) := by decide +kernel
theorem dX1_restore_6 : decode cX1_restore 6 = .ok (.invokevirtual 85, 3) := by decide +kernel
theorem dX1_restore_9 : decode cX1_restore 9 = .ok (.pop, 1) := by decide +kernel
theorem dX1_restore_10 : decode cX1_restore 10 = .ok (.iconst 0, 1) := by decide +kernel
theorem dX1_restore_11 : decode cX1_restore 11 = .ok (.istore_n 2, 1) := by decide +kernel
theorem dX1_restore_12 : decode cX1_restore 12 = .ok (.iconst 0, 1) := by decide +kernel
theorem dX1_restore_13 : decode cX1_restore 13 = .ok (.istore_n 3, 1) := by decide +kernel
theorem dX1_restore_14 : decode cX1_restore 14 = .ok (.iload_n 3, 1) := by decide +kernel
theorem dX1_restore_15 : decode cX1_restore 15 = .ok (.bipush 6, 2) := by decide +kernel
theorem dX1_restore_17 : decode cX1_restore 17 = .ok (.if_icmp .ge 46, 3) := by decide +kernel
theorem dX1_restore_20 : decode cX1_restore 20 = .ok (.aload_n 0, 1) := by decide +kernel
theorem dX1_restore_21 : decode cX1_restore 21 = .ok (.getfield 18, 3) := by decide +kernel
theorem dX1_restore_24 : decode cX1_restore 24 = .ok (.iload_n 1, 1) := by decide +kernel
theorem dX1_restore_25 : decode cX1_restore 25 = .ok (.iload_n 3, 1) := by decide +kernel
theorem dX1_restore_26 : decode cX1_restore 26 = .ok (.invokestatic 92, 3) := by decide +kernel
theorem dX1_restore_29 : decode cX1_restore 29 = .ok (.aaload, 1) := by decide +kernel
theorem dX1_restore_30 : decode cX1_restore 30 = .ok (.astore 4, 2) := by decide +kernel
theorem dX1_restore_32 : decode cX1_restore 32 = .ok (.aload_n 0, 1) := by decide +kernel
theorem dX1_restore_33 : decode cX1_restore 33 = .ok (.getfield 14, 3) := by decide +kernel
theorem dX1_restore_36 : decode cX1_restore 36 = .ok (.iload_n 3, 1) := by decide +kernel
theorem dX1_restore_37 : decode cX1_restore 37 = .ok (.aaload, 1) := by decide +kernel
theorem dX1_restore_38 : decode cX1_restore 38 = .ok (.aload 4, 2) := by decide +kernel
theorem dX1_restore_40 : decode cX1_restore 40 = .ok (.invokevirtual 103, 3) := by decide +kernel
theorem dX1_restore_43 : decode cX1_restore 43 = .ok (.ifCond .ne 6, 3) := by decide +kernel
theorem dX1_restore_46 : decode cX1_restore 46 = .ok (.iinc 2 1, 3) := by decide +kernel
theorem dX1_restore_49 : decode cX1_restore 49 = .ok (.aload_n 0, 1) := by decide +kernel
theorem dX1_restore_50 : decode cX1_restore 50 = .ok (.getfield 14, 3) := by decide +kernel
theorem dX1_restore_53 : decode cX1_restore 53 = .ok (.iload_n 3, 1) := by decide +kernel
theorem dX1_restore_54 : decode cX1_restore 54 = .ok (.aload 4, 2) := by decide +kernel
theorem dX1_restore_56 : decode cX1_restore 56 = .ok (.aastore, 1) := by decide +kernel
theorem dX1_restore_57 : decode cX1_restore 57 = .ok (.iinc 3 1, 3) := by decide +kernel
theorem dX1_restore_60 : decode cX1_restore 60 = .ok (.goto (-46), 3) := by decide +kernel
theorem dX1_restore_63 : decode cX1_restore 63 = .ok (.iload_n 2, 1) := by decide +kernel
theorem dX1_restore_64 : decode cX1_restore 64 = .ok (.ireturn, 1) := by decide +kernel
theorem dX1_last_0 : decode cX1_last 0 = .ok (.aload_n 0, 1) := by decide +kernel
theorem dX1_last_1 : decode cX1_last 1 = .ok (.getfield 25, 3) := by decide +kernel
theorem dX1_last_4 : decode cX1_last 4 = .ok (.ireturn, 1) := by decide +kernel
theorem dX1_oldest_0 : decode cX1_oldest 0 = .ok (.aload_n 0, 1) := by decide +kernel
theorem dX1_oldest_1 : decode cX1_oldest 1 = .ok (.getfield 21, 3) := by decide +kernel
theorem dX1_oldest_4 : decode cX1_oldest 4 = .ok (.ireturn, 1) := by decide +kernel
theorem dX1_isBroken_0 : decode cX1_isBroken 0 = .ok (.aload_n 0, 1) := by decide +kernel
theorem dX1_isBroken_1 : decode cX1_isBroken 1 = .ok (.getfield 28, 3) := by decide +kernel
theorem dX1_isBroken_4 : decode cX1_isBroken 4 = .ok (.ireturn, 1) := by decide +kernel
set_option maxRecDepth 20000 in
theorem ggX1_needs_X1_stepsNeeded : GoodIn wsX1_needs wsX1_stepsNeeded := goodIn_r _ [5, 6, 7, 8, 9, 10, 4, 11, 12, 13, 14, 15, 16, 17, 18, 19, 20, 21, 22, 23, 24, 25, 26, 27, 28, 29, 30, 31, 32, 33] (by decide +kernel) (by decide +kernel)
set_option maxRecDepth 20000 in
theorem gX1_needs_X1_stepsNeeded : GoodIn wsX1_needs (wsV RX1 89 RX1 yX1_stepsNeeded wsX1_stepsNeeded) := goodIn_app (goodIn_of _ (by decide +kernel)) ggX1_needs_X1_stepsNeeded
theorem dX1_needs_0 : decode cX1_needs 0 = .ok (.aload_n 0, 1) := by decide +kernel
theorem dX1_needs_1 : decode cX1_needs 1 = .ok (.invokevirtual 89, 3) := by decide +kernel
theorem dX1_needs_4 : decode cX1_needs 4 = .ok (.ireturn, 1) := by decide +kernel
set_option maxRecDepth 20000 in
theorem ggX1_kindAt_X1_thingOn : GoodIn wsX1_kindAt wsX1_thingOn := goodIn_ca (goodIn_r _ [6, 7, 8, 9, 10, 11, 5, 12, 13, 14, 15, 16, 17, 18, 19, 20, 21, 22, 26, 27, 28, 29, 30, 31] (by decide +kernel) (by decide +kernel)) (goodIn_sub (fun _ h => List.mem_cons_of_mem _ (List.mem_append_right _ h)) (by decide +kernel))
set_option maxRecDepth 20000 in
theorem gX1_kindAt_X1_thingOn : GoodIn wsX1_kindAt (wsV RX1 107 RX1 yX1_thingOn wsX1_thingOn) := goodIn_app (goodIn_of _ (by decide +kernel)) ggX1_kindAt_X1_thingOn
theorem dX1_kindAt_0 : decode cX1_kindAt 0 = .ok (.aload_n 0, 1) := by decide +kernel
theorem dX1_kindAt_1 : decode cX1_kindAt 1 = .ok (.iload_n 1, 1) := by decide +kernel
theorem dX1_kindAt_2 : decode cX1_kindAt 2 = .ok (.iload_n 2, 1) := by decide +kernel
theorem dX1_kindAt_3 : decode cX1_kindAt 3 = .ok (.invokevirtual 107, 3) := by decide +kernel
theorem dX1_kindAt_6 : decode cX1_kindAt 6 = .ok (.getfield 47, 3) := by decide +kernel
theorem dX1_kindAt_9 : decode cX1_kindAt 9 = .ok (.ireturn, 1) := by decide +kernel
set_option maxRecDepth 20000 in
theorem ggX1_numberAt_X1_thingOn : GoodIn wsX1_numberAt wsX1_thingOn := goodIn_ca (goodIn_r _ [8, 9, 10, 11, 12, 13, 7, 14, 1, 2, 15, 16, 17, 18, 19, 20, 21, 22, 26, 27, 28, 29, 30, 31] (by decide +kernel) (by decide +kernel)) (goodIn_sub (fun _ h => List.mem_cons_of_mem _ (List.mem_append_right _ h)) (by decide +kernel))
set_option maxRecDepth 20000 in
theorem gX1_numberAt_X1_thingOn : GoodIn wsX1_numberAt (wsV RX1 107 RX1 yX1_thingOn wsX1_thingOn) := goodIn_app (goodIn_of _ (by decide +kernel)) ggX1_numberAt_X1_thingOn
theorem dX1_numberAt_0 : decode cX1_numberAt 0 = .ok (.aload_n 0, 1) := by decide +kernel
theorem dX1_numberAt_1 : decode cX1_numberAt 1 = .ok (.iload_n 1, 1) := by decide +kernel
theorem dX1_numberAt_2 : decode cX1_numberAt 2 = .ok (.iload_n 2, 1) := by decide +kernel
theorem dX1_numberAt_3 : decode cX1_numberAt 3 = .ok (.invokevirtual 107, 3) := by decide +kernel
theorem dX1_numberAt_6 : decode cX1_numberAt 6 = .ok (.astore 4, 2) := by decide +kernel
theorem dX1_numberAt_8 : decode cX1_numberAt 8 = .ok (.iload_n 3, 1) := by decide +kernel
theorem dX1_numberAt_9 : decode cX1_numberAt 9 = .ok (.ifCond .lt 9, 3) := by decide +kernel
theorem dX1_numberAt_12 : decode cX1_numberAt 12 = .ok (.iload_n 3, 1) := by decide +kernel
theorem dX1_numberAt_13 : decode cX1_numberAt 13 = .ok (.bipush 12, 2) := by decide +kernel
theorem dX1_numberAt_15 : decode cX1_numberAt 15 = .ok (.if_icmp .lt 13, 3) := by decide +kernel
theorem dX1_numberAt_18 : decode cX1_numberAt 18 = .ok (.new 111, 3) := by decide +kernel
theorem dX1_numberAt_21 : decode cX1_numberAt 21 = .ok (.dup, 1) := by decide +kernel
theorem dX1_numberAt_22 : decode cX1_numberAt 22 = .ok (.ldc 71, 2) := by decide +kernel
theorem dX1_numberAt_24 : decode cX1_numberAt 24 = .ok (.invokespecial 113, 3) := by decide +kernel
theorem dX1_numberAt_27 : decode cX1_numberAt 27 = .ok (.athrow, 1) := by decide +kernel
theorem dX1_numberAt_28 : decode cX1_numberAt 28 = .ok (.iload_n 3, 1) := by decide +kernel
theorem dX1_numberAt_29 : decode cX1_numberAt 29 = .ok (.aload 4, 2) := by decide +kernel
theorem dX1_numberAt_31 : decode cX1_numberAt 31 = .ok (.getfield 43, 3) := by decide +kernel
theorem dX1_numberAt_34 : decode cX1_numberAt 34 = .ok (.arraylength, 1) := by decide +kernel
theorem dX1_numberAt_35 : decode cX1_numberAt 35 = .ok (.if_icmp .ge 13, 3) := by decide +kernel
theorem dX1_numberAt_38 : decode cX1_numberAt 38 = .ok (.aload 4, 2) := by decide +kernel
theorem dX1_numberAt_40 : decode cX1_numberAt 40 = .ok (.getfield 43, 3) := by decide +kernel
theorem dX1_numberAt_43 : decode cX1_numberAt 43 = .ok (.iload_n 3, 1) := by decide +kernel
theorem dX1_numberAt_44 : decode cX1_numberAt 44 = .ok (.iaload, 1) := by decide +kernel
theorem dX1_numberAt_45 : decode cX1_numberAt 45 = .ok (.goto 4, 3) := by decide +kernel
theorem dX1_numberAt_48 : decode cX1_numberAt 48 = .ok (.iconst (-1), 1) := by decide +kernel
theorem dX1_numberAt_49 : decode cX1_numberAt 49 = .ok (.ireturn, 1) := by decide +kernel
set_option maxRecDepth 20000 in
theorem ggX1_rightsAt_X1_thingOn : GoodIn wsX1_rightsAt wsX1_thingOn := goodIn_ca (goodIn_r _ [6, 7, 8, 9, 10, 11, 5, 12, 13, 14, 15, 16, 17, 18, 19, 20, 21, 22, 26, 27, 28, 29, 30, 31] (by decide +kernel) (by decide +kernel)) (goodIn_sub (fun _ h => List.mem_cons_of_mem _ (List.mem_append_right _ h)) (by decide +kernel))
set_option maxRecDepth 20000 in
theorem gX1_rightsAt_X1_thingOn : GoodIn wsX1_rightsAt (wsV RX1 107 RX1 yX1_thingOn wsX1_thingOn) := goodIn_app (goodIn_of _ (by decide +kernel)) ggX1_rightsAt_X1_thingOn
theorem dX1_rightsAt_0 : decode cX1_rightsAt 0 = .ok (.aload_n 0, 1) := by decide +kernel
theorem dX1_rightsAt_1 : decode cX1_rightsAt 1 = .ok (.iload_n 1, 1) := by decide +kernel
theorem dX1_rightsAt_2 : decode cX1_rightsAt 2 = .ok (.iload_n 2, 1) := by decide +kernel
theorem dX1_rightsAt_3 : decode cX1_rightsAt 3 = .ok (.invokevirtual 107, 3) := by decide +kernel
theorem dX1_rightsAt_6 : decode cX1_rightsAt 6 = .ok (.getfield 62, 3) := by decide +kernel
theorem dX1_rightsAt_9 : decode cX1_rightsAt 9 = .ok (.ireturn, 1) := by decide +kernel
set_option maxRecDepth 20000 in
theorem ggX1_sizeAt_X1_checkKept : GoodIn wsX1_sizeAt wsX1_checkKept := goodIn_ca (goodIn_r _ [5, 6, 7, 8, 9, 47, 48, 49, 50, 51, 52] (by decide +kernel) (by decide +kernel)) (goodIn_sub (fun _ h => List.mem_cons_of_mem _ (List.mem_append_right _ h)) (by decide +kernel))
set_option maxRecDepth 20000 in
theorem gX1_sizeAt_X1_checkKept : GoodIn wsX1_sizeAt (wsV RX1 100 RX1 yX1_checkKept wsX1_checkKept) := goodIn_app (goodIn_of _ (by decide +kernel)) ggX1_sizeAt_X1_checkKept
set_option maxRecDepth 20000 in
theorem ggX1_sizeAt_X1_checkPlace : GoodIn wsX1_sizeAt wsX1_checkPlace := goodIn_ca (goodIn_r _ [12, 6, 7] (by decide +kernel) (by decide +kernel)) (goodIn_sub (fun _ h => List.mem_cons_of_mem _ (List.mem_append_right _ h)) (by decide +kernel))
set_option maxRecDepth 20000 in
theorem gX1_sizeAt_X1_checkPlace : GoodIn wsX1_sizeAt (va_wsS RX1 35 yX1_checkPlace wsX1_checkPlace) := goodIn_app (goodIn_of _ (by decide +kernel)) ggX1_sizeAt_X1_checkPlace
set_option maxRecDepth 20000 in
theorem ggX1_sizeAt_X1_differenceTakes : GoodIn wsX1_sizeAt wsX1_differenceTakes := goodIn_r _ [16, 9, 17, 18, 19, 20, 21, 22, 4, 23, 24, 25, 26, 27, 28, 29, 30, 31, 32, 33, 34, 35, 36, 37, 38, 39, 40, 41, 42, 43, 44, 45, 46, 47, 48, 49, 50, 51, 52, 53, 54, 55] (by decide +kernel) (by decide +kernel)
set_option maxRecDepth 20000 in
theorem gX1_sizeAt_X1_differenceTakes : GoodIn wsX1_sizeAt (wsV RX1 114 RX1 yX1_differenceTakes wsX1_differenceTakes) := goodIn_app (goodIn_of _ (by decide +kernel)) ggX1_sizeAt_X1_differenceTakes
theorem dX1_sizeAt_0 : decode cX1_sizeAt 0 = .ok (.aload_n 0, 1) := by decide +kernel
theorem dX1_sizeAt_1 : decode cX1_sizeAt 1 = .ok (.iload_n 1, 1) := by decide +kernel
theorem dX1_sizeAt_2 : decode cX1_sizeAt 2 = .ok (.invokevirtual 100, 3) := by decide +kernel
theorem dX1_sizeAt_5 : decode cX1_sizeAt 5 = .ok (.iload_n 2, 1) := by decide +kernel
theorem dX1_sizeAt_6 : decode cX1_sizeAt 6 = .ok (.invokestatic 35, 3) := by decide +kernel
theorem dX1_sizeAt_9 : decode cX1_sizeAt 9 = .ok (.aload_n 0, 1) := by decide +kernel
theorem dX1_sizeAt_10 : decode cX1_sizeAt 10 = .ok (.iload_n 1, 1) := by decide +kernel
theorem dX1_sizeAt_11 : decode cX1_sizeAt 11 = .ok (.iload_n 2, 1) := by decide +kernel
theorem dX1_sizeAt_12 : decode cX1_sizeAt 12 = .ok (.invokevirtual 114, 3) := by decide +kernel
theorem dX1_sizeAt_15 : decode cX1_sizeAt 15 = .ok (.ireturn, 1) := by decide +kernel
set_option maxRecDepth 20000 in
theorem ggX1_size_X1_differenceTakes : GoodIn wsX1_size wsX1_differenceTakes := goodIn_r _ [7, 2, 8, 9, 10, 11, 12, 13, 6, 14, 15, 16, 17, 18, 19, 20, 21, 22, 23, 24, 25, 26, 27, 28, 29, 30, 31, 32, 33, 34, 35, 36, 37, 38, 39, 40, 41, 42, 43, 44, 45, 46] (by decide +kernel) (by decide +kernel)
set_option maxRecDepth 20000 in
theorem gX1_size_X1_differenceTakes : GoodIn wsX1_size (wsV RX1 114 RX1 yX1_differenceTakes wsX1_differenceTakes) := goodIn_app (goodIn_of _ (by decide +kernel)) ggX1_size_X1_differenceTakes
theorem dX1_size_0 : decode cX1_size 0 = .ok (.iconst 0, 1) := by decide +kernel
theorem dX1_size_1 : decode cX1_size 1 = .ok (.istore_n 1, 1) := by decide +kernel
theorem dX1_size_2 : decode cX1_size 2 = .ok (.aload_n 0, 1) := by decide +kernel
theorem dX1_size_3 : decode cX1_size 3 = .ok (.getfield 21, 3) := by decide +kernel
theorem dX1_size_6 : decode cX1_size 6 = .ok (.istore_n 2, 1) := by decide +kernel
theorem dX1_size_7 : decode cX1_size 7 = .ok (.iload_n 2, 1) := by decide +kernel
theorem dX1_size_8 : decode cX1_size 8 = .ok (.aload_n 0, 1) := by decide +kernel
theorem dX1_size_9 : decode cX1_size 9 = .ok (.getfield 25, 3) := by decide +kernel
theorem dX1_size_12 : decode cX1_size 12 = .ok (.if_icmp .ge 32, 3) := by decide +kernel
theorem dX1_size_15 : decode cX1_size 15 = .ok (.iconst 0, 1) := by decide +kernel
theorem dX1_size_16 : decode cX1_size 16 = .ok (.istore_n 3, 1) := by decide +kernel
theorem dX1_size_17 : decode cX1_size 17 = .ok (.iload_n 3, 1) := by decide +kernel
theorem dX1_size_18 : decode cX1_size 18 = .ok (.bipush 6, 2) := by decide +kernel
theorem dX1_size_20 : decode cX1_size 20 = .ok (.if_icmp .ge 18, 3) := by decide +kernel
theorem dX1_size_23 : decode cX1_size 23 = .ok (.iload_n 1, 1) := by decide +kernel
theorem dX1_size_24 : decode cX1_size 24 = .ok (.aload_n 0, 1) := by decide +kernel
theorem dX1_size_25 : decode cX1_size 25 = .ok (.iload_n 2, 1) := by decide +kernel
theorem dX1_size_26 : decode cX1_size 26 = .ok (.iload_n 3, 1) := by decide +kernel
theorem dX1_size_27 : decode cX1_size 27 = .ok (.invokevirtual 114, 3) := by decide +kernel
theorem dX1_size_30 : decode cX1_size 30 = .ok (.iadd, 1) := by decide +kernel
theorem dX1_size_31 : decode cX1_size 31 = .ok (.istore_n 1, 1) := by decide +kernel
theorem dX1_size_32 : decode cX1_size 32 = .ok (.iinc 3 1, 3) := by decide +kernel
theorem dX1_size_35 : decode cX1_size 35 = .ok (.goto (-18), 3) := by decide +kernel
theorem dX1_size_38 : decode cX1_size 38 = .ok (.iinc 2 1, 3) := by decide +kernel
theorem dX1_size_41 : decode cX1_size 41 = .ok (.goto (-34), 3) := by decide +kernel
theorem dX1_size_44 : decode cX1_size 44 = .ok (.iload_n 1, 1) := by decide +kernel
theorem dX1_size_45 : decode cX1_size 45 = .ok (.ireturn, 1) := by decide +kernel
theorem dX1_checkPlace_0 : decode cX1_checkPlace 0 = .ok (.iload_n 0, 1) := by decide +kernel
theorem dX1_checkPlace_1 : decode cX1_checkPlace 1 = .ok (.ifCond .lt 9, 3) := by decide +kernel
theorem dX1_checkPlace_4 : decode cX1_checkPlace 4 = .ok (.iload_n 0, 1) := by decide +kernel
theorem dX1_checkPlace_5 : decode cX1_checkPlace 5 = .ok (.bipush 6, 2) := by decide +kernel
theorem dX1_checkPlace_7 : decode cX1_checkPlace 7 = .ok (.if_icmp .lt 13, 3) := by decide +kernel
theorem dX1_checkPlace_10 : decode cX1_checkPlace 10 = .ok (.new 111, 3) := by decide +kernel
theorem dX1_checkPlace_13 : decode cX1_checkPlace 13 = .ok (.dup, 1) := by decide +kernel
theorem dX1_checkPlace_14 : decode cX1_checkPlace 14 = .ok (.ldc 117, 2) := by decide +kernel
theorem dX1_checkPlace_16 : decode cX1_checkPlace 16 = .ok (.invokespecial 113, 3) := by decide +kernel
theorem dX1_checkPlace_19 : decode cX1_checkPlace 19 = .ok (.athrow, 1) := by decide +kernel
theorem dX1_checkPlace_20 : decode cX1_checkPlace 20 = .ok (.return_, 1) := by decide +kernel
theorem dX1_checkKept_0 : decode cX1_checkKept 0 = .ok (.iload_n 1, 1) := by decide +kernel
theorem dX1_checkKept_1 : decode cX1_checkKept 1 = .ok (.aload_n 0, 1) := by decide +kernel
theorem dX1_checkKept_2 : decode cX1_checkKept 2 = .ok (.getfield 21, 3) := by decide +kernel
theorem dX1_checkKept_5 : decode cX1_checkKept 5 = .ok (.if_icmp .lt 11, 3) := by decide +kernel
theorem dX1_checkKept_8 : decode cX1_checkKept 8 = .ok (.iload_n 1, 1) := by decide +kernel
theorem dX1_checkKept_9 : decode cX1_checkKept 9 = .ok (.aload_n 0, 1) := by decide +kernel
theorem dX1_checkKept_10 : decode cX1_checkKept 10 = .ok (.getfield 25, 3) := by decide +kernel
theorem dX1_checkKept_13 : decode cX1_checkKept 13 = .ok (.if_icmp .le 13, 3) := by decide +kernel
theorem dX1_checkKept_16 : decode cX1_checkKept 16 = .ok (.new 111, 3) := by decide +kernel
theorem dX1_checkKept_19 : decode cX1_checkKept 19 = .ok (.dup, 1) := by decide +kernel
theorem dX1_checkKept_20 : decode cX1_checkKept 20 = .ok (.ldc 119, 2) := by decide +kernel
theorem dX1_checkKept_22 : decode cX1_checkKept 22 = .ok (.invokespecial 113, 3) := by decide +kernel
theorem dX1_checkKept_25 : decode cX1_checkKept 25 = .ok (.athrow, 1) := by decide +kernel
theorem dX1_checkKept_26 : decode cX1_checkKept 26 = .ok (.return_, 1) := by decide +kernel
theorem dX1_keptIndex_0 : decode cX1_keptIndex 0 = .ok (.iload_n 0, 1) := by decide +kernel
theorem dX1_keptIndex_1 : decode cX1_keptIndex 1 = .ok (.bipush 6, 2) := by decide +kernel
theorem dX1_keptIndex_3 : decode cX1_keptIndex 3 = .ok (.imul, 1) := by decide +kernel
theorem dX1_keptIndex_4 : decode cX1_keptIndex 4 = .ok (.iload_n 1, 1) := by decide +kernel
theorem dX1_keptIndex_5 : decode cX1_keptIndex 5 = .ok (.iadd, 1) := by decide +kernel
theorem dX1_keptIndex_6 : decode cX1_keptIndex 6 = .ok (.ireturn, 1) := by decide +kernel
set_option maxRecDepth 20000 in
theorem ggX1_thingOn_X1_checkKept : GoodIn wsX1_thingOn wsX1_checkKept := goodIn_ca (goodIn_r _ [7, 8, 9, 10, 11, 18, 19, 20, 21, 22, 23] (by decide +kernel) (by decide +kernel)) (goodIn_sub (fun _ h => List.mem_cons_of_mem _ (List.mem_append_right _ h)) (by decide +kernel))
set_option maxRecDepth 20000 in
theorem gX1_thingOn_X1_checkKept : GoodIn wsX1_thingOn (wsV RX1 100 RX1 yX1_checkKept wsX1_checkKept) := goodIn_app (goodIn_of _ (by decide +kernel)) ggX1_thingOn_X1_checkKept
set_option maxRecDepth 20000 in
theorem ggX1_thingOn_X1_checkPlace : GoodIn wsX1_thingOn wsX1_checkPlace := goodIn_ca (goodIn_r _ [14, 8, 9] (by decide +kernel) (by decide +kernel)) (goodIn_sub (fun _ h => List.mem_cons_of_mem _ (List.mem_append_right _ h)) (by decide +kernel))
set_option maxRecDepth 20000 in
theorem gX1_thingOn_X1_checkPlace : GoodIn wsX1_thingOn (va_wsS RX1 35 yX1_checkPlace wsX1_checkPlace) := goodIn_app (goodIn_of _ (by decide +kernel)) ggX1_thingOn_X1_checkPlace
set_option maxRecDepth 20000 in
theorem ggX1_thingOn_X1_keptIndex : GoodIn wsX1_thingOn wsX1_keptIndex := goodIn_r _ [17] (by decide +kernel) (by decide +kernel)
set_option maxRecDepth 20000 in
theorem gX1_thingOn_X1_keptIndex : GoodIn wsX1_thingOn (va_wsS RX1 92 yX1_keptIndex wsX1_keptIndex) := goodIn_app (goodIn_of _ (by decide +kernel)) ggX1_thingOn_X1_keptIndex
theorem dX1_thingOn_0 : decode cX1_thingOn 0 = .ok (.iload_n 1, 1) := by decide +kernel
theorem dX1_thingOn_1 : decode cX1_thingOn 1 = .ok (.iconst (-1), 1) := by decide +kernel
theorem dX1_thingOn_2 : decode cX1_thingOn 2 = .ok (.if_icmp .eq 8, 3) := by decide +kernel
theorem dX1_thingOn_5 : decode cX1_thingOn 5 = .ok (.aload_n 0, 1) := by decide +kernel
theorem dX1_thingOn_6 : decode cX1_thingOn 6 = .ok (.iload_n 1, 1) := by decide +kernel
theorem dX1_thingOn_7 : decode cX1_thingOn 7 = .ok (.invokevirtual 100, 3) := by decide +kernel
theorem dX1_thingOn_10 : decode cX1_thingOn 10 = .ok (.iload_n 2, 1) := by decide +kernel
theorem dX1_thingOn_11 : decode cX1_thingOn 11 = .ok (.invokestatic 35, 3) := by decide +kernel
theorem dX1_thingOn_14 : decode cX1_thingOn 14 = .ok (.iload_n 1, 1) := by decide +kernel
theorem dX1_thingOn_15 : decode cX1_thingOn 15 = .ok (.iconst (-1), 1) := by decide +kernel
theorem dX1_thingOn_16 : decode cX1_thingOn 16 = .ok (.if_icmp .ne 12, 3) := by decide +kernel
theorem dX1_thingOn_19 : decode cX1_thingOn 19 = .ok (.aload_n 0, 1) := by decide +kernel
theorem dX1_thingOn_20 : decode cX1_thingOn 20 = .ok (.getfield 14, 3) := by decide +kernel
theorem dX1_thingOn_23 : decode cX1_thingOn 23 = .ok (.iload_n 2, 1) := by decide +kernel
theorem dX1_thingOn_24 : decode cX1_thingOn 24 = .ok (.aaload, 1) := by decide +kernel
theorem dX1_thingOn_25 : decode cX1_thingOn 25 = .ok (.goto 13, 3) := by decide +kernel
theorem dX1_thingOn_28 : decode cX1_thingOn 28 = .ok (.aload_n 0, 1) := by decide +kernel
theorem dX1_thingOn_29 : decode cX1_thingOn 29 = .ok (.getfield 18, 3) := by decide +kernel
theorem dX1_thingOn_32 : decode cX1_thingOn 32 = .ok (.iload_n 1, 1) := by decide +kernel
theorem dX1_thingOn_33 : decode cX1_thingOn 33 = .ok (.iload_n 2, 1) := by decide +kernel
theorem dX1_thingOn_34 : decode cX1_thingOn 34 = .ok (.invokestatic 92, 3) := by decide +kernel
theorem dX1_thingOn_37 : decode cX1_thingOn 37 = .ok (.aaload, 1) := by decide +kernel
theorem dX1_thingOn_38 : decode cX1_thingOn 38 = .ok (.areturn, 1) := by decide +kernel
theorem dX1_exchange_0 : decode cX1_exchange 0 = .ok (.aload_n 0, 1) := by decide +kernel
theorem dX1_exchange_1 : decode cX1_exchange 1 = .ok (.getfield 14, 3) := by decide +kernel
theorem dX1_exchange_4 : decode cX1_exchange 4 = .ok (.iload_n 1, 1) := by decide +kernel
theorem dX1_exchange_5 : decode cX1_exchange 5 = .ok (.aaload, 1) := by decide +kernel
theorem dX1_exchange_6 : decode cX1_exchange 6 = .ok (.getfield 47, 3) := by decide +kernel
theorem dX1_exchange_9 : decode cX1_exchange 9 = .ok (.istore_n 3, 1) := by decide +kernel
theorem dX1_exchange_10 : decode cX1_exchange 10 = .ok (.aload_n 0, 1) := by decide +kernel
theorem dX1_exchange_11 : decode cX1_exchange 11 = .ok (.getfield 14, 3) := by decide +kernel
theorem dX1_exchange_14 : decode cX1_exchange 14 = .ok (.iload_n 1, 1) := by decide +kernel
theorem dX1_exchange_15 : decode cX1_exchange 15 = .ok (.aload_n 2, 1) := by decide +kernel
theorem dX1_exchange_16 : decode cX1_exchange 16 = .ok (.aastore, 1) := by decide +kernel
theorem dX1_exchange_17 : decode cX1_exchange 17 = .ok (.iload_n 3, 1) := by decide +kernel
theorem dX1_exchange_18 : decode cX1_exchange 18 = .ok (.ireturn, 1) := by decide +kernel
set_option maxRecDepth 20000 in
theorem ggX1_stepsNeeded_X1_keptIndex : GoodIn wsX1_stepsNeeded wsX1_keptIndex := goodIn_r _ [7] (by decide +kernel) (by decide +kernel)
set_option maxRecDepth 20000 in
theorem gX1_stepsNeeded_X1_keptIndex : GoodIn wsX1_stepsNeeded (va_wsS RX1 92 yX1_keptIndex wsX1_keptIndex) := goodIn_app (goodIn_of _ (by decide +kernel)) ggX1_stepsNeeded_X1_keptIndex
set_option maxRecDepth 20000 in
theorem ggX1_stepsNeeded_X0_isLike : GoodIn wsX1_stepsNeeded wsX0_isLike := goodIn_r _ [12, 13, 14, 15, 16, 6, 17, 18, 19, 20, 27, 28, 29] (by decide +kernel) (by decide +kernel)
set_option maxRecDepth 20000 in
theorem gX1_stepsNeeded_X0_isLike : GoodIn wsX1_stepsNeeded (wsV RX1 103 RX0 yX0_isLike wsX0_isLike) := goodIn_app (goodIn_of _ (by decide +kernel)) ggX1_stepsNeeded_X0_isLike
theorem dX1_stepsNeeded_0 : decode cX1_stepsNeeded 0 = .ok (.iconst 0, 1) := by decide +kernel
theorem dX1_stepsNeeded_1 : decode cX1_stepsNeeded 1 = .ok (.istore_n 1, 1) := by decide +kernel
theorem dX1_stepsNeeded_2 : decode cX1_stepsNeeded 2 = .ok (.iconst 0, 1) := by decide +kernel
theorem dX1_stepsNeeded_3 : decode cX1_stepsNeeded 3 = .ok (.istore_n 2, 1) := by decide +kernel
theorem dX1_stepsNeeded_4 : decode cX1_stepsNeeded 4 = .ok (.iload_n 2, 1) := by decide +kernel
theorem dX1_stepsNeeded_5 : decode cX1_stepsNeeded 5 = .ok (.bipush 6, 2) := by decide +kernel
theorem dX1_stepsNeeded_7 : decode cX1_stepsNeeded 7 = .ok (.if_icmp .ge 37, 3) := by decide +kernel
theorem dX1_stepsNeeded_10 : decode cX1_stepsNeeded 10 = .ok (.aload_n 0, 1) := by decide +kernel
theorem dX1_stepsNeeded_11 : decode cX1_stepsNeeded 11 = .ok (.getfield 14, 3) := by decide +kernel
theorem dX1_stepsNeeded_14 : decode cX1_stepsNeeded 14 = .ok (.iload_n 2, 1) := by decide +kernel
theorem dX1_stepsNeeded_15 : decode cX1_stepsNeeded 15 = .ok (.aaload, 1) := by decide +kernel
theorem dX1_stepsNeeded_16 : decode cX1_stepsNeeded 16 = .ok (.aload_n 0, 1) := by decide +kernel
theorem dX1_stepsNeeded_17 : decode cX1_stepsNeeded 17 = .ok (.getfield 18, 3) := by decide +kernel
theorem dX1_stepsNeeded_20 : decode cX1_stepsNeeded 20 = .ok (.aload_n 0, 1) := by decide +kernel
theorem dX1_stepsNeeded_21 : decode cX1_stepsNeeded 21 = .ok (.getfield 25, 3) := by decide +kernel
theorem dX1_stepsNeeded_24 : decode cX1_stepsNeeded 24 = .ok (.iload_n 2, 1) := by decide +kernel
theorem dX1_stepsNeeded_25 : decode cX1_stepsNeeded 25 = .ok (.invokestatic 92, 3) := by decide +kernel
theorem dX1_stepsNeeded_28 : decode cX1_stepsNeeded 28 = .ok (.aaload, 1) := by decide +kernel
theorem dX1_stepsNeeded_29 : decode cX1_stepsNeeded 29 = .ok (.invokevirtual 103, 3) := by decide +kernel
theorem dX1_stepsNeeded_32 : decode cX1_stepsNeeded 32 = .ok (.ifCond .ne 6, 3) := by decide +kernel
theorem dX1_stepsNeeded_35 : decode cX1_stepsNeeded 35 = .ok (.iinc 1 1, 3) := by decide +kernel
theorem dX1_stepsNeeded_38 : decode cX1_stepsNeeded 38 = .ok (.iinc 2 1, 3) := by decide +kernel
theorem dX1_stepsNeeded_41 : decode cX1_stepsNeeded 41 = .ok (.goto (-37), 3) := by decide +kernel
theorem dX1_stepsNeeded_44 : decode cX1_stepsNeeded 44 = .ok (.iload_n 1, 1) := by decide +kernel
theorem dX1_stepsNeeded_45 : decode cX1_stepsNeeded 45 = .ok (.ireturn, 1) := by decide +kernel
theorem dX1_undoBrokenRun_0 : decode cX1_undoBrokenRun 0 = .ok (.aload_n 0, 1) := by decide +kernel
theorem dX1_undoBrokenRun_1 : decode cX1_undoBrokenRun 1 = .ok (.getfield 32, 3) := by decide +kernel
theorem dX1_undoBrokenRun_4 : decode cX1_undoBrokenRun 4 = .ok (.istore_n 1, 1) := by decide +kernel
theorem dX1_undoBrokenRun_5 : decode cX1_undoBrokenRun 5 = .ok (.aload_n 0, 1) := by decide +kernel
theorem dX1_undoBrokenRun_6 : decode cX1_undoBrokenRun 6 = .ok (.iconst 0, 1) := by decide +kernel
theorem dX1_undoBrokenRun_7 : decode cX1_undoBrokenRun 7 = .ok (.putfield 28, 3) := by decide +kernel
theorem dX1_undoBrokenRun_10 : decode cX1_undoBrokenRun 10 = .ok (.aload_n 0, 1) := by decide +kernel
theorem dX1_undoBrokenRun_11 : decode cX1_undoBrokenRun 11 = .ok (.iconst 0, 1) := by decide +kernel
theorem dX1_undoBrokenRun_12 : decode cX1_undoBrokenRun 12 = .ok (.putfield 32, 3) := by decide +kernel
theorem dX1_undoBrokenRun_15 : decode cX1_undoBrokenRun 15 = .ok (.iload_n 1, 1) := by decide +kernel
theorem dX1_undoBrokenRun_16 : decode cX1_undoBrokenRun 16 = .ok (.ireturn, 1) := by decide +kernel
set_option maxRecDepth 20000 in
theorem ggX1_differenceTakes_X1_keptIndex : GoodIn wsX1_differenceTakes wsX1_keptIndex := goodIn_r _ [9] (by decide +kernel) (by decide +kernel)
set_option maxRecDepth 20000 in
theorem gX1_differenceTakes_X1_keptIndex : GoodIn wsX1_differenceTakes (va_wsS RX1 92 yX1_keptIndex wsX1_keptIndex) := goodIn_app (goodIn_of _ (by decide +kernel)) ggX1_differenceTakes_X1_keptIndex
set_option maxRecDepth 20000 in
theorem ggX1_differenceTakes_X0_isLike : GoodIn wsX1_differenceTakes wsX0_isLike := goodIn_r _ [14, 15, 16, 17, 18, 8, 19, 20, 21, 22, 39, 40, 41] (by decide +kernel) (by decide +kernel)
set_option maxRecDepth 20000 in
theorem gX1_differenceTakes_X0_isLike : GoodIn wsX1_differenceTakes (wsV RX1 103 RX0 yX0_isLike wsX0_isLike) := goodIn_app (goodIn_of _ (by decide +kernel)) ggX1_differenceTakes_X0_isLike
set_option maxRecDepth 20000 in
theorem ggX1_differenceTakes_X1_rowTakes : GoodIn wsX1_differenceTakes wsX1_rowTakes := goodIn_r _ [25, 26, 27, 8, 28, 29, 30, 31, 32, 20, 21, 22] (by decide +kernel) (by decide +kernel)
set_option maxRecDepth 20000 in
theorem gX1_differenceTakes_X1_rowTakes : GoodIn wsX1_differenceTakes (va_wsS RX1 121 yX1_rowTakes wsX1_rowTakes) := goodIn_app (goodIn_of _ (by decide +kernel)) ggX1_differenceTakes_X1_rowTakes
theorem dX1_differenceTakes_0 : decode cX1_differenceTakes 0 = .ok (.iload_n 1, 1) := by decide +kernel
theorem dX1_differenceTakes_1 : decode cX1_differenceTakes 1 = .ok (.aload_n 0, 1) := by decide +kernel
theorem dX1_differenceTakes_2 : decode cX1_differenceTakes 2 = .ok (.getfield 25, 3) := by decide +kernel
theorem dX1_differenceTakes_5 : decode cX1_differenceTakes 5 = .ok (.if_icmp .lt 5, 3) := by decide +kernel
theorem dX1_differenceTakes_8 : decode cX1_differenceTakes 8 = .ok (.iconst 0, 1) := by decide +kernel
theorem dX1_differenceTakes_9 : decode cX1_differenceTakes 9 = .ok (.ireturn, 1) := by decide +kernel
theorem dX1_differenceTakes_10 : decode cX1_differenceTakes 10 = .ok (.aload_n 0, 1) := by decide +kernel
theorem dX1_differenceTakes_11 : decode cX1_differenceTakes 11 = .ok (.getfield 18, 3) := by decide +kernel
theorem dX1_differenceTakes_14 : decode cX1_differenceTakes 14 = .ok (.iload_n 1, 1) := by decide +kernel
theorem dX1_differenceTakes_15 : decode cX1_differenceTakes 15 = .ok (.iload_n 2, 1) := by decide +kernel
theorem dX1_differenceTakes_16 : decode cX1_differenceTakes 16 = .ok (.invokestatic 92, 3) := by decide +kernel
theorem dX1_differenceTakes_19 : decode cX1_differenceTakes 19 = .ok (.aaload, 1) := by decide +kernel
theorem dX1_differenceTakes_20 : decode cX1_differenceTakes 20 = .ok (.astore_n 3, 1) := by decide +kernel
theorem dX1_differenceTakes_21 : decode cX1_differenceTakes 21 = .ok (.aload_n 0, 1) := by decide +kernel
theorem dX1_differenceTakes_22 : decode cX1_differenceTakes 22 = .ok (.getfield 18, 3) := by decide +kernel
theorem dX1_differenceTakes_25 : decode cX1_differenceTakes 25 = .ok (.iload_n 1, 1) := by decide +kernel
theorem dX1_differenceTakes_26 : decode cX1_differenceTakes 26 = .ok (.iconst 1, 1) := by decide +kernel
theorem dX1_differenceTakes_27 : decode cX1_differenceTakes 27 = .ok (.iadd, 1) := by decide +kernel
theorem dX1_differenceTakes_28 : decode cX1_differenceTakes 28 = .ok (.iload_n 2, 1) := by decide +kernel
theorem dX1_differenceTakes_29 : decode cX1_differenceTakes 29 = .ok (.invokestatic 92, 3) := by decide +kernel
theorem dX1_differenceTakes_32 : decode cX1_differenceTakes 32 = .ok (.aaload, 1) := by decide +kernel
theorem dX1_differenceTakes_33 : decode cX1_differenceTakes 33 = .ok (.astore 4, 2) := by decide +kernel
theorem dX1_differenceTakes_35 : decode cX1_differenceTakes 35 = .ok (.aload_n 3, 1) := by decide +kernel
theorem dX1_differenceTakes_36 : decode cX1_differenceTakes 36 = .ok (.aload 4, 2) := by decide +kernel
theorem dX1_differenceTakes_38 : decode cX1_differenceTakes 38 = .ok (.invokevirtual 103, 3) := by decide +kernel
theorem dX1_differenceTakes_41 : decode cX1_differenceTakes 41 = .ok (.ifCond .eq 5, 3) := by decide +kernel
theorem dX1_differenceTakes_44 : decode cX1_differenceTakes 44 = .ok (.iconst 0, 1) := by decide +kernel
theorem dX1_differenceTakes_45 : decode cX1_differenceTakes 45 = .ok (.ireturn, 1) := by decide +kernel
theorem dX1_differenceTakes_46 : decode cX1_differenceTakes 46 = .ok (.aload_n 3, 1) := by decide +kernel
theorem dX1_differenceTakes_47 : decode cX1_differenceTakes 47 = .ok (.getfield 62, 3) := by decide +kernel
theorem dX1_differenceTakes_50 : decode cX1_differenceTakes 50 = .ok (.aload 4, 2) := by decide +kernel
theorem dX1_differenceTakes_52 : decode cX1_differenceTakes 52 = .ok (.getfield 62, 3) := by decide +kernel
theorem dX1_differenceTakes_55 : decode cX1_differenceTakes 55 = .ok (.if_icmp .ne 7, 3) := by decide +kernel
theorem dX1_differenceTakes_58 : decode cX1_differenceTakes 58 = .ok (.iconst 0, 1) := by decide +kernel
theorem dX1_differenceTakes_59 : decode cX1_differenceTakes 59 = .ok (.goto 4, 3) := by decide +kernel
theorem dX1_differenceTakes_62 : decode cX1_differenceTakes 62 = .ok (.iconst 1, 1) := by decide +kernel
theorem dX1_differenceTakes_63 : decode cX1_differenceTakes 63 = .ok (.istore 5, 2) := by decide +kernel
theorem dX1_differenceTakes_65 : decode cX1_differenceTakes 65 = .ok (.aload_n 3, 1) := by decide +kernel
theorem dX1_differenceTakes_66 : decode cX1_differenceTakes 66 = .ok (.getfield 47, 3) := by decide +kernel
theorem dX1_differenceTakes_69 : decode cX1_differenceTakes 69 = .ok (.iconst 1, 1) := by decide +kernel
theorem dX1_differenceTakes_70 : decode cX1_differenceTakes 70 = .ok (.if_icmp .ne 28, 3) := by decide +kernel
theorem dX1_differenceTakes_73 : decode cX1_differenceTakes 73 = .ok (.aload 4, 2) := by decide +kernel
theorem dX1_differenceTakes_75 : decode cX1_differenceTakes 75 = .ok (.getfield 47, 3) := by decide +kernel
theorem dX1_differenceTakes_78 : decode cX1_differenceTakes 78 = .ok (.iconst 1, 1) := by decide +kernel
theorem dX1_differenceTakes_79 : decode cX1_differenceTakes 79 = .ok (.if_icmp .ne 19, 3) := by decide +kernel
theorem dX1_differenceTakes_82 : decode cX1_differenceTakes 82 = .ok (.iload 5, 2) := by decide +kernel
theorem dX1_differenceTakes_84 : decode cX1_differenceTakes 84 = .ok (.aload_n 3, 1) := by decide +kernel
theorem dX1_differenceTakes_85 : decode cX1_differenceTakes 85 = .ok (.getfield 43, 3) := by decide +kernel
theorem dX1_differenceTakes_88 : decode cX1_differenceTakes 88 = .ok (.aload 4, 2) := by decide +kernel
theorem dX1_differenceTakes_90 : decode cX1_differenceTakes 90 = .ok (.getfield 43, 3) := by decide +kernel
theorem dX1_differenceTakes_93 : decode cX1_differenceTakes 93 = .ok (.invokestatic 121, 3) := by decide +kernel
theorem dX1_differenceTakes_96 : decode cX1_differenceTakes 96 = .ok (.iadd, 1) := by decide +kernel
theorem dX1_differenceTakes_97 : decode cX1_differenceTakes 97 = .ok (.ireturn, 1) := by decide +kernel
theorem dX1_differenceTakes_98 : decode cX1_differenceTakes 98 = .ok (.iload 5, 2) := by decide +kernel
theorem dX1_differenceTakes_100 : decode cX1_differenceTakes 100 = .ok (.aload_n 3, 1) := by decide +kernel
theorem dX1_differenceTakes_101 : decode cX1_differenceTakes 101 = .ok (.getfield 47, 3) := by decide +kernel
theorem dX1_differenceTakes_104 : decode cX1_differenceTakes 104 = .ok (.iconst 1, 1) := by decide +kernel
theorem dX1_differenceTakes_105 : decode cX1_differenceTakes 105 = .ok (.if_icmp .ne 13, 3) := by decide +kernel
theorem dX1_differenceTakes_108 : decode cX1_differenceTakes 108 = .ok (.aload_n 3, 1) := by decide +kernel
theorem dX1_differenceTakes_109 : decode cX1_differenceTakes 109 = .ok (.getfield 43, 3) := by decide +kernel
theorem dX1_differenceTakes_112 : decode cX1_differenceTakes 112 = .ok (.arraylength, 1) := by decide +kernel
theorem dX1_differenceTakes_113 : decode cX1_differenceTakes 113 = .ok (.iconst 1, 1) := by decide +kernel
theorem dX1_differenceTakes_114 : decode cX1_differenceTakes 114 = .ok (.iadd, 1) := by decide +kernel
theorem dX1_differenceTakes_115 : decode cX1_differenceTakes 115 = .ok (.goto 4, 3) := by decide +kernel
theorem dX1_differenceTakes_118 : decode cX1_differenceTakes 118 = .ok (.iconst 1, 1) := by decide +kernel
theorem dX1_differenceTakes_119 : decode cX1_differenceTakes 119 = .ok (.iadd, 1) := by decide +kernel
theorem dX1_differenceTakes_120 : decode cX1_differenceTakes 120 = .ok (.ireturn, 1) := by decide +kernel
set_option maxRecDepth 20000 in
theorem ggX1_rowTakes_X1_longestCopy : GoodIn wsX1_rowTakes wsX1_longestCopy := goodIn_r _ [4, 5, 6, 7, 8, 9, 10, 3, 11] (by decide +kernel) (by decide +kernel)
set_option maxRecDepth 20000 in
theorem gX1_rowTakes_X1_longestCopy : GoodIn wsX1_rowTakes (va_wsS RX1 125 yX1_longestCopy wsX1_longestCopy) := goodIn_app (goodIn_of _ (by decide +kernel)) ggX1_rowTakes_X1_longestCopy
theorem dX1_rowTakes_0 : decode cX1_rowTakes 0 = .ok (.iconst 0, 1) := by decide +kernel
theorem dX1_rowTakes_1 : decode cX1_rowTakes 1 = .ok (.istore_n 2, 1) := by decide +kernel
theorem dX1_rowTakes_2 : decode cX1_rowTakes 2 = .ok (.iconst 0, 1) := by decide +kernel
theorem dX1_rowTakes_3 : decode cX1_rowTakes 3 = .ok (.istore_n 3, 1) := by decide +kernel
theorem dX1_rowTakes_4 : decode cX1_rowTakes 4 = .ok (.iload_n 3, 1) := by decide +kernel
theorem dX1_rowTakes_5 : decode cX1_rowTakes 5 = .ok (.aload_n 0, 1) := by decide +kernel
theorem dX1_rowTakes_6 : decode cX1_rowTakes 6 = .ok (.arraylength, 1) := by decide +kernel
theorem dX1_rowTakes_7 : decode cX1_rowTakes 7 = .ok (.if_icmp .ge 37, 3) := by decide +kernel
theorem dX1_rowTakes_10 : decode cX1_rowTakes 10 = .ok (.aload_n 0, 1) := by decide +kernel
theorem dX1_rowTakes_11 : decode cX1_rowTakes 11 = .ok (.iload_n 3, 1) := by decide +kernel
theorem dX1_rowTakes_12 : decode cX1_rowTakes 12 = .ok (.aload_n 1, 1) := by decide +kernel
theorem dX1_rowTakes_13 : decode cX1_rowTakes 13 = .ok (.invokestatic 125, 3) := by decide +kernel
theorem dX1_rowTakes_16 : decode cX1_rowTakes 16 = .ok (.istore 4, 2) := by decide +kernel
theorem dX1_rowTakes_18 : decode cX1_rowTakes 18 = .ok (.iload 4, 2) := by decide +kernel
theorem dX1_rowTakes_20 : decode cX1_rowTakes 20 = .ok (.iconst 3, 1) := by decide +kernel
theorem dX1_rowTakes_21 : decode cX1_rowTakes 21 = .ok (.if_icmp .lt 14, 3) := by decide +kernel
theorem dX1_rowTakes_24 : decode cX1_rowTakes 24 = .ok (.iinc 2 2, 3) := by decide +kernel
theorem dX1_rowTakes_27 : decode cX1_rowTakes 27 = .ok (.iload_n 3, 1) := by decide +kernel
theorem dX1_rowTakes_28 : decode cX1_rowTakes 28 = .ok (.iload 4, 2) := by decide +kernel
theorem dX1_rowTakes_30 : decode cX1_rowTakes 30 = .ok (.iadd, 1) := by decide +kernel
theorem dX1_rowTakes_31 : decode cX1_rowTakes 31 = .ok (.istore_n 3, 1) := by decide +kernel
theorem dX1_rowTakes_32 : decode cX1_rowTakes 32 = .ok (.goto 9, 3) := by decide +kernel
theorem dX1_rowTakes_35 : decode cX1_rowTakes 35 = .ok (.iinc 2 1, 3) := by decide +kernel
theorem dX1_rowTakes_38 : decode cX1_rowTakes 38 = .ok (.iinc 3 1, 3) := by decide +kernel
theorem dX1_rowTakes_41 : decode cX1_rowTakes 41 = .ok (.goto (-37), 3) := by decide +kernel
theorem dX1_rowTakes_44 : decode cX1_rowTakes 44 = .ok (.iload_n 2, 1) := by decide +kernel
theorem dX1_rowTakes_45 : decode cX1_rowTakes 45 = .ok (.ireturn, 1) := by decide +kernel
set_option maxRecDepth 20000 in
theorem ggX1_longestCopy_X1_sharedLength : GoodIn wsX1_longestCopy wsX1_sharedLength := goodIn_r _ [8] (by decide +kernel) (by decide +kernel)
set_option maxRecDepth 20000 in
theorem gX1_longestCopy_X1_sharedLength : GoodIn wsX1_longestCopy (va_wsS RX1 129 yX1_sharedLength wsX1_sharedLength) := goodIn_app (goodIn_of _ (by decide +kernel)) ggX1_longestCopy_X1_sharedLength
theorem dX1_longestCopy_0 : decode cX1_longestCopy 0 = .ok (.iconst 0, 1) := by decide +kernel
theorem dX1_longestCopy_1 : decode cX1_longestCopy 1 = .ok (.istore_n 3, 1) := by decide +kernel
theorem dX1_longestCopy_2 : decode cX1_longestCopy 2 = .ok (.iconst 0, 1) := by decide +kernel
theorem dX1_longestCopy_3 : decode cX1_longestCopy 3 = .ok (.istore 4, 2) := by decide +kernel
theorem dX1_longestCopy_5 : decode cX1_longestCopy 5 = .ok (.iload 4, 2) := by decide +kernel
theorem dX1_longestCopy_7 : decode cX1_longestCopy 7 = .ok (.aload_n 2, 1) := by decide +kernel
theorem dX1_longestCopy_8 : decode cX1_longestCopy 8 = .ok (.arraylength, 1) := by decide +kernel
theorem dX1_longestCopy_9 : decode cX1_longestCopy 9 = .ok (.if_icmp .ge 22, 3) := by decide +kernel
theorem dX1_longestCopy_12 : decode cX1_longestCopy 12 = .ok (.iload_n 3, 1) := by decide +kernel
theorem dX1_longestCopy_13 : decode cX1_longestCopy 13 = .ok (.aload_n 0, 1) := by decide +kernel
theorem dX1_longestCopy_14 : decode cX1_longestCopy 14 = .ok (.iload_n 1, 1) := by decide +kernel
theorem dX1_longestCopy_15 : decode cX1_longestCopy 15 = .ok (.aload_n 2, 1) := by decide +kernel
theorem dX1_longestCopy_16 : decode cX1_longestCopy 16 = .ok (.iload 4, 2) := by decide +kernel
theorem dX1_longestCopy_18 : decode cX1_longestCopy 18 = .ok (.invokestatic 129, 3) := by decide +kernel
theorem dX1_longestCopy_21 : decode cX1_longestCopy 21 = .ok (.invokestatic 133, 3) := by decide +kernel
theorem dX1_longestCopy_24 : decode cX1_longestCopy 24 = .ok (.istore_n 3, 1) := by decide +kernel
theorem dX1_longestCopy_25 : decode cX1_longestCopy 25 = .ok (.iinc 4 1, 3) := by decide +kernel
theorem dX1_longestCopy_28 : decode cX1_longestCopy 28 = .ok (.goto (-23), 3) := by decide +kernel
theorem dX1_longestCopy_31 : decode cX1_longestCopy 31 = .ok (.iload_n 3, 1) := by decide +kernel
theorem dX1_longestCopy_32 : decode cX1_longestCopy 32 = .ok (.ireturn, 1) := by decide +kernel
theorem dX1_sharedLength_0 : decode cX1_sharedLength 0 = .ok (.iconst 0, 1) := by decide +kernel
theorem dX1_sharedLength_1 : decode cX1_sharedLength 1 = .ok (.istore 4, 2) := by decide +kernel
theorem dX1_sharedLength_3 : decode cX1_sharedLength 3 = .ok (.iload_n 1, 1) := by decide +kernel
theorem dX1_sharedLength_4 : decode cX1_sharedLength 4 = .ok (.iload 4, 2) := by decide +kernel
theorem dX1_sharedLength_6 : decode cX1_sharedLength 6 = .ok (.iadd, 1) := by decide +kernel
theorem dX1_sharedLength_7 : decode cX1_sharedLength 7 = .ok (.aload_n 0, 1) := by decide +kernel
theorem dX1_sharedLength_8 : decode cX1_sharedLength 8 = .ok (.arraylength, 1) := by decide +kernel
theorem dX1_sharedLength_9 : decode cX1_sharedLength 9 = .ok (.if_icmp .ge 33, 3) := by decide +kernel
theorem dX1_sharedLength_12 : decode cX1_sharedLength 12 = .ok (.iload_n 3, 1) := by decide +kernel
theorem dX1_sharedLength_13 : decode cX1_sharedLength 13 = .ok (.iload 4, 2) := by decide +kernel
theorem dX1_sharedLength_15 : decode cX1_sharedLength 15 = .ok (.iadd, 1) := by decide +kernel
theorem dX1_sharedLength_16 : decode cX1_sharedLength 16 = .ok (.aload_n 2, 1) := by decide +kernel
theorem dX1_sharedLength_17 : decode cX1_sharedLength 17 = .ok (.arraylength, 1) := by decide +kernel
theorem dX1_sharedLength_18 : decode cX1_sharedLength 18 = .ok (.if_icmp .ge 24, 3) := by decide +kernel
theorem dX1_sharedLength_21 : decode cX1_sharedLength 21 = .ok (.aload_n 0, 1) := by decide +kernel
theorem dX1_sharedLength_22 : decode cX1_sharedLength 22 = .ok (.iload_n 1, 1) := by decide +kernel
theorem dX1_sharedLength_23 : decode cX1_sharedLength 23 = .ok (.iload 4, 2) := by decide +kernel
theorem dX1_sharedLength_25 : decode cX1_sharedLength 25 = .ok (.iadd, 1) := by decide +kernel
theorem dX1_sharedLength_26 : decode cX1_sharedLength 26 = .ok (.iaload, 1) := by decide +kernel
theorem dX1_sharedLength_27 : decode cX1_sharedLength 27 = .ok (.aload_n 2, 1) := by decide +kernel
theorem dX1_sharedLength_28 : decode cX1_sharedLength 28 = .ok (.iload_n 3, 1) := by decide +kernel
theorem dX1_sharedLength_29 : decode cX1_sharedLength 29 = .ok (.iload 4, 2) := by decide +kernel
theorem dX1_sharedLength_31 : decode cX1_sharedLength 31 = .ok (.iadd, 1) := by decide +kernel
theorem dX1_sharedLength_32 : decode cX1_sharedLength 32 = .ok (.iaload, 1) := by decide +kernel
theorem dX1_sharedLength_33 : decode cX1_sharedLength 33 = .ok (.if_icmp .ne 9, 3) := by decide +kernel
theorem dX1_sharedLength_36 : decode cX1_sharedLength 36 = .ok (.iinc 4 1, 3) := by decide +kernel
theorem dX1_sharedLength_39 : decode cX1_sharedLength 39 = .ok (.goto (-36), 3) := by decide +kernel
theorem dX1_sharedLength_42 : decode cX1_sharedLength 42 = .ok (.iload 4, 2) := by decide +kernel
theorem dX1_sharedLength_44 : decode cX1_sharedLength 44 = .ok (.ireturn, 1) := by decide +kernel
set_option maxRecDepth 20000 in
theorem ggX1_isSameRow_X1_sharedLength : GoodIn wsX1_isSameRow wsX1_sharedLength := goodIn_r _ [4] (by decide +kernel) (by decide +kernel)
set_option maxRecDepth 20000 in
theorem gX1_isSameRow_X1_sharedLength : GoodIn wsX1_isSameRow (va_wsS RX1 129 yX1_sharedLength wsX1_sharedLength) := goodIn_app (goodIn_of _ (by decide +kernel)) ggX1_isSameRow_X1_sharedLength
theorem dX1_isSameRow_0 : decode cX1_isSameRow 0 = .ok (.aload_n 0, 1) := by decide +kernel
theorem dX1_isSameRow_1 : decode cX1_isSameRow 1 = .ok (.arraylength, 1) := by decide +kernel
theorem dX1_isSameRow_2 : decode cX1_isSameRow 2 = .ok (.aload_n 1, 1) := by decide +kernel
theorem dX1_isSameRow_3 : decode cX1_isSameRow 3 = .ok (.arraylength, 1) := by decide +kernel
theorem dX1_isSameRow_4 : decode cX1_isSameRow 4 = .ok (.if_icmp .ne 19, 3) := by decide +kernel
theorem dX1_isSameRow_7 : decode cX1_isSameRow 7 = .ok (.aload_n 0, 1) := by decide +kernel
theorem dX1_isSameRow_8 : decode cX1_isSameRow 8 = .ok (.iconst 0, 1) := by decide +kernel
theorem dX1_isSameRow_9 : decode cX1_isSameRow 9 = .ok (.aload_n 1, 1) := by decide +kernel
theorem dX1_isSameRow_10 : decode cX1_isSameRow 10 = .ok (.iconst 0, 1) := by decide +kernel
theorem dX1_isSameRow_11 : decode cX1_isSameRow 11 = .ok (.invokestatic 129, 3) := by decide +kernel
theorem dX1_isSameRow_14 : decode cX1_isSameRow 14 = .ok (.aload_n 0, 1) := by decide +kernel
theorem dX1_isSameRow_15 : decode cX1_isSameRow 15 = .ok (.arraylength, 1) := by decide +kernel
theorem dX1_isSameRow_16 : decode cX1_isSameRow 16 = .ok (.if_icmp .ne 7, 3) := by decide +kernel
theorem dX1_isSameRow_19 : decode cX1_isSameRow 19 = .ok (.iconst 1, 1) := by decide +kernel
theorem dX1_isSameRow_20 : decode cX1_isSameRow 20 = .ok (.goto 4, 3) := by decide +kernel
theorem dX1_isSameRow_23 : decode cX1_isSameRow 23 = .ok (.iconst 0, 1) := by decide +kernel
theorem dX1_isSameRow_24 : decode cX1_isSameRow 24 = .ok (.ireturn, 1) := by decide +kernel
theorem dX1_rowWith_0 : decode cX1_rowWith 0 = .ok (.aload_n 0, 1) := by decide +kernel
theorem dX1_rowWith_1 : decode cX1_rowWith 1 = .ok (.arraylength, 1) := by decide +kernel
theorem dX1_rowWith_2 : decode cX1_rowWith 2 = .ok (.iconst 1, 1) := by decide +kernel
theorem dX1_rowWith_3 : decode cX1_rowWith 3 = .ok (.iadd, 1) := by decide +kernel
theorem dX1_rowWith_4 : decode cX1_rowWith 4 = .ok (.newarray .int, 2) := by decide +kernel
theorem dX1_rowWith_6 : decode cX1_rowWith 6 = .ok (.astore_n 3, 1) := by decide +kernel
theorem dX1_rowWith_7 : decode cX1_rowWith 7 = .ok (.iconst 0, 1) := by decide +kernel
theorem dX1_rowWith_8 : decode cX1_rowWith 8 = .ok (.istore 4, 2) := by decide +kernel
theorem dX1_rowWith_10 : decode cX1_rowWith 10 = .ok (.iload 4, 2) := by decide +kernel
theorem dX1_rowWith_12 : decode cX1_rowWith 12 = .ok (.aload_n 3, 1) := by decide +kernel
theorem dX1_rowWith_13 : decode cX1_rowWith 13 = .ok (.arraylength, 1) := by decide +kernel
theorem dX1_rowWith_14 : decode cX1_rowWith 14 = .ok (.if_icmp .ge 44, 3) := by decide +kernel
theorem dX1_rowWith_17 : decode cX1_rowWith 17 = .ok (.iload 4, 2) := by decide +kernel
theorem dX1_rowWith_19 : decode cX1_rowWith 19 = .ok (.iload_n 1, 1) := by decide +kernel
theorem dX1_rowWith_20 : decode cX1_rowWith 20 = .ok (.if_icmp .ne 11, 3) := by decide +kernel
theorem dX1_rowWith_23 : decode cX1_rowWith 23 = .ok (.aload_n 3, 1) := by decide +kernel
theorem dX1_rowWith_24 : decode cX1_rowWith 24 = .ok (.iload 4, 2) := by decide +kernel
theorem dX1_rowWith_26 : decode cX1_rowWith 26 = .ok (.iload_n 2, 1) := by decide +kernel
theorem dX1_rowWith_27 : decode cX1_rowWith 27 = .ok (.iastore, 1) := by decide +kernel
theorem dX1_rowWith_28 : decode cX1_rowWith 28 = .ok (.goto 24, 3) := by decide +kernel
theorem dX1_rowWith_31 : decode cX1_rowWith 31 = .ok (.aload_n 3, 1) := by decide +kernel
theorem dX1_rowWith_32 : decode cX1_rowWith 32 = .ok (.iload 4, 2) := by decide +kernel
theorem dX1_rowWith_34 : decode cX1_rowWith 34 = .ok (.aload_n 0, 1) := by decide +kernel
theorem dX1_rowWith_35 : decode cX1_rowWith 35 = .ok (.iload 4, 2) := by decide +kernel
theorem dX1_rowWith_37 : decode cX1_rowWith 37 = .ok (.iload_n 1, 1) := by decide +kernel
theorem dX1_rowWith_38 : decode cX1_rowWith 38 = .ok (.if_icmp .ge 8, 3) := by decide +kernel
theorem dX1_rowWith_41 : decode cX1_rowWith 41 = .ok (.iload 4, 2) := by decide +kernel
theorem dX1_rowWith_43 : decode cX1_rowWith 43 = .ok (.goto 7, 3) := by decide +kernel
theorem dX1_rowWith_46 : decode cX1_rowWith 46 = .ok (.iload 4, 2) := by decide +kernel
theorem dX1_rowWith_48 : decode cX1_rowWith 48 = .ok (.iconst 1, 1) := by decide +kernel
theorem dX1_rowWith_49 : decode cX1_rowWith 49 = .ok (.isub, 1) := by decide +kernel
theorem dX1_rowWith_50 : decode cX1_rowWith 50 = .ok (.iaload, 1) := by decide +kernel
theorem dX1_rowWith_51 : decode cX1_rowWith 51 = .ok (.iastore, 1) := by decide +kernel
theorem dX1_rowWith_52 : decode cX1_rowWith 52 = .ok (.iinc 4 1, 3) := by decide +kernel
theorem dX1_rowWith_55 : decode cX1_rowWith 55 = .ok (.goto (-45), 3) := by decide +kernel
theorem dX1_rowWith_58 : decode cX1_rowWith 58 = .ok (.aload_n 3, 1) := by decide +kernel
theorem dX1_rowWith_59 : decode cX1_rowWith 59 = .ok (.areturn, 1) := by decide +kernel
theorem dX1_rowWithout_0 : decode cX1_rowWithout 0 = .ok (.aload_n 0, 1) := by decide +kernel
theorem dX1_rowWithout_1 : decode cX1_rowWithout 1 = .ok (.arraylength, 1) := by decide +kernel
theorem dX1_rowWithout_2 : decode cX1_rowWithout 2 = .ok (.iconst 1, 1) := by decide +kernel
theorem dX1_rowWithout_3 : decode cX1_rowWithout 3 = .ok (.isub, 1) := by decide +kernel
theorem dX1_rowWithout_4 : decode cX1_rowWithout 4 = .ok (.newarray .int, 2) := by decide +kernel
theorem dX1_rowWithout_6 : decode cX1_rowWithout 6 = .ok (.astore_n 2, 1) := by decide +kernel
theorem dX1_rowWithout_7 : decode cX1_rowWithout 7 = .ok (.iconst 0, 1) := by decide +kernel
theorem dX1_rowWithout_8 : decode cX1_rowWithout 8 = .ok (.istore_n 3, 1) := by decide +kernel
theorem dX1_rowWithout_9 : decode cX1_rowWithout 9 = .ok (.iload_n 3, 1) := by decide +kernel
theorem dX1_rowWithout_10 : decode cX1_rowWithout 10 = .ok (.aload_n 2, 1) := by decide +kernel
theorem dX1_rowWithout_11 : decode cX1_rowWithout 11 = .ok (.arraylength, 1) := by decide +kernel
theorem dX1_rowWithout_12 : decode cX1_rowWithout 12 = .ok (.if_icmp .ge 26, 3) := by decide +kernel
theorem dX1_rowWithout_15 : decode cX1_rowWithout 15 = .ok (.aload_n 2, 1) := by decide +kernel
theorem dX1_rowWithout_16 : decode cX1_rowWithout 16 = .ok (.iload_n 3, 1) := by decide +kernel
theorem dX1_rowWithout_17 : decode cX1_rowWithout 17 = .ok (.aload_n 0, 1) := by decide +kernel
theorem dX1_rowWithout_18 : decode cX1_rowWithout 18 = .ok (.iload_n 3, 1) := by decide +kernel
theorem dX1_rowWithout_19 : decode cX1_rowWithout 19 = .ok (.iload_n 1, 1) := by decide +kernel
theorem dX1_rowWithout_20 : decode cX1_rowWithout 20 = .ok (.if_icmp .ge 7, 3) := by decide +kernel
theorem dX1_rowWithout_23 : decode cX1_rowWithout 23 = .ok (.iload_n 3, 1) := by decide +kernel
theorem dX1_rowWithout_24 : decode cX1_rowWithout 24 = .ok (.goto 6, 3) := by decide +kernel
theorem dX1_rowWithout_27 : decode cX1_rowWithout 27 = .ok (.iload_n 3, 1) := by decide +kernel
theorem dX1_rowWithout_28 : decode cX1_rowWithout 28 = .ok (.iconst 1, 1) := by decide +kernel
theorem dX1_rowWithout_29 : decode cX1_rowWithout 29 = .ok (.iadd, 1) := by decide +kernel
theorem dX1_rowWithout_30 : decode cX1_rowWithout 30 = .ok (.iaload, 1) := by decide +kernel
theorem dX1_rowWithout_31 : decode cX1_rowWithout 31 = .ok (.iastore, 1) := by decide +kernel
theorem dX1_rowWithout_32 : decode cX1_rowWithout 32 = .ok (.iinc 3 1, 3) := by decide +kernel
theorem dX1_rowWithout_35 : decode cX1_rowWithout 35 = .ok (.goto (-26), 3) := by decide +kernel
theorem dX1_rowWithout_38 : decode cX1_rowWithout 38 = .ok (.aload_n 2, 1) := by decide +kernel
theorem dX1_rowWithout_39 : decode cX1_rowWithout 39 = .ok (.areturn, 1) := by decide +kernel
theorem dX2_init_0 : decode cX2_init 0 = .ok (.aload_n 0, 1) := by decide +kernel
theorem dX2_init_1 : decode cX2_init 1 = .ok (.invokespecial 1, 3) := by decide +kernel
theorem dX2_init_4 : decode cX2_init 4 = .ok (.aload_n 0, 1) := by decide +kernel
theorem dX2_init_5 : decode cX2_init 5 = .ok (.sipush 252, 3) := by decide +kernel
theorem dX2_init_8 : decode cX2_init 8 = .ok (.newarray .int, 2) := by decide +kernel
theorem dX2_init_10 : decode cX2_init 10 = .ok (.putfield 7, 3) := by decide +kernel
theorem dX2_init_13 : decode cX2_init 13 = .ok (.aload_n 0, 1) := by decide +kernel
theorem dX2_init_14 : decode cX2_init 14 = .ok (.sipush 252, 3) := by decide +kernel
theorem dX2_init_17 : decode cX2_init 17 = .ok (.newarray .int, 2) := by decide +kernel
theorem dX2_init_19 : decode cX2_init 19 = .ok (.putfield 13, 3) := by decide +kernel
theorem dX2_init_22 : decode cX2_init 22 = .ok (.aload_n 0, 1) := by decide +kernel
theorem dX2_init_23 : decode cX2_init 23 = .ok (.sipush 252, 3) := by decide +kernel
theorem dX2_init_26 : decode cX2_init 26 = .ok (.newarray .int, 2) := by decide +kernel
theorem dX2_init_28 : decode cX2_init 28 = .ok (.putfield 16, 3) := by decide +kernel
theorem dX2_init_31 : decode cX2_init 31 = .ok (.aload_n 0, 1) := by decide +kernel
theorem dX2_init_32 : decode cX2_init 32 = .ok (.sipush 3024, 3) := by decide +kernel
theorem dX2_init_35 : decode cX2_init 35 = .ok (.newarray .int, 2) := by decide +kernel
theorem dX2_init_37 : decode cX2_init 37 = .ok (.putfield 19, 3) := by decide +kernel
theorem dX2_init_40 : decode cX2_init 40 = .ok (.return_, 1) := by decide +kernel
theorem dX2_thrown_0 : decode cX2_thrown 0 = .ok (.aload_n 0, 1) := by decide +kernel
theorem dX2_thrown_1 : decode cX2_thrown 1 = .ok (.getfield 22, 3) := by decide +kernel
theorem dX2_thrown_4 : decode cX2_thrown 4 = .ok (.ireturn, 1) := by decide +kernel
theorem dX2_goes_0 : decode cX2_goes 0 = .ok (.aload_n 0, 1) := by decide +kernel
theorem dX2_goes_1 : decode cX2_goes 1 = .ok (.iload_n 1, 1) := by decide +kernel
theorem dX2_goes_2 : decode cX2_goes 2 = .ok (.putfield 22, 3) := by decide +kernel
theorem dX2_goes_5 : decode cX2_goes 5 = .ok (.iload_n 1, 1) := by decide +kernel
theorem dX2_goes_6 : decode cX2_goes 6 = .ok (.ifCond .ne 7, 3) := by decide +kernel
theorem dX2_goes_9 : decode cX2_goes 9 = .ok (.iconst 1, 1) := by decide +kernel
theorem dX2_goes_10 : decode cX2_goes 10 = .ok (.goto 4, 3) := by decide +kernel
theorem dX2_goes_13 : decode cX2_goes 13 = .ok (.iconst 0, 1) := by decide +kernel
theorem dX2_goes_14 : decode cX2_goes 14 = .ok (.ireturn, 1) := by decide +kernel
theorem dX2_isIn_0 : decode cX2_isIn 0 = .ok (.iload_n 0, 1) := by decide +kernel
theorem dX2_isIn_1 : decode cX2_isIn 1 = .ok (.iload_n 1, 1) := by decide +kernel
theorem dX2_isIn_2 : decode cX2_isIn 2 = .ok (.if_icmp .lt 12, 3) := by decide +kernel
theorem dX2_isIn_5 : decode cX2_isIn 5 = .ok (.iload_n 0, 1) := by decide +kernel
theorem dX2_isIn_6 : decode cX2_isIn 6 = .ok (.iload_n 2, 1) := by decide +kernel
theorem dX2_isIn_7 : decode cX2_isIn 7 = .ok (.if_icmp .gt 7, 3) := by decide +kernel
theorem dX2_isIn_10 : decode cX2_isIn 10 = .ok (.iconst 1, 1) := by decide +kernel
theorem dX2_isIn_11 : decode cX2_isIn 11 = .ok (.goto 4, 3) := by decide +kernel
theorem dX2_isIn_14 : decode cX2_isIn 14 = .ok (.iconst 0, 1) := by decide +kernel
theorem dX2_isIn_15 : decode cX2_isIn 15 = .ok (.ireturn, 1) := by decide +kernel
set_option maxRecDepth 20000 in
theorem ggX2_isPlace_X2_isIn : GoodIn wsX2_isPlace wsX2_isIn := goodIn_r _ [4] (by decide +kernel) (by decide +kernel)
set_option maxRecDepth 20000 in
theorem gX2_isPlace_X2_isIn : GoodIn wsX2_isPlace (va_wsS RX2 26 yX2_isIn wsX2_isIn) := goodIn_app (goodIn_of _ (by decide +kernel)) ggX2_isPlace_X2_isIn
theorem dX2_isPlace_0 : decode cX2_isPlace 0 = .ok (.iload_n 0, 1) := by decide +kernel
theorem dX2_isPlace_1 : decode cX2_isPlace 1 = .ok (.iconst 0, 1) := by decide +kernel
theorem dX2_isPlace_2 : decode cX2_isPlace 2 = .ok (.iconst 5, 1) := by decide +kernel
theorem dX2_isPlace_3 : decode cX2_isPlace 3 = .ok (.invokestatic 26, 3) := by decide +kernel
theorem dX2_isPlace_6 : decode cX2_isPlace 6 = .ok (.ireturn, 1) := by decide +kernel
theorem dX2_at_0 : decode cX2_at 0 = .ok (.bipush 6, 2) := by decide +kernel
theorem dX2_at_2 : decode cX2_at 2 = .ok (.iload_n 0, 1) := by decide +kernel
theorem dX2_at_3 : decode cX2_at 3 = .ok (.imul, 1) := by decide +kernel
theorem dX2_at_4 : decode cX2_at 4 = .ok (.iload_n 1, 1) := by decide +kernel
theorem dX2_at_5 : decode cX2_at 5 = .ok (.iadd, 1) := by decide +kernel
theorem dX2_at_6 : decode cX2_at 6 = .ok (.ireturn, 1) := by decide +kernel
set_option maxRecDepth 20000 in
theorem ggX2_live_X2_at : GoodIn wsX2_live wsX2_at := goodIn_r _ [4] (by decide +kernel) (by decide +kernel)
set_option maxRecDepth 20000 in
theorem gX2_live_X2_at : GoodIn wsX2_live (va_wsS RX2 30 yX2_at wsX2_at) := goodIn_app (goodIn_of _ (by decide +kernel)) ggX2_live_X2_at
theorem dX2_live_0 : decode cX2_live 0 = .ok (.bipush 41, 2) := by decide +kernel
theorem dX2_live_2 : decode cX2_live 2 = .ok (.iload_n 0, 1) := by decide +kernel
theorem dX2_live_3 : decode cX2_live 3 = .ok (.invokestatic 30, 3) := by decide +kernel
theorem dX2_live_6 : decode cX2_live 6 = .ok (.ireturn, 1) := by decide +kernel
set_option maxRecDepth 20000 in
theorem ggX2_becomes_X2_live : GoodIn wsX2_becomes wsX2_live := goodIn_r _ [7, 8, 9, 6, 10] (by decide +kernel) (by decide +kernel)
set_option maxRecDepth 20000 in
theorem gX2_becomes_X2_live : GoodIn wsX2_becomes (va_wsS RX2 34 yX2_live wsX2_live) := goodIn_app (goodIn_of _ (by decide +kernel)) ggX2_becomes_X2_live
theorem dX2_becomes_0 : decode cX2_becomes 0 = .ok (.aload_n 0, 1) := by decide +kernel
theorem dX2_becomes_1 : decode cX2_becomes 1 = .ok (.getfield 7, 3) := by decide +kernel
theorem dX2_becomes_4 : decode cX2_becomes 4 = .ok (.iload_n 1, 1) := by decide +kernel
theorem dX2_becomes_5 : decode cX2_becomes 5 = .ok (.invokestatic 34, 3) := by decide +kernel
theorem dX2_becomes_8 : decode cX2_becomes 8 = .ok (.iaload, 1) := by decide +kernel
theorem dX2_becomes_9 : decode cX2_becomes 9 = .ok (.istore_n 3, 1) := by decide +kernel
theorem dX2_becomes_10 : decode cX2_becomes 10 = .ok (.aload_n 0, 1) := by decide +kernel
theorem dX2_becomes_11 : decode cX2_becomes 11 = .ok (.getfield 7, 3) := by decide +kernel
theorem dX2_becomes_14 : decode cX2_becomes 14 = .ok (.iload_n 1, 1) := by decide +kernel
theorem dX2_becomes_15 : decode cX2_becomes 15 = .ok (.invokestatic 34, 3) := by decide +kernel
theorem dX2_becomes_18 : decode cX2_becomes 18 = .ok (.iload_n 2, 1) := by decide +kernel
theorem dX2_becomes_19 : decode cX2_becomes 19 = .ok (.iastore, 1) := by decide +kernel
theorem dX2_becomes_20 : decode cX2_becomes 20 = .ok (.aload_n 0, 1) := by decide +kernel
theorem dX2_becomes_21 : decode cX2_becomes 21 = .ok (.getfield 13, 3) := by decide +kernel
theorem dX2_becomes_24 : decode cX2_becomes 24 = .ok (.iload_n 1, 1) := by decide +kernel
theorem dX2_becomes_25 : decode cX2_becomes 25 = .ok (.invokestatic 34, 3) := by decide +kernel
theorem dX2_becomes_28 : decode cX2_becomes 28 = .ok (.iconst 0, 1) := by decide +kernel
theorem dX2_becomes_29 : decode cX2_becomes 29 = .ok (.iastore, 1) := by decide +kernel
theorem dX2_becomes_30 : decode cX2_becomes 30 = .ok (.aload_n 0, 1) := by decide +kernel
theorem dX2_becomes_31 : decode cX2_becomes 31 = .ok (.getfield 16, 3) := by decide +kernel
theorem dX2_becomes_34 : decode cX2_becomes 34 = .ok (.iload_n 1, 1) := by decide +kernel
theorem dX2_becomes_35 : decode cX2_becomes 35 = .ok (.invokestatic 34, 3) := by decide +kernel
theorem dX2_becomes_38 : decode cX2_becomes 38 = .ok (.iconst 0, 1) := by decide +kernel
theorem dX2_becomes_39 : decode cX2_becomes 39 = .ok (.iastore, 1) := by decide +kernel
theorem dX2_becomes_40 : decode cX2_becomes 40 = .ok (.iload_n 3, 1) := by decide +kernel
theorem dX2_becomes_41 : decode cX2_becomes 41 = .ok (.ireturn, 1) := by decide +kernel
set_option maxRecDepth 20000 in
theorem ggX2_makeFile_X2_isPlace : GoodIn wsX2_makeFile wsX2_isPlace := goodIn_r _ [4, 5, 6, 3, 7] (by decide +kernel) (by decide +kernel)
set_option maxRecDepth 20000 in
theorem gX2_makeFile_X2_isPlace : GoodIn wsX2_makeFile (va_wsS RX2 38 yX2_isPlace wsX2_isPlace) := goodIn_app (goodIn_of _ (by decide +kernel)) ggX2_makeFile_X2_isPlace
set_option maxRecDepth 20000 in
theorem ggX2_makeFile_X2_goes : GoodIn wsX2_makeFile wsX2_goes := goodIn_r _ [11, 12, 26, 27, 28, 29, 30, 31, 32, 33, 34] (by decide +kernel) (by decide +kernel)
set_option maxRecDepth 20000 in
theorem gX2_makeFile_X2_goes : GoodIn wsX2_makeFile (wsV RX2 42 RX2 yX2_goes wsX2_goes) := goodIn_app (goodIn_of _ (by decide +kernel)) ggX2_makeFile_X2_goes
set_option maxRecDepth 20000 in
theorem ggX2_makeFile_X2_becomes : GoodIn wsX2_makeFile wsX2_becomes := goodIn_r _ [16, 17, 18, 19, 20, 21, 3, 22, 23, 24, 25, 26, 27, 28, 29, 30, 31, 32, 33, 34] (by decide +kernel) (by decide +kernel)
set_option maxRecDepth 20000 in
theorem gX2_makeFile_X2_becomes : GoodIn wsX2_makeFile (wsV RX2 45 RX2 yX2_becomes wsX2_becomes) := goodIn_app (goodIn_of _ (by decide +kernel)) ggX2_makeFile_X2_becomes
theorem dX2_makeFile_0 : decode cX2_makeFile 0 = .ok (.aload_n 0, 1) := by decide +kernel
theorem dX2_makeFile_1 : decode cX2_makeFile 1 = .ok (.iload_n 1, 1) := by decide +kernel
theorem dX2_makeFile_2 : decode cX2_makeFile 2 = .ok (.invokestatic 38, 3) := by decide +kernel
theorem dX2_makeFile_5 : decode cX2_makeFile 5 = .ok (.ifCond .eq 7, 3) := by decide +kernel
theorem dX2_makeFile_8 : decode cX2_makeFile 8 = .ok (.iconst 0, 1) := by decide +kernel
theorem dX2_makeFile_9 : decode cX2_makeFile 9 = .ok (.goto 4, 3) := by decide +kernel
theorem dX2_makeFile_12 : decode cX2_makeFile 12 = .ok (.iconst 1, 1) := by decide +kernel
theorem dX2_makeFile_13 : decode cX2_makeFile 13 = .ok (.invokevirtual 42, 3) := by decide +kernel
theorem dX2_makeFile_16 : decode cX2_makeFile 16 = .ok (.ifCond .eq 12, 3) := by decide +kernel
theorem dX2_makeFile_19 : decode cX2_makeFile 19 = .ok (.aload_n 0, 1) := by decide +kernel
theorem dX2_makeFile_20 : decode cX2_makeFile 20 = .ok (.iload_n 1, 1) := by decide +kernel
theorem dX2_makeFile_21 : decode cX2_makeFile 21 = .ok (.iconst 1, 1) := by decide +kernel
theorem dX2_makeFile_22 : decode cX2_makeFile 22 = .ok (.invokevirtual 45, 3) := by decide +kernel
theorem dX2_makeFile_25 : decode cX2_makeFile 25 = .ok (.goto 4, 3) := by decide +kernel
theorem dX2_makeFile_28 : decode cX2_makeFile 28 = .ok (.iconst 0, 1) := by decide +kernel
theorem dX2_makeFile_29 : decode cX2_makeFile 29 = .ok (.ireturn, 1) := by decide +kernel
set_option maxRecDepth 20000 in
theorem ggX2_makeLink_X2_isPlace : GoodIn wsX2_makeLink wsX2_isPlace := goodIn_r _ [6, 7, 8, 5, 9] (by decide +kernel) (by decide +kernel)
set_option maxRecDepth 20000 in
theorem gX2_makeLink_X2_isPlace : GoodIn wsX2_makeLink (va_wsS RX2 38 yX2_isPlace wsX2_isPlace) := goodIn_app (goodIn_of _ (by decide +kernel)) ggX2_makeLink_X2_isPlace
set_option maxRecDepth 20000 in
theorem ggX2_makeLink_X2_goes : GoodIn wsX2_makeLink wsX2_goes := goodIn_r _ [13, 14, 27, 28, 29, 30, 31, 32, 33, 34, 35] (by decide +kernel) (by decide +kernel)
set_option maxRecDepth 20000 in
theorem gX2_makeLink_X2_goes : GoodIn wsX2_makeLink (wsV RX2 42 RX2 yX2_goes wsX2_goes) := goodIn_app (goodIn_of _ (by decide +kernel)) ggX2_makeLink_X2_goes
set_option maxRecDepth 20000 in
theorem ggX2_makeLink_X2_becomes : GoodIn wsX2_makeLink wsX2_becomes := goodIn_r _ [18, 19, 20, 1, 21, 22, 5, 23, 24, 25, 26, 27, 28, 29, 30, 31, 32, 33, 34, 35] (by decide +kernel) (by decide +kernel)
set_option maxRecDepth 20000 in
theorem gX2_makeLink_X2_becomes : GoodIn wsX2_makeLink (wsV RX2 45 RX2 yX2_becomes wsX2_becomes) := goodIn_app (goodIn_of _ (by decide +kernel)) ggX2_makeLink_X2_becomes
set_option maxRecDepth 20000 in
theorem ggX2_makeLink_X2_live : GoodIn wsX2_makeLink wsX2_live := goodIn_r _ [23, 24, 25, 5, 26] (by decide +kernel) (by decide +kernel)
set_option maxRecDepth 20000 in
theorem gX2_makeLink_X2_live : GoodIn wsX2_makeLink (va_wsS RX2 34 yX2_live wsX2_live) := goodIn_app (goodIn_of _ (by decide +kernel)) ggX2_makeLink_X2_live
theorem dX2_makeLink_0 : decode cX2_makeLink 0 = .ok (.aload_n 0, 1) := by decide +kernel
theorem dX2_makeLink_1 : decode cX2_makeLink 1 = .ok (.iload_n 1, 1) := by decide +kernel
theorem dX2_makeLink_2 : decode cX2_makeLink 2 = .ok (.invokestatic 38, 3) := by decide +kernel
theorem dX2_makeLink_5 : decode cX2_makeLink 5 = .ok (.ifCond .eq 14, 3) := by decide +kernel
theorem dX2_makeLink_8 : decode cX2_makeLink 8 = .ok (.iload_n 2, 1) := by decide +kernel
theorem dX2_makeLink_9 : decode cX2_makeLink 9 = .ok (.invokestatic 38, 3) := by decide +kernel
theorem dX2_makeLink_12 : decode cX2_makeLink 12 = .ok (.ifCond .eq 7, 3) := by decide +kernel
theorem dX2_makeLink_15 : decode cX2_makeLink 15 = .ok (.iconst 0, 1) := by decide +kernel
theorem dX2_makeLink_16 : decode cX2_makeLink 16 = .ok (.goto 4, 3) := by decide +kernel
theorem dX2_makeLink_19 : decode cX2_makeLink 19 = .ok (.iconst 1, 1) := by decide +kernel
theorem dX2_makeLink_20 : decode cX2_makeLink 20 = .ok (.invokevirtual 42, 3) := by decide +kernel
theorem dX2_makeLink_23 : decode cX2_makeLink 23 = .ok (.ifCond .ne 5, 3) := by decide +kernel
theorem dX2_makeLink_26 : decode cX2_makeLink 26 = .ok (.iconst 0, 1) := by decide +kernel
theorem dX2_makeLink_27 : decode cX2_makeLink 27 = .ok (.ireturn, 1) := by decide +kernel
theorem dX2_makeLink_28 : decode cX2_makeLink 28 = .ok (.aload_n 0, 1) := by decide +kernel
theorem dX2_makeLink_29 : decode cX2_makeLink 29 = .ok (.iload_n 1, 1) := by decide +kernel
theorem dX2_makeLink_30 : decode cX2_makeLink 30 = .ok (.iconst 2, 1) := by decide +kernel
theorem dX2_makeLink_31 : decode cX2_makeLink 31 = .ok (.invokevirtual 45, 3) := by decide +kernel
theorem dX2_makeLink_34 : decode cX2_makeLink 34 = .ok (.istore_n 3, 1) := by decide +kernel
theorem dX2_makeLink_35 : decode cX2_makeLink 35 = .ok (.aload_n 0, 1) := by decide +kernel
theorem dX2_makeLink_36 : decode cX2_makeLink 36 = .ok (.getfield 16, 3) := by decide +kernel
theorem dX2_makeLink_39 : decode cX2_makeLink 39 = .ok (.iload_n 1, 1) := by decide +kernel
theorem dX2_makeLink_40 : decode cX2_makeLink 40 = .ok (.invokestatic 34, 3) := by decide +kernel
theorem dX2_makeLink_43 : decode cX2_makeLink 43 = .ok (.iconst 1, 1) := by decide +kernel
theorem dX2_makeLink_44 : decode cX2_makeLink 44 = .ok (.iastore, 1) := by decide +kernel
theorem dX2_makeLink_45 : decode cX2_makeLink 45 = .ok (.aload_n 0, 1) := by decide +kernel
theorem dX2_makeLink_46 : decode cX2_makeLink 46 = .ok (.getfield 19, 3) := by decide +kernel
theorem dX2_makeLink_49 : decode cX2_makeLink 49 = .ok (.bipush 12, 2) := by decide +kernel
theorem dX2_makeLink_51 : decode cX2_makeLink 51 = .ok (.iload_n 1, 1) := by decide +kernel
theorem dX2_makeLink_52 : decode cX2_makeLink 52 = .ok (.invokestatic 34, 3) := by decide +kernel
theorem dX2_makeLink_55 : decode cX2_makeLink 55 = .ok (.imul, 1) := by decide +kernel
theorem dX2_makeLink_56 : decode cX2_makeLink 56 = .ok (.iload_n 2, 1) := by decide +kernel
theorem dX2_makeLink_57 : decode cX2_makeLink 57 = .ok (.iastore, 1) := by decide +kernel
theorem dX2_makeLink_58 : decode cX2_makeLink 58 = .ok (.iload_n 3, 1) := by decide +kernel
theorem dX2_makeLink_59 : decode cX2_makeLink 59 = .ok (.ireturn, 1) := by decide +kernel
set_option maxRecDepth 20000 in
theorem ggX2_remove_X2_isPlace : GoodIn wsX2_remove wsX2_isPlace := goodIn_r _ [4, 5, 6, 3, 7] (by decide +kernel) (by decide +kernel)
set_option maxRecDepth 20000 in
theorem gX2_remove_X2_isPlace : GoodIn wsX2_remove (va_wsS RX2 38 yX2_isPlace wsX2_isPlace) := goodIn_app (goodIn_of _ (by decide +kernel)) ggX2_remove_X2_isPlace
set_option maxRecDepth 20000 in
theorem ggX2_remove_X2_goes : GoodIn wsX2_remove wsX2_goes := goodIn_r _ [11, 12, 26, 27, 28, 29, 30, 31, 32, 33, 34] (by decide +kernel) (by decide +kernel)
set_option maxRecDepth 20000 in
theorem gX2_remove_X2_goes : GoodIn wsX2_remove (wsV RX2 42 RX2 yX2_goes wsX2_goes) := goodIn_app (goodIn_of _ (by decide +kernel)) ggX2_remove_X2_goes
set_option maxRecDepth 20000 in
theorem ggX2_remove_X2_becomes : GoodIn wsX2_remove wsX2_becomes := goodIn_r _ [16, 17, 18, 19, 20, 21, 3, 22, 23, 24, 25, 26, 27, 28, 29, 30, 31, 32, 33, 34] (by decide +kernel) (by decide +kernel)
set_option maxRecDepth 20000 in
theorem gX2_remove_X2_becomes : GoodIn wsX2_remove (wsV RX2 45 RX2 yX2_becomes wsX2_becomes) := goodIn_app (goodIn_of _ (by decide +kernel)) ggX2_remove_X2_becomes
theorem dX2_remove_0 : decode cX2_remove 0 = .ok (.aload_n 0, 1) := by decide +kernel
theorem dX2_remove_1 : decode cX2_remove 1 = .ok (.iload_n 1, 1) := by decide +kernel
theorem dX2_remove_2 : decode cX2_remove 2 = .ok (.invokestatic 38, 3) := by decide +kernel
theorem dX2_remove_5 : decode cX2_remove 5 = .ok (.ifCond .eq 7, 3) := by decide +kernel
theorem dX2_remove_8 : decode cX2_remove 8 = .ok (.iconst 0, 1) := by decide +kernel
theorem dX2_remove_9 : decode cX2_remove 9 = .ok (.goto 4, 3) := by decide +kernel
theorem dX2_remove_12 : decode cX2_remove 12 = .ok (.iconst 1, 1) := by decide +kernel
theorem dX2_remove_13 : decode cX2_remove 13 = .ok (.invokevirtual 42, 3) := by decide +kernel
theorem dX2_remove_16 : decode cX2_remove 16 = .ok (.ifCond .eq 12, 3) := by decide +kernel
theorem dX2_remove_19 : decode cX2_remove 19 = .ok (.aload_n 0, 1) := by decide +kernel
theorem dX2_remove_20 : decode cX2_remove 20 = .ok (.iload_n 1, 1) := by decide +kernel
theorem dX2_remove_21 : decode cX2_remove 21 = .ok (.iconst 0, 1) := by decide +kernel
theorem dX2_remove_22 : decode cX2_remove 22 = .ok (.invokevirtual 45, 3) := by decide +kernel
theorem dX2_remove_25 : decode cX2_remove 25 = .ok (.goto 4, 3) := by decide +kernel
theorem dX2_remove_28 : decode cX2_remove 28 = .ok (.iconst 0, 1) := by decide +kernel
theorem dX2_remove_29 : decode cX2_remove 29 = .ok (.ireturn, 1) := by decide +kernel
set_option maxRecDepth 20000 in
theorem ggX2_put_X2_isPlace : GoodIn wsX2_put wsX2_isPlace := goodIn_r _ [7, 8, 9, 6, 10] (by decide +kernel) (by decide +kernel)
set_option maxRecDepth 20000 in
theorem gX2_put_X2_isPlace : GoodIn wsX2_put (va_wsS RX2 38 yX2_isPlace wsX2_isPlace) := goodIn_app (goodIn_of _ (by decide +kernel)) ggX2_put_X2_isPlace
set_option maxRecDepth 20000 in
theorem ggX2_put_X2_goes : GoodIn wsX2_put wsX2_goes := goodIn_r _ [14, 15, 22, 23, 24, 25, 26, 27, 28, 29, 30] (by decide +kernel) (by decide +kernel)
set_option maxRecDepth 20000 in
theorem gX2_put_X2_goes : GoodIn wsX2_put (wsV RX2 42 RX2 yX2_goes wsX2_goes) := goodIn_app (goodIn_of _ (by decide +kernel)) ggX2_put_X2_goes
set_option maxRecDepth 20000 in
theorem ggX2_put_X2_live : GoodIn wsX2_put wsX2_live := goodIn_r _ [18, 19, 20, 6, 21] (by decide +kernel) (by decide +kernel)
set_option maxRecDepth 20000 in
theorem gX2_put_X2_live : GoodIn wsX2_put (va_wsS RX2 34 yX2_live wsX2_live) := goodIn_app (goodIn_of _ (by decide +kernel)) ggX2_put_X2_live
set_option maxRecDepth 20000 in
theorem ggX2_put_X2_isIn : GoodIn wsX2_put wsX2_isIn := goodIn_r _ [10] (by decide +kernel) (by decide +kernel)
set_option maxRecDepth 20000 in
theorem gX2_put_X2_isIn : GoodIn wsX2_put (va_wsS RX2 26 yX2_isIn wsX2_isIn) := goodIn_app (goodIn_of _ (by decide +kernel)) ggX2_put_X2_isIn
theorem dX2_put_0 : decode cX2_put 0 = .ok (.aload_n 0, 1) := by decide +kernel
theorem dX2_put_1 : decode cX2_put 1 = .ok (.iload_n 1, 1) := by decide +kernel
theorem dX2_put_2 : decode cX2_put 2 = .ok (.invokestatic 38, 3) := by decide +kernel
theorem dX2_put_5 : decode cX2_put 5 = .ok (.ifCond .eq 7, 3) := by decide +kernel
theorem dX2_put_8 : decode cX2_put 8 = .ok (.iconst 0, 1) := by decide +kernel
theorem dX2_put_9 : decode cX2_put 9 = .ok (.goto 4, 3) := by decide +kernel
theorem dX2_put_12 : decode cX2_put 12 = .ok (.iconst 1, 1) := by decide +kernel
theorem dX2_put_13 : decode cX2_put 13 = .ok (.invokevirtual 42, 3) := by decide +kernel
theorem dX2_put_16 : decode cX2_put 16 = .ok (.ifCond .ne 5, 3) := by decide +kernel
theorem dX2_put_19 : decode cX2_put 19 = .ok (.iconst 0, 1) := by decide +kernel
theorem dX2_put_20 : decode cX2_put 20 = .ok (.ireturn, 1) := by decide +kernel
theorem dX2_put_21 : decode cX2_put 21 = .ok (.iload_n 1, 1) := by decide +kernel
theorem dX2_put_22 : decode cX2_put 22 = .ok (.invokestatic 34, 3) := by decide +kernel
theorem dX2_put_25 : decode cX2_put 25 = .ok (.istore 4, 2) := by decide +kernel
theorem dX2_put_27 : decode cX2_put 27 = .ok (.aload_n 0, 1) := by decide +kernel
theorem dX2_put_28 : decode cX2_put 28 = .ok (.aload_n 0, 1) := by decide +kernel
theorem dX2_put_29 : decode cX2_put 29 = .ok (.getfield 7, 3) := by decide +kernel
theorem dX2_put_32 : decode cX2_put 32 = .ok (.iload 4, 2) := by decide +kernel
theorem dX2_put_34 : decode cX2_put 34 = .ok (.iaload, 1) := by decide +kernel
theorem dX2_put_35 : decode cX2_put 35 = .ok (.iconst 1, 1) := by decide +kernel
theorem dX2_put_36 : decode cX2_put 36 = .ok (.if_icmp .ne 15, 3) := by decide +kernel
theorem dX2_put_39 : decode cX2_put 39 = .ok (.aload_n 0, 1) := by decide +kernel
theorem dX2_put_40 : decode cX2_put 40 = .ok (.getfield 16, 3) := by decide +kernel
theorem dX2_put_43 : decode cX2_put 43 = .ok (.iload 4, 2) := by decide +kernel
theorem dX2_put_45 : decode cX2_put 45 = .ok (.iaload, 1) := by decide +kernel
theorem dX2_put_46 : decode cX2_put 46 = .ok (.bipush 12, 2) := by decide +kernel
theorem dX2_put_48 : decode cX2_put 48 = .ok (.if_icmp .ne 7, 3) := by decide +kernel
theorem dX2_put_51 : decode cX2_put 51 = .ok (.iconst 2, 1) := by decide +kernel
theorem dX2_put_52 : decode cX2_put 52 = .ok (.goto 33, 3) := by decide +kernel
theorem dX2_put_55 : decode cX2_put 55 = .ok (.iload_n 2, 1) := by decide +kernel
theorem dX2_put_56 : decode cX2_put 56 = .ok (.iconst 0, 1) := by decide +kernel
theorem dX2_put_57 : decode cX2_put 57 = .ok (.aload_n 0, 1) := by decide +kernel
theorem dX2_put_58 : decode cX2_put 58 = .ok (.getfield 16, 3) := by decide +kernel
theorem dX2_put_61 : decode cX2_put 61 = .ok (.iload 4, 2) := by decide +kernel
theorem dX2_put_63 : decode cX2_put 63 = .ok (.iaload, 1) := by decide +kernel
theorem dX2_put_64 : decode cX2_put 64 = .ok (.invokestatic 26, 3) := by decide +kernel
theorem dX2_put_67 : decode cX2_put 67 = .ok (.ifCond .eq 17, 3) := by decide +kernel
theorem dX2_put_70 : decode cX2_put 70 = .ok (.iload_n 3, 1) := by decide +kernel
theorem dX2_put_71 : decode cX2_put 71 = .ok (.iconst 0, 1) := by decide +kernel
theorem dX2_put_72 : decode cX2_put 72 = .ok (.bipush 9, 2) := by decide +kernel
theorem dX2_put_74 : decode cX2_put 74 = .ok (.invokestatic 26, 3) := by decide +kernel
theorem dX2_put_77 : decode cX2_put 77 = .ok (.ifCond .eq 7, 3) := by decide +kernel
theorem dX2_put_80 : decode cX2_put 80 = .ok (.iconst 0, 1) := by decide +kernel
theorem dX2_put_81 : decode cX2_put 81 = .ok (.goto 4, 3) := by decide +kernel
theorem dX2_put_84 : decode cX2_put 84 = .ok (.iconst 3, 1) := by decide +kernel
theorem dX2_put_85 : decode cX2_put 85 = .ok (.invokevirtual 42, 3) := by decide +kernel
theorem dX2_put_88 : decode cX2_put 88 = .ok (.ifCond .ne 5, 3) := by decide +kernel
theorem dX2_put_91 : decode cX2_put 91 = .ok (.iconst 0, 1) := by decide +kernel
theorem dX2_put_92 : decode cX2_put 92 = .ok (.ireturn, 1) := by decide +kernel
theorem dX2_put_93 : decode cX2_put 93 = .ok (.aload_n 0, 1) := by decide +kernel
theorem dX2_put_94 : decode cX2_put 94 = .ok (.getfield 16, 3) := by decide +kernel
theorem dX2_put_97 : decode cX2_put 97 = .ok (.iload 4, 2) := by decide +kernel
theorem dX2_put_99 : decode cX2_put 99 = .ok (.iaload, 1) := by decide +kernel
theorem dX2_put_100 : decode cX2_put 100 = .ok (.istore 5, 2) := by decide +kernel
theorem dX2_put_102 : decode cX2_put 102 = .ok (.iload 5, 2) := by decide +kernel
theorem dX2_put_104 : decode cX2_put 104 = .ok (.iload_n 2, 1) := by decide +kernel
theorem dX2_put_105 : decode cX2_put 105 = .ok (.if_icmp .le 37, 3) := by decide +kernel
theorem dX2_put_108 : decode cX2_put 108 = .ok (.aload_n 0, 1) := by decide +kernel
theorem dX2_put_109 : decode cX2_put 109 = .ok (.getfield 19, 3) := by decide +kernel
theorem dX2_put_112 : decode cX2_put 112 = .ok (.bipush 12, 2) := by decide +kernel
theorem dX2_put_114 : decode cX2_put 114 = .ok (.iload 4, 2) := by decide +kernel
theorem dX2_put_116 : decode cX2_put 116 = .ok (.imul, 1) := by decide +kernel
theorem dX2_put_117 : decode cX2_put 117 = .ok (.iload 5, 2) := by decide +kernel
theorem dX2_put_119 : decode cX2_put 119 = .ok (.iadd, 1) := by decide +kernel
theorem dX2_put_120 : decode cX2_put 120 = .ok (.aload_n 0, 1) := by decide +kernel
theorem dX2_put_121 : decode cX2_put 121 = .ok (.getfield 19, 3) := by decide +kernel
theorem dX2_put_124 : decode cX2_put 124 = .ok (.bipush 12, 2) := by decide +kernel
theorem dX2_put_126 : decode cX2_put 126 = .ok (.iload 4, 2) := by decide +kernel
theorem dX2_put_128 : decode cX2_put 128 = .ok (.imul, 1) := by decide +kernel
theorem dX2_put_129 : decode cX2_put 129 = .ok (.iload 5, 2) := by decide +kernel
theorem dX2_put_131 : decode cX2_put 131 = .ok (.iadd, 1) := by decide +kernel
theorem dX2_put_132 : decode cX2_put 132 = .ok (.iconst 1, 1) := by decide +kernel
theorem dX2_put_133 : decode cX2_put 133 = .ok (.isub, 1) := by decide +kernel
theorem dX2_put_134 : decode cX2_put 134 = .ok (.iaload, 1) := by decide +kernel
theorem dX2_put_135 : decode cX2_put 135 = .ok (.iastore, 1) := by decide +kernel
theorem dX2_put_136 : decode cX2_put 136 = .ok (.iinc 5 (-1), 3) := by decide +kernel
theorem dX2_put_139 : decode cX2_put 139 = .ok (.goto (-37), 3) := by decide +kernel
theorem dX2_put_142 : decode cX2_put 142 = .ok (.aload_n 0, 1) := by decide +kernel
theorem dX2_put_143 : decode cX2_put 143 = .ok (.getfield 19, 3) := by decide +kernel
theorem dX2_put_146 : decode cX2_put 146 = .ok (.bipush 12, 2) := by decide +kernel
theorem dX2_put_148 : decode cX2_put 148 = .ok (.iload 4, 2) := by decide +kernel
theorem dX2_put_150 : decode cX2_put 150 = .ok (.imul, 1) := by decide +kernel
theorem dX2_put_151 : decode cX2_put 151 = .ok (.iload_n 2, 1) := by decide +kernel
theorem dX2_put_152 : decode cX2_put 152 = .ok (.iadd, 1) := by decide +kernel
theorem dX2_put_153 : decode cX2_put 153 = .ok (.iload_n 3, 1) := by decide +kernel
theorem dX2_put_154 : decode cX2_put 154 = .ok (.iastore, 1) := by decide +kernel
theorem dX2_put_155 : decode cX2_put 155 = .ok (.aload_n 0, 1) := by decide +kernel
theorem dX2_put_156 : decode cX2_put 156 = .ok (.getfield 16, 3) := by decide +kernel
theorem dX2_put_159 : decode cX2_put 159 = .ok (.iload 4, 2) := by decide +kernel
theorem dX2_put_161 : decode cX2_put 161 = .ok (.dup2, 1) := by decide +kernel
theorem dX2_put_162 : decode cX2_put 162 = .ok (.iaload, 1) := by decide +kernel
theorem dX2_put_163 : decode cX2_put 163 = .ok (.iconst 1, 1) := by decide +kernel
theorem dX2_put_164 : decode cX2_put 164 = .ok (.iadd, 1) := by decide +kernel
theorem dX2_put_165 : decode cX2_put 165 = .ok (.iastore, 1) := by decide +kernel
theorem dX2_put_166 : decode cX2_put 166 = .ok (.aload_n 0, 1) := by decide +kernel
theorem dX2_put_167 : decode cX2_put 167 = .ok (.getfield 16, 3) := by decide +kernel
theorem dX2_put_170 : decode cX2_put 170 = .ok (.iload 4, 2) := by decide +kernel
theorem dX2_put_172 : decode cX2_put 172 = .ok (.iaload, 1) := by decide +kernel
theorem dX2_put_173 : decode cX2_put 173 = .ok (.ireturn, 1) := by decide +kernel
set_option maxRecDepth 20000 in
theorem ggX2_take_X2_isPlace : GoodIn wsX2_take wsX2_isPlace := goodIn_r _ [7, 8, 9, 6, 10] (by decide +kernel) (by decide +kernel)
set_option maxRecDepth 20000 in
theorem gX2_take_X2_isPlace : GoodIn wsX2_take (va_wsS RX2 38 yX2_isPlace wsX2_isPlace) := goodIn_app (goodIn_of _ (by decide +kernel)) ggX2_take_X2_isPlace
set_option maxRecDepth 20000 in
theorem ggX2_take_X2_goes : GoodIn wsX2_take wsX2_goes := goodIn_r _ [14, 15, 22, 23, 24, 25, 26, 27, 28, 29, 30] (by decide +kernel) (by decide +kernel)
set_option maxRecDepth 20000 in
theorem gX2_take_X2_goes : GoodIn wsX2_take (wsV RX2 42 RX2 yX2_goes wsX2_goes) := goodIn_app (goodIn_of _ (by decide +kernel)) ggX2_take_X2_goes
set_option maxRecDepth 20000 in
theorem ggX2_take_X2_live : GoodIn wsX2_take wsX2_live := goodIn_r _ [18, 19, 20, 6, 21] (by decide +kernel) (by decide +kernel)
set_option maxRecDepth 20000 in
theorem gX2_take_X2_live : GoodIn wsX2_take (va_wsS RX2 34 yX2_live wsX2_live) := goodIn_app (goodIn_of _ (by decide +kernel)) ggX2_take_X2_live
set_option maxRecDepth 20000 in
theorem ggX2_take_X2_isIn : GoodIn wsX2_take wsX2_isIn := goodIn_r _ [10] (by decide +kernel) (by decide +kernel)
set_option maxRecDepth 20000 in
theorem gX2_take_X2_isIn : GoodIn wsX2_take (va_wsS RX2 26 yX2_isIn wsX2_isIn) := goodIn_app (goodIn_of _ (by decide +kernel)) ggX2_take_X2_isIn
theorem dX2_take_0 : decode cX2_take 0 = .ok (.aload_n 0, 1) := by decide +kernel
theorem dX2_take_1 : decode cX2_take 1 = .ok (.iload_n 1, 1) := by decide +kernel
theorem dX2_take_2 : decode cX2_take 2 = .ok (.invokestatic 38, 3) := by decide +kernel
theorem dX2_take_5 : decode cX2_take 5 = .ok (.ifCond .eq 7, 3) := by decide +kernel
theorem dX2_take_8 : decode cX2_take 8 = .ok (.iconst 0, 1) := by decide +kernel
theorem dX2_take_9 : decode cX2_take 9 = .ok (.goto 4, 3) := by decide +kernel
theorem dX2_take_12 : decode cX2_take 12 = .ok (.iconst 1, 1) := by decide +kernel
theorem dX2_take_13 : decode cX2_take 13 = .ok (.invokevirtual 42, 3) := by decide +kernel
theorem dX2_take_16 : decode cX2_take 16 = .ok (.ifCond .ne 5, 3) := by decide +kernel
theorem dX2_take_19 : decode cX2_take 19 = .ok (.iconst 0, 1) := by decide +kernel
theorem dX2_take_20 : decode cX2_take 20 = .ok (.ireturn, 1) := by decide +kernel
theorem dX2_take_21 : decode cX2_take 21 = .ok (.iload_n 1, 1) := by decide +kernel
theorem dX2_take_22 : decode cX2_take 22 = .ok (.invokestatic 34, 3) := by decide +kernel
theorem dX2_take_25 : decode cX2_take 25 = .ok (.istore_n 3, 1) := by decide +kernel
theorem dX2_take_26 : decode cX2_take 26 = .ok (.aload_n 0, 1) := by decide +kernel
theorem dX2_take_27 : decode cX2_take 27 = .ok (.aload_n 0, 1) := by decide +kernel
theorem dX2_take_28 : decode cX2_take 28 = .ok (.getfield 7, 3) := by decide +kernel
theorem dX2_take_31 : decode cX2_take 31 = .ok (.iload_n 3, 1) := by decide +kernel
theorem dX2_take_32 : decode cX2_take 32 = .ok (.iaload, 1) := by decide +kernel
theorem dX2_take_33 : decode cX2_take 33 = .ok (.iconst 1, 1) := by decide +kernel
theorem dX2_take_34 : decode cX2_take 34 = .ok (.if_icmp .eq 7, 3) := by decide +kernel
theorem dX2_take_37 : decode cX2_take 37 = .ok (.iconst 2, 1) := by decide +kernel
theorem dX2_take_38 : decode cX2_take 38 = .ok (.goto 24, 3) := by decide +kernel
theorem dX2_take_41 : decode cX2_take 41 = .ok (.iload_n 2, 1) := by decide +kernel
theorem dX2_take_42 : decode cX2_take 42 = .ok (.iconst 0, 1) := by decide +kernel
theorem dX2_take_43 : decode cX2_take 43 = .ok (.aload_n 0, 1) := by decide +kernel
theorem dX2_take_44 : decode cX2_take 44 = .ok (.getfield 16, 3) := by decide +kernel
theorem dX2_take_47 : decode cX2_take 47 = .ok (.iload_n 3, 1) := by decide +kernel
theorem dX2_take_48 : decode cX2_take 48 = .ok (.iaload, 1) := by decide +kernel
theorem dX2_take_49 : decode cX2_take 49 = .ok (.iconst 1, 1) := by decide +kernel
theorem dX2_take_50 : decode cX2_take 50 = .ok (.isub, 1) := by decide +kernel
theorem dX2_take_51 : decode cX2_take 51 = .ok (.invokestatic 26, 3) := by decide +kernel
theorem dX2_take_54 : decode cX2_take 54 = .ok (.ifCond .eq 7, 3) := by decide +kernel
theorem dX2_take_57 : decode cX2_take 57 = .ok (.iconst 0, 1) := by decide +kernel
theorem dX2_take_58 : decode cX2_take 58 = .ok (.goto 4, 3) := by decide +kernel
theorem dX2_take_61 : decode cX2_take 61 = .ok (.iconst 3, 1) := by decide +kernel
theorem dX2_take_62 : decode cX2_take 62 = .ok (.invokevirtual 42, 3) := by decide +kernel
theorem dX2_take_65 : decode cX2_take 65 = .ok (.ifCond .ne 5, 3) := by decide +kernel
theorem dX2_take_68 : decode cX2_take 68 = .ok (.iconst 0, 1) := by decide +kernel
theorem dX2_take_69 : decode cX2_take 69 = .ok (.ireturn, 1) := by decide +kernel
theorem dX2_take_70 : decode cX2_take 70 = .ok (.aload_n 0, 1) := by decide +kernel
theorem dX2_take_71 : decode cX2_take 71 = .ok (.getfield 19, 3) := by decide +kernel
theorem dX2_take_74 : decode cX2_take 74 = .ok (.bipush 12, 2) := by decide +kernel
theorem dX2_take_76 : decode cX2_take 76 = .ok (.iload_n 3, 1) := by decide +kernel
theorem dX2_take_77 : decode cX2_take 77 = .ok (.imul, 1) := by decide +kernel
theorem dX2_take_78 : decode cX2_take 78 = .ok (.iload_n 2, 1) := by decide +kernel
theorem dX2_take_79 : decode cX2_take 79 = .ok (.iadd, 1) := by decide +kernel
theorem dX2_take_80 : decode cX2_take 80 = .ok (.iaload, 1) := by decide +kernel
theorem dX2_take_81 : decode cX2_take 81 = .ok (.istore 4, 2) := by decide +kernel
theorem dX2_take_83 : decode cX2_take 83 = .ok (.aload_n 0, 1) := by decide +kernel
theorem dX2_take_84 : decode cX2_take 84 = .ok (.getfield 16, 3) := by decide +kernel
theorem dX2_take_87 : decode cX2_take 87 = .ok (.iload_n 3, 1) := by decide +kernel
theorem dX2_take_88 : decode cX2_take 88 = .ok (.dup2, 1) := by decide +kernel
theorem dX2_take_89 : decode cX2_take 89 = .ok (.iaload, 1) := by decide +kernel
theorem dX2_take_90 : decode cX2_take 90 = .ok (.iconst 1, 1) := by decide +kernel
theorem dX2_take_91 : decode cX2_take 91 = .ok (.isub, 1) := by decide +kernel
theorem dX2_take_92 : decode cX2_take 92 = .ok (.iastore, 1) := by decide +kernel
theorem dX2_take_93 : decode cX2_take 93 = .ok (.iload_n 2, 1) := by decide +kernel
theorem dX2_take_94 : decode cX2_take 94 = .ok (.istore 5, 2) := by decide +kernel
theorem dX2_take_96 : decode cX2_take 96 = .ok (.iload 5, 2) := by decide +kernel
theorem dX2_take_98 : decode cX2_take 98 = .ok (.aload_n 0, 1) := by decide +kernel
theorem dX2_take_99 : decode cX2_take 99 = .ok (.getfield 16, 3) := by decide +kernel
theorem dX2_take_102 : decode cX2_take 102 = .ok (.iload_n 3, 1) := by decide +kernel
theorem dX2_take_103 : decode cX2_take 103 = .ok (.iaload, 1) := by decide +kernel
theorem dX2_take_104 : decode cX2_take 104 = .ok (.if_icmp .ge 35, 3) := by decide +kernel
theorem dX2_take_107 : decode cX2_take 107 = .ok (.aload_n 0, 1) := by decide +kernel
theorem dX2_take_108 : decode cX2_take 108 = .ok (.getfield 19, 3) := by decide +kernel
theorem dX2_take_111 : decode cX2_take 111 = .ok (.bipush 12, 2) := by decide +kernel
theorem dX2_take_113 : decode cX2_take 113 = .ok (.iload_n 3, 1) := by decide +kernel
theorem dX2_take_114 : decode cX2_take 114 = .ok (.imul, 1) := by decide +kernel
theorem dX2_take_115 : decode cX2_take 115 = .ok (.iload 5, 2) := by decide +kernel
theorem dX2_take_117 : decode cX2_take 117 = .ok (.iadd, 1) := by decide +kernel
theorem dX2_take_118 : decode cX2_take 118 = .ok (.aload_n 0, 1) := by decide +kernel
theorem dX2_take_119 : decode cX2_take 119 = .ok (.getfield 19, 3) := by decide +kernel
theorem dX2_take_122 : decode cX2_take 122 = .ok (.bipush 12, 2) := by decide +kernel
theorem dX2_take_124 : decode cX2_take 124 = .ok (.iload_n 3, 1) := by decide +kernel
theorem dX2_take_125 : decode cX2_take 125 = .ok (.imul, 1) := by decide +kernel
theorem dX2_take_126 : decode cX2_take 126 = .ok (.iload 5, 2) := by decide +kernel
theorem dX2_take_128 : decode cX2_take 128 = .ok (.iadd, 1) := by decide +kernel
theorem dX2_take_129 : decode cX2_take 129 = .ok (.iconst 1, 1) := by decide +kernel
theorem dX2_take_130 : decode cX2_take 130 = .ok (.iadd, 1) := by decide +kernel
theorem dX2_take_131 : decode cX2_take 131 = .ok (.iaload, 1) := by decide +kernel
theorem dX2_take_132 : decode cX2_take 132 = .ok (.iastore, 1) := by decide +kernel
theorem dX2_take_133 : decode cX2_take 133 = .ok (.iinc 5 1, 3) := by decide +kernel
theorem dX2_take_136 : decode cX2_take 136 = .ok (.goto (-40), 3) := by decide +kernel
theorem dX2_take_139 : decode cX2_take 139 = .ok (.iload 4, 2) := by decide +kernel
theorem dX2_take_141 : decode cX2_take 141 = .ok (.ireturn, 1) := by decide +kernel
set_option maxRecDepth 20000 in
theorem ggX2_setRights_X2_isPlace : GoodIn wsX2_setRights wsX2_isPlace := goodIn_r _ [6, 7, 8, 5, 9] (by decide +kernel) (by decide +kernel)
set_option maxRecDepth 20000 in
theorem gX2_setRights_X2_isPlace : GoodIn wsX2_setRights (va_wsS RX2 38 yX2_isPlace wsX2_isPlace) := goodIn_app (goodIn_of _ (by decide +kernel)) ggX2_setRights_X2_isPlace
set_option maxRecDepth 20000 in
theorem ggX2_setRights_X2_live : GoodIn wsX2_setRights wsX2_live := goodIn_r _ [12, 13, 14, 5, 15] (by decide +kernel) (by decide +kernel)
set_option maxRecDepth 20000 in
theorem gX2_setRights_X2_live : GoodIn wsX2_setRights (va_wsS RX2 34 yX2_live wsX2_live) := goodIn_app (goodIn_of _ (by decide +kernel)) ggX2_setRights_X2_live
set_option maxRecDepth 20000 in
theorem ggX2_setRights_X2_isIn : GoodIn wsX2_setRights wsX2_isIn := goodIn_r _ [9] (by decide +kernel) (by decide +kernel)
set_option maxRecDepth 20000 in
theorem gX2_setRights_X2_isIn : GoodIn wsX2_setRights (va_wsS RX2 26 yX2_isIn wsX2_isIn) := goodIn_app (goodIn_of _ (by decide +kernel)) ggX2_setRights_X2_isIn
set_option maxRecDepth 20000 in
theorem ggX2_setRights_X2_goes : GoodIn wsX2_setRights wsX2_goes := goodIn_r _ [19, 20, 21, 22, 23, 24, 25, 26, 27, 28, 29] (by decide +kernel) (by decide +kernel)
set_option maxRecDepth 20000 in
theorem gX2_setRights_X2_goes : GoodIn wsX2_setRights (wsV RX2 42 RX2 yX2_goes wsX2_goes) := goodIn_app (goodIn_of _ (by decide +kernel)) ggX2_setRights_X2_goes
theorem dX2_setRights_0 : decode cX2_setRights 0 = .ok (.aload_n 0, 1) := by decide +kernel
theorem dX2_setRights_1 : decode cX2_setRights 1 = .ok (.iload_n 1, 1) := by decide +kernel
theorem dX2_setRights_2 : decode cX2_setRights 2 = .ok (.invokestatic 38, 3) := by decide +kernel
theorem dX2_setRights_5 : decode cX2_setRights 5 = .ok (.ifCond .ne 7, 3) := by decide +kernel
theorem dX2_setRights_8 : decode cX2_setRights 8 = .ok (.iconst 1, 1) := by decide +kernel
theorem dX2_setRights_9 : decode cX2_setRights 9 = .ok (.goto 34, 3) := by decide +kernel
theorem dX2_setRights_12 : decode cX2_setRights 12 = .ok (.aload_n 0, 1) := by decide +kernel
theorem dX2_setRights_13 : decode cX2_setRights 13 = .ok (.getfield 7, 3) := by decide +kernel
theorem dX2_setRights_16 : decode cX2_setRights 16 = .ok (.iload_n 1, 1) := by decide +kernel
theorem dX2_setRights_17 : decode cX2_setRights 17 = .ok (.invokestatic 34, 3) := by decide +kernel
theorem dX2_setRights_20 : decode cX2_setRights 20 = .ok (.iaload, 1) := by decide +kernel
theorem dX2_setRights_21 : decode cX2_setRights 21 = .ok (.ifCond .ne 7, 3) := by decide +kernel
theorem dX2_setRights_24 : decode cX2_setRights 24 = .ok (.iconst 2, 1) := by decide +kernel
theorem dX2_setRights_25 : decode cX2_setRights 25 = .ok (.goto 18, 3) := by decide +kernel
theorem dX2_setRights_28 : decode cX2_setRights 28 = .ok (.iload_n 2, 1) := by decide +kernel
theorem dX2_setRights_29 : decode cX2_setRights 29 = .ok (.iconst 0, 1) := by decide +kernel
theorem dX2_setRights_30 : decode cX2_setRights 30 = .ok (.bipush 7, 2) := by decide +kernel
theorem dX2_setRights_32 : decode cX2_setRights 32 = .ok (.invokestatic 26, 3) := by decide +kernel
theorem dX2_setRights_35 : decode cX2_setRights 35 = .ok (.ifCond .eq 7, 3) := by decide +kernel
theorem dX2_setRights_38 : decode cX2_setRights 38 = .ok (.iconst 0, 1) := by decide +kernel
theorem dX2_setRights_39 : decode cX2_setRights 39 = .ok (.goto 4, 3) := by decide +kernel
theorem dX2_setRights_42 : decode cX2_setRights 42 = .ok (.iconst 3, 1) := by decide +kernel
theorem dX2_setRights_43 : decode cX2_setRights 43 = .ok (.invokevirtual 42, 3) := by decide +kernel
theorem dX2_setRights_46 : decode cX2_setRights 46 = .ok (.ifCond .ne 5, 3) := by decide +kernel
theorem dX2_setRights_49 : decode cX2_setRights 49 = .ok (.iconst 0, 1) := by decide +kernel
theorem dX2_setRights_50 : decode cX2_setRights 50 = .ok (.ireturn, 1) := by decide +kernel
theorem dX2_setRights_51 : decode cX2_setRights 51 = .ok (.aload_n 0, 1) := by decide +kernel
theorem dX2_setRights_52 : decode cX2_setRights 52 = .ok (.getfield 13, 3) := by decide +kernel
theorem dX2_setRights_55 : decode cX2_setRights 55 = .ok (.iload_n 1, 1) := by decide +kernel
theorem dX2_setRights_56 : decode cX2_setRights 56 = .ok (.invokestatic 34, 3) := by decide +kernel
theorem dX2_setRights_59 : decode cX2_setRights 59 = .ok (.iaload, 1) := by decide +kernel
theorem dX2_setRights_60 : decode cX2_setRights 60 = .ok (.istore_n 3, 1) := by decide +kernel
theorem dX2_setRights_61 : decode cX2_setRights 61 = .ok (.aload_n 0, 1) := by decide +kernel
theorem dX2_setRights_62 : decode cX2_setRights 62 = .ok (.getfield 13, 3) := by decide +kernel
theorem dX2_setRights_65 : decode cX2_setRights 65 = .ok (.iload_n 1, 1) := by decide +kernel
theorem dX2_setRights_66 : decode cX2_setRights 66 = .ok (.invokestatic 34, 3) := by decide +kernel
theorem dX2_setRights_69 : decode cX2_setRights 69 = .ok (.iload_n 2, 1) := by decide +kernel
theorem dX2_setRights_70 : decode cX2_setRights 70 = .ok (.iastore, 1) := by decide +kernel
theorem dX2_setRights_71 : decode cX2_setRights 71 = .ok (.iload_n 3, 1) := by decide +kernel
theorem dX2_setRights_72 : decode cX2_setRights 72 = .ok (.ireturn, 1) := by decide +kernel
theorem dX2_areSameNumbers_0 : decode cX2_areSameNumbers 0 = .ok (.aload_n 0, 1) := by decide +kernel
theorem dX2_areSameNumbers_1 : decode cX2_areSameNumbers 1 = .ok (.getfield 16, 3) := by decide +kernel
theorem dX2_areSameNumbers_4 : decode cX2_areSameNumbers 4 = .ok (.iload_n 1, 1) := by decide +kernel
theorem dX2_areSameNumbers_5 : decode cX2_areSameNumbers 5 = .ok (.iaload, 1) := by decide +kernel
theorem dX2_areSameNumbers_6 : decode cX2_areSameNumbers 6 = .ok (.aload_n 0, 1) := by decide +kernel
theorem dX2_areSameNumbers_7 : decode cX2_areSameNumbers 7 = .ok (.getfield 16, 3) := by decide +kernel
theorem dX2_areSameNumbers_10 : decode cX2_areSameNumbers 10 = .ok (.iload_n 2, 1) := by decide +kernel
theorem dX2_areSameNumbers_11 : decode cX2_areSameNumbers 11 = .ok (.iaload, 1) := by decide +kernel
theorem dX2_areSameNumbers_12 : decode cX2_areSameNumbers 12 = .ok (.if_icmp .ne 7, 3) := by decide +kernel
theorem dX2_areSameNumbers_15 : decode cX2_areSameNumbers 15 = .ok (.iconst 1, 1) := by decide +kernel
theorem dX2_areSameNumbers_16 : decode cX2_areSameNumbers 16 = .ok (.goto 4, 3) := by decide +kernel
theorem dX2_areSameNumbers_19 : decode cX2_areSameNumbers 19 = .ok (.iconst 0, 1) := by decide +kernel
theorem dX2_areSameNumbers_20 : decode cX2_areSameNumbers 20 = .ok (.istore_n 3, 1) := by decide +kernel
theorem dX2_areSameNumbers_21 : decode cX2_areSameNumbers 21 = .ok (.iconst 0, 1) := by decide +kernel
theorem dX2_areSameNumbers_22 : decode cX2_areSameNumbers 22 = .ok (.istore 4, 2) := by decide +kernel
theorem dX2_areSameNumbers_24 : decode cX2_areSameNumbers 24 = .ok (.iload 4, 2) := by decide +kernel
theorem dX2_areSameNumbers_26 : decode cX2_areSameNumbers 26 = .ok (.aload_n 0, 1) := by decide +kernel
theorem dX2_areSameNumbers_27 : decode cX2_areSameNumbers 27 = .ok (.getfield 16, 3) := by decide +kernel
theorem dX2_areSameNumbers_30 : decode cX2_areSameNumbers 30 = .ok (.iload_n 1, 1) := by decide +kernel
theorem dX2_areSameNumbers_31 : decode cX2_areSameNumbers 31 = .ok (.iaload, 1) := by decide +kernel
theorem dX2_areSameNumbers_32 : decode cX2_areSameNumbers 32 = .ok (.if_icmp .ge 46, 3) := by decide +kernel
theorem dX2_areSameNumbers_35 : decode cX2_areSameNumbers 35 = .ok (.iload_n 3, 1) := by decide +kernel
theorem dX2_areSameNumbers_36 : decode cX2_areSameNumbers 36 = .ok (.ifCond .eq 42, 3) := by decide +kernel
theorem dX2_areSameNumbers_39 : decode cX2_areSameNumbers 39 = .ok (.aload_n 0, 1) := by decide +kernel
theorem dX2_areSameNumbers_40 : decode cX2_areSameNumbers 40 = .ok (.getfield 19, 3) := by decide +kernel
theorem dX2_areSameNumbers_43 : decode cX2_areSameNumbers 43 = .ok (.bipush 12, 2) := by decide +kernel
theorem dX2_areSameNumbers_45 : decode cX2_areSameNumbers 45 = .ok (.iload_n 1, 1) := by decide +kernel
theorem dX2_areSameNumbers_46 : decode cX2_areSameNumbers 46 = .ok (.imul, 1) := by decide +kernel
theorem dX2_areSameNumbers_47 : decode cX2_areSameNumbers 47 = .ok (.iload 4, 2) := by decide +kernel
theorem dX2_areSameNumbers_49 : decode cX2_areSameNumbers 49 = .ok (.iadd, 1) := by decide +kernel
theorem dX2_areSameNumbers_50 : decode cX2_areSameNumbers 50 = .ok (.iaload, 1) := by decide +kernel
theorem dX2_areSameNumbers_51 : decode cX2_areSameNumbers 51 = .ok (.aload_n 0, 1) := by decide +kernel
theorem dX2_areSameNumbers_52 : decode cX2_areSameNumbers 52 = .ok (.getfield 19, 3) := by decide +kernel
theorem dX2_areSameNumbers_55 : decode cX2_areSameNumbers 55 = .ok (.bipush 12, 2) := by decide +kernel
theorem dX2_areSameNumbers_57 : decode cX2_areSameNumbers 57 = .ok (.iload_n 2, 1) := by decide +kernel
theorem dX2_areSameNumbers_58 : decode cX2_areSameNumbers 58 = .ok (.imul, 1) := by decide +kernel
theorem dX2_areSameNumbers_59 : decode cX2_areSameNumbers 59 = .ok (.iload 4, 2) := by decide +kernel
theorem dX2_areSameNumbers_61 : decode cX2_areSameNumbers 61 = .ok (.iadd, 1) := by decide +kernel
theorem dX2_areSameNumbers_62 : decode cX2_areSameNumbers 62 = .ok (.iaload, 1) := by decide +kernel
theorem dX2_areSameNumbers_63 : decode cX2_areSameNumbers 63 = .ok (.if_icmp .ne 7, 3) := by decide +kernel
theorem dX2_areSameNumbers_66 : decode cX2_areSameNumbers 66 = .ok (.iconst 1, 1) := by decide +kernel
theorem dX2_areSameNumbers_67 : decode cX2_areSameNumbers 67 = .ok (.goto 4, 3) := by decide +kernel
theorem dX2_areSameNumbers_70 : decode cX2_areSameNumbers 70 = .ok (.iconst 0, 1) := by decide +kernel
theorem dX2_areSameNumbers_71 : decode cX2_areSameNumbers 71 = .ok (.istore_n 3, 1) := by decide +kernel
theorem dX2_areSameNumbers_72 : decode cX2_areSameNumbers 72 = .ok (.iinc 4 1, 3) := by decide +kernel
theorem dX2_areSameNumbers_75 : decode cX2_areSameNumbers 75 = .ok (.goto (-51), 3) := by decide +kernel
theorem dX2_areSameNumbers_78 : decode cX2_areSameNumbers 78 = .ok (.iload_n 3, 1) := by decide +kernel
theorem dX2_areSameNumbers_79 : decode cX2_areSameNumbers 79 = .ok (.ireturn, 1) := by decide +kernel
set_option maxRecDepth 20000 in
theorem ggX2_areSame_X2_areSameNumbers : GoodIn wsX2_areSame wsX2_areSameNumbers := goodIn_r _ [7, 8, 9, 10, 11, 12, 13, 14, 15, 16, 17, 18] (by decide +kernel) (by decide +kernel)
set_option maxRecDepth 20000 in
theorem gX2_areSame_X2_areSameNumbers : GoodIn wsX2_areSame (wsV RX2 48 RX2 yX2_areSameNumbers wsX2_areSameNumbers) := goodIn_app (goodIn_of _ (by decide +kernel)) ggX2_areSame_X2_areSameNumbers
theorem dX2_areSame_0 : decode cX2_areSame 0 = .ok (.aload_n 0, 1) := by decide +kernel
theorem dX2_areSame_1 : decode cX2_areSame 1 = .ok (.getfield 7, 3) := by decide +kernel
theorem dX2_areSame_4 : decode cX2_areSame 4 = .ok (.iload_n 1, 1) := by decide +kernel
theorem dX2_areSame_5 : decode cX2_areSame 5 = .ok (.iaload, 1) := by decide +kernel
theorem dX2_areSame_6 : decode cX2_areSame 6 = .ok (.aload_n 0, 1) := by decide +kernel
theorem dX2_areSame_7 : decode cX2_areSame 7 = .ok (.getfield 7, 3) := by decide +kernel
theorem dX2_areSame_10 : decode cX2_areSame 10 = .ok (.iload_n 2, 1) := by decide +kernel
theorem dX2_areSame_11 : decode cX2_areSame 11 = .ok (.iaload, 1) := by decide +kernel
theorem dX2_areSame_12 : decode cX2_areSame 12 = .ok (.if_icmp .ne 31, 3) := by decide +kernel
theorem dX2_areSame_15 : decode cX2_areSame 15 = .ok (.aload_n 0, 1) := by decide +kernel
theorem dX2_areSame_16 : decode cX2_areSame 16 = .ok (.getfield 13, 3) := by decide +kernel
theorem dX2_areSame_19 : decode cX2_areSame 19 = .ok (.iload_n 1, 1) := by decide +kernel
theorem dX2_areSame_20 : decode cX2_areSame 20 = .ok (.iaload, 1) := by decide +kernel
theorem dX2_areSame_21 : decode cX2_areSame 21 = .ok (.aload_n 0, 1) := by decide +kernel
theorem dX2_areSame_22 : decode cX2_areSame 22 = .ok (.getfield 13, 3) := by decide +kernel
theorem dX2_areSame_25 : decode cX2_areSame 25 = .ok (.iload_n 2, 1) := by decide +kernel
theorem dX2_areSame_26 : decode cX2_areSame 26 = .ok (.iaload, 1) := by decide +kernel
theorem dX2_areSame_27 : decode cX2_areSame 27 = .ok (.if_icmp .ne 16, 3) := by decide +kernel
theorem dX2_areSame_30 : decode cX2_areSame 30 = .ok (.aload_n 0, 1) := by decide +kernel
theorem dX2_areSame_31 : decode cX2_areSame 31 = .ok (.iload_n 1, 1) := by decide +kernel
theorem dX2_areSame_32 : decode cX2_areSame 32 = .ok (.iload_n 2, 1) := by decide +kernel
theorem dX2_areSame_33 : decode cX2_areSame 33 = .ok (.invokevirtual 48, 3) := by decide +kernel
theorem dX2_areSame_36 : decode cX2_areSame 36 = .ok (.ifCond .eq 7, 3) := by decide +kernel
theorem dX2_areSame_39 : decode cX2_areSame 39 = .ok (.iconst 1, 1) := by decide +kernel
theorem dX2_areSame_40 : decode cX2_areSame 40 = .ok (.goto 4, 3) := by decide +kernel
theorem dX2_areSame_43 : decode cX2_areSame 43 = .ok (.iconst 0, 1) := by decide +kernel
theorem dX2_areSame_44 : decode cX2_areSame 44 = .ok (.ireturn, 1) := by decide +kernel
set_option maxRecDepth 20000 in
theorem ggX2_differs_X2_at : GoodIn wsX2_differs wsX2_at := goodIn_r _ [4] (by decide +kernel) (by decide +kernel)
set_option maxRecDepth 20000 in
theorem gX2_differs_X2_at : GoodIn wsX2_differs (va_wsS RX2 30 yX2_at wsX2_at) := goodIn_app (goodIn_of _ (by decide +kernel)) ggX2_differs_X2_at
set_option maxRecDepth 20000 in
theorem ggX2_differs_X2_live : GoodIn wsX2_differs wsX2_live := goodIn_r _ [7, 1, 2, 3, 4] (by decide +kernel) (by decide +kernel)
set_option maxRecDepth 20000 in
theorem gX2_differs_X2_live : GoodIn wsX2_differs (va_wsS RX2 34 yX2_live wsX2_live) := goodIn_app (goodIn_of _ (by decide +kernel)) ggX2_differs_X2_live
set_option maxRecDepth 20000 in
theorem ggX2_differs_X2_areSame : GoodIn wsX2_differs wsX2_areSame := goodIn_r _ [11, 12, 13, 14, 15, 16, 3, 17, 18, 19, 20, 21, 22, 23, 24, 25, 26, 27, 28] (by decide +kernel) (by decide +kernel)
set_option maxRecDepth 20000 in
theorem gX2_differs_X2_areSame : GoodIn wsX2_differs (wsV RX2 52 RX2 yX2_areSame wsX2_areSame) := goodIn_app (goodIn_of _ (by decide +kernel)) ggX2_differs_X2_areSame
theorem dX2_differs_0 : decode cX2_differs 0 = .ok (.iconst 0, 1) := by decide +kernel
theorem dX2_differs_1 : decode cX2_differs 1 = .ok (.istore_n 2, 1) := by decide +kernel
theorem dX2_differs_2 : decode cX2_differs 2 = .ok (.iconst 0, 1) := by decide +kernel
theorem dX2_differs_3 : decode cX2_differs 3 = .ok (.istore_n 3, 1) := by decide +kernel
theorem dX2_differs_4 : decode cX2_differs 4 = .ok (.iload_n 3, 1) := by decide +kernel
theorem dX2_differs_5 : decode cX2_differs 5 = .ok (.bipush 6, 2) := by decide +kernel
theorem dX2_differs_7 : decode cX2_differs 7 = .ok (.if_icmp .ge 33, 3) := by decide +kernel
theorem dX2_differs_10 : decode cX2_differs 10 = .ok (.iload_n 2, 1) := by decide +kernel
theorem dX2_differs_11 : decode cX2_differs 11 = .ok (.aload_n 0, 1) := by decide +kernel
theorem dX2_differs_12 : decode cX2_differs 12 = .ok (.iload_n 1, 1) := by decide +kernel
theorem dX2_differs_13 : decode cX2_differs 13 = .ok (.iload_n 3, 1) := by decide +kernel
theorem dX2_differs_14 : decode cX2_differs 14 = .ok (.invokestatic 30, 3) := by decide +kernel
theorem dX2_differs_17 : decode cX2_differs 17 = .ok (.iload_n 3, 1) := by decide +kernel
theorem dX2_differs_18 : decode cX2_differs 18 = .ok (.invokestatic 34, 3) := by decide +kernel
theorem dX2_differs_21 : decode cX2_differs 21 = .ok (.invokevirtual 52, 3) := by decide +kernel
theorem dX2_differs_24 : decode cX2_differs 24 = .ok (.ifCond .eq 7, 3) := by decide +kernel
theorem dX2_differs_27 : decode cX2_differs 27 = .ok (.iconst 0, 1) := by decide +kernel
theorem dX2_differs_28 : decode cX2_differs 28 = .ok (.goto 4, 3) := by decide +kernel
theorem dX2_differs_31 : decode cX2_differs 31 = .ok (.iconst 1, 1) := by decide +kernel
theorem dX2_differs_32 : decode cX2_differs 32 = .ok (.iadd, 1) := by decide +kernel
theorem dX2_differs_33 : decode cX2_differs 33 = .ok (.istore_n 2, 1) := by decide +kernel
theorem dX2_differs_34 : decode cX2_differs 34 = .ok (.iinc 3 1, 3) := by decide +kernel
theorem dX2_differs_37 : decode cX2_differs 37 = .ok (.goto (-33), 3) := by decide +kernel
theorem dX2_differs_40 : decode cX2_differs 40 = .ok (.iload_n 2, 1) := by decide +kernel
theorem dX2_differs_41 : decode cX2_differs 41 = .ok (.ireturn, 1) := by decide +kernel
set_option maxRecDepth 20000 in
theorem ggX2_copies_X2_at : GoodIn wsX2_copies wsX2_at := goodIn_r _ [8] (by decide +kernel) (by decide +kernel)
set_option maxRecDepth 20000 in
theorem gX2_copies_X2_at : GoodIn wsX2_copies (va_wsS RX2 30 yX2_at wsX2_at) := goodIn_app (goodIn_of _ (by decide +kernel)) ggX2_copies_X2_at
theorem dX2_copies_0 : decode cX2_copies 0 = .ok (.iconst 0, 1) := by decide +kernel
theorem dX2_copies_1 : decode cX2_copies 1 = .ok (.istore_n 3, 1) := by decide +kernel
theorem dX2_copies_2 : decode cX2_copies 2 = .ok (.iload_n 3, 1) := by decide +kernel
theorem dX2_copies_3 : decode cX2_copies 3 = .ok (.bipush 6, 2) := by decide +kernel
theorem dX2_copies_5 : decode cX2_copies 5 = .ok (.if_icmp .ge 107, 3) := by decide +kernel
theorem dX2_copies_8 : decode cX2_copies 8 = .ok (.iload_n 1, 1) := by decide +kernel
theorem dX2_copies_9 : decode cX2_copies 9 = .ok (.iload_n 3, 1) := by decide +kernel
theorem dX2_copies_10 : decode cX2_copies 10 = .ok (.invokestatic 30, 3) := by decide +kernel
theorem dX2_copies_13 : decode cX2_copies 13 = .ok (.istore 4, 2) := by decide +kernel
theorem dX2_copies_15 : decode cX2_copies 15 = .ok (.iload_n 2, 1) := by decide +kernel
theorem dX2_copies_16 : decode cX2_copies 16 = .ok (.iload_n 3, 1) := by decide +kernel
theorem dX2_copies_17 : decode cX2_copies 17 = .ok (.invokestatic 30, 3) := by decide +kernel
theorem dX2_copies_20 : decode cX2_copies 20 = .ok (.istore 5, 2) := by decide +kernel
theorem dX2_copies_22 : decode cX2_copies 22 = .ok (.aload_n 0, 1) := by decide +kernel
theorem dX2_copies_23 : decode cX2_copies 23 = .ok (.getfield 7, 3) := by decide +kernel
theorem dX2_copies_26 : decode cX2_copies 26 = .ok (.iload 5, 2) := by decide +kernel
theorem dX2_copies_28 : decode cX2_copies 28 = .ok (.aload_n 0, 1) := by decide +kernel
theorem dX2_copies_29 : decode cX2_copies 29 = .ok (.getfield 7, 3) := by decide +kernel
theorem dX2_copies_32 : decode cX2_copies 32 = .ok (.iload 4, 2) := by decide +kernel
theorem dX2_copies_34 : decode cX2_copies 34 = .ok (.iaload, 1) := by decide +kernel
theorem dX2_copies_35 : decode cX2_copies 35 = .ok (.iastore, 1) := by decide +kernel
theorem dX2_copies_36 : decode cX2_copies 36 = .ok (.aload_n 0, 1) := by decide +kernel
theorem dX2_copies_37 : decode cX2_copies 37 = .ok (.getfield 13, 3) := by decide +kernel
theorem dX2_copies_40 : decode cX2_copies 40 = .ok (.iload 5, 2) := by decide +kernel
theorem dX2_copies_42 : decode cX2_copies 42 = .ok (.aload_n 0, 1) := by decide +kernel
theorem dX2_copies_43 : decode cX2_copies 43 = .ok (.getfield 13, 3) := by decide +kernel
theorem dX2_copies_46 : decode cX2_copies 46 = .ok (.iload 4, 2) := by decide +kernel
theorem dX2_copies_48 : decode cX2_copies 48 = .ok (.iaload, 1) := by decide +kernel
theorem dX2_copies_49 : decode cX2_copies 49 = .ok (.iastore, 1) := by decide +kernel
theorem dX2_copies_50 : decode cX2_copies 50 = .ok (.aload_n 0, 1) := by decide +kernel
theorem dX2_copies_51 : decode cX2_copies 51 = .ok (.getfield 16, 3) := by decide +kernel
theorem dX2_copies_54 : decode cX2_copies 54 = .ok (.iload 5, 2) := by decide +kernel
theorem dX2_copies_56 : decode cX2_copies 56 = .ok (.aload_n 0, 1) := by decide +kernel
theorem dX2_copies_57 : decode cX2_copies 57 = .ok (.getfield 16, 3) := by decide +kernel
theorem dX2_copies_60 : decode cX2_copies 60 = .ok (.iload 4, 2) := by decide +kernel
theorem dX2_copies_62 : decode cX2_copies 62 = .ok (.iaload, 1) := by decide +kernel
theorem dX2_copies_63 : decode cX2_copies 63 = .ok (.iastore, 1) := by decide +kernel
theorem dX2_copies_64 : decode cX2_copies 64 = .ok (.iconst 0, 1) := by decide +kernel
theorem dX2_copies_65 : decode cX2_copies 65 = .ok (.istore 6, 2) := by decide +kernel
theorem dX2_copies_67 : decode cX2_copies 67 = .ok (.iload 6, 2) := by decide +kernel
theorem dX2_copies_69 : decode cX2_copies 69 = .ok (.bipush 12, 2) := by decide +kernel
theorem dX2_copies_71 : decode cX2_copies 71 = .ok (.if_icmp .ge 35, 3) := by decide +kernel
theorem dX2_copies_74 : decode cX2_copies 74 = .ok (.aload_n 0, 1) := by decide +kernel
theorem dX2_copies_75 : decode cX2_copies 75 = .ok (.getfield 19, 3) := by decide +kernel
theorem dX2_copies_78 : decode cX2_copies 78 = .ok (.bipush 12, 2) := by decide +kernel
theorem dX2_copies_80 : decode cX2_copies 80 = .ok (.iload 5, 2) := by decide +kernel
theorem dX2_copies_82 : decode cX2_copies 82 = .ok (.imul, 1) := by decide +kernel
theorem dX2_copies_83 : decode cX2_copies 83 = .ok (.iload 6, 2) := by decide +kernel
theorem dX2_copies_85 : decode cX2_copies 85 = .ok (.iadd, 1) := by decide +kernel
theorem dX2_copies_86 : decode cX2_copies 86 = .ok (.aload_n 0, 1) := by decide +kernel
theorem dX2_copies_87 : decode cX2_copies 87 = .ok (.getfield 19, 3) := by decide +kernel
theorem dX2_copies_90 : decode cX2_copies 90 = .ok (.bipush 12, 2) := by decide +kernel
theorem dX2_copies_92 : decode cX2_copies 92 = .ok (.iload 4, 2) := by decide +kernel
theorem dX2_copies_94 : decode cX2_copies 94 = .ok (.imul, 1) := by decide +kernel
theorem dX2_copies_95 : decode cX2_copies 95 = .ok (.iload 6, 2) := by decide +kernel
theorem dX2_copies_97 : decode cX2_copies 97 = .ok (.iadd, 1) := by decide +kernel
theorem dX2_copies_98 : decode cX2_copies 98 = .ok (.iaload, 1) := by decide +kernel
theorem dX2_copies_99 : decode cX2_copies 99 = .ok (.iastore, 1) := by decide +kernel
theorem dX2_copies_100 : decode cX2_copies 100 = .ok (.iinc 6 1, 3) := by decide +kernel
theorem dX2_copies_103 : decode cX2_copies 103 = .ok (.goto (-36), 3) := by decide +kernel
theorem dX2_copies_106 : decode cX2_copies 106 = .ok (.iinc 3 1, 3) := by decide +kernel
theorem dX2_copies_109 : decode cX2_copies 109 = .ok (.goto (-107), 3) := by decide +kernel
theorem dX2_copies_112 : decode cX2_copies 112 = .ok (.return_, 1) := by decide +kernel
theorem dX2_mends_0 : decode cX2_mends 0 = .ok (.aload_n 0, 1) := by decide +kernel
theorem dX2_mends_1 : decode cX2_mends 1 = .ok (.getfield 55, 3) := by decide +kernel
theorem dX2_mends_4 : decode cX2_mends 4 = .ok (.ifCond .eq 10, 3) := by decide +kernel
theorem dX2_mends_7 : decode cX2_mends 7 = .ok (.aload_n 0, 1) := by decide +kernel
theorem dX2_mends_8 : decode cX2_mends 8 = .ok (.getfield 59, 3) := by decide +kernel
theorem dX2_mends_11 : decode cX2_mends 11 = .ok (.goto 4, 3) := by decide +kernel
theorem dX2_mends_14 : decode cX2_mends 14 = .ok (.iconst 0, 1) := by decide +kernel
theorem dX2_mends_15 : decode cX2_mends 15 = .ok (.istore_n 1, 1) := by decide +kernel
theorem dX2_mends_16 : decode cX2_mends 16 = .ok (.aload_n 0, 1) := by decide +kernel
theorem dX2_mends_17 : decode cX2_mends 17 = .ok (.iconst 0, 1) := by decide +kernel
theorem dX2_mends_18 : decode cX2_mends 18 = .ok (.putfield 55, 3) := by decide +kernel
theorem dX2_mends_21 : decode cX2_mends 21 = .ok (.aload_n 0, 1) := by decide +kernel
theorem dX2_mends_22 : decode cX2_mends 22 = .ok (.iconst 0, 1) := by decide +kernel
theorem dX2_mends_23 : decode cX2_mends 23 = .ok (.putfield 59, 3) := by decide +kernel
theorem dX2_mends_26 : decode cX2_mends 26 = .ok (.iload_n 1, 1) := by decide +kernel
theorem dX2_mends_27 : decode cX2_mends 27 = .ok (.ireturn, 1) := by decide +kernel
set_option maxRecDepth 20000 in
theorem ggX2_run_X2_isIn : GoodIn wsX2_run wsX2_isIn := goodIn_r _ [7] (by decide +kernel) (by decide +kernel)
set_option maxRecDepth 20000 in
theorem gX2_run_X2_isIn : GoodIn wsX2_run (va_wsS RX2 26 yX2_isIn wsX2_isIn) := goodIn_app (goodIn_of _ (by decide +kernel)) ggX2_run_X2_isIn
set_option maxRecDepth 20000 in
theorem ggX2_run_X2_goes : GoodIn wsX2_run wsX2_goes := goodIn_r _ [11, 12, 43, 44, 45, 46, 47, 48, 49, 50, 51] (by decide +kernel) (by decide +kernel)
set_option maxRecDepth 20000 in
theorem gX2_run_X2_goes : GoodIn wsX2_run (wsV RX2 42 RX2 yX2_goes wsX2_goes) := goodIn_app (goodIn_of _ (by decide +kernel)) ggX2_run_X2_goes
set_option maxRecDepth 20000 in
theorem ggX2_run_X2_mends : GoodIn wsX2_run wsX2_mends := goodIn_r _ [16, 2, 3, 43, 44, 45, 46, 47, 48, 49, 50, 51] (by decide +kernel) (by decide +kernel)
set_option maxRecDepth 20000 in
theorem gX2_run_X2_mends : GoodIn wsX2_run (wsV RX2 65 RX2 yX2_mends wsX2_mends) := goodIn_app (goodIn_of _ (by decide +kernel)) ggX2_run_X2_mends
set_option maxRecDepth 20000 in
theorem ggX2_run_X2_differs : GoodIn wsX2_run wsX2_differs := goodIn_r _ [20, 21, 22, 6, 23, 24, 25, 26, 27, 28, 29, 30, 31, 32, 33, 34, 35, 36, 37, 38, 43, 44, 45, 46, 47, 48, 49, 50, 51] (by decide +kernel) (by decide +kernel)
set_option maxRecDepth 20000 in
theorem gX2_run_X2_differs : GoodIn wsX2_run (wsV RX2 69 RX2 yX2_differs wsX2_differs) := goodIn_app (goodIn_of _ (by decide +kernel)) ggX2_run_X2_differs
set_option maxRecDepth 20000 in
theorem ggX2_run_X2_copies : GoodIn wsX2_run wsX2_copies := goodIn_r _ [42, 31, 32, 37, 38, 21, 22, 6, 23, 43, 44, 45, 46, 47, 48, 49, 50, 51] (by decide +kernel) (by decide +kernel)
set_option maxRecDepth 20000 in
theorem gX2_run_X2_copies : GoodIn wsX2_run (wsV RX2 72 RX2 yX2_copies wsX2_copies) := goodIn_app (goodIn_of _ (by decide +kernel)) ggX2_run_X2_copies
theorem dX2_run_0 : decode cX2_run 0 = .ok (.aload_n 0, 1) := by decide +kernel
theorem dX2_run_1 : decode cX2_run 1 = .ok (.iload_n 1, 1) := by decide +kernel
theorem dX2_run_2 : decode cX2_run 2 = .ok (.iconst 0, 1) := by decide +kernel
theorem dX2_run_3 : decode cX2_run 3 = .ok (.bipush 6, 2) := by decide +kernel
theorem dX2_run_5 : decode cX2_run 5 = .ok (.invokestatic 26, 3) := by decide +kernel
theorem dX2_run_8 : decode cX2_run 8 = .ok (.ifCond .ne 7, 3) := by decide +kernel
theorem dX2_run_11 : decode cX2_run 11 = .ok (.iconst 1, 1) := by decide +kernel
theorem dX2_run_12 : decode cX2_run 12 = .ok (.goto 17, 3) := by decide +kernel
theorem dX2_run_15 : decode cX2_run 15 = .ok (.aload_n 0, 1) := by decide +kernel
theorem dX2_run_16 : decode cX2_run 16 = .ok (.getfield 62, 3) := by decide +kernel
theorem dX2_run_19 : decode cX2_run 19 = .ok (.bipush 40, 2) := by decide +kernel
theorem dX2_run_21 : decode cX2_run 21 = .ok (.if_icmp .ne 7, 3) := by decide +kernel
theorem dX2_run_24 : decode cX2_run 24 = .ok (.iconst 2, 1) := by decide +kernel
theorem dX2_run_25 : decode cX2_run 25 = .ok (.goto 4, 3) := by decide +kernel
theorem dX2_run_28 : decode cX2_run 28 = .ok (.iconst 0, 1) := by decide +kernel
theorem dX2_run_29 : decode cX2_run 29 = .ok (.invokevirtual 42, 3) := by decide +kernel
theorem dX2_run_32 : decode cX2_run 32 = .ok (.ifCond .ne 5, 3) := by decide +kernel
theorem dX2_run_35 : decode cX2_run 35 = .ok (.iconst 0, 1) := by decide +kernel
theorem dX2_run_36 : decode cX2_run 36 = .ok (.ireturn, 1) := by decide +kernel
theorem dX2_run_37 : decode cX2_run 37 = .ok (.aload_n 0, 1) := by decide +kernel
theorem dX2_run_38 : decode cX2_run 38 = .ok (.invokevirtual 65, 3) := by decide +kernel
theorem dX2_run_41 : decode cX2_run 41 = .ok (.pop, 1) := by decide +kernel
theorem dX2_run_42 : decode cX2_run 42 = .ok (.iload_n 1, 1) := by decide +kernel
theorem dX2_run_43 : decode cX2_run 43 = .ok (.aload_n 0, 1) := by decide +kernel
theorem dX2_run_44 : decode cX2_run 44 = .ok (.aload_n 0, 1) := by decide +kernel
theorem dX2_run_45 : decode cX2_run 45 = .ok (.getfield 62, 3) := by decide +kernel
theorem dX2_run_48 : decode cX2_run 48 = .ok (.invokevirtual 69, 3) := by decide +kernel
theorem dX2_run_51 : decode cX2_run 51 = .ok (.if_icmp .ge 15, 3) := by decide +kernel
theorem dX2_run_54 : decode cX2_run 54 = .ok (.aload_n 0, 1) := by decide +kernel
theorem dX2_run_55 : decode cX2_run 55 = .ok (.iconst 1, 1) := by decide +kernel
theorem dX2_run_56 : decode cX2_run 56 = .ok (.putfield 55, 3) := by decide +kernel
theorem dX2_run_59 : decode cX2_run 59 = .ok (.aload_n 0, 1) := by decide +kernel
theorem dX2_run_60 : decode cX2_run 60 = .ok (.iload_n 1, 1) := by decide +kernel
theorem dX2_run_61 : decode cX2_run 61 = .ok (.putfield 59, 3) := by decide +kernel
theorem dX2_run_64 : decode cX2_run 64 = .ok (.iconst (-1), 1) := by decide +kernel
theorem dX2_run_65 : decode cX2_run 65 = .ok (.ireturn, 1) := by decide +kernel
theorem dX2_run_66 : decode cX2_run 66 = .ok (.aload_n 0, 1) := by decide +kernel
theorem dX2_run_67 : decode cX2_run 67 = .ok (.dup, 1) := by decide +kernel
theorem dX2_run_68 : decode cX2_run 68 = .ok (.getfield 62, 3) := by decide +kernel
theorem dX2_run_71 : decode cX2_run 71 = .ok (.iconst 1, 1) := by decide +kernel
theorem dX2_run_72 : decode cX2_run 72 = .ok (.iadd, 1) := by decide +kernel
theorem dX2_run_73 : decode cX2_run 73 = .ok (.putfield 62, 3) := by decide +kernel
theorem dX2_run_76 : decode cX2_run 76 = .ok (.aload_n 0, 1) := by decide +kernel
theorem dX2_run_77 : decode cX2_run 77 = .ok (.bipush 41, 2) := by decide +kernel
theorem dX2_run_79 : decode cX2_run 79 = .ok (.aload_n 0, 1) := by decide +kernel
theorem dX2_run_80 : decode cX2_run 80 = .ok (.getfield 62, 3) := by decide +kernel
theorem dX2_run_83 : decode cX2_run 83 = .ok (.invokevirtual 72, 3) := by decide +kernel
theorem dX2_run_86 : decode cX2_run 86 = .ok (.aload_n 0, 1) := by decide +kernel
theorem dX2_run_87 : decode cX2_run 87 = .ok (.getfield 62, 3) := by decide +kernel
theorem dX2_run_90 : decode cX2_run 90 = .ok (.ireturn, 1) := by decide +kernel
set_option maxRecDepth 20000 in
theorem ggX2_mend_X2_mends : GoodIn wsX2_mend wsX2_mends := goodIn_r _ [6, 7, 8, 9, 10, 11, 12, 13, 14, 15, 16, 17] (by decide +kernel) (by decide +kernel)
set_option maxRecDepth 20000 in
theorem gX2_mend_X2_mends : GoodIn wsX2_mend (wsV RX2 65 RX2 yX2_mends wsX2_mends) := goodIn_app (goodIn_of _ (by decide +kernel)) ggX2_mend_X2_mends
theorem dX2_mend_0 : decode cX2_mend 0 = .ok (.aload_n 0, 1) := by decide +kernel
theorem dX2_mend_1 : decode cX2_mend 1 = .ok (.iconst 0, 1) := by decide +kernel
theorem dX2_mend_2 : decode cX2_mend 2 = .ok (.putfield 22, 3) := by decide +kernel
theorem dX2_mend_5 : decode cX2_mend 5 = .ok (.aload_n 0, 1) := by decide +kernel
theorem dX2_mend_6 : decode cX2_mend 6 = .ok (.invokevirtual 65, 3) := by decide +kernel
theorem dX2_mend_9 : decode cX2_mend 9 = .ok (.ireturn, 1) := by decide +kernel
set_option maxRecDepth 20000 in
theorem ggX2_thin_X2_isIn : GoodIn wsX2_thin wsX2_isIn := goodIn_r _ [6] (by decide +kernel) (by decide +kernel)
set_option maxRecDepth 20000 in
theorem gX2_thin_X2_isIn : GoodIn wsX2_thin (va_wsS RX2 26 yX2_isIn wsX2_isIn) := goodIn_app (goodIn_of _ (by decide +kernel)) ggX2_thin_X2_isIn
set_option maxRecDepth 20000 in
theorem ggX2_thin_X2_goes : GoodIn wsX2_thin wsX2_goes := goodIn_r _ [10, 11, 18, 19, 20, 21, 22, 23, 24, 25, 26] (by decide +kernel) (by decide +kernel)
set_option maxRecDepth 20000 in
theorem gX2_thin_X2_goes : GoodIn wsX2_thin (wsV RX2 42 RX2 yX2_goes wsX2_goes) := goodIn_app (goodIn_of _ (by decide +kernel)) ggX2_thin_X2_goes
set_option maxRecDepth 20000 in
theorem ggX2_thin_X2_mends : GoodIn wsX2_thin wsX2_mends := goodIn_r _ [15, 16, 17, 18, 19, 20, 21, 22, 23, 24, 25, 26] (by decide +kernel) (by decide +kernel)
set_option maxRecDepth 20000 in
theorem gX2_thin_X2_mends : GoodIn wsX2_thin (wsV RX2 65 RX2 yX2_mends wsX2_mends) := goodIn_app (goodIn_of _ (by decide +kernel)) ggX2_thin_X2_mends
theorem dX2_thin_0 : decode cX2_thin 0 = .ok (.aload_n 0, 1) := by decide +kernel
theorem dX2_thin_1 : decode cX2_thin 1 = .ok (.iload_n 1, 1) := by decide +kernel
theorem dX2_thin_2 : decode cX2_thin 2 = .ok (.iconst 1, 1) := by decide +kernel
theorem dX2_thin_3 : decode cX2_thin 3 = .ok (.bipush 40, 2) := by decide +kernel
theorem dX2_thin_5 : decode cX2_thin 5 = .ok (.invokestatic 26, 3) := by decide +kernel
theorem dX2_thin_8 : decode cX2_thin 8 = .ok (.ifCond .ne 7, 3) := by decide +kernel
theorem dX2_thin_11 : decode cX2_thin 11 = .ok (.iconst 1, 1) := by decide +kernel
theorem dX2_thin_12 : decode cX2_thin 12 = .ok (.goto 21, 3) := by decide +kernel
theorem dX2_thin_15 : decode cX2_thin 15 = .ok (.aload_n 0, 1) := by decide +kernel
theorem dX2_thin_16 : decode cX2_thin 16 = .ok (.getfield 76, 3) := by decide +kernel
theorem dX2_thin_19 : decode cX2_thin 19 = .ok (.iload_n 1, 1) := by decide +kernel
theorem dX2_thin_20 : decode cX2_thin 20 = .ok (.iadd, 1) := by decide +kernel
theorem dX2_thin_21 : decode cX2_thin 21 = .ok (.aload_n 0, 1) := by decide +kernel
theorem dX2_thin_22 : decode cX2_thin 22 = .ok (.getfield 62, 3) := by decide +kernel
theorem dX2_thin_25 : decode cX2_thin 25 = .ok (.if_icmp .le 7, 3) := by decide +kernel
theorem dX2_thin_28 : decode cX2_thin 28 = .ok (.iconst 2, 1) := by decide +kernel
theorem dX2_thin_29 : decode cX2_thin 29 = .ok (.goto 4, 3) := by decide +kernel
theorem dX2_thin_32 : decode cX2_thin 32 = .ok (.iconst 0, 1) := by decide +kernel
theorem dX2_thin_33 : decode cX2_thin 33 = .ok (.invokevirtual 42, 3) := by decide +kernel
theorem dX2_thin_36 : decode cX2_thin 36 = .ok (.ifCond .ne 5, 3) := by decide +kernel
theorem dX2_thin_39 : decode cX2_thin 39 = .ok (.iconst 0, 1) := by decide +kernel
theorem dX2_thin_40 : decode cX2_thin 40 = .ok (.ireturn, 1) := by decide +kernel
theorem dX2_thin_41 : decode cX2_thin 41 = .ok (.aload_n 0, 1) := by decide +kernel
theorem dX2_thin_42 : decode cX2_thin 42 = .ok (.invokevirtual 65, 3) := by decide +kernel
theorem dX2_thin_45 : decode cX2_thin 45 = .ok (.pop, 1) := by decide +kernel
theorem dX2_thin_46 : decode cX2_thin 46 = .ok (.aload_n 0, 1) := by decide +kernel
theorem dX2_thin_47 : decode cX2_thin 47 = .ok (.dup, 1) := by decide +kernel
theorem dX2_thin_48 : decode cX2_thin 48 = .ok (.getfield 76, 3) := by decide +kernel
theorem dX2_thin_51 : decode cX2_thin 51 = .ok (.iload_n 1, 1) := by decide +kernel
theorem dX2_thin_52 : decode cX2_thin 52 = .ok (.iadd, 1) := by decide +kernel
theorem dX2_thin_53 : decode cX2_thin 53 = .ok (.putfield 76, 3) := by decide +kernel
theorem dX2_thin_56 : decode cX2_thin 56 = .ok (.aload_n 0, 1) := by decide +kernel
theorem dX2_thin_57 : decode cX2_thin 57 = .ok (.getfield 76, 3) := by decide +kernel
theorem dX2_thin_60 : decode cX2_thin 60 = .ok (.ireturn, 1) := by decide +kernel
set_option maxRecDepth 20000 in
theorem ggX2_isKept_X2_isIn : GoodIn wsX2_isKept wsX2_isIn := goodIn_r _ [6] (by decide +kernel) (by decide +kernel)
set_option maxRecDepth 20000 in
theorem gX2_isKept_X2_isIn : GoodIn wsX2_isKept (va_wsS RX2 26 yX2_isIn wsX2_isIn) := goodIn_app (goodIn_of _ (by decide +kernel)) ggX2_isKept_X2_isIn
theorem dX2_isKept_0 : decode cX2_isKept 0 = .ok (.iload_n 1, 1) := by decide +kernel
theorem dX2_isKept_1 : decode cX2_isKept 1 = .ok (.aload_n 0, 1) := by decide +kernel
theorem dX2_isKept_2 : decode cX2_isKept 2 = .ok (.getfield 76, 3) := by decide +kernel
theorem dX2_isKept_5 : decode cX2_isKept 5 = .ok (.aload_n 0, 1) := by decide +kernel
theorem dX2_isKept_6 : decode cX2_isKept 6 = .ok (.getfield 62, 3) := by decide +kernel
theorem dX2_isKept_9 : decode cX2_isKept 9 = .ok (.invokestatic 26, 3) := by decide +kernel
theorem dX2_isKept_12 : decode cX2_isKept 12 = .ok (.ireturn, 1) := by decide +kernel
set_option maxRecDepth 20000 in
theorem ggX2_restore_X2_isKept : GoodIn wsX2_restore wsX2_isKept := goodIn_r _ [5, 6, 7, 8, 9, 4, 10, 48, 49, 50, 51, 52, 53, 54, 55, 56] (by decide +kernel) (by decide +kernel)
set_option maxRecDepth 20000 in
theorem gX2_restore_X2_isKept : GoodIn wsX2_restore (wsV RX2 79 RX2 yX2_isKept wsX2_isKept) := goodIn_app (goodIn_of _ (by decide +kernel)) ggX2_restore_X2_isKept
set_option maxRecDepth 20000 in
theorem ggX2_restore_X2_goes : GoodIn wsX2_restore wsX2_goes := goodIn_r _ [14, 15, 48, 49, 50, 51, 52, 53, 54, 55, 56] (by decide +kernel) (by decide +kernel)
set_option maxRecDepth 20000 in
theorem gX2_restore_X2_goes : GoodIn wsX2_restore (wsV RX2 42 RX2 yX2_goes wsX2_goes) := goodIn_app (goodIn_of _ (by decide +kernel)) ggX2_restore_X2_goes
set_option maxRecDepth 20000 in
theorem ggX2_restore_X2_mends : GoodIn wsX2_restore wsX2_mends := goodIn_r _ [19, 20, 21, 48, 49, 50, 51, 52, 53, 54, 55, 56] (by decide +kernel) (by decide +kernel)
set_option maxRecDepth 20000 in
theorem gX2_restore_X2_mends : GoodIn wsX2_restore (wsV RX2 65 RX2 yX2_mends wsX2_mends) := goodIn_app (goodIn_of _ (by decide +kernel)) ggX2_restore_X2_mends
set_option maxRecDepth 20000 in
theorem ggX2_restore_X2_differs : GoodIn wsX2_restore wsX2_differs := goodIn_r _ [25, 26, 27, 4, 28, 29, 30, 31, 32, 33, 34, 35, 36, 37, 38, 39, 40, 41, 42, 43, 48, 49, 50, 51, 52, 53, 54, 55, 56] (by decide +kernel) (by decide +kernel)
set_option maxRecDepth 20000 in
theorem gX2_restore_X2_differs : GoodIn wsX2_restore (wsV RX2 69 RX2 yX2_differs wsX2_differs) := goodIn_app (goodIn_of _ (by decide +kernel)) ggX2_restore_X2_differs
set_option maxRecDepth 20000 in
theorem ggX2_restore_X2_copies : GoodIn wsX2_restore wsX2_copies := goodIn_r _ [47, 36, 37, 42, 43, 26, 27, 4, 28, 48, 49, 50, 51, 52, 53, 54, 55, 56] (by decide +kernel) (by decide +kernel)
set_option maxRecDepth 20000 in
theorem gX2_restore_X2_copies : GoodIn wsX2_restore (wsV RX2 72 RX2 yX2_copies wsX2_copies) := goodIn_app (goodIn_of _ (by decide +kernel)) ggX2_restore_X2_copies
theorem dX2_restore_0 : decode cX2_restore 0 = .ok (.aload_n 0, 1) := by decide +kernel
theorem dX2_restore_1 : decode cX2_restore 1 = .ok (.aload_n 0, 1) := by decide +kernel
theorem dX2_restore_2 : decode cX2_restore 2 = .ok (.iload_n 1, 1) := by decide +kernel
theorem dX2_restore_3 : decode cX2_restore 3 = .ok (.invokevirtual 79, 3) := by decide +kernel
theorem dX2_restore_6 : decode cX2_restore 6 = .ok (.ifCond .eq 7, 3) := by decide +kernel
theorem dX2_restore_9 : decode cX2_restore 9 = .ok (.iconst 0, 1) := by decide +kernel
theorem dX2_restore_10 : decode cX2_restore 10 = .ok (.goto 4, 3) := by decide +kernel
theorem dX2_restore_13 : decode cX2_restore 13 = .ok (.iconst 1, 1) := by decide +kernel
theorem dX2_restore_14 : decode cX2_restore 14 = .ok (.invokevirtual 42, 3) := by decide +kernel
theorem dX2_restore_17 : decode cX2_restore 17 = .ok (.ifCond .ne 5, 3) := by decide +kernel
theorem dX2_restore_20 : decode cX2_restore 20 = .ok (.iconst 0, 1) := by decide +kernel
theorem dX2_restore_21 : decode cX2_restore 21 = .ok (.ireturn, 1) := by decide +kernel
theorem dX2_restore_22 : decode cX2_restore 22 = .ok (.aload_n 0, 1) := by decide +kernel
theorem dX2_restore_23 : decode cX2_restore 23 = .ok (.invokevirtual 65, 3) := by decide +kernel
theorem dX2_restore_26 : decode cX2_restore 26 = .ok (.pop, 1) := by decide +kernel
theorem dX2_restore_27 : decode cX2_restore 27 = .ok (.aload_n 0, 1) := by decide +kernel
theorem dX2_restore_28 : decode cX2_restore 28 = .ok (.iload_n 1, 1) := by decide +kernel
theorem dX2_restore_29 : decode cX2_restore 29 = .ok (.invokevirtual 69, 3) := by decide +kernel
theorem dX2_restore_32 : decode cX2_restore 32 = .ok (.istore_n 2, 1) := by decide +kernel
theorem dX2_restore_33 : decode cX2_restore 33 = .ok (.aload_n 0, 1) := by decide +kernel
theorem dX2_restore_34 : decode cX2_restore 34 = .ok (.iload_n 1, 1) := by decide +kernel
theorem dX2_restore_35 : decode cX2_restore 35 = .ok (.bipush 41, 2) := by decide +kernel
theorem dX2_restore_37 : decode cX2_restore 37 = .ok (.invokevirtual 72, 3) := by decide +kernel
theorem dX2_restore_40 : decode cX2_restore 40 = .ok (.iload_n 2, 1) := by decide +kernel
theorem dX2_restore_41 : decode cX2_restore 41 = .ok (.ireturn, 1) := by decide +kernel
theorem dX2_last_0 : decode cX2_last 0 = .ok (.aload_n 0, 1) := by decide +kernel
theorem dX2_last_1 : decode cX2_last 1 = .ok (.iconst 0, 1) := by decide +kernel
theorem dX2_last_2 : decode cX2_last 2 = .ok (.putfield 22, 3) := by decide +kernel
theorem dX2_last_5 : decode cX2_last 5 = .ok (.aload_n 0, 1) := by decide +kernel
theorem dX2_last_6 : decode cX2_last 6 = .ok (.getfield 62, 3) := by decide +kernel
theorem dX2_last_9 : decode cX2_last 9 = .ok (.ireturn, 1) := by decide +kernel
theorem dX2_oldest_0 : decode cX2_oldest 0 = .ok (.aload_n 0, 1) := by decide +kernel
theorem dX2_oldest_1 : decode cX2_oldest 1 = .ok (.iconst 0, 1) := by decide +kernel
theorem dX2_oldest_2 : decode cX2_oldest 2 = .ok (.putfield 22, 3) := by decide +kernel
theorem dX2_oldest_5 : decode cX2_oldest 5 = .ok (.aload_n 0, 1) := by decide +kernel
theorem dX2_oldest_6 : decode cX2_oldest 6 = .ok (.getfield 76, 3) := by decide +kernel
theorem dX2_oldest_9 : decode cX2_oldest 9 = .ok (.ireturn, 1) := by decide +kernel
theorem dX2_isBroken_0 : decode cX2_isBroken 0 = .ok (.aload_n 0, 1) := by decide +kernel
theorem dX2_isBroken_1 : decode cX2_isBroken 1 = .ok (.iconst 0, 1) := by decide +kernel
theorem dX2_isBroken_2 : decode cX2_isBroken 2 = .ok (.putfield 22, 3) := by decide +kernel
theorem dX2_isBroken_5 : decode cX2_isBroken 5 = .ok (.aload_n 0, 1) := by decide +kernel
theorem dX2_isBroken_6 : decode cX2_isBroken 6 = .ok (.getfield 55, 3) := by decide +kernel
theorem dX2_isBroken_9 : decode cX2_isBroken 9 = .ok (.ireturn, 1) := by decide +kernel
set_option maxRecDepth 20000 in
theorem ggX2_needs_X2_differs : GoodIn wsX2_needs wsX2_differs := goodIn_r _ [7, 8, 9, 6, 10, 11, 12, 13, 14, 15, 16, 17, 18, 19, 20, 21, 22, 23, 24, 25, 26, 27, 28, 29, 30, 31, 32, 33, 34] (by decide +kernel) (by decide +kernel)
set_option maxRecDepth 20000 in
theorem gX2_needs_X2_differs : GoodIn wsX2_needs (wsV RX2 69 RX2 yX2_differs wsX2_differs) := goodIn_app (goodIn_of _ (by decide +kernel)) ggX2_needs_X2_differs
theorem dX2_needs_0 : decode cX2_needs 0 = .ok (.aload_n 0, 1) := by decide +kernel
theorem dX2_needs_1 : decode cX2_needs 1 = .ok (.iconst 0, 1) := by decide +kernel
theorem dX2_needs_2 : decode cX2_needs 2 = .ok (.putfield 22, 3) := by decide +kernel
theorem dX2_needs_5 : decode cX2_needs 5 = .ok (.aload_n 0, 1) := by decide +kernel
theorem dX2_needs_6 : decode cX2_needs 6 = .ok (.aload_n 0, 1) := by decide +kernel
theorem dX2_needs_7 : decode cX2_needs 7 = .ok (.getfield 62, 3) := by decide +kernel
theorem dX2_needs_10 : decode cX2_needs 10 = .ok (.invokevirtual 69, 3) := by decide +kernel
theorem dX2_needs_13 : decode cX2_needs 13 = .ok (.ireturn, 1) := by decide +kernel
set_option maxRecDepth 20000 in
theorem ggX2_asks_X2_isKept : GoodIn wsX2_asks wsX2_isKept := goodIn_r _ [5, 6, 7, 8, 9, 4, 10, 19, 20, 21, 22, 23, 24, 25, 26, 27] (by decide +kernel) (by decide +kernel)
set_option maxRecDepth 20000 in
theorem gX2_asks_X2_isKept : GoodIn wsX2_asks (wsV RX2 79 RX2 yX2_isKept wsX2_isKept) := goodIn_app (goodIn_of _ (by decide +kernel)) ggX2_asks_X2_isKept
set_option maxRecDepth 20000 in
theorem ggX2_asks_X2_isPlace : GoodIn wsX2_asks wsX2_isPlace := goodIn_r _ [13, 8, 9, 4, 10] (by decide +kernel) (by decide +kernel)
set_option maxRecDepth 20000 in
theorem gX2_asks_X2_isPlace : GoodIn wsX2_asks (va_wsS RX2 38 yX2_isPlace wsX2_isPlace) := goodIn_app (goodIn_of _ (by decide +kernel)) ggX2_asks_X2_isPlace
set_option maxRecDepth 20000 in
theorem ggX2_asks_X2_goes : GoodIn wsX2_asks wsX2_goes := goodIn_r _ [17, 18, 19, 20, 21, 22, 23, 24, 25, 26, 27] (by decide +kernel) (by decide +kernel)
set_option maxRecDepth 20000 in
theorem gX2_asks_X2_goes : GoodIn wsX2_asks (wsV RX2 42 RX2 yX2_goes wsX2_goes) := goodIn_app (goodIn_of _ (by decide +kernel)) ggX2_asks_X2_goes
theorem dX2_asks_0 : decode cX2_asks 0 = .ok (.aload_n 0, 1) := by decide +kernel
theorem dX2_asks_1 : decode cX2_asks 1 = .ok (.iload_n 1, 1) := by decide +kernel
theorem dX2_asks_2 : decode cX2_asks 2 = .ok (.iconst (-1), 1) := by decide +kernel
theorem dX2_asks_3 : decode cX2_asks 3 = .ok (.if_icmp .eq 11, 3) := by decide +kernel
theorem dX2_asks_6 : decode cX2_asks 6 = .ok (.aload_n 0, 1) := by decide +kernel
theorem dX2_asks_7 : decode cX2_asks 7 = .ok (.iload_n 1, 1) := by decide +kernel
theorem dX2_asks_8 : decode cX2_asks 8 = .ok (.invokevirtual 79, 3) := by decide +kernel
theorem dX2_asks_11 : decode cX2_asks 11 = .ok (.ifCond .eq 14, 3) := by decide +kernel
theorem dX2_asks_14 : decode cX2_asks 14 = .ok (.iload_n 2, 1) := by decide +kernel
theorem dX2_asks_15 : decode cX2_asks 15 = .ok (.invokestatic 38, 3) := by decide +kernel
theorem dX2_asks_18 : decode cX2_asks 18 = .ok (.ifCond .eq 7, 3) := by decide +kernel
theorem dX2_asks_21 : decode cX2_asks 21 = .ok (.iconst 0, 1) := by decide +kernel
theorem dX2_asks_22 : decode cX2_asks 22 = .ok (.goto 4, 3) := by decide +kernel
theorem dX2_asks_25 : decode cX2_asks 25 = .ok (.iconst 1, 1) := by decide +kernel
theorem dX2_asks_26 : decode cX2_asks 26 = .ok (.invokevirtual 42, 3) := by decide +kernel
theorem dX2_asks_29 : decode cX2_asks 29 = .ok (.ireturn, 1) := by decide +kernel
set_option maxRecDepth 20000 in
theorem ggX2_where_X2_at : GoodIn wsX2_where wsX2_at := goodIn_r _ [4] (by decide +kernel) (by decide +kernel)
set_option maxRecDepth 20000 in
theorem gX2_where_X2_at : GoodIn wsX2_where (va_wsS RX2 30 yX2_at wsX2_at) := goodIn_app (goodIn_of _ (by decide +kernel)) ggX2_where_X2_at
theorem dX2_where_0 : decode cX2_where 0 = .ok (.iload_n 0, 1) := by decide +kernel
theorem dX2_where_1 : decode cX2_where 1 = .ok (.iconst (-1), 1) := by decide +kernel
theorem dX2_where_2 : decode cX2_where 2 = .ok (.if_icmp .ne 8, 3) := by decide +kernel
theorem dX2_where_5 : decode cX2_where 5 = .ok (.bipush 41, 2) := by decide +kernel
theorem dX2_where_7 : decode cX2_where 7 = .ok (.goto 4, 3) := by decide +kernel
theorem dX2_where_10 : decode cX2_where 10 = .ok (.iload_n 0, 1) := by decide +kernel
theorem dX2_where_11 : decode cX2_where 11 = .ok (.iload_n 1, 1) := by decide +kernel
theorem dX2_where_12 : decode cX2_where 12 = .ok (.invokestatic 30, 3) := by decide +kernel
theorem dX2_where_15 : decode cX2_where 15 = .ok (.ireturn, 1) := by decide +kernel
set_option maxRecDepth 20000 in
theorem ggX2_kindAt_X2_asks : GoodIn wsX2_kindAt wsX2_asks := goodIn_r _ [6, 7, 8, 9, 5, 10, 11, 12, 13, 14, 15, 16, 17, 18, 19, 20, 21, 22, 23, 30, 31, 32, 33, 34, 35, 36, 37, 38] (by decide +kernel) (by decide +kernel)
set_option maxRecDepth 20000 in
theorem gX2_kindAt_X2_asks : GoodIn wsX2_kindAt (wsV RX2 82 RX2 yX2_asks wsX2_asks) := goodIn_app (goodIn_of _ (by decide +kernel)) ggX2_kindAt_X2_asks
set_option maxRecDepth 20000 in
theorem ggX2_kindAt_X2_where : GoodIn wsX2_kindAt wsX2_where := goodIn_r _ [26, 27, 28, 5, 29] (by decide +kernel) (by decide +kernel)
set_option maxRecDepth 20000 in
theorem gX2_kindAt_X2_where : GoodIn wsX2_kindAt (va_wsS RX2 85 yX2_where wsX2_where) := goodIn_app (goodIn_of _ (by decide +kernel)) ggX2_kindAt_X2_where
theorem dX2_kindAt_0 : decode cX2_kindAt 0 = .ok (.aload_n 0, 1) := by decide +kernel
theorem dX2_kindAt_1 : decode cX2_kindAt 1 = .ok (.iload_n 1, 1) := by decide +kernel
theorem dX2_kindAt_2 : decode cX2_kindAt 2 = .ok (.iload_n 2, 1) := by decide +kernel
theorem dX2_kindAt_3 : decode cX2_kindAt 3 = .ok (.invokevirtual 82, 3) := by decide +kernel
theorem dX2_kindAt_6 : decode cX2_kindAt 6 = .ok (.ifCond .eq 16, 3) := by decide +kernel
theorem dX2_kindAt_9 : decode cX2_kindAt 9 = .ok (.aload_n 0, 1) := by decide +kernel
theorem dX2_kindAt_10 : decode cX2_kindAt 10 = .ok (.getfield 7, 3) := by decide +kernel
theorem dX2_kindAt_13 : decode cX2_kindAt 13 = .ok (.iload_n 1, 1) := by decide +kernel
theorem dX2_kindAt_14 : decode cX2_kindAt 14 = .ok (.iload_n 2, 1) := by decide +kernel
theorem dX2_kindAt_15 : decode cX2_kindAt 15 = .ok (.invokestatic 85, 3) := by decide +kernel
theorem dX2_kindAt_18 : decode cX2_kindAt 18 = .ok (.iaload, 1) := by decide +kernel
theorem dX2_kindAt_19 : decode cX2_kindAt 19 = .ok (.goto 4, 3) := by decide +kernel
theorem dX2_kindAt_22 : decode cX2_kindAt 22 = .ok (.iconst 0, 1) := by decide +kernel
theorem dX2_kindAt_23 : decode cX2_kindAt 23 = .ok (.ireturn, 1) := by decide +kernel
set_option maxRecDepth 20000 in
theorem ggX2_numberAt_X2_asks : GoodIn wsX2_numberAt wsX2_asks := goodIn_r _ [7, 8, 9, 10, 6, 11, 12, 13, 14, 15, 16, 17, 18, 19, 20, 21, 22, 23, 24, 31, 32, 33, 34, 35, 36, 37, 38, 39] (by decide +kernel) (by decide +kernel)
set_option maxRecDepth 20000 in
theorem gX2_numberAt_X2_asks : GoodIn wsX2_numberAt (wsV RX2 82 RX2 yX2_asks wsX2_asks) := goodIn_app (goodIn_of _ (by decide +kernel)) ggX2_numberAt_X2_asks
set_option maxRecDepth 20000 in
theorem ggX2_numberAt_X2_isIn : GoodIn wsX2_numberAt wsX2_isIn := goodIn_r _ [16] (by decide +kernel) (by decide +kernel)
set_option maxRecDepth 20000 in
theorem gX2_numberAt_X2_isIn : GoodIn wsX2_numberAt (va_wsS RX2 26 yX2_isIn wsX2_isIn) := goodIn_app (goodIn_of _ (by decide +kernel)) ggX2_numberAt_X2_isIn
set_option maxRecDepth 20000 in
theorem ggX2_numberAt_X2_goes : GoodIn wsX2_numberAt wsX2_goes := goodIn_r _ [23, 24, 31, 32, 33, 34, 35, 36, 37, 38, 39] (by decide +kernel) (by decide +kernel)
set_option maxRecDepth 20000 in
theorem gX2_numberAt_X2_goes : GoodIn wsX2_numberAt (wsV RX2 42 RX2 yX2_goes wsX2_goes) := goodIn_app (goodIn_of _ (by decide +kernel)) ggX2_numberAt_X2_goes
set_option maxRecDepth 20000 in
theorem ggX2_numberAt_X2_where : GoodIn wsX2_numberAt wsX2_where := goodIn_r _ [27, 28, 29, 6, 30] (by decide +kernel) (by decide +kernel)
set_option maxRecDepth 20000 in
theorem gX2_numberAt_X2_where : GoodIn wsX2_numberAt (va_wsS RX2 85 yX2_where wsX2_where) := goodIn_app (goodIn_of _ (by decide +kernel)) ggX2_numberAt_X2_where
theorem dX2_numberAt_0 : decode cX2_numberAt 0 = .ok (.aload_n 0, 1) := by decide +kernel
theorem dX2_numberAt_1 : decode cX2_numberAt 1 = .ok (.iload_n 1, 1) := by decide +kernel
theorem dX2_numberAt_2 : decode cX2_numberAt 2 = .ok (.iload_n 2, 1) := by decide +kernel
theorem dX2_numberAt_3 : decode cX2_numberAt 3 = .ok (.invokevirtual 82, 3) := by decide +kernel
theorem dX2_numberAt_6 : decode cX2_numberAt 6 = .ok (.ifCond .eq 25, 3) := by decide +kernel
theorem dX2_numberAt_9 : decode cX2_numberAt 9 = .ok (.aload_n 0, 1) := by decide +kernel
theorem dX2_numberAt_10 : decode cX2_numberAt 10 = .ok (.iload_n 3, 1) := by decide +kernel
theorem dX2_numberAt_11 : decode cX2_numberAt 11 = .ok (.iconst 0, 1) := by decide +kernel
theorem dX2_numberAt_12 : decode cX2_numberAt 12 = .ok (.bipush 11, 2) := by decide +kernel
theorem dX2_numberAt_14 : decode cX2_numberAt 14 = .ok (.invokestatic 26, 3) := by decide +kernel
theorem dX2_numberAt_17 : decode cX2_numberAt 17 = .ok (.ifCond .eq 7, 3) := by decide +kernel
theorem dX2_numberAt_20 : decode cX2_numberAt 20 = .ok (.iconst 0, 1) := by decide +kernel
theorem dX2_numberAt_21 : decode cX2_numberAt 21 = .ok (.goto 4, 3) := by decide +kernel
theorem dX2_numberAt_24 : decode cX2_numberAt 24 = .ok (.iconst 1, 1) := by decide +kernel
theorem dX2_numberAt_25 : decode cX2_numberAt 25 = .ok (.invokevirtual 42, 3) := by decide +kernel
theorem dX2_numberAt_28 : decode cX2_numberAt 28 = .ok (.ifCond .ne 5, 3) := by decide +kernel
theorem dX2_numberAt_31 : decode cX2_numberAt 31 = .ok (.iconst 0, 1) := by decide +kernel
theorem dX2_numberAt_32 : decode cX2_numberAt 32 = .ok (.ireturn, 1) := by decide +kernel
theorem dX2_numberAt_33 : decode cX2_numberAt 33 = .ok (.iload_n 1, 1) := by decide +kernel
theorem dX2_numberAt_34 : decode cX2_numberAt 34 = .ok (.iload_n 2, 1) := by decide +kernel
theorem dX2_numberAt_35 : decode cX2_numberAt 35 = .ok (.invokestatic 85, 3) := by decide +kernel
theorem dX2_numberAt_38 : decode cX2_numberAt 38 = .ok (.istore 4, 2) := by decide +kernel
theorem dX2_numberAt_40 : decode cX2_numberAt 40 = .ok (.iload_n 3, 1) := by decide +kernel
theorem dX2_numberAt_41 : decode cX2_numberAt 41 = .ok (.aload_n 0, 1) := by decide +kernel
theorem dX2_numberAt_42 : decode cX2_numberAt 42 = .ok (.getfield 16, 3) := by decide +kernel
theorem dX2_numberAt_45 : decode cX2_numberAt 45 = .ok (.iload 4, 2) := by decide +kernel
theorem dX2_numberAt_47 : decode cX2_numberAt 47 = .ok (.iaload, 1) := by decide +kernel
theorem dX2_numberAt_48 : decode cX2_numberAt 48 = .ok (.if_icmp .ge 18, 3) := by decide +kernel
theorem dX2_numberAt_51 : decode cX2_numberAt 51 = .ok (.aload_n 0, 1) := by decide +kernel
theorem dX2_numberAt_52 : decode cX2_numberAt 52 = .ok (.getfield 19, 3) := by decide +kernel
theorem dX2_numberAt_55 : decode cX2_numberAt 55 = .ok (.bipush 12, 2) := by decide +kernel
theorem dX2_numberAt_57 : decode cX2_numberAt 57 = .ok (.iload 4, 2) := by decide +kernel
theorem dX2_numberAt_59 : decode cX2_numberAt 59 = .ok (.imul, 1) := by decide +kernel
theorem dX2_numberAt_60 : decode cX2_numberAt 60 = .ok (.iload_n 3, 1) := by decide +kernel
theorem dX2_numberAt_61 : decode cX2_numberAt 61 = .ok (.iadd, 1) := by decide +kernel
theorem dX2_numberAt_62 : decode cX2_numberAt 62 = .ok (.iaload, 1) := by decide +kernel
theorem dX2_numberAt_63 : decode cX2_numberAt 63 = .ok (.goto 4, 3) := by decide +kernel
theorem dX2_numberAt_66 : decode cX2_numberAt 66 = .ok (.iconst (-1), 1) := by decide +kernel
theorem dX2_numberAt_67 : decode cX2_numberAt 67 = .ok (.ireturn, 1) := by decide +kernel
set_option maxRecDepth 20000 in
theorem ggX2_rightsAt_X2_asks : GoodIn wsX2_rightsAt wsX2_asks := goodIn_r _ [6, 7, 8, 9, 5, 10, 11, 12, 13, 14, 15, 16, 17, 18, 19, 20, 21, 22, 23, 30, 31, 32, 33, 34, 35, 36, 37, 38] (by decide +kernel) (by decide +kernel)
set_option maxRecDepth 20000 in
theorem gX2_rightsAt_X2_asks : GoodIn wsX2_rightsAt (wsV RX2 82 RX2 yX2_asks wsX2_asks) := goodIn_app (goodIn_of _ (by decide +kernel)) ggX2_rightsAt_X2_asks
set_option maxRecDepth 20000 in
theorem ggX2_rightsAt_X2_where : GoodIn wsX2_rightsAt wsX2_where := goodIn_r _ [26, 27, 28, 5, 29] (by decide +kernel) (by decide +kernel)
set_option maxRecDepth 20000 in
theorem gX2_rightsAt_X2_where : GoodIn wsX2_rightsAt (va_wsS RX2 85 yX2_where wsX2_where) := goodIn_app (goodIn_of _ (by decide +kernel)) ggX2_rightsAt_X2_where
theorem dX2_rightsAt_0 : decode cX2_rightsAt 0 = .ok (.aload_n 0, 1) := by decide +kernel
theorem dX2_rightsAt_1 : decode cX2_rightsAt 1 = .ok (.iload_n 1, 1) := by decide +kernel
theorem dX2_rightsAt_2 : decode cX2_rightsAt 2 = .ok (.iload_n 2, 1) := by decide +kernel
theorem dX2_rightsAt_3 : decode cX2_rightsAt 3 = .ok (.invokevirtual 82, 3) := by decide +kernel
theorem dX2_rightsAt_6 : decode cX2_rightsAt 6 = .ok (.ifCond .eq 16, 3) := by decide +kernel
theorem dX2_rightsAt_9 : decode cX2_rightsAt 9 = .ok (.aload_n 0, 1) := by decide +kernel
theorem dX2_rightsAt_10 : decode cX2_rightsAt 10 = .ok (.getfield 13, 3) := by decide +kernel
theorem dX2_rightsAt_13 : decode cX2_rightsAt 13 = .ok (.iload_n 1, 1) := by decide +kernel
theorem dX2_rightsAt_14 : decode cX2_rightsAt 14 = .ok (.iload_n 2, 1) := by decide +kernel
theorem dX2_rightsAt_15 : decode cX2_rightsAt 15 = .ok (.invokestatic 85, 3) := by decide +kernel
theorem dX2_rightsAt_18 : decode cX2_rightsAt 18 = .ok (.iaload, 1) := by decide +kernel
theorem dX2_rightsAt_19 : decode cX2_rightsAt 19 = .ok (.goto 4, 3) := by decide +kernel
theorem dX2_rightsAt_22 : decode cX2_rightsAt 22 = .ok (.iconst 0, 1) := by decide +kernel
theorem dX2_rightsAt_23 : decode cX2_rightsAt 23 = .ok (.ireturn, 1) := by decide +kernel
theorem dX2_longest_0 : decode cX2_longest 0 = .ok (.iconst 0, 1) := by decide +kernel
theorem dX2_longest_1 : decode cX2_longest 1 = .ok (.istore 4, 2) := by decide +kernel
theorem dX2_longest_3 : decode cX2_longest 3 = .ok (.iconst 0, 1) := by decide +kernel
theorem dX2_longest_4 : decode cX2_longest 4 = .ok (.istore 5, 2) := by decide +kernel
theorem dX2_longest_6 : decode cX2_longest 6 = .ok (.iload 5, 2) := by decide +kernel
theorem dX2_longest_8 : decode cX2_longest 8 = .ok (.aload_n 0, 1) := by decide +kernel
theorem dX2_longest_9 : decode cX2_longest 9 = .ok (.getfield 16, 3) := by decide +kernel
theorem dX2_longest_12 : decode cX2_longest 12 = .ok (.iload_n 3, 1) := by decide +kernel
theorem dX2_longest_13 : decode cX2_longest 13 = .ok (.iaload, 1) := by decide +kernel
theorem dX2_longest_14 : decode cX2_longest 14 = .ok (.if_icmp .ge 93, 3) := by decide +kernel
theorem dX2_longest_17 : decode cX2_longest 17 = .ok (.iconst 0, 1) := by decide +kernel
theorem dX2_longest_18 : decode cX2_longest 18 = .ok (.istore 6, 2) := by decide +kernel
theorem dX2_longest_20 : decode cX2_longest 20 = .ok (.iload_n 2, 1) := by decide +kernel
theorem dX2_longest_21 : decode cX2_longest 21 = .ok (.iload 6, 2) := by decide +kernel
theorem dX2_longest_23 : decode cX2_longest 23 = .ok (.iadd, 1) := by decide +kernel
theorem dX2_longest_24 : decode cX2_longest 24 = .ok (.aload_n 0, 1) := by decide +kernel
theorem dX2_longest_25 : decode cX2_longest 25 = .ok (.getfield 16, 3) := by decide +kernel
theorem dX2_longest_28 : decode cX2_longest 28 = .ok (.iload_n 1, 1) := by decide +kernel
theorem dX2_longest_29 : decode cX2_longest 29 = .ok (.iaload, 1) := by decide +kernel
theorem dX2_longest_30 : decode cX2_longest 30 = .ok (.if_icmp .ge 55, 3) := by decide +kernel
theorem dX2_longest_33 : decode cX2_longest 33 = .ok (.iload 5, 2) := by decide +kernel
theorem dX2_longest_35 : decode cX2_longest 35 = .ok (.iload 6, 2) := by decide +kernel
theorem dX2_longest_37 : decode cX2_longest 37 = .ok (.iadd, 1) := by decide +kernel
theorem dX2_longest_38 : decode cX2_longest 38 = .ok (.aload_n 0, 1) := by decide +kernel
theorem dX2_longest_39 : decode cX2_longest 39 = .ok (.getfield 16, 3) := by decide +kernel
theorem dX2_longest_42 : decode cX2_longest 42 = .ok (.iload_n 3, 1) := by decide +kernel
theorem dX2_longest_43 : decode cX2_longest 43 = .ok (.iaload, 1) := by decide +kernel
theorem dX2_longest_44 : decode cX2_longest 44 = .ok (.if_icmp .ge 41, 3) := by decide +kernel
theorem dX2_longest_47 : decode cX2_longest 47 = .ok (.aload_n 0, 1) := by decide +kernel
theorem dX2_longest_48 : decode cX2_longest 48 = .ok (.getfield 19, 3) := by decide +kernel
theorem dX2_longest_51 : decode cX2_longest 51 = .ok (.bipush 12, 2) := by decide +kernel
theorem dX2_longest_53 : decode cX2_longest 53 = .ok (.iload_n 1, 1) := by decide +kernel
theorem dX2_longest_54 : decode cX2_longest 54 = .ok (.imul, 1) := by decide +kernel
theorem dX2_longest_55 : decode cX2_longest 55 = .ok (.iload_n 2, 1) := by decide +kernel
theorem dX2_longest_56 : decode cX2_longest 56 = .ok (.iadd, 1) := by decide +kernel
theorem dX2_longest_57 : decode cX2_longest 57 = .ok (.iload 6, 2) := by decide +kernel
theorem dX2_longest_59 : decode cX2_longest 59 = .ok (.iadd, 1) := by decide +kernel
theorem dX2_longest_60 : decode cX2_longest 60 = .ok (.iaload, 1) := by decide +kernel
theorem dX2_longest_61 : decode cX2_longest 61 = .ok (.aload_n 0, 1) := by decide +kernel
theorem dX2_longest_62 : decode cX2_longest 62 = .ok (.getfield 19, 3) := by decide +kernel
theorem dX2_longest_65 : decode cX2_longest 65 = .ok (.bipush 12, 2) := by decide +kernel
theorem dX2_longest_67 : decode cX2_longest 67 = .ok (.iload_n 3, 1) := by decide +kernel
theorem dX2_longest_68 : decode cX2_longest 68 = .ok (.imul, 1) := by decide +kernel
theorem dX2_longest_69 : decode cX2_longest 69 = .ok (.iload 5, 2) := by decide +kernel
theorem dX2_longest_71 : decode cX2_longest 71 = .ok (.iadd, 1) := by decide +kernel
theorem dX2_longest_72 : decode cX2_longest 72 = .ok (.iload 6, 2) := by decide +kernel
theorem dX2_longest_74 : decode cX2_longest 74 = .ok (.iadd, 1) := by decide +kernel
theorem dX2_longest_75 : decode cX2_longest 75 = .ok (.iaload, 1) := by decide +kernel
theorem dX2_longest_76 : decode cX2_longest 76 = .ok (.if_icmp .ne 9, 3) := by decide +kernel
theorem dX2_longest_79 : decode cX2_longest 79 = .ok (.iinc 6 1, 3) := by decide +kernel
theorem dX2_longest_82 : decode cX2_longest 82 = .ok (.goto (-62), 3) := by decide +kernel
theorem dX2_longest_85 : decode cX2_longest 85 = .ok (.iload 6, 2) := by decide +kernel
theorem dX2_longest_87 : decode cX2_longest 87 = .ok (.iload 4, 2) := by decide +kernel
theorem dX2_longest_89 : decode cX2_longest 89 = .ok (.if_icmp .le 8, 3) := by decide +kernel
theorem dX2_longest_92 : decode cX2_longest 92 = .ok (.iload 6, 2) := by decide +kernel
theorem dX2_longest_94 : decode cX2_longest 94 = .ok (.goto 5, 3) := by decide +kernel
theorem dX2_longest_97 : decode cX2_longest 97 = .ok (.iload 4, 2) := by decide +kernel
theorem dX2_longest_99 : decode cX2_longest 99 = .ok (.istore 4, 2) := by decide +kernel
theorem dX2_longest_101 : decode cX2_longest 101 = .ok (.iinc 5 1, 3) := by decide +kernel
theorem dX2_longest_104 : decode cX2_longest 104 = .ok (.goto (-98), 3) := by decide +kernel
theorem dX2_longest_107 : decode cX2_longest 107 = .ok (.iload 4, 2) := by decide +kernel
theorem dX2_longest_109 : decode cX2_longest 109 = .ok (.ireturn, 1) := by decide +kernel
set_option maxRecDepth 20000 in
theorem ggX2_taken_X2_longest : GoodIn wsX2_taken wsX2_longest := goodIn_r _ [6, 1, 7, 8, 9, 10, 11, 12, 13, 14, 15, 16] (by decide +kernel) (by decide +kernel)
set_option maxRecDepth 20000 in
theorem gX2_taken_X2_longest : GoodIn wsX2_taken (wsV RX2 88 RX2 yX2_longest wsX2_longest) := goodIn_app (goodIn_of _ (by decide +kernel)) ggX2_taken_X2_longest
theorem dX2_taken_0 : decode cX2_taken 0 = .ok (.iconst 0, 1) := by decide +kernel
theorem dX2_taken_1 : decode cX2_taken 1 = .ok (.istore_n 3, 1) := by decide +kernel
theorem dX2_taken_2 : decode cX2_taken 2 = .ok (.iconst 0, 1) := by decide +kernel
theorem dX2_taken_3 : decode cX2_taken 3 = .ok (.istore 4, 2) := by decide +kernel
theorem dX2_taken_5 : decode cX2_taken 5 = .ok (.iload 4, 2) := by decide +kernel
theorem dX2_taken_7 : decode cX2_taken 7 = .ok (.aload_n 0, 1) := by decide +kernel
theorem dX2_taken_8 : decode cX2_taken 8 = .ok (.getfield 16, 3) := by decide +kernel
theorem dX2_taken_11 : decode cX2_taken 11 = .ok (.iload_n 1, 1) := by decide +kernel
theorem dX2_taken_12 : decode cX2_taken 12 = .ok (.iaload, 1) := by decide +kernel
theorem dX2_taken_13 : decode cX2_taken 13 = .ok (.if_icmp .ge 47, 3) := by decide +kernel
theorem dX2_taken_16 : decode cX2_taken 16 = .ok (.aload_n 0, 1) := by decide +kernel
theorem dX2_taken_17 : decode cX2_taken 17 = .ok (.iload_n 1, 1) := by decide +kernel
theorem dX2_taken_18 : decode cX2_taken 18 = .ok (.iload 4, 2) := by decide +kernel
theorem dX2_taken_20 : decode cX2_taken 20 = .ok (.iload_n 2, 1) := by decide +kernel
theorem dX2_taken_21 : decode cX2_taken 21 = .ok (.invokevirtual 88, 3) := by decide +kernel
theorem dX2_taken_24 : decode cX2_taken 24 = .ok (.istore 5, 2) := by decide +kernel
theorem dX2_taken_26 : decode cX2_taken 26 = .ok (.iload_n 3, 1) := by decide +kernel
theorem dX2_taken_27 : decode cX2_taken 27 = .ok (.iload 5, 2) := by decide +kernel
theorem dX2_taken_29 : decode cX2_taken 29 = .ok (.iconst 3, 1) := by decide +kernel
theorem dX2_taken_30 : decode cX2_taken 30 = .ok (.if_icmp .ge 7, 3) := by decide +kernel
theorem dX2_taken_33 : decode cX2_taken 33 = .ok (.iconst 1, 1) := by decide +kernel
theorem dX2_taken_34 : decode cX2_taken 34 = .ok (.goto 4, 3) := by decide +kernel
theorem dX2_taken_37 : decode cX2_taken 37 = .ok (.iconst 2, 1) := by decide +kernel
theorem dX2_taken_38 : decode cX2_taken 38 = .ok (.iadd, 1) := by decide +kernel
theorem dX2_taken_39 : decode cX2_taken 39 = .ok (.istore_n 3, 1) := by decide +kernel
theorem dX2_taken_40 : decode cX2_taken 40 = .ok (.iload 4, 2) := by decide +kernel
theorem dX2_taken_42 : decode cX2_taken 42 = .ok (.iload 5, 2) := by decide +kernel
theorem dX2_taken_44 : decode cX2_taken 44 = .ok (.iconst 3, 1) := by decide +kernel
theorem dX2_taken_45 : decode cX2_taken 45 = .ok (.if_icmp .ge 7, 3) := by decide +kernel
theorem dX2_taken_48 : decode cX2_taken 48 = .ok (.iconst 1, 1) := by decide +kernel
theorem dX2_taken_49 : decode cX2_taken 49 = .ok (.goto 5, 3) := by decide +kernel
theorem dX2_taken_52 : decode cX2_taken 52 = .ok (.iload 5, 2) := by decide +kernel
theorem dX2_taken_54 : decode cX2_taken 54 = .ok (.iadd, 1) := by decide +kernel
theorem dX2_taken_55 : decode cX2_taken 55 = .ok (.istore 4, 2) := by decide +kernel
theorem dX2_taken_57 : decode cX2_taken 57 = .ok (.goto (-52), 3) := by decide +kernel
theorem dX2_taken_60 : decode cX2_taken 60 = .ok (.iload_n 3, 1) := by decide +kernel
theorem dX2_taken_61 : decode cX2_taken 61 = .ok (.ireturn, 1) := by decide +kernel
set_option maxRecDepth 20000 in
theorem ggX2_takes_X2_areSame : GoodIn wsX2_takes wsX2_areSame := goodIn_r _ [8, 1, 3, 9, 10, 11, 7, 12, 2, 13, 22, 23, 24, 25, 26, 27, 28, 29, 30] (by decide +kernel) (by decide +kernel)
set_option maxRecDepth 20000 in
theorem gX2_takes_X2_areSame : GoodIn wsX2_takes (wsV RX2 52 RX2 yX2_areSame wsX2_areSame) := goodIn_app (goodIn_of _ (by decide +kernel)) ggX2_takes_X2_areSame
set_option maxRecDepth 20000 in
theorem ggX2_takes_X2_taken : GoodIn wsX2_takes wsX2_taken := goodIn_r _ [17, 2, 18, 19, 20, 7, 21, 13, 22, 23, 24, 25, 26, 27, 28, 29, 30] (by decide +kernel) (by decide +kernel)
set_option maxRecDepth 20000 in
theorem gX2_takes_X2_taken : GoodIn wsX2_takes (wsV RX2 92 RX2 yX2_taken wsX2_taken) := goodIn_app (goodIn_of _ (by decide +kernel)) ggX2_takes_X2_taken
theorem dX2_takes_0 : decode cX2_takes 0 = .ok (.aload_n 0, 1) := by decide +kernel
theorem dX2_takes_1 : decode cX2_takes 1 = .ok (.iload_n 1, 1) := by decide +kernel
theorem dX2_takes_2 : decode cX2_takes 2 = .ok (.iload_n 2, 1) := by decide +kernel
theorem dX2_takes_3 : decode cX2_takes 3 = .ok (.invokevirtual 52, 3) := by decide +kernel
theorem dX2_takes_6 : decode cX2_takes 6 = .ok (.ifCond .eq 5, 3) := by decide +kernel
theorem dX2_takes_9 : decode cX2_takes 9 = .ok (.iconst 0, 1) := by decide +kernel
theorem dX2_takes_10 : decode cX2_takes 10 = .ok (.ireturn, 1) := by decide +kernel
theorem dX2_takes_11 : decode cX2_takes 11 = .ok (.aload_n 0, 1) := by decide +kernel
theorem dX2_takes_12 : decode cX2_takes 12 = .ok (.getfield 7, 3) := by decide +kernel
theorem dX2_takes_15 : decode cX2_takes 15 = .ok (.iload_n 1, 1) := by decide +kernel
theorem dX2_takes_16 : decode cX2_takes 16 = .ok (.iaload, 1) := by decide +kernel
theorem dX2_takes_17 : decode cX2_takes 17 = .ok (.iconst 1, 1) := by decide +kernel
theorem dX2_takes_18 : decode cX2_takes 18 = .ok (.if_icmp .ne 17, 3) := by decide +kernel
theorem dX2_takes_21 : decode cX2_takes 21 = .ok (.aload_n 0, 1) := by decide +kernel
theorem dX2_takes_22 : decode cX2_takes 22 = .ok (.getfield 7, 3) := by decide +kernel
theorem dX2_takes_25 : decode cX2_takes 25 = .ok (.iload_n 2, 1) := by decide +kernel
theorem dX2_takes_26 : decode cX2_takes 26 = .ok (.iaload, 1) := by decide +kernel
theorem dX2_takes_27 : decode cX2_takes 27 = .ok (.iconst 1, 1) := by decide +kernel
theorem dX2_takes_28 : decode cX2_takes 28 = .ok (.if_icmp .ne 7, 3) := by decide +kernel
theorem dX2_takes_31 : decode cX2_takes 31 = .ok (.iconst 1, 1) := by decide +kernel
theorem dX2_takes_32 : decode cX2_takes 32 = .ok (.goto 4, 3) := by decide +kernel
theorem dX2_takes_35 : decode cX2_takes 35 = .ok (.iconst 0, 1) := by decide +kernel
theorem dX2_takes_36 : decode cX2_takes 36 = .ok (.istore_n 3, 1) := by decide +kernel
theorem dX2_takes_37 : decode cX2_takes 37 = .ok (.iload_n 3, 1) := by decide +kernel
theorem dX2_takes_38 : decode cX2_takes 38 = .ok (.ifCond .eq 12, 3) := by decide +kernel
theorem dX2_takes_41 : decode cX2_takes 41 = .ok (.aload_n 0, 1) := by decide +kernel
theorem dX2_takes_42 : decode cX2_takes 42 = .ok (.iload_n 1, 1) := by decide +kernel
theorem dX2_takes_43 : decode cX2_takes 43 = .ok (.iload_n 2, 1) := by decide +kernel
theorem dX2_takes_44 : decode cX2_takes 44 = .ok (.invokevirtual 92, 3) := by decide +kernel
theorem dX2_takes_47 : decode cX2_takes 47 = .ok (.goto 25, 3) := by decide +kernel
theorem dX2_takes_50 : decode cX2_takes 50 = .ok (.aload_n 0, 1) := by decide +kernel
theorem dX2_takes_51 : decode cX2_takes 51 = .ok (.getfield 7, 3) := by decide +kernel
theorem dX2_takes_54 : decode cX2_takes 54 = .ok (.iload_n 1, 1) := by decide +kernel
theorem dX2_takes_55 : decode cX2_takes 55 = .ok (.iaload, 1) := by decide +kernel
theorem dX2_takes_56 : decode cX2_takes 56 = .ok (.iconst 1, 1) := by decide +kernel
theorem dX2_takes_57 : decode cX2_takes 57 = .ok (.if_icmp .ne 14, 3) := by decide +kernel
theorem dX2_takes_60 : decode cX2_takes 60 = .ok (.aload_n 0, 1) := by decide +kernel
theorem dX2_takes_61 : decode cX2_takes 61 = .ok (.getfield 16, 3) := by decide +kernel
theorem dX2_takes_64 : decode cX2_takes 64 = .ok (.iload_n 1, 1) := by decide +kernel
theorem dX2_takes_65 : decode cX2_takes 65 = .ok (.iaload, 1) := by decide +kernel
theorem dX2_takes_66 : decode cX2_takes 66 = .ok (.iconst 1, 1) := by decide +kernel
theorem dX2_takes_67 : decode cX2_takes 67 = .ok (.iadd, 1) := by decide +kernel
theorem dX2_takes_68 : decode cX2_takes 68 = .ok (.goto 4, 3) := by decide +kernel
theorem dX2_takes_71 : decode cX2_takes 71 = .ok (.iconst 1, 1) := by decide +kernel
theorem dX2_takes_72 : decode cX2_takes 72 = .ok (.istore 4, 2) := by decide +kernel
theorem dX2_takes_74 : decode cX2_takes 74 = .ok (.iload 4, 2) := by decide +kernel
theorem dX2_takes_76 : decode cX2_takes 76 = .ok (.aload_n 0, 1) := by decide +kernel
theorem dX2_takes_77 : decode cX2_takes 77 = .ok (.getfield 13, 3) := by decide +kernel
theorem dX2_takes_80 : decode cX2_takes 80 = .ok (.iload_n 1, 1) := by decide +kernel
theorem dX2_takes_81 : decode cX2_takes 81 = .ok (.iaload, 1) := by decide +kernel
theorem dX2_takes_82 : decode cX2_takes 82 = .ok (.aload_n 0, 1) := by decide +kernel
theorem dX2_takes_83 : decode cX2_takes 83 = .ok (.getfield 13, 3) := by decide +kernel
theorem dX2_takes_86 : decode cX2_takes 86 = .ok (.iload_n 2, 1) := by decide +kernel
theorem dX2_takes_87 : decode cX2_takes 87 = .ok (.iaload, 1) := by decide +kernel
theorem dX2_takes_88 : decode cX2_takes 88 = .ok (.if_icmp .ne 7, 3) := by decide +kernel
theorem dX2_takes_91 : decode cX2_takes 91 = .ok (.iconst 0, 1) := by decide +kernel
theorem dX2_takes_92 : decode cX2_takes 92 = .ok (.goto 4, 3) := by decide +kernel
theorem dX2_takes_95 : decode cX2_takes 95 = .ok (.iconst 1, 1) := by decide +kernel
theorem dX2_takes_96 : decode cX2_takes 96 = .ok (.iadd, 1) := by decide +kernel
theorem dX2_takes_97 : decode cX2_takes 97 = .ok (.ireturn, 1) := by decide +kernel
set_option maxRecDepth 20000 in
theorem ggX2_sizeOf_X2_at : GoodIn wsX2_sizeOf wsX2_at := goodIn_r _ [5] (by decide +kernel) (by decide +kernel)
set_option maxRecDepth 20000 in
theorem gX2_sizeOf_X2_at : GoodIn wsX2_sizeOf (va_wsS RX2 30 yX2_at wsX2_at) := goodIn_app (goodIn_of _ (by decide +kernel)) ggX2_sizeOf_X2_at
set_option maxRecDepth 20000 in
theorem ggX2_sizeOf_X2_takes : GoodIn wsX2_sizeOf wsX2_takes := goodIn_r _ [9, 10, 11, 12, 13, 14, 15, 4, 16, 17, 18, 19, 20, 21, 22, 23, 24, 25, 26, 27, 28, 29, 30, 31, 32, 33, 34, 35, 36, 37, 38] (by decide +kernel) (by decide +kernel)
set_option maxRecDepth 20000 in
theorem gX2_sizeOf_X2_takes : GoodIn wsX2_sizeOf (wsV RX2 95 RX2 yX2_takes wsX2_takes) := goodIn_app (goodIn_of _ (by decide +kernel)) ggX2_sizeOf_X2_takes
theorem dX2_sizeOf_0 : decode cX2_sizeOf 0 = .ok (.iload_n 1, 1) := by decide +kernel
theorem dX2_sizeOf_1 : decode cX2_sizeOf 1 = .ok (.aload_n 0, 1) := by decide +kernel
theorem dX2_sizeOf_2 : decode cX2_sizeOf 2 = .ok (.getfield 62, 3) := by decide +kernel
theorem dX2_sizeOf_5 : decode cX2_sizeOf 5 = .ok (.if_icmp .ne 7, 3) := by decide +kernel
theorem dX2_sizeOf_8 : decode cX2_sizeOf 8 = .ok (.iconst 0, 1) := by decide +kernel
theorem dX2_sizeOf_9 : decode cX2_sizeOf 9 = .ok (.goto 19, 3) := by decide +kernel
theorem dX2_sizeOf_12 : decode cX2_sizeOf 12 = .ok (.aload_n 0, 1) := by decide +kernel
theorem dX2_sizeOf_13 : decode cX2_sizeOf 13 = .ok (.iload_n 1, 1) := by decide +kernel
theorem dX2_sizeOf_14 : decode cX2_sizeOf 14 = .ok (.iload_n 2, 1) := by decide +kernel
theorem dX2_sizeOf_15 : decode cX2_sizeOf 15 = .ok (.invokestatic 30, 3) := by decide +kernel
theorem dX2_sizeOf_18 : decode cX2_sizeOf 18 = .ok (.iload_n 1, 1) := by decide +kernel
theorem dX2_sizeOf_19 : decode cX2_sizeOf 19 = .ok (.iconst 1, 1) := by decide +kernel
theorem dX2_sizeOf_20 : decode cX2_sizeOf 20 = .ok (.iadd, 1) := by decide +kernel
theorem dX2_sizeOf_21 : decode cX2_sizeOf 21 = .ok (.iload_n 2, 1) := by decide +kernel
theorem dX2_sizeOf_22 : decode cX2_sizeOf 22 = .ok (.invokestatic 30, 3) := by decide +kernel
theorem dX2_sizeOf_25 : decode cX2_sizeOf 25 = .ok (.invokevirtual 95, 3) := by decide +kernel
theorem dX2_sizeOf_28 : decode cX2_sizeOf 28 = .ok (.ireturn, 1) := by decide +kernel
set_option maxRecDepth 20000 in
theorem ggX2_sizeAt_X2_isKept : GoodIn wsX2_sizeAt wsX2_isKept := goodIn_r _ [5, 6, 7, 8, 9, 4, 10, 50, 51, 52, 53, 54, 55, 56, 57, 58] (by decide +kernel) (by decide +kernel)
set_option maxRecDepth 20000 in
theorem gX2_sizeAt_X2_isKept : GoodIn wsX2_sizeAt (wsV RX2 79 RX2 yX2_isKept wsX2_isKept) := goodIn_app (goodIn_of _ (by decide +kernel)) ggX2_sizeAt_X2_isKept
set_option maxRecDepth 20000 in
theorem ggX2_sizeAt_X2_isPlace : GoodIn wsX2_sizeAt wsX2_isPlace := goodIn_r _ [13, 8, 9, 4, 10] (by decide +kernel) (by decide +kernel)
set_option maxRecDepth 20000 in
theorem gX2_sizeAt_X2_isPlace : GoodIn wsX2_sizeAt (va_wsS RX2 38 yX2_isPlace wsX2_isPlace) := goodIn_app (goodIn_of _ (by decide +kernel)) ggX2_sizeAt_X2_isPlace
set_option maxRecDepth 20000 in
theorem ggX2_sizeAt_X2_goes : GoodIn wsX2_sizeAt wsX2_goes := goodIn_r _ [17, 18, 50, 51, 52, 53, 54, 55, 56, 57, 58] (by decide +kernel) (by decide +kernel)
set_option maxRecDepth 20000 in
theorem gX2_sizeAt_X2_goes : GoodIn wsX2_sizeAt (wsV RX2 42 RX2 yX2_goes wsX2_goes) := goodIn_app (goodIn_of _ (by decide +kernel)) ggX2_sizeAt_X2_goes
set_option maxRecDepth 20000 in
theorem ggX2_sizeAt_X2_sizeOf : GoodIn wsX2_sizeAt wsX2_sizeOf := goodIn_r _ [22, 7, 23, 24, 4, 25, 26, 27, 28, 29, 30, 31, 32, 33, 34, 35, 36, 37, 38, 39, 40, 41, 42, 43, 44, 45, 46, 47, 48, 49, 50, 51, 52, 53, 54, 55, 56, 57, 58] (by decide +kernel) (by decide +kernel)
set_option maxRecDepth 20000 in
theorem gX2_sizeAt_X2_sizeOf : GoodIn wsX2_sizeAt (wsV RX2 98 RX2 yX2_sizeOf wsX2_sizeOf) := goodIn_app (goodIn_of _ (by decide +kernel)) ggX2_sizeAt_X2_sizeOf
theorem dX2_sizeAt_0 : decode cX2_sizeAt 0 = .ok (.aload_n 0, 1) := by decide +kernel
theorem dX2_sizeAt_1 : decode cX2_sizeAt 1 = .ok (.aload_n 0, 1) := by decide +kernel
theorem dX2_sizeAt_2 : decode cX2_sizeAt 2 = .ok (.iload_n 1, 1) := by decide +kernel
theorem dX2_sizeAt_3 : decode cX2_sizeAt 3 = .ok (.invokevirtual 79, 3) := by decide +kernel
theorem dX2_sizeAt_6 : decode cX2_sizeAt 6 = .ok (.ifCond .eq 14, 3) := by decide +kernel
theorem dX2_sizeAt_9 : decode cX2_sizeAt 9 = .ok (.iload_n 2, 1) := by decide +kernel
theorem dX2_sizeAt_10 : decode cX2_sizeAt 10 = .ok (.invokestatic 38, 3) := by decide +kernel
theorem dX2_sizeAt_13 : decode cX2_sizeAt 13 = .ok (.ifCond .eq 7, 3) := by decide +kernel
theorem dX2_sizeAt_16 : decode cX2_sizeAt 16 = .ok (.iconst 0, 1) := by decide +kernel
theorem dX2_sizeAt_17 : decode cX2_sizeAt 17 = .ok (.goto 4, 3) := by decide +kernel
theorem dX2_sizeAt_20 : decode cX2_sizeAt 20 = .ok (.iconst 1, 1) := by decide +kernel
theorem dX2_sizeAt_21 : decode cX2_sizeAt 21 = .ok (.invokevirtual 42, 3) := by decide +kernel
theorem dX2_sizeAt_24 : decode cX2_sizeAt 24 = .ok (.ifCond .eq 12, 3) := by decide +kernel
theorem dX2_sizeAt_27 : decode cX2_sizeAt 27 = .ok (.aload_n 0, 1) := by decide +kernel
theorem dX2_sizeAt_28 : decode cX2_sizeAt 28 = .ok (.iload_n 1, 1) := by decide +kernel
theorem dX2_sizeAt_29 : decode cX2_sizeAt 29 = .ok (.iload_n 2, 1) := by decide +kernel
theorem dX2_sizeAt_30 : decode cX2_sizeAt 30 = .ok (.invokevirtual 98, 3) := by decide +kernel
theorem dX2_sizeAt_33 : decode cX2_sizeAt 33 = .ok (.goto 4, 3) := by decide +kernel
theorem dX2_sizeAt_36 : decode cX2_sizeAt 36 = .ok (.iconst 0, 1) := by decide +kernel
theorem dX2_sizeAt_37 : decode cX2_sizeAt 37 = .ok (.ireturn, 1) := by decide +kernel
set_option maxRecDepth 20000 in
theorem ggX2_size_X2_sizeOf : GoodIn wsX2_size wsX2_sizeOf := goodIn_r _ [8, 3, 9, 10, 7, 11, 12, 13, 14, 15, 16, 17, 18, 19, 20, 21, 22, 23, 24, 25, 26, 27, 28, 29, 30, 31, 32, 33, 34, 35, 36, 37, 38, 39, 40, 41, 42, 43, 44] (by decide +kernel) (by decide +kernel)
set_option maxRecDepth 20000 in
theorem gX2_size_X2_sizeOf : GoodIn wsX2_size (wsV RX2 98 RX2 yX2_sizeOf wsX2_sizeOf) := goodIn_app (goodIn_of _ (by decide +kernel)) ggX2_size_X2_sizeOf
theorem dX2_size_0 : decode cX2_size 0 = .ok (.aload_n 0, 1) := by decide +kernel
theorem dX2_size_1 : decode cX2_size 1 = .ok (.iconst 0, 1) := by decide +kernel
theorem dX2_size_2 : decode cX2_size 2 = .ok (.putfield 22, 3) := by decide +kernel
theorem dX2_size_5 : decode cX2_size 5 = .ok (.iconst 0, 1) := by decide +kernel
theorem dX2_size_6 : decode cX2_size 6 = .ok (.istore_n 1, 1) := by decide +kernel
theorem dX2_size_7 : decode cX2_size 7 = .ok (.bipush 6, 2) := by decide +kernel
theorem dX2_size_9 : decode cX2_size 9 = .ok (.aload_n 0, 1) := by decide +kernel
theorem dX2_size_10 : decode cX2_size 10 = .ok (.getfield 76, 3) := by decide +kernel
theorem dX2_size_13 : decode cX2_size 13 = .ok (.imul, 1) := by decide +kernel
theorem dX2_size_14 : decode cX2_size 14 = .ok (.istore_n 2, 1) := by decide +kernel
theorem dX2_size_15 : decode cX2_size 15 = .ok (.iload_n 2, 1) := by decide +kernel
theorem dX2_size_16 : decode cX2_size 16 = .ok (.bipush 6, 2) := by decide +kernel
theorem dX2_size_18 : decode cX2_size 18 = .ok (.aload_n 0, 1) := by decide +kernel
theorem dX2_size_19 : decode cX2_size 19 = .ok (.getfield 62, 3) := by decide +kernel
theorem dX2_size_22 : decode cX2_size 22 = .ok (.imul, 1) := by decide +kernel
theorem dX2_size_23 : decode cX2_size 23 = .ok (.if_icmp .ge 24, 3) := by decide +kernel
theorem dX2_size_26 : decode cX2_size 26 = .ok (.iload_n 1, 1) := by decide +kernel
theorem dX2_size_27 : decode cX2_size 27 = .ok (.aload_n 0, 1) := by decide +kernel
theorem dX2_size_28 : decode cX2_size 28 = .ok (.iload_n 2, 1) := by decide +kernel
theorem dX2_size_29 : decode cX2_size 29 = .ok (.bipush 6, 2) := by decide +kernel
theorem dX2_size_31 : decode cX2_size 31 = .ok (.idiv, 1) := by decide +kernel
theorem dX2_size_32 : decode cX2_size 32 = .ok (.iload_n 2, 1) := by decide +kernel
theorem dX2_size_33 : decode cX2_size 33 = .ok (.bipush 6, 2) := by decide +kernel
theorem dX2_size_35 : decode cX2_size 35 = .ok (.irem, 1) := by decide +kernel
theorem dX2_size_36 : decode cX2_size 36 = .ok (.invokevirtual 98, 3) := by decide +kernel
theorem dX2_size_39 : decode cX2_size 39 = .ok (.iadd, 1) := by decide +kernel
theorem dX2_size_40 : decode cX2_size 40 = .ok (.istore_n 1, 1) := by decide +kernel
theorem dX2_size_41 : decode cX2_size 41 = .ok (.iinc 2 1, 3) := by decide +kernel
theorem dX2_size_44 : decode cX2_size 44 = .ok (.goto (-29), 3) := by decide +kernel
theorem dX2_size_47 : decode cX2_size 47 = .ok (.iload_n 1, 1) := by decide +kernel
theorem dX2_size_48 : decode cX2_size 48 = .ok (.ireturn, 1) := by decide +kernel
theorem dJ9_max_7cf53_0 : decode cJ9_max_7cf53 0 = .ok (.iload_n 0, 1) := by decide +kernel
theorem dJ9_max_7cf53_1 : decode cJ9_max_7cf53 1 = .ok (.iload_n 1, 1) := by decide +kernel
theorem dJ9_max_7cf53_2 : decode cJ9_max_7cf53 2 = .ok (.if_icmp .lt 7, 3) := by decide +kernel
theorem dJ9_max_7cf53_5 : decode cJ9_max_7cf53 5 = .ok (.iload_n 0, 1) := by decide +kernel
theorem dJ9_max_7cf53_6 : decode cJ9_max_7cf53 6 = .ok (.goto 4, 3) := by decide +kernel
theorem dJ9_max_7cf53_9 : decode cJ9_max_7cf53 9 = .ok (.iload_n 1, 1) := by decide +kernel
theorem dJ9_max_7cf53_10 : decode cJ9_max_7cf53 10 = .ok (.ireturn, 1) := by decide +kernel
set_option maxRecDepth 20000 in
theorem ggL_makeFile_X1_makeFile : GoodIn wsL_makeFile wsX1_makeFile := goodIn_ca (goodIn_r _ [6, 7, 8, 9, 10, 11, 12, 5, 13, 14, 15, 16, 17, 18, 19, 20, 21, 22, 23, 24, 25, 26, 27, 28, 29, 30, 31, 32, 33, 34, 35, 36, 37, 38, 39] (by decide +kernel) (by decide +kernel)) (goodIn_sub (fun _ h => List.mem_cons_of_mem _ (List.mem_append_right _ h)) (by decide +kernel))
set_option maxRecDepth 20000 in
theorem gL_makeFile_X1_makeFile : GoodIn wsL_makeFile (wsV RL 7 RX1 yX1_makeFile wsX1_makeFile) := goodIn_app (goodIn_of _ (by decide +kernel)) ggL_makeFile_X1_makeFile
theorem dL_makeFile_0 : decode cL_makeFile 0 = .ok (.aload_n 2, 1) := by decide +kernel
theorem dL_makeFile_1 : decode cL_makeFile 1 = .ok (.iconst 0, 1) := by decide +kernel
theorem dL_makeFile_2 : decode cL_makeFile 2 = .ok (.aload_n 0, 1) := by decide +kernel
theorem dL_makeFile_3 : decode cL_makeFile 3 = .ok (.iload_n 1, 1) := by decide +kernel
theorem dL_makeFile_4 : decode cL_makeFile 4 = .ok (.invokevirtual 7, 3) := by decide +kernel
theorem dL_makeFile_7 : decode cL_makeFile 7 = .ok (.i2l, 1) := by decide +kernel
theorem dL_makeFile_8 : decode cL_makeFile 8 = .ok (.lastore, 1) := by decide +kernel
theorem dL_makeFile_9 : decode cL_makeFile 9 = .ok (.goto 6, 3) := by decide +kernel
theorem dL_makeFile_12 : decode cL_makeFile 12 = .ok (.astore_n 3, 1) := by decide +kernel
theorem dL_makeFile_13 : decode cL_makeFile 13 = .ok (.iconst 1, 1) := by decide +kernel
theorem dL_makeFile_14 : decode cL_makeFile 14 = .ok (.ireturn, 1) := by decide +kernel
theorem dL_makeFile_15 : decode cL_makeFile 15 = .ok (.iconst 0, 1) := by decide +kernel
theorem dL_makeFile_16 : decode cL_makeFile 16 = .ok (.ireturn, 1) := by decide +kernel
set_option maxRecDepth 20000 in
theorem ggL_makeLink_X1_makeLink : GoodIn wsL_makeLink wsX1_makeLink := goodIn_ca (goodIn_r _ [6, 7, 8, 9, 10, 11, 12, 5, 13, 14, 15, 16, 17, 18, 19, 20, 21, 22, 23, 24, 25, 26, 27, 28, 29, 30, 31, 32, 33, 34, 35, 36, 37, 38, 39] (by decide +kernel) (by decide +kernel)) (goodIn_sub (fun _ h => List.mem_cons_of_mem _ (List.mem_append_right _ h)) (by decide +kernel))
set_option maxRecDepth 20000 in
theorem gL_makeLink_X1_makeLink : GoodIn wsL_makeLink (wsV RL 15 RX1 yX1_makeLink wsX1_makeLink) := goodIn_app (goodIn_of _ (by decide +kernel)) ggL_makeLink_X1_makeLink
theorem dL_makeLink_0 : decode cL_makeLink 0 = .ok (.aload_n 3, 1) := by decide +kernel
theorem dL_makeLink_1 : decode cL_makeLink 1 = .ok (.iconst 0, 1) := by decide +kernel
theorem dL_makeLink_2 : decode cL_makeLink 2 = .ok (.aload_n 0, 1) := by decide +kernel
theorem dL_makeLink_3 : decode cL_makeLink 3 = .ok (.iload_n 1, 1) := by decide +kernel
theorem dL_makeLink_4 : decode cL_makeLink 4 = .ok (.iload_n 2, 1) := by decide +kernel
theorem dL_makeLink_5 : decode cL_makeLink 5 = .ok (.invokevirtual 15, 3) := by decide +kernel
theorem dL_makeLink_8 : decode cL_makeLink 8 = .ok (.i2l, 1) := by decide +kernel
theorem dL_makeLink_9 : decode cL_makeLink 9 = .ok (.lastore, 1) := by decide +kernel
theorem dL_makeLink_10 : decode cL_makeLink 10 = .ok (.goto 7, 3) := by decide +kernel
theorem dL_makeLink_13 : decode cL_makeLink 13 = .ok (.astore 4, 2) := by decide +kernel
theorem dL_makeLink_15 : decode cL_makeLink 15 = .ok (.iconst 1, 1) := by decide +kernel
theorem dL_makeLink_16 : decode cL_makeLink 16 = .ok (.ireturn, 1) := by decide +kernel
theorem dL_makeLink_17 : decode cL_makeLink 17 = .ok (.iconst 0, 1) := by decide +kernel
theorem dL_makeLink_18 : decode cL_makeLink 18 = .ok (.ireturn, 1) := by decide +kernel
set_option maxRecDepth 20000 in
theorem ggL_remove_X1_remove : GoodIn wsL_remove wsX1_remove := goodIn_ca (goodIn_r _ [6, 7, 8, 9, 10, 11, 12, 5, 13, 14, 15, 16, 17, 18, 19, 20, 21, 22, 23, 24, 25, 26, 27, 28, 29, 30, 31, 32, 33, 34, 35, 36, 37, 38, 39] (by decide +kernel) (by decide +kernel)) (goodIn_sub (fun _ h => List.mem_cons_of_mem _ (List.mem_append_right _ h)) (by decide +kernel))
set_option maxRecDepth 20000 in
theorem gL_remove_X1_remove : GoodIn wsL_remove (wsV RL 19 RX1 yX1_remove wsX1_remove) := goodIn_app (goodIn_of _ (by decide +kernel)) ggL_remove_X1_remove
theorem dL_remove_0 : decode cL_remove 0 = .ok (.aload_n 2, 1) := by decide +kernel
theorem dL_remove_1 : decode cL_remove 1 = .ok (.iconst 0, 1) := by decide +kernel
theorem dL_remove_2 : decode cL_remove 2 = .ok (.aload_n 0, 1) := by decide +kernel
theorem dL_remove_3 : decode cL_remove 3 = .ok (.iload_n 1, 1) := by decide +kernel
theorem dL_remove_4 : decode cL_remove 4 = .ok (.invokevirtual 19, 3) := by decide +kernel
theorem dL_remove_7 : decode cL_remove 7 = .ok (.i2l, 1) := by decide +kernel
theorem dL_remove_8 : decode cL_remove 8 = .ok (.lastore, 1) := by decide +kernel
theorem dL_remove_9 : decode cL_remove 9 = .ok (.goto 6, 3) := by decide +kernel
theorem dL_remove_12 : decode cL_remove 12 = .ok (.astore_n 3, 1) := by decide +kernel
theorem dL_remove_13 : decode cL_remove 13 = .ok (.iconst 1, 1) := by decide +kernel
theorem dL_remove_14 : decode cL_remove 14 = .ok (.ireturn, 1) := by decide +kernel
theorem dL_remove_15 : decode cL_remove 15 = .ok (.iconst 0, 1) := by decide +kernel
theorem dL_remove_16 : decode cL_remove 16 = .ok (.ireturn, 1) := by decide +kernel
set_option maxRecDepth 20000 in
theorem ggL_put_X1_put : GoodIn wsL_put wsX1_put := goodIn_ca (goodIn_ca (goodIn_ca (goodIn_r _ [8, 9, 10, 11, 12, 13, 14, 15, 16, 17, 18, 19, 20, 21, 7, 22, 23, 24, 25, 26, 27, 28, 29, 30, 31, 32, 33, 34, 35, 36, 37, 38, 39, 40, 41, 42, 43, 44, 45, 46] (by decide +kernel) (by decide +kernel)) (goodIn_sub (fun _ h => List.mem_cons_of_mem _ (List.mem_append_left _ (List.mem_append_left _ (List.mem_append_right _ h)))) (by decide +kernel))) (goodIn_sub (fun _ h => List.mem_cons_of_mem _ (List.mem_append_left _ (List.mem_append_right _ h))) (by decide +kernel))) (goodIn_sub (fun _ h => List.mem_cons_of_mem _ (List.mem_append_right _ h)) (by decide +kernel))
set_option maxRecDepth 20000 in
theorem gL_put_X1_put : GoodIn wsL_put (wsV RL 22 RX1 yX1_put wsX1_put) := goodIn_app (goodIn_of _ (by decide +kernel)) ggL_put_X1_put
theorem dL_put_0 : decode cL_put 0 = .ok (.aload 4, 2) := by decide +kernel
theorem dL_put_2 : decode cL_put 2 = .ok (.iconst 0, 1) := by decide +kernel
theorem dL_put_3 : decode cL_put 3 = .ok (.aload_n 0, 1) := by decide +kernel
theorem dL_put_4 : decode cL_put 4 = .ok (.iload_n 1, 1) := by decide +kernel
theorem dL_put_5 : decode cL_put 5 = .ok (.iload_n 2, 1) := by decide +kernel
theorem dL_put_6 : decode cL_put 6 = .ok (.iload_n 3, 1) := by decide +kernel
theorem dL_put_7 : decode cL_put 7 = .ok (.invokevirtual 22, 3) := by decide +kernel
theorem dL_put_10 : decode cL_put 10 = .ok (.i2l, 1) := by decide +kernel
theorem dL_put_11 : decode cL_put 11 = .ok (.lastore, 1) := by decide +kernel
theorem dL_put_12 : decode cL_put 12 = .ok (.goto 15, 3) := by decide +kernel
theorem dL_put_15 : decode cL_put 15 = .ok (.astore 5, 2) := by decide +kernel
theorem dL_put_17 : decode cL_put 17 = .ok (.iconst 1, 1) := by decide +kernel
theorem dL_put_18 : decode cL_put 18 = .ok (.ireturn, 1) := by decide +kernel
theorem dL_put_19 : decode cL_put 19 = .ok (.astore 5, 2) := by decide +kernel
theorem dL_put_21 : decode cL_put 21 = .ok (.iconst 2, 1) := by decide +kernel
theorem dL_put_22 : decode cL_put 22 = .ok (.ireturn, 1) := by decide +kernel
theorem dL_put_23 : decode cL_put 23 = .ok (.astore 5, 2) := by decide +kernel
theorem dL_put_25 : decode cL_put 25 = .ok (.iconst 3, 1) := by decide +kernel
theorem dL_put_26 : decode cL_put 26 = .ok (.ireturn, 1) := by decide +kernel
theorem dL_put_27 : decode cL_put 27 = .ok (.iconst 0, 1) := by decide +kernel
theorem dL_put_28 : decode cL_put 28 = .ok (.ireturn, 1) := by decide +kernel
set_option maxRecDepth 20000 in
theorem ggL_take_X1_take : GoodIn wsL_take wsX1_take := goodIn_ca (goodIn_ca (goodIn_ca (goodIn_r _ [8, 9, 10, 11, 12, 13, 14, 15, 16, 17, 18, 19, 20, 21, 7, 22, 23, 24, 25, 26, 27, 28, 29, 30, 31, 32, 33, 34, 35, 36, 37, 38, 39, 40, 41, 42, 43, 44, 45, 46] (by decide +kernel) (by decide +kernel)) (goodIn_sub (fun _ h => List.mem_cons_of_mem _ (List.mem_append_left _ (List.mem_append_left _ (List.mem_append_right _ h)))) (by decide +kernel))) (goodIn_sub (fun _ h => List.mem_cons_of_mem _ (List.mem_append_left _ (List.mem_append_right _ h))) (by decide +kernel))) (goodIn_sub (fun _ h => List.mem_cons_of_mem _ (List.mem_append_right _ h)) (by decide +kernel))
set_option maxRecDepth 20000 in
theorem gL_take_X1_take : GoodIn wsL_take (wsV RL 30 RX1 yX1_take wsX1_take) := goodIn_app (goodIn_of _ (by decide +kernel)) ggL_take_X1_take
theorem dL_take_0 : decode cL_take 0 = .ok (.aload_n 3, 1) := by decide +kernel
theorem dL_take_1 : decode cL_take 1 = .ok (.iconst 0, 1) := by decide +kernel
theorem dL_take_2 : decode cL_take 2 = .ok (.aload_n 0, 1) := by decide +kernel
theorem dL_take_3 : decode cL_take 3 = .ok (.iload_n 1, 1) := by decide +kernel
theorem dL_take_4 : decode cL_take 4 = .ok (.iload_n 2, 1) := by decide +kernel
theorem dL_take_5 : decode cL_take 5 = .ok (.invokevirtual 30, 3) := by decide +kernel
theorem dL_take_8 : decode cL_take 8 = .ok (.i2l, 1) := by decide +kernel
theorem dL_take_9 : decode cL_take 9 = .ok (.lastore, 1) := by decide +kernel
theorem dL_take_10 : decode cL_take 10 = .ok (.goto 15, 3) := by decide +kernel
theorem dL_take_13 : decode cL_take 13 = .ok (.astore 4, 2) := by decide +kernel
theorem dL_take_15 : decode cL_take 15 = .ok (.iconst 1, 1) := by decide +kernel
theorem dL_take_16 : decode cL_take 16 = .ok (.ireturn, 1) := by decide +kernel
theorem dL_take_17 : decode cL_take 17 = .ok (.astore 4, 2) := by decide +kernel
theorem dL_take_19 : decode cL_take 19 = .ok (.iconst 2, 1) := by decide +kernel
theorem dL_take_20 : decode cL_take 20 = .ok (.ireturn, 1) := by decide +kernel
theorem dL_take_21 : decode cL_take 21 = .ok (.astore 4, 2) := by decide +kernel
theorem dL_take_23 : decode cL_take 23 = .ok (.iconst 3, 1) := by decide +kernel
theorem dL_take_24 : decode cL_take 24 = .ok (.ireturn, 1) := by decide +kernel
theorem dL_take_25 : decode cL_take 25 = .ok (.iconst 0, 1) := by decide +kernel
theorem dL_take_26 : decode cL_take 26 = .ok (.ireturn, 1) := by decide +kernel
set_option maxRecDepth 20000 in
theorem ggL_setRights_X1_setRights : GoodIn wsL_setRights wsX1_setRights := goodIn_ca (goodIn_ca (goodIn_ca (goodIn_r _ [8, 9, 10, 11, 12, 13, 14, 15, 16, 17, 18, 19, 20, 21, 7, 22, 23, 24, 25, 26, 27, 28, 29, 30, 31, 32, 33, 34, 35, 36, 37, 38, 39, 40, 41, 42] (by decide +kernel) (by decide +kernel)) (goodIn_sub (fun _ h => List.mem_cons_of_mem _ (List.mem_append_left _ (List.mem_append_left _ (List.mem_append_right _ h)))) (by decide +kernel))) (goodIn_sub (fun _ h => List.mem_cons_of_mem _ (List.mem_append_left _ (List.mem_append_right _ h))) (by decide +kernel))) (goodIn_sub (fun _ h => List.mem_cons_of_mem _ (List.mem_append_right _ h)) (by decide +kernel))
set_option maxRecDepth 20000 in
theorem gL_setRights_X1_setRights : GoodIn wsL_setRights (wsV RL 33 RX1 yX1_setRights wsX1_setRights) := goodIn_app (goodIn_of _ (by decide +kernel)) ggL_setRights_X1_setRights
theorem dL_setRights_0 : decode cL_setRights 0 = .ok (.aload_n 3, 1) := by decide +kernel
theorem dL_setRights_1 : decode cL_setRights 1 = .ok (.iconst 0, 1) := by decide +kernel
theorem dL_setRights_2 : decode cL_setRights 2 = .ok (.aload_n 0, 1) := by decide +kernel
theorem dL_setRights_3 : decode cL_setRights 3 = .ok (.iload_n 1, 1) := by decide +kernel
theorem dL_setRights_4 : decode cL_setRights 4 = .ok (.iload_n 2, 1) := by decide +kernel
theorem dL_setRights_5 : decode cL_setRights 5 = .ok (.invokevirtual 33, 3) := by decide +kernel
theorem dL_setRights_8 : decode cL_setRights 8 = .ok (.i2l, 1) := by decide +kernel
theorem dL_setRights_9 : decode cL_setRights 9 = .ok (.lastore, 1) := by decide +kernel
theorem dL_setRights_10 : decode cL_setRights 10 = .ok (.goto 15, 3) := by decide +kernel
theorem dL_setRights_13 : decode cL_setRights 13 = .ok (.astore 4, 2) := by decide +kernel
theorem dL_setRights_15 : decode cL_setRights 15 = .ok (.iconst 1, 1) := by decide +kernel
theorem dL_setRights_16 : decode cL_setRights 16 = .ok (.ireturn, 1) := by decide +kernel
theorem dL_setRights_17 : decode cL_setRights 17 = .ok (.astore 4, 2) := by decide +kernel
theorem dL_setRights_19 : decode cL_setRights 19 = .ok (.iconst 2, 1) := by decide +kernel
theorem dL_setRights_20 : decode cL_setRights 20 = .ok (.ireturn, 1) := by decide +kernel
theorem dL_setRights_21 : decode cL_setRights 21 = .ok (.astore 4, 2) := by decide +kernel
theorem dL_setRights_23 : decode cL_setRights 23 = .ok (.iconst 3, 1) := by decide +kernel
theorem dL_setRights_24 : decode cL_setRights 24 = .ok (.ireturn, 1) := by decide +kernel
theorem dL_setRights_25 : decode cL_setRights 25 = .ok (.iconst 0, 1) := by decide +kernel
theorem dL_setRights_26 : decode cL_setRights 26 = .ok (.ireturn, 1) := by decide +kernel
set_option maxRecDepth 20000 in
theorem ggL_run_X1_run : GoodIn wsL_run wsX1_run := goodIn_ca (goodIn_ca (goodIn_r _ [7, 8, 9, 10, 11, 12, 13, 14, 15, 16, 17, 18, 19, 6, 20, 21, 22, 23, 24, 25, 26, 27, 28, 29, 30, 31, 32, 33, 34, 35, 36, 37, 38, 39, 40, 41, 42, 43, 44, 45, 46, 47, 48, 49] (by decide +kernel) (by decide +kernel)) (goodIn_sub (fun _ h => List.mem_cons_of_mem _ (List.mem_append_left _ (List.mem_append_right _ h))) (by decide +kernel))) (goodIn_sub (fun _ h => List.mem_cons_of_mem _ (List.mem_append_right _ h)) (by decide +kernel))
set_option maxRecDepth 20000 in
theorem gL_run_X1_run : GoodIn wsL_run (wsV RL 36 RX1 yX1_run wsX1_run) := goodIn_app (goodIn_of _ (by decide +kernel)) ggL_run_X1_run
theorem dL_run_0 : decode cL_run 0 = .ok (.aload_n 2, 1) := by decide +kernel
theorem dL_run_1 : decode cL_run 1 = .ok (.iconst 0, 1) := by decide +kernel
theorem dL_run_2 : decode cL_run 2 = .ok (.aload_n 0, 1) := by decide +kernel
theorem dL_run_3 : decode cL_run 3 = .ok (.iload_n 1, 1) := by decide +kernel
theorem dL_run_4 : decode cL_run 4 = .ok (.invokevirtual 36, 3) := by decide +kernel
theorem dL_run_7 : decode cL_run 7 = .ok (.i2l, 1) := by decide +kernel
theorem dL_run_8 : decode cL_run 8 = .ok (.lastore, 1) := by decide +kernel
theorem dL_run_9 : decode cL_run 9 = .ok (.goto 9, 3) := by decide +kernel
theorem dL_run_12 : decode cL_run 12 = .ok (.astore_n 3, 1) := by decide +kernel
theorem dL_run_13 : decode cL_run 13 = .ok (.iconst 1, 1) := by decide +kernel
theorem dL_run_14 : decode cL_run 14 = .ok (.ireturn, 1) := by decide +kernel
theorem dL_run_15 : decode cL_run 15 = .ok (.astore_n 3, 1) := by decide +kernel
theorem dL_run_16 : decode cL_run 16 = .ok (.iconst 2, 1) := by decide +kernel
theorem dL_run_17 : decode cL_run 17 = .ok (.ireturn, 1) := by decide +kernel
theorem dL_run_18 : decode cL_run 18 = .ok (.iconst 0, 1) := by decide +kernel
theorem dL_run_19 : decode cL_run 19 = .ok (.ireturn, 1) := by decide +kernel
set_option maxRecDepth 20000 in
theorem ggL_thin_X1_thin : GoodIn wsL_thin wsX1_thin := goodIn_ca (goodIn_ca (goodIn_r _ [7, 8, 9, 10, 11, 12, 13, 14, 15, 16, 6, 17, 18, 19, 20, 21, 22, 23, 24, 25] (by decide +kernel) (by decide +kernel)) (goodIn_sub (fun _ h => List.mem_cons_of_mem _ (List.mem_append_left _ (List.mem_append_right _ h))) (by decide +kernel))) (goodIn_sub (fun _ h => List.mem_cons_of_mem _ (List.mem_append_right _ h)) (by decide +kernel))
set_option maxRecDepth 20000 in
theorem gL_thin_X1_thin : GoodIn wsL_thin (wsV RL 39 RX1 yX1_thin wsX1_thin) := goodIn_app (goodIn_of _ (by decide +kernel)) ggL_thin_X1_thin
theorem dL_thin_0 : decode cL_thin 0 = .ok (.aload_n 2, 1) := by decide +kernel
theorem dL_thin_1 : decode cL_thin 1 = .ok (.iconst 0, 1) := by decide +kernel
theorem dL_thin_2 : decode cL_thin 2 = .ok (.aload_n 0, 1) := by decide +kernel
theorem dL_thin_3 : decode cL_thin 3 = .ok (.iload_n 1, 1) := by decide +kernel
theorem dL_thin_4 : decode cL_thin 4 = .ok (.invokevirtual 39, 3) := by decide +kernel
theorem dL_thin_7 : decode cL_thin 7 = .ok (.i2l, 1) := by decide +kernel
theorem dL_thin_8 : decode cL_thin 8 = .ok (.lastore, 1) := by decide +kernel
theorem dL_thin_9 : decode cL_thin 9 = .ok (.goto 9, 3) := by decide +kernel
theorem dL_thin_12 : decode cL_thin 12 = .ok (.astore_n 3, 1) := by decide +kernel
theorem dL_thin_13 : decode cL_thin 13 = .ok (.iconst 1, 1) := by decide +kernel
theorem dL_thin_14 : decode cL_thin 14 = .ok (.ireturn, 1) := by decide +kernel
theorem dL_thin_15 : decode cL_thin 15 = .ok (.astore_n 3, 1) := by decide +kernel
theorem dL_thin_16 : decode cL_thin 16 = .ok (.iconst 2, 1) := by decide +kernel
theorem dL_thin_17 : decode cL_thin 17 = .ok (.ireturn, 1) := by decide +kernel
theorem dL_thin_18 : decode cL_thin 18 = .ok (.iconst 0, 1) := by decide +kernel
theorem dL_thin_19 : decode cL_thin 19 = .ok (.ireturn, 1) := by decide +kernel
set_option maxRecDepth 20000 in
theorem ggL_restore_X1_restore : GoodIn wsL_restore wsX1_restore := goodIn_ca (goodIn_r _ [6, 7, 8, 9, 10, 11, 5, 12, 13, 14, 15, 16, 17, 18, 19, 20, 21, 22, 23, 24, 25, 26, 27, 28, 29, 30, 31, 32, 33, 34, 35, 36, 37, 38, 39, 40, 41, 42, 43, 44, 45, 46, 47] (by decide +kernel) (by decide +kernel)) (goodIn_sub (fun _ h => List.mem_cons_of_mem _ (List.mem_append_right _ h)) (by decide +kernel))
set_option maxRecDepth 20000 in
theorem gL_restore_X1_restore : GoodIn wsL_restore (wsV RL 42 RX1 yX1_restore wsX1_restore) := goodIn_app (goodIn_of _ (by decide +kernel)) ggL_restore_X1_restore
theorem dL_restore_0 : decode cL_restore 0 = .ok (.aload_n 2, 1) := by decide +kernel
theorem dL_restore_1 : decode cL_restore 1 = .ok (.iconst 0, 1) := by decide +kernel
theorem dL_restore_2 : decode cL_restore 2 = .ok (.aload_n 0, 1) := by decide +kernel
theorem dL_restore_3 : decode cL_restore 3 = .ok (.iload_n 1, 1) := by decide +kernel
theorem dL_restore_4 : decode cL_restore 4 = .ok (.invokevirtual 42, 3) := by decide +kernel
theorem dL_restore_7 : decode cL_restore 7 = .ok (.i2l, 1) := by decide +kernel
theorem dL_restore_8 : decode cL_restore 8 = .ok (.lastore, 1) := by decide +kernel
theorem dL_restore_9 : decode cL_restore 9 = .ok (.goto 6, 3) := by decide +kernel
theorem dL_restore_12 : decode cL_restore 12 = .ok (.astore_n 3, 1) := by decide +kernel
theorem dL_restore_13 : decode cL_restore 13 = .ok (.iconst 1, 1) := by decide +kernel
theorem dL_restore_14 : decode cL_restore 14 = .ok (.ireturn, 1) := by decide +kernel
theorem dL_restore_15 : decode cL_restore 15 = .ok (.iconst 0, 1) := by decide +kernel
theorem dL_restore_16 : decode cL_restore 16 = .ok (.ireturn, 1) := by decide +kernel
set_option maxRecDepth 20000 in
theorem ggL_kindAt_X1_kindAt : GoodIn wsL_kindAt wsX1_kindAt := goodIn_ca (goodIn_r _ [6, 7, 8, 9, 10, 5, 11, 12, 13, 14, 15, 16, 17, 18, 19, 20, 21, 22, 23, 24, 25, 26, 27, 28, 29, 30, 31, 32, 33, 34, 35, 36] (by decide +kernel) (by decide +kernel)) (goodIn_sub (fun _ h => List.mem_cons_of_mem _ (List.mem_append_right _ h)) (by decide +kernel))
set_option maxRecDepth 20000 in
theorem gL_kindAt_X1_kindAt : GoodIn wsL_kindAt (wsV RL 45 RX1 yX1_kindAt wsX1_kindAt) := goodIn_app (goodIn_of _ (by decide +kernel)) ggL_kindAt_X1_kindAt
theorem dL_kindAt_0 : decode cL_kindAt 0 = .ok (.aload_n 3, 1) := by decide +kernel
theorem dL_kindAt_1 : decode cL_kindAt 1 = .ok (.iconst 0, 1) := by decide +kernel
theorem dL_kindAt_2 : decode cL_kindAt 2 = .ok (.aload_n 0, 1) := by decide +kernel
theorem dL_kindAt_3 : decode cL_kindAt 3 = .ok (.iload_n 1, 1) := by decide +kernel
theorem dL_kindAt_4 : decode cL_kindAt 4 = .ok (.iload_n 2, 1) := by decide +kernel
theorem dL_kindAt_5 : decode cL_kindAt 5 = .ok (.invokevirtual 45, 3) := by decide +kernel
theorem dL_kindAt_8 : decode cL_kindAt 8 = .ok (.i2l, 1) := by decide +kernel
theorem dL_kindAt_9 : decode cL_kindAt 9 = .ok (.lastore, 1) := by decide +kernel
theorem dL_kindAt_10 : decode cL_kindAt 10 = .ok (.goto 7, 3) := by decide +kernel
theorem dL_kindAt_13 : decode cL_kindAt 13 = .ok (.astore 4, 2) := by decide +kernel
theorem dL_kindAt_15 : decode cL_kindAt 15 = .ok (.iconst 1, 1) := by decide +kernel
theorem dL_kindAt_16 : decode cL_kindAt 16 = .ok (.ireturn, 1) := by decide +kernel
theorem dL_kindAt_17 : decode cL_kindAt 17 = .ok (.iconst 0, 1) := by decide +kernel
theorem dL_kindAt_18 : decode cL_kindAt 18 = .ok (.ireturn, 1) := by decide +kernel
set_option maxRecDepth 20000 in
theorem ggL_numberAt_X1_numberAt : GoodIn wsL_numberAt wsX1_numberAt := goodIn_ca (goodIn_r _ [6, 7, 8, 9, 10, 11, 12, 5, 13, 14, 15, 16, 17, 18, 19, 20, 21, 22, 23, 24, 25, 26, 27, 28, 29, 30, 31, 32, 33, 34, 35, 36] (by decide +kernel) (by decide +kernel)) (goodIn_sub (fun _ h => List.mem_cons_of_mem _ (List.mem_append_right _ h)) (by decide +kernel))
set_option maxRecDepth 20000 in
theorem gL_numberAt_X1_numberAt : GoodIn wsL_numberAt (wsV RL 48 RX1 yX1_numberAt wsX1_numberAt) := goodIn_app (goodIn_of _ (by decide +kernel)) ggL_numberAt_X1_numberAt
theorem dL_numberAt_0 : decode cL_numberAt 0 = .ok (.aload 4, 2) := by decide +kernel
theorem dL_numberAt_2 : decode cL_numberAt 2 = .ok (.iconst 0, 1) := by decide +kernel
theorem dL_numberAt_3 : decode cL_numberAt 3 = .ok (.aload_n 0, 1) := by decide +kernel
theorem dL_numberAt_4 : decode cL_numberAt 4 = .ok (.iload_n 1, 1) := by decide +kernel
theorem dL_numberAt_5 : decode cL_numberAt 5 = .ok (.iload_n 2, 1) := by decide +kernel
theorem dL_numberAt_6 : decode cL_numberAt 6 = .ok (.iload_n 3, 1) := by decide +kernel
theorem dL_numberAt_7 : decode cL_numberAt 7 = .ok (.invokevirtual 48, 3) := by decide +kernel
theorem dL_numberAt_10 : decode cL_numberAt 10 = .ok (.i2l, 1) := by decide +kernel
theorem dL_numberAt_11 : decode cL_numberAt 11 = .ok (.lastore, 1) := by decide +kernel
theorem dL_numberAt_12 : decode cL_numberAt 12 = .ok (.goto 7, 3) := by decide +kernel
theorem dL_numberAt_15 : decode cL_numberAt 15 = .ok (.astore 5, 2) := by decide +kernel
theorem dL_numberAt_17 : decode cL_numberAt 17 = .ok (.iconst 1, 1) := by decide +kernel
theorem dL_numberAt_18 : decode cL_numberAt 18 = .ok (.ireturn, 1) := by decide +kernel
theorem dL_numberAt_19 : decode cL_numberAt 19 = .ok (.iconst 0, 1) := by decide +kernel
theorem dL_numberAt_20 : decode cL_numberAt 20 = .ok (.ireturn, 1) := by decide +kernel
set_option maxRecDepth 20000 in
theorem ggL_rightsAt_X1_rightsAt : GoodIn wsL_rightsAt wsX1_rightsAt := goodIn_ca (goodIn_r _ [6, 7, 8, 9, 10, 5, 11, 12, 13, 14, 15, 16, 17, 18, 19, 20, 21, 22, 23, 24, 25, 26, 27, 28, 29, 30, 31, 32, 33, 34, 35, 36] (by decide +kernel) (by decide +kernel)) (goodIn_sub (fun _ h => List.mem_cons_of_mem _ (List.mem_append_right _ h)) (by decide +kernel))
set_option maxRecDepth 20000 in
theorem gL_rightsAt_X1_rightsAt : GoodIn wsL_rightsAt (wsV RL 51 RX1 yX1_rightsAt wsX1_rightsAt) := goodIn_app (goodIn_of _ (by decide +kernel)) ggL_rightsAt_X1_rightsAt
theorem dL_rightsAt_0 : decode cL_rightsAt 0 = .ok (.aload_n 3, 1) := by decide +kernel
theorem dL_rightsAt_1 : decode cL_rightsAt 1 = .ok (.iconst 0, 1) := by decide +kernel
theorem dL_rightsAt_2 : decode cL_rightsAt 2 = .ok (.aload_n 0, 1) := by decide +kernel
theorem dL_rightsAt_3 : decode cL_rightsAt 3 = .ok (.iload_n 1, 1) := by decide +kernel
theorem dL_rightsAt_4 : decode cL_rightsAt 4 = .ok (.iload_n 2, 1) := by decide +kernel
theorem dL_rightsAt_5 : decode cL_rightsAt 5 = .ok (.invokevirtual 51, 3) := by decide +kernel
theorem dL_rightsAt_8 : decode cL_rightsAt 8 = .ok (.i2l, 1) := by decide +kernel
theorem dL_rightsAt_9 : decode cL_rightsAt 9 = .ok (.lastore, 1) := by decide +kernel
theorem dL_rightsAt_10 : decode cL_rightsAt 10 = .ok (.goto 7, 3) := by decide +kernel
theorem dL_rightsAt_13 : decode cL_rightsAt 13 = .ok (.astore 4, 2) := by decide +kernel
theorem dL_rightsAt_15 : decode cL_rightsAt 15 = .ok (.iconst 1, 1) := by decide +kernel
theorem dL_rightsAt_16 : decode cL_rightsAt 16 = .ok (.ireturn, 1) := by decide +kernel
theorem dL_rightsAt_17 : decode cL_rightsAt 17 = .ok (.iconst 0, 1) := by decide +kernel
theorem dL_rightsAt_18 : decode cL_rightsAt 18 = .ok (.ireturn, 1) := by decide +kernel
set_option maxRecDepth 20000 in
theorem ggL_sizeAt_X1_sizeAt : GoodIn wsL_sizeAt wsX1_sizeAt := goodIn_ca (goodIn_r _ [6, 7, 8, 9, 5, 10, 11, 12, 13, 14, 15, 16, 17, 18, 19, 20, 21, 22, 23, 24, 25, 26, 27, 28, 29, 30, 31, 32, 33, 34, 35, 36, 37, 38, 39, 40, 41, 42, 43, 44, 45, 46, 47, 48, 49, 50, 51, 52, 53, 54, 55, 56, 57, 58, 59, 60] (by decide +kernel) (by decide +kernel)) (goodIn_sub (fun _ h => List.mem_cons_of_mem _ (List.mem_append_right _ h)) (by decide +kernel))
set_option maxRecDepth 20000 in
theorem gL_sizeAt_X1_sizeAt : GoodIn wsL_sizeAt (wsV RL 54 RX1 yX1_sizeAt wsX1_sizeAt) := goodIn_app (goodIn_of _ (by decide +kernel)) ggL_sizeAt_X1_sizeAt
theorem dL_sizeAt_0 : decode cL_sizeAt 0 = .ok (.aload_n 3, 1) := by decide +kernel
theorem dL_sizeAt_1 : decode cL_sizeAt 1 = .ok (.iconst 0, 1) := by decide +kernel
theorem dL_sizeAt_2 : decode cL_sizeAt 2 = .ok (.aload_n 0, 1) := by decide +kernel
theorem dL_sizeAt_3 : decode cL_sizeAt 3 = .ok (.iload_n 1, 1) := by decide +kernel
theorem dL_sizeAt_4 : decode cL_sizeAt 4 = .ok (.iload_n 2, 1) := by decide +kernel
theorem dL_sizeAt_5 : decode cL_sizeAt 5 = .ok (.invokevirtual 54, 3) := by decide +kernel
theorem dL_sizeAt_8 : decode cL_sizeAt 8 = .ok (.i2l, 1) := by decide +kernel
theorem dL_sizeAt_9 : decode cL_sizeAt 9 = .ok (.lastore, 1) := by decide +kernel
theorem dL_sizeAt_10 : decode cL_sizeAt 10 = .ok (.goto 7, 3) := by decide +kernel
theorem dL_sizeAt_13 : decode cL_sizeAt 13 = .ok (.astore 4, 2) := by decide +kernel
theorem dL_sizeAt_15 : decode cL_sizeAt 15 = .ok (.iconst 1, 1) := by decide +kernel
theorem dL_sizeAt_16 : decode cL_sizeAt 16 = .ok (.ireturn, 1) := by decide +kernel
theorem dL_sizeAt_17 : decode cL_sizeAt 17 = .ok (.iconst 0, 1) := by decide +kernel
theorem dL_sizeAt_18 : decode cL_sizeAt 18 = .ok (.ireturn, 1) := by decide +kernel
set_option maxRecDepth 20000 in
theorem ggL_law_X1_init : GoodIn wsL_law wsX1_init := goodIn_r _ [9, 10, 11, 12, 13, 14, 15, 16, 17, 18, 19, 20, 21, 22, 23, 24, 25, 26, 27, 28, 29, 388, 389, 390, 373, 374, 375, 376, 377, 378] (by decide +kernel) (by decide +kernel)
set_option maxRecDepth 20000 in
theorem gL_law_X1_init : GoodIn wsL_law (wsX1_init) := ggL_law_X1_init
set_option maxRecDepth 20000 in
theorem ggL_law_X2_init : GoodIn wsL_law wsX2_init := goodIn_r _ [32, 33, 11, 12, 16, 34, 35, 36, 37, 379, 380, 381, 382, 383, 384, 385, 386, 387] (by decide +kernel) (by decide +kernel)
set_option maxRecDepth 20000 in
theorem gL_law_X2_init : GoodIn wsL_law (wsX2_init) := ggL_law_X2_init
set_option maxRecDepth 20000 in
theorem ggL_law_L_makeFile : GoodIn wsL_law wsL_makeFile := goodIn_ca (goodIn_r _ [41, 42, 43, 44, 45, 2, 46, 13, 14, 15, 16, 47, 48, 49, 50, 51, 23, 24, 25, 26, 11, 12, 27, 28, 29, 52, 53, 54, 55, 17, 56, 388, 389, 390, 373, 374, 375, 376, 377, 378] (by decide +kernel) (by decide +kernel)) (goodIn_sub (fun _ h => List.mem_append_left _ (List.mem_append_left _ (List.mem_append_right _ h))) (by decide +kernel))
set_option maxRecDepth 20000 in
theorem gL_law_L_makeFile : GoodIn wsL_law (va_wsS RL 61 yL_makeFile wsL_makeFile) := goodIn_app (goodIn_of _ (by decide +kernel)) ggL_law_L_makeFile
set_option maxRecDepth 20000 in
theorem ggL_law_X2_makeFile : GoodIn wsL_law wsX2_makeFile := goodIn_r _ [60, 61, 62, 5, 63, 64, 65, 66, 67, 68, 69, 70, 71, 72, 73, 74, 75, 34, 35, 36, 76, 77, 78, 79, 80, 81, 379, 380, 381, 382, 383, 384, 385, 386, 387] (by decide +kernel) (by decide +kernel)
set_option maxRecDepth 20000 in
theorem gL_law_X2_makeFile : GoodIn wsL_law (wsV RL 66 RX2 yX2_makeFile wsX2_makeFile) := goodIn_app (goodIn_of _ (by decide +kernel)) ggL_law_X2_makeFile
set_option maxRecDepth 20000 in
theorem ggL_law_X2_thrown : GoodIn wsL_law wsX2_thrown := goodIn_r _ [85, 71, 379, 380, 381, 382, 383, 384, 385, 386, 387] (by decide +kernel) (by decide +kernel)
set_option maxRecDepth 20000 in
theorem gL_law_X2_thrown : GoodIn wsL_law (wsV RL 67 RX2 yX2_thrown wsX2_thrown) := goodIn_app (goodIn_of _ (by decide +kernel)) ggL_law_X2_thrown
set_option maxRecDepth 20000 in
theorem ggL_law_L_makeLink : GoodIn wsL_law wsL_makeLink := goodIn_ca (goodIn_r _ [88, 42, 89, 90, 91, 2, 92, 13, 14, 15, 16, 47, 48, 49, 50, 51, 23, 24, 25, 26, 11, 12, 27, 28, 29, 52, 53, 54, 55, 17, 56, 388, 389, 390, 373, 374, 375, 376, 377, 378] (by decide +kernel) (by decide +kernel)) (goodIn_sub (fun _ h => List.mem_append_left _ (List.mem_append_left _ (List.mem_append_right _ h))) (by decide +kernel))
set_option maxRecDepth 20000 in
theorem gL_law_L_makeLink : GoodIn wsL_law (va_wsS RL 71 yL_makeLink wsL_makeLink) := goodIn_app (goodIn_of _ (by decide +kernel)) ggL_law_L_makeLink
set_option maxRecDepth 20000 in
theorem ggL_law_X2_makeLink : GoodIn wsL_law wsX2_makeLink := goodIn_r _ [96, 36, 37, 61, 62, 5, 63, 64, 65, 66, 67, 68, 69, 70, 71, 72, 73, 74, 75, 34, 35, 76, 77, 78, 79, 80, 81, 379, 380, 381, 382, 383, 384, 385, 386, 387] (by decide +kernel) (by decide +kernel)
set_option maxRecDepth 20000 in
theorem gL_law_X2_makeLink : GoodIn wsL_law (wsV RL 74 RX2 yX2_makeLink wsX2_makeLink) := goodIn_app (goodIn_of _ (by decide +kernel)) ggL_law_X2_makeLink
set_option maxRecDepth 20000 in
theorem ggL_law_L_remove : GoodIn wsL_law wsL_remove := goodIn_ca (goodIn_r _ [99, 42, 100, 101, 102, 2, 103, 13, 14, 15, 16, 47, 48, 49, 50, 51, 23, 24, 25, 26, 11, 12, 27, 28, 29, 52, 53, 54, 55, 17, 56, 388, 389, 390, 373, 374, 375, 376, 377, 378] (by decide +kernel) (by decide +kernel)) (goodIn_sub (fun _ h => List.mem_append_left _ (List.mem_append_left _ (List.mem_append_right _ h))) (by decide +kernel))
set_option maxRecDepth 20000 in
theorem gL_law_L_remove : GoodIn wsL_law (va_wsS RL 75 yL_remove wsL_remove) := goodIn_app (goodIn_of _ (by decide +kernel)) ggL_law_L_remove
set_option maxRecDepth 20000 in
theorem ggL_law_X2_remove : GoodIn wsL_law wsX2_remove := goodIn_r _ [107, 61, 62, 5, 63, 64, 65, 66, 67, 68, 69, 70, 71, 72, 73, 74, 75, 34, 35, 36, 76, 77, 78, 79, 80, 81, 379, 380, 381, 382, 383, 384, 385, 386, 387] (by decide +kernel) (by decide +kernel)
set_option maxRecDepth 20000 in
theorem gL_law_X2_remove : GoodIn wsL_law (wsV RL 77 RX2 yX2_remove wsX2_remove) := goodIn_app (goodIn_of _ (by decide +kernel)) ggL_law_X2_remove
set_option maxRecDepth 20000 in
theorem ggL_law_L_put : GoodIn wsL_law wsL_put := goodIn_ca (goodIn_ca (goodIn_ca (goodIn_r _ [110, 42, 111, 112, 113, 114, 115, 2, 116, 117, 118, 119, 120, 17, 121, 56, 13, 14, 15, 122, 47, 48, 49, 50, 51, 123, 124, 125, 16, 23, 24, 25, 26, 11, 12, 27, 28, 29, 373, 374, 375, 376, 377, 378, 388, 389, 390] (by decide +kernel) (by decide +kernel)) (goodIn_sub (fun _ h => List.mem_append_left _ (List.mem_append_right _ h)) (by decide +kernel))) (goodIn_sub (fun _ h => List.mem_append_right _ h) (by decide +kernel))) (goodIn_sub (fun _ h => List.mem_append_left _ (List.mem_append_left _ (List.mem_append_right _ h))) (by decide +kernel))
set_option maxRecDepth 20000 in
theorem gL_law_L_put : GoodIn wsL_law (va_wsS RL 78 yL_put wsL_put) := goodIn_app (goodIn_of _ (by decide +kernel)) ggL_law_L_put
set_option maxRecDepth 20000 in
theorem ggL_law_X2_put : GoodIn wsL_law wsX2_put := goodIn_r _ [129, 34, 36, 37, 61, 62, 5, 63, 64, 65, 66, 67, 68, 69, 70, 71, 76, 77, 78, 79, 80, 81, 379, 380, 381, 382, 383, 384, 385, 386, 387] (by decide +kernel) (by decide +kernel)
set_option maxRecDepth 20000 in
theorem gL_law_X2_put : GoodIn wsL_law (wsV RL 81 RX2 yX2_put wsX2_put) := goodIn_app (goodIn_of _ (by decide +kernel)) ggL_law_X2_put
set_option maxRecDepth 20000 in
theorem ggL_law_L_take : GoodIn wsL_law wsL_take := goodIn_ca (goodIn_ca (goodIn_ca (goodIn_r _ [132, 42, 111, 112, 133, 134, 135, 2, 136, 117, 118, 119, 120, 17, 56, 121, 13, 14, 15, 122, 47, 48, 49, 50, 51, 137, 138, 139, 16, 23, 24, 25, 26, 11, 12, 27, 28, 29, 373, 374, 375, 376, 377, 378, 388, 389, 390] (by decide +kernel) (by decide +kernel)) (goodIn_sub (fun _ h => List.mem_append_left _ (List.mem_append_right _ h)) (by decide +kernel))) (goodIn_sub (fun _ h => List.mem_append_right _ h) (by decide +kernel))) (goodIn_sub (fun _ h => List.mem_append_left _ (List.mem_append_left _ (List.mem_append_right _ h))) (by decide +kernel))
set_option maxRecDepth 20000 in
theorem gL_law_L_take : GoodIn wsL_law (va_wsS RL 82 yL_take wsL_take) := goodIn_app (goodIn_of _ (by decide +kernel)) ggL_law_L_take
set_option maxRecDepth 20000 in
theorem ggL_law_X2_take : GoodIn wsL_law wsX2_take := goodIn_r _ [143, 34, 36, 37, 61, 62, 5, 63, 64, 65, 66, 67, 68, 69, 70, 71, 76, 77, 78, 79, 80, 81, 379, 380, 381, 382, 383, 384, 385, 386, 387] (by decide +kernel) (by decide +kernel)
set_option maxRecDepth 20000 in
theorem gL_law_X2_take : GoodIn wsL_law (wsV RL 84 RX2 yX2_take wsX2_take) := goodIn_app (goodIn_of _ (by decide +kernel)) ggL_law_X2_take
set_option maxRecDepth 20000 in
theorem ggL_law_L_setRights : GoodIn wsL_law wsL_setRights := goodIn_ca (goodIn_ca (goodIn_ca (goodIn_r _ [146, 42, 111, 112, 147, 148, 149, 2, 150, 117, 118, 119, 120, 17, 56, 13, 14, 15, 121, 122, 47, 48, 49, 50, 51, 23, 24, 25, 26, 11, 12, 27, 28, 29, 373, 374, 375, 376, 377, 378, 388, 389, 390] (by decide +kernel) (by decide +kernel)) (goodIn_sub (fun _ h => List.mem_append_left _ (List.mem_append_right _ h)) (by decide +kernel))) (goodIn_sub (fun _ h => List.mem_append_right _ h) (by decide +kernel))) (goodIn_sub (fun _ h => List.mem_append_left _ (List.mem_append_left _ (List.mem_append_right _ h))) (by decide +kernel))
set_option maxRecDepth 20000 in
theorem gL_law_L_setRights : GoodIn wsL_law (va_wsS RL 85 yL_setRights wsL_setRights) := goodIn_app (goodIn_of _ (by decide +kernel)) ggL_law_L_setRights
set_option maxRecDepth 20000 in
theorem ggL_law_X2_setRights : GoodIn wsL_law wsX2_setRights := goodIn_r _ [154, 34, 35, 61, 62, 5, 63, 64, 65, 66, 76, 77, 78, 79, 80, 81, 67, 68, 69, 70, 71, 379, 380, 381, 382, 383, 384, 385, 386, 387] (by decide +kernel) (by decide +kernel)
set_option maxRecDepth 20000 in
theorem gL_law_X2_setRights : GoodIn wsL_law (wsV RL 87 RX2 yX2_setRights wsX2_setRights) := goodIn_app (goodIn_of _ (by decide +kernel)) ggL_law_X2_setRights
set_option maxRecDepth 20000 in
theorem ggL_law_L_run : GoodIn wsL_law wsL_run := goodIn_ca (goodIn_ca (goodIn_r _ [157, 112, 111, 158, 159, 160, 2, 161, 119, 120, 117, 118, 20, 21, 22, 18, 17, 162, 163, 164, 165, 166, 167, 168, 169, 170, 171, 172, 173, 174, 175, 15, 176, 27, 28, 29, 177, 178, 179, 180, 181, 373, 374, 375, 376, 377, 378, 388, 389, 390] (by decide +kernel) (by decide +kernel)) (goodIn_sub (fun _ h => List.mem_append_right _ h) (by decide +kernel))) (goodIn_sub (fun _ h => List.mem_append_left _ (List.mem_append_right _ h)) (by decide +kernel))
set_option maxRecDepth 20000 in
theorem gL_law_L_run : GoodIn wsL_law (va_wsS RL 88 yL_run wsL_run) := goodIn_app (goodIn_of _ (by decide +kernel)) ggL_law_L_run
set_option maxRecDepth 20000 in
theorem ggL_law_X2_run : GoodIn wsL_law wsX2_run := goodIn_r _ [185, 186, 187, 188, 64, 65, 5, 66, 67, 68, 69, 70, 71, 189, 190, 191, 192, 193, 194, 195, 196, 79, 80, 81, 76, 77, 78, 197, 198, 199, 200, 34, 35, 201, 202, 203, 204, 36, 37, 205, 206, 207, 208, 379, 380, 381, 382, 383, 384, 385, 386, 387] (by decide +kernel) (by decide +kernel)
set_option maxRecDepth 20000 in
theorem gL_law_X2_run : GoodIn wsL_law (wsV RL 90 RX2 yX2_run wsX2_run) := goodIn_app (goodIn_of _ (by decide +kernel)) ggL_law_X2_run
set_option maxRecDepth 20000 in
theorem ggL_law_X1_mend : GoodIn wsL_law wsX1_mend := goodIn_r _ [212, 162, 163, 164, 2, 165, 22, 21, 373, 374, 375, 376, 377, 378] (by decide +kernel) (by decide +kernel)
set_option maxRecDepth 20000 in
theorem gL_law_X1_mend : GoodIn wsL_law (wsV RL 91 RX1 yX1_mend wsX1_mend) := goodIn_app (goodIn_of _ (by decide +kernel)) ggL_law_X1_mend
set_option maxRecDepth 20000 in
theorem ggL_law_X2_mend : GoodIn wsL_law wsX2_mend := goodIn_r _ [216, 71, 189, 190, 191, 5, 192, 187, 188, 379, 380, 381, 382, 383, 384, 385, 386, 387] (by decide +kernel) (by decide +kernel)
set_option maxRecDepth 20000 in
theorem gL_law_X2_mend : GoodIn wsL_law (wsV RL 94 RX2 yX2_mend wsX2_mend) := goodIn_app (goodIn_of _ (by decide +kernel)) ggL_law_X2_mend
set_option maxRecDepth 20000 in
theorem ggL_law_L_thin : GoodIn wsL_law wsL_thin := goodIn_ca (goodIn_ca (goodIn_r _ [219, 112, 111, 220, 221, 222, 2, 223, 119, 120, 117, 118, 19, 20, 162, 163, 164, 165, 22, 21, 373, 374, 375, 376, 377, 378] (by decide +kernel) (by decide +kernel)) (goodIn_sub (fun _ h => List.mem_append_right _ h) (by decide +kernel))) (goodIn_sub (fun _ h => List.mem_append_left _ (List.mem_append_right _ h)) (by decide +kernel))
set_option maxRecDepth 20000 in
theorem gL_law_L_thin : GoodIn wsL_law (va_wsS RL 95 yL_thin wsL_thin) := goodIn_app (goodIn_of _ (by decide +kernel)) ggL_law_L_thin
set_option maxRecDepth 20000 in
theorem ggL_law_X2_thin : GoodIn wsL_law wsX2_thin := goodIn_r _ [227, 228, 186, 64, 65, 5, 66, 67, 68, 69, 70, 71, 189, 190, 191, 192, 187, 188, 379, 380, 381, 382, 383, 384, 385, 386, 387] (by decide +kernel) (by decide +kernel)
set_option maxRecDepth 20000 in
theorem gL_law_X2_thin : GoodIn wsL_law (wsV RL 97 RX2 yX2_thin wsX2_thin) := goodIn_app (goodIn_of _ (by decide +kernel)) ggL_law_X2_thin
set_option maxRecDepth 20000 in
theorem ggL_law_L_restore : GoodIn wsL_law wsL_restore := goodIn_ca (goodIn_r _ [231, 42, 232, 233, 234, 2, 235, 18, 17, 236, 237, 238, 239, 50, 51, 19, 20, 162, 163, 164, 165, 22, 21, 170, 171, 172, 173, 174, 175, 15, 176, 27, 28, 29, 177, 178, 179, 180, 181, 373, 374, 375, 376, 377, 378, 388, 389, 390] (by decide +kernel) (by decide +kernel)) (goodIn_sub (fun _ h => List.mem_append_left _ (List.mem_append_left _ (List.mem_append_right _ h))) (by decide +kernel))
set_option maxRecDepth 20000 in
theorem gL_law_L_restore : GoodIn wsL_law (va_wsS RL 98 yL_restore wsL_restore) := goodIn_app (goodIn_of _ (by decide +kernel)) ggL_law_L_restore
set_option maxRecDepth 20000 in
theorem ggL_law_X2_restore : GoodIn wsL_law wsX2_restore := goodIn_r _ [243, 244, 245, 246, 5, 247, 228, 186, 64, 65, 66, 67, 68, 69, 70, 71, 189, 190, 191, 192, 187, 188, 193, 194, 195, 196, 79, 80, 81, 76, 77, 78, 197, 198, 199, 200, 34, 35, 201, 202, 203, 204, 36, 37, 205, 206, 207, 208, 379, 380, 381, 382, 383, 384, 385, 386, 387] (by decide +kernel) (by decide +kernel)
set_option maxRecDepth 20000 in
theorem gL_law_X2_restore : GoodIn wsL_law (wsV RL 100 RX2 yX2_restore wsX2_restore) := goodIn_app (goodIn_of _ (by decide +kernel)) ggL_law_X2_restore
set_option maxRecDepth 20000 in
theorem ggL_law_X1_last : GoodIn wsL_law wsX1_last := goodIn_r _ [251, 20, 373, 374, 375, 376, 377, 378] (by decide +kernel) (by decide +kernel)
set_option maxRecDepth 20000 in
theorem gL_law_X1_last : GoodIn wsL_law (wsV RL 101 RX1 yX1_last wsX1_last) := goodIn_app (goodIn_of _ (by decide +kernel)) ggL_law_X1_last
set_option maxRecDepth 20000 in
theorem ggL_law_X2_last : GoodIn wsL_law wsX2_last := goodIn_r _ [255, 71, 186, 379, 380, 381, 382, 383, 384, 385, 386, 387] (by decide +kernel) (by decide +kernel)
set_option maxRecDepth 20000 in
theorem gL_law_X2_last : GoodIn wsL_law (wsV RL 104 RX2 yX2_last wsX2_last) := goodIn_app (goodIn_of _ (by decide +kernel)) ggL_law_X2_last
set_option maxRecDepth 20000 in
theorem ggL_law_X1_oldest : GoodIn wsL_law wsX1_oldest := goodIn_r _ [259, 19, 373, 374, 375, 376, 377, 378] (by decide +kernel) (by decide +kernel)
set_option maxRecDepth 20000 in
theorem gL_law_X1_oldest : GoodIn wsL_law (wsV RL 105 RX1 yX1_oldest wsX1_oldest) := goodIn_app (goodIn_of _ (by decide +kernel)) ggL_law_X1_oldest
set_option maxRecDepth 20000 in
theorem ggL_law_X2_oldest : GoodIn wsL_law wsX2_oldest := goodIn_r _ [263, 71, 228, 379, 380, 381, 382, 383, 384, 385, 386, 387] (by decide +kernel) (by decide +kernel)
set_option maxRecDepth 20000 in
theorem gL_law_X2_oldest : GoodIn wsL_law (wsV RL 108 RX2 yX2_oldest wsX2_oldest) := goodIn_app (goodIn_of _ (by decide +kernel)) ggL_law_X2_oldest
set_option maxRecDepth 20000 in
theorem ggL_law_X1_isBroken : GoodIn wsL_law wsX1_isBroken := goodIn_r _ [267, 21, 373, 374, 375, 376, 377, 378] (by decide +kernel) (by decide +kernel)
set_option maxRecDepth 20000 in
theorem gL_law_X1_isBroken : GoodIn wsL_law (wsV RL 109 RX1 yX1_isBroken wsX1_isBroken) := goodIn_app (goodIn_of _ (by decide +kernel)) ggL_law_X1_isBroken
set_option maxRecDepth 20000 in
theorem ggL_law_X2_isBroken : GoodIn wsL_law wsX2_isBroken := goodIn_r _ [271, 71, 187, 379, 380, 381, 382, 383, 384, 385, 386, 387] (by decide +kernel) (by decide +kernel)
set_option maxRecDepth 20000 in
theorem gL_law_X2_isBroken : GoodIn wsL_law (wsV RL 113 RX2 yX2_isBroken wsX2_isBroken) := goodIn_app (goodIn_of _ (by decide +kernel)) ggL_law_X2_isBroken
set_option maxRecDepth 20000 in
theorem ggL_law_X1_needs : GoodIn wsL_law wsX1_needs := goodIn_r _ [275, 166, 167, 168, 2, 169, 17, 18, 20, 170, 171, 172, 173, 174, 175, 15, 176, 27, 28, 29, 177, 178, 179, 180, 181, 373, 374, 375, 376, 377, 378, 388, 389, 390] (by decide +kernel) (by decide +kernel)
set_option maxRecDepth 20000 in
theorem gL_law_X1_needs : GoodIn wsL_law (wsV RL 114 RX1 yX1_needs wsX1_needs) := goodIn_app (goodIn_of _ (by decide +kernel)) ggL_law_X1_needs
set_option maxRecDepth 20000 in
theorem ggL_law_X2_needs : GoodIn wsL_law wsX2_needs := goodIn_r _ [279, 71, 186, 193, 194, 195, 5, 196, 79, 80, 81, 76, 77, 78, 197, 198, 199, 200, 34, 35, 201, 202, 203, 204, 36, 37, 379, 380, 381, 382, 383, 384, 385, 386, 387] (by decide +kernel) (by decide +kernel)
set_option maxRecDepth 20000 in
theorem gL_law_X2_needs : GoodIn wsL_law (wsV RL 117 RX2 yX2_needs wsX2_needs) := goodIn_app (goodIn_of _ (by decide +kernel)) ggL_law_X2_needs
set_option maxRecDepth 20000 in
theorem ggL_law_L_kindAt : GoodIn wsL_law wsL_kindAt := goodIn_ca (goodIn_r _ [282, 42, 283, 284, 285, 2, 286, 56, 287, 288, 289, 290, 17, 18, 236, 237, 238, 239, 50, 51, 19, 20, 47, 48, 49, 170, 171, 172, 388, 389, 390, 373, 374, 375, 376, 377, 378] (by decide +kernel) (by decide +kernel)) (goodIn_sub (fun _ h => List.mem_append_left _ (List.mem_append_left _ (List.mem_append_right _ h))) (by decide +kernel))
set_option maxRecDepth 20000 in
theorem gL_law_L_kindAt : GoodIn wsL_law (va_wsS RL 118 yL_kindAt wsL_kindAt) := goodIn_app (goodIn_of _ (by decide +kernel)) ggL_law_L_kindAt
set_option maxRecDepth 20000 in
theorem ggL_law_X2_kindAt : GoodIn wsL_law wsX2_kindAt := goodIn_r _ [294, 34, 295, 296, 297, 5, 298, 244, 245, 246, 247, 228, 186, 64, 65, 66, 61, 62, 63, 67, 68, 69, 70, 71, 299, 300, 301, 79, 80, 81, 379, 380, 381, 382, 383, 384, 385, 386, 387] (by decide +kernel) (by decide +kernel)
set_option maxRecDepth 20000 in
theorem gL_law_X2_kindAt : GoodIn wsL_law (wsV RL 120 RX2 yX2_kindAt wsX2_kindAt) := goodIn_app (goodIn_of _ (by decide +kernel)) ggL_law_X2_kindAt
set_option maxRecDepth 20000 in
theorem ggL_law_L_numberAt : GoodIn wsL_law wsL_numberAt := goodIn_ca (goodIn_r _ [304, 42, 305, 306, 307, 2, 308, 50, 51, 121, 287, 288, 289, 290, 17, 18, 236, 237, 238, 239, 19, 20, 47, 48, 49, 170, 171, 172, 388, 389, 390, 373, 374, 375, 376, 377, 378] (by decide +kernel) (by decide +kernel)) (goodIn_sub (fun _ h => List.mem_append_left _ (List.mem_append_left _ (List.mem_append_right _ h))) (by decide +kernel))
set_option maxRecDepth 20000 in
theorem gL_law_L_numberAt : GoodIn wsL_law (va_wsS RL 121 yL_numberAt wsL_numberAt) := goodIn_app (goodIn_of _ (by decide +kernel)) ggL_law_L_numberAt
set_option maxRecDepth 20000 in
theorem ggL_law_X2_numberAt : GoodIn wsL_law wsX2_numberAt := goodIn_r _ [312, 36, 37, 295, 296, 297, 5, 298, 244, 245, 246, 247, 228, 186, 64, 65, 66, 61, 62, 63, 67, 68, 69, 70, 71, 299, 300, 301, 79, 80, 81, 379, 380, 381, 382, 383, 384, 385, 386, 387] (by decide +kernel) (by decide +kernel)
set_option maxRecDepth 20000 in
theorem gL_law_X2_numberAt : GoodIn wsL_law (wsV RL 123 RX2 yX2_numberAt wsX2_numberAt) := goodIn_app (goodIn_of _ (by decide +kernel)) ggL_law_X2_numberAt
set_option maxRecDepth 20000 in
theorem ggL_law_L_rightsAt : GoodIn wsL_law wsL_rightsAt := goodIn_ca (goodIn_r _ [315, 42, 316, 317, 318, 2, 319, 122, 287, 288, 289, 290, 17, 18, 236, 237, 238, 239, 50, 51, 19, 20, 47, 48, 49, 170, 171, 172, 388, 389, 390, 373, 374, 375, 376, 377, 378] (by decide +kernel) (by decide +kernel)) (goodIn_sub (fun _ h => List.mem_append_left _ (List.mem_append_left _ (List.mem_append_right _ h))) (by decide +kernel))
set_option maxRecDepth 20000 in
theorem gL_law_L_rightsAt : GoodIn wsL_law (va_wsS RL 124 yL_rightsAt wsL_rightsAt) := goodIn_app (goodIn_of _ (by decide +kernel)) ggL_law_L_rightsAt
set_option maxRecDepth 20000 in
theorem ggL_law_X2_rightsAt : GoodIn wsL_law wsX2_rightsAt := goodIn_r _ [323, 35, 295, 296, 297, 5, 298, 244, 245, 246, 247, 228, 186, 64, 65, 66, 61, 62, 63, 67, 68, 69, 70, 71, 299, 300, 301, 79, 80, 81, 379, 380, 381, 382, 383, 384, 385, 386, 387] (by decide +kernel) (by decide +kernel)
set_option maxRecDepth 20000 in
theorem gL_law_X2_rightsAt : GoodIn wsL_law (wsV RL 126 RX2 yX2_rightsAt wsX2_rightsAt) := goodIn_app (goodIn_of _ (by decide +kernel)) ggL_law_X2_rightsAt
set_option maxRecDepth 20000 in
theorem ggL_law_L_sizeAt : GoodIn wsL_law wsL_sizeAt := goodIn_ca (goodIn_r _ [326, 42, 327, 328, 329, 2, 330, 236, 237, 238, 239, 50, 51, 19, 20, 47, 48, 49, 331, 332, 333, 334, 18, 122, 56, 121, 170, 171, 172, 173, 174, 175, 15, 176, 27, 28, 29, 177, 178, 179, 180, 181, 335, 336, 337, 338, 339, 340, 341, 342, 343, 344, 373, 374, 375, 376, 377, 378, 388, 389, 390] (by decide +kernel) (by decide +kernel)) (goodIn_sub (fun _ h => List.mem_append_left _ (List.mem_append_left _ (List.mem_append_right _ h))) (by decide +kernel))
set_option maxRecDepth 20000 in
theorem gL_law_L_sizeAt : GoodIn wsL_law (va_wsS RL 127 yL_sizeAt wsL_sizeAt) := goodIn_app (goodIn_of _ (by decide +kernel)) ggL_law_L_sizeAt
set_option maxRecDepth 20000 in
theorem ggL_law_X2_sizeAt : GoodIn wsL_law wsX2_sizeAt := goodIn_r _ [348, 244, 245, 246, 5, 247, 228, 186, 64, 65, 66, 61, 62, 63, 67, 68, 69, 70, 71, 349, 350, 351, 352, 79, 80, 81, 353, 354, 355, 356, 34, 36, 35, 197, 198, 199, 200, 201, 202, 203, 204, 37, 357, 358, 359, 360, 361, 362, 363, 364, 379, 380, 381, 382, 383, 384, 385, 386, 387] (by decide +kernel) (by decide +kernel)
set_option maxRecDepth 20000 in
theorem gL_law_X2_sizeAt : GoodIn wsL_law (wsV RL 129 RX2 yX2_sizeAt wsX2_sizeAt) := goodIn_app (goodIn_of _ (by decide +kernel)) ggL_law_X2_sizeAt
set_option maxRecDepth 20000 in
theorem ggL_law_X1_size : GoodIn wsL_law wsX1_size := goodIn_r _ [368, 19, 20, 331, 332, 333, 2, 334, 18, 122, 56, 121, 170, 171, 172, 173, 174, 175, 15, 176, 27, 28, 29, 177, 178, 179, 180, 181, 335, 336, 337, 338, 339, 340, 341, 342, 343, 344, 373, 374, 375, 376, 377, 378, 388, 389, 390] (by decide +kernel) (by decide +kernel)
set_option maxRecDepth 20000 in
theorem gL_law_X1_size : GoodIn wsL_law (wsV RL 130 RX1 yX1_size wsX1_size) := goodIn_app (goodIn_of _ (by decide +kernel)) ggL_law_X1_size
set_option maxRecDepth 20000 in
theorem ggL_law_X2_size : GoodIn wsL_law wsX2_size := goodIn_r _ [372, 71, 228, 186, 349, 350, 351, 5, 352, 79, 80, 81, 353, 354, 355, 356, 34, 36, 35, 197, 198, 199, 200, 201, 202, 203, 204, 37, 357, 358, 359, 360, 361, 362, 363, 364, 379, 380, 381, 382, 383, 384, 385, 386, 387] (by decide +kernel) (by decide +kernel)
set_option maxRecDepth 20000 in
theorem gL_law_X2_size : GoodIn wsL_law (wsV RL 133 RX2 yX2_size wsX2_size) := goodIn_app (goodIn_of _ (by decide +kernel)) ggL_law_X2_size
theorem dL_law_0 : decode cL_law 0 = .ok (.new 8, 3) := by decide +kernel
theorem dL_law_3 : decode cL_law 3 = .ok (.dup, 1) := by decide +kernel
theorem dL_law_4 : decode cL_law 4 = .ok (.invokespecial 57, 3) := by decide +kernel
theorem dL_law_7 : decode cL_law 7 = .ok (.astore_n 1, 1) := by decide +kernel
theorem dL_law_8 : decode cL_law 8 = .ok (.new 58, 3) := by decide +kernel
theorem dL_law_11 : decode cL_law 11 = .ok (.dup, 1) := by decide +kernel
theorem dL_law_12 : decode cL_law 12 = .ok (.invokespecial 60, 3) := by decide +kernel
theorem dL_law_15 : decode cL_law 15 = .ok (.astore_n 2, 1) := by decide +kernel
theorem dL_law_16 : decode cL_law 16 = .ok (.iconst 1, 1) := by decide +kernel
theorem dL_law_17 : decode cL_law 17 = .ok (.newarray .long, 2) := by decide +kernel
theorem dL_law_19 : decode cL_law 19 = .ok (.astore_n 3, 1) := by decide +kernel
theorem dL_law_20 : decode cL_law 20 = .ok (.iconst 0, 1) := by decide +kernel
theorem dL_law_21 : decode cL_law 21 = .ok (.istore 4, 2) := by decide +kernel
theorem dL_law_23 : decode cL_law 23 = .ok (.iload 4, 2) := by decide +kernel
theorem dL_law_25 : decode cL_law 25 = .ok (.aload_n 0, 1) := by decide +kernel
theorem dL_law_26 : decode cL_law 26 = .ok (.arraylength, 1) := by decide +kernel
theorem dL_law_27 : decode cL_law 27 = .ok (.iconst 4, 1) := by decide +kernel
theorem dL_law_28 : decode cL_law 28 = .ok (.isub, 1) := by decide +kernel
theorem dL_law_29 : decode cL_law 29 = .ok (.if_icmp .gt 1031, 3) := by decide +kernel
theorem dL_law_32 : decode cL_law 32 = .ok (.aload_n 0, 1) := by decide +kernel
theorem dL_law_33 : decode cL_law 33 = .ok (.iload 4, 2) := by decide +kernel
theorem dL_law_35 : decode cL_law 35 = .ok (.iaload, 1) := by decide +kernel
theorem dL_law_36 : decode cL_law 36 = .ok (.bipush 31, 2) := by decide +kernel
theorem dL_law_38 : decode cL_law 38 = .ok (.iand, 1) := by decide +kernel
theorem dL_law_39 : decode cL_law 39 = .ok (.tableswitch 1015 0 18 #[89, 145, 213, 269, 349, 417, 485, 541, 554, 610, 666, 679, 692, 705, 718, 786, 866, 934, 1002], 89) := by decide +kernel
theorem dL_law_128 : decode cL_law 128 = .ok (.aload_n 1, 1) := by decide +kernel
theorem dL_law_129 : decode cL_law 129 = .ok (.aload_n 0, 1) := by decide +kernel
theorem dL_law_130 : decode cL_law 130 = .ok (.iload 4, 2) := by decide +kernel
theorem dL_law_132 : decode cL_law 132 = .ok (.iconst 1, 1) := by decide +kernel
theorem dL_law_133 : decode cL_law 133 = .ok (.iadd, 1) := by decide +kernel
theorem dL_law_134 : decode cL_law 134 = .ok (.iaload, 1) := by decide +kernel
theorem dL_law_135 : decode cL_law 135 = .ok (.aload_n 3, 1) := by decide +kernel
theorem dL_law_136 : decode cL_law 136 = .ok (.invokestatic 61, 3) := by decide +kernel
theorem dL_law_139 : decode cL_law 139 = .ok (.istore 5, 2) := by decide +kernel
theorem dL_law_141 : decode cL_law 141 = .ok (.aload_n 2, 1) := by decide +kernel
theorem dL_law_142 : decode cL_law 142 = .ok (.aload_n 0, 1) := by decide +kernel
theorem dL_law_143 : decode cL_law 143 = .ok (.iload 4, 2) := by decide +kernel
theorem dL_law_145 : decode cL_law 145 = .ok (.iconst 1, 1) := by decide +kernel
theorem dL_law_146 : decode cL_law 146 = .ok (.iadd, 1) := by decide +kernel
theorem dL_law_147 : decode cL_law 147 = .ok (.iaload, 1) := by decide +kernel
theorem dL_law_148 : decode cL_law 148 = .ok (.invokevirtual 66, 3) := by decide +kernel
theorem dL_law_151 : decode cL_law 151 = .ok (.istore 6, 2) := by decide +kernel
theorem dL_law_153 : decode cL_law 153 = .ok (.aload_n 2, 1) := by decide +kernel
theorem dL_law_154 : decode cL_law 154 = .ok (.invokevirtual 67, 3) := by decide +kernel
theorem dL_law_157 : decode cL_law 157 = .ok (.iload 5, 2) := by decide +kernel
theorem dL_law_159 : decode cL_law 159 = .ok (.if_icmp .eq 5, 3) := by decide +kernel
theorem dL_law_162 : decode cL_law 162 = .ok (.iconst 0, 1) := by decide +kernel
theorem dL_law_163 : decode cL_law 163 = .ok (.ireturn, 1) := by decide +kernel
theorem dL_law_164 : decode cL_law 164 = .ok (.iload 5, 2) := by decide +kernel
theorem dL_law_166 : decode cL_law 166 = .ok (.ifCond .ne 15, 3) := by decide +kernel
theorem dL_law_169 : decode cL_law 169 = .ok (.aload_n 3, 1) := by decide +kernel
theorem dL_law_170 : decode cL_law 170 = .ok (.iconst 0, 1) := by decide +kernel
theorem dL_law_171 : decode cL_law 171 = .ok (.laload, 1) := by decide +kernel
theorem dL_law_172 : decode cL_law 172 = .ok (.iload 6, 2) := by decide +kernel
theorem dL_law_174 : decode cL_law 174 = .ok (.i2l, 1) := by decide +kernel
theorem dL_law_175 : decode cL_law 175 = .ok (.lcmp, 1) := by decide +kernel
theorem dL_law_176 : decode cL_law 176 = .ok (.ifCond .eq 5, 3) := by decide +kernel
theorem dL_law_179 : decode cL_law 179 = .ok (.iconst 0, 1) := by decide +kernel
theorem dL_law_180 : decode cL_law 180 = .ok (.ireturn, 1) := by decide +kernel
theorem dL_law_181 : decode cL_law 181 = .ok (.goto 873, 3) := by decide +kernel
theorem dL_law_184 : decode cL_law 184 = .ok (.aload_n 1, 1) := by decide +kernel
theorem dL_law_185 : decode cL_law 185 = .ok (.aload_n 0, 1) := by decide +kernel
theorem dL_law_186 : decode cL_law 186 = .ok (.iload 4, 2) := by decide +kernel
theorem dL_law_188 : decode cL_law 188 = .ok (.iconst 1, 1) := by decide +kernel
theorem dL_law_189 : decode cL_law 189 = .ok (.iadd, 1) := by decide +kernel
theorem dL_law_190 : decode cL_law 190 = .ok (.iaload, 1) := by decide +kernel
theorem dL_law_191 : decode cL_law 191 = .ok (.aload_n 0, 1) := by decide +kernel
theorem dL_law_192 : decode cL_law 192 = .ok (.iload 4, 2) := by decide +kernel
theorem dL_law_194 : decode cL_law 194 = .ok (.iconst 2, 1) := by decide +kernel
theorem dL_law_195 : decode cL_law 195 = .ok (.iadd, 1) := by decide +kernel
theorem dL_law_196 : decode cL_law 196 = .ok (.iaload, 1) := by decide +kernel
theorem dL_law_197 : decode cL_law 197 = .ok (.aload_n 3, 1) := by decide +kernel
theorem dL_law_198 : decode cL_law 198 = .ok (.invokestatic 71, 3) := by decide +kernel
theorem dL_law_201 : decode cL_law 201 = .ok (.istore 5, 2) := by decide +kernel
theorem dL_law_203 : decode cL_law 203 = .ok (.aload_n 2, 1) := by decide +kernel
theorem dL_law_204 : decode cL_law 204 = .ok (.aload_n 0, 1) := by decide +kernel
theorem dL_law_205 : decode cL_law 205 = .ok (.iload 4, 2) := by decide +kernel
theorem dL_law_207 : decode cL_law 207 = .ok (.iconst 1, 1) := by decide +kernel
theorem dL_law_208 : decode cL_law 208 = .ok (.iadd, 1) := by decide +kernel
theorem dL_law_209 : decode cL_law 209 = .ok (.iaload, 1) := by decide +kernel
theorem dL_law_210 : decode cL_law 210 = .ok (.aload_n 0, 1) := by decide +kernel
theorem dL_law_211 : decode cL_law 211 = .ok (.iload 4, 2) := by decide +kernel
theorem dL_law_213 : decode cL_law 213 = .ok (.iconst 2, 1) := by decide +kernel
theorem dL_law_214 : decode cL_law 214 = .ok (.iadd, 1) := by decide +kernel
theorem dL_law_215 : decode cL_law 215 = .ok (.iaload, 1) := by decide +kernel
theorem dL_law_216 : decode cL_law 216 = .ok (.invokevirtual 74, 3) := by decide +kernel
theorem dL_law_219 : decode cL_law 219 = .ok (.istore 6, 2) := by decide +kernel
theorem dL_law_221 : decode cL_law 221 = .ok (.aload_n 2, 1) := by decide +kernel
theorem dL_law_222 : decode cL_law 222 = .ok (.invokevirtual 67, 3) := by decide +kernel
theorem dL_law_225 : decode cL_law 225 = .ok (.iload 5, 2) := by decide +kernel
theorem dL_law_227 : decode cL_law 227 = .ok (.if_icmp .eq 5, 3) := by decide +kernel
theorem dL_law_230 : decode cL_law 230 = .ok (.iconst 0, 1) := by decide +kernel
theorem dL_law_231 : decode cL_law 231 = .ok (.ireturn, 1) := by decide +kernel
theorem dL_law_232 : decode cL_law 232 = .ok (.iload 5, 2) := by decide +kernel
theorem dL_law_234 : decode cL_law 234 = .ok (.ifCond .ne 15, 3) := by decide +kernel
theorem dL_law_237 : decode cL_law 237 = .ok (.aload_n 3, 1) := by decide +kernel
theorem dL_law_238 : decode cL_law 238 = .ok (.iconst 0, 1) := by decide +kernel
theorem dL_law_239 : decode cL_law 239 = .ok (.laload, 1) := by decide +kernel
theorem dL_law_240 : decode cL_law 240 = .ok (.iload 6, 2) := by decide +kernel
theorem dL_law_242 : decode cL_law 242 = .ok (.i2l, 1) := by decide +kernel
theorem dL_law_243 : decode cL_law 243 = .ok (.lcmp, 1) := by decide +kernel
theorem dL_law_244 : decode cL_law 244 = .ok (.ifCond .eq 5, 3) := by decide +kernel
theorem dL_law_247 : decode cL_law 247 = .ok (.iconst 0, 1) := by decide +kernel
theorem dL_law_248 : decode cL_law 248 = .ok (.ireturn, 1) := by decide +kernel
theorem dL_law_249 : decode cL_law 249 = .ok (.goto 805, 3) := by decide +kernel
theorem dL_law_252 : decode cL_law 252 = .ok (.aload_n 1, 1) := by decide +kernel
theorem dL_law_253 : decode cL_law 253 = .ok (.aload_n 0, 1) := by decide +kernel
theorem dL_law_254 : decode cL_law 254 = .ok (.iload 4, 2) := by decide +kernel
theorem dL_law_256 : decode cL_law 256 = .ok (.iconst 1, 1) := by decide +kernel
theorem dL_law_257 : decode cL_law 257 = .ok (.iadd, 1) := by decide +kernel
theorem dL_law_258 : decode cL_law 258 = .ok (.iaload, 1) := by decide +kernel
theorem dL_law_259 : decode cL_law 259 = .ok (.aload_n 3, 1) := by decide +kernel
theorem dL_law_260 : decode cL_law 260 = .ok (.invokestatic 75, 3) := by decide +kernel
theorem dL_law_263 : decode cL_law 263 = .ok (.istore 5, 2) := by decide +kernel
theorem dL_law_265 : decode cL_law 265 = .ok (.aload_n 2, 1) := by decide +kernel
theorem dL_law_266 : decode cL_law 266 = .ok (.aload_n 0, 1) := by decide +kernel
theorem dL_law_267 : decode cL_law 267 = .ok (.iload 4, 2) := by decide +kernel
theorem dL_law_269 : decode cL_law 269 = .ok (.iconst 1, 1) := by decide +kernel
theorem dL_law_270 : decode cL_law 270 = .ok (.iadd, 1) := by decide +kernel
theorem dL_law_271 : decode cL_law 271 = .ok (.iaload, 1) := by decide +kernel
theorem dL_law_272 : decode cL_law 272 = .ok (.invokevirtual 77, 3) := by decide +kernel
theorem dL_law_275 : decode cL_law 275 = .ok (.istore 6, 2) := by decide +kernel
theorem dL_law_277 : decode cL_law 277 = .ok (.aload_n 2, 1) := by decide +kernel
theorem dL_law_278 : decode cL_law 278 = .ok (.invokevirtual 67, 3) := by decide +kernel
theorem dL_law_281 : decode cL_law 281 = .ok (.iload 5, 2) := by decide +kernel
theorem dL_law_283 : decode cL_law 283 = .ok (.if_icmp .eq 5, 3) := by decide +kernel
theorem dL_law_286 : decode cL_law 286 = .ok (.iconst 0, 1) := by decide +kernel
theorem dL_law_287 : decode cL_law 287 = .ok (.ireturn, 1) := by decide +kernel
theorem dL_law_288 : decode cL_law 288 = .ok (.iload 5, 2) := by decide +kernel
theorem dL_law_290 : decode cL_law 290 = .ok (.ifCond .ne 15, 3) := by decide +kernel
theorem dL_law_293 : decode cL_law 293 = .ok (.aload_n 3, 1) := by decide +kernel
theorem dL_law_294 : decode cL_law 294 = .ok (.iconst 0, 1) := by decide +kernel
theorem dL_law_295 : decode cL_law 295 = .ok (.laload, 1) := by decide +kernel
theorem dL_law_296 : decode cL_law 296 = .ok (.iload 6, 2) := by decide +kernel
theorem dL_law_298 : decode cL_law 298 = .ok (.i2l, 1) := by decide +kernel
theorem dL_law_299 : decode cL_law 299 = .ok (.lcmp, 1) := by decide +kernel
theorem dL_law_300 : decode cL_law 300 = .ok (.ifCond .eq 5, 3) := by decide +kernel
theorem dL_law_303 : decode cL_law 303 = .ok (.iconst 0, 1) := by decide +kernel
theorem dL_law_304 : decode cL_law 304 = .ok (.ireturn, 1) := by decide +kernel
theorem dL_law_305 : decode cL_law 305 = .ok (.goto 749, 3) := by decide +kernel
theorem dL_law_308 : decode cL_law 308 = .ok (.aload_n 1, 1) := by decide +kernel
theorem dL_law_309 : decode cL_law 309 = .ok (.aload_n 0, 1) := by decide +kernel
theorem dL_law_310 : decode cL_law 310 = .ok (.iload 4, 2) := by decide +kernel
theorem dL_law_312 : decode cL_law 312 = .ok (.iconst 1, 1) := by decide +kernel
theorem dL_law_313 : decode cL_law 313 = .ok (.iadd, 1) := by decide +kernel
theorem dL_law_314 : decode cL_law 314 = .ok (.iaload, 1) := by decide +kernel
theorem dL_law_315 : decode cL_law 315 = .ok (.aload_n 0, 1) := by decide +kernel
theorem dL_law_316 : decode cL_law 316 = .ok (.iload 4, 2) := by decide +kernel
theorem dL_law_318 : decode cL_law 318 = .ok (.iconst 2, 1) := by decide +kernel
theorem dL_law_319 : decode cL_law 319 = .ok (.iadd, 1) := by decide +kernel
theorem dL_law_320 : decode cL_law 320 = .ok (.iaload, 1) := by decide +kernel
theorem dL_law_321 : decode cL_law 321 = .ok (.aload_n 0, 1) := by decide +kernel
theorem dL_law_322 : decode cL_law 322 = .ok (.iload 4, 2) := by decide +kernel
theorem dL_law_324 : decode cL_law 324 = .ok (.iconst 3, 1) := by decide +kernel
theorem dL_law_325 : decode cL_law 325 = .ok (.iadd, 1) := by decide +kernel
theorem dL_law_326 : decode cL_law 326 = .ok (.iaload, 1) := by decide +kernel
theorem dL_law_327 : decode cL_law 327 = .ok (.aload_n 3, 1) := by decide +kernel
theorem dL_law_328 : decode cL_law 328 = .ok (.invokestatic 78, 3) := by decide +kernel
theorem dL_law_331 : decode cL_law 331 = .ok (.istore 5, 2) := by decide +kernel
theorem dL_law_333 : decode cL_law 333 = .ok (.aload_n 2, 1) := by decide +kernel
theorem dL_law_334 : decode cL_law 334 = .ok (.aload_n 0, 1) := by decide +kernel
theorem dL_law_335 : decode cL_law 335 = .ok (.iload 4, 2) := by decide +kernel
theorem dL_law_337 : decode cL_law 337 = .ok (.iconst 1, 1) := by decide +kernel
theorem dL_law_338 : decode cL_law 338 = .ok (.iadd, 1) := by decide +kernel
theorem dL_law_339 : decode cL_law 339 = .ok (.iaload, 1) := by decide +kernel
theorem dL_law_340 : decode cL_law 340 = .ok (.aload_n 0, 1) := by decide +kernel
theorem dL_law_341 : decode cL_law 341 = .ok (.iload 4, 2) := by decide +kernel
theorem dL_law_343 : decode cL_law 343 = .ok (.iconst 2, 1) := by decide +kernel
theorem dL_law_344 : decode cL_law 344 = .ok (.iadd, 1) := by decide +kernel
theorem dL_law_345 : decode cL_law 345 = .ok (.iaload, 1) := by decide +kernel
theorem dL_law_346 : decode cL_law 346 = .ok (.aload_n 0, 1) := by decide +kernel
theorem dL_law_347 : decode cL_law 347 = .ok (.iload 4, 2) := by decide +kernel
theorem dL_law_349 : decode cL_law 349 = .ok (.iconst 3, 1) := by decide +kernel
theorem dL_law_350 : decode cL_law 350 = .ok (.iadd, 1) := by decide +kernel
theorem dL_law_351 : decode cL_law 351 = .ok (.iaload, 1) := by decide +kernel
theorem dL_law_352 : decode cL_law 352 = .ok (.invokevirtual 81, 3) := by decide +kernel
theorem dL_law_355 : decode cL_law 355 = .ok (.istore 6, 2) := by decide +kernel
theorem dL_law_357 : decode cL_law 357 = .ok (.aload_n 2, 1) := by decide +kernel
theorem dL_law_358 : decode cL_law 358 = .ok (.invokevirtual 67, 3) := by decide +kernel
theorem dL_law_361 : decode cL_law 361 = .ok (.iload 5, 2) := by decide +kernel
theorem dL_law_363 : decode cL_law 363 = .ok (.if_icmp .eq 5, 3) := by decide +kernel
theorem dL_law_366 : decode cL_law 366 = .ok (.iconst 0, 1) := by decide +kernel
theorem dL_law_367 : decode cL_law 367 = .ok (.ireturn, 1) := by decide +kernel
theorem dL_law_368 : decode cL_law 368 = .ok (.iload 5, 2) := by decide +kernel
theorem dL_law_370 : decode cL_law 370 = .ok (.ifCond .ne 15, 3) := by decide +kernel
theorem dL_law_373 : decode cL_law 373 = .ok (.aload_n 3, 1) := by decide +kernel
theorem dL_law_374 : decode cL_law 374 = .ok (.iconst 0, 1) := by decide +kernel
theorem dL_law_375 : decode cL_law 375 = .ok (.laload, 1) := by decide +kernel
theorem dL_law_376 : decode cL_law 376 = .ok (.iload 6, 2) := by decide +kernel
theorem dL_law_378 : decode cL_law 378 = .ok (.i2l, 1) := by decide +kernel
theorem dL_law_379 : decode cL_law 379 = .ok (.lcmp, 1) := by decide +kernel
theorem dL_law_380 : decode cL_law 380 = .ok (.ifCond .eq 5, 3) := by decide +kernel
theorem dL_law_383 : decode cL_law 383 = .ok (.iconst 0, 1) := by decide +kernel
theorem dL_law_384 : decode cL_law 384 = .ok (.ireturn, 1) := by decide +kernel
theorem dL_law_385 : decode cL_law 385 = .ok (.goto 669, 3) := by decide +kernel
theorem dL_law_388 : decode cL_law 388 = .ok (.aload_n 1, 1) := by decide +kernel
theorem dL_law_389 : decode cL_law 389 = .ok (.aload_n 0, 1) := by decide +kernel
theorem dL_law_390 : decode cL_law 390 = .ok (.iload 4, 2) := by decide +kernel
theorem dL_law_392 : decode cL_law 392 = .ok (.iconst 1, 1) := by decide +kernel
theorem dL_law_393 : decode cL_law 393 = .ok (.iadd, 1) := by decide +kernel
theorem dL_law_394 : decode cL_law 394 = .ok (.iaload, 1) := by decide +kernel
theorem dL_law_395 : decode cL_law 395 = .ok (.aload_n 0, 1) := by decide +kernel
theorem dL_law_396 : decode cL_law 396 = .ok (.iload 4, 2) := by decide +kernel
theorem dL_law_398 : decode cL_law 398 = .ok (.iconst 2, 1) := by decide +kernel
theorem dL_law_399 : decode cL_law 399 = .ok (.iadd, 1) := by decide +kernel
theorem dL_law_400 : decode cL_law 400 = .ok (.iaload, 1) := by decide +kernel
theorem dL_law_401 : decode cL_law 401 = .ok (.aload_n 3, 1) := by decide +kernel
theorem dL_law_402 : decode cL_law 402 = .ok (.invokestatic 82, 3) := by decide +kernel
theorem dL_law_405 : decode cL_law 405 = .ok (.istore 5, 2) := by decide +kernel
theorem dL_law_407 : decode cL_law 407 = .ok (.aload_n 2, 1) := by decide +kernel
theorem dL_law_408 : decode cL_law 408 = .ok (.aload_n 0, 1) := by decide +kernel
theorem dL_law_409 : decode cL_law 409 = .ok (.iload 4, 2) := by decide +kernel
theorem dL_law_411 : decode cL_law 411 = .ok (.iconst 1, 1) := by decide +kernel
theorem dL_law_412 : decode cL_law 412 = .ok (.iadd, 1) := by decide +kernel
theorem dL_law_413 : decode cL_law 413 = .ok (.iaload, 1) := by decide +kernel
theorem dL_law_414 : decode cL_law 414 = .ok (.aload_n 0, 1) := by decide +kernel
theorem dL_law_415 : decode cL_law 415 = .ok (.iload 4, 2) := by decide +kernel
theorem dL_law_417 : decode cL_law 417 = .ok (.iconst 2, 1) := by decide +kernel
theorem dL_law_418 : decode cL_law 418 = .ok (.iadd, 1) := by decide +kernel
theorem dL_law_419 : decode cL_law 419 = .ok (.iaload, 1) := by decide +kernel
theorem dL_law_420 : decode cL_law 420 = .ok (.invokevirtual 84, 3) := by decide +kernel
theorem dL_law_423 : decode cL_law 423 = .ok (.istore 6, 2) := by decide +kernel
theorem dL_law_425 : decode cL_law 425 = .ok (.aload_n 2, 1) := by decide +kernel
theorem dL_law_426 : decode cL_law 426 = .ok (.invokevirtual 67, 3) := by decide +kernel
theorem dL_law_429 : decode cL_law 429 = .ok (.iload 5, 2) := by decide +kernel
theorem dL_law_431 : decode cL_law 431 = .ok (.if_icmp .eq 5, 3) := by decide +kernel
theorem dL_law_434 : decode cL_law 434 = .ok (.iconst 0, 1) := by decide +kernel
theorem dL_law_435 : decode cL_law 435 = .ok (.ireturn, 1) := by decide +kernel
theorem dL_law_436 : decode cL_law 436 = .ok (.iload 5, 2) := by decide +kernel
theorem dL_law_438 : decode cL_law 438 = .ok (.ifCond .ne 15, 3) := by decide +kernel
theorem dL_law_441 : decode cL_law 441 = .ok (.aload_n 3, 1) := by decide +kernel
theorem dL_law_442 : decode cL_law 442 = .ok (.iconst 0, 1) := by decide +kernel
theorem dL_law_443 : decode cL_law 443 = .ok (.laload, 1) := by decide +kernel
theorem dL_law_444 : decode cL_law 444 = .ok (.iload 6, 2) := by decide +kernel
theorem dL_law_446 : decode cL_law 446 = .ok (.i2l, 1) := by decide +kernel
theorem dL_law_447 : decode cL_law 447 = .ok (.lcmp, 1) := by decide +kernel
theorem dL_law_448 : decode cL_law 448 = .ok (.ifCond .eq 5, 3) := by decide +kernel
theorem dL_law_451 : decode cL_law 451 = .ok (.iconst 0, 1) := by decide +kernel
theorem dL_law_452 : decode cL_law 452 = .ok (.ireturn, 1) := by decide +kernel
theorem dL_law_453 : decode cL_law 453 = .ok (.goto 601, 3) := by decide +kernel
theorem dL_law_456 : decode cL_law 456 = .ok (.aload_n 1, 1) := by decide +kernel
theorem dL_law_457 : decode cL_law 457 = .ok (.aload_n 0, 1) := by decide +kernel
theorem dL_law_458 : decode cL_law 458 = .ok (.iload 4, 2) := by decide +kernel
theorem dL_law_460 : decode cL_law 460 = .ok (.iconst 1, 1) := by decide +kernel
theorem dL_law_461 : decode cL_law 461 = .ok (.iadd, 1) := by decide +kernel
theorem dL_law_462 : decode cL_law 462 = .ok (.iaload, 1) := by decide +kernel
theorem dL_law_463 : decode cL_law 463 = .ok (.aload_n 0, 1) := by decide +kernel
theorem dL_law_464 : decode cL_law 464 = .ok (.iload 4, 2) := by decide +kernel
theorem dL_law_466 : decode cL_law 466 = .ok (.iconst 2, 1) := by decide +kernel
theorem dL_law_467 : decode cL_law 467 = .ok (.iadd, 1) := by decide +kernel
theorem dL_law_468 : decode cL_law 468 = .ok (.iaload, 1) := by decide +kernel
theorem dL_law_469 : decode cL_law 469 = .ok (.aload_n 3, 1) := by decide +kernel
theorem dL_law_470 : decode cL_law 470 = .ok (.invokestatic 85, 3) := by decide +kernel
theorem dL_law_473 : decode cL_law 473 = .ok (.istore 5, 2) := by decide +kernel
theorem dL_law_475 : decode cL_law 475 = .ok (.aload_n 2, 1) := by decide +kernel
theorem dL_law_476 : decode cL_law 476 = .ok (.aload_n 0, 1) := by decide +kernel
theorem dL_law_477 : decode cL_law 477 = .ok (.iload 4, 2) := by decide +kernel
theorem dL_law_479 : decode cL_law 479 = .ok (.iconst 1, 1) := by decide +kernel
theorem dL_law_480 : decode cL_law 480 = .ok (.iadd, 1) := by decide +kernel
theorem dL_law_481 : decode cL_law 481 = .ok (.iaload, 1) := by decide +kernel
theorem dL_law_482 : decode cL_law 482 = .ok (.aload_n 0, 1) := by decide +kernel
theorem dL_law_483 : decode cL_law 483 = .ok (.iload 4, 2) := by decide +kernel
theorem dL_law_485 : decode cL_law 485 = .ok (.iconst 2, 1) := by decide +kernel
theorem dL_law_486 : decode cL_law 486 = .ok (.iadd, 1) := by decide +kernel
theorem dL_law_487 : decode cL_law 487 = .ok (.iaload, 1) := by decide +kernel
theorem dL_law_488 : decode cL_law 488 = .ok (.invokevirtual 87, 3) := by decide +kernel
theorem dL_law_491 : decode cL_law 491 = .ok (.istore 6, 2) := by decide +kernel
theorem dL_law_493 : decode cL_law 493 = .ok (.aload_n 2, 1) := by decide +kernel
theorem dL_law_494 : decode cL_law 494 = .ok (.invokevirtual 67, 3) := by decide +kernel
theorem dL_law_497 : decode cL_law 497 = .ok (.iload 5, 2) := by decide +kernel
theorem dL_law_499 : decode cL_law 499 = .ok (.if_icmp .eq 5, 3) := by decide +kernel
theorem dL_law_502 : decode cL_law 502 = .ok (.iconst 0, 1) := by decide +kernel
theorem dL_law_503 : decode cL_law 503 = .ok (.ireturn, 1) := by decide +kernel
theorem dL_law_504 : decode cL_law 504 = .ok (.iload 5, 2) := by decide +kernel
theorem dL_law_506 : decode cL_law 506 = .ok (.ifCond .ne 15, 3) := by decide +kernel
theorem dL_law_509 : decode cL_law 509 = .ok (.aload_n 3, 1) := by decide +kernel
theorem dL_law_510 : decode cL_law 510 = .ok (.iconst 0, 1) := by decide +kernel
theorem dL_law_511 : decode cL_law 511 = .ok (.laload, 1) := by decide +kernel
theorem dL_law_512 : decode cL_law 512 = .ok (.iload 6, 2) := by decide +kernel
theorem dL_law_514 : decode cL_law 514 = .ok (.i2l, 1) := by decide +kernel
theorem dL_law_515 : decode cL_law 515 = .ok (.lcmp, 1) := by decide +kernel
theorem dL_law_516 : decode cL_law 516 = .ok (.ifCond .eq 5, 3) := by decide +kernel
theorem dL_law_519 : decode cL_law 519 = .ok (.iconst 0, 1) := by decide +kernel
theorem dL_law_520 : decode cL_law 520 = .ok (.ireturn, 1) := by decide +kernel
theorem dL_law_521 : decode cL_law 521 = .ok (.goto 533, 3) := by decide +kernel
theorem dL_law_524 : decode cL_law 524 = .ok (.aload_n 1, 1) := by decide +kernel
theorem dL_law_525 : decode cL_law 525 = .ok (.aload_n 0, 1) := by decide +kernel
theorem dL_law_526 : decode cL_law 526 = .ok (.iload 4, 2) := by decide +kernel
theorem dL_law_528 : decode cL_law 528 = .ok (.iconst 1, 1) := by decide +kernel
theorem dL_law_529 : decode cL_law 529 = .ok (.iadd, 1) := by decide +kernel
theorem dL_law_530 : decode cL_law 530 = .ok (.iaload, 1) := by decide +kernel
theorem dL_law_531 : decode cL_law 531 = .ok (.aload_n 3, 1) := by decide +kernel
theorem dL_law_532 : decode cL_law 532 = .ok (.invokestatic 88, 3) := by decide +kernel
theorem dL_law_535 : decode cL_law 535 = .ok (.istore 5, 2) := by decide +kernel
theorem dL_law_537 : decode cL_law 537 = .ok (.aload_n 2, 1) := by decide +kernel
theorem dL_law_538 : decode cL_law 538 = .ok (.aload_n 0, 1) := by decide +kernel
theorem dL_law_539 : decode cL_law 539 = .ok (.iload 4, 2) := by decide +kernel
theorem dL_law_541 : decode cL_law 541 = .ok (.iconst 1, 1) := by decide +kernel
theorem dL_law_542 : decode cL_law 542 = .ok (.iadd, 1) := by decide +kernel
theorem dL_law_543 : decode cL_law 543 = .ok (.iaload, 1) := by decide +kernel
theorem dL_law_544 : decode cL_law 544 = .ok (.invokevirtual 90, 3) := by decide +kernel
theorem dL_law_547 : decode cL_law 547 = .ok (.istore 6, 2) := by decide +kernel
theorem dL_law_549 : decode cL_law 549 = .ok (.aload_n 2, 1) := by decide +kernel
theorem dL_law_550 : decode cL_law 550 = .ok (.invokevirtual 67, 3) := by decide +kernel
theorem dL_law_553 : decode cL_law 553 = .ok (.iload 5, 2) := by decide +kernel
theorem dL_law_555 : decode cL_law 555 = .ok (.if_icmp .eq 5, 3) := by decide +kernel
theorem dL_law_558 : decode cL_law 558 = .ok (.iconst 0, 1) := by decide +kernel
theorem dL_law_559 : decode cL_law 559 = .ok (.ireturn, 1) := by decide +kernel
theorem dL_law_560 : decode cL_law 560 = .ok (.iload 5, 2) := by decide +kernel
theorem dL_law_562 : decode cL_law 562 = .ok (.ifCond .ne 15, 3) := by decide +kernel
theorem dL_law_565 : decode cL_law 565 = .ok (.aload_n 3, 1) := by decide +kernel
theorem dL_law_566 : decode cL_law 566 = .ok (.iconst 0, 1) := by decide +kernel
theorem dL_law_567 : decode cL_law 567 = .ok (.laload, 1) := by decide +kernel
theorem dL_law_568 : decode cL_law 568 = .ok (.iload 6, 2) := by decide +kernel
theorem dL_law_570 : decode cL_law 570 = .ok (.i2l, 1) := by decide +kernel
theorem dL_law_571 : decode cL_law 571 = .ok (.lcmp, 1) := by decide +kernel
theorem dL_law_572 : decode cL_law 572 = .ok (.ifCond .eq 5, 3) := by decide +kernel
theorem dL_law_575 : decode cL_law 575 = .ok (.iconst 0, 1) := by decide +kernel
theorem dL_law_576 : decode cL_law 576 = .ok (.ireturn, 1) := by decide +kernel
theorem dL_law_577 : decode cL_law 577 = .ok (.goto 477, 3) := by decide +kernel
theorem dL_law_580 : decode cL_law 580 = .ok (.aload_n 1, 1) := by decide +kernel
theorem dL_law_581 : decode cL_law 581 = .ok (.invokevirtual 91, 3) := by decide +kernel
theorem dL_law_584 : decode cL_law 584 = .ok (.aload_n 2, 1) := by decide +kernel
theorem dL_law_585 : decode cL_law 585 = .ok (.invokevirtual 94, 3) := by decide +kernel
theorem dL_law_588 : decode cL_law 588 = .ok (.if_icmp .eq 466, 3) := by decide +kernel
theorem dL_law_591 : decode cL_law 591 = .ok (.iconst 0, 1) := by decide +kernel
theorem dL_law_592 : decode cL_law 592 = .ok (.ireturn, 1) := by decide +kernel
theorem dL_law_593 : decode cL_law 593 = .ok (.aload_n 1, 1) := by decide +kernel
theorem dL_law_594 : decode cL_law 594 = .ok (.aload_n 0, 1) := by decide +kernel
theorem dL_law_595 : decode cL_law 595 = .ok (.iload 4, 2) := by decide +kernel
theorem dL_law_597 : decode cL_law 597 = .ok (.iconst 1, 1) := by decide +kernel
theorem dL_law_598 : decode cL_law 598 = .ok (.iadd, 1) := by decide +kernel
theorem dL_law_599 : decode cL_law 599 = .ok (.iaload, 1) := by decide +kernel
theorem dL_law_600 : decode cL_law 600 = .ok (.aload_n 3, 1) := by decide +kernel
theorem dL_law_601 : decode cL_law 601 = .ok (.invokestatic 95, 3) := by decide +kernel
theorem dL_law_604 : decode cL_law 604 = .ok (.istore 5, 2) := by decide +kernel
theorem dL_law_606 : decode cL_law 606 = .ok (.aload_n 2, 1) := by decide +kernel
theorem dL_law_607 : decode cL_law 607 = .ok (.aload_n 0, 1) := by decide +kernel
theorem dL_law_608 : decode cL_law 608 = .ok (.iload 4, 2) := by decide +kernel
theorem dL_law_610 : decode cL_law 610 = .ok (.iconst 1, 1) := by decide +kernel
theorem dL_law_611 : decode cL_law 611 = .ok (.iadd, 1) := by decide +kernel
theorem dL_law_612 : decode cL_law 612 = .ok (.iaload, 1) := by decide +kernel
theorem dL_law_613 : decode cL_law 613 = .ok (.invokevirtual 97, 3) := by decide +kernel
theorem dL_law_616 : decode cL_law 616 = .ok (.istore 6, 2) := by decide +kernel
theorem dL_law_618 : decode cL_law 618 = .ok (.aload_n 2, 1) := by decide +kernel
theorem dL_law_619 : decode cL_law 619 = .ok (.invokevirtual 67, 3) := by decide +kernel
theorem dL_law_622 : decode cL_law 622 = .ok (.iload 5, 2) := by decide +kernel
theorem dL_law_624 : decode cL_law 624 = .ok (.if_icmp .eq 5, 3) := by decide +kernel
theorem dL_law_627 : decode cL_law 627 = .ok (.iconst 0, 1) := by decide +kernel
theorem dL_law_628 : decode cL_law 628 = .ok (.ireturn, 1) := by decide +kernel
theorem dL_law_629 : decode cL_law 629 = .ok (.iload 5, 2) := by decide +kernel
theorem dL_law_631 : decode cL_law 631 = .ok (.ifCond .ne 15, 3) := by decide +kernel
theorem dL_law_634 : decode cL_law 634 = .ok (.aload_n 3, 1) := by decide +kernel
theorem dL_law_635 : decode cL_law 635 = .ok (.iconst 0, 1) := by decide +kernel
theorem dL_law_636 : decode cL_law 636 = .ok (.laload, 1) := by decide +kernel
theorem dL_law_637 : decode cL_law 637 = .ok (.iload 6, 2) := by decide +kernel
theorem dL_law_639 : decode cL_law 639 = .ok (.i2l, 1) := by decide +kernel
theorem dL_law_640 : decode cL_law 640 = .ok (.lcmp, 1) := by decide +kernel
theorem dL_law_641 : decode cL_law 641 = .ok (.ifCond .eq 5, 3) := by decide +kernel
theorem dL_law_644 : decode cL_law 644 = .ok (.iconst 0, 1) := by decide +kernel
theorem dL_law_645 : decode cL_law 645 = .ok (.ireturn, 1) := by decide +kernel
theorem dL_law_646 : decode cL_law 646 = .ok (.goto 408, 3) := by decide +kernel
theorem dL_law_649 : decode cL_law 649 = .ok (.aload_n 1, 1) := by decide +kernel
theorem dL_law_650 : decode cL_law 650 = .ok (.aload_n 0, 1) := by decide +kernel
theorem dL_law_651 : decode cL_law 651 = .ok (.iload 4, 2) := by decide +kernel
theorem dL_law_653 : decode cL_law 653 = .ok (.iconst 1, 1) := by decide +kernel
theorem dL_law_654 : decode cL_law 654 = .ok (.iadd, 1) := by decide +kernel
theorem dL_law_655 : decode cL_law 655 = .ok (.iaload, 1) := by decide +kernel
theorem dL_law_656 : decode cL_law 656 = .ok (.aload_n 3, 1) := by decide +kernel
theorem dL_law_657 : decode cL_law 657 = .ok (.invokestatic 98, 3) := by decide +kernel
theorem dL_law_660 : decode cL_law 660 = .ok (.istore 5, 2) := by decide +kernel
theorem dL_law_662 : decode cL_law 662 = .ok (.aload_n 2, 1) := by decide +kernel
theorem dL_law_663 : decode cL_law 663 = .ok (.aload_n 0, 1) := by decide +kernel
theorem dL_law_664 : decode cL_law 664 = .ok (.iload 4, 2) := by decide +kernel
theorem dL_law_666 : decode cL_law 666 = .ok (.iconst 1, 1) := by decide +kernel
theorem dL_law_667 : decode cL_law 667 = .ok (.iadd, 1) := by decide +kernel
theorem dL_law_668 : decode cL_law 668 = .ok (.iaload, 1) := by decide +kernel
theorem dL_law_669 : decode cL_law 669 = .ok (.invokevirtual 100, 3) := by decide +kernel
theorem dL_law_672 : decode cL_law 672 = .ok (.istore 6, 2) := by decide +kernel
theorem dL_law_674 : decode cL_law 674 = .ok (.aload_n 2, 1) := by decide +kernel
theorem dL_law_675 : decode cL_law 675 = .ok (.invokevirtual 67, 3) := by decide +kernel
theorem dL_law_678 : decode cL_law 678 = .ok (.iload 5, 2) := by decide +kernel
theorem dL_law_680 : decode cL_law 680 = .ok (.if_icmp .eq 5, 3) := by decide +kernel
theorem dL_law_683 : decode cL_law 683 = .ok (.iconst 0, 1) := by decide +kernel
theorem dL_law_684 : decode cL_law 684 = .ok (.ireturn, 1) := by decide +kernel
theorem dL_law_685 : decode cL_law 685 = .ok (.iload 5, 2) := by decide +kernel
theorem dL_law_687 : decode cL_law 687 = .ok (.ifCond .ne 15, 3) := by decide +kernel
theorem dL_law_690 : decode cL_law 690 = .ok (.aload_n 3, 1) := by decide +kernel
theorem dL_law_691 : decode cL_law 691 = .ok (.iconst 0, 1) := by decide +kernel
theorem dL_law_692 : decode cL_law 692 = .ok (.laload, 1) := by decide +kernel
theorem dL_law_693 : decode cL_law 693 = .ok (.iload 6, 2) := by decide +kernel
theorem dL_law_695 : decode cL_law 695 = .ok (.i2l, 1) := by decide +kernel
theorem dL_law_696 : decode cL_law 696 = .ok (.lcmp, 1) := by decide +kernel
theorem dL_law_697 : decode cL_law 697 = .ok (.ifCond .eq 5, 3) := by decide +kernel
theorem dL_law_700 : decode cL_law 700 = .ok (.iconst 0, 1) := by decide +kernel
theorem dL_law_701 : decode cL_law 701 = .ok (.ireturn, 1) := by decide +kernel
theorem dL_law_702 : decode cL_law 702 = .ok (.goto 352, 3) := by decide +kernel
theorem dL_law_705 : decode cL_law 705 = .ok (.aload_n 1, 1) := by decide +kernel
theorem dL_law_706 : decode cL_law 706 = .ok (.invokevirtual 101, 3) := by decide +kernel
theorem dL_law_709 : decode cL_law 709 = .ok (.aload_n 2, 1) := by decide +kernel
theorem dL_law_710 : decode cL_law 710 = .ok (.invokevirtual 104, 3) := by decide +kernel
theorem dL_law_713 : decode cL_law 713 = .ok (.if_icmp .eq 341, 3) := by decide +kernel
theorem dL_law_716 : decode cL_law 716 = .ok (.iconst 0, 1) := by decide +kernel
theorem dL_law_717 : decode cL_law 717 = .ok (.ireturn, 1) := by decide +kernel
theorem dL_law_718 : decode cL_law 718 = .ok (.aload_n 1, 1) := by decide +kernel
theorem dL_law_719 : decode cL_law 719 = .ok (.invokevirtual 105, 3) := by decide +kernel
theorem dL_law_722 : decode cL_law 722 = .ok (.aload_n 2, 1) := by decide +kernel
theorem dL_law_723 : decode cL_law 723 = .ok (.invokevirtual 108, 3) := by decide +kernel
theorem dL_law_726 : decode cL_law 726 = .ok (.if_icmp .eq 328, 3) := by decide +kernel
theorem dL_law_729 : decode cL_law 729 = .ok (.iconst 0, 1) := by decide +kernel
theorem dL_law_730 : decode cL_law 730 = .ok (.ireturn, 1) := by decide +kernel
theorem dL_law_731 : decode cL_law 731 = .ok (.aload_n 1, 1) := by decide +kernel
theorem dL_law_732 : decode cL_law 732 = .ok (.invokevirtual 109, 3) := by decide +kernel
theorem dL_law_735 : decode cL_law 735 = .ok (.aload_n 2, 1) := by decide +kernel
theorem dL_law_736 : decode cL_law 736 = .ok (.invokevirtual 113, 3) := by decide +kernel
theorem dL_law_739 : decode cL_law 739 = .ok (.if_icmp .eq 315, 3) := by decide +kernel
theorem dL_law_742 : decode cL_law 742 = .ok (.iconst 0, 1) := by decide +kernel
theorem dL_law_743 : decode cL_law 743 = .ok (.ireturn, 1) := by decide +kernel
theorem dL_law_744 : decode cL_law 744 = .ok (.aload_n 1, 1) := by decide +kernel
theorem dL_law_745 : decode cL_law 745 = .ok (.invokevirtual 114, 3) := by decide +kernel
theorem dL_law_748 : decode cL_law 748 = .ok (.aload_n 2, 1) := by decide +kernel
theorem dL_law_749 : decode cL_law 749 = .ok (.invokevirtual 117, 3) := by decide +kernel
theorem dL_law_752 : decode cL_law 752 = .ok (.if_icmp .eq 302, 3) := by decide +kernel
theorem dL_law_755 : decode cL_law 755 = .ok (.iconst 0, 1) := by decide +kernel
theorem dL_law_756 : decode cL_law 756 = .ok (.ireturn, 1) := by decide +kernel
theorem dL_law_757 : decode cL_law 757 = .ok (.aload_n 1, 1) := by decide +kernel
theorem dL_law_758 : decode cL_law 758 = .ok (.aload_n 0, 1) := by decide +kernel
theorem dL_law_759 : decode cL_law 759 = .ok (.iload 4, 2) := by decide +kernel
theorem dL_law_761 : decode cL_law 761 = .ok (.iconst 1, 1) := by decide +kernel
theorem dL_law_762 : decode cL_law 762 = .ok (.iadd, 1) := by decide +kernel
theorem dL_law_763 : decode cL_law 763 = .ok (.iaload, 1) := by decide +kernel
theorem dL_law_764 : decode cL_law 764 = .ok (.aload_n 0, 1) := by decide +kernel
theorem dL_law_765 : decode cL_law 765 = .ok (.iload 4, 2) := by decide +kernel
theorem dL_law_767 : decode cL_law 767 = .ok (.iconst 2, 1) := by decide +kernel
theorem dL_law_768 : decode cL_law 768 = .ok (.iadd, 1) := by decide +kernel
theorem dL_law_769 : decode cL_law 769 = .ok (.iaload, 1) := by decide +kernel
theorem dL_law_770 : decode cL_law 770 = .ok (.aload_n 3, 1) := by decide +kernel
theorem dL_law_771 : decode cL_law 771 = .ok (.invokestatic 118, 3) := by decide +kernel
theorem dL_law_774 : decode cL_law 774 = .ok (.istore 5, 2) := by decide +kernel
theorem dL_law_776 : decode cL_law 776 = .ok (.aload_n 2, 1) := by decide +kernel
theorem dL_law_777 : decode cL_law 777 = .ok (.aload_n 0, 1) := by decide +kernel
theorem dL_law_778 : decode cL_law 778 = .ok (.iload 4, 2) := by decide +kernel
theorem dL_law_780 : decode cL_law 780 = .ok (.iconst 1, 1) := by decide +kernel
theorem dL_law_781 : decode cL_law 781 = .ok (.iadd, 1) := by decide +kernel
theorem dL_law_782 : decode cL_law 782 = .ok (.iaload, 1) := by decide +kernel
theorem dL_law_783 : decode cL_law 783 = .ok (.aload_n 0, 1) := by decide +kernel
theorem dL_law_784 : decode cL_law 784 = .ok (.iload 4, 2) := by decide +kernel
theorem dL_law_786 : decode cL_law 786 = .ok (.iconst 2, 1) := by decide +kernel
theorem dL_law_787 : decode cL_law 787 = .ok (.iadd, 1) := by decide +kernel
theorem dL_law_788 : decode cL_law 788 = .ok (.iaload, 1) := by decide +kernel
theorem dL_law_789 : decode cL_law 789 = .ok (.invokevirtual 120, 3) := by decide +kernel
theorem dL_law_792 : decode cL_law 792 = .ok (.istore 6, 2) := by decide +kernel
theorem dL_law_794 : decode cL_law 794 = .ok (.aload_n 2, 1) := by decide +kernel
theorem dL_law_795 : decode cL_law 795 = .ok (.invokevirtual 67, 3) := by decide +kernel
theorem dL_law_798 : decode cL_law 798 = .ok (.iload 5, 2) := by decide +kernel
theorem dL_law_800 : decode cL_law 800 = .ok (.if_icmp .eq 5, 3) := by decide +kernel
theorem dL_law_803 : decode cL_law 803 = .ok (.iconst 0, 1) := by decide +kernel
theorem dL_law_804 : decode cL_law 804 = .ok (.ireturn, 1) := by decide +kernel
theorem dL_law_805 : decode cL_law 805 = .ok (.iload 5, 2) := by decide +kernel
theorem dL_law_807 : decode cL_law 807 = .ok (.ifCond .ne 15, 3) := by decide +kernel
theorem dL_law_810 : decode cL_law 810 = .ok (.aload_n 3, 1) := by decide +kernel
theorem dL_law_811 : decode cL_law 811 = .ok (.iconst 0, 1) := by decide +kernel
theorem dL_law_812 : decode cL_law 812 = .ok (.laload, 1) := by decide +kernel
theorem dL_law_813 : decode cL_law 813 = .ok (.iload 6, 2) := by decide +kernel
theorem dL_law_815 : decode cL_law 815 = .ok (.i2l, 1) := by decide +kernel
theorem dL_law_816 : decode cL_law 816 = .ok (.lcmp, 1) := by decide +kernel
theorem dL_law_817 : decode cL_law 817 = .ok (.ifCond .eq 5, 3) := by decide +kernel
theorem dL_law_820 : decode cL_law 820 = .ok (.iconst 0, 1) := by decide +kernel
theorem dL_law_821 : decode cL_law 821 = .ok (.ireturn, 1) := by decide +kernel
theorem dL_law_822 : decode cL_law 822 = .ok (.goto 232, 3) := by decide +kernel
theorem dL_law_825 : decode cL_law 825 = .ok (.aload_n 1, 1) := by decide +kernel
theorem dL_law_826 : decode cL_law 826 = .ok (.aload_n 0, 1) := by decide +kernel
theorem dL_law_827 : decode cL_law 827 = .ok (.iload 4, 2) := by decide +kernel
theorem dL_law_829 : decode cL_law 829 = .ok (.iconst 1, 1) := by decide +kernel
theorem dL_law_830 : decode cL_law 830 = .ok (.iadd, 1) := by decide +kernel
theorem dL_law_831 : decode cL_law 831 = .ok (.iaload, 1) := by decide +kernel
theorem dL_law_832 : decode cL_law 832 = .ok (.aload_n 0, 1) := by decide +kernel
theorem dL_law_833 : decode cL_law 833 = .ok (.iload 4, 2) := by decide +kernel
theorem dL_law_835 : decode cL_law 835 = .ok (.iconst 2, 1) := by decide +kernel
theorem dL_law_836 : decode cL_law 836 = .ok (.iadd, 1) := by decide +kernel
theorem dL_law_837 : decode cL_law 837 = .ok (.iaload, 1) := by decide +kernel
theorem dL_law_838 : decode cL_law 838 = .ok (.aload_n 0, 1) := by decide +kernel
theorem dL_law_839 : decode cL_law 839 = .ok (.iload 4, 2) := by decide +kernel
theorem dL_law_841 : decode cL_law 841 = .ok (.iconst 3, 1) := by decide +kernel
theorem dL_law_842 : decode cL_law 842 = .ok (.iadd, 1) := by decide +kernel
theorem dL_law_843 : decode cL_law 843 = .ok (.iaload, 1) := by decide +kernel
theorem dL_law_844 : decode cL_law 844 = .ok (.aload_n 3, 1) := by decide +kernel
theorem dL_law_845 : decode cL_law 845 = .ok (.invokestatic 121, 3) := by decide +kernel
theorem dL_law_848 : decode cL_law 848 = .ok (.istore 5, 2) := by decide +kernel
theorem dL_law_850 : decode cL_law 850 = .ok (.aload_n 2, 1) := by decide +kernel
theorem dL_law_851 : decode cL_law 851 = .ok (.aload_n 0, 1) := by decide +kernel
theorem dL_law_852 : decode cL_law 852 = .ok (.iload 4, 2) := by decide +kernel
theorem dL_law_854 : decode cL_law 854 = .ok (.iconst 1, 1) := by decide +kernel
theorem dL_law_855 : decode cL_law 855 = .ok (.iadd, 1) := by decide +kernel
theorem dL_law_856 : decode cL_law 856 = .ok (.iaload, 1) := by decide +kernel
theorem dL_law_857 : decode cL_law 857 = .ok (.aload_n 0, 1) := by decide +kernel
theorem dL_law_858 : decode cL_law 858 = .ok (.iload 4, 2) := by decide +kernel
theorem dL_law_860 : decode cL_law 860 = .ok (.iconst 2, 1) := by decide +kernel
theorem dL_law_861 : decode cL_law 861 = .ok (.iadd, 1) := by decide +kernel
theorem dL_law_862 : decode cL_law 862 = .ok (.iaload, 1) := by decide +kernel
theorem dL_law_863 : decode cL_law 863 = .ok (.aload_n 0, 1) := by decide +kernel
theorem dL_law_864 : decode cL_law 864 = .ok (.iload 4, 2) := by decide +kernel
theorem dL_law_866 : decode cL_law 866 = .ok (.iconst 3, 1) := by decide +kernel
theorem dL_law_867 : decode cL_law 867 = .ok (.iadd, 1) := by decide +kernel
theorem dL_law_868 : decode cL_law 868 = .ok (.iaload, 1) := by decide +kernel
theorem dL_law_869 : decode cL_law 869 = .ok (.invokevirtual 123, 3) := by decide +kernel
theorem dL_law_872 : decode cL_law 872 = .ok (.istore 6, 2) := by decide +kernel
theorem dL_law_874 : decode cL_law 874 = .ok (.aload_n 2, 1) := by decide +kernel
theorem dL_law_875 : decode cL_law 875 = .ok (.invokevirtual 67, 3) := by decide +kernel
theorem dL_law_878 : decode cL_law 878 = .ok (.iload 5, 2) := by decide +kernel
theorem dL_law_880 : decode cL_law 880 = .ok (.if_icmp .eq 5, 3) := by decide +kernel
theorem dL_law_883 : decode cL_law 883 = .ok (.iconst 0, 1) := by decide +kernel
theorem dL_law_884 : decode cL_law 884 = .ok (.ireturn, 1) := by decide +kernel
theorem dL_law_885 : decode cL_law 885 = .ok (.iload 5, 2) := by decide +kernel
theorem dL_law_887 : decode cL_law 887 = .ok (.ifCond .ne 15, 3) := by decide +kernel
theorem dL_law_890 : decode cL_law 890 = .ok (.aload_n 3, 1) := by decide +kernel
theorem dL_law_891 : decode cL_law 891 = .ok (.iconst 0, 1) := by decide +kernel
theorem dL_law_892 : decode cL_law 892 = .ok (.laload, 1) := by decide +kernel
theorem dL_law_893 : decode cL_law 893 = .ok (.iload 6, 2) := by decide +kernel
theorem dL_law_895 : decode cL_law 895 = .ok (.i2l, 1) := by decide +kernel
theorem dL_law_896 : decode cL_law 896 = .ok (.lcmp, 1) := by decide +kernel
theorem dL_law_897 : decode cL_law 897 = .ok (.ifCond .eq 5, 3) := by decide +kernel
theorem dL_law_900 : decode cL_law 900 = .ok (.iconst 0, 1) := by decide +kernel
theorem dL_law_901 : decode cL_law 901 = .ok (.ireturn, 1) := by decide +kernel
theorem dL_law_902 : decode cL_law 902 = .ok (.goto 152, 3) := by decide +kernel
theorem dL_law_905 : decode cL_law 905 = .ok (.aload_n 1, 1) := by decide +kernel
theorem dL_law_906 : decode cL_law 906 = .ok (.aload_n 0, 1) := by decide +kernel
theorem dL_law_907 : decode cL_law 907 = .ok (.iload 4, 2) := by decide +kernel
theorem dL_law_909 : decode cL_law 909 = .ok (.iconst 1, 1) := by decide +kernel
theorem dL_law_910 : decode cL_law 910 = .ok (.iadd, 1) := by decide +kernel
theorem dL_law_911 : decode cL_law 911 = .ok (.iaload, 1) := by decide +kernel
theorem dL_law_912 : decode cL_law 912 = .ok (.aload_n 0, 1) := by decide +kernel
theorem dL_law_913 : decode cL_law 913 = .ok (.iload 4, 2) := by decide +kernel
theorem dL_law_915 : decode cL_law 915 = .ok (.iconst 2, 1) := by decide +kernel
theorem dL_law_916 : decode cL_law 916 = .ok (.iadd, 1) := by decide +kernel
theorem dL_law_917 : decode cL_law 917 = .ok (.iaload, 1) := by decide +kernel
theorem dL_law_918 : decode cL_law 918 = .ok (.aload_n 3, 1) := by decide +kernel
theorem dL_law_919 : decode cL_law 919 = .ok (.invokestatic 124, 3) := by decide +kernel
theorem dL_law_922 : decode cL_law 922 = .ok (.istore 5, 2) := by decide +kernel
theorem dL_law_924 : decode cL_law 924 = .ok (.aload_n 2, 1) := by decide +kernel
theorem dL_law_925 : decode cL_law 925 = .ok (.aload_n 0, 1) := by decide +kernel
theorem dL_law_926 : decode cL_law 926 = .ok (.iload 4, 2) := by decide +kernel
theorem dL_law_928 : decode cL_law 928 = .ok (.iconst 1, 1) := by decide +kernel
theorem dL_law_929 : decode cL_law 929 = .ok (.iadd, 1) := by decide +kernel
theorem dL_law_930 : decode cL_law 930 = .ok (.iaload, 1) := by decide +kernel
theorem dL_law_931 : decode cL_law 931 = .ok (.aload_n 0, 1) := by decide +kernel
theorem dL_law_932 : decode cL_law 932 = .ok (.iload 4, 2) := by decide +kernel
theorem dL_law_934 : decode cL_law 934 = .ok (.iconst 2, 1) := by decide +kernel
theorem dL_law_935 : decode cL_law 935 = .ok (.iadd, 1) := by decide +kernel
theorem dL_law_936 : decode cL_law 936 = .ok (.iaload, 1) := by decide +kernel
theorem dL_law_937 : decode cL_law 937 = .ok (.invokevirtual 126, 3) := by decide +kernel
theorem dL_law_940 : decode cL_law 940 = .ok (.istore 6, 2) := by decide +kernel
theorem dL_law_942 : decode cL_law 942 = .ok (.aload_n 2, 1) := by decide +kernel
theorem dL_law_943 : decode cL_law 943 = .ok (.invokevirtual 67, 3) := by decide +kernel
theorem dL_law_946 : decode cL_law 946 = .ok (.iload 5, 2) := by decide +kernel
theorem dL_law_948 : decode cL_law 948 = .ok (.if_icmp .eq 5, 3) := by decide +kernel
theorem dL_law_951 : decode cL_law 951 = .ok (.iconst 0, 1) := by decide +kernel
theorem dL_law_952 : decode cL_law 952 = .ok (.ireturn, 1) := by decide +kernel
theorem dL_law_953 : decode cL_law 953 = .ok (.iload 5, 2) := by decide +kernel
theorem dL_law_955 : decode cL_law 955 = .ok (.ifCond .ne 15, 3) := by decide +kernel
theorem dL_law_958 : decode cL_law 958 = .ok (.aload_n 3, 1) := by decide +kernel
theorem dL_law_959 : decode cL_law 959 = .ok (.iconst 0, 1) := by decide +kernel
theorem dL_law_960 : decode cL_law 960 = .ok (.laload, 1) := by decide +kernel
theorem dL_law_961 : decode cL_law 961 = .ok (.iload 6, 2) := by decide +kernel
theorem dL_law_963 : decode cL_law 963 = .ok (.i2l, 1) := by decide +kernel
theorem dL_law_964 : decode cL_law 964 = .ok (.lcmp, 1) := by decide +kernel
theorem dL_law_965 : decode cL_law 965 = .ok (.ifCond .eq 5, 3) := by decide +kernel
theorem dL_law_968 : decode cL_law 968 = .ok (.iconst 0, 1) := by decide +kernel
theorem dL_law_969 : decode cL_law 969 = .ok (.ireturn, 1) := by decide +kernel
theorem dL_law_970 : decode cL_law 970 = .ok (.goto 84, 3) := by decide +kernel
theorem dL_law_973 : decode cL_law 973 = .ok (.aload_n 1, 1) := by decide +kernel
theorem dL_law_974 : decode cL_law 974 = .ok (.aload_n 0, 1) := by decide +kernel
theorem dL_law_975 : decode cL_law 975 = .ok (.iload 4, 2) := by decide +kernel
theorem dL_law_977 : decode cL_law 977 = .ok (.iconst 1, 1) := by decide +kernel
theorem dL_law_978 : decode cL_law 978 = .ok (.iadd, 1) := by decide +kernel
theorem dL_law_979 : decode cL_law 979 = .ok (.iaload, 1) := by decide +kernel
theorem dL_law_980 : decode cL_law 980 = .ok (.aload_n 0, 1) := by decide +kernel
theorem dL_law_981 : decode cL_law 981 = .ok (.iload 4, 2) := by decide +kernel
theorem dL_law_983 : decode cL_law 983 = .ok (.iconst 2, 1) := by decide +kernel
theorem dL_law_984 : decode cL_law 984 = .ok (.iadd, 1) := by decide +kernel
theorem dL_law_985 : decode cL_law 985 = .ok (.iaload, 1) := by decide +kernel
theorem dL_law_986 : decode cL_law 986 = .ok (.aload_n 3, 1) := by decide +kernel
theorem dL_law_987 : decode cL_law 987 = .ok (.invokestatic 127, 3) := by decide +kernel
theorem dL_law_990 : decode cL_law 990 = .ok (.istore 5, 2) := by decide +kernel
theorem dL_law_992 : decode cL_law 992 = .ok (.aload_n 2, 1) := by decide +kernel
theorem dL_law_993 : decode cL_law 993 = .ok (.aload_n 0, 1) := by decide +kernel
theorem dL_law_994 : decode cL_law 994 = .ok (.iload 4, 2) := by decide +kernel
theorem dL_law_996 : decode cL_law 996 = .ok (.iconst 1, 1) := by decide +kernel
theorem dL_law_997 : decode cL_law 997 = .ok (.iadd, 1) := by decide +kernel
theorem dL_law_998 : decode cL_law 998 = .ok (.iaload, 1) := by decide +kernel
theorem dL_law_999 : decode cL_law 999 = .ok (.aload_n 0, 1) := by decide +kernel
theorem dL_law_1000 : decode cL_law 1000 = .ok (.iload 4, 2) := by decide +kernel
theorem dL_law_1002 : decode cL_law 1002 = .ok (.iconst 2, 1) := by decide +kernel
theorem dL_law_1003 : decode cL_law 1003 = .ok (.iadd, 1) := by decide +kernel
theorem dL_law_1004 : decode cL_law 1004 = .ok (.iaload, 1) := by decide +kernel
theorem dL_law_1005 : decode cL_law 1005 = .ok (.invokevirtual 129, 3) := by decide +kernel
theorem dL_law_1008 : decode cL_law 1008 = .ok (.istore 6, 2) := by decide +kernel
theorem dL_law_1010 : decode cL_law 1010 = .ok (.aload_n 2, 1) := by decide +kernel
theorem dL_law_1011 : decode cL_law 1011 = .ok (.invokevirtual 67, 3) := by decide +kernel
theorem dL_law_1014 : decode cL_law 1014 = .ok (.iload 5, 2) := by decide +kernel
theorem dL_law_1016 : decode cL_law 1016 = .ok (.if_icmp .eq 5, 3) := by decide +kernel
theorem dL_law_1019 : decode cL_law 1019 = .ok (.iconst 0, 1) := by decide +kernel
theorem dL_law_1020 : decode cL_law 1020 = .ok (.ireturn, 1) := by decide +kernel
theorem dL_law_1021 : decode cL_law 1021 = .ok (.iload 5, 2) := by decide +kernel
theorem dL_law_1023 : decode cL_law 1023 = .ok (.ifCond .ne 15, 3) := by decide +kernel
theorem dL_law_1026 : decode cL_law 1026 = .ok (.aload_n 3, 1) := by decide +kernel
theorem dL_law_1027 : decode cL_law 1027 = .ok (.iconst 0, 1) := by decide +kernel
theorem dL_law_1028 : decode cL_law 1028 = .ok (.laload, 1) := by decide +kernel
theorem dL_law_1029 : decode cL_law 1029 = .ok (.iload 6, 2) := by decide +kernel
theorem dL_law_1031 : decode cL_law 1031 = .ok (.i2l, 1) := by decide +kernel
theorem dL_law_1032 : decode cL_law 1032 = .ok (.lcmp, 1) := by decide +kernel
theorem dL_law_1033 : decode cL_law 1033 = .ok (.ifCond .eq 5, 3) := by decide +kernel
theorem dL_law_1036 : decode cL_law 1036 = .ok (.iconst 0, 1) := by decide +kernel
theorem dL_law_1037 : decode cL_law 1037 = .ok (.ireturn, 1) := by decide +kernel
theorem dL_law_1038 : decode cL_law 1038 = .ok (.goto 16, 3) := by decide +kernel
theorem dL_law_1041 : decode cL_law 1041 = .ok (.aload_n 1, 1) := by decide +kernel
theorem dL_law_1042 : decode cL_law 1042 = .ok (.invokevirtual 130, 3) := by decide +kernel
theorem dL_law_1045 : decode cL_law 1045 = .ok (.aload_n 2, 1) := by decide +kernel
theorem dL_law_1046 : decode cL_law 1046 = .ok (.invokevirtual 133, 3) := by decide +kernel
theorem dL_law_1049 : decode cL_law 1049 = .ok (.if_icmp .eq 5, 3) := by decide +kernel
theorem dL_law_1052 : decode cL_law 1052 = .ok (.iconst 0, 1) := by decide +kernel
theorem dL_law_1053 : decode cL_law 1053 = .ok (.ireturn, 1) := by decide +kernel
theorem dL_law_1054 : decode cL_law 1054 = .ok (.iinc 4 4, 3) := by decide +kernel
theorem dL_law_1057 : decode cL_law 1057 = .ok (.goto (-1034), 3) := by decide +kernel
theorem dL_law_1060 : decode cL_law 1060 = .ok (.iconst 1, 1) := by decide +kernel
theorem dL_law_1061 : decode cL_law 1061 = .ok (.ireturn, 1) := by decide +kernel
abbrev vwCl : List vw_C := [(RX0, TX0, 3), (RX1, TX1, 6), (RX2, TX2, 9)]
