/-! ===== BEGIN printed: names, fields, word lists, decode rows ===== -/
def RX0 : String := "BackMirror$Thing"
def TX0 : u_T := fun k => match k with
  | 0 => ("BackMirror$Thing", "kind", "I", true)
  | 1 => ("BackMirror$Thing", "rights", "I", true)
  | _ => ("BackMirror$Thing", "numbers", "[I", true)
def tyX0 : Nat → FieldType := fun k => match k with
  | 0 => .int
  | 1 => .int
  | _ => .array .int
abbrev wsX00 : List Cond := u_ws RX0 TX0 3
theorem nmX0 : ∀ a, a < 3 → ∀ b, b < 3 → a ≠ b → (TX0 a).2.1 ≠ (TX0 b).2.1 := by decide +kernel
theorem tyX0_ok : ∀ k, k < 3 → parseFieldDescriptor (TX0 k).2.2.1 = some (tyX0 k) := by decide +kernel
abbrev cX0_init : ByteArray := prog_2_method_1_code
def yX0_init : MethodName := ⟨RX0, "<init>", "(II[I)V"⟩
abbrev cX0_isLike : ByteArray := prog_2_method_2_code
def yX0_isLike : MethodName := ⟨RX0, "isLike", "(LBackMirror$Thing;)Z"⟩
def RX1 : String := "BackMirror"
def TX1 : u_T := fun k => match k with
  | 0 => ("BackMirror", "live", "[LBackMirror$Thing;", true)
  | 1 => ("BackMirror", "kept", "[LBackMirror$Thing;", true)
  | 2 => ("BackMirror", "oldestDate", "I", false)
  | 3 => ("BackMirror", "lastDate", "I", false)
  | 4 => ("BackMirror", "broken", "Z", false)
  | _ => ("BackMirror", "brokenSteps", "I", false)
def tyX1 : Nat → FieldType := fun k => match k with
  | 0 => .array (.object "BackMirror$Thing")
  | 1 => .array (.object "BackMirror$Thing")
  | 2 => .int
  | 3 => .int
  | 4 => .boolean
  | _ => .int
abbrev wsX10 : List Cond := u_ws RX1 TX1 6
theorem nmX1 : ∀ a, a < 6 → ∀ b, b < 6 → a ≠ b → (TX1 a).2.1 ≠ (TX1 b).2.1 := by decide +kernel
theorem tyX1_ok : ∀ k, k < 6 → parseFieldDescriptor (TX1 k).2.2.1 = some (tyX1 k) := by decide +kernel
abbrev cX1_init : ByteArray := prog_1_method_1_code
def yX1_init : MethodName := ⟨RX1, "<init>", "()V"⟩
abbrev cX1_makeFile : ByteArray := prog_1_method_2_code
def yX1_makeFile : MethodName := ⟨RX1, "makeFile", "(I)I"⟩
abbrev cX1_makeLink : ByteArray := prog_1_method_3_code
def yX1_makeLink : MethodName := ⟨RX1, "makeLink", "(II)I"⟩
abbrev cX1_remove : ByteArray := prog_1_method_4_code
def yX1_remove : MethodName := ⟨RX1, "remove", "(I)I"⟩
abbrev cX1_put : ByteArray := prog_1_method_5_code
def yX1_put : MethodName := ⟨RX1, "put", "(III)I"⟩
abbrev cX1_take : ByteArray := prog_1_method_6_code
def yX1_take : MethodName := ⟨RX1, "take", "(II)I"⟩
abbrev cX1_setRights : ByteArray := prog_1_method_7_code
def yX1_setRights : MethodName := ⟨RX1, "setRights", "(II)I"⟩
abbrev cX1_run : ByteArray := prog_1_method_8_code
def yX1_run : MethodName := ⟨RX1, "run", "(I)I"⟩
abbrev cX1_mend : ByteArray := prog_1_method_9_code
def yX1_mend : MethodName := ⟨RX1, "mend", "()I"⟩
abbrev cX1_thin : ByteArray := prog_1_method_10_code
def yX1_thin : MethodName := ⟨RX1, "thin", "(I)I"⟩
abbrev cX1_restore : ByteArray := prog_1_method_11_code
def yX1_restore : MethodName := ⟨RX1, "restore", "(I)I"⟩
abbrev cX1_last : ByteArray := prog_1_method_12_code
def yX1_last : MethodName := ⟨RX1, "last", "()I"⟩
abbrev cX1_oldest : ByteArray := prog_1_method_13_code
def yX1_oldest : MethodName := ⟨RX1, "oldest", "()I"⟩
abbrev cX1_isBroken : ByteArray := prog_1_method_14_code
def yX1_isBroken : MethodName := ⟨RX1, "isBroken", "()Z"⟩
abbrev cX1_needs : ByteArray := prog_1_method_15_code
def yX1_needs : MethodName := ⟨RX1, "needs", "()I"⟩
abbrev cX1_kindAt : ByteArray := prog_1_method_16_code
def yX1_kindAt : MethodName := ⟨RX1, "kindAt", "(II)I"⟩
abbrev cX1_numberAt : ByteArray := prog_1_method_17_code
def yX1_numberAt : MethodName := ⟨RX1, "numberAt", "(III)I"⟩
abbrev cX1_rightsAt : ByteArray := prog_1_method_18_code
def yX1_rightsAt : MethodName := ⟨RX1, "rightsAt", "(II)I"⟩
abbrev cX1_sizeAt : ByteArray := prog_1_method_19_code
def yX1_sizeAt : MethodName := ⟨RX1, "sizeAt", "(II)I"⟩
abbrev cX1_size : ByteArray := prog_1_method_20_code
def yX1_size : MethodName := ⟨RX1, "size", "()I"⟩
abbrev cX1_checkPlace : ByteArray := prog_1_method_21_code
def yX1_checkPlace : MethodName := ⟨RX1, "checkPlace", "(I)V"⟩
abbrev cX1_checkKept : ByteArray := prog_1_method_22_code
def yX1_checkKept : MethodName := ⟨RX1, "checkKept", "(I)V"⟩
abbrev cX1_keptIndex : ByteArray := prog_1_method_23_code
def yX1_keptIndex : MethodName := ⟨RX1, "keptIndex", "(II)I"⟩
abbrev cX1_thingOn : ByteArray := prog_1_method_24_code
def yX1_thingOn : MethodName := ⟨RX1, "thingOn", "(II)LBackMirror$Thing;"⟩
abbrev cX1_exchange : ByteArray := prog_1_method_25_code
def yX1_exchange : MethodName := ⟨RX1, "exchange", "(ILBackMirror$Thing;)I"⟩
abbrev cX1_stepsNeeded : ByteArray := prog_1_method_26_code
def yX1_stepsNeeded : MethodName := ⟨RX1, "stepsNeeded", "()I"⟩
abbrev cX1_undoBrokenRun : ByteArray := prog_1_method_27_code
def yX1_undoBrokenRun : MethodName := ⟨RX1, "undoBrokenRun", "()I"⟩
abbrev cX1_differenceTakes : ByteArray := prog_1_method_28_code
def yX1_differenceTakes : MethodName := ⟨RX1, "differenceTakes", "(II)I"⟩
abbrev cX1_rowTakes : ByteArray := prog_1_method_29_code
def yX1_rowTakes : MethodName := ⟨RX1, "rowTakes", "([I[I)I"⟩
abbrev cX1_longestCopy : ByteArray := prog_1_method_30_code
def yX1_longestCopy : MethodName := ⟨RX1, "longestCopy", "([II[I)I"⟩
abbrev cX1_sharedLength : ByteArray := prog_1_method_31_code
def yX1_sharedLength : MethodName := ⟨RX1, "sharedLength", "([II[II)I"⟩
abbrev cX1_isSameRow : ByteArray := prog_1_method_32_code
def yX1_isSameRow : MethodName := ⟨RX1, "isSameRow", "([I[I)Z"⟩
abbrev cX1_rowWith : ByteArray := prog_1_method_33_code
def yX1_rowWith : MethodName := ⟨RX1, "rowWith", "([III)[I"⟩
abbrev cX1_rowWithout : ByteArray := prog_1_method_34_code
def yX1_rowWithout : MethodName := ⟨RX1, "rowWithout", "([II)[I"⟩
def RX2 : String := "BackMirrorModel"
def TX2 : u_T := fun k => match k with
  | _ => ("", "", "", false)
def tyX2 : Nat → FieldType := fun k => match k with
  | _ => .int
abbrev wsX20 : List Cond := u_ws RX2 TX2 0
theorem nmX2 : ∀ a, a < 0 → ∀ b, b < 0 → a ≠ b → (TX2 a).2.1 ≠ (TX2 b).2.1 := by decide +kernel
theorem tyX2_ok : ∀ k, k < 0 → parseFieldDescriptor (TX2 k).2.2.1 = some (tyX2 k) := by decide +kernel
def RJ9 : String := "java/lang/Math"
def TJ9 : u_T := fun k => match k with
  | _ => ("", "", "", false)
def tyJ9 : Nat → FieldType := fun k => match k with
  | _ => .int
abbrev wsJ90 : List Cond := u_ws RJ9 TJ9 0
theorem nmJ9 : ∀ a, a < 0 → ∀ b, b < 0 → a ≠ b → (TJ9 a).2.1 ≠ (TJ9 b).2.1 := by decide +kernel
theorem tyJ9_ok : ∀ k, k < 0 → parseFieldDescriptor (TJ9 k).2.2.1 = some (tyJ9 k) := by decide +kernel
abbrev cJ9_max_7cf53 : ByteArray := prog_9_method_65_code
def yJ9_max_7cf53 : MethodName := ⟨RJ9, "max", "(II)I"⟩
def RJ0 : String := "java/lang/String"
def TJ0 : u_T := fun k => match k with
  | _ => ("", "", "", false)
def tyJ0 : Nat → FieldType := fun k => match k with
  | _ => .int
abbrev wsJ00 : List Cond := u_ws RJ0 TJ0 0
theorem nmJ0 : ∀ a, a < 0 → ∀ b, b < 0 → a ≠ b → (TJ0 a).2.1 ≠ (TJ0 b).2.1 := by decide +kernel
theorem tyJ0_ok : ∀ k, k < 0 → parseFieldDescriptor (TJ0 k).2.2.1 = some (tyJ0 k) := by decide +kernel
def RL : String := "BackMirrorLaw"
abbrev cL_dice : ByteArray := method_2_code
def yL_dice : MethodName := ⟨RL, "dice", "([II)I"⟩
abbrev cL_act : ByteArray := method_3_code
def yL_act : MethodName := ⟨RL, "act", "(LBackMirror;IIII)I"⟩
abbrev cL_of : ByteArray := method_4_code
def yL_of : MethodName := ⟨RL, "of", "(LBackMirror;IIII)I"⟩
abbrev cL_told : ByteArray := method_5_code
def yL_told : MethodName := ⟨RL, "told", "(LBackMirror;II)J"⟩
abbrev cL_length : ByteArray := method_6_code
def yL_length : MethodName := ⟨RL, "length", "(LBackMirror;II)I"⟩
abbrev cL_takes : ByteArray := method_7_code
def yL_takes : MethodName := ⟨RL, "takes", "(LBackMirror;[J)V"⟩
abbrev cL_isHead : ByteArray := method_8_code
def yL_isHead : MethodName := ⟨RL, "isHead", "(LBackMirror;[J[I)Z"⟩
abbrev cL_isDate : ByteArray := method_9_code
def yL_isDate : MethodName := ⟨RL, "isDate", "(LBackMirror;[J[II)Z"⟩
abbrev cL_isSize : ByteArray := method_10_code
def yL_isSize : MethodName := ⟨RL, "isSize", "(LBackMirror;[JII)Z"⟩
abbrev cL_isSum : ByteArray := method_11_code
def yL_isSum : MethodName := ⟨RL, "isSum", "(LBackMirror;)Z"⟩
abbrev cL_isOnly : ByteArray := method_12_code
def yL_isOnly : MethodName := ⟨RL, "isOnly", "(LBackMirror;[JI)Z"⟩
abbrev cL_all : ByteArray := method_13_code
def yL_all : MethodName := ⟨RL, "all", "(LBackMirror;)J"⟩
abbrev cL_isRefused : ByteArray := method_14_code
def yL_isRefused : MethodName := ⟨RL, "isRefused", "(LBackMirror;[II)Z"⟩
abbrev cL_isEdited : ByteArray := method_15_code
def yL_isEdited : MethodName := ⟨RL, "isEdited", "(LBackMirror;[JIII)Z"⟩
abbrev cL_isRun : ByteArray := method_16_code
def yL_isRun : MethodName := ⟨RL, "isRun", "(LBackMirror;[J[J[II)Z"⟩
abbrev cL_law : ByteArray := code
def yL_law : MethodName := ⟨RL, "law", "([I)Z"⟩
def wsX0_init : List Cond := .code yX0_init cX0_init 4 none :: ([.methodLink RX0 1 objectInit, .instanceMethod objectInit, .code objectInit ⟨#[0xb1]⟩ 1 none, .fieldLink RX0 7 "BackMirror$Thing" "kind" "I", .fieldLink RX0 13 "BackMirror$Thing" "rights" "I", .fieldLink RX0 16 "BackMirror$Thing" "numbers" "[I"] ++ wsX00)
def wsX1_sharedLength : List Cond := .code yX1_sharedLength cX1_sharedLength 5 (some .int) :: ([])
def wsX1_isSameRow : List Cond := .code yX1_isSameRow cX1_isSameRow 2 (some .boolean) :: ([.methodLink RX1 129 yX1_sharedLength, .static yX1_sharedLength, .initialized RX1, .code yX1_sharedLength cX1_sharedLength 5 (some .int)])
def wsX0_isLike : List Cond := .code yX0_isLike cX0_isLike 2 (some .boolean) :: ([.fieldLink RX0 7 "BackMirror$Thing" "kind" "I", .fieldLink RX0 13 "BackMirror$Thing" "rights" "I", .fieldLink RX0 16 "BackMirror$Thing" "numbers" "[I", .static yX1_isSameRow, .initialized RX1, .code yX1_isSameRow cX1_isSameRow 2 (some .boolean), .methodLink RX1 129 yX1_sharedLength, .static yX1_sharedLength, .code yX1_sharedLength cX1_sharedLength 5 (some .int)] ++ wsX00)
def wsX1_init : List Cond := .code yX1_init cX1_init 3 none :: ([.methodLink RX1 1 objectInit, .instanceMethod objectInit, .code objectInit ⟨#[0xb1]⟩ 1 none, .classLink RX1 7 RX0, .instantiable RX0 3, .initialized RX0, .arrayClass .int, .fieldLink RX1 14 "BackMirror" "live" "[LBackMirror$Thing;", .fieldLink RX1 18 "BackMirror" "kept" "[LBackMirror$Thing;", .fieldLink RX1 21 "BackMirror" "oldestDate" "I", .fieldLink RX1 25 "BackMirror" "lastDate" "I", .fieldLink RX1 28 "BackMirror" "broken" "Z", .fieldLink RX1 32 "BackMirror" "brokenSteps" "I", .methodLink RX1 11 yX0_init, .instanceMethod yX0_init, .code yX0_init cX0_init 4 none, .methodLink RX0 1 objectInit, .fieldLink RX0 7 "BackMirror$Thing" "kind" "I", .fieldLink RX0 13 "BackMirror$Thing" "rights" "I", .fieldLink RX0 16 "BackMirror$Thing" "numbers" "[I"] ++ wsX00 ++ wsX10)
def wsX1_checkPlace : List Cond := .code yX1_checkPlace cX1_checkPlace 1 none :: ([.classLink RX1 111 "java/lang/IndexOutOfBoundsException", .initialized "java/lang/IndexOutOfBoundsException"] ++ (vx_atS RX1 113 "java/lang/IndexOutOfBoundsException" ["java/lang/RuntimeException", "java/lang/Exception"]).filter goodWord)
def wsX1_exchange : List Cond := .code yX1_exchange cX1_exchange 4 (some .int) :: ([.fieldLink RX1 14 "BackMirror" "live" "[LBackMirror$Thing;", .fieldLink RX1 47 "BackMirror$Thing" "kind" "I"] ++ wsX10 ++ wsX00)
def wsX1_makeFile_r1 : List Cond := [Cond.classLink RX1 7 RX0, Cond.instantiable RX0 3, Cond.initialized RX0, Cond.arrayClass .int, Cond.methodLink RX1 35 yX1_checkPlace, Cond.static yX1_checkPlace, Cond.initialized RX1, Cond.code yX1_checkPlace cX1_checkPlace 1 none, Cond.classLink RX1 111 "java/lang/IndexOutOfBoundsException", Cond.initialized "java/lang/IndexOutOfBoundsException", Cond.methodLink RX1 11 yX0_init, Cond.instanceMethod yX0_init, Cond.code yX0_init cX0_init 4 none, Cond.methodLink RX0 1 objectInit, Cond.instanceMethod objectInit, Cond.code objectInit ⟨#[0xb1]⟩ 1 none, Cond.fieldLink RX0 7 "BackMirror$Thing" "kind" "I", Cond.fieldLink RX0 13 "BackMirror$Thing" "rights" "I", Cond.fieldLink RX0 16 "BackMirror$Thing" "numbers" "[I", Cond.methodLink RX1 39 yX1_exchange, Cond.instanceMethod yX1_exchange, Cond.selects RX1 yX1_exchange yX1_exchange, Cond.code yX1_exchange cX1_exchange 4 (some .int), Cond.fieldLink RX1 14 "BackMirror" "live" "[LBackMirror$Thing;"]
def wsX1_makeFile_r2 : List Cond := [Cond.fieldLink RX1 47 "BackMirror$Thing" "kind" "I"]
def wsX1_makeFile : List Cond := .code yX1_makeFile cX1_makeFile 2 (some .int) :: ((wsX1_makeFile_r1 ++ wsX1_makeFile_r2) ++ wsX00 ++ wsX10 ++ (vx_atS RX1 113 "java/lang/IndexOutOfBoundsException" ["java/lang/RuntimeException", "java/lang/Exception"]).filter goodWord)
def wsX1_makeLink_r1 : List Cond := [Cond.classLink RX1 7 RX0, Cond.instantiable RX0 3, Cond.initialized RX0, Cond.arrayClass .int, Cond.methodLink RX1 35 yX1_checkPlace, Cond.static yX1_checkPlace, Cond.initialized RX1, Cond.code yX1_checkPlace cX1_checkPlace 1 none, Cond.classLink RX1 111 "java/lang/IndexOutOfBoundsException", Cond.initialized "java/lang/IndexOutOfBoundsException", Cond.methodLink RX1 11 yX0_init, Cond.instanceMethod yX0_init, Cond.code yX0_init cX0_init 4 none, Cond.methodLink RX0 1 objectInit, Cond.instanceMethod objectInit, Cond.code objectInit ⟨#[0xb1]⟩ 1 none, Cond.fieldLink RX0 7 "BackMirror$Thing" "kind" "I", Cond.fieldLink RX0 13 "BackMirror$Thing" "rights" "I", Cond.fieldLink RX0 16 "BackMirror$Thing" "numbers" "[I", Cond.methodLink RX1 39 yX1_exchange, Cond.instanceMethod yX1_exchange, Cond.selects RX1 yX1_exchange yX1_exchange, Cond.code yX1_exchange cX1_exchange 4 (some .int), Cond.fieldLink RX1 14 "BackMirror" "live" "[LBackMirror$Thing;"]
def wsX1_makeLink_r2 : List Cond := [Cond.fieldLink RX1 47 "BackMirror$Thing" "kind" "I"]
def wsX1_makeLink : List Cond := .code yX1_makeLink cX1_makeLink 3 (some .int) :: ((wsX1_makeLink_r1 ++ wsX1_makeLink_r2) ++ wsX00 ++ wsX10 ++ (vx_atS RX1 113 "java/lang/IndexOutOfBoundsException" ["java/lang/RuntimeException", "java/lang/Exception"]).filter goodWord)
def wsX1_remove_r1 : List Cond := [Cond.classLink RX1 7 RX0, Cond.instantiable RX0 3, Cond.initialized RX0, Cond.arrayClass .int, Cond.methodLink RX1 35 yX1_checkPlace, Cond.static yX1_checkPlace, Cond.initialized RX1, Cond.code yX1_checkPlace cX1_checkPlace 1 none, Cond.classLink RX1 111 "java/lang/IndexOutOfBoundsException", Cond.initialized "java/lang/IndexOutOfBoundsException", Cond.methodLink RX1 11 yX0_init, Cond.instanceMethod yX0_init, Cond.code yX0_init cX0_init 4 none, Cond.methodLink RX0 1 objectInit, Cond.instanceMethod objectInit, Cond.code objectInit ⟨#[0xb1]⟩ 1 none, Cond.fieldLink RX0 7 "BackMirror$Thing" "kind" "I", Cond.fieldLink RX0 13 "BackMirror$Thing" "rights" "I", Cond.fieldLink RX0 16 "BackMirror$Thing" "numbers" "[I", Cond.methodLink RX1 39 yX1_exchange, Cond.instanceMethod yX1_exchange, Cond.selects RX1 yX1_exchange yX1_exchange, Cond.code yX1_exchange cX1_exchange 4 (some .int), Cond.fieldLink RX1 14 "BackMirror" "live" "[LBackMirror$Thing;"]
def wsX1_remove_r2 : List Cond := [Cond.fieldLink RX1 47 "BackMirror$Thing" "kind" "I"]
def wsX1_remove : List Cond := .code yX1_remove cX1_remove 2 (some .int) :: ((wsX1_remove_r1 ++ wsX1_remove_r2) ++ wsX00 ++ wsX10 ++ (vx_atS RX1 113 "java/lang/IndexOutOfBoundsException" ["java/lang/RuntimeException", "java/lang/Exception"]).filter goodWord)
def wsX1_rowWith : List Cond := .code yX1_rowWith cX1_rowWith 5 (some (.array .int)) :: ([.arrayClass .int])
def wsX1_put_r1 : List Cond := [Cond.classLink RX1 50 "java/lang/IllegalStateException", Cond.initialized "java/lang/IllegalStateException", Cond.classLink RX1 57 "java/lang/IllegalArgumentException", Cond.initialized "java/lang/IllegalArgumentException", Cond.fieldLink RX1 14 "BackMirror" "live" "[LBackMirror$Thing;", Cond.fieldLink RX1 43 "BackMirror$Thing" "numbers" "[I", Cond.fieldLink RX1 47 "BackMirror$Thing" "kind" "I", Cond.classLink RX1 7 RX0, Cond.instantiable RX0 3, Cond.initialized RX0, Cond.fieldLink RX1 62 "BackMirror$Thing" "rights" "I", Cond.methodLink RX1 35 yX1_checkPlace, Cond.static yX1_checkPlace, Cond.initialized RX1, Cond.code yX1_checkPlace cX1_checkPlace 1 none, Cond.classLink RX1 111 "java/lang/IndexOutOfBoundsException", Cond.initialized "java/lang/IndexOutOfBoundsException", Cond.methodLink RX1 65 yX1_rowWith, Cond.static yX1_rowWith, Cond.code yX1_rowWith cX1_rowWith 5 (some (.array .int)), Cond.arrayClass .int, Cond.methodLink RX1 11 yX0_init, Cond.instanceMethod yX0_init, Cond.code yX0_init cX0_init 4 none]
def wsX1_put_r2 : List Cond := [Cond.methodLink RX0 1 objectInit, Cond.instanceMethod objectInit, Cond.code objectInit ⟨#[0xb1]⟩ 1 none, Cond.fieldLink RX0 7 "BackMirror$Thing" "kind" "I", Cond.fieldLink RX0 13 "BackMirror$Thing" "rights" "I", Cond.fieldLink RX0 16 "BackMirror$Thing" "numbers" "[I"]
def wsX1_put : List Cond := .code yX1_put cX1_put 6 (some .int) :: ((wsX1_put_r1 ++ wsX1_put_r2) ++ wsX10 ++ wsX00 ++ (vx_atS RX1 54 "java/lang/IllegalStateException" ["java/lang/RuntimeException", "java/lang/Exception"]).filter goodWord ++ (vx_atS RX1 61 "java/lang/IllegalArgumentException" ["java/lang/RuntimeException", "java/lang/Exception"]).filter goodWord ++ (vx_atS RX1 113 "java/lang/IndexOutOfBoundsException" ["java/lang/RuntimeException", "java/lang/Exception"]).filter goodWord)
def wsX1_rowWithout : List Cond := .code yX1_rowWithout cX1_rowWithout 4 (some (.array .int)) :: ([.arrayClass .int])
def wsX1_take_r1 : List Cond := [Cond.classLink RX1 50 "java/lang/IllegalStateException", Cond.initialized "java/lang/IllegalStateException", Cond.classLink RX1 57 "java/lang/IllegalArgumentException", Cond.initialized "java/lang/IllegalArgumentException", Cond.fieldLink RX1 14 "BackMirror" "live" "[LBackMirror$Thing;", Cond.fieldLink RX1 47 "BackMirror$Thing" "kind" "I", Cond.fieldLink RX1 43 "BackMirror$Thing" "numbers" "[I", Cond.classLink RX1 7 RX0, Cond.instantiable RX0 3, Cond.initialized RX0, Cond.fieldLink RX1 62 "BackMirror$Thing" "rights" "I", Cond.methodLink RX1 35 yX1_checkPlace, Cond.static yX1_checkPlace, Cond.initialized RX1, Cond.code yX1_checkPlace cX1_checkPlace 1 none, Cond.classLink RX1 111 "java/lang/IndexOutOfBoundsException", Cond.initialized "java/lang/IndexOutOfBoundsException", Cond.methodLink RX1 73 yX1_rowWithout, Cond.static yX1_rowWithout, Cond.code yX1_rowWithout cX1_rowWithout 4 (some (.array .int)), Cond.arrayClass .int, Cond.methodLink RX1 11 yX0_init, Cond.instanceMethod yX0_init, Cond.code yX0_init cX0_init 4 none]
def wsX1_take_r2 : List Cond := [Cond.methodLink RX0 1 objectInit, Cond.instanceMethod objectInit, Cond.code objectInit ⟨#[0xb1]⟩ 1 none, Cond.fieldLink RX0 7 "BackMirror$Thing" "kind" "I", Cond.fieldLink RX0 13 "BackMirror$Thing" "rights" "I", Cond.fieldLink RX0 16 "BackMirror$Thing" "numbers" "[I"]
def wsX1_take : List Cond := .code yX1_take cX1_take 4 (some .int) :: ((wsX1_take_r1 ++ wsX1_take_r2) ++ wsX10 ++ wsX00 ++ (vx_atS RX1 54 "java/lang/IllegalStateException" ["java/lang/RuntimeException", "java/lang/Exception"]).filter goodWord ++ (vx_atS RX1 61 "java/lang/IllegalArgumentException" ["java/lang/RuntimeException", "java/lang/Exception"]).filter goodWord ++ (vx_atS RX1 113 "java/lang/IndexOutOfBoundsException" ["java/lang/RuntimeException", "java/lang/Exception"]).filter goodWord)
def wsX1_setRights_r1 : List Cond := [Cond.classLink RX1 50 "java/lang/IllegalStateException", Cond.initialized "java/lang/IllegalStateException", Cond.classLink RX1 57 "java/lang/IllegalArgumentException", Cond.initialized "java/lang/IllegalArgumentException", Cond.fieldLink RX1 14 "BackMirror" "live" "[LBackMirror$Thing;", Cond.fieldLink RX1 47 "BackMirror$Thing" "kind" "I", Cond.classLink RX1 7 RX0, Cond.instantiable RX0 3, Cond.initialized RX0, Cond.fieldLink RX1 43 "BackMirror$Thing" "numbers" "[I", Cond.fieldLink RX1 62 "BackMirror$Thing" "rights" "I", Cond.methodLink RX1 35 yX1_checkPlace, Cond.static yX1_checkPlace, Cond.initialized RX1, Cond.code yX1_checkPlace cX1_checkPlace 1 none, Cond.classLink RX1 111 "java/lang/IndexOutOfBoundsException", Cond.initialized "java/lang/IndexOutOfBoundsException", Cond.methodLink RX1 11 yX0_init, Cond.instanceMethod yX0_init, Cond.code yX0_init cX0_init 4 none, Cond.methodLink RX0 1 objectInit, Cond.instanceMethod objectInit, Cond.code objectInit ⟨#[0xb1]⟩ 1 none, Cond.fieldLink RX0 7 "BackMirror$Thing" "kind" "I"]
def wsX1_setRights_r2 : List Cond := [Cond.fieldLink RX0 13 "BackMirror$Thing" "rights" "I", Cond.fieldLink RX0 16 "BackMirror$Thing" "numbers" "[I"]
def wsX1_setRights : List Cond := .code yX1_setRights cX1_setRights 4 (some .int) :: ((wsX1_setRights_r1 ++ wsX1_setRights_r2) ++ wsX10 ++ wsX00 ++ (vx_atS RX1 54 "java/lang/IllegalStateException" ["java/lang/RuntimeException", "java/lang/Exception"]).filter goodWord ++ (vx_atS RX1 61 "java/lang/IllegalArgumentException" ["java/lang/RuntimeException", "java/lang/Exception"]).filter goodWord ++ (vx_atS RX1 113 "java/lang/IndexOutOfBoundsException" ["java/lang/RuntimeException", "java/lang/Exception"]).filter goodWord)
def wsX1_undoBrokenRun : List Cond := .code yX1_undoBrokenRun cX1_undoBrokenRun 2 (some .int) :: ([.fieldLink RX1 32 "BackMirror" "brokenSteps" "I", .fieldLink RX1 28 "BackMirror" "broken" "Z"] ++ wsX10)
def wsX1_keptIndex : List Cond := .code yX1_keptIndex cX1_keptIndex 2 (some .int) :: ([])
def wsX1_stepsNeeded : List Cond := .code yX1_stepsNeeded cX1_stepsNeeded 3 (some .int) :: ([.fieldLink RX1 14 "BackMirror" "live" "[LBackMirror$Thing;", .fieldLink RX1 18 "BackMirror" "kept" "[LBackMirror$Thing;", .fieldLink RX1 25 "BackMirror" "lastDate" "I", .methodLink RX1 92 yX1_keptIndex, .static yX1_keptIndex, .initialized RX1, .code yX1_keptIndex cX1_keptIndex 2 (some .int), .methodLink RX1 103 yX0_isLike, .instanceMethod yX0_isLike, .selects RX0 yX0_isLike yX0_isLike, .initialized RX0, .code yX0_isLike cX0_isLike 2 (some .boolean), .fieldLink RX0 7 "BackMirror$Thing" "kind" "I", .fieldLink RX0 13 "BackMirror$Thing" "rights" "I", .fieldLink RX0 16 "BackMirror$Thing" "numbers" "[I", .static yX1_isSameRow, .code yX1_isSameRow cX1_isSameRow 2 (some .boolean), .methodLink RX1 129 yX1_sharedLength, .static yX1_sharedLength, .code yX1_sharedLength cX1_sharedLength 5 (some .int)] ++ wsX10 ++ wsX00)
def wsX1_run_r1 : List Cond := [Cond.classLink RX1 57 "java/lang/IllegalArgumentException", Cond.initialized "java/lang/IllegalArgumentException", Cond.classLink RX1 50 "java/lang/IllegalStateException", Cond.initialized "java/lang/IllegalStateException", Cond.fieldLink RX1 25 "BackMirror" "lastDate" "I", Cond.fieldLink RX1 28 "BackMirror" "broken" "Z", Cond.fieldLink RX1 32 "BackMirror" "brokenSteps" "I", Cond.fieldLink RX1 18 "BackMirror" "kept" "[LBackMirror$Thing;", Cond.fieldLink RX1 14 "BackMirror" "live" "[LBackMirror$Thing;", Cond.methodLink RX1 85 yX1_undoBrokenRun, Cond.instanceMethod yX1_undoBrokenRun, Cond.selects RX1 yX1_undoBrokenRun yX1_undoBrokenRun, Cond.initialized RX1, Cond.code yX1_undoBrokenRun cX1_undoBrokenRun 2 (some .int), Cond.methodLink RX1 89 yX1_stepsNeeded, Cond.instanceMethod yX1_stepsNeeded, Cond.selects RX1 yX1_stepsNeeded yX1_stepsNeeded, Cond.code yX1_stepsNeeded cX1_stepsNeeded 3 (some .int), Cond.methodLink RX1 92 yX1_keptIndex, Cond.static yX1_keptIndex, Cond.code yX1_keptIndex cX1_keptIndex 2 (some .int), Cond.methodLink RX1 103 yX0_isLike, Cond.instanceMethod yX0_isLike, Cond.selects RX0 yX0_isLike yX0_isLike]
def wsX1_run_r2 : List Cond := [Cond.initialized RX0, Cond.code yX0_isLike cX0_isLike 2 (some .boolean), Cond.fieldLink RX0 7 "BackMirror$Thing" "kind" "I", Cond.fieldLink RX0 13 "BackMirror$Thing" "rights" "I", Cond.fieldLink RX0 16 "BackMirror$Thing" "numbers" "[I", Cond.static yX1_isSameRow, Cond.code yX1_isSameRow cX1_isSameRow 2 (some .boolean), Cond.methodLink RX1 129 yX1_sharedLength, Cond.static yX1_sharedLength, Cond.code yX1_sharedLength cX1_sharedLength 5 (some .int)]
def wsX1_run : List Cond := .code yX1_run cX1_run 3 (some .int) :: ((wsX1_run_r1 ++ wsX1_run_r2) ++ wsX10 ++ wsX00 ++ (vx_atS RX1 61 "java/lang/IllegalArgumentException" ["java/lang/RuntimeException", "java/lang/Exception"]).filter goodWord ++ (vx_atS RX1 54 "java/lang/IllegalStateException" ["java/lang/RuntimeException", "java/lang/Exception"]).filter goodWord)
def wsX1_mend : List Cond := .code yX1_mend cX1_mend 1 (some .int) :: ([.methodLink RX1 85 yX1_undoBrokenRun, .instanceMethod yX1_undoBrokenRun, .selects RX1 yX1_undoBrokenRun yX1_undoBrokenRun, .initialized RX1, .code yX1_undoBrokenRun cX1_undoBrokenRun 2 (some .int), .fieldLink RX1 32 "BackMirror" "brokenSteps" "I", .fieldLink RX1 28 "BackMirror" "broken" "Z"] ++ wsX10)
def wsX1_thin : List Cond := .code yX1_thin cX1_thin 2 (some .int) :: ([.classLink RX1 57 "java/lang/IllegalArgumentException", .initialized "java/lang/IllegalArgumentException", .classLink RX1 50 "java/lang/IllegalStateException", .initialized "java/lang/IllegalStateException", .fieldLink RX1 21 "BackMirror" "oldestDate" "I", .fieldLink RX1 25 "BackMirror" "lastDate" "I", .methodLink RX1 85 yX1_undoBrokenRun, .instanceMethod yX1_undoBrokenRun, .selects RX1 yX1_undoBrokenRun yX1_undoBrokenRun, .initialized RX1, .code yX1_undoBrokenRun cX1_undoBrokenRun 2 (some .int), .fieldLink RX1 32 "BackMirror" "brokenSteps" "I", .fieldLink RX1 28 "BackMirror" "broken" "Z"] ++ wsX10 ++ (vx_atS RX1 61 "java/lang/IllegalArgumentException" ["java/lang/RuntimeException", "java/lang/Exception"]).filter goodWord ++ (vx_atS RX1 54 "java/lang/IllegalStateException" ["java/lang/RuntimeException", "java/lang/Exception"]).filter goodWord)
def wsX1_checkKept : List Cond := .code yX1_checkKept cX1_checkKept 2 none :: ([.classLink RX1 111 "java/lang/IndexOutOfBoundsException", .initialized "java/lang/IndexOutOfBoundsException", .fieldLink RX1 21 "BackMirror" "oldestDate" "I", .fieldLink RX1 25 "BackMirror" "lastDate" "I"] ++ wsX10 ++ (vx_atS RX1 113 "java/lang/IndexOutOfBoundsException" ["java/lang/RuntimeException", "java/lang/Exception"]).filter goodWord)
def wsX1_restore_r1 : List Cond := [Cond.fieldLink RX1 18 "BackMirror" "kept" "[LBackMirror$Thing;", Cond.fieldLink RX1 14 "BackMirror" "live" "[LBackMirror$Thing;", Cond.methodLink RX1 100 yX1_checkKept, Cond.instanceMethod yX1_checkKept, Cond.selects RX1 yX1_checkKept yX1_checkKept, Cond.initialized RX1, Cond.code yX1_checkKept cX1_checkKept 2 none, Cond.classLink RX1 111 "java/lang/IndexOutOfBoundsException", Cond.initialized "java/lang/IndexOutOfBoundsException", Cond.fieldLink RX1 21 "BackMirror" "oldestDate" "I", Cond.fieldLink RX1 25 "BackMirror" "lastDate" "I", Cond.methodLink RX1 85 yX1_undoBrokenRun, Cond.instanceMethod yX1_undoBrokenRun, Cond.selects RX1 yX1_undoBrokenRun yX1_undoBrokenRun, Cond.code yX1_undoBrokenRun cX1_undoBrokenRun 2 (some .int), Cond.fieldLink RX1 32 "BackMirror" "brokenSteps" "I", Cond.fieldLink RX1 28 "BackMirror" "broken" "Z", Cond.methodLink RX1 92 yX1_keptIndex, Cond.static yX1_keptIndex, Cond.code yX1_keptIndex cX1_keptIndex 2 (some .int), Cond.methodLink RX1 103 yX0_isLike, Cond.instanceMethod yX0_isLike, Cond.selects RX0 yX0_isLike yX0_isLike, Cond.initialized RX0]
def wsX1_restore_r2 : List Cond := [Cond.code yX0_isLike cX0_isLike 2 (some .boolean), Cond.fieldLink RX0 7 "BackMirror$Thing" "kind" "I", Cond.fieldLink RX0 13 "BackMirror$Thing" "rights" "I", Cond.fieldLink RX0 16 "BackMirror$Thing" "numbers" "[I", Cond.static yX1_isSameRow, Cond.code yX1_isSameRow cX1_isSameRow 2 (some .boolean), Cond.methodLink RX1 129 yX1_sharedLength, Cond.static yX1_sharedLength, Cond.code yX1_sharedLength cX1_sharedLength 5 (some .int)]
def wsX1_restore : List Cond := .code yX1_restore cX1_restore 5 (some .int) :: ((wsX1_restore_r1 ++ wsX1_restore_r2) ++ wsX10 ++ wsX00 ++ (vx_atS RX1 113 "java/lang/IndexOutOfBoundsException" ["java/lang/RuntimeException", "java/lang/Exception"]).filter goodWord)
def wsX1_last : List Cond := .code yX1_last cX1_last 1 (some .int) :: ([.fieldLink RX1 25 "BackMirror" "lastDate" "I"] ++ wsX10)
def wsX1_oldest : List Cond := .code yX1_oldest cX1_oldest 1 (some .int) :: ([.fieldLink RX1 21 "BackMirror" "oldestDate" "I"] ++ wsX10)
def wsX1_isBroken : List Cond := .code yX1_isBroken cX1_isBroken 1 (some .boolean) :: ([.fieldLink RX1 28 "BackMirror" "broken" "Z"] ++ wsX10)
def wsX1_needs : List Cond := .code yX1_needs cX1_needs 1 (some .int) :: ([.methodLink RX1 89 yX1_stepsNeeded, .instanceMethod yX1_stepsNeeded, .selects RX1 yX1_stepsNeeded yX1_stepsNeeded, .initialized RX1, .code yX1_stepsNeeded cX1_stepsNeeded 3 (some .int), .fieldLink RX1 14 "BackMirror" "live" "[LBackMirror$Thing;", .fieldLink RX1 18 "BackMirror" "kept" "[LBackMirror$Thing;", .fieldLink RX1 25 "BackMirror" "lastDate" "I", .methodLink RX1 92 yX1_keptIndex, .static yX1_keptIndex, .code yX1_keptIndex cX1_keptIndex 2 (some .int), .methodLink RX1 103 yX0_isLike, .instanceMethod yX0_isLike, .selects RX0 yX0_isLike yX0_isLike, .initialized RX0, .code yX0_isLike cX0_isLike 2 (some .boolean), .fieldLink RX0 7 "BackMirror$Thing" "kind" "I", .fieldLink RX0 13 "BackMirror$Thing" "rights" "I", .fieldLink RX0 16 "BackMirror$Thing" "numbers" "[I", .static yX1_isSameRow, .code yX1_isSameRow cX1_isSameRow 2 (some .boolean), .methodLink RX1 129 yX1_sharedLength, .static yX1_sharedLength, .code yX1_sharedLength cX1_sharedLength 5 (some .int)] ++ wsX10 ++ wsX00)
def wsX1_thingOn : List Cond := .code yX1_thingOn cX1_thingOn 3 (some (.object "BackMirror$Thing")) :: ([.fieldLink RX1 14 "BackMirror" "live" "[LBackMirror$Thing;", .fieldLink RX1 18 "BackMirror" "kept" "[LBackMirror$Thing;", .methodLink RX1 100 yX1_checkKept, .instanceMethod yX1_checkKept, .selects RX1 yX1_checkKept yX1_checkKept, .initialized RX1, .code yX1_checkKept cX1_checkKept 2 none, .classLink RX1 111 "java/lang/IndexOutOfBoundsException", .initialized "java/lang/IndexOutOfBoundsException", .fieldLink RX1 21 "BackMirror" "oldestDate" "I", .fieldLink RX1 25 "BackMirror" "lastDate" "I", .methodLink RX1 35 yX1_checkPlace, .static yX1_checkPlace, .code yX1_checkPlace cX1_checkPlace 1 none, .methodLink RX1 92 yX1_keptIndex, .static yX1_keptIndex, .code yX1_keptIndex cX1_keptIndex 2 (some .int)] ++ wsX10 ++ (vx_atS RX1 113 "java/lang/IndexOutOfBoundsException" ["java/lang/RuntimeException", "java/lang/Exception"]).filter goodWord)
def wsX1_kindAt : List Cond := .code yX1_kindAt cX1_kindAt 3 (some .int) :: ([.fieldLink RX1 47 "BackMirror$Thing" "kind" "I", .methodLink RX1 107 yX1_thingOn, .instanceMethod yX1_thingOn, .selects RX1 yX1_thingOn yX1_thingOn, .initialized RX1, .code yX1_thingOn cX1_thingOn 3 (some (.object "BackMirror$Thing")), .fieldLink RX1 14 "BackMirror" "live" "[LBackMirror$Thing;", .fieldLink RX1 18 "BackMirror" "kept" "[LBackMirror$Thing;", .methodLink RX1 100 yX1_checkKept, .instanceMethod yX1_checkKept, .selects RX1 yX1_checkKept yX1_checkKept, .code yX1_checkKept cX1_checkKept 2 none, .classLink RX1 111 "java/lang/IndexOutOfBoundsException", .initialized "java/lang/IndexOutOfBoundsException", .fieldLink RX1 21 "BackMirror" "oldestDate" "I", .fieldLink RX1 25 "BackMirror" "lastDate" "I", .methodLink RX1 35 yX1_checkPlace, .static yX1_checkPlace, .code yX1_checkPlace cX1_checkPlace 1 none, .methodLink RX1 92 yX1_keptIndex, .static yX1_keptIndex, .code yX1_keptIndex cX1_keptIndex 2 (some .int)] ++ wsX00 ++ wsX10 ++ (vx_atS RX1 113 "java/lang/IndexOutOfBoundsException" ["java/lang/RuntimeException", "java/lang/Exception"]).filter goodWord)
def wsX1_numberAt : List Cond := .code yX1_numberAt cX1_numberAt 5 (some .int) :: ([.classLink RX1 111 "java/lang/IndexOutOfBoundsException", .initialized "java/lang/IndexOutOfBoundsException", .fieldLink RX1 43 "BackMirror$Thing" "numbers" "[I", .methodLink RX1 107 yX1_thingOn, .instanceMethod yX1_thingOn, .selects RX1 yX1_thingOn yX1_thingOn, .initialized RX1, .code yX1_thingOn cX1_thingOn 3 (some (.object "BackMirror$Thing")), .fieldLink RX1 14 "BackMirror" "live" "[LBackMirror$Thing;", .fieldLink RX1 18 "BackMirror" "kept" "[LBackMirror$Thing;", .methodLink RX1 100 yX1_checkKept, .instanceMethod yX1_checkKept, .selects RX1 yX1_checkKept yX1_checkKept, .code yX1_checkKept cX1_checkKept 2 none, .fieldLink RX1 21 "BackMirror" "oldestDate" "I", .fieldLink RX1 25 "BackMirror" "lastDate" "I", .methodLink RX1 35 yX1_checkPlace, .static yX1_checkPlace, .code yX1_checkPlace cX1_checkPlace 1 none, .methodLink RX1 92 yX1_keptIndex, .static yX1_keptIndex, .code yX1_keptIndex cX1_keptIndex 2 (some .int)] ++ wsX00 ++ wsX10 ++ (vx_atS RX1 113 "java/lang/IndexOutOfBoundsException" ["java/lang/RuntimeException", "java/lang/Exception"]).filter goodWord)
def wsX1_rightsAt : List Cond := .code yX1_rightsAt cX1_rightsAt 3 (some .int) :: ([.fieldLink RX1 62 "BackMirror$Thing" "rights" "I", .methodLink RX1 107 yX1_thingOn, .instanceMethod yX1_thingOn, .selects RX1 yX1_thingOn yX1_thingOn, .initialized RX1, .code yX1_thingOn cX1_thingOn 3 (some (.object "BackMirror$Thing")), .fieldLink RX1 14 "BackMirror" "live" "[LBackMirror$Thing;", .fieldLink RX1 18 "BackMirror" "kept" "[LBackMirror$Thing;", .methodLink RX1 100 yX1_checkKept, .instanceMethod yX1_checkKept, .selects RX1 yX1_checkKept yX1_checkKept, .code yX1_checkKept cX1_checkKept 2 none, .classLink RX1 111 "java/lang/IndexOutOfBoundsException", .initialized "java/lang/IndexOutOfBoundsException", .fieldLink RX1 21 "BackMirror" "oldestDate" "I", .fieldLink RX1 25 "BackMirror" "lastDate" "I", .methodLink RX1 35 yX1_checkPlace, .static yX1_checkPlace, .code yX1_checkPlace cX1_checkPlace 1 none, .methodLink RX1 92 yX1_keptIndex, .static yX1_keptIndex, .code yX1_keptIndex cX1_keptIndex 2 (some .int)] ++ wsX00 ++ wsX10 ++ (vx_atS RX1 113 "java/lang/IndexOutOfBoundsException" ["java/lang/RuntimeException", "java/lang/Exception"]).filter goodWord)
def wsX1_longestCopy : List Cond := .code yX1_longestCopy cX1_longestCopy 5 (some .int) :: ([.methodLink RX1 133 Lib.Math.max.name, .static Lib.Math.max.name, .initialized "java/lang/Math", .code Lib.Math.max.name Lib.Math.max.code 2 (some .int), .methodLink RX1 129 yX1_sharedLength, .static yX1_sharedLength, .initialized RX1, .code yX1_sharedLength cX1_sharedLength 5 (some .int)])
def wsX1_rowTakes : List Cond := .code yX1_rowTakes cX1_rowTakes 5 (some .int) :: ([.methodLink RX1 125 yX1_longestCopy, .static yX1_longestCopy, .initialized RX1, .code yX1_longestCopy cX1_longestCopy 5 (some .int), .methodLink RX1 133 Lib.Math.max.name, .static Lib.Math.max.name, .initialized "java/lang/Math", .code Lib.Math.max.name Lib.Math.max.code 2 (some .int), .methodLink RX1 129 yX1_sharedLength, .static yX1_sharedLength, .code yX1_sharedLength cX1_sharedLength 5 (some .int)])
def wsX1_differenceTakes_r1 : List Cond := [Cond.fieldLink RX1 25 "BackMirror" "lastDate" "I", Cond.fieldLink RX1 18 "BackMirror" "kept" "[LBackMirror$Thing;", Cond.fieldLink RX1 62 "BackMirror$Thing" "rights" "I", Cond.fieldLink RX1 47 "BackMirror$Thing" "kind" "I", Cond.fieldLink RX1 43 "BackMirror$Thing" "numbers" "[I", Cond.methodLink RX1 92 yX1_keptIndex, Cond.static yX1_keptIndex, Cond.initialized RX1, Cond.code yX1_keptIndex cX1_keptIndex 2 (some .int), Cond.methodLink RX1 103 yX0_isLike, Cond.instanceMethod yX0_isLike, Cond.selects RX0 yX0_isLike yX0_isLike, Cond.initialized RX0, Cond.code yX0_isLike cX0_isLike 2 (some .boolean), Cond.fieldLink RX0 7 "BackMirror$Thing" "kind" "I", Cond.fieldLink RX0 13 "BackMirror$Thing" "rights" "I", Cond.fieldLink RX0 16 "BackMirror$Thing" "numbers" "[I", Cond.static yX1_isSameRow, Cond.code yX1_isSameRow cX1_isSameRow 2 (some .boolean), Cond.methodLink RX1 129 yX1_sharedLength, Cond.static yX1_sharedLength, Cond.code yX1_sharedLength cX1_sharedLength 5 (some .int), Cond.methodLink RX1 121 yX1_rowTakes, Cond.static yX1_rowTakes]
def wsX1_differenceTakes_r2 : List Cond := [Cond.code yX1_rowTakes cX1_rowTakes 5 (some .int), Cond.methodLink RX1 125 yX1_longestCopy, Cond.static yX1_longestCopy, Cond.code yX1_longestCopy cX1_longestCopy 5 (some .int), Cond.methodLink RX1 133 Lib.Math.max.name, Cond.static Lib.Math.max.name, Cond.initialized "java/lang/Math", Cond.code Lib.Math.max.name Lib.Math.max.code 2 (some .int)]
def wsX1_differenceTakes : List Cond := .code yX1_differenceTakes cX1_differenceTakes 6 (some .int) :: ((wsX1_differenceTakes_r1 ++ wsX1_differenceTakes_r2) ++ wsX10 ++ wsX00)
def wsX1_sizeAt_r1 : List Cond := [Cond.methodLink RX1 100 yX1_checkKept, Cond.instanceMethod yX1_checkKept, Cond.selects RX1 yX1_checkKept yX1_checkKept, Cond.initialized RX1, Cond.code yX1_checkKept cX1_checkKept 2 none, Cond.classLink RX1 111 "java/lang/IndexOutOfBoundsException", Cond.initialized "java/lang/IndexOutOfBoundsException", Cond.fieldLink RX1 21 "BackMirror" "oldestDate" "I", Cond.fieldLink RX1 25 "BackMirror" "lastDate" "I", Cond.methodLink RX1 35 yX1_checkPlace, Cond.static yX1_checkPlace, Cond.code yX1_checkPlace cX1_checkPlace 1 none, Cond.methodLink RX1 114 yX1_differenceTakes, Cond.instanceMethod yX1_differenceTakes, Cond.selects RX1 yX1_differenceTakes yX1_differenceTakes, Cond.code yX1_differenceTakes cX1_differenceTakes 6 (some .int), Cond.fieldLink RX1 18 "BackMirror" "kept" "[LBackMirror$Thing;", Cond.fieldLink RX1 62 "BackMirror$Thing" "rights" "I", Cond.fieldLink RX1 47 "BackMirror$Thing" "kind" "I", Cond.fieldLink RX1 43 "BackMirror$Thing" "numbers" "[I", Cond.methodLink RX1 92 yX1_keptIndex, Cond.static yX1_keptIndex, Cond.code yX1_keptIndex cX1_keptIndex 2 (some .int), Cond.methodLink RX1 103 yX0_isLike]
def wsX1_sizeAt_r2 : List Cond := [Cond.instanceMethod yX0_isLike, Cond.selects RX0 yX0_isLike yX0_isLike, Cond.initialized RX0, Cond.code yX0_isLike cX0_isLike 2 (some .boolean), Cond.fieldLink RX0 7 "BackMirror$Thing" "kind" "I", Cond.fieldLink RX0 13 "BackMirror$Thing" "rights" "I", Cond.fieldLink RX0 16 "BackMirror$Thing" "numbers" "[I", Cond.static yX1_isSameRow, Cond.code yX1_isSameRow cX1_isSameRow 2 (some .boolean), Cond.methodLink RX1 129 yX1_sharedLength, Cond.static yX1_sharedLength, Cond.code yX1_sharedLength cX1_sharedLength 5 (some .int), Cond.methodLink RX1 121 yX1_rowTakes, Cond.static yX1_rowTakes, Cond.code yX1_rowTakes cX1_rowTakes 5 (some .int), Cond.methodLink RX1 125 yX1_longestCopy, Cond.static yX1_longestCopy, Cond.code yX1_longestCopy cX1_longestCopy 5 (some .int), Cond.methodLink RX1 133 Lib.Math.max.name, Cond.static Lib.Math.max.name, Cond.initialized "java/lang/Math", Cond.code Lib.Math.max.name Lib.Math.max.code 2 (some .int)]
def wsX1_sizeAt : List Cond := .code yX1_sizeAt cX1_sizeAt 3 (some .int) :: ((wsX1_sizeAt_r1 ++ wsX1_sizeAt_r2) ++ wsX10 ++ wsX00 ++ (vx_atS RX1 113 "java/lang/IndexOutOfBoundsException" ["java/lang/RuntimeException", "java/lang/Exception"]).filter goodWord)
def wsX1_size_r1 : List Cond := [Cond.fieldLink RX1 21 "BackMirror" "oldestDate" "I", Cond.fieldLink RX1 25 "BackMirror" "lastDate" "I", Cond.methodLink RX1 114 yX1_differenceTakes, Cond.instanceMethod yX1_differenceTakes, Cond.selects RX1 yX1_differenceTakes yX1_differenceTakes, Cond.initialized RX1, Cond.code yX1_differenceTakes cX1_differenceTakes 6 (some .int), Cond.fieldLink RX1 18 "BackMirror" "kept" "[LBackMirror$Thing;", Cond.fieldLink RX1 62 "BackMirror$Thing" "rights" "I", Cond.fieldLink RX1 47 "BackMirror$Thing" "kind" "I", Cond.fieldLink RX1 43 "BackMirror$Thing" "numbers" "[I", Cond.methodLink RX1 92 yX1_keptIndex, Cond.static yX1_keptIndex, Cond.code yX1_keptIndex cX1_keptIndex 2 (some .int), Cond.methodLink RX1 103 yX0_isLike, Cond.instanceMethod yX0_isLike, Cond.selects RX0 yX0_isLike yX0_isLike, Cond.initialized RX0, Cond.code yX0_isLike cX0_isLike 2 (some .boolean), Cond.fieldLink RX0 7 "BackMirror$Thing" "kind" "I", Cond.fieldLink RX0 13 "BackMirror$Thing" "rights" "I", Cond.fieldLink RX0 16 "BackMirror$Thing" "numbers" "[I", Cond.static yX1_isSameRow, Cond.code yX1_isSameRow cX1_isSameRow 2 (some .boolean)]
def wsX1_size_r2 : List Cond := [Cond.methodLink RX1 129 yX1_sharedLength, Cond.static yX1_sharedLength, Cond.code yX1_sharedLength cX1_sharedLength 5 (some .int), Cond.methodLink RX1 121 yX1_rowTakes, Cond.static yX1_rowTakes, Cond.code yX1_rowTakes cX1_rowTakes 5 (some .int), Cond.methodLink RX1 125 yX1_longestCopy, Cond.static yX1_longestCopy, Cond.code yX1_longestCopy cX1_longestCopy 5 (some .int), Cond.methodLink RX1 133 Lib.Math.max.name, Cond.static Lib.Math.max.name, Cond.initialized "java/lang/Math", Cond.code Lib.Math.max.name Lib.Math.max.code 2 (some .int)]
def wsX1_size : List Cond := .code yX1_size cX1_size 4 (some .int) :: ((wsX1_size_r1 ++ wsX1_size_r2) ++ wsX10 ++ wsX00)
def wsJ9_max_7cf53 : List Cond := .code yJ9_max_7cf53 cJ9_max_7cf53 2 (some .int) :: ([])
def wsL_dice : List Cond := .code yL_dice cL_dice 2 (some .int) :: ([.constant RL 7 (1799596469), .constant RL 8 (2147483647)])
def wsL_act_r1 : List Cond := [Cond.classLink RL 41 "java/lang/IndexOutOfBoundsException", Cond.classLink RL 43 "java/lang/IllegalArgumentException", Cond.classLink RL 45 "java/lang/IllegalStateException", Cond.methodLink RL 9 yX1_makeFile, Cond.instanceMethod yX1_makeFile, Cond.selects RX1 yX1_makeFile yX1_makeFile, Cond.initialized RX1, Cond.code yX1_makeFile cX1_makeFile 2 (some .int), Cond.classLink RX1 7 RX0, Cond.instantiable RX0 3, Cond.initialized RX0, Cond.arrayClass .int, Cond.methodLink RX1 35 yX1_checkPlace, Cond.static yX1_checkPlace, Cond.code yX1_checkPlace cX1_checkPlace 1 none, Cond.classLink RX1 111 "java/lang/IndexOutOfBoundsException", Cond.initialized "java/lang/IndexOutOfBoundsException", Cond.methodLink RX1 11 yX0_init, Cond.instanceMethod yX0_init, Cond.code yX0_init cX0_init 4 none, Cond.methodLink RX0 1 objectInit, Cond.instanceMethod objectInit, Cond.code objectInit ⟨#[0xb1]⟩ 1 none, Cond.fieldLink RX0 7 "BackMirror$Thing" "kind" "I"]
def wsL_act_r2 : List Cond := [Cond.fieldLink RX0 13 "BackMirror$Thing" "rights" "I", Cond.fieldLink RX0 16 "BackMirror$Thing" "numbers" "[I", Cond.methodLink RX1 39 yX1_exchange, Cond.instanceMethod yX1_exchange, Cond.selects RX1 yX1_exchange yX1_exchange, Cond.code yX1_exchange cX1_exchange 4 (some .int), Cond.fieldLink RX1 14 "BackMirror" "live" "[LBackMirror$Thing;", Cond.fieldLink RX1 47 "BackMirror$Thing" "kind" "I", Cond.methodLink RL 15 yX1_makeLink, Cond.instanceMethod yX1_makeLink, Cond.selects RX1 yX1_makeLink yX1_makeLink, Cond.code yX1_makeLink cX1_makeLink 3 (some .int), Cond.methodLink RL 19 yX1_remove, Cond.instanceMethod yX1_remove, Cond.selects RX1 yX1_remove yX1_remove, Cond.code yX1_remove cX1_remove 2 (some .int), Cond.methodLink RL 22 yX1_put, Cond.instanceMethod yX1_put, Cond.selects RX1 yX1_put yX1_put, Cond.code yX1_put cX1_put 6 (some .int), Cond.classLink RX1 50 "java/lang/IllegalStateException", Cond.initialized "java/lang/IllegalStateException", Cond.classLink RX1 57 "java/lang/IllegalArgumentException", Cond.initialized "java/lang/IllegalArgumentException"]
def wsL_act_r3 : List Cond := [Cond.fieldLink RX1 43 "BackMirror$Thing" "numbers" "[I", Cond.fieldLink RX1 62 "BackMirror$Thing" "rights" "I", Cond.methodLink RX1 65 yX1_rowWith, Cond.static yX1_rowWith, Cond.code yX1_rowWith cX1_rowWith 5 (some (.array .int)), Cond.methodLink RL 26 yX1_take, Cond.instanceMethod yX1_take, Cond.selects RX1 yX1_take yX1_take, Cond.code yX1_take cX1_take 4 (some .int), Cond.methodLink RX1 73 yX1_rowWithout, Cond.static yX1_rowWithout, Cond.code yX1_rowWithout cX1_rowWithout 4 (some (.array .int)), Cond.methodLink RL 29 yX1_setRights, Cond.instanceMethod yX1_setRights, Cond.selects RX1 yX1_setRights yX1_setRights, Cond.code yX1_setRights cX1_setRights 4 (some .int), Cond.methodLink RL 32 yX1_run, Cond.instanceMethod yX1_run, Cond.selects RX1 yX1_run yX1_run, Cond.code yX1_run cX1_run 3 (some .int), Cond.fieldLink RX1 25 "BackMirror" "lastDate" "I", Cond.fieldLink RX1 28 "BackMirror" "broken" "Z", Cond.fieldLink RX1 32 "BackMirror" "brokenSteps" "I", Cond.fieldLink RX1 18 "BackMirror" "kept" "[LBackMirror$Thing;"]
def wsL_act_r4 : List Cond := [Cond.methodLink RX1 85 yX1_undoBrokenRun, Cond.instanceMethod yX1_undoBrokenRun, Cond.selects RX1 yX1_undoBrokenRun yX1_undoBrokenRun, Cond.code yX1_undoBrokenRun cX1_undoBrokenRun 2 (some .int), Cond.methodLink RX1 89 yX1_stepsNeeded, Cond.instanceMethod yX1_stepsNeeded, Cond.selects RX1 yX1_stepsNeeded yX1_stepsNeeded, Cond.code yX1_stepsNeeded cX1_stepsNeeded 3 (some .int), Cond.methodLink RX1 92 yX1_keptIndex, Cond.static yX1_keptIndex, Cond.code yX1_keptIndex cX1_keptIndex 2 (some .int), Cond.methodLink RX1 103 yX0_isLike, Cond.instanceMethod yX0_isLike, Cond.selects RX0 yX0_isLike yX0_isLike, Cond.code yX0_isLike cX0_isLike 2 (some .boolean), Cond.static yX1_isSameRow, Cond.code yX1_isSameRow cX1_isSameRow 2 (some .boolean), Cond.methodLink RX1 129 yX1_sharedLength, Cond.static yX1_sharedLength, Cond.code yX1_sharedLength cX1_sharedLength 5 (some .int), Cond.methodLink RL 35 yX1_thin, Cond.instanceMethod yX1_thin, Cond.selects RX1 yX1_thin yX1_thin, Cond.code yX1_thin cX1_thin 2 (some .int)]
def wsL_act_r5 : List Cond := [Cond.fieldLink RX1 21 "BackMirror" "oldestDate" "I", Cond.methodLink RL 38 yX1_restore, Cond.instanceMethod yX1_restore, Cond.selects RX1 yX1_restore yX1_restore, Cond.code yX1_restore cX1_restore 5 (some .int), Cond.methodLink RX1 100 yX1_checkKept, Cond.instanceMethod yX1_checkKept, Cond.selects RX1 yX1_checkKept yX1_checkKept, Cond.code yX1_checkKept cX1_checkKept 2 none]
def wsL_act : List Cond := .codeWith yL_act cL_act 6 (some .int) [(0, 116, 117, 41), (0, 116, 123, 43), (0, 116, 129, 45)] :: ((wsL_act_r1 ++ (wsL_act_r2 ++ (wsL_act_r3 ++ (wsL_act_r4 ++ wsL_act_r5)))) ++ wsX00 ++ wsX10 ++ (vx_atS RX1 113 "java/lang/IndexOutOfBoundsException" ["java/lang/RuntimeException", "java/lang/Exception"]).filter goodWord ++ (vx_atS RX1 54 "java/lang/IllegalStateException" ["java/lang/RuntimeException", "java/lang/Exception"]).filter goodWord ++ (vx_atS RX1 61 "java/lang/IllegalArgumentException" ["java/lang/RuntimeException", "java/lang/Exception"]).filter goodWord)
def wsL_of_r1 : List Cond := [Cond.classLink RL 41 "java/lang/IndexOutOfBoundsException", Cond.methodLink RL 47 yX1_kindAt, Cond.instanceMethod yX1_kindAt, Cond.selects RX1 yX1_kindAt yX1_kindAt, Cond.initialized RX1, Cond.code yX1_kindAt cX1_kindAt 3 (some .int), Cond.fieldLink RX1 47 "BackMirror$Thing" "kind" "I", Cond.methodLink RX1 107 yX1_thingOn, Cond.instanceMethod yX1_thingOn, Cond.selects RX1 yX1_thingOn yX1_thingOn, Cond.code yX1_thingOn cX1_thingOn 3 (some (.object "BackMirror$Thing")), Cond.fieldLink RX1 14 "BackMirror" "live" "[LBackMirror$Thing;", Cond.fieldLink RX1 18 "BackMirror" "kept" "[LBackMirror$Thing;", Cond.methodLink RX1 100 yX1_checkKept, Cond.instanceMethod yX1_checkKept, Cond.selects RX1 yX1_checkKept yX1_checkKept, Cond.code yX1_checkKept cX1_checkKept 2 none, Cond.classLink RX1 111 "java/lang/IndexOutOfBoundsException", Cond.initialized "java/lang/IndexOutOfBoundsException", Cond.fieldLink RX1 21 "BackMirror" "oldestDate" "I", Cond.fieldLink RX1 25 "BackMirror" "lastDate" "I", Cond.methodLink RX1 35 yX1_checkPlace, Cond.static yX1_checkPlace, Cond.code yX1_checkPlace cX1_checkPlace 1 none]
def wsL_of_r2 : List Cond := [Cond.methodLink RX1 92 yX1_keptIndex, Cond.static yX1_keptIndex, Cond.code yX1_keptIndex cX1_keptIndex 2 (some .int), Cond.methodLink RL 50 yX1_numberAt, Cond.instanceMethod yX1_numberAt, Cond.selects RX1 yX1_numberAt yX1_numberAt, Cond.code yX1_numberAt cX1_numberAt 5 (some .int), Cond.fieldLink RX1 43 "BackMirror$Thing" "numbers" "[I", Cond.methodLink RL 53 yX1_rightsAt, Cond.instanceMethod yX1_rightsAt, Cond.selects RX1 yX1_rightsAt yX1_rightsAt, Cond.code yX1_rightsAt cX1_rightsAt 3 (some .int), Cond.fieldLink RX1 62 "BackMirror$Thing" "rights" "I", Cond.methodLink RL 56 yX1_sizeAt, Cond.instanceMethod yX1_sizeAt, Cond.selects RX1 yX1_sizeAt yX1_sizeAt, Cond.code yX1_sizeAt cX1_sizeAt 3 (some .int), Cond.methodLink RX1 114 yX1_differenceTakes, Cond.instanceMethod yX1_differenceTakes, Cond.selects RX1 yX1_differenceTakes yX1_differenceTakes, Cond.code yX1_differenceTakes cX1_differenceTakes 6 (some .int), Cond.methodLink RX1 103 yX0_isLike, Cond.instanceMethod yX0_isLike, Cond.selects RX0 yX0_isLike yX0_isLike]
def wsL_of_r3 : List Cond := [Cond.initialized RX0, Cond.code yX0_isLike cX0_isLike 2 (some .boolean), Cond.fieldLink RX0 7 "BackMirror$Thing" "kind" "I", Cond.fieldLink RX0 13 "BackMirror$Thing" "rights" "I", Cond.fieldLink RX0 16 "BackMirror$Thing" "numbers" "[I", Cond.static yX1_isSameRow, Cond.code yX1_isSameRow cX1_isSameRow 2 (some .boolean), Cond.methodLink RX1 129 yX1_sharedLength, Cond.static yX1_sharedLength, Cond.code yX1_sharedLength cX1_sharedLength 5 (some .int), Cond.methodLink RX1 121 yX1_rowTakes, Cond.static yX1_rowTakes, Cond.code yX1_rowTakes cX1_rowTakes 5 (some .int), Cond.methodLink RX1 125 yX1_longestCopy, Cond.static yX1_longestCopy, Cond.code yX1_longestCopy cX1_longestCopy 5 (some .int), Cond.methodLink RX1 133 Lib.Math.max.name, Cond.static Lib.Math.max.name, Cond.initialized "java/lang/Math", Cond.code Lib.Math.max.name Lib.Math.max.code 2 (some .int)]
def wsL_of : List Cond := .codeWith yL_of cL_of 6 (some .int) [(0, 49, 50, 41)] :: ((wsL_of_r1 ++ (wsL_of_r2 ++ wsL_of_r3)) ++ wsX00 ++ wsX10 ++ (vx_atS RX1 113 "java/lang/IndexOutOfBoundsException" ["java/lang/RuntimeException", "java/lang/Exception"]).filter goodWord)
def wsL_told_r1 : List Cond := [Cond.constantLong RL 59 (3), Cond.constantLong RL 61 (12), Cond.methodLink RL 47 yX1_kindAt, Cond.instanceMethod yX1_kindAt, Cond.selects RX1 yX1_kindAt yX1_kindAt, Cond.initialized RX1, Cond.code yX1_kindAt cX1_kindAt 3 (some .int), Cond.fieldLink RX1 47 "BackMirror$Thing" "kind" "I", Cond.methodLink RX1 107 yX1_thingOn, Cond.instanceMethod yX1_thingOn, Cond.selects RX1 yX1_thingOn yX1_thingOn, Cond.code yX1_thingOn cX1_thingOn 3 (some (.object "BackMirror$Thing")), Cond.fieldLink RX1 14 "BackMirror" "live" "[LBackMirror$Thing;", Cond.fieldLink RX1 18 "BackMirror" "kept" "[LBackMirror$Thing;", Cond.methodLink RX1 100 yX1_checkKept, Cond.instanceMethod yX1_checkKept, Cond.selects RX1 yX1_checkKept yX1_checkKept, Cond.code yX1_checkKept cX1_checkKept 2 none, Cond.classLink RX1 111 "java/lang/IndexOutOfBoundsException", Cond.initialized "java/lang/IndexOutOfBoundsException", Cond.fieldLink RX1 21 "BackMirror" "oldestDate" "I", Cond.fieldLink RX1 25 "BackMirror" "lastDate" "I", Cond.methodLink RX1 35 yX1_checkPlace, Cond.static yX1_checkPlace]
def wsL_told_r2 : List Cond := [Cond.code yX1_checkPlace cX1_checkPlace 1 none, Cond.methodLink RX1 92 yX1_keptIndex, Cond.static yX1_keptIndex, Cond.code yX1_keptIndex cX1_keptIndex 2 (some .int), Cond.methodLink RL 53 yX1_rightsAt, Cond.instanceMethod yX1_rightsAt, Cond.selects RX1 yX1_rightsAt yX1_rightsAt, Cond.code yX1_rightsAt cX1_rightsAt 3 (some .int), Cond.fieldLink RX1 62 "BackMirror$Thing" "rights" "I", Cond.methodLink RL 50 yX1_numberAt, Cond.instanceMethod yX1_numberAt, Cond.selects RX1 yX1_numberAt yX1_numberAt, Cond.code yX1_numberAt cX1_numberAt 5 (some .int), Cond.fieldLink RX1 43 "BackMirror$Thing" "numbers" "[I"]
def wsL_told : List Cond := .code yL_told cL_told 6 (some .long) :: ((wsL_told_r1 ++ wsL_told_r2) ++ wsX00 ++ wsX10 ++ (vx_atS RX1 113 "java/lang/IndexOutOfBoundsException" ["java/lang/RuntimeException", "java/lang/Exception"]).filter goodWord)
def wsL_length_r1 : List Cond := [Cond.methodLink RL 50 yX1_numberAt, Cond.instanceMethod yX1_numberAt, Cond.selects RX1 yX1_numberAt yX1_numberAt, Cond.initialized RX1, Cond.code yX1_numberAt cX1_numberAt 5 (some .int), Cond.classLink RX1 111 "java/lang/IndexOutOfBoundsException", Cond.initialized "java/lang/IndexOutOfBoundsException", Cond.fieldLink RX1 43 "BackMirror$Thing" "numbers" "[I", Cond.methodLink RX1 107 yX1_thingOn, Cond.instanceMethod yX1_thingOn, Cond.selects RX1 yX1_thingOn yX1_thingOn, Cond.code yX1_thingOn cX1_thingOn 3 (some (.object "BackMirror$Thing")), Cond.fieldLink RX1 14 "BackMirror" "live" "[LBackMirror$Thing;", Cond.fieldLink RX1 18 "BackMirror" "kept" "[LBackMirror$Thing;", Cond.methodLink RX1 100 yX1_checkKept, Cond.instanceMethod yX1_checkKept, Cond.selects RX1 yX1_checkKept yX1_checkKept, Cond.code yX1_checkKept cX1_checkKept 2 none, Cond.fieldLink RX1 21 "BackMirror" "oldestDate" "I", Cond.fieldLink RX1 25 "BackMirror" "lastDate" "I", Cond.methodLink RX1 35 yX1_checkPlace, Cond.static yX1_checkPlace, Cond.code yX1_checkPlace cX1_checkPlace 1 none, Cond.methodLink RX1 92 yX1_keptIndex]
def wsL_length_r2 : List Cond := [Cond.static yX1_keptIndex, Cond.code yX1_keptIndex cX1_keptIndex 2 (some .int)]
def wsL_length : List Cond := .code yL_length cL_length 4 (some .int) :: ((wsL_length_r1 ++ wsL_length_r2) ++ wsX00 ++ wsX10 ++ (vx_atS RX1 113 "java/lang/IndexOutOfBoundsException" ["java/lang/RuntimeException", "java/lang/Exception"]).filter goodWord)
def wsL_takes_r1 : List Cond := [Cond.methodLink RL 63 yL_told, Cond.static yL_told, Cond.initialized RL, Cond.code yL_told cL_told 6 (some .long), Cond.constantLong RL 59 (3), Cond.constantLong RL 61 (12), Cond.methodLink RL 47 yX1_kindAt, Cond.instanceMethod yX1_kindAt, Cond.selects RX1 yX1_kindAt yX1_kindAt, Cond.initialized RX1, Cond.code yX1_kindAt cX1_kindAt 3 (some .int), Cond.fieldLink RX1 47 "BackMirror$Thing" "kind" "I", Cond.methodLink RX1 107 yX1_thingOn, Cond.instanceMethod yX1_thingOn, Cond.selects RX1 yX1_thingOn yX1_thingOn, Cond.code yX1_thingOn cX1_thingOn 3 (some (.object "BackMirror$Thing")), Cond.fieldLink RX1 14 "BackMirror" "live" "[LBackMirror$Thing;", Cond.fieldLink RX1 18 "BackMirror" "kept" "[LBackMirror$Thing;", Cond.methodLink RX1 100 yX1_checkKept, Cond.instanceMethod yX1_checkKept, Cond.selects RX1 yX1_checkKept yX1_checkKept, Cond.code yX1_checkKept cX1_checkKept 2 none, Cond.classLink RX1 111 "java/lang/IndexOutOfBoundsException", Cond.initialized "java/lang/IndexOutOfBoundsException"]
def wsL_takes_r2 : List Cond := [Cond.fieldLink RX1 21 "BackMirror" "oldestDate" "I", Cond.fieldLink RX1 25 "BackMirror" "lastDate" "I", Cond.methodLink RX1 35 yX1_checkPlace, Cond.static yX1_checkPlace, Cond.code yX1_checkPlace cX1_checkPlace 1 none, Cond.methodLink RX1 92 yX1_keptIndex, Cond.static yX1_keptIndex, Cond.code yX1_keptIndex cX1_keptIndex 2 (some .int), Cond.methodLink RL 53 yX1_rightsAt, Cond.instanceMethod yX1_rightsAt, Cond.selects RX1 yX1_rightsAt yX1_rightsAt, Cond.code yX1_rightsAt cX1_rightsAt 3 (some .int), Cond.fieldLink RX1 62 "BackMirror$Thing" "rights" "I", Cond.methodLink RL 50 yX1_numberAt, Cond.instanceMethod yX1_numberAt, Cond.selects RX1 yX1_numberAt yX1_numberAt, Cond.code yX1_numberAt cX1_numberAt 5 (some .int), Cond.fieldLink RX1 43 "BackMirror$Thing" "numbers" "[I"]
def wsL_takes : List Cond := .code yL_takes cL_takes 3 none :: ((wsL_takes_r1 ++ wsL_takes_r2) ++ wsX00 ++ wsX10 ++ (vx_atS RX1 113 "java/lang/IndexOutOfBoundsException" ["java/lang/RuntimeException", "java/lang/Exception"]).filter goodWord)
def wsL_isHead_r1 : List Cond := [Cond.methodLink RL 63 yL_told, Cond.static yL_told, Cond.initialized RL, Cond.code yL_told cL_told 6 (some .long), Cond.constantLong RL 59 (3), Cond.constantLong RL 61 (12), Cond.methodLink RL 47 yX1_kindAt, Cond.instanceMethod yX1_kindAt, Cond.selects RX1 yX1_kindAt yX1_kindAt, Cond.initialized RX1, Cond.code yX1_kindAt cX1_kindAt 3 (some .int), Cond.fieldLink RX1 47 "BackMirror$Thing" "kind" "I", Cond.methodLink RX1 107 yX1_thingOn, Cond.instanceMethod yX1_thingOn, Cond.selects RX1 yX1_thingOn yX1_thingOn, Cond.code yX1_thingOn cX1_thingOn 3 (some (.object "BackMirror$Thing")), Cond.fieldLink RX1 14 "BackMirror" "live" "[LBackMirror$Thing;", Cond.fieldLink RX1 18 "BackMirror" "kept" "[LBackMirror$Thing;", Cond.methodLink RX1 100 yX1_checkKept, Cond.instanceMethod yX1_checkKept, Cond.selects RX1 yX1_checkKept yX1_checkKept, Cond.code yX1_checkKept cX1_checkKept 2 none, Cond.classLink RX1 111 "java/lang/IndexOutOfBoundsException", Cond.initialized "java/lang/IndexOutOfBoundsException"]
def wsL_isHead_r2 : List Cond := [Cond.fieldLink RX1 21 "BackMirror" "oldestDate" "I", Cond.fieldLink RX1 25 "BackMirror" "lastDate" "I", Cond.methodLink RX1 35 yX1_checkPlace, Cond.static yX1_checkPlace, Cond.code yX1_checkPlace cX1_checkPlace 1 none, Cond.methodLink RX1 92 yX1_keptIndex, Cond.static yX1_keptIndex, Cond.code yX1_keptIndex cX1_keptIndex 2 (some .int), Cond.methodLink RL 53 yX1_rightsAt, Cond.instanceMethod yX1_rightsAt, Cond.selects RX1 yX1_rightsAt yX1_rightsAt, Cond.code yX1_rightsAt cX1_rightsAt 3 (some .int), Cond.fieldLink RX1 62 "BackMirror$Thing" "rights" "I", Cond.methodLink RL 50 yX1_numberAt, Cond.instanceMethod yX1_numberAt, Cond.selects RX1 yX1_numberAt yX1_numberAt, Cond.code yX1_numberAt cX1_numberAt 5 (some .int), Cond.fieldLink RX1 43 "BackMirror$Thing" "numbers" "[I", Cond.methodLink RL 69 yX1_last, Cond.instanceMethod yX1_last, Cond.selects RX1 yX1_last yX1_last, Cond.code yX1_last cX1_last 1 (some .int), Cond.methodLink RL 73 yX1_oldest, Cond.instanceMethod yX1_oldest]
def wsL_isHead_r3 : List Cond := [Cond.selects RX1 yX1_oldest yX1_oldest, Cond.code yX1_oldest cX1_oldest 1 (some .int), Cond.methodLink RL 76 yX1_isBroken, Cond.instanceMethod yX1_isBroken, Cond.selects RX1 yX1_isBroken yX1_isBroken, Cond.code yX1_isBroken cX1_isBroken 1 (some .boolean), Cond.fieldLink RX1 28 "BackMirror" "broken" "Z", Cond.methodLink RL 80 yX1_needs, Cond.instanceMethod yX1_needs, Cond.selects RX1 yX1_needs yX1_needs, Cond.code yX1_needs cX1_needs 1 (some .int), Cond.methodLink RX1 89 yX1_stepsNeeded, Cond.instanceMethod yX1_stepsNeeded, Cond.selects RX1 yX1_stepsNeeded yX1_stepsNeeded, Cond.code yX1_stepsNeeded cX1_stepsNeeded 3 (some .int), Cond.methodLink RX1 103 yX0_isLike, Cond.instanceMethod yX0_isLike, Cond.selects RX0 yX0_isLike yX0_isLike, Cond.initialized RX0, Cond.code yX0_isLike cX0_isLike 2 (some .boolean), Cond.fieldLink RX0 7 "BackMirror$Thing" "kind" "I", Cond.fieldLink RX0 13 "BackMirror$Thing" "rights" "I", Cond.fieldLink RX0 16 "BackMirror$Thing" "numbers" "[I", Cond.static yX1_isSameRow]
def wsL_isHead_r4 : List Cond := [Cond.code yX1_isSameRow cX1_isSameRow 2 (some .boolean), Cond.methodLink RX1 129 yX1_sharedLength, Cond.static yX1_sharedLength, Cond.code yX1_sharedLength cX1_sharedLength 5 (some .int)]
def wsL_isHead : List Cond := .code yL_isHead cL_isHead 5 (some .boolean) :: ((wsL_isHead_r1 ++ (wsL_isHead_r2 ++ (wsL_isHead_r3 ++ wsL_isHead_r4))) ++ wsX00 ++ wsX10 ++ (vx_atS RX1 113 "java/lang/IndexOutOfBoundsException" ["java/lang/RuntimeException", "java/lang/Exception"]).filter goodWord)
def wsL_isSize_r1 : List Cond := [Cond.methodLink RL 56 yX1_sizeAt, Cond.instanceMethod yX1_sizeAt, Cond.selects RX1 yX1_sizeAt yX1_sizeAt, Cond.initialized RX1, Cond.code yX1_sizeAt cX1_sizeAt 3 (some .int), Cond.methodLink RX1 100 yX1_checkKept, Cond.instanceMethod yX1_checkKept, Cond.selects RX1 yX1_checkKept yX1_checkKept, Cond.code yX1_checkKept cX1_checkKept 2 none, Cond.classLink RX1 111 "java/lang/IndexOutOfBoundsException", Cond.initialized "java/lang/IndexOutOfBoundsException", Cond.fieldLink RX1 21 "BackMirror" "oldestDate" "I", Cond.fieldLink RX1 25 "BackMirror" "lastDate" "I", Cond.methodLink RX1 35 yX1_checkPlace, Cond.static yX1_checkPlace, Cond.code yX1_checkPlace cX1_checkPlace 1 none, Cond.methodLink RX1 114 yX1_differenceTakes, Cond.instanceMethod yX1_differenceTakes, Cond.selects RX1 yX1_differenceTakes yX1_differenceTakes, Cond.code yX1_differenceTakes cX1_differenceTakes 6 (some .int), Cond.fieldLink RX1 18 "BackMirror" "kept" "[LBackMirror$Thing;", Cond.fieldLink RX1 62 "BackMirror$Thing" "rights" "I", Cond.fieldLink RX1 47 "BackMirror$Thing" "kind" "I", Cond.fieldLink RX1 43 "BackMirror$Thing" "numbers" "[I"]
def wsL_isSize_r2 : List Cond := [Cond.methodLink RX1 92 yX1_keptIndex, Cond.static yX1_keptIndex, Cond.code yX1_keptIndex cX1_keptIndex 2 (some .int), Cond.methodLink RX1 103 yX0_isLike, Cond.instanceMethod yX0_isLike, Cond.selects RX0 yX0_isLike yX0_isLike, Cond.initialized RX0, Cond.code yX0_isLike cX0_isLike 2 (some .boolean), Cond.fieldLink RX0 7 "BackMirror$Thing" "kind" "I", Cond.fieldLink RX0 13 "BackMirror$Thing" "rights" "I", Cond.fieldLink RX0 16 "BackMirror$Thing" "numbers" "[I", Cond.static yX1_isSameRow, Cond.code yX1_isSameRow cX1_isSameRow 2 (some .boolean), Cond.methodLink RX1 129 yX1_sharedLength, Cond.static yX1_sharedLength, Cond.code yX1_sharedLength cX1_sharedLength 5 (some .int), Cond.methodLink RX1 121 yX1_rowTakes, Cond.static yX1_rowTakes, Cond.code yX1_rowTakes cX1_rowTakes 5 (some .int), Cond.methodLink RX1 125 yX1_longestCopy, Cond.static yX1_longestCopy, Cond.code yX1_longestCopy cX1_longestCopy 5 (some .int), Cond.methodLink RX1 133 Lib.Math.max.name, Cond.static Lib.Math.max.name]
def wsL_isSize_r3 : List Cond := [Cond.initialized "java/lang/Math", Cond.code Lib.Math.max.name Lib.Math.max.code 2 (some .int), Cond.methodLink RL 53 yX1_rightsAt, Cond.instanceMethod yX1_rightsAt, Cond.selects RX1 yX1_rightsAt yX1_rightsAt, Cond.code yX1_rightsAt cX1_rightsAt 3 (some .int), Cond.methodLink RX1 107 yX1_thingOn, Cond.instanceMethod yX1_thingOn, Cond.selects RX1 yX1_thingOn yX1_thingOn, Cond.code yX1_thingOn cX1_thingOn 3 (some (.object "BackMirror$Thing")), Cond.fieldLink RX1 14 "BackMirror" "live" "[LBackMirror$Thing;", Cond.methodLink RL 83 yL_length, Cond.static yL_length, Cond.initialized RL, Cond.code yL_length cL_length 4 (some .int), Cond.methodLink RL 50 yX1_numberAt, Cond.instanceMethod yX1_numberAt, Cond.selects RX1 yX1_numberAt yX1_numberAt, Cond.code yX1_numberAt cX1_numberAt 5 (some .int), Cond.methodLink RL 47 yX1_kindAt, Cond.instanceMethod yX1_kindAt, Cond.selects RX1 yX1_kindAt yX1_kindAt, Cond.code yX1_kindAt cX1_kindAt 3 (some .int)]
def wsL_isSize : List Cond := .code yL_isSize cL_isSize 12 (some .boolean) :: ((wsL_isSize_r1 ++ (wsL_isSize_r2 ++ wsL_isSize_r3)) ++ wsX10 ++ wsX00 ++ (vx_atS RX1 113 "java/lang/IndexOutOfBoundsException" ["java/lang/RuntimeException", "java/lang/Exception"]).filter goodWord)
def wsL_isDate_r1 : List Cond := [Cond.methodLink RL 47 yX1_kindAt, Cond.instanceMethod yX1_kindAt, Cond.selects RX1 yX1_kindAt yX1_kindAt, Cond.initialized RX1, Cond.code yX1_kindAt cX1_kindAt 3 (some .int), Cond.fieldLink RX1 47 "BackMirror$Thing" "kind" "I", Cond.methodLink RX1 107 yX1_thingOn, Cond.instanceMethod yX1_thingOn, Cond.selects RX1 yX1_thingOn yX1_thingOn, Cond.code yX1_thingOn cX1_thingOn 3 (some (.object "BackMirror$Thing")), Cond.fieldLink RX1 14 "BackMirror" "live" "[LBackMirror$Thing;", Cond.fieldLink RX1 18 "BackMirror" "kept" "[LBackMirror$Thing;", Cond.methodLink RX1 100 yX1_checkKept, Cond.instanceMethod yX1_checkKept, Cond.selects RX1 yX1_checkKept yX1_checkKept, Cond.code yX1_checkKept cX1_checkKept 2 none, Cond.classLink RX1 111 "java/lang/IndexOutOfBoundsException", Cond.initialized "java/lang/IndexOutOfBoundsException", Cond.fieldLink RX1 21 "BackMirror" "oldestDate" "I", Cond.fieldLink RX1 25 "BackMirror" "lastDate" "I", Cond.methodLink RX1 35 yX1_checkPlace, Cond.static yX1_checkPlace, Cond.code yX1_checkPlace cX1_checkPlace 1 none, Cond.methodLink RX1 92 yX1_keptIndex]
def wsL_isDate_r2 : List Cond := [Cond.static yX1_keptIndex, Cond.code yX1_keptIndex cX1_keptIndex 2 (some .int), Cond.methodLink RL 63 yL_told, Cond.static yL_told, Cond.initialized RL, Cond.code yL_told cL_told 6 (some .long), Cond.constantLong RL 59 (3), Cond.constantLong RL 61 (12), Cond.methodLink RL 53 yX1_rightsAt, Cond.instanceMethod yX1_rightsAt, Cond.selects RX1 yX1_rightsAt yX1_rightsAt, Cond.code yX1_rightsAt cX1_rightsAt 3 (some .int), Cond.fieldLink RX1 62 "BackMirror$Thing" "rights" "I", Cond.methodLink RL 50 yX1_numberAt, Cond.instanceMethod yX1_numberAt, Cond.selects RX1 yX1_numberAt yX1_numberAt, Cond.code yX1_numberAt cX1_numberAt 5 (some .int), Cond.fieldLink RX1 43 "BackMirror$Thing" "numbers" "[I", Cond.methodLink RL 83 yL_length, Cond.static yL_length, Cond.code yL_length cL_length 4 (some .int), Cond.methodLink RL 56 yX1_sizeAt, Cond.instanceMethod yX1_sizeAt, Cond.selects RX1 yX1_sizeAt yX1_sizeAt]
def wsL_isDate_r3 : List Cond := [Cond.code yX1_sizeAt cX1_sizeAt 3 (some .int), Cond.methodLink RX1 114 yX1_differenceTakes, Cond.instanceMethod yX1_differenceTakes, Cond.selects RX1 yX1_differenceTakes yX1_differenceTakes, Cond.code yX1_differenceTakes cX1_differenceTakes 6 (some .int), Cond.methodLink RX1 103 yX0_isLike, Cond.instanceMethod yX0_isLike, Cond.selects RX0 yX0_isLike yX0_isLike, Cond.initialized RX0, Cond.code yX0_isLike cX0_isLike 2 (some .boolean), Cond.fieldLink RX0 7 "BackMirror$Thing" "kind" "I", Cond.fieldLink RX0 13 "BackMirror$Thing" "rights" "I", Cond.fieldLink RX0 16 "BackMirror$Thing" "numbers" "[I", Cond.static yX1_isSameRow, Cond.code yX1_isSameRow cX1_isSameRow 2 (some .boolean), Cond.methodLink RX1 129 yX1_sharedLength, Cond.static yX1_sharedLength, Cond.code yX1_sharedLength cX1_sharedLength 5 (some .int), Cond.methodLink RX1 121 yX1_rowTakes, Cond.static yX1_rowTakes, Cond.code yX1_rowTakes cX1_rowTakes 5 (some .int), Cond.methodLink RX1 125 yX1_longestCopy, Cond.static yX1_longestCopy, Cond.code yX1_longestCopy cX1_longestCopy 5 (some .int)]
def wsL_isDate_r4 : List Cond := [Cond.methodLink RX1 133 Lib.Math.max.name, Cond.static Lib.Math.max.name, Cond.initialized "java/lang/Math", Cond.code Lib.Math.max.name Lib.Math.max.code 2 (some .int), Cond.methodLink RL 87 yL_isSize, Cond.static yL_isSize, Cond.code yL_isSize cL_isSize 12 (some .boolean)]
def wsL_isDate : List Cond := .code yL_isDate cL_isDate 7 (some .boolean) :: ((wsL_isDate_r1 ++ (wsL_isDate_r2 ++ (wsL_isDate_r3 ++ wsL_isDate_r4))) ++ wsX00 ++ wsX10 ++ (vx_atS RX1 113 "java/lang/IndexOutOfBoundsException" ["java/lang/RuntimeException", "java/lang/Exception"]).filter goodWord)
def wsL_isSum_r1 : List Cond := [Cond.methodLink RL 73 yX1_oldest, Cond.instanceMethod yX1_oldest, Cond.selects RX1 yX1_oldest yX1_oldest, Cond.initialized RX1, Cond.code yX1_oldest cX1_oldest 1 (some .int), Cond.fieldLink RX1 21 "BackMirror" "oldestDate" "I", Cond.methodLink RL 69 yX1_last, Cond.instanceMethod yX1_last, Cond.selects RX1 yX1_last yX1_last, Cond.code yX1_last cX1_last 1 (some .int), Cond.fieldLink RX1 25 "BackMirror" "lastDate" "I", Cond.methodLink RL 56 yX1_sizeAt, Cond.instanceMethod yX1_sizeAt, Cond.selects RX1 yX1_sizeAt yX1_sizeAt, Cond.code yX1_sizeAt cX1_sizeAt 3 (some .int), Cond.methodLink RX1 100 yX1_checkKept, Cond.instanceMethod yX1_checkKept, Cond.selects RX1 yX1_checkKept yX1_checkKept, Cond.code yX1_checkKept cX1_checkKept 2 none, Cond.classLink RX1 111 "java/lang/IndexOutOfBoundsException", Cond.initialized "java/lang/IndexOutOfBoundsException", Cond.methodLink RX1 35 yX1_checkPlace, Cond.static yX1_checkPlace, Cond.code yX1_checkPlace cX1_checkPlace 1 none]
def wsL_isSum_r2 : List Cond := [Cond.methodLink RX1 114 yX1_differenceTakes, Cond.instanceMethod yX1_differenceTakes, Cond.selects RX1 yX1_differenceTakes yX1_differenceTakes, Cond.code yX1_differenceTakes cX1_differenceTakes 6 (some .int), Cond.fieldLink RX1 18 "BackMirror" "kept" "[LBackMirror$Thing;", Cond.fieldLink RX1 62 "BackMirror$Thing" "rights" "I", Cond.fieldLink RX1 47 "BackMirror$Thing" "kind" "I", Cond.fieldLink RX1 43 "BackMirror$Thing" "numbers" "[I", Cond.methodLink RX1 92 yX1_keptIndex, Cond.static yX1_keptIndex, Cond.code yX1_keptIndex cX1_keptIndex 2 (some .int), Cond.methodLink RX1 103 yX0_isLike, Cond.instanceMethod yX0_isLike, Cond.selects RX0 yX0_isLike yX0_isLike, Cond.initialized RX0, Cond.code yX0_isLike cX0_isLike 2 (some .boolean), Cond.fieldLink RX0 7 "BackMirror$Thing" "kind" "I", Cond.fieldLink RX0 13 "BackMirror$Thing" "rights" "I", Cond.fieldLink RX0 16 "BackMirror$Thing" "numbers" "[I", Cond.static yX1_isSameRow, Cond.code yX1_isSameRow cX1_isSameRow 2 (some .boolean), Cond.methodLink RX1 129 yX1_sharedLength, Cond.static yX1_sharedLength, Cond.code yX1_sharedLength cX1_sharedLength 5 (some .int)]
def wsL_isSum_r3 : List Cond := [Cond.methodLink RX1 121 yX1_rowTakes, Cond.static yX1_rowTakes, Cond.code yX1_rowTakes cX1_rowTakes 5 (some .int), Cond.methodLink RX1 125 yX1_longestCopy, Cond.static yX1_longestCopy, Cond.code yX1_longestCopy cX1_longestCopy 5 (some .int), Cond.methodLink RX1 133 Lib.Math.max.name, Cond.static Lib.Math.max.name, Cond.initialized "java/lang/Math", Cond.code Lib.Math.max.name Lib.Math.max.code 2 (some .int), Cond.methodLink RL 91 yX1_size, Cond.instanceMethod yX1_size, Cond.selects RX1 yX1_size yX1_size, Cond.code yX1_size cX1_size 4 (some .int)]
def wsL_isSum : List Cond := .code yL_isSum cL_isSum 3 (some .boolean) :: ((wsL_isSum_r1 ++ (wsL_isSum_r2 ++ wsL_isSum_r3)) ++ wsX10 ++ wsX00 ++ (vx_atS RX1 113 "java/lang/IndexOutOfBoundsException" ["java/lang/RuntimeException", "java/lang/Exception"]).filter goodWord)
def wsL_isOnly_r1 : List Cond := [Cond.methodLink RL 63 yL_told, Cond.static yL_told, Cond.initialized RL, Cond.code yL_told cL_told 6 (some .long), Cond.constantLong RL 59 (3), Cond.constantLong RL 61 (12), Cond.methodLink RL 47 yX1_kindAt, Cond.instanceMethod yX1_kindAt, Cond.selects RX1 yX1_kindAt yX1_kindAt, Cond.initialized RX1, Cond.code yX1_kindAt cX1_kindAt 3 (some .int), Cond.fieldLink RX1 47 "BackMirror$Thing" "kind" "I", Cond.methodLink RX1 107 yX1_thingOn, Cond.instanceMethod yX1_thingOn, Cond.selects RX1 yX1_thingOn yX1_thingOn, Cond.code yX1_thingOn cX1_thingOn 3 (some (.object "BackMirror$Thing")), Cond.fieldLink RX1 14 "BackMirror" "live" "[LBackMirror$Thing;", Cond.fieldLink RX1 18 "BackMirror" "kept" "[LBackMirror$Thing;", Cond.methodLink RX1 100 yX1_checkKept, Cond.instanceMethod yX1_checkKept, Cond.selects RX1 yX1_checkKept yX1_checkKept, Cond.code yX1_checkKept cX1_checkKept 2 none, Cond.classLink RX1 111 "java/lang/IndexOutOfBoundsException", Cond.initialized "java/lang/IndexOutOfBoundsException"]
def wsL_isOnly_r2 : List Cond := [Cond.fieldLink RX1 21 "BackMirror" "oldestDate" "I", Cond.fieldLink RX1 25 "BackMirror" "lastDate" "I", Cond.methodLink RX1 35 yX1_checkPlace, Cond.static yX1_checkPlace, Cond.code yX1_checkPlace cX1_checkPlace 1 none, Cond.methodLink RX1 92 yX1_keptIndex, Cond.static yX1_keptIndex, Cond.code yX1_keptIndex cX1_keptIndex 2 (some .int), Cond.methodLink RL 53 yX1_rightsAt, Cond.instanceMethod yX1_rightsAt, Cond.selects RX1 yX1_rightsAt yX1_rightsAt, Cond.code yX1_rightsAt cX1_rightsAt 3 (some .int), Cond.fieldLink RX1 62 "BackMirror$Thing" "rights" "I", Cond.methodLink RL 50 yX1_numberAt, Cond.instanceMethod yX1_numberAt, Cond.selects RX1 yX1_numberAt yX1_numberAt, Cond.code yX1_numberAt cX1_numberAt 5 (some .int), Cond.fieldLink RX1 43 "BackMirror$Thing" "numbers" "[I"]
def wsL_isOnly : List Cond := .code yL_isOnly cL_isOnly 5 (some .boolean) :: ((wsL_isOnly_r1 ++ wsL_isOnly_r2) ++ wsX00 ++ wsX10 ++ (vx_atS RX1 113 "java/lang/IndexOutOfBoundsException" ["java/lang/RuntimeException", "java/lang/Exception"]).filter goodWord)
def wsL_all_r1 : List Cond := [Cond.constantLong RL 94 (31), Cond.constantLong RL 96 (1009), Cond.constantLong RL 98 (65537), Cond.constantLong RL 100 (7), Cond.constantLong RL 102 (1000003), Cond.methodLink RL 69 yX1_last, Cond.instanceMethod yX1_last, Cond.selects RX1 yX1_last yX1_last, Cond.initialized RX1, Cond.code yX1_last cX1_last 1 (some .int), Cond.fieldLink RX1 25 "BackMirror" "lastDate" "I", Cond.methodLink RL 73 yX1_oldest, Cond.instanceMethod yX1_oldest, Cond.selects RX1 yX1_oldest yX1_oldest, Cond.code yX1_oldest cX1_oldest 1 (some .int), Cond.fieldLink RX1 21 "BackMirror" "oldestDate" "I", Cond.methodLink RL 80 yX1_needs, Cond.instanceMethod yX1_needs, Cond.selects RX1 yX1_needs yX1_needs, Cond.code yX1_needs cX1_needs 1 (some .int), Cond.methodLink RX1 89 yX1_stepsNeeded, Cond.instanceMethod yX1_stepsNeeded, Cond.selects RX1 yX1_stepsNeeded yX1_stepsNeeded, Cond.code yX1_stepsNeeded cX1_stepsNeeded 3 (some .int)]
def wsL_all_r2 : List Cond := [Cond.fieldLink RX1 14 "BackMirror" "live" "[LBackMirror$Thing;", Cond.fieldLink RX1 18 "BackMirror" "kept" "[LBackMirror$Thing;", Cond.methodLink RX1 92 yX1_keptIndex, Cond.static yX1_keptIndex, Cond.code yX1_keptIndex cX1_keptIndex 2 (some .int), Cond.methodLink RX1 103 yX0_isLike, Cond.instanceMethod yX0_isLike, Cond.selects RX0 yX0_isLike yX0_isLike, Cond.initialized RX0, Cond.code yX0_isLike cX0_isLike 2 (some .boolean), Cond.fieldLink RX0 7 "BackMirror$Thing" "kind" "I", Cond.fieldLink RX0 13 "BackMirror$Thing" "rights" "I", Cond.fieldLink RX0 16 "BackMirror$Thing" "numbers" "[I", Cond.static yX1_isSameRow, Cond.code yX1_isSameRow cX1_isSameRow 2 (some .boolean), Cond.methodLink RX1 129 yX1_sharedLength, Cond.static yX1_sharedLength, Cond.code yX1_sharedLength cX1_sharedLength 5 (some .int), Cond.methodLink RL 91 yX1_size, Cond.instanceMethod yX1_size, Cond.selects RX1 yX1_size yX1_size, Cond.code yX1_size cX1_size 4 (some .int), Cond.methodLink RX1 114 yX1_differenceTakes, Cond.instanceMethod yX1_differenceTakes]
def wsL_all_r3 : List Cond := [Cond.selects RX1 yX1_differenceTakes yX1_differenceTakes, Cond.code yX1_differenceTakes cX1_differenceTakes 6 (some .int), Cond.fieldLink RX1 62 "BackMirror$Thing" "rights" "I", Cond.fieldLink RX1 47 "BackMirror$Thing" "kind" "I", Cond.fieldLink RX1 43 "BackMirror$Thing" "numbers" "[I", Cond.methodLink RX1 121 yX1_rowTakes, Cond.static yX1_rowTakes, Cond.code yX1_rowTakes cX1_rowTakes 5 (some .int), Cond.methodLink RX1 125 yX1_longestCopy, Cond.static yX1_longestCopy, Cond.code yX1_longestCopy cX1_longestCopy 5 (some .int), Cond.methodLink RX1 133 Lib.Math.max.name, Cond.static Lib.Math.max.name, Cond.initialized "java/lang/Math", Cond.code Lib.Math.max.name Lib.Math.max.code 2 (some .int), Cond.methodLink RL 76 yX1_isBroken, Cond.instanceMethod yX1_isBroken, Cond.selects RX1 yX1_isBroken yX1_isBroken, Cond.code yX1_isBroken cX1_isBroken 1 (some .boolean), Cond.fieldLink RX1 28 "BackMirror" "broken" "Z", Cond.methodLink RL 63 yL_told, Cond.static yL_told, Cond.initialized RL, Cond.code yL_told cL_told 6 (some .long)]
def wsL_all_r4 : List Cond := [Cond.constantLong RL 59 (3), Cond.constantLong RL 61 (12), Cond.methodLink RL 47 yX1_kindAt, Cond.instanceMethod yX1_kindAt, Cond.selects RX1 yX1_kindAt yX1_kindAt, Cond.code yX1_kindAt cX1_kindAt 3 (some .int), Cond.methodLink RX1 107 yX1_thingOn, Cond.instanceMethod yX1_thingOn, Cond.selects RX1 yX1_thingOn yX1_thingOn, Cond.code yX1_thingOn cX1_thingOn 3 (some (.object "BackMirror$Thing")), Cond.methodLink RX1 100 yX1_checkKept, Cond.instanceMethod yX1_checkKept, Cond.selects RX1 yX1_checkKept yX1_checkKept, Cond.code yX1_checkKept cX1_checkKept 2 none, Cond.classLink RX1 111 "java/lang/IndexOutOfBoundsException", Cond.initialized "java/lang/IndexOutOfBoundsException", Cond.methodLink RX1 35 yX1_checkPlace, Cond.static yX1_checkPlace, Cond.code yX1_checkPlace cX1_checkPlace 1 none, Cond.methodLink RL 53 yX1_rightsAt, Cond.instanceMethod yX1_rightsAt, Cond.selects RX1 yX1_rightsAt yX1_rightsAt, Cond.code yX1_rightsAt cX1_rightsAt 3 (some .int), Cond.methodLink RL 50 yX1_numberAt]
def wsL_all_r5 : List Cond := [Cond.instanceMethod yX1_numberAt, Cond.selects RX1 yX1_numberAt yX1_numberAt, Cond.code yX1_numberAt cX1_numberAt 5 (some .int)]
def wsL_all : List Cond := .code yL_all cL_all 4 (some .long) :: ((wsL_all_r1 ++ (wsL_all_r2 ++ (wsL_all_r3 ++ (wsL_all_r4 ++ wsL_all_r5)))) ++ wsX10 ++ wsX00 ++ (vx_atS RX1 113 "java/lang/IndexOutOfBoundsException" ["java/lang/RuntimeException", "java/lang/Exception"]).filter goodWord)
def wsL_isRefused_r1 : List Cond := [Cond.methodLink RL 104 yL_all, Cond.static yL_all, Cond.initialized RL, Cond.code yL_all cL_all 4 (some .long), Cond.constantLong RL 94 (31), Cond.constantLong RL 96 (1009), Cond.constantLong RL 98 (65537), Cond.constantLong RL 100 (7), Cond.constantLong RL 102 (1000003), Cond.methodLink RL 69 yX1_last, Cond.instanceMethod yX1_last, Cond.selects RX1 yX1_last yX1_last, Cond.initialized RX1, Cond.code yX1_last cX1_last 1 (some .int), Cond.fieldLink RX1 25 "BackMirror" "lastDate" "I", Cond.methodLink RL 73 yX1_oldest, Cond.instanceMethod yX1_oldest, Cond.selects RX1 yX1_oldest yX1_oldest, Cond.code yX1_oldest cX1_oldest 1 (some .int), Cond.fieldLink RX1 21 "BackMirror" "oldestDate" "I", Cond.methodLink RL 80 yX1_needs, Cond.instanceMethod yX1_needs, Cond.selects RX1 yX1_needs yX1_needs, Cond.code yX1_needs cX1_needs 1 (some .int)]
def wsL_isRefused_r2 : List Cond := [Cond.methodLink RX1 89 yX1_stepsNeeded, Cond.instanceMethod yX1_stepsNeeded, Cond.selects RX1 yX1_stepsNeeded yX1_stepsNeeded, Cond.code yX1_stepsNeeded cX1_stepsNeeded 3 (some .int), Cond.fieldLink RX1 14 "BackMirror" "live" "[LBackMirror$Thing;", Cond.fieldLink RX1 18 "BackMirror" "kept" "[LBackMirror$Thing;", Cond.methodLink RX1 92 yX1_keptIndex, Cond.static yX1_keptIndex, Cond.code yX1_keptIndex cX1_keptIndex 2 (some .int), Cond.methodLink RX1 103 yX0_isLike, Cond.instanceMethod yX0_isLike, Cond.selects RX0 yX0_isLike yX0_isLike, Cond.initialized RX0, Cond.code yX0_isLike cX0_isLike 2 (some .boolean), Cond.fieldLink RX0 7 "BackMirror$Thing" "kind" "I", Cond.fieldLink RX0 13 "BackMirror$Thing" "rights" "I", Cond.fieldLink RX0 16 "BackMirror$Thing" "numbers" "[I", Cond.static yX1_isSameRow, Cond.code yX1_isSameRow cX1_isSameRow 2 (some .boolean), Cond.methodLink RX1 129 yX1_sharedLength, Cond.static yX1_sharedLength, Cond.code yX1_sharedLength cX1_sharedLength 5 (some .int), Cond.methodLink RL 91 yX1_size, Cond.instanceMethod yX1_size]
def wsL_isRefused_r3 : List Cond := [Cond.selects RX1 yX1_size yX1_size, Cond.code yX1_size cX1_size 4 (some .int), Cond.methodLink RX1 114 yX1_differenceTakes, Cond.instanceMethod yX1_differenceTakes, Cond.selects RX1 yX1_differenceTakes yX1_differenceTakes, Cond.code yX1_differenceTakes cX1_differenceTakes 6 (some .int), Cond.fieldLink RX1 62 "BackMirror$Thing" "rights" "I", Cond.fieldLink RX1 47 "BackMirror$Thing" "kind" "I", Cond.fieldLink RX1 43 "BackMirror$Thing" "numbers" "[I", Cond.methodLink RX1 121 yX1_rowTakes, Cond.static yX1_rowTakes, Cond.code yX1_rowTakes cX1_rowTakes 5 (some .int), Cond.methodLink RX1 125 yX1_longestCopy, Cond.static yX1_longestCopy, Cond.code yX1_longestCopy cX1_longestCopy 5 (some .int), Cond.methodLink RX1 133 Lib.Math.max.name, Cond.static Lib.Math.max.name, Cond.initialized "java/lang/Math", Cond.code Lib.Math.max.name Lib.Math.max.code 2 (some .int), Cond.methodLink RL 76 yX1_isBroken, Cond.instanceMethod yX1_isBroken, Cond.selects RX1 yX1_isBroken yX1_isBroken, Cond.code yX1_isBroken cX1_isBroken 1 (some .boolean), Cond.fieldLink RX1 28 "BackMirror" "broken" "Z"]
def wsL_isRefused_r4 : List Cond := [Cond.methodLink RL 63 yL_told, Cond.static yL_told, Cond.code yL_told cL_told 6 (some .long), Cond.constantLong RL 59 (3), Cond.constantLong RL 61 (12), Cond.methodLink RL 47 yX1_kindAt, Cond.instanceMethod yX1_kindAt, Cond.selects RX1 yX1_kindAt yX1_kindAt, Cond.code yX1_kindAt cX1_kindAt 3 (some .int), Cond.methodLink RX1 107 yX1_thingOn, Cond.instanceMethod yX1_thingOn, Cond.selects RX1 yX1_thingOn yX1_thingOn, Cond.code yX1_thingOn cX1_thingOn 3 (some (.object "BackMirror$Thing")), Cond.methodLink RX1 100 yX1_checkKept, Cond.instanceMethod yX1_checkKept, Cond.selects RX1 yX1_checkKept yX1_checkKept, Cond.code yX1_checkKept cX1_checkKept 2 none, Cond.classLink RX1 111 "java/lang/IndexOutOfBoundsException", Cond.initialized "java/lang/IndexOutOfBoundsException", Cond.methodLink RX1 35 yX1_checkPlace, Cond.static yX1_checkPlace, Cond.code yX1_checkPlace cX1_checkPlace 1 none, Cond.methodLink RL 53 yX1_rightsAt, Cond.instanceMethod yX1_rightsAt]
def wsL_isRefused_r5 : List Cond := [Cond.selects RX1 yX1_rightsAt yX1_rightsAt, Cond.code yX1_rightsAt cX1_rightsAt 3 (some .int), Cond.methodLink RL 50 yX1_numberAt, Cond.instanceMethod yX1_numberAt, Cond.selects RX1 yX1_numberAt yX1_numberAt, Cond.code yX1_numberAt cX1_numberAt 5 (some .int), Cond.methodLink RL 108 yL_act, Cond.static yL_act, Cond.codeWith yL_act cL_act 6 (some .int) [(0, 116, 117, 41), (0, 116, 123, 43), (0, 116, 129, 45)], Cond.classLink RL 41 "java/lang/IndexOutOfBoundsException", Cond.classLink RL 43 "java/lang/IllegalArgumentException", Cond.classLink RL 45 "java/lang/IllegalStateException", Cond.methodLink RL 9 yX1_makeFile, Cond.instanceMethod yX1_makeFile, Cond.selects RX1 yX1_makeFile yX1_makeFile, Cond.code yX1_makeFile cX1_makeFile 2 (some .int), Cond.classLink RX1 7 RX0, Cond.instantiable RX0 3, Cond.arrayClass .int, Cond.methodLink RX1 11 yX0_init, Cond.instanceMethod yX0_init, Cond.code yX0_init cX0_init 4 none, Cond.methodLink RX0 1 objectInit, Cond.instanceMethod objectInit]
def wsL_isRefused_r6 : List Cond := [Cond.code objectInit ⟨#[0xb1]⟩ 1 none, Cond.methodLink RX1 39 yX1_exchange, Cond.instanceMethod yX1_exchange, Cond.selects RX1 yX1_exchange yX1_exchange, Cond.code yX1_exchange cX1_exchange 4 (some .int), Cond.methodLink RL 15 yX1_makeLink, Cond.instanceMethod yX1_makeLink, Cond.selects RX1 yX1_makeLink yX1_makeLink, Cond.code yX1_makeLink cX1_makeLink 3 (some .int), Cond.methodLink RL 19 yX1_remove, Cond.instanceMethod yX1_remove, Cond.selects RX1 yX1_remove yX1_remove, Cond.code yX1_remove cX1_remove 2 (some .int), Cond.methodLink RL 22 yX1_put, Cond.instanceMethod yX1_put, Cond.selects RX1 yX1_put yX1_put, Cond.code yX1_put cX1_put 6 (some .int), Cond.classLink RX1 50 "java/lang/IllegalStateException", Cond.initialized "java/lang/IllegalStateException", Cond.classLink RX1 57 "java/lang/IllegalArgumentException", Cond.initialized "java/lang/IllegalArgumentException", Cond.methodLink RX1 65 yX1_rowWith, Cond.static yX1_rowWith, Cond.code yX1_rowWith cX1_rowWith 5 (some (.array .int))]
def wsL_isRefused_r7 : List Cond := [Cond.methodLink RL 26 yX1_take, Cond.instanceMethod yX1_take, Cond.selects RX1 yX1_take yX1_take, Cond.code yX1_take cX1_take 4 (some .int), Cond.methodLink RX1 73 yX1_rowWithout, Cond.static yX1_rowWithout, Cond.code yX1_rowWithout cX1_rowWithout 4 (some (.array .int)), Cond.methodLink RL 29 yX1_setRights, Cond.instanceMethod yX1_setRights, Cond.selects RX1 yX1_setRights yX1_setRights, Cond.code yX1_setRights cX1_setRights 4 (some .int), Cond.methodLink RL 32 yX1_run, Cond.instanceMethod yX1_run, Cond.selects RX1 yX1_run yX1_run, Cond.code yX1_run cX1_run 3 (some .int), Cond.fieldLink RX1 32 "BackMirror" "brokenSteps" "I", Cond.methodLink RX1 85 yX1_undoBrokenRun, Cond.instanceMethod yX1_undoBrokenRun, Cond.selects RX1 yX1_undoBrokenRun yX1_undoBrokenRun, Cond.code yX1_undoBrokenRun cX1_undoBrokenRun 2 (some .int), Cond.methodLink RL 35 yX1_thin, Cond.instanceMethod yX1_thin, Cond.selects RX1 yX1_thin yX1_thin, Cond.code yX1_thin cX1_thin 2 (some .int)]
def wsL_isRefused_r8 : List Cond := [Cond.methodLink RL 38 yX1_restore, Cond.instanceMethod yX1_restore, Cond.selects RX1 yX1_restore yX1_restore, Cond.code yX1_restore cX1_restore 5 (some .int), Cond.methodLink RL 112 yL_of, Cond.static yL_of, Cond.codeWith yL_of cL_of 6 (some .int) [(0, 49, 50, 41)], Cond.methodLink RL 56 yX1_sizeAt, Cond.instanceMethod yX1_sizeAt, Cond.selects RX1 yX1_sizeAt yX1_sizeAt, Cond.code yX1_sizeAt cX1_sizeAt 3 (some .int), Cond.methodLink RL 83 yL_length, Cond.static yL_length, Cond.code yL_length cL_length 4 (some .int)]
def wsL_isRefused : List Cond := .code yL_isRefused cL_isRefused 12 (some .boolean) :: ((wsL_isRefused_r1 ++ (wsL_isRefused_r2 ++ (wsL_isRefused_r3 ++ (wsL_isRefused_r4 ++ (wsL_isRefused_r5 ++ (wsL_isRefused_r6 ++ (wsL_isRefused_r7 ++ wsL_isRefused_r8))))))) ++ wsX10 ++ wsX00 ++ (vx_atS RX1 113 "java/lang/IndexOutOfBoundsException" ["java/lang/RuntimeException", "java/lang/Exception"]).filter goodWord ++ (vx_atS RX1 54 "java/lang/IllegalStateException" ["java/lang/RuntimeException", "java/lang/Exception"]).filter goodWord ++ (vx_atS RX1 61 "java/lang/IllegalArgumentException" ["java/lang/RuntimeException", "java/lang/Exception"]).filter goodWord)
def wsL_isEdited_r1 : List Cond := [Cond.methodLink RL 47 yX1_kindAt, Cond.instanceMethod yX1_kindAt, Cond.selects RX1 yX1_kindAt yX1_kindAt, Cond.initialized RX1, Cond.code yX1_kindAt cX1_kindAt 3 (some .int), Cond.fieldLink RX1 47 "BackMirror$Thing" "kind" "I", Cond.methodLink RX1 107 yX1_thingOn, Cond.instanceMethod yX1_thingOn, Cond.selects RX1 yX1_thingOn yX1_thingOn, Cond.code yX1_thingOn cX1_thingOn 3 (some (.object "BackMirror$Thing")), Cond.fieldLink RX1 14 "BackMirror" "live" "[LBackMirror$Thing;", Cond.fieldLink RX1 18 "BackMirror" "kept" "[LBackMirror$Thing;", Cond.methodLink RX1 100 yX1_checkKept, Cond.instanceMethod yX1_checkKept, Cond.selects RX1 yX1_checkKept yX1_checkKept, Cond.code yX1_checkKept cX1_checkKept 2 none, Cond.classLink RX1 111 "java/lang/IndexOutOfBoundsException", Cond.initialized "java/lang/IndexOutOfBoundsException", Cond.fieldLink RX1 21 "BackMirror" "oldestDate" "I", Cond.fieldLink RX1 25 "BackMirror" "lastDate" "I", Cond.methodLink RX1 35 yX1_checkPlace, Cond.static yX1_checkPlace, Cond.code yX1_checkPlace cX1_checkPlace 1 none, Cond.methodLink RX1 92 yX1_keptIndex]
def wsL_isEdited_r2 : List Cond := [Cond.static yX1_keptIndex, Cond.code yX1_keptIndex cX1_keptIndex 2 (some .int), Cond.methodLink RL 53 yX1_rightsAt, Cond.instanceMethod yX1_rightsAt, Cond.selects RX1 yX1_rightsAt yX1_rightsAt, Cond.code yX1_rightsAt cX1_rightsAt 3 (some .int), Cond.fieldLink RX1 62 "BackMirror$Thing" "rights" "I", Cond.methodLink RL 83 yL_length, Cond.static yL_length, Cond.initialized RL, Cond.code yL_length cL_length 4 (some .int), Cond.methodLink RL 50 yX1_numberAt, Cond.instanceMethod yX1_numberAt, Cond.selects RX1 yX1_numberAt yX1_numberAt, Cond.code yX1_numberAt cX1_numberAt 5 (some .int), Cond.fieldLink RX1 43 "BackMirror$Thing" "numbers" "[I", Cond.methodLink RL 108 yL_act, Cond.static yL_act, Cond.codeWith yL_act cL_act 6 (some .int) [(0, 116, 117, 41), (0, 116, 123, 43), (0, 116, 129, 45)], Cond.classLink RL 41 "java/lang/IndexOutOfBoundsException", Cond.classLink RL 43 "java/lang/IllegalArgumentException", Cond.classLink RL 45 "java/lang/IllegalStateException", Cond.methodLink RL 9 yX1_makeFile, Cond.instanceMethod yX1_makeFile]
def wsL_isEdited_r3 : List Cond := [Cond.selects RX1 yX1_makeFile yX1_makeFile, Cond.code yX1_makeFile cX1_makeFile 2 (some .int), Cond.classLink RX1 7 RX0, Cond.instantiable RX0 3, Cond.initialized RX0, Cond.arrayClass .int, Cond.methodLink RX1 11 yX0_init, Cond.instanceMethod yX0_init, Cond.code yX0_init cX0_init 4 none, Cond.methodLink RX0 1 objectInit, Cond.instanceMethod objectInit, Cond.code objectInit ⟨#[0xb1]⟩ 1 none, Cond.fieldLink RX0 7 "BackMirror$Thing" "kind" "I", Cond.fieldLink RX0 13 "BackMirror$Thing" "rights" "I", Cond.fieldLink RX0 16 "BackMirror$Thing" "numbers" "[I", Cond.methodLink RX1 39 yX1_exchange, Cond.instanceMethod yX1_exchange, Cond.selects RX1 yX1_exchange yX1_exchange, Cond.code yX1_exchange cX1_exchange 4 (some .int), Cond.methodLink RL 15 yX1_makeLink, Cond.instanceMethod yX1_makeLink, Cond.selects RX1 yX1_makeLink yX1_makeLink, Cond.code yX1_makeLink cX1_makeLink 3 (some .int), Cond.methodLink RL 19 yX1_remove]
def wsL_isEdited_r4 : List Cond := [Cond.instanceMethod yX1_remove, Cond.selects RX1 yX1_remove yX1_remove, Cond.code yX1_remove cX1_remove 2 (some .int), Cond.methodLink RL 22 yX1_put, Cond.instanceMethod yX1_put, Cond.selects RX1 yX1_put yX1_put, Cond.code yX1_put cX1_put 6 (some .int), Cond.classLink RX1 50 "java/lang/IllegalStateException", Cond.initialized "java/lang/IllegalStateException", Cond.classLink RX1 57 "java/lang/IllegalArgumentException", Cond.initialized "java/lang/IllegalArgumentException", Cond.methodLink RX1 65 yX1_rowWith, Cond.static yX1_rowWith, Cond.code yX1_rowWith cX1_rowWith 5 (some (.array .int)), Cond.methodLink RL 26 yX1_take, Cond.instanceMethod yX1_take, Cond.selects RX1 yX1_take yX1_take, Cond.code yX1_take cX1_take 4 (some .int), Cond.methodLink RX1 73 yX1_rowWithout, Cond.static yX1_rowWithout, Cond.code yX1_rowWithout cX1_rowWithout 4 (some (.array .int)), Cond.methodLink RL 29 yX1_setRights, Cond.instanceMethod yX1_setRights, Cond.selects RX1 yX1_setRights yX1_setRights]
def wsL_isEdited_r5 : List Cond := [Cond.code yX1_setRights cX1_setRights 4 (some .int), Cond.methodLink RL 32 yX1_run, Cond.instanceMethod yX1_run, Cond.selects RX1 yX1_run yX1_run, Cond.code yX1_run cX1_run 3 (some .int), Cond.fieldLink RX1 28 "BackMirror" "broken" "Z", Cond.fieldLink RX1 32 "BackMirror" "brokenSteps" "I", Cond.methodLink RX1 85 yX1_undoBrokenRun, Cond.instanceMethod yX1_undoBrokenRun, Cond.selects RX1 yX1_undoBrokenRun yX1_undoBrokenRun, Cond.code yX1_undoBrokenRun cX1_undoBrokenRun 2 (some .int), Cond.methodLink RX1 89 yX1_stepsNeeded, Cond.instanceMethod yX1_stepsNeeded, Cond.selects RX1 yX1_stepsNeeded yX1_stepsNeeded, Cond.code yX1_stepsNeeded cX1_stepsNeeded 3 (some .int), Cond.methodLink RX1 103 yX0_isLike, Cond.instanceMethod yX0_isLike, Cond.selects RX0 yX0_isLike yX0_isLike, Cond.code yX0_isLike cX0_isLike 2 (some .boolean), Cond.static yX1_isSameRow, Cond.code yX1_isSameRow cX1_isSameRow 2 (some .boolean), Cond.methodLink RX1 129 yX1_sharedLength, Cond.static yX1_sharedLength, Cond.code yX1_sharedLength cX1_sharedLength 5 (some .int)]
def wsL_isEdited_r6 : List Cond := [Cond.methodLink RL 35 yX1_thin, Cond.instanceMethod yX1_thin, Cond.selects RX1 yX1_thin yX1_thin, Cond.code yX1_thin cX1_thin 2 (some .int), Cond.methodLink RL 38 yX1_restore, Cond.instanceMethod yX1_restore, Cond.selects RX1 yX1_restore yX1_restore, Cond.code yX1_restore cX1_restore 5 (some .int), Cond.methodLink RL 115 yL_isOnly, Cond.static yL_isOnly, Cond.code yL_isOnly cL_isOnly 5 (some .boolean), Cond.methodLink RL 63 yL_told, Cond.static yL_told, Cond.code yL_told cL_told 6 (some .long), Cond.constantLong RL 59 (3), Cond.constantLong RL 61 (12)]
def wsL_isEdited : List Cond := .code yL_isEdited cL_isEdited 14 (some .boolean) :: ((wsL_isEdited_r1 ++ (wsL_isEdited_r2 ++ (wsL_isEdited_r3 ++ (wsL_isEdited_r4 ++ (wsL_isEdited_r5 ++ wsL_isEdited_r6))))) ++ wsX00 ++ wsX10 ++ (vx_atS RX1 113 "java/lang/IndexOutOfBoundsException" ["java/lang/RuntimeException", "java/lang/Exception"]).filter goodWord ++ (vx_atS RX1 54 "java/lang/IllegalStateException" ["java/lang/RuntimeException", "java/lang/Exception"]).filter goodWord ++ (vx_atS RX1 61 "java/lang/IllegalArgumentException" ["java/lang/RuntimeException", "java/lang/Exception"]).filter goodWord)
def wsL_isRun_r1 : List Cond := [Cond.methodLink RL 80 yX1_needs, Cond.instanceMethod yX1_needs, Cond.selects RX1 yX1_needs yX1_needs, Cond.initialized RX1, Cond.code yX1_needs cX1_needs 1 (some .int), Cond.methodLink RX1 89 yX1_stepsNeeded, Cond.instanceMethod yX1_stepsNeeded, Cond.selects RX1 yX1_stepsNeeded yX1_stepsNeeded, Cond.code yX1_stepsNeeded cX1_stepsNeeded 3 (some .int), Cond.fieldLink RX1 14 "BackMirror" "live" "[LBackMirror$Thing;", Cond.fieldLink RX1 18 "BackMirror" "kept" "[LBackMirror$Thing;", Cond.fieldLink RX1 25 "BackMirror" "lastDate" "I", Cond.methodLink RX1 92 yX1_keptIndex, Cond.static yX1_keptIndex, Cond.code yX1_keptIndex cX1_keptIndex 2 (some .int), Cond.methodLink RX1 103 yX0_isLike, Cond.instanceMethod yX0_isLike, Cond.selects RX0 yX0_isLike yX0_isLike, Cond.initialized RX0, Cond.code yX0_isLike cX0_isLike 2 (some .boolean), Cond.fieldLink RX0 7 "BackMirror$Thing" "kind" "I", Cond.fieldLink RX0 13 "BackMirror$Thing" "rights" "I", Cond.fieldLink RX0 16 "BackMirror$Thing" "numbers" "[I", Cond.static yX1_isSameRow]
def wsL_isRun_r2 : List Cond := [Cond.code yX1_isSameRow cX1_isSameRow 2 (some .boolean), Cond.methodLink RX1 129 yX1_sharedLength, Cond.static yX1_sharedLength, Cond.code yX1_sharedLength cX1_sharedLength 5 (some .int), Cond.methodLink RL 91 yX1_size, Cond.instanceMethod yX1_size, Cond.selects RX1 yX1_size yX1_size, Cond.code yX1_size cX1_size 4 (some .int), Cond.fieldLink RX1 21 "BackMirror" "oldestDate" "I", Cond.methodLink RX1 114 yX1_differenceTakes, Cond.instanceMethod yX1_differenceTakes, Cond.selects RX1 yX1_differenceTakes yX1_differenceTakes, Cond.code yX1_differenceTakes cX1_differenceTakes 6 (some .int), Cond.fieldLink RX1 62 "BackMirror$Thing" "rights" "I", Cond.fieldLink RX1 47 "BackMirror$Thing" "kind" "I", Cond.fieldLink RX1 43 "BackMirror$Thing" "numbers" "[I", Cond.methodLink RX1 121 yX1_rowTakes, Cond.static yX1_rowTakes, Cond.code yX1_rowTakes cX1_rowTakes 5 (some .int), Cond.methodLink RX1 125 yX1_longestCopy, Cond.static yX1_longestCopy, Cond.code yX1_longestCopy cX1_longestCopy 5 (some .int), Cond.methodLink RX1 133 Lib.Math.max.name, Cond.static Lib.Math.max.name]
def wsL_isRun_r3 : List Cond := [Cond.initialized "java/lang/Math", Cond.code Lib.Math.max.name Lib.Math.max.code 2 (some .int), Cond.methodLink RL 108 yL_act, Cond.static yL_act, Cond.initialized RL, Cond.codeWith yL_act cL_act 6 (some .int) [(0, 116, 117, 41), (0, 116, 123, 43), (0, 116, 129, 45)], Cond.classLink RL 41 "java/lang/IndexOutOfBoundsException", Cond.classLink RL 43 "java/lang/IllegalArgumentException", Cond.classLink RL 45 "java/lang/IllegalStateException", Cond.methodLink RL 9 yX1_makeFile, Cond.instanceMethod yX1_makeFile, Cond.selects RX1 yX1_makeFile yX1_makeFile, Cond.code yX1_makeFile cX1_makeFile 2 (some .int), Cond.classLink RX1 7 RX0, Cond.instantiable RX0 3, Cond.arrayClass .int, Cond.methodLink RX1 35 yX1_checkPlace, Cond.static yX1_checkPlace, Cond.code yX1_checkPlace cX1_checkPlace 1 none, Cond.classLink RX1 111 "java/lang/IndexOutOfBoundsException", Cond.initialized "java/lang/IndexOutOfBoundsException", Cond.methodLink RX1 11 yX0_init, Cond.instanceMethod yX0_init, Cond.code yX0_init cX0_init 4 none]
def wsL_isRun_r4 : List Cond := [Cond.methodLink RX0 1 objectInit, Cond.instanceMethod objectInit, Cond.code objectInit ⟨#[0xb1]⟩ 1 none, Cond.methodLink RX1 39 yX1_exchange, Cond.instanceMethod yX1_exchange, Cond.selects RX1 yX1_exchange yX1_exchange, Cond.code yX1_exchange cX1_exchange 4 (some .int), Cond.methodLink RL 15 yX1_makeLink, Cond.instanceMethod yX1_makeLink, Cond.selects RX1 yX1_makeLink yX1_makeLink, Cond.code yX1_makeLink cX1_makeLink 3 (some .int), Cond.methodLink RL 19 yX1_remove, Cond.instanceMethod yX1_remove, Cond.selects RX1 yX1_remove yX1_remove, Cond.code yX1_remove cX1_remove 2 (some .int), Cond.methodLink RL 22 yX1_put, Cond.instanceMethod yX1_put, Cond.selects RX1 yX1_put yX1_put, Cond.code yX1_put cX1_put 6 (some .int), Cond.classLink RX1 50 "java/lang/IllegalStateException", Cond.initialized "java/lang/IllegalStateException", Cond.classLink RX1 57 "java/lang/IllegalArgumentException", Cond.initialized "java/lang/IllegalArgumentException", Cond.methodLink RX1 65 yX1_rowWith]
def wsL_isRun_r5 : List Cond := [Cond.static yX1_rowWith, Cond.code yX1_rowWith cX1_rowWith 5 (some (.array .int)), Cond.methodLink RL 26 yX1_take, Cond.instanceMethod yX1_take, Cond.selects RX1 yX1_take yX1_take, Cond.code yX1_take cX1_take 4 (some .int), Cond.methodLink RX1 73 yX1_rowWithout, Cond.static yX1_rowWithout, Cond.code yX1_rowWithout cX1_rowWithout 4 (some (.array .int)), Cond.methodLink RL 29 yX1_setRights, Cond.instanceMethod yX1_setRights, Cond.selects RX1 yX1_setRights yX1_setRights, Cond.code yX1_setRights cX1_setRights 4 (some .int), Cond.methodLink RL 32 yX1_run, Cond.instanceMethod yX1_run, Cond.selects RX1 yX1_run yX1_run, Cond.code yX1_run cX1_run 3 (some .int), Cond.fieldLink RX1 28 "BackMirror" "broken" "Z", Cond.fieldLink RX1 32 "BackMirror" "brokenSteps" "I", Cond.methodLink RX1 85 yX1_undoBrokenRun, Cond.instanceMethod yX1_undoBrokenRun, Cond.selects RX1 yX1_undoBrokenRun yX1_undoBrokenRun, Cond.code yX1_undoBrokenRun cX1_undoBrokenRun 2 (some .int), Cond.methodLink RL 35 yX1_thin]
def wsL_isRun_r6 : List Cond := [Cond.instanceMethod yX1_thin, Cond.selects RX1 yX1_thin yX1_thin, Cond.code yX1_thin cX1_thin 2 (some .int), Cond.methodLink RL 38 yX1_restore, Cond.instanceMethod yX1_restore, Cond.selects RX1 yX1_restore yX1_restore, Cond.code yX1_restore cX1_restore 5 (some .int), Cond.methodLink RX1 100 yX1_checkKept, Cond.instanceMethod yX1_checkKept, Cond.selects RX1 yX1_checkKept yX1_checkKept, Cond.code yX1_checkKept cX1_checkKept 2 none, Cond.methodLink RL 115 yL_isOnly, Cond.static yL_isOnly, Cond.code yL_isOnly cL_isOnly 5 (some .boolean), Cond.methodLink RL 63 yL_told, Cond.static yL_told, Cond.code yL_told cL_told 6 (some .long), Cond.constantLong RL 59 (3), Cond.constantLong RL 61 (12), Cond.methodLink RL 47 yX1_kindAt, Cond.instanceMethod yX1_kindAt, Cond.selects RX1 yX1_kindAt yX1_kindAt, Cond.code yX1_kindAt cX1_kindAt 3 (some .int), Cond.methodLink RX1 107 yX1_thingOn]
def wsL_isRun_r7 : List Cond := [Cond.instanceMethod yX1_thingOn, Cond.selects RX1 yX1_thingOn yX1_thingOn, Cond.code yX1_thingOn cX1_thingOn 3 (some (.object "BackMirror$Thing")), Cond.methodLink RL 53 yX1_rightsAt, Cond.instanceMethod yX1_rightsAt, Cond.selects RX1 yX1_rightsAt yX1_rightsAt, Cond.code yX1_rightsAt cX1_rightsAt 3 (some .int), Cond.methodLink RL 50 yX1_numberAt, Cond.instanceMethod yX1_numberAt, Cond.selects RX1 yX1_numberAt yX1_numberAt, Cond.code yX1_numberAt cX1_numberAt 5 (some .int)]
def wsL_isRun : List Cond := .code yL_isRun cL_isRun 10 (some .boolean) :: ((wsL_isRun_r1 ++ (wsL_isRun_r2 ++ (wsL_isRun_r3 ++ (wsL_isRun_r4 ++ (wsL_isRun_r5 ++ (wsL_isRun_r6 ++ wsL_isRun_r7)))))) ++ wsX10 ++ wsX00 ++ (vx_atS RX1 113 "java/lang/IndexOutOfBoundsException" ["java/lang/RuntimeException", "java/lang/Exception"]).filter goodWord ++ (vx_atS RX1 54 "java/lang/IllegalStateException" ["java/lang/RuntimeException", "java/lang/Exception"]).filter goodWord ++ (vx_atS RX1 61 "java/lang/IllegalArgumentException" ["java/lang/RuntimeException", "java/lang/Exception"]).filter goodWord)
def wsL_law0_r1 : List Cond := [Cond.classLink RL 10 RX1, Cond.instantiable RX1 6, Cond.initialized RX1, Cond.arrayClass .long, Cond.arrayClass .int, Cond.methodLink RL 119 yX1_init, Cond.instanceMethod yX1_init, Cond.code yX1_init cX1_init 3 none, Cond.methodLink RX1 1 objectInit, Cond.instanceMethod objectInit, Cond.code objectInit ⟨#[0xb1]⟩ 1 none, Cond.classLink RX1 7 RX0, Cond.instantiable RX0 3, Cond.initialized RX0, Cond.fieldLink RX1 14 "BackMirror" "live" "[LBackMirror$Thing;", Cond.fieldLink RX1 18 "BackMirror" "kept" "[LBackMirror$Thing;", Cond.fieldLink RX1 21 "BackMirror" "oldestDate" "I", Cond.fieldLink RX1 25 "BackMirror" "lastDate" "I", Cond.fieldLink RX1 28 "BackMirror" "broken" "Z", Cond.fieldLink RX1 32 "BackMirror" "brokenSteps" "I", Cond.methodLink RX1 11 yX0_init, Cond.instanceMethod yX0_init, Cond.code yX0_init cX0_init 4 none, Cond.methodLink RX0 1 objectInit]
def wsL_law0_r2 : List Cond := [Cond.fieldLink RX0 7 "BackMirror$Thing" "kind" "I", Cond.fieldLink RX0 13 "BackMirror$Thing" "rights" "I", Cond.fieldLink RX0 16 "BackMirror$Thing" "numbers" "[I", Cond.methodLink RL 120 yL_takes, Cond.static yL_takes, Cond.initialized RL, Cond.code yL_takes cL_takes 3 none, Cond.methodLink RL 63 yL_told, Cond.static yL_told, Cond.code yL_told cL_told 6 (some .long), Cond.constantLong RL 59 (3), Cond.constantLong RL 61 (12), Cond.methodLink RL 47 yX1_kindAt, Cond.instanceMethod yX1_kindAt, Cond.selects RX1 yX1_kindAt yX1_kindAt, Cond.code yX1_kindAt cX1_kindAt 3 (some .int), Cond.fieldLink RX1 47 "BackMirror$Thing" "kind" "I", Cond.methodLink RX1 107 yX1_thingOn, Cond.instanceMethod yX1_thingOn, Cond.selects RX1 yX1_thingOn yX1_thingOn, Cond.code yX1_thingOn cX1_thingOn 3 (some (.object "BackMirror$Thing")), Cond.methodLink RX1 100 yX1_checkKept, Cond.instanceMethod yX1_checkKept, Cond.selects RX1 yX1_checkKept yX1_checkKept]
def wsL_law0_r3 : List Cond := [Cond.code yX1_checkKept cX1_checkKept 2 none, Cond.classLink RX1 111 "java/lang/IndexOutOfBoundsException", Cond.initialized "java/lang/IndexOutOfBoundsException", Cond.methodLink RX1 35 yX1_checkPlace, Cond.static yX1_checkPlace, Cond.code yX1_checkPlace cX1_checkPlace 1 none, Cond.methodLink RX1 92 yX1_keptIndex, Cond.static yX1_keptIndex, Cond.code yX1_keptIndex cX1_keptIndex 2 (some .int), Cond.methodLink RL 53 yX1_rightsAt, Cond.instanceMethod yX1_rightsAt, Cond.selects RX1 yX1_rightsAt yX1_rightsAt, Cond.code yX1_rightsAt cX1_rightsAt 3 (some .int), Cond.fieldLink RX1 62 "BackMirror$Thing" "rights" "I", Cond.methodLink RL 50 yX1_numberAt, Cond.instanceMethod yX1_numberAt, Cond.selects RX1 yX1_numberAt yX1_numberAt, Cond.code yX1_numberAt cX1_numberAt 5 (some .int), Cond.fieldLink RX1 43 "BackMirror$Thing" "numbers" "[I", Cond.methodLink RL 124 yL_isRefused, Cond.static yL_isRefused, Cond.code yL_isRefused cL_isRefused 12 (some .boolean), Cond.methodLink RL 104 yL_all, Cond.static yL_all]
def wsL_law0_r4 : List Cond := [Cond.code yL_all cL_all 4 (some .long), Cond.constantLong RL 94 (31), Cond.constantLong RL 96 (1009), Cond.constantLong RL 98 (65537), Cond.constantLong RL 100 (7), Cond.constantLong RL 102 (1000003), Cond.methodLink RL 69 yX1_last, Cond.instanceMethod yX1_last, Cond.selects RX1 yX1_last yX1_last, Cond.code yX1_last cX1_last 1 (some .int), Cond.methodLink RL 73 yX1_oldest, Cond.instanceMethod yX1_oldest, Cond.selects RX1 yX1_oldest yX1_oldest, Cond.code yX1_oldest cX1_oldest 1 (some .int), Cond.methodLink RL 80 yX1_needs, Cond.instanceMethod yX1_needs, Cond.selects RX1 yX1_needs yX1_needs, Cond.code yX1_needs cX1_needs 1 (some .int), Cond.methodLink RX1 89 yX1_stepsNeeded, Cond.instanceMethod yX1_stepsNeeded, Cond.selects RX1 yX1_stepsNeeded yX1_stepsNeeded, Cond.code yX1_stepsNeeded cX1_stepsNeeded 3 (some .int), Cond.methodLink RX1 103 yX0_isLike, Cond.instanceMethod yX0_isLike]
def wsL_law0_r5 : List Cond := [Cond.selects RX0 yX0_isLike yX0_isLike, Cond.code yX0_isLike cX0_isLike 2 (some .boolean), Cond.static yX1_isSameRow, Cond.code yX1_isSameRow cX1_isSameRow 2 (some .boolean), Cond.methodLink RX1 129 yX1_sharedLength, Cond.static yX1_sharedLength, Cond.code yX1_sharedLength cX1_sharedLength 5 (some .int), Cond.methodLink RL 91 yX1_size, Cond.instanceMethod yX1_size, Cond.selects RX1 yX1_size yX1_size, Cond.code yX1_size cX1_size 4 (some .int), Cond.methodLink RX1 114 yX1_differenceTakes, Cond.instanceMethod yX1_differenceTakes, Cond.selects RX1 yX1_differenceTakes yX1_differenceTakes, Cond.code yX1_differenceTakes cX1_differenceTakes 6 (some .int), Cond.methodLink RX1 121 yX1_rowTakes, Cond.static yX1_rowTakes, Cond.code yX1_rowTakes cX1_rowTakes 5 (some .int), Cond.methodLink RX1 125 yX1_longestCopy, Cond.static yX1_longestCopy, Cond.code yX1_longestCopy cX1_longestCopy 5 (some .int), Cond.methodLink RX1 133 Lib.Math.max.name, Cond.static Lib.Math.max.name, Cond.initialized "java/lang/Math"]
def wsL_law0_r6 : List Cond := [Cond.code Lib.Math.max.name Lib.Math.max.code 2 (some .int), Cond.methodLink RL 76 yX1_isBroken, Cond.instanceMethod yX1_isBroken, Cond.selects RX1 yX1_isBroken yX1_isBroken, Cond.code yX1_isBroken cX1_isBroken 1 (some .boolean), Cond.methodLink RL 108 yL_act, Cond.static yL_act, Cond.codeWith yL_act cL_act 6 (some .int) [(0, 116, 117, 41), (0, 116, 123, 43), (0, 116, 129, 45)], Cond.classLink RL 41 "java/lang/IndexOutOfBoundsException", Cond.classLink RL 43 "java/lang/IllegalArgumentException", Cond.classLink RL 45 "java/lang/IllegalStateException", Cond.methodLink RL 9 yX1_makeFile, Cond.instanceMethod yX1_makeFile, Cond.selects RX1 yX1_makeFile yX1_makeFile, Cond.code yX1_makeFile cX1_makeFile 2 (some .int), Cond.methodLink RX1 39 yX1_exchange, Cond.instanceMethod yX1_exchange, Cond.selects RX1 yX1_exchange yX1_exchange, Cond.code yX1_exchange cX1_exchange 4 (some .int), Cond.methodLink RL 15 yX1_makeLink, Cond.instanceMethod yX1_makeLink, Cond.selects RX1 yX1_makeLink yX1_makeLink, Cond.code yX1_makeLink cX1_makeLink 3 (some .int), Cond.methodLink RL 19 yX1_remove]
def wsL_law0_r7 : List Cond := [Cond.instanceMethod yX1_remove, Cond.selects RX1 yX1_remove yX1_remove, Cond.code yX1_remove cX1_remove 2 (some .int), Cond.methodLink RL 22 yX1_put, Cond.instanceMethod yX1_put, Cond.selects RX1 yX1_put yX1_put, Cond.code yX1_put cX1_put 6 (some .int), Cond.classLink RX1 50 "java/lang/IllegalStateException", Cond.initialized "java/lang/IllegalStateException", Cond.classLink RX1 57 "java/lang/IllegalArgumentException", Cond.initialized "java/lang/IllegalArgumentException", Cond.methodLink RX1 65 yX1_rowWith, Cond.static yX1_rowWith, Cond.code yX1_rowWith cX1_rowWith 5 (some (.array .int)), Cond.methodLink RL 26 yX1_take, Cond.instanceMethod yX1_take, Cond.selects RX1 yX1_take yX1_take, Cond.code yX1_take cX1_take 4 (some .int), Cond.methodLink RX1 73 yX1_rowWithout, Cond.static yX1_rowWithout, Cond.code yX1_rowWithout cX1_rowWithout 4 (some (.array .int)), Cond.methodLink RL 29 yX1_setRights, Cond.instanceMethod yX1_setRights, Cond.selects RX1 yX1_setRights yX1_setRights]
def wsL_law0_r8 : List Cond := [Cond.code yX1_setRights cX1_setRights 4 (some .int), Cond.methodLink RL 32 yX1_run, Cond.instanceMethod yX1_run, Cond.selects RX1 yX1_run yX1_run, Cond.code yX1_run cX1_run 3 (some .int), Cond.methodLink RX1 85 yX1_undoBrokenRun, Cond.instanceMethod yX1_undoBrokenRun, Cond.selects RX1 yX1_undoBrokenRun yX1_undoBrokenRun, Cond.code yX1_undoBrokenRun cX1_undoBrokenRun 2 (some .int), Cond.methodLink RL 35 yX1_thin, Cond.instanceMethod yX1_thin, Cond.selects RX1 yX1_thin yX1_thin, Cond.code yX1_thin cX1_thin 2 (some .int), Cond.methodLink RL 38 yX1_restore, Cond.instanceMethod yX1_restore, Cond.selects RX1 yX1_restore yX1_restore, Cond.code yX1_restore cX1_restore 5 (some .int), Cond.methodLink RL 112 yL_of, Cond.static yL_of, Cond.codeWith yL_of cL_of 6 (some .int) [(0, 49, 50, 41)], Cond.methodLink RL 56 yX1_sizeAt, Cond.instanceMethod yX1_sizeAt, Cond.selects RX1 yX1_sizeAt yX1_sizeAt, Cond.code yX1_sizeAt cX1_sizeAt 3 (some .int)]
def wsL_law0_r9 : List Cond := [Cond.methodLink RL 83 yL_length, Cond.static yL_length, Cond.code yL_length cL_length 4 (some .int), Cond.methodLink RL 128 yX1_mend, Cond.instanceMethod yX1_mend, Cond.selects RX1 yX1_mend yX1_mend, Cond.code yX1_mend cX1_mend 1 (some .int), Cond.methodLink RL 131 yL_dice, Cond.static yL_dice, Cond.code yL_dice cL_dice 2 (some .int), Cond.constant RL 7 (1799596469), Cond.constant RL 8 (2147483647), Cond.methodLink RL 135 yL_isEdited, Cond.static yL_isEdited, Cond.code yL_isEdited cL_isEdited 14 (some .boolean), Cond.methodLink RL 115 yL_isOnly, Cond.static yL_isOnly, Cond.code yL_isOnly cL_isOnly 5 (some .boolean), Cond.methodLink RL 139 yL_isRun, Cond.static yL_isRun, Cond.code yL_isRun cL_isRun 10 (some .boolean), Cond.methodLink RL 143 yL_isHead, Cond.static yL_isHead, Cond.code yL_isHead cL_isHead 5 (some .boolean)]
def wsL_law0_r10 : List Cond := [Cond.methodLink RL 147 yL_isDate, Cond.static yL_isDate, Cond.code yL_isDate cL_isDate 7 (some .boolean), Cond.methodLink RL 87 yL_isSize, Cond.static yL_isSize, Cond.code yL_isSize cL_isSize 12 (some .boolean), Cond.methodLink RL 151 yL_isSum, Cond.static yL_isSum, Cond.code yL_isSum cL_isSum 3 (some .boolean)]
def wsL_law0 : List Cond := (wsL_law0_r1 ++ (wsL_law0_r2 ++ (wsL_law0_r3 ++ (wsL_law0_r4 ++ (wsL_law0_r5 ++ (wsL_law0_r6 ++ (wsL_law0_r7 ++ (wsL_law0_r8 ++ (wsL_law0_r9 ++ wsL_law0_r10))))))))) ++ wsX10 ++ wsX00 ++ ([] : List Cond)
def wsL_law : List Cond := wsL_law0 ++ (vx_atS RX1 113 "java/lang/IndexOutOfBoundsException" ["java/lang/RuntimeException", "java/lang/Exception"]).filter goodWord ++ (vx_atS RX1 54 "java/lang/IllegalStateException" ["java/lang/RuntimeException", "java/lang/Exception"]).filter goodWord ++ (vx_atS RX1 61 "java/lang/IllegalArgumentException" ["java/lang/RuntimeException", "java/lang/Exception"]).filter goodWord
set_option maxRecDepth 20000 in
theorem wsL_law_in0 : ∀ w ∈ wsL_law0, w ∈ lw_tbl := fun w h => (goodIn_p wsL_law0 [21, 24, 29, 286, 265, 269, 273, 261, 90, 237, 278, 283, 344, 347, 293, 297, 305, 234, 241, 244, 247, 338, 319, 322, 325, 328, 301, 87, 162, 166, 170, 174, 209, 213, 218, 222, 228, 72, 251, 257, 315, 311, 68, 75, 358, 341, 361, 289, 308, 331, 334] rfl (by decide +kernel) w h).1
theorem wsL_law_x0 : ∀ w ∈ (vx_atS RX1 113 "java/lang/IndexOutOfBoundsException" ["java/lang/RuntimeException", "java/lang/Exception"]).filter goodWord, w ∈ lw_tbl := by decide +kernel
theorem wsL_law_x1 : ∀ w ∈ (vx_atS RX1 54 "java/lang/IllegalStateException" ["java/lang/RuntimeException", "java/lang/Exception"]).filter goodWord, w ∈ lw_tbl := by decide +kernel
theorem wsL_law_x2 : ∀ w ∈ (vx_atS RX1 61 "java/lang/IllegalArgumentException" ["java/lang/RuntimeException", "java/lang/Exception"]).filter goodWord, w ∈ lw_tbl := by decide +kernel
theorem wsL_law_in : ∀ w ∈ wsL_law, w ∈ lw_tbl := fun w h => (List.mem_append.mp h).elim (fun h => (List.mem_append.mp h).elim (fun h => (List.mem_append.mp h).elim (fun h => wsL_law_in0 w h) (fun h => wsL_law_x0 w h)) (fun h => wsL_law_x1 w h)) (fun h => wsL_law_x2 w h)
theorem inlX0 : ∀ w ∈ wsX00, w ∈ wsL_law := fun _ h => List.mem_append_left _ (List.mem_append_left _ (List.mem_append_left _ (List.mem_append_left _ (List.mem_append_right _ h))))
theorem inX0 : ∀ w ∈ wsX00, w ∈ lw_tbl := fun w h => wsL_law_in w (inlX0 w h)
theorem inlX1 : ∀ w ∈ wsX10, w ∈ wsL_law := fun _ h => List.mem_append_left _ (List.mem_append_left _ (List.mem_append_left _ (List.mem_append_left _ (List.mem_append_left _ (List.mem_append_right _ h)))))
theorem inX1 : ∀ w ∈ wsX10, w ∈ lw_tbl := fun w h => wsL_law_in w (inlX1 w h)
theorem inX2 : ∀ w ∈ wsX20, w ∈ lw_tbl := by decide +kernel
theorem inJ9 : ∀ w ∈ wsJ90, w ∈ lw_tbl := by decide +kernel
theorem inJ0 : ∀ w ∈ wsJ00, w ∈ lw_tbl := by decide +kernel
theorem dX0_init_0 : decode cX0_init 0 = .ok (.aload_n 0, 1) := by decide +kernel
theorem dX0_init_1 : decode cX0_init 1 = .ok (.invokespecial 1, 3) := by decide +kernel
theorem dX0_init_4 : decode cX0_init 4 = .ok (.aload_n 0, 1) := by decide +kernel
theorem dX0_init_5 : decode cX0_init 5 = .ok (.iload_n 1, 1) := by decide +kernel
theorem dX0_init_6 : decode cX0_init 6 = .ok (.putfield 7, 3) := by decide +kernel
theorem dX0_init_9 : decode cX0_init 9 = .ok (.aload_n 0, 1) := by decide +kernel
theorem dX0_init_10 : decode cX0_init 10 = .ok (.iload_n 2, 1) := by decide +kernel
theorem dX0_init_11 : decode cX0_init 11 = .ok (.putfield 13, 3) := by decide +kernel
theorem dX0_init_14 : decode cX0_init 14 = .ok (.aload_n 0, 1) := by decide +kernel
theorem dX0_init_15 : decode cX0_init 15 = .ok (.aload_n 3, 1) := by decide +kernel
theorem dX0_init_16 : decode cX0_init 16 = .ok (.putfield 16, 3) := by decide +kernel
theorem dX0_init_19 : decode cX0_init 19 = .ok (.return_, 1) := by decide +kernel
set_option maxRecDepth 20000 in
theorem ggX0_isLike_X1_isSameRow : GoodIn wsX0_isLike wsX1_isSameRow := goodIn_r _ [6, 7, 8, 5, 9] rfl (by decide +kernel)
set_option maxRecDepth 20000 in
theorem gX0_isLike_X1_isSameRow_n20 : GoodIn wsX0_isLike (wsX1_isSameRow) := ggX0_isLike_X1_isSameRow
theorem dX0_isLike_0 : decode cX0_isLike 0 = .ok (.aload_n 0, 1) := by decide +kernel
theorem dX0_isLike_1 : decode cX0_isLike 1 = .ok (.getfield 7, 3) := by decide +kernel
theorem dX0_isLike_4 : decode cX0_isLike 4 = .ok (.aload_n 1, 1) := by decide +kernel
theorem dX0_isLike_5 : decode cX0_isLike 5 = .ok (.getfield 7, 3) := by decide +kernel
theorem dX0_isLike_8 : decode cX0_isLike 8 = .ok (.if_icmp .ne 32, 3) := by decide +kernel
theorem dX0_isLike_11 : decode cX0_isLike 11 = .ok (.aload_n 0, 1) := by decide +kernel
theorem dX0_isLike_12 : decode cX0_isLike 12 = .ok (.getfield 13, 3) := by decide +kernel
theorem dX0_isLike_15 : decode cX0_isLike 15 = .ok (.aload_n 1, 1) := by decide +kernel
theorem dX0_isLike_16 : decode cX0_isLike 16 = .ok (.getfield 13, 3) := by decide +kernel
theorem dX0_isLike_19 : decode cX0_isLike 19 = .ok (.if_icmp .ne 21, 3) := by decide +kernel
theorem dX0_isLike_22 : decode cX0_isLike 22 = .ok (.aload_n 0, 1) := by decide +kernel
theorem dX0_isLike_23 : decode cX0_isLike 23 = .ok (.getfield 16, 3) := by decide +kernel
theorem dX0_isLike_26 : decode cX0_isLike 26 = .ok (.aload_n 1, 1) := by decide +kernel
theorem dX0_isLike_27 : decode cX0_isLike 27 = .ok (.getfield 16, 3) := by decide +kernel
theorem dX0_isLike_30 : decode cX0_isLike 30 = .ok (.invokestatic 20, 3) := by decide +kernel
theorem dX0_isLike_33 : decode cX0_isLike 33 = .ok (.ifCond .eq 7, 3) := by decide +kernel
theorem dX0_isLike_36 : decode cX0_isLike 36 = .ok (.iconst 1, 1) := by decide +kernel
theorem dX0_isLike_37 : decode cX0_isLike 37 = .ok (.goto 4, 3) := by decide +kernel
theorem dX0_isLike_40 : decode cX0_isLike 40 = .ok (.iconst 0, 1) := by decide +kernel
theorem dX0_isLike_41 : decode cX0_isLike 41 = .ok (.ireturn, 1) := by decide +kernel
set_option maxRecDepth 20000 in
theorem ggX1_init_X0_init : GoodIn wsX1_init wsX0_init := goodIn_r _ [16, 17, 2, 3, 18, 19, 20, 21, 22, 23] rfl (by decide +kernel)
set_option maxRecDepth 20000 in
theorem gX1_init_X0_init : GoodIn wsX1_init (wsX0_init) := ggX1_init_X0_init
theorem dX1_init_0 : decode cX1_init 0 = .ok (.aload_n 0, 1) := by decide +kernel
theorem dX1_init_1 : decode cX1_init 1 = .ok (.invokespecial 1, 3) := by decide +kernel
theorem dX1_init_4 : decode cX1_init 4 = .ok (.new 7, 3) := by decide +kernel
theorem dX1_init_7 : decode cX1_init 7 = .ok (.dup, 1) := by decide +kernel
theorem dX1_init_8 : decode cX1_init 8 = .ok (.iconst 0, 1) := by decide +kernel
theorem dX1_init_9 : decode cX1_init 9 = .ok (.iconst 0, 1) := by decide +kernel
theorem dX1_init_10 : decode cX1_init 10 = .ok (.iconst 0, 1) := by decide +kernel
theorem dX1_init_11 : decode cX1_init 11 = .ok (.newarray .int, 2) := by decide +kernel
theorem dX1_init_13 : decode cX1_init 13 = .ok (.invokespecial 11, 3) := by decide +kernel
theorem dX1_init_16 : decode cX1_init 16 = .ok (.astore_n 1, 1) := by decide +kernel
theorem dX1_init_17 : decode cX1_init 17 = .ok (.aload_n 0, 1) := by decide +kernel
theorem dX1_init_18 : decode cX1_init 18 = .ok (.bipush 6, 2) := by decide +kernel
theorem dX1_init_20 : decode cX1_init 20 = .ok (.anewarray 7, 3) := by decide +kernel
theorem dX1_init_23 : decode cX1_init 23 = .ok (.putfield 14, 3) := by decide +kernel
theorem dX1_init_26 : decode cX1_init 26 = .ok (.iconst 0, 1) := by decide +kernel
theorem dX1_init_27 : decode cX1_init 27 = .ok (.istore_n 2, 1) := by decide +kernel
theorem dX1_init_28 : decode cX1_init 28 = .ok (.iload_n 2, 1) := by decide +kernel
theorem dX1_init_29 : decode cX1_init 29 = .ok (.aload_n 0, 1) := by decide +kernel
theorem dX1_init_30 : decode cX1_init 30 = .ok (.getfield 14, 3) := by decide +kernel
theorem dX1_init_33 : decode cX1_init 33 = .ok (.arraylength, 1) := by decide +kernel
theorem dX1_init_34 : decode cX1_init 34 = .ok (.if_icmp .ge 16, 3) := by decide +kernel
theorem dX1_init_37 : decode cX1_init 37 = .ok (.aload_n 0, 1) := by decide +kernel
theorem dX1_init_38 : decode cX1_init 38 = .ok (.getfield 14, 3) := by decide +kernel
theorem dX1_init_41 : decode cX1_init 41 = .ok (.iload_n 2, 1) := by decide +kernel
theorem dX1_init_42 : decode cX1_init 42 = .ok (.aload_n 1, 1) := by decide +kernel
theorem dX1_init_43 : decode cX1_init 43 = .ok (.aastore, 1) := by decide +kernel
theorem dX1_init_44 : decode cX1_init 44 = .ok (.iinc 2 1, 3) := by decide +kernel
theorem dX1_init_47 : decode cX1_init 47 = .ok (.goto (-19), 3) := by decide +kernel
theorem dX1_init_50 : decode cX1_init 50 = .ok (.aload_n 0, 1) := by decide +kernel
theorem dX1_init_51 : decode cX1_init 51 = .ok (.sipush 246, 3) := by decide +kernel
theorem dX1_init_54 : decode cX1_init 54 = .ok (.anewarray 7, 3) := by decide +kernel
theorem dX1_init_57 : decode cX1_init 57 = .ok (.putfield 18, 3) := by decide +kernel
theorem dX1_init_60 : decode cX1_init 60 = .ok (.iconst 0, 1) := by decide +kernel
theorem dX1_init_61 : decode cX1_init 61 = .ok (.istore_n 2, 1) := by decide +kernel
theorem dX1_init_62 : decode cX1_init 62 = .ok (.iload_n 2, 1) := by decide +kernel
theorem dX1_init_63 : decode cX1_init 63 = .ok (.aload_n 0, 1) := by decide +kernel
theorem dX1_init_64 : decode cX1_init 64 = .ok (.getfield 18, 3) := by decide +kernel
theorem dX1_init_67 : decode cX1_init 67 = .ok (.arraylength, 1) := by decide +kernel
theorem dX1_init_68 : decode cX1_init 68 = .ok (.if_icmp .ge 16, 3) := by decide +kernel
theorem dX1_init_71 : decode cX1_init 71 = .ok (.aload_n 0, 1) := by decide +kernel
theorem dX1_init_72 : decode cX1_init 72 = .ok (.getfield 18, 3) := by decide +kernel
theorem dX1_init_75 : decode cX1_init 75 = .ok (.iload_n 2, 1) := by decide +kernel
theorem dX1_init_76 : decode cX1_init 76 = .ok (.aload_n 1, 1) := by decide +kernel
theorem dX1_init_77 : decode cX1_init 77 = .ok (.aastore, 1) := by decide +kernel
theorem dX1_init_78 : decode cX1_init 78 = .ok (.iinc 2 1, 3) := by decide +kernel
theorem dX1_init_81 : decode cX1_init 81 = .ok (.goto (-19), 3) := by decide +kernel
theorem dX1_init_84 : decode cX1_init 84 = .ok (.aload_n 0, 1) := by decide +kernel
theorem dX1_init_85 : decode cX1_init 85 = .ok (.iconst 0, 1) := by decide +kernel
theorem dX1_init_86 : decode cX1_init 86 = .ok (.putfield 21, 3) := by decide +kernel
theorem dX1_init_89 : decode cX1_init 89 = .ok (.aload_n 0, 1) := by decide +kernel
theorem dX1_init_90 : decode cX1_init 90 = .ok (.iconst 0, 1) := by decide +kernel
theorem dX1_init_91 : decode cX1_init 91 = .ok (.putfield 25, 3) := by decide +kernel
theorem dX1_init_94 : decode cX1_init 94 = .ok (.aload_n 0, 1) := by decide +kernel
theorem dX1_init_95 : decode cX1_init 95 = .ok (.iconst 0, 1) := by decide +kernel
theorem dX1_init_96 : decode cX1_init 96 = .ok (.putfield 28, 3) := by decide +kernel
theorem dX1_init_99 : decode cX1_init 99 = .ok (.aload_n 0, 1) := by decide +kernel
theorem dX1_init_100 : decode cX1_init 100 = .ok (.iconst 0, 1) := by decide +kernel
theorem dX1_init_101 : decode cX1_init 101 = .ok (.putfield 32, 3) := by decide +kernel
theorem dX1_init_104 : decode cX1_init 104 = .ok (.return_, 1) := by decide +kernel
set_option maxRecDepth 20000 in
theorem ggX1_makeFile_X1_checkPlace : GoodIn wsX1_makeFile wsX1_checkPlace := goodIn_ca (goodIn_r _ [8, 9, 10] rfl (by decide +kernel)) (goodIn_sub (fun _ h => List.mem_cons_of_mem _ (List.mem_append_right _ h)) (by decide +kernel))
set_option maxRecDepth 20000 in
theorem gX1_makeFile_X1_checkPlace : GoodIn wsX1_makeFile (va_wsS RX1 35 yX1_checkPlace wsX1_checkPlace) := goodIn_app (goodIn_of _ (by decide +kernel)) ggX1_makeFile_X1_checkPlace
set_option maxRecDepth 20000 in
theorem ggX1_makeFile_X0_init : GoodIn wsX1_makeFile wsX0_init := goodIn_r _ [13, 14, 15, 16, 17, 18, 19, 26, 27, 28] rfl (by decide +kernel)
set_option maxRecDepth 20000 in
theorem gX1_makeFile_X0_init : GoodIn wsX1_makeFile (wsX0_init) := ggX1_makeFile_X0_init
set_option maxRecDepth 20000 in
theorem ggX1_makeFile_X1_exchange : GoodIn wsX1_makeFile wsX1_exchange := goodIn_r _ [23, 24, 25, 29, 30, 31, 32, 33, 34, 26, 27, 28] rfl (by decide +kernel)
set_option maxRecDepth 20000 in
theorem gX1_makeFile_X1_exchange : GoodIn wsX1_makeFile (wsV RX1 39 RX1 yX1_exchange wsX1_exchange) := goodIn_app (goodIn_of _ (by decide +kernel)) ggX1_makeFile_X1_exchange
theorem dX1_makeFile_0 : decode cX1_makeFile 0 = .ok (.iload_n 1, 1) := by decide +kernel
theorem dX1_makeFile_1 : decode cX1_makeFile 1 = .ok (.invokestatic 35, 3) := by decide +kernel
theorem dX1_makeFile_4 : decode cX1_makeFile 4 = .ok (.aload_n 0, 1) := by decide +kernel
theorem dX1_makeFile_5 : decode cX1_makeFile 5 = .ok (.iload_n 1, 1) := by decide +kernel
theorem dX1_makeFile_6 : decode cX1_makeFile 6 = .ok (.new 7, 3) := by decide +kernel
theorem dX1_makeFile_9 : decode cX1_makeFile 9 = .ok (.dup, 1) := by decide +kernel
theorem dX1_makeFile_10 : decode cX1_makeFile 10 = .ok (.iconst 1, 1) := by decide +kernel
theorem dX1_makeFile_11 : decode cX1_makeFile 11 = .ok (.iconst 0, 1) := by decide +kernel
theorem dX1_makeFile_12 : decode cX1_makeFile 12 = .ok (.iconst 0, 1) := by decide +kernel
theorem dX1_makeFile_13 : decode cX1_makeFile 13 = .ok (.newarray .int, 2) := by decide +kernel
theorem dX1_makeFile_15 : decode cX1_makeFile 15 = .ok (.invokespecial 11, 3) := by decide +kernel
theorem dX1_makeFile_18 : decode cX1_makeFile 18 = .ok (.invokevirtual 39, 3) := by decide +kernel
theorem dX1_makeFile_21 : decode cX1_makeFile 21 = .ok (.ireturn, 1) := by decide +kernel
set_option maxRecDepth 20000 in
theorem ggX1_makeLink_X1_checkPlace : GoodIn wsX1_makeLink wsX1_checkPlace := goodIn_ca (goodIn_r _ [8, 9, 10] rfl (by decide +kernel)) (goodIn_sub (fun _ h => List.mem_cons_of_mem _ (List.mem_append_right _ h)) (by decide +kernel))
set_option maxRecDepth 20000 in
theorem gX1_makeLink_X1_checkPlace : GoodIn wsX1_makeLink (va_wsS RX1 35 yX1_checkPlace wsX1_checkPlace) := goodIn_app (goodIn_of _ (by decide +kernel)) ggX1_makeLink_X1_checkPlace
set_option maxRecDepth 20000 in
theorem ggX1_makeLink_X0_init : GoodIn wsX1_makeLink wsX0_init := goodIn_r _ [13, 14, 15, 16, 17, 18, 19, 26, 27, 28] rfl (by decide +kernel)
set_option maxRecDepth 20000 in
theorem gX1_makeLink_X0_init : GoodIn wsX1_makeLink (wsX0_init) := ggX1_makeLink_X0_init
set_option maxRecDepth 20000 in
theorem ggX1_makeLink_X1_exchange : GoodIn wsX1_makeLink wsX1_exchange := goodIn_r _ [23, 24, 25, 29, 30, 31, 32, 33, 34, 26, 27, 28] rfl (by decide +kernel)
set_option maxRecDepth 20000 in
theorem gX1_makeLink_X1_exchange : GoodIn wsX1_makeLink (wsV RX1 39 RX1 yX1_exchange wsX1_exchange) := goodIn_app (goodIn_of _ (by decide +kernel)) ggX1_makeLink_X1_exchange
theorem dX1_makeLink_0 : decode cX1_makeLink 0 = .ok (.iload_n 1, 1) := by decide +kernel
theorem dX1_makeLink_1 : decode cX1_makeLink 1 = .ok (.invokestatic 35, 3) := by decide +kernel
theorem dX1_makeLink_4 : decode cX1_makeLink 4 = .ok (.iload_n 2, 1) := by decide +kernel
theorem dX1_makeLink_5 : decode cX1_makeLink 5 = .ok (.invokestatic 35, 3) := by decide +kernel
theorem dX1_makeLink_8 : decode cX1_makeLink 8 = .ok (.aload_n 0, 1) := by decide +kernel
theorem dX1_makeLink_9 : decode cX1_makeLink 9 = .ok (.iload_n 1, 1) := by decide +kernel
theorem dX1_makeLink_10 : decode cX1_makeLink 10 = .ok (.new 7, 3) := by decide +kernel
theorem dX1_makeLink_13 : decode cX1_makeLink 13 = .ok (.dup, 1) := by decide +kernel
theorem dX1_makeLink_14 : decode cX1_makeLink 14 = .ok (.iconst 2, 1) := by decide +kernel
theorem dX1_makeLink_15 : decode cX1_makeLink 15 = .ok (.iconst 0, 1) := by decide +kernel
theorem dX1_makeLink_16 : decode cX1_makeLink 16 = .ok (.iconst 1, 1) := by decide +kernel
theorem dX1_makeLink_17 : decode cX1_makeLink 17 = .ok (.newarray .int, 2) := by decide +kernel
theorem dX1_makeLink_19 : decode cX1_makeLink 19 = .ok (.dup, 1) := by decide +kernel
theorem dX1_makeLink_20 : decode cX1_makeLink 20 = .ok (.iconst 0, 1) := by decide +kernel
theorem dX1_makeLink_21 : decode cX1_makeLink 21 = .ok (.iload_n 2, 1) := by decide +kernel
theorem dX1_makeLink_22 : decode cX1_makeLink 22 = .ok (.iastore, 1) := by decide +kernel
theorem dX1_makeLink_23 : decode cX1_makeLink 23 = .ok (.invokespecial 11, 3) := by decide +kernel
theorem dX1_makeLink_26 : decode cX1_makeLink 26 = .ok (.invokevirtual 39, 3) := by decide +kernel
theorem dX1_makeLink_29 : decode cX1_makeLink 29 = .ok (.ireturn, 1) := by decide +kernel
set_option maxRecDepth 20000 in
theorem ggX1_remove_X1_checkPlace : GoodIn wsX1_remove wsX1_checkPlace := goodIn_ca (goodIn_r _ [8, 9, 10] rfl (by decide +kernel)) (goodIn_sub (fun _ h => List.mem_cons_of_mem _ (List.mem_append_right _ h)) (by decide +kernel))
set_option maxRecDepth 20000 in
theorem gX1_remove_X1_checkPlace : GoodIn wsX1_remove (va_wsS RX1 35 yX1_checkPlace wsX1_checkPlace) := goodIn_app (goodIn_of _ (by decide +kernel)) ggX1_remove_X1_checkPlace
set_option maxRecDepth 20000 in
theorem ggX1_remove_X0_init : GoodIn wsX1_remove wsX0_init := goodIn_r _ [13, 14, 15, 16, 17, 18, 19, 26, 27, 28] rfl (by decide +kernel)
set_option maxRecDepth 20000 in
theorem gX1_remove_X0_init : GoodIn wsX1_remove (wsX0_init) := ggX1_remove_X0_init
set_option maxRecDepth 20000 in
theorem ggX1_remove_X1_exchange : GoodIn wsX1_remove wsX1_exchange := goodIn_r _ [23, 24, 25, 29, 30, 31, 32, 33, 34, 26, 27, 28] rfl (by decide +kernel)
set_option maxRecDepth 20000 in
theorem gX1_remove_X1_exchange : GoodIn wsX1_remove (wsV RX1 39 RX1 yX1_exchange wsX1_exchange) := goodIn_app (goodIn_of _ (by decide +kernel)) ggX1_remove_X1_exchange
theorem dX1_remove_0 : decode cX1_remove 0 = .ok (.iload_n 1, 1) := by decide +kernel
theorem dX1_remove_1 : decode cX1_remove 1 = .ok (.invokestatic 35, 3) := by decide +kernel
theorem dX1_remove_4 : decode cX1_remove 4 = .ok (.aload_n 0, 1) := by decide +kernel
theorem dX1_remove_5 : decode cX1_remove 5 = .ok (.iload_n 1, 1) := by decide +kernel
theorem dX1_remove_6 : decode cX1_remove 6 = .ok (.new 7, 3) := by decide +kernel
theorem dX1_remove_9 : decode cX1_remove 9 = .ok (.dup, 1) := by decide +kernel
theorem dX1_remove_10 : decode cX1_remove 10 = .ok (.iconst 0, 1) := by decide +kernel
theorem dX1_remove_11 : decode cX1_remove 11 = .ok (.iconst 0, 1) := by decide +kernel
theorem dX1_remove_12 : decode cX1_remove 12 = .ok (.iconst 0, 1) := by decide +kernel
theorem dX1_remove_13 : decode cX1_remove 13 = .ok (.newarray .int, 2) := by decide +kernel
theorem dX1_remove_15 : decode cX1_remove 15 = .ok (.invokespecial 11, 3) := by decide +kernel
theorem dX1_remove_18 : decode cX1_remove 18 = .ok (.invokevirtual 39, 3) := by decide +kernel
theorem dX1_remove_21 : decode cX1_remove 21 = .ok (.ireturn, 1) := by decide +kernel
set_option maxRecDepth 20000 in
theorem ggX1_put_X1_checkPlace : GoodIn wsX1_put wsX1_checkPlace := goodIn_ca (goodIn_r _ [15, 16, 17] rfl (by decide +kernel)) (goodIn_sub (fun _ h => List.mem_cons_of_mem _ (List.mem_append_right _ h)) (by decide +kernel))
set_option maxRecDepth 20000 in
theorem gX1_put_X1_checkPlace : GoodIn wsX1_put (va_wsS RX1 35 yX1_checkPlace wsX1_checkPlace) := goodIn_app (goodIn_of _ (by decide +kernel)) ggX1_put_X1_checkPlace
set_option maxRecDepth 20000 in
theorem ggX1_put_X1_rowWith : GoodIn wsX1_put wsX1_rowWith := goodIn_r _ [20, 21] rfl (by decide +kernel)
set_option maxRecDepth 20000 in
theorem gX1_put_X1_rowWith : GoodIn wsX1_put (va_wsS RX1 65 yX1_rowWith wsX1_rowWith) := goodIn_app (goodIn_of _ (by decide +kernel)) ggX1_put_X1_rowWith
set_option maxRecDepth 20000 in
theorem ggX1_put_X0_init : GoodIn wsX1_put wsX0_init := goodIn_r _ [24, 25, 26, 27, 28, 29, 30, 37, 38, 39] rfl (by decide +kernel)
set_option maxRecDepth 20000 in
theorem gX1_put_X0_init : GoodIn wsX1_put (wsX0_init) := ggX1_put_X0_init
theorem dX1_put_0 : decode cX1_put 0 = .ok (.iload_n 1, 1) := by decide +kernel
theorem dX1_put_1 : decode cX1_put 1 = .ok (.invokestatic 35, 3) := by decide +kernel
theorem dX1_put_4 : decode cX1_put 4 = .ok (.aload_n 0, 1) := by decide +kernel
theorem dX1_put_5 : decode cX1_put 5 = .ok (.getfield 14, 3) := by decide +kernel
theorem dX1_put_8 : decode cX1_put 8 = .ok (.iload_n 1, 1) := by decide +kernel
theorem dX1_put_9 : decode cX1_put 9 = .ok (.aaload, 1) := by decide +kernel
theorem dX1_put_10 : decode cX1_put 10 = .ok (.astore 4, 2) := by decide +kernel
theorem dX1_put_12 : decode cX1_put 12 = .ok (.aload 4, 2) := by decide +kernel
theorem dX1_put_14 : decode cX1_put 14 = .ok (.getfield 43, 3) := by decide +kernel
theorem dX1_put_17 : decode cX1_put 17 = .ok (.arraylength, 1) := by decide +kernel
theorem dX1_put_18 : decode cX1_put 18 = .ok (.istore 5, 2) := by decide +kernel
theorem dX1_put_20 : decode cX1_put 20 = .ok (.aload 4, 2) := by decide +kernel
theorem dX1_put_22 : decode cX1_put 22 = .ok (.getfield 47, 3) := by decide +kernel
theorem dX1_put_25 : decode cX1_put 25 = .ok (.iconst 1, 1) := by decide +kernel
theorem dX1_put_26 : decode cX1_put 26 = .ok (.if_icmp .ne 10, 3) := by decide +kernel
theorem dX1_put_29 : decode cX1_put 29 = .ok (.iload 5, 2) := by decide +kernel
theorem dX1_put_31 : decode cX1_put 31 = .ok (.bipush 12, 2) := by decide +kernel
theorem dX1_put_33 : decode cX1_put 33 = .ok (.if_icmp .lt 13, 3) := by decide +kernel
theorem dX1_put_36 : decode cX1_put 36 = .ok (.new 50, 3) := by decide +kernel
theorem dX1_put_39 : decode cX1_put 39 = .ok (.dup, 1) := by decide +kernel
theorem dX1_put_40 : decode cX1_put 40 = .ok (.ldc 52, 2) := by decide +kernel
theorem dX1_put_42 : decode cX1_put 42 = .ok (.invokespecial 54, 3) := by decide +kernel
theorem dX1_put_45 : decode cX1_put 45 = .ok (.athrow, 1) := by decide +kernel
theorem dX1_put_46 : decode cX1_put 46 = .ok (.iload_n 2, 1) := by decide +kernel
theorem dX1_put_47 : decode cX1_put 47 = .ok (.ifCond .lt 19, 3) := by decide +kernel
theorem dX1_put_50 : decode cX1_put 50 = .ok (.iload_n 2, 1) := by decide +kernel
theorem dX1_put_51 : decode cX1_put 51 = .ok (.iload 5, 2) := by decide +kernel
theorem dX1_put_53 : decode cX1_put 53 = .ok (.if_icmp .gt 13, 3) := by decide +kernel
theorem dX1_put_56 : decode cX1_put 56 = .ok (.iload_n 3, 1) := by decide +kernel
theorem dX1_put_57 : decode cX1_put 57 = .ok (.ifCond .lt 9, 3) := by decide +kernel
theorem dX1_put_60 : decode cX1_put 60 = .ok (.iload_n 3, 1) := by decide +kernel
theorem dX1_put_61 : decode cX1_put 61 = .ok (.bipush 9, 2) := by decide +kernel
theorem dX1_put_63 : decode cX1_put 63 = .ok (.if_icmp .le 13, 3) := by decide +kernel
theorem dX1_put_66 : decode cX1_put 66 = .ok (.new 57, 3) := by decide +kernel
theorem dX1_put_69 : decode cX1_put 69 = .ok (.dup, 1) := by decide +kernel
theorem dX1_put_70 : decode cX1_put 70 = .ok (.ldc 59, 2) := by decide +kernel
theorem dX1_put_72 : decode cX1_put 72 = .ok (.invokespecial 61, 3) := by decide +kernel
theorem dX1_put_75 : decode cX1_put 75 = .ok (.athrow, 1) := by decide +kernel
theorem dX1_put_76 : decode cX1_put 76 = .ok (.aload_n 0, 1) := by decide +kernel
theorem dX1_put_77 : decode cX1_put 77 = .ok (.getfield 14, 3) := by decide +kernel
theorem dX1_put_80 : decode cX1_put 80 = .ok (.iload_n 1, 1) := by decide +kernel
theorem dX1_put_81 : decode cX1_put 81 = .ok (.new 7, 3) := by decide +kernel
theorem dX1_put_84 : decode cX1_put 84 = .ok (.dup, 1) := by decide +kernel
theorem dX1_put_85 : decode cX1_put 85 = .ok (.iconst 1, 1) := by decide +kernel
theorem dX1_put_86 : decode cX1_put 86 = .ok (.aload 4, 2) := by decide +kernel
theorem dX1_put_88 : decode cX1_put 88 = .ok (.getfield 62, 3) := by decide +kernel
theorem dX1_put_91 : decode cX1_put 91 = .ok (.aload 4, 2) := by decide +kernel
theorem dX1_put_93 : decode cX1_put 93 = .ok (.getfield 43, 3) := by decide +kernel
theorem dX1_put_96 : decode cX1_put 96 = .ok (.iload_n 2, 1) := by decide +kernel
theorem dX1_put_97 : decode cX1_put 97 = .ok (.iload_n 3, 1) := by decide +kernel
theorem dX1_put_98 : decode cX1_put 98 = .ok (.invokestatic 65, 3) := by decide +kernel
theorem dX1_put_101 : decode cX1_put 101 = .ok (.invokespecial 11, 3) := by decide +kernel
theorem dX1_put_104 : decode cX1_put 104 = .ok (.aastore, 1) := by decide +kernel
theorem dX1_put_105 : decode cX1_put 105 = .ok (.iload 5, 2) := by decide +kernel
theorem dX1_put_107 : decode cX1_put 107 = .ok (.iconst 1, 1) := by decide +kernel
theorem dX1_put_108 : decode cX1_put 108 = .ok (.iadd, 1) := by decide +kernel
theorem dX1_put_109 : decode cX1_put 109 = .ok (.ireturn, 1) := by decide +kernel
set_option maxRecDepth 20000 in
theorem ggX1_take_X1_checkPlace : GoodIn wsX1_take wsX1_checkPlace := goodIn_ca (goodIn_r _ [15, 16, 17] rfl (by decide +kernel)) (goodIn_sub (fun _ h => List.mem_cons_of_mem _ (List.mem_append_right _ h)) (by decide +kernel))
set_option maxRecDepth 20000 in
theorem gX1_take_X1_checkPlace : GoodIn wsX1_take (va_wsS RX1 35 yX1_checkPlace wsX1_checkPlace) := goodIn_app (goodIn_of _ (by decide +kernel)) ggX1_take_X1_checkPlace
set_option maxRecDepth 20000 in
theorem ggX1_take_X1_rowWithout : GoodIn wsX1_take wsX1_rowWithout := goodIn_r _ [20, 21] rfl (by decide +kernel)
set_option maxRecDepth 20000 in
theorem gX1_take_X1_rowWithout : GoodIn wsX1_take (va_wsS RX1 73 yX1_rowWithout wsX1_rowWithout) := goodIn_app (goodIn_of _ (by decide +kernel)) ggX1_take_X1_rowWithout
set_option maxRecDepth 20000 in
theorem ggX1_take_X0_init : GoodIn wsX1_take wsX0_init := goodIn_r _ [24, 25, 26, 27, 28, 29, 30, 37, 38, 39] rfl (by decide +kernel)
set_option maxRecDepth 20000 in
theorem gX1_take_X0_init : GoodIn wsX1_take (wsX0_init) := ggX1_take_X0_init
theorem dX1_take_0 : decode cX1_take 0 = .ok (.iload_n 1, 1) := by decide +kernel
theorem dX1_take_1 : decode cX1_take 1 = .ok (.invokestatic 35, 3) := by decide +kernel
theorem dX1_take_4 : decode cX1_take 4 = .ok (.aload_n 0, 1) := by decide +kernel
theorem dX1_take_5 : decode cX1_take 5 = .ok (.getfield 14, 3) := by decide +kernel
theorem dX1_take_8 : decode cX1_take 8 = .ok (.iload_n 1, 1) := by decide +kernel
theorem dX1_take_9 : decode cX1_take 9 = .ok (.aaload, 1) := by decide +kernel
theorem dX1_take_10 : decode cX1_take 10 = .ok (.astore_n 3, 1) := by decide +kernel
theorem dX1_take_11 : decode cX1_take 11 = .ok (.aload_n 3, 1) := by decide +kernel
theorem dX1_take_12 : decode cX1_take 12 = .ok (.getfield 47, 3) := by decide +kernel
theorem dX1_take_15 : decode cX1_take 15 = .ok (.iconst 1, 1) := by decide +kernel
theorem dX1_take_16 : decode cX1_take 16 = .ok (.if_icmp .eq 13, 3) := by decide +kernel
theorem dX1_take_19 : decode cX1_take 19 = .ok (.new 50, 3) := by decide +kernel
theorem dX1_take_22 : decode cX1_take 22 = .ok (.dup, 1) := by decide +kernel
theorem dX1_take_23 : decode cX1_take 23 = .ok (.ldc 69, 2) := by decide +kernel
theorem dX1_take_25 : decode cX1_take 25 = .ok (.invokespecial 54, 3) := by decide +kernel
theorem dX1_take_28 : decode cX1_take 28 = .ok (.athrow, 1) := by decide +kernel
theorem dX1_take_29 : decode cX1_take 29 = .ok (.iload_n 2, 1) := by decide +kernel
theorem dX1_take_30 : decode cX1_take 30 = .ok (.ifCond .lt 12, 3) := by decide +kernel
theorem dX1_take_33 : decode cX1_take 33 = .ok (.iload_n 2, 1) := by decide +kernel
theorem dX1_take_34 : decode cX1_take 34 = .ok (.aload_n 3, 1) := by decide +kernel
theorem dX1_take_35 : decode cX1_take 35 = .ok (.getfield 43, 3) := by decide +kernel
theorem dX1_take_38 : decode cX1_take 38 = .ok (.arraylength, 1) := by decide +kernel
theorem dX1_take_39 : decode cX1_take 39 = .ok (.if_icmp .lt 13, 3) := by decide +kernel
theorem dX1_take_42 : decode cX1_take 42 = .ok (.new 57, 3) := by decide +kernel
theorem dX1_take_45 : decode cX1_take 45 = .ok (.dup, 1) := by decide +kernel
theorem dX1_take_46 : decode cX1_take 46 = .ok (.ldc 71, 2) := by decide +kernel
theorem dX1_take_48 : decode cX1_take 48 = .ok (.invokespecial 61, 3) := by decide +kernel
theorem dX1_take_51 : decode cX1_take 51 = .ok (.athrow, 1) := by decide +kernel
theorem dX1_take_52 : decode cX1_take 52 = .ok (.aload_n 0, 1) := by decide +kernel
theorem dX1_take_53 : decode cX1_take 53 = .ok (.getfield 14, 3) := by decide +kernel
theorem dX1_take_56 : decode cX1_take 56 = .ok (.iload_n 1, 1) := by decide +kernel
theorem dX1_take_57 : decode cX1_take 57 = .ok (.new 7, 3) := by decide +kernel
theorem dX1_take_60 : decode cX1_take 60 = .ok (.dup, 1) := by decide +kernel
theorem dX1_take_61 : decode cX1_take 61 = .ok (.iconst 1, 1) := by decide +kernel
theorem dX1_take_62 : decode cX1_take 62 = .ok (.aload_n 3, 1) := by decide +kernel
theorem dX1_take_63 : decode cX1_take 63 = .ok (.getfield 62, 3) := by decide +kernel
theorem dX1_take_66 : decode cX1_take 66 = .ok (.aload_n 3, 1) := by decide +kernel
theorem dX1_take_67 : decode cX1_take 67 = .ok (.getfield 43, 3) := by decide +kernel
theorem dX1_take_70 : decode cX1_take 70 = .ok (.iload_n 2, 1) := by decide +kernel
theorem dX1_take_71 : decode cX1_take 71 = .ok (.invokestatic 73, 3) := by decide +kernel
theorem dX1_take_74 : decode cX1_take 74 = .ok (.invokespecial 11, 3) := by decide +kernel
theorem dX1_take_77 : decode cX1_take 77 = .ok (.aastore, 1) := by decide +kernel
theorem dX1_take_78 : decode cX1_take 78 = .ok (.aload_n 3, 1) := by decide +kernel
theorem dX1_take_79 : decode cX1_take 79 = .ok (.getfield 43, 3) := by decide +kernel
theorem dX1_take_82 : decode cX1_take 82 = .ok (.iload_n 2, 1) := by decide +kernel
theorem dX1_take_83 : decode cX1_take 83 = .ok (.iaload, 1) := by decide +kernel
theorem dX1_take_84 : decode cX1_take 84 = .ok (.ireturn, 1) := by decide +kernel
set_option maxRecDepth 20000 in
theorem ggX1_setRights_X1_checkPlace : GoodIn wsX1_setRights wsX1_checkPlace := goodIn_ca (goodIn_r _ [15, 16, 17] rfl (by decide +kernel)) (goodIn_sub (fun _ h => List.mem_cons_of_mem _ (List.mem_append_right _ h)) (by decide +kernel))
set_option maxRecDepth 20000 in
theorem gX1_setRights_X1_checkPlace : GoodIn wsX1_setRights (va_wsS RX1 35 yX1_checkPlace wsX1_checkPlace) := goodIn_app (goodIn_of _ (by decide +kernel)) ggX1_setRights_X1_checkPlace
set_option maxRecDepth 20000 in
theorem ggX1_setRights_X0_init : GoodIn wsX1_setRights wsX0_init := goodIn_r _ [20, 21, 22, 23, 24, 25, 26, 33, 34, 35] rfl (by decide +kernel)
set_option maxRecDepth 20000 in
theorem gX1_setRights_X0_init : GoodIn wsX1_setRights (wsX0_init) := ggX1_setRights_X0_init
theorem dX1_setRights_0 : decode cX1_setRights 0 = .ok (.iload_n 1, 1) := by decide +kernel
theorem dX1_setRights_1 : decode cX1_setRights 1 = .ok (.invokestatic 35, 3) := by decide +kernel
theorem dX1_setRights_4 : decode cX1_setRights 4 = .ok (.aload_n 0, 1) := by decide +kernel
theorem dX1_setRights_5 : decode cX1_setRights 5 = .ok (.getfield 14, 3) := by decide +kernel
theorem dX1_setRights_8 : decode cX1_setRights 8 = .ok (.iload_n 1, 1) := by decide +kernel
theorem dX1_setRights_9 : decode cX1_setRights 9 = .ok (.aaload, 1) := by decide +kernel
theorem dX1_setRights_10 : decode cX1_setRights 10 = .ok (.astore_n 3, 1) := by decide +kernel
theorem dX1_setRights_11 : decode cX1_setRights 11 = .ok (.aload_n 3, 1) := by decide +kernel
theorem dX1_setRights_12 : decode cX1_setRights 12 = .ok (.getfield 47, 3) := by decide +kernel
theorem dX1_setRights_15 : decode cX1_setRights 15 = .ok (.ifCond .ne 13, 3) := by decide +kernel
theorem dX1_setRights_18 : decode cX1_setRights 18 = .ok (.new 50, 3) := by decide +kernel
theorem dX1_setRights_21 : decode cX1_setRights 21 = .ok (.dup, 1) := by decide +kernel
theorem dX1_setRights_22 : decode cX1_setRights 22 = .ok (.ldc 77, 2) := by decide +kernel
theorem dX1_setRights_24 : decode cX1_setRights 24 = .ok (.invokespecial 54, 3) := by decide +kernel
theorem dX1_setRights_27 : decode cX1_setRights 27 = .ok (.athrow, 1) := by decide +kernel
theorem dX1_setRights_28 : decode cX1_setRights 28 = .ok (.iload_n 2, 1) := by decide +kernel
theorem dX1_setRights_29 : decode cX1_setRights 29 = .ok (.ifCond .lt 9, 3) := by decide +kernel
theorem dX1_setRights_32 : decode cX1_setRights 32 = .ok (.iload_n 2, 1) := by decide +kernel
theorem dX1_setRights_33 : decode cX1_setRights 33 = .ok (.bipush 7, 2) := by decide +kernel
theorem dX1_setRights_35 : decode cX1_setRights 35 = .ok (.if_icmp .le 13, 3) := by decide +kernel
theorem dX1_setRights_38 : decode cX1_setRights 38 = .ok (.new 57, 3) := by decide +kernel
theorem dX1_setRights_41 : decode cX1_setRights 41 = .ok (.dup, 1) := by decide +kernel
theorem dX1_setRights_42 : decode cX1_setRights 42 = .ok (.ldc 79, 2) := by decide +kernel
theorem dX1_setRights_44 : decode cX1_setRights 44 = .ok (.invokespecial 61, 3) := by decide +kernel
theorem dX1_setRights_47 : decode cX1_setRights 47 = .ok (.athrow, 1) := by decide +kernel
theorem dX1_setRights_48 : decode cX1_setRights 48 = .ok (.aload_n 0, 1) := by decide +kernel
theorem dX1_setRights_49 : decode cX1_setRights 49 = .ok (.getfield 14, 3) := by decide +kernel
theorem dX1_setRights_52 : decode cX1_setRights 52 = .ok (.iload_n 1, 1) := by decide +kernel
theorem dX1_setRights_53 : decode cX1_setRights 53 = .ok (.new 7, 3) := by decide +kernel
theorem dX1_setRights_56 : decode cX1_setRights 56 = .ok (.dup, 1) := by decide +kernel
theorem dX1_setRights_57 : decode cX1_setRights 57 = .ok (.aload_n 3, 1) := by decide +kernel
theorem dX1_setRights_58 : decode cX1_setRights 58 = .ok (.getfield 47, 3) := by decide +kernel
theorem dX1_setRights_61 : decode cX1_setRights 61 = .ok (.iload_n 2, 1) := by decide +kernel
theorem dX1_setRights_62 : decode cX1_setRights 62 = .ok (.aload_n 3, 1) := by decide +kernel
theorem dX1_setRights_63 : decode cX1_setRights 63 = .ok (.getfield 43, 3) := by decide +kernel
theorem dX1_setRights_66 : decode cX1_setRights 66 = .ok (.invokespecial 11, 3) := by decide +kernel
theorem dX1_setRights_69 : decode cX1_setRights 69 = .ok (.aastore, 1) := by decide +kernel
theorem dX1_setRights_70 : decode cX1_setRights 70 = .ok (.aload_n 3, 1) := by decide +kernel
theorem dX1_setRights_71 : decode cX1_setRights 71 = .ok (.getfield 62, 3) := by decide +kernel
theorem dX1_setRights_74 : decode cX1_setRights 74 = .ok (.ireturn, 1) := by decide +kernel
set_option maxRecDepth 20000 in
theorem ggX1_run_X1_undoBrokenRun : GoodIn wsX1_run wsX1_undoBrokenRun := goodIn_r _ [14, 7, 6, 35, 36, 37, 38, 39, 40] rfl (by decide +kernel)
set_option maxRecDepth 20000 in
theorem gX1_run_X1_undoBrokenRun : GoodIn wsX1_run (wsV RX1 85 RX1 yX1_undoBrokenRun wsX1_undoBrokenRun) := goodIn_app (goodIn_of _ (by decide +kernel)) ggX1_run_X1_undoBrokenRun
set_option maxRecDepth 20000 in
theorem ggX1_run_X1_stepsNeeded : GoodIn wsX1_run wsX1_stepsNeeded := goodIn_r _ [18, 9, 8, 5, 19, 20, 13, 21, 22, 23, 24, 25, 26, 27, 28, 29, 30, 31, 32, 33, 34, 35, 36, 37, 38, 39, 40, 41, 42, 43] rfl (by decide +kernel)
set_option maxRecDepth 20000 in
theorem gX1_run_X1_stepsNeeded : GoodIn wsX1_run (wsV RX1 89 RX1 yX1_stepsNeeded wsX1_stepsNeeded) := goodIn_app (goodIn_of _ (by decide +kernel)) ggX1_run_X1_stepsNeeded
set_option maxRecDepth 20000 in
theorem ggX1_run_X1_keptIndex : GoodIn wsX1_run wsX1_keptIndex := goodIn_r _ [21] rfl (by decide +kernel)
set_option maxRecDepth 20000 in
theorem gX1_run_X1_keptIndex : GoodIn wsX1_run (va_wsS RX1 92 yX1_keptIndex wsX1_keptIndex) := goodIn_app (goodIn_of _ (by decide +kernel)) ggX1_run_X1_keptIndex
theorem dX1_run_0 : decode cX1_run 0 = .ok (.iload_n 1, 1) := by decide +kernel
theorem dX1_run_1 : decode cX1_run 1 = .ok (.ifCond .lt 9, 3) := by decide +kernel
theorem dX1_run_4 : decode cX1_run 4 = .ok (.iload_n 1, 1) := by decide +kernel
theorem dX1_run_5 : decode cX1_run 5 = .ok (.bipush 6, 2) := by decide +kernel
theorem dX1_run_7 : decode cX1_run 7 = .ok (.if_icmp .le 13, 3) := by decide +kernel
theorem dX1_run_10 : decode cX1_run 10 = .ok (.new 57, 3) := by decide +kernel
theorem dX1_run_13 : decode cX1_run 13 = .ok (.dup, 1) := by decide +kernel
theorem dX1_run_14 : decode cX1_run 14 = .ok (.ldc 81, 2) := by decide +kernel
theorem dX1_run_16 : decode cX1_run 16 = .ok (.invokespecial 61, 3) := by decide +kernel
theorem dX1_run_19 : decode cX1_run 19 = .ok (.athrow, 1) := by decide +kernel
theorem dX1_run_20 : decode cX1_run 20 = .ok (.aload_n 0, 1) := by decide +kernel
theorem dX1_run_21 : decode cX1_run 21 = .ok (.getfield 25, 3) := by decide +kernel
theorem dX1_run_24 : decode cX1_run 24 = .ok (.bipush 40, 2) := by decide +kernel
theorem dX1_run_26 : decode cX1_run 26 = .ok (.if_icmp .lt 13, 3) := by decide +kernel
theorem dX1_run_29 : decode cX1_run 29 = .ok (.new 50, 3) := by decide +kernel
theorem dX1_run_32 : decode cX1_run 32 = .ok (.dup, 1) := by decide +kernel
theorem dX1_run_33 : decode cX1_run 33 = .ok (.ldc 83, 2) := by decide +kernel
theorem dX1_run_35 : decode cX1_run 35 = .ok (.invokespecial 54, 3) := by decide +kernel
theorem dX1_run_38 : decode cX1_run 38 = .ok (.athrow, 1) := by decide +kernel
theorem dX1_run_39 : decode cX1_run 39 = .ok (.aload_n 0, 1) := by decide +kernel
theorem dX1_run_40 : decode cX1_run 40 = .ok (.invokevirtual 85, 3) := by decide +kernel
theorem dX1_run_43 : decode cX1_run 43 = .ok (.pop, 1) := by decide +kernel
theorem dX1_run_44 : decode cX1_run 44 = .ok (.iload_n 1, 1) := by decide +kernel
theorem dX1_run_45 : decode cX1_run 45 = .ok (.aload_n 0, 1) := by decide +kernel
theorem dX1_run_46 : decode cX1_run 46 = .ok (.invokevirtual 89, 3) := by decide +kernel
theorem dX1_run_49 : decode cX1_run 49 = .ok (.if_icmp .ge 15, 3) := by decide +kernel
theorem dX1_run_52 : decode cX1_run 52 = .ok (.aload_n 0, 1) := by decide +kernel
theorem dX1_run_53 : decode cX1_run 53 = .ok (.iconst 1, 1) := by decide +kernel
theorem dX1_run_54 : decode cX1_run 54 = .ok (.putfield 28, 3) := by decide +kernel
theorem dX1_run_57 : decode cX1_run 57 = .ok (.aload_n 0, 1) := by decide +kernel
theorem dX1_run_58 : decode cX1_run 58 = .ok (.iload_n 1, 1) := by decide +kernel
theorem dX1_run_59 : decode cX1_run 59 = .ok (.putfield 32, 3) := by decide +kernel
theorem dX1_run_62 : decode cX1_run 62 = .ok (.iconst (-1), 1) := by decide +kernel
theorem dX1_run_63 : decode cX1_run 63 = .ok (.ireturn, 1) := by decide +kernel
theorem dX1_run_64 : decode cX1_run 64 = .ok (.aload_n 0, 1) := by decide +kernel
theorem dX1_run_65 : decode cX1_run 65 = .ok (.dup, 1) := by decide +kernel
theorem dX1_run_66 : decode cX1_run 66 = .ok (.getfield 25, 3) := by decide +kernel
theorem dX1_run_69 : decode cX1_run 69 = .ok (.iconst 1, 1) := by decide +kernel
theorem dX1_run_70 : decode cX1_run 70 = .ok (.iadd, 1) := by decide +kernel
theorem dX1_run_71 : decode cX1_run 71 = .ok (.putfield 25, 3) := by decide +kernel
theorem dX1_run_74 : decode cX1_run 74 = .ok (.iconst 0, 1) := by decide +kernel
theorem dX1_run_75 : decode cX1_run 75 = .ok (.istore_n 2, 1) := by decide +kernel
theorem dX1_run_76 : decode cX1_run 76 = .ok (.iload_n 2, 1) := by decide +kernel
theorem dX1_run_77 : decode cX1_run 77 = .ok (.bipush 6, 2) := by decide +kernel
theorem dX1_run_79 : decode cX1_run 79 = .ok (.if_icmp .ge 28, 3) := by decide +kernel
theorem dX1_run_82 : decode cX1_run 82 = .ok (.aload_n 0, 1) := by decide +kernel
theorem dX1_run_83 : decode cX1_run 83 = .ok (.getfield 18, 3) := by decide +kernel
theorem dX1_run_86 : decode cX1_run 86 = .ok (.aload_n 0, 1) := by decide +kernel
theorem dX1_run_87 : decode cX1_run 87 = .ok (.getfield 25, 3) := by decide +kernel
theorem dX1_run_90 : decode cX1_run 90 = .ok (.iload_n 2, 1) := by decide +kernel
theorem dX1_run_91 : decode cX1_run 91 = .ok (.invokestatic 92, 3) := by decide +kernel
theorem dX1_run_94 : decode cX1_run 94 = .ok (.aload_n 0, 1) := by decide +kernel
theorem dX1_run_95 : decode cX1_run 95 = .ok (.getfield 14, 3) := by decide +kernel
theorem dX1_run_98 : decode cX1_run 98 = .ok (.iload_n 2, 1) := by decide +kernel
theorem dX1_run_99 : decode cX1_run 99 = .ok (.aaload, 1) := by decide +kernel
theorem dX1_run_100 : decode cX1_run 100 = .ok (.aastore, 1) := by decide +kernel
theorem dX1_run_101 : decode cX1_run 101 = .ok (.iinc 2 1, 3) := by decide +kernel
theorem dX1_run_104 : decode cX1_run 104 = .ok (.goto (-28), 3) := by decide +kernel
theorem dX1_run_107 : decode cX1_run 107 = .ok (.aload_n 0, 1) := by decide +kernel
theorem dX1_run_108 : decode cX1_run 108 = .ok (.getfield 25, 3) := by decide +kernel
theorem dX1_run_111 : decode cX1_run 111 = .ok (.ireturn, 1) := by decide +kernel
set_option maxRecDepth 20000 in
theorem ggX1_mend_X1_undoBrokenRun : GoodIn wsX1_mend wsX1_undoBrokenRun := goodIn_r _ [5, 6, 7, 8, 9, 10, 11, 12, 13] rfl (by decide +kernel)
set_option maxRecDepth 20000 in
theorem gX1_mend_X1_undoBrokenRun : GoodIn wsX1_mend (wsV RX1 85 RX1 yX1_undoBrokenRun wsX1_undoBrokenRun) := goodIn_app (goodIn_of _ (by decide +kernel)) ggX1_mend_X1_undoBrokenRun
theorem dX1_mend_0 : decode cX1_mend 0 = .ok (.aload_n 0, 1) := by decide +kernel
theorem dX1_mend_1 : decode cX1_mend 1 = .ok (.invokevirtual 85, 3) := by decide +kernel
theorem dX1_mend_4 : decode cX1_mend 4 = .ok (.ireturn, 1) := by decide +kernel
set_option maxRecDepth 20000 in
theorem ggX1_thin_X1_undoBrokenRun : GoodIn wsX1_thin wsX1_undoBrokenRun := goodIn_r _ [11, 12, 13, 14, 15, 16, 17, 18, 19] rfl (by decide +kernel)
set_option maxRecDepth 20000 in
theorem gX1_thin_X1_undoBrokenRun : GoodIn wsX1_thin (wsV RX1 85 RX1 yX1_undoBrokenRun wsX1_undoBrokenRun) := goodIn_app (goodIn_of _ (by decide +kernel)) ggX1_thin_X1_undoBrokenRun
theorem dX1_thin_0 : decode cX1_thin 0 = .ok (.iload_n 1, 1) := by decide +kernel
theorem dX1_thin_1 : decode cX1_thin 1 = .ok (.iconst 1, 1) := by decide +kernel
theorem dX1_thin_2 : decode cX1_thin 2 = .ok (.if_icmp .lt 9, 3) := by decide +kernel
theorem dX1_thin_5 : decode cX1_thin 5 = .ok (.iload_n 1, 1) := by decide +kernel
theorem dX1_thin_6 : decode cX1_thin 6 = .ok (.bipush 40, 2) := by decide +kernel
theorem dX1_thin_8 : decode cX1_thin 8 = .ok (.if_icmp .le 13, 3) := by decide +kernel
theorem dX1_thin_11 : decode cX1_thin 11 = .ok (.new 57, 3) := by decide +kernel
theorem dX1_thin_14 : decode cX1_thin 14 = .ok (.dup, 1) := by decide +kernel
theorem dX1_thin_15 : decode cX1_thin 15 = .ok (.ldc 96, 2) := by decide +kernel
theorem dX1_thin_17 : decode cX1_thin 17 = .ok (.invokespecial 61, 3) := by decide +kernel
theorem dX1_thin_20 : decode cX1_thin 20 = .ok (.athrow, 1) := by decide +kernel
theorem dX1_thin_21 : decode cX1_thin 21 = .ok (.aload_n 0, 1) := by decide +kernel
theorem dX1_thin_22 : decode cX1_thin 22 = .ok (.getfield 21, 3) := by decide +kernel
theorem dX1_thin_25 : decode cX1_thin 25 = .ok (.iload_n 1, 1) := by decide +kernel
theorem dX1_thin_26 : decode cX1_thin 26 = .ok (.iadd, 1) := by decide +kernel
theorem dX1_thin_27 : decode cX1_thin 27 = .ok (.aload_n 0, 1) := by decide +kernel
theorem dX1_thin_28 : decode cX1_thin 28 = .ok (.getfield 25, 3) := by decide +kernel
theorem dX1_thin_31 : decode cX1_thin 31 = .ok (.if_icmp .le 13, 3) := by decide +kernel
theorem dX1_thin_34 : decode cX1_thin 34 = .ok (.new 50, 3) := by decide +kernel
theorem dX1_thin_37 : decode cX1_thin 37 = .ok (.dup, 1) := by decide +kernel
theorem dX1_thin_38 : decode cX1_thin 38 = .ok (.ldc 98, 2) := by decide +kernel
theorem dX1_thin_40 : decode cX1_thin 40 = .ok (.invokespecial 54, 3) := by decide +kernel
theorem dX1_thin_43 : decode cX1_thin 43 = .ok (.athrow, 1) := by decide +kernel
theorem dX1_thin_44 : decode cX1_thin 44 = .ok (.aload_n 0, 1) := by decide +kernel
theorem dX1_thin_45 : decode cX1_thin 45 = .ok (.invokevirtual 85, 3) := by decide +kernel
theorem dX1_thin_48 : decode cX1_thin 48 = .ok (.pop, 1) := by decide +kernel
theorem dX1_thin_49 : decode cX1_thin 49 = .ok (.aload_n 0, 1) := by decide +kernel
theorem dX1_thin_50 : decode cX1_thin 50 = .ok (.dup, 1) := by decide +kernel
theorem dX1_thin_51 : decode cX1_thin 51 = .ok (.getfield 21, 3) := by decide +kernel
theorem dX1_thin_54 : decode cX1_thin 54 = .ok (.iload_n 1, 1) := by decide +kernel
theorem dX1_thin_55 : decode cX1_thin 55 = .ok (.iadd, 1) := by decide +kernel
theorem dX1_thin_56 : decode cX1_thin 56 = .ok (.putfield 21, 3) := by decide +kernel
theorem dX1_thin_59 : decode cX1_thin 59 = .ok (.aload_n 0, 1) := by decide +kernel
theorem dX1_thin_60 : decode cX1_thin 60 = .ok (.getfield 21, 3) := by decide +kernel
theorem dX1_thin_63 : decode cX1_thin 63 = .ok (.ireturn, 1) := by decide +kernel
set_option maxRecDepth 20000 in
theorem ggX1_restore_X1_checkKept : GoodIn wsX1_restore wsX1_checkKept := goodIn_ca (goodIn_r _ [7, 8, 9, 10, 11, 34, 35, 36, 37, 38, 39] rfl (by decide +kernel)) (goodIn_sub (fun _ h => List.mem_cons_of_mem _ (List.mem_append_right _ h)) (by decide +kernel))
set_option maxRecDepth 20000 in
theorem gX1_restore_X1_checkKept : GoodIn wsX1_restore (wsV RX1 100 RX1 yX1_checkKept wsX1_checkKept) := goodIn_app (goodIn_of _ (by decide +kernel)) ggX1_restore_X1_checkKept
set_option maxRecDepth 20000 in
theorem ggX1_restore_X1_undoBrokenRun : GoodIn wsX1_restore wsX1_undoBrokenRun := goodIn_r _ [15, 16, 17, 34, 35, 36, 37, 38, 39] rfl (by decide +kernel)
set_option maxRecDepth 20000 in
theorem gX1_restore_X1_undoBrokenRun : GoodIn wsX1_restore (wsV RX1 85 RX1 yX1_undoBrokenRun wsX1_undoBrokenRun) := goodIn_app (goodIn_of _ (by decide +kernel)) ggX1_restore_X1_undoBrokenRun
set_option maxRecDepth 20000 in
theorem ggX1_restore_X1_keptIndex : GoodIn wsX1_restore wsX1_keptIndex := goodIn_r _ [20] rfl (by decide +kernel)
set_option maxRecDepth 20000 in
theorem gX1_restore_X1_keptIndex : GoodIn wsX1_restore (va_wsS RX1 92 yX1_keptIndex wsX1_keptIndex) := goodIn_app (goodIn_of _ (by decide +kernel)) ggX1_restore_X1_keptIndex
set_option maxRecDepth 20000 in
theorem ggX1_restore_X0_isLike : GoodIn wsX1_restore wsX0_isLike := goodIn_r _ [25, 26, 27, 28, 29, 6, 30, 31, 32, 33, 40, 41, 42] rfl (by decide +kernel)
set_option maxRecDepth 20000 in
theorem gX1_restore_X0_isLike : GoodIn wsX1_restore (wsV RX1 103 RX0 yX0_isLike wsX0_isLike) := goodIn_app (goodIn_of _ (by decide +kernel)) ggX1_restore_X0_isLike
theorem dX1_restore_0 : decode cX1_restore 0 = .ok (.aload_n 0, 1) := by decide +kernel
theorem dX1_restore_1 : decode cX1_restore 1 = .ok (.iload_n 1, 1) := by decide +kernel
theorem dX1_restore_2 : decode cX1_restore 2 = .ok (.invokevirtual 100, 3) := by decide +kernel
theorem dX1_restore_5 : decode cX1_restore 5 = .ok (.aload_n 0, 1) := by decide +kernel
theorem dX1_restore_6 : decode cX1_restore 6 = .ok (.invokevirtual 85, 3) := by decide +kernel
theorem dX1_restore_9 : decode cX1_restore 9 = .ok (.pop, 1) := by decide +kernel
theorem dX1_restore_10 : decode cX1_restore 10 = .ok (.iconst 0, 1) := by decide +kernel
theorem dX1_restore_11 : decode cX1_restore 11 = .ok (.istore_n 2, 1) := by decide +kernel
theorem dX1_restore_12 : decode cX1_restore 12 = .ok (.iconst 0, 1) := by decide +kernel
theorem dX1_restore_13 : decode cX1_restore 13 = .ok (.istore_n 3, 1) := by decide +kernel
theorem dX1_restore_14 : decode cX1_restore 14 = .ok (.iload_n 3, 1) := by decide +kernel
theorem dX1_restore_15 : decode cX1_restore 15 = .ok (.bipush 6, 2) := by decide +kernel
theorem dX1_restore_17 : decode cX1_restore 17 = .ok (.if_icmp .ge 46, 3) := by decide +kernel
theorem dX1_restore_20 : decode cX1_restore 20 = .ok (.aload_n 0, 1) := by decide +kernel
theorem dX1_restore_21 : decode cX1_restore 21 = .ok (.getfield 18, 3) := by decide +kernel
theorem dX1_restore_24 : decode cX1_restore 24 = .ok (.iload_n 1, 1) := by decide +kernel
theorem dX1_restore_25 : decode cX1_restore 25 = .ok (.iload_n 3, 1) := by decide +kernel
theorem dX1_restore_26 : decode cX1_restore 26 = .ok (.invokestatic 92, 3) := by decide +kernel
theorem dX1_restore_29 : decode cX1_restore 29 = .ok (.aaload, 1) := by decide +kernel
theorem dX1_restore_30 : decode cX1_restore 30 = .ok (.astore 4, 2) := by decide +kernel
theorem dX1_restore_32 : decode cX1_restore 32 = .ok (.aload_n 0, 1) := by decide +kernel
theorem dX1_restore_33 : decode cX1_restore 33 = .ok (.getfield 14, 3) := by decide +kernel
theorem dX1_restore_36 : decode cX1_restore 36 = .ok (.iload_n 3, 1) := by decide +kernel
theorem dX1_restore_37 : decode cX1_restore 37 = .ok (.aaload, 1) := by decide +kernel
theorem dX1_restore_38 : decode cX1_restore 38 = .ok (.aload 4, 2) := by decide +kernel
theorem dX1_restore_40 : decode cX1_restore 40 = .ok (.invokevirtual 103, 3) := by decide +kernel
theorem dX1_restore_43 : decode cX1_restore 43 = .ok (.ifCond .ne 6, 3) := by decide +kernel
theorem dX1_restore_46 : decode cX1_restore 46 = .ok (.iinc 2 1, 3) := by decide +kernel
theorem dX1_restore_49 : decode cX1_restore 49 = .ok (.aload_n 0, 1) := by decide +kernel
theorem dX1_restore_50 : decode cX1_restore 50 = .ok (.getfield 14, 3) := by decide +kernel
theorem dX1_restore_53 : decode cX1_restore 53 = .ok (.iload_n 3, 1) := by decide +kernel
theorem dX1_restore_54 : decode cX1_restore 54 = .ok (.aload 4, 2) := by decide +kernel
theorem dX1_restore_56 : decode cX1_restore 56 = .ok (.aastore, 1) := by decide +kernel
theorem dX1_restore_57 : decode cX1_restore 57 = .ok (.iinc 3 1, 3) := by decide +kernel
theorem dX1_restore_60 : decode cX1_restore 60 = .ok (.goto (-46), 3) := by decide +kernel
theorem dX1_restore_63 : decode cX1_restore 63 = .ok (.iload_n 2, 1) := by decide +kernel
theorem dX1_restore_64 : decode cX1_restore 64 = .ok (.ireturn, 1) := by decide +kernel
theorem dX1_last_0 : decode cX1_last 0 = .ok (.aload_n 0, 1) := by decide +kernel
theorem dX1_last_1 : decode cX1_last 1 = .ok (.getfield 25, 3) := by decide +kernel
theorem dX1_last_4 : decode cX1_last 4 = .ok (.ireturn, 1) := by decide +kernel
theorem dX1_oldest_0 : decode cX1_oldest 0 = .ok (.aload_n 0, 1) := by decide +kernel
theorem dX1_oldest_1 : decode cX1_oldest 1 = .ok (.getfield 21, 3) := by decide +kernel
theorem dX1_oldest_4 : decode cX1_oldest 4 = .ok (.ireturn, 1) := by decide +kernel
theorem dX1_isBroken_0 : decode cX1_isBroken 0 = .ok (.aload_n 0, 1) := by decide +kernel
theorem dX1_isBroken_1 : decode cX1_isBroken 1 = .ok (.getfield 28, 3) := by decide +kernel
theorem dX1_isBroken_4 : decode cX1_isBroken 4 = .ok (.ireturn, 1) := by decide +kernel
set_option maxRecDepth 20000 in
theorem ggX1_needs_X1_stepsNeeded : GoodIn wsX1_needs wsX1_stepsNeeded := goodIn_r _ [5, 6, 7, 8, 9, 10, 4, 11, 12, 13, 14, 15, 16, 17, 18, 19, 20, 21, 22, 23, 24, 25, 26, 27, 28, 29, 30, 31, 32, 33] rfl (by decide +kernel)
set_option maxRecDepth 20000 in
theorem gX1_needs_X1_stepsNeeded : GoodIn wsX1_needs (wsV RX1 89 RX1 yX1_stepsNeeded wsX1_stepsNeeded) := goodIn_app (goodIn_of _ (by decide +kernel)) ggX1_needs_X1_stepsNeeded
theorem dX1_needs_0 : decode cX1_needs 0 = .ok (.aload_n 0, 1) := by decide +kernel
theorem dX1_needs_1 : decode cX1_needs 1 = .ok (.invokevirtual 89, 3) := by decide +kernel
theorem dX1_needs_4 : decode cX1_needs 4 = .ok (.ireturn, 1) := by decide +kernel
set_option maxRecDepth 20000 in
theorem ggX1_kindAt_X1_thingOn : GoodIn wsX1_kindAt wsX1_thingOn := goodIn_ca (goodIn_r _ [6, 7, 8, 9, 10, 11, 5, 12, 13, 14, 15, 16, 17, 18, 19, 20, 21, 22, 26, 27, 28, 29, 30, 31] rfl (by decide +kernel)) (goodIn_sub (fun _ h => List.mem_cons_of_mem _ (List.mem_append_right _ h)) (by decide +kernel))
set_option maxRecDepth 20000 in
theorem gX1_kindAt_X1_thingOn : GoodIn wsX1_kindAt (wsV RX1 107 RX1 yX1_thingOn wsX1_thingOn) := goodIn_app (goodIn_of _ (by decide +kernel)) ggX1_kindAt_X1_thingOn
theorem dX1_kindAt_0 : decode cX1_kindAt 0 = .ok (.aload_n 0, 1) := by decide +kernel
theorem dX1_kindAt_1 : decode cX1_kindAt 1 = .ok (.iload_n 1, 1) := by decide +kernel
theorem dX1_kindAt_2 : decode cX1_kindAt 2 = .ok (.iload_n 2, 1) := by decide +kernel
theorem dX1_kindAt_3 : decode cX1_kindAt 3 = .ok (.invokevirtual 107, 3) := by decide +kernel
theorem dX1_kindAt_6 : decode cX1_kindAt 6 = .ok (.getfield 47, 3) := by decide +kernel
theorem dX1_kindAt_9 : decode cX1_kindAt 9 = .ok (.ireturn, 1) := by decide +kernel
set_option maxRecDepth 20000 in
theorem ggX1_numberAt_X1_thingOn : GoodIn wsX1_numberAt wsX1_thingOn := goodIn_ca (goodIn_r _ [8, 9, 10, 11, 12, 13, 7, 14, 1, 2, 15, 16, 17, 18, 19, 20, 21, 22, 26, 27, 28, 29, 30, 31] rfl (by decide +kernel)) (goodIn_sub (fun _ h => List.mem_cons_of_mem _ (List.mem_append_right _ h)) (by decide +kernel))
set_option maxRecDepth 20000 in
theorem gX1_numberAt_X1_thingOn : GoodIn wsX1_numberAt (wsV RX1 107 RX1 yX1_thingOn wsX1_thingOn) := goodIn_app (goodIn_of _ (by decide +kernel)) ggX1_numberAt_X1_thingOn
theorem dX1_numberAt_0 : decode cX1_numberAt 0 = .ok (.aload_n 0, 1) := by decide +kernel
theorem dX1_numberAt_1 : decode cX1_numberAt 1 = .ok (.iload_n 1, 1) := by decide +kernel
theorem dX1_numberAt_2 : decode cX1_numberAt 2 = .ok (.iload_n 2, 1) := by decide +kernel
theorem dX1_numberAt_3 : decode cX1_numberAt 3 = .ok (.invokevirtual 107, 3) := by decide +kernel
theorem dX1_numberAt_6 : decode cX1_numberAt 6 = .ok (.astore 4, 2) := by decide +kernel
theorem dX1_numberAt_8 : decode cX1_numberAt 8 = .ok (.iload_n 3, 1) := by decide +kernel
theorem dX1_numberAt_9 : decode cX1_numberAt 9 = .ok (.ifCond .lt 9, 3) := by decide +kernel
theorem dX1_numberAt_12 : decode cX1_numberAt 12 = .ok (.iload_n 3, 1) := by decide +kernel
theorem dX1_numberAt_13 : decode cX1_numberAt 13 = .ok (.bipush 12, 2) := by decide +kernel
theorem dX1_numberAt_15 : decode cX1_numberAt 15 = .ok (.if_icmp .lt 13, 3) := by decide +kernel
theorem dX1_numberAt_18 : decode cX1_numberAt 18 = .ok (.new 111, 3) := by decide +kernel
theorem dX1_numberAt_21 : decode cX1_numberAt 21 = .ok (.dup, 1) := by decide +kernel
theorem dX1_numberAt_22 : decode cX1_numberAt 22 = .ok (.ldc 71, 2) := by decide +kernel
theorem dX1_numberAt_24 : decode cX1_numberAt 24 = .ok (.invokespecial 113, 3) := by decide +kernel
theorem dX1_numberAt_27 : decode cX1_numberAt 27 = .ok (.athrow, 1) := by decide +kernel
theorem dX1_numberAt_28 : decode cX1_numberAt 28 = .ok (.iload_n 3, 1) := by decide +kernel
theorem dX1_numberAt_29 : decode cX1_numberAt 29 = .ok (.aload 4, 2) := by decide +kernel
theorem dX1_numberAt_31 : decode cX1_numberAt 31 = .ok (.getfield 43, 3) := by decide +kernel
theorem dX1_numberAt_34 : decode cX1_numberAt 34 = .ok (.arraylength, 1) := by decide +kernel
theorem dX1_numberAt_35 : decode cX1_numberAt 35 = .ok (.if_icmp .ge 13, 3) := by decide +kernel
theorem dX1_numberAt_38 : decode cX1_numberAt 38 = .ok (.aload 4, 2) := by decide +kernel
theorem dX1_numberAt_40 : decode cX1_numberAt 40 = .ok (.getfield 43, 3) := by decide +kernel
