/-! Names: classes, fields, methods; the words of the tables. -/
abbrev R_E : String := "ExtendiblePages"
def F_E : u_T := fun k => match k with
  | 0 => ("ExtendiblePages", "pagesOfStore", "I", true)
  | 1 => ("ExtendiblePages", "kept", "LExtendiblePages$Kept;", true)
  | 2 => ("ExtendiblePages", "records", "LExtendiblePages$Records;", true)
  | _ => ("ExtendiblePages", "batch", "LExtendiblePages$Batch;", true)
def t_E : Nat → FieldType := fun k => match k with
  | 0 => .int
  | 1 => .object "ExtendiblePages$Kept"
  | 2 => .object "ExtendiblePages$Records"
  | _ => .object "ExtendiblePages$Batch"
theorem n_E : ∀ a, a < 4 → ∀ b, b < 4 → a ≠ b → (F_E a).2.1 ≠ (F_E b).2.1 := by decide +kernel
theorem t_E_ok : ∀ k, k < 4 → parseFieldDescriptor (F_E k).2.2.1 = some (t_E k) := by decide +kernel
abbrev R_K : String := "ExtendiblePages$Kept"
def F_K : u_T := fun k => match k with
  | 0 => ("ExtendiblePages$Kept", "keys", "[I", true)
  | 1 => ("ExtendiblePages$Kept", "values", "[J", true)
  | 2 => ("ExtendiblePages$Kept", "classes", "LExtendiblePages$Classes;", true)
  | _ => ("ExtendiblePages$Kept", "count", "I", false)
def t_K : Nat → FieldType := fun k => match k with
  | 0 => .array .int
  | 1 => .array .long
  | 2 => .object "ExtendiblePages$Classes"
  | _ => .int
theorem n_K : ∀ a, a < 4 → ∀ b, b < 4 → a ≠ b → (F_K a).2.1 ≠ (F_K b).2.1 := by decide +kernel
theorem t_K_ok : ∀ k, k < 4 → parseFieldDescriptor (F_K k).2.2.1 = some (t_K k) := by decide +kernel
abbrev R_C : String := "ExtendiblePages$Classes"
def F_C : u_T := fun k => match k with
  | 0 => ("ExtendiblePages$Classes", "keysIn", "[I", true)
  | _ => ("ExtendiblePages$Classes", "hashesIn", "[I", true)
def t_C : Nat → FieldType := fun k => match k with
  | 0 => .array .int
  | _ => .array .int
theorem n_C : ∀ a, a < 2 → ∀ b, b < 2 → a ≠ b → (F_C a).2.1 ≠ (F_C b).2.1 := by decide +kernel
theorem t_C_ok : ∀ k, k < 2 → parseFieldDescriptor (F_C k).2.2.1 = some (t_C k) := by decide +kernel
abbrev R_R : String := "ExtendiblePages$Records"
def F_R : u_T := fun k => match k with
  | 0 => ("ExtendiblePages$Records", "keys", "[I", true)
  | 1 => ("ExtendiblePages$Records", "values", "[J", true)
  | 2 => ("ExtendiblePages$Records", "formers", "[I", true)
  | 3 => ("ExtendiblePages$Records", "starts", "[I", true)
  | _ => ("ExtendiblePages$Records", "count", "I", false)
def t_R : Nat → FieldType := fun k => match k with
  | 0 => .array .int
  | 1 => .array .long
  | 2 => .array .int
  | 3 => .array .int
  | _ => .int
theorem n_R : ∀ a, a < 5 → ∀ b, b < 5 → a ≠ b → (F_R a).2.1 ≠ (F_R b).2.1 := by decide +kernel
theorem t_R_ok : ∀ k, k < 5 → parseFieldDescriptor (F_R k).2.2.1 = some (t_R k) := by decide +kernel
abbrev R_B : String := "ExtendiblePages$Batch"
def F_B : u_T := fun k => match k with
  | 0 => ("ExtendiblePages$Batch", "isPut", "[Z", true)
  | 1 => ("ExtendiblePages$Batch", "keys", "[I", true)
  | 2 => ("ExtendiblePages$Batch", "values", "[J", true)
  | 3 => ("ExtendiblePages$Batch", "isOpen", "Z", false)
  | _ => ("ExtendiblePages$Batch", "count", "I", false)
def t_B : Nat → FieldType := fun k => match k with
  | 0 => .array .boolean
  | 1 => .array .int
  | 2 => .array .long
  | 3 => .boolean
  | _ => .int
theorem n_B : ∀ a, a < 5 → ∀ b, b < 5 → a ≠ b → (F_B a).2.1 ≠ (F_B b).2.1 := by decide +kernel
theorem t_B_ok : ∀ k, k < 5 → parseFieldDescriptor (F_B k).2.2.1 = some (t_B k) := by decide +kernel
abbrev R_M : String := "ExtendiblePagesModel"
def F_M : u_T := fun k => match k with
  | 0 => ("ExtendiblePagesModel", "limit", "I", true)
  | 1 => ("ExtendiblePagesModel", "baseSize", "I", false)
  | 2 => ("ExtendiblePagesModel", "baseKey", "[I", true)
  | 3 => ("ExtendiblePagesModel", "baseValue", "[J", true)
  | 4 => ("ExtendiblePagesModel", "records", "I", false)
  | 5 => ("ExtendiblePagesModel", "what", "[I", true)
  | 6 => ("ExtendiblePagesModel", "recordKey", "[I", true)
  | 7 => ("ExtendiblePagesModel", "recordValue", "[J", true)
  | 8 => ("ExtendiblePagesModel", "begins", "[I", true)
  | 9 => ("ExtendiblePagesModel", "batch", "Z", false)
  | 10 => ("ExtendiblePagesModel", "stepCount", "I", false)
  | 11 => ("ExtendiblePagesModel", "stepWhat", "[I", true)
  | 12 => ("ExtendiblePagesModel", "stepKey", "[I", true)
  | 13 => ("ExtendiblePagesModel", "stepValue", "[J", true)
  | 14 => ("ExtendiblePagesModel", "kept", "I", false)
  | 15 => ("ExtendiblePagesModel", "key", "[I", true)
  | _ => ("ExtendiblePagesModel", "value", "[J", true)
def t_M : Nat → FieldType := fun k => match k with
  | 0 => .int
  | 1 => .int
  | 2 => .array .int
  | 3 => .array .long
  | 4 => .int
  | 5 => .array .int
  | 6 => .array .int
  | 7 => .array .long
  | 8 => .array .int
  | 9 => .boolean
  | 10 => .int
  | 11 => .array .int
  | 12 => .array .int
  | 13 => .array .long
  | 14 => .int
  | 15 => .array .int
  | _ => .array .long
theorem n_M : ∀ a, a < 17 → ∀ b, b < 17 → a ≠ b → (F_M a).2.1 ≠ (F_M b).2.1 := by decide +kernel
theorem t_M_ok : ∀ k, k < 17 → parseFieldDescriptor (F_M k).2.2.1 = some (t_M k) := by decide +kernel
abbrev R_L : String := "ExtendiblePagesLaw"
abbrev zz_cl : List vw_C := [(R_E, F_E, 4), (R_K, F_K, 4), (R_C, F_C, 2), (R_R, F_R, 5), (R_B, F_B, 5), (R_M, F_M, 17)]
abbrev b_E_init : ByteArray := prog_1_method_1_code
def y_E_init : MethodName := ⟨R_E, "<init>", "(I)V"⟩
abbrev b_K_init : ByteArray := prog_4_method_1_code
def y_K_init : MethodName := ⟨R_K, "<init>", "()V"⟩
abbrev b_C_init : ByteArray := prog_3_method_1_code
def y_C_init : MethodName := ⟨R_C, "<init>", "()V"⟩
abbrev b_R_init : ByteArray := prog_5_method_1_code
def y_R_init : MethodName := ⟨R_R, "<init>", "()V"⟩
abbrev b_B_init : ByteArray := prog_2_method_1_code
def y_B_init : MethodName := ⟨R_B, "<init>", "()V"⟩
abbrev b_E_put : ByteArray := prog_1_method_2_code
def y_E_put : MethodName := ⟨R_E, "put", "(IJ)I"⟩
abbrev b_B_take : ByteArray := prog_2_method_4_code
def y_B_take : MethodName := ⟨R_B, "take", "(ZIJ)I"⟩
abbrev b_K_holds : ByteArray := prog_4_method_2_code
def y_K_holds : MethodName := ⟨R_K, "holds", "(I)Z"⟩
abbrev b_K_keysBelow : ByteArray := prog_4_method_11_code
def y_K_keysBelow : MethodName := ⟨R_K, "keysBelow", "(I)I"⟩
abbrev b_K_isAt : ByteArray := prog_4_method_10_code
def y_K_isAt : MethodName := ⟨R_K, "isAt", "(II)Z"⟩
abbrev b_E_recordAndSet : ByteArray := prog_1_method_21_code
def y_E_recordAndSet : MethodName := ⟨R_E, "recordAndSet", "(IJ)V"⟩
abbrev b_K_valueOf : ByteArray := prog_4_method_3_code
def y_K_valueOf : MethodName := ⟨R_K, "valueOf", "(I)J"⟩
abbrev b_R_write : ByteArray := prog_5_method_2_code
def y_R_write : MethodName := ⟨R_R, "write", "(IZJ)V"⟩
abbrev b_R_append : ByteArray := prog_5_method_7_code
def y_R_append : MethodName := ⟨R_R, "append", "(IJI)V"⟩
abbrev b_K_set : ByteArray := prog_4_method_4_code
def y_K_set : MethodName := ⟨R_K, "set", "(IJ)V"⟩
abbrev b_K_insert : ByteArray := prog_4_method_12_code
def y_K_insert : MethodName := ⟨R_K, "insert", "(IIJ)V"⟩
abbrev b_E_hash : ByteArray := prog_1_method_26_code
def y_E_hash : MethodName := ⟨R_E, "hash", "(I)I"⟩
abbrev b_C_countKey : ByteArray := prog_3_method_2_code
def y_C_countKey : MethodName := ⟨R_C, "countKey", "(II)V"⟩
abbrev b_C_cell : ByteArray := prog_3_method_10_code
def y_C_cell : MethodName := ⟨R_C, "cell", "(II)I"⟩
abbrev b_E_isOverfull : ByteArray := prog_1_method_24_code
def y_E_isOverfull : MethodName := ⟨R_E, "isOverfull", "()Z"⟩
abbrev b_K_pagesInUse : ByteArray := prog_4_method_6_code
def y_K_pagesInUse : MethodName := ⟨R_K, "pagesInUse", "()I"⟩
abbrev b_C_deepest : ByteArray := prog_3_method_4_code
def y_C_deepest : MethodName := ⟨R_C, "deepest", "()I"⟩
abbrev b_C_depthOf : ByteArray := prog_3_method_3_code
def y_C_depthOf : MethodName := ⟨R_C, "depthOf", "(I)I"⟩
abbrev b_C_isGood : ByteArray := prog_3_method_9_code
def y_C_isGood : MethodName := ⟨R_C, "isGood", "(I)Z"⟩
abbrev b_E_directoryPages : ByteArray := prog_1_method_27_code
def y_E_directoryPages : MethodName := ⟨R_E, "directoryPages", "(I)I"⟩
abbrev b_C_isPlace : ByteArray := prog_3_method_6_code
def y_C_isPlace : MethodName := ⟨R_C, "isPlace", "(I)Z"⟩
abbrev b_C_maskOf : ByteArray := prog_3_method_5_code
def y_C_maskOf : MethodName := ⟨R_C, "maskOf", "(I)I"⟩
abbrev b_C_keysOfBucket : ByteArray := prog_3_method_8_code
def y_C_keysOfBucket : MethodName := ⟨R_C, "keysOfBucket", "(I)I"⟩
abbrev b_E_bucketPages : ByteArray := prog_1_method_28_code
def y_E_bucketPages : MethodName := ⟨R_E, "bucketPages", "(I)I"⟩
abbrev b_E_valuePages : ByteArray := prog_1_method_29_code
def y_E_valuePages : MethodName := ⟨R_E, "valuePages", "(J)I"⟩
abbrev b_E_bytesOf : ByteArray := prog_1_method_30_code
def y_E_bytesOf : MethodName := ⟨R_E, "bytesOf", "(J)I"⟩
abbrev b_E_takeBackFrom : ByteArray := prog_1_method_25_code
def y_E_takeBackFrom : MethodName := ⟨R_E, "takeBackFrom", "(I)V"⟩
abbrev b_K_remove : ByteArray := prog_4_method_5_code
def y_K_remove : MethodName := ⟨R_K, "remove", "(I)V"⟩
abbrev b_R_forgetFrom : ByteArray := prog_5_method_6_code
def y_R_forgetFrom : MethodName := ⟨R_R, "forgetFrom", "(I)V"⟩
abbrev b_R_settle : ByteArray := prog_5_method_4_code
def y_R_settle : MethodName := ⟨R_R, "settle", "(I)V"⟩
abbrev b_E_delete : ByteArray := prog_1_method_3_code
def y_E_delete : MethodName := ⟨R_E, "delete", "(I)I"⟩
abbrev b_E_recordAndRemove : ByteArray := prog_1_method_22_code
def y_E_recordAndRemove : MethodName := ⟨R_E, "recordAndRemove", "(I)V"⟩
abbrev b_E_has : ByteArray := prog_1_method_4_code
def y_E_has : MethodName := ⟨R_E, "has", "(I)Z"⟩
abbrev b_E_get : ByteArray := prog_1_method_5_code
def y_E_get : MethodName := ⟨R_E, "get", "(I)J"⟩
abbrev b_E_reads : ByteArray := prog_1_method_6_code
def y_E_reads : MethodName := ⟨R_E, "reads", "(I)I"⟩
abbrev b_K_bucketPagesUpTo : ByteArray := prog_4_method_7_code
def y_K_bucketPagesUpTo : MethodName := ⟨R_K, "bucketPagesUpTo", "(I)I"⟩
abbrev b_E_open : ByteArray := prog_1_method_7_code
def y_E_open : MethodName := ⟨R_E, "open", "()Z"⟩
abbrev b_B_begin : ByteArray := prog_2_method_2_code
def y_B_begin : MethodName := ⟨R_B, "begin", "()V"⟩
abbrev b_E_commit : ByteArray := prog_1_method_8_code
def y_E_commit : MethodName := ⟨R_E, "commit", "()I"⟩
abbrev b_E_doStepsOfBatch : ByteArray := prog_1_method_23_code
def y_E_doStepsOfBatch : MethodName := ⟨R_E, "doStepsOfBatch", "()V"⟩
abbrev b_B_end : ByteArray := prog_2_method_3_code
def y_B_end : MethodName := ⟨R_B, "end", "()V"⟩
abbrev b_R_closeBatch : ByteArray := prog_5_method_3_code
def y_R_closeBatch : MethodName := ⟨R_R, "closeBatch", "(I)V"⟩
abbrev b_E_abandon : ByteArray := prog_1_method_9_code
def y_E_abandon : MethodName := ⟨R_E, "abandon", "()I"⟩
abbrev b_E_flush : ByteArray := prog_1_method_10_code
def y_E_flush : MethodName := ⟨R_E, "flush", "()I"⟩
abbrev b_E_crash : ByteArray := prog_1_method_11_code
def y_E_crash : MethodName := ⟨R_E, "crash", "(I)I"⟩
abbrev b_R_survivorsAmongFirst : ByteArray := prog_5_method_5_code
def y_R_survivorsAmongFirst : MethodName := ⟨R_R, "survivorsAmongFirst", "(I)I"⟩
abbrev b_E_unflushed : ByteArray := prog_1_method_12_code
def y_E_unflushed : MethodName := ⟨R_E, "unflushed", "()I"⟩
abbrev b_E_steps : ByteArray := prog_1_method_13_code
def y_E_steps : MethodName := ⟨R_E, "steps", "()I"⟩
abbrev b_E_size : ByteArray := prog_1_method_14_code
def y_E_size : MethodName := ⟨R_E, "size", "()I"⟩
abbrev b_E_pages : ByteArray := prog_1_method_15_code
def y_E_pages : MethodName := ⟨R_E, "pages", "()I"⟩
abbrev b_E_globalDepth : ByteArray := prog_1_method_16_code
def y_E_globalDepth : MethodName := ⟨R_E, "globalDepth", "()I"⟩
abbrev b_E_localDepth : ByteArray := prog_1_method_17_code
def y_E_localDepth : MethodName := ⟨R_E, "localDepth", "(I)I"⟩
abbrev b_E_buckets : ByteArray := prog_1_method_18_code
def y_E_buckets : MethodName := ⟨R_E, "buckets", "()I"⟩
abbrev b_C_countPlaces : ByteArray := prog_3_method_7_code
def y_C_countPlaces : MethodName := ⟨R_C, "countPlaces", "()I"⟩
abbrev b_E_bucketAt : ByteArray := prog_1_method_19_code
def y_E_bucketAt : MethodName := ⟨R_E, "bucketAt", "(I)I"⟩
abbrev b_E_keyAt : ByteArray := prog_1_method_20_code
def y_E_keyAt : MethodName := ⟨R_E, "keyAt", "(I)I"⟩
abbrev b_K_keyInPlaceOrder : ByteArray := prog_4_method_8_code
def y_K_keyInPlaceOrder : MethodName := ⟨R_K, "keyInPlaceOrder", "(I)I"⟩
abbrev b_K_keyInBucket : ByteArray := prog_4_method_9_code
def y_K_keyInBucket : MethodName := ⟨R_K, "keyInBucket", "(II)I"⟩
abbrev b_L_cell : ByteArray := method_2_code
def y_L_cell : MethodName := ⟨R_L, "cell", "([II)I"⟩
abbrev b_M_init : ByteArray := prog_7_method_1_code
def y_M_init : MethodName := ⟨R_M, "<init>", "(I)V"⟩
abbrev b_M_put : ByteArray := prog_7_method_20_code
def y_M_put : MethodName := ⟨R_M, "put", "(IJ)I"⟩
abbrev b_M_step : ByteArray := prog_7_method_19_code
def y_M_step : MethodName := ⟨R_M, "step", "(IIJ)I"⟩
abbrev b_M_has : ByteArray := prog_7_method_27_code
def y_M_has : MethodName := ⟨R_M, "has", "(I)Z"⟩
abbrev b_M_now : ByteArray := prog_7_method_6_code
def y_M_now : MethodName := ⟨R_M, "now", "()V"⟩
abbrev b_M_replay : ByteArray := prog_7_method_5_code
def y_M_replay : MethodName := ⟨R_M, "replay", "(I)V"⟩
abbrev b_M_set : ByteArray := prog_7_method_3_code
def y_M_set : MethodName := ⟨R_M, "set", "(IJ)V"⟩
abbrev b_M_find : ByteArray := prog_7_method_2_code
def y_M_find : MethodName := ⟨R_M, "find", "(I)I"⟩
abbrev b_M_remove : ByteArray := prog_7_method_4_code
def y_M_remove : MethodName := ⟨R_M, "remove", "(I)V"⟩
abbrev b_M_write : ByteArray := prog_7_method_8_code
def y_M_write : MethodName := ⟨R_M, "write", "(IIJI)V"⟩
abbrev b_M_stays : ByteArray := prog_7_method_9_code
def y_M_stays : MethodName := ⟨R_M, "stays", "(I)Z"⟩
abbrev b_M_inUse : ByteArray := prog_7_method_18_code
def y_M_inUse : MethodName := ⟨R_M, "inUse", "()I"⟩
abbrev b_M_greatest : ByteArray := prog_7_method_17_code
def y_M_greatest : MethodName := ⟨R_M, "greatest", "()I"⟩
abbrev b_M_depthOf : ByteArray := prog_7_method_14_code
def y_M_depthOf : MethodName := ⟨R_M, "depthOf", "(I)I"⟩
abbrev b_M_good : ByteArray := prog_7_method_13_code
def y_M_good : MethodName := ⟨R_M, "good", "(II)Z"⟩
abbrev b_M_hash : ByteArray := prog_7_method_10_code
def y_M_hash : MethodName := ⟨R_M, "hash", "(I)I"⟩
abbrev b_M_inClass : ByteArray := prog_7_method_11_code
def y_M_inClass : MethodName := ⟨R_M, "inClass", "(III)Z"⟩
abbrev b_M_count : ByteArray := prog_7_method_12_code
def y_M_count : MethodName := ⟨R_M, "count", "(II)I"⟩
abbrev b_M_valuePages : ByteArray := prog_7_method_16_code
def y_M_valuePages : MethodName := ⟨R_M, "valuePages", "(J)I"⟩
abbrev b_M_bytes : ByteArray := prog_7_method_15_code
def y_M_bytes : MethodName := ⟨R_M, "bytes", "(J)I"⟩
abbrev b_M_settle : ByteArray := prog_7_method_7_code
def y_M_settle : MethodName := ⟨R_M, "settle", "(I)V"⟩
abbrev b_M_delete : ByteArray := prog_7_method_21_code
def y_M_delete : MethodName := ⟨R_M, "delete", "(I)I"⟩
abbrev b_M_open : ByteArray := prog_7_method_22_code
def y_M_open : MethodName := ⟨R_M, "open", "()Z"⟩
abbrev b_M_commit : ByteArray := prog_7_method_23_code
def y_M_commit : MethodName := ⟨R_M, "commit", "()I"⟩
abbrev b_M_abandon : ByteArray := prog_7_method_24_code
def y_M_abandon : MethodName := ⟨R_M, "abandon", "()I"⟩
abbrev b_M_flush : ByteArray := prog_7_method_25_code
def y_M_flush : MethodName := ⟨R_M, "flush", "()I"⟩
abbrev b_M_crash : ByteArray := prog_7_method_26_code
def y_M_crash : MethodName := ⟨R_M, "crash", "(I)I"⟩
abbrev b_M_get : ByteArray := prog_7_method_28_code
def y_M_get : MethodName := ⟨R_M, "get", "(I)J"⟩
abbrev b_M_reads : ByteArray := prog_7_method_30_code
def y_M_reads : MethodName := ⟨R_M, "reads", "(I)I"⟩
abbrev b_M_bucketOf : ByteArray := prog_7_method_29_code
def y_M_bucketOf : MethodName := ⟨R_M, "bucketOf", "(I)I"⟩
abbrev b_M_unflushed : ByteArray := prog_7_method_31_code
def y_M_unflushed : MethodName := ⟨R_M, "unflushed", "()I"⟩
abbrev b_M_steps : ByteArray := prog_7_method_32_code
def y_M_steps : MethodName := ⟨R_M, "steps", "()I"⟩
abbrev b_M_size : ByteArray := prog_7_method_33_code
def y_M_size : MethodName := ⟨R_M, "size", "()I"⟩
abbrev b_M_pages : ByteArray := prog_7_method_34_code
def y_M_pages : MethodName := ⟨R_M, "pages", "()I"⟩
abbrev b_M_globalDepth : ByteArray := prog_7_method_35_code
def y_M_globalDepth : MethodName := ⟨R_M, "globalDepth", "()I"⟩
abbrev b_M_localDepth : ByteArray := prog_7_method_36_code
def y_M_localDepth : MethodName := ⟨R_M, "localDepth", "(I)I"⟩
abbrev b_M_buckets : ByteArray := prog_7_method_37_code
def y_M_buckets : MethodName := ⟨R_M, "buckets", "()I"⟩
abbrev b_M_bucketAt : ByteArray := prog_7_method_38_code
def y_M_bucketAt : MethodName := ⟨R_M, "bucketAt", "(I)I"⟩
abbrev b_M_keyAt : ByteArray := prog_7_method_39_code
def y_M_keyAt : MethodName := ⟨R_M, "keyAt", "(I)I"⟩
def zt : List Cond := lw_tbl.filter goodWord
def zb_n : Cond → Bool
  | .fieldLinkNest .. => true
  | .methodLinkNest .. => true
  | _ => false
def zn_L : List Cond := tables_1.filter zb_n
abbrev zw_E_init : List Cond := Cond.code y_E_init b_E_init 2 none :: zt
abbrev zw_K_init : List Cond := Cond.code y_K_init b_K_init 1 none :: zt
abbrev zw_C_init : List Cond := Cond.code y_C_init b_C_init 1 none :: zt
abbrev zw_R_init : List Cond := Cond.code y_R_init b_R_init 1 none :: zt
abbrev zw_B_init : List Cond := Cond.code y_B_init b_B_init 1 none :: zt
abbrev zw_E_put : List Cond := Cond.code y_E_put b_E_put 6 (some .int) :: zt
abbrev zw_B_take : List Cond := Cond.code y_B_take b_B_take 5 (some .int) :: zt
abbrev zw_K_holds : List Cond := Cond.code y_K_holds b_K_holds 2 (some .boolean) :: zt
abbrev zw_K_keysBelow : List Cond := Cond.code y_K_keysBelow b_K_keysBelow 3 (some .int) :: zt
abbrev zw_K_isAt : List Cond := Cond.code y_K_isAt b_K_isAt 3 (some .boolean) :: zt
abbrev zw_E_recordAndSet : List Cond := Cond.code y_E_recordAndSet b_E_recordAndSet 4 none :: zt
abbrev zw_K_valueOf : List Cond := Cond.code y_K_valueOf b_K_valueOf 3 (some .long) :: zt
abbrev zw_R_write : List Cond := Cond.code y_R_write b_R_write 5 none :: zt
abbrev zw_R_append : List Cond := Cond.code y_R_append b_R_append 5 none :: zt
abbrev zw_K_set : List Cond := Cond.code y_K_set b_K_set 5 none :: zt
abbrev zw_K_insert : List Cond := Cond.code y_K_insert b_K_insert 5 none :: zt
abbrev zw_E_hash : List Cond := Cond.code y_E_hash b_E_hash 1 (some .int) :: zt
abbrev zw_C_countKey : List Cond := Cond.code y_C_countKey b_C_countKey 7 none :: zt
abbrev zw_C_cell : List Cond := Cond.code y_C_cell b_C_cell 3 (some .int) :: zt
abbrev zw_E_isOverfull : List Cond := Cond.code y_E_isOverfull b_E_isOverfull 1 (some .boolean) :: zt
abbrev zw_K_pagesInUse : List Cond := Cond.code y_K_pagesInUse b_K_pagesInUse 3 (some .int) :: zt
abbrev zw_C_deepest : List Cond := Cond.code y_C_deepest b_C_deepest 3 (some .int) :: zt
abbrev zw_C_depthOf : List Cond := Cond.code y_C_depthOf b_C_depthOf 3 (some .int) :: zt
abbrev zw_C_isGood : List Cond := Cond.code y_C_isGood b_C_isGood 2 (some .boolean) :: zt
abbrev zw_E_directoryPages : List Cond := Cond.code y_E_directoryPages b_E_directoryPages 1 (some .int) :: zt
abbrev zw_C_isPlace : List Cond := Cond.code y_C_isPlace b_C_isPlace 2 (some .boolean) :: zt
abbrev zw_C_maskOf : List Cond := Cond.code y_C_maskOf b_C_maskOf 2 (some .int) :: zt
abbrev zw_C_keysOfBucket : List Cond := Cond.code y_C_keysOfBucket b_C_keysOfBucket 2 (some .int) :: zt
abbrev zw_E_bucketPages : List Cond := Cond.code y_E_bucketPages b_E_bucketPages 1 (some .int) :: zt
abbrev zw_E_valuePages : List Cond := Cond.code y_E_valuePages b_E_valuePages 3 (some .int) :: zt
abbrev zw_E_bytesOf : List Cond := Cond.code y_E_bytesOf b_E_bytesOf 3 (some .int) :: zt
abbrev zw_E_takeBackFrom : List Cond := Cond.code y_E_takeBackFrom b_E_takeBackFrom 3 none :: zt
abbrev zw_K_remove : List Cond := Cond.code y_K_remove b_K_remove 3 none :: zt
abbrev zw_R_forgetFrom : List Cond := Cond.code y_R_forgetFrom b_R_forgetFrom 2 none :: zt
abbrev zw_R_settle : List Cond := Cond.code y_R_settle b_R_settle 4 none :: zt
abbrev zw_E_delete : List Cond := Cond.code y_E_delete b_E_delete 3 (some .int) :: zt
abbrev zw_E_recordAndRemove : List Cond := Cond.code y_E_recordAndRemove b_E_recordAndRemove 2 none :: zt
abbrev zw_E_has : List Cond := Cond.code y_E_has b_E_has 2 (some .boolean) :: zt
abbrev zw_E_get : List Cond := Cond.code y_E_get b_E_get 2 (some .long) :: zt
abbrev zw_E_reads : List Cond := Cond.code y_E_reads b_E_reads 3 (some .int) :: zt
abbrev zw_K_bucketPagesUpTo : List Cond := Cond.code y_K_bucketPagesUpTo b_K_bucketPagesUpTo 6 (some .int) :: zt
abbrev zw_E_open : List Cond := Cond.code y_E_open b_E_open 1 (some .boolean) :: zt
abbrev zw_B_begin : List Cond := Cond.code y_B_begin b_B_begin 1 none :: zt
abbrev zw_E_commit : List Cond := Cond.code y_E_commit b_E_commit 3 (some .int) :: zt
abbrev zw_E_doStepsOfBatch : List Cond := Cond.code y_E_doStepsOfBatch b_E_doStepsOfBatch 2 none :: zt
abbrev zw_B_end : List Cond := Cond.code y_B_end b_B_end 1 none :: zt
abbrev zw_R_closeBatch : List Cond := Cond.code y_R_closeBatch b_R_closeBatch 3 none :: zt
abbrev zw_E_abandon : List Cond := Cond.code y_E_abandon b_E_abandon 2 (some .int) :: zt
abbrev zw_E_flush : List Cond := Cond.code y_E_flush b_E_flush 2 (some .int) :: zt
abbrev zw_E_crash : List Cond := Cond.code y_E_crash b_E_crash 4 (some .int) :: zt
abbrev zw_R_survivorsAmongFirst : List Cond := Cond.code y_R_survivorsAmongFirst b_R_survivorsAmongFirst 3 (some .int) :: zt
abbrev zw_E_unflushed : List Cond := Cond.code y_E_unflushed b_E_unflushed 1 (some .int) :: zt
abbrev zw_E_steps : List Cond := Cond.code y_E_steps b_E_steps 1 (some .int) :: zt
abbrev zw_E_size : List Cond := Cond.code y_E_size b_E_size 1 (some .int) :: zt
abbrev zw_E_pages : List Cond := Cond.code y_E_pages b_E_pages 1 (some .int) :: zt
abbrev zw_E_globalDepth : List Cond := Cond.code y_E_globalDepth b_E_globalDepth 1 (some .int) :: zt
abbrev zw_E_localDepth : List Cond := Cond.code y_E_localDepth b_E_localDepth 2 (some .int) :: zt
abbrev zw_E_buckets : List Cond := Cond.code y_E_buckets b_E_buckets 1 (some .int) :: zt
abbrev zw_C_countPlaces : List Cond := Cond.code y_C_countPlaces b_C_countPlaces 3 (some .int) :: zt
abbrev zw_E_bucketAt : List Cond := Cond.code y_E_bucketAt b_E_bucketAt 4 (some .int) :: zt
abbrev zw_E_keyAt : List Cond := Cond.code y_E_keyAt b_E_keyAt 2 (some .int) :: zt
abbrev zw_K_keyInPlaceOrder : List Cond := Cond.code y_K_keyInPlaceOrder b_K_keyInPlaceOrder 5 (some .int) :: zt
abbrev zw_K_keyInBucket : List Cond := Cond.code y_K_keyInBucket b_K_keyInBucket 6 (some .int) :: zt
abbrev zw_L_cell : List Cond := Cond.code y_L_cell b_L_cell 2 (some .int) :: zt
abbrev zw_M_init : List Cond := Cond.code y_M_init b_M_init 2 none :: zt
abbrev zw_M_put : List Cond := Cond.code y_M_put b_M_put 5 (some .int) :: zt
abbrev zw_M_step : List Cond := Cond.code y_M_step b_M_step 5 (some .int) :: zt
abbrev zw_M_has : List Cond := Cond.code y_M_has b_M_has 2 (some .boolean) :: zt
abbrev zw_M_now : List Cond := Cond.code y_M_now b_M_now 1 none :: zt
abbrev zw_M_replay : List Cond := Cond.code y_M_replay b_M_replay 3 none :: zt
abbrev zw_M_set : List Cond := Cond.code y_M_set b_M_set 7 none :: zt
abbrev zw_M_find : List Cond := Cond.code y_M_find b_M_find 4 (some .int) :: zt
abbrev zw_M_remove : List Cond := Cond.code y_M_remove b_M_remove 4 none :: zt
abbrev zw_M_write : List Cond := Cond.code y_M_write b_M_write 6 none :: zt
abbrev zw_M_stays : List Cond := Cond.code y_M_stays b_M_stays 2 (some .boolean) :: zt
abbrev zw_M_inUse : List Cond := Cond.code y_M_inUse b_M_inUse 6 (some .int) :: zt
abbrev zw_M_greatest : List Cond := Cond.code y_M_greatest b_M_greatest 4 (some .int) :: zt
abbrev zw_M_depthOf : List Cond := Cond.code y_M_depthOf b_M_depthOf 5 (some .int) :: zt
abbrev zw_M_good : List Cond := Cond.code y_M_good b_M_good 8 (some .boolean) :: zt
abbrev zw_M_hash : List Cond := Cond.code y_M_hash b_M_hash 2 (some .int) :: zt
abbrev zw_M_inClass : List Cond := Cond.code y_M_inClass b_M_inClass 4 (some .boolean) :: zt
abbrev zw_M_count : List Cond := Cond.code y_M_count b_M_count 5 (some .int) :: zt
abbrev zw_M_valuePages : List Cond := Cond.code y_M_valuePages b_M_valuePages 4 (some .int) :: zt
abbrev zw_M_bytes : List Cond := Cond.code y_M_bytes b_M_bytes 7 (some .int) :: zt
abbrev zw_M_settle : List Cond := Cond.code y_M_settle b_M_settle 3 none :: zt
abbrev zw_M_delete : List Cond := Cond.code y_M_delete b_M_delete 2 (some .int) :: zt
abbrev zw_M_open : List Cond := Cond.code y_M_open b_M_open 1 (some .boolean) :: zt
abbrev zw_M_commit : List Cond := Cond.code y_M_commit b_M_commit 3 (some .int) :: zt
abbrev zw_M_abandon : List Cond := Cond.code y_M_abandon b_M_abandon 1 (some .int) :: zt
abbrev zw_M_flush : List Cond := Cond.code y_M_flush b_M_flush 2 (some .int) :: zt
abbrev zw_M_crash : List Cond := Cond.code y_M_crash b_M_crash 5 (some .int) :: zt
abbrev zw_M_get : List Cond := Cond.code y_M_get b_M_get 3 (some .long) :: zt
abbrev zw_M_reads : List Cond := Cond.code y_M_reads b_M_reads 10 (some .int) :: zt
abbrev zw_M_bucketOf : List Cond := Cond.code y_M_bucketOf b_M_bucketOf 6 (some .int) :: zt
abbrev zw_M_unflushed : List Cond := Cond.code y_M_unflushed b_M_unflushed 1 (some .int) :: zt
abbrev zw_M_steps : List Cond := Cond.code y_M_steps b_M_steps 1 (some .int) :: zt
abbrev zw_M_size : List Cond := Cond.code y_M_size b_M_size 1 (some .int) :: zt
abbrev zw_M_pages : List Cond := Cond.code y_M_pages b_M_pages 1 (some .int) :: zt
abbrev zw_M_globalDepth : List Cond := Cond.code y_M_globalDepth b_M_globalDepth 1 (some .int) :: zt
abbrev zw_M_localDepth : List Cond := Cond.code y_M_localDepth b_M_localDepth 2 (some .int) :: zt
abbrev zw_M_buckets : List Cond := Cond.code y_M_buckets b_M_buckets 3 (some .int) :: zt
abbrev zw_M_bucketAt : List Cond := Cond.code y_M_bucketAt b_M_bucketAt 4 (some .int) :: zt
abbrev zw_M_keyAt : List Cond := Cond.code y_M_keyAt b_M_keyAt 6 (some .int) :: zt
theorem zt_good {w : Cond} (h : w ∈ zt) : (w.onTables && w.keeps) = true ∨ ∃ ty, w = .arrayClass ty := good_of_word (List.mem_filter.mp h).2
theorem zt_of {w : Cond} (i : Nat) (h : tables_1[i]? = some w) (g : goodWord w = true) : w ∈ zt := List.mem_filter.mpr ⟨List.mem_append_right _ (List.mem_of_getElem? h), g⟩
theorem zt_sel {w : Cond} (i : Nat) (h : (k2_sels lw_privs)[i]? = some w) (g : goodWord w = true) : w ∈ zt := List.mem_filter.mpr ⟨List.mem_append_left _ (List.mem_of_getElem? h), g⟩
theorem zn_of {w : Cond} (i : Nat) (h : tables_1[i]? = some w) (g : zb_n w = true) : w ∈ zn_L := List.mem_filter.mpr ⟨List.mem_of_getElem? h, g⟩
theorem zg_C {z c : Cond} (h5 : c ∈ zt) : GoodIn (z :: zt) (c :: zt) := by
  intro w hw
  have h : w ∈ zt := by
    rcases List.mem_cons.mp hw with rfl | hw
    · exact h5
    · exact hw
  exact ⟨List.mem_cons_of_mem _ h, zt_good h⟩
theorem zg_V {z c : Cond} {own C : String} {idx : Nat} {y : MethodName} (h1 : Cond.methodLink own idx y ∈ zt) (h2 : Cond.instanceMethod y ∈ zt) (h3 : Cond.selects C y y ∈ zt) (h4 : Cond.initialized C ∈ zt) (h5 : c ∈ zt) : GoodIn (z :: zt) (wsV own idx C y (c :: zt)) := by
  intro w hw
  have h : w ∈ zt := by
    rcases List.mem_append.mp hw with hw | hw
    · simp only [List.mem_cons, List.not_mem_nil, or_false] at hw
      rcases hw with rfl | rfl | rfl | rfl <;> assumption
    · rcases List.mem_cons.mp hw with rfl | hw
      · exact h5
      · exact hw
  exact ⟨List.mem_cons_of_mem _ h, zt_good h⟩
theorem zg_S {z c : Cond} {own : String} {idx : Nat} {y : MethodName} (h1 : Cond.methodLink own idx y ∈ zt) (h2 : Cond.static y ∈ zt) (h4 : Cond.initialized own ∈ zt) (h5 : c ∈ zt) : GoodIn (z :: zt) (wsS own idx y (c :: zt)) := by
  intro w hw
  have h : w ∈ zt := by
    rcases List.mem_append.mp hw with hw | hw
    · simp only [List.mem_cons, List.not_mem_nil, or_false] at hw
      rcases hw with rfl | rfl | rfl <;> assumption
    · rcases List.mem_cons.mp hw with rfl | hw
      · exact h5
      · exact hw
  exact ⟨List.mem_cons_of_mem _ h, zt_good h⟩
theorem zj_E : ∀ w ∈ u_ws R_E F_E 4, w ∈ zt := by decide +kernel
theorem zi_E (z : Cond) : ∀ w ∈ u_ws R_E F_E 4, w ∈ z :: zt := fun w h => List.mem_cons_of_mem _ (zj_E w h)
theorem zj_K : ∀ w ∈ u_ws R_K F_K 4, w ∈ zt := by decide +kernel
theorem zi_K (z : Cond) : ∀ w ∈ u_ws R_K F_K 4, w ∈ z :: zt := fun w h => List.mem_cons_of_mem _ (zj_K w h)
theorem zj_C : ∀ w ∈ u_ws R_C F_C 2, w ∈ zt := by decide +kernel
theorem zi_C (z : Cond) : ∀ w ∈ u_ws R_C F_C 2, w ∈ z :: zt := fun w h => List.mem_cons_of_mem _ (zj_C w h)
theorem zj_R : ∀ w ∈ u_ws R_R F_R 5, w ∈ zt := by decide +kernel
theorem zi_R (z : Cond) : ∀ w ∈ u_ws R_R F_R 5, w ∈ z :: zt := fun w h => List.mem_cons_of_mem _ (zj_R w h)
theorem zj_B : ∀ w ∈ u_ws R_B F_B 5, w ∈ zt := by decide +kernel
theorem zi_B (z : Cond) : ∀ w ∈ u_ws R_B F_B 5, w ∈ z :: zt := fun w h => List.mem_cons_of_mem _ (zj_B w h)
theorem zj_M : ∀ w ∈ u_ws R_M F_M 17, w ∈ zt := by decide +kernel
theorem zi_M (z : Cond) : ∀ w ∈ u_ws R_M F_M 17, w ∈ z :: zt := fun w h => List.mem_cons_of_mem _ (zj_M w h)
/-- what is known of the links to private members of nest mates -/
def zN (U : State) : Prop := ∀ w ∈ zn_L, va_Nw w U
theorem zN_warm {s U : State} (hW : s.WarmedH U.vm) (h : zN s) : zN U := by
  intro w hw
  have h1 := h w hw
  have h2 : zb_n w = true := (List.mem_filter.mp hw).2
  cases w <;> first | exact h1.warmF hW | exact h1.warmM hW | cases h2
theorem zN_same {u U : State} (hv : u.vm = U.vm) (h : zN u) : zN U := by
  intro w hw
  have h1 := h w hw
  have h2 : zb_n w = true := (List.mem_filter.mp hw).2
  cases w <;> first | exact va_Nw.same rfl hv h1 | cases h2
theorem zN_of {A : Array Value} {U : State} (h : ∀ w ∈ lw_tbl, w.before A U = true) : zN U := by
  intro w hw
  have h1 := h w (List.mem_append_right _ (List.mem_filter.mp hw).1)
  have h2 : zb_n w = true := (List.mem_filter.mp hw).2
  cases w <;> first | exact va_Nw.of rfl h1 | cases h2
