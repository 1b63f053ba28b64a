section
-- ===== PART A: goes FIRST, ahead of the names: the tables' words, and 'selects' of the private methods out of them =====
/-- a private method of a class that the tables say can be made, by its rows of tables_1 -/
def lw_okq (q : MethodName × Nat) : Prop := (q.1.cls ≠ "java/lang/invoke/MethodHandle" ∧ q.1.cls ≠ "java/lang/invoke/VarHandle") ∧ Cond.instantiable q.1.cls q.2 ∈ tables_1 ∧ Cond.privateMethod q.1 ∈ tables_1 ∧ Cond.instanceMethod q.1 ∈ tables_1
theorem lw_p0 : lw_okq (⟨"ExtendiblePages$Kept", "keysBelow", "(I)I"⟩, 4) := ⟨⟨by decide +kernel, by decide +kernel⟩, List.mem_of_getElem? (i := 24) (by decide +kernel), List.mem_of_getElem? (i := 139) (by decide +kernel), List.mem_of_getElem? (i := 140) (by decide +kernel)⟩
theorem lw_p1 : lw_okq (⟨"ExtendiblePages$Kept", "isAt", "(II)Z"⟩, 4) := ⟨⟨by decide +kernel, by decide +kernel⟩, List.mem_of_getElem? (i := 24) (by decide +kernel), List.mem_of_getElem? (i := 143) (by decide +kernel), List.mem_of_getElem? (i := 144) (by decide +kernel)⟩
theorem lw_p2 : lw_okq (⟨"ExtendiblePages", "recordAndSet", "(IJ)V"⟩, 4) := ⟨⟨by decide +kernel, by decide +kernel⟩, List.mem_of_getElem? (i := 10) (by decide +kernel), List.mem_of_getElem? (i := 147) (by decide +kernel), List.mem_of_getElem? (i := 148) (by decide +kernel)⟩
theorem lw_p3 : lw_okq (⟨"ExtendiblePages$Records", "append", "(IJI)V"⟩, 5) := ⟨⟨by decide +kernel, by decide +kernel⟩, List.mem_of_getElem? (i := 60) (by decide +kernel), List.mem_of_getElem? (i := 159) (by decide +kernel), List.mem_of_getElem? (i := 160) (by decide +kernel)⟩
theorem lw_p4 : lw_okq (⟨"ExtendiblePages$Kept", "insert", "(IIJ)V"⟩, 4) := ⟨⟨by decide +kernel, by decide +kernel⟩, List.mem_of_getElem? (i := 24) (by decide +kernel), List.mem_of_getElem? (i := 167) (by decide +kernel), List.mem_of_getElem? (i := 168) (by decide +kernel)⟩
theorem lw_p5 : lw_okq (⟨"ExtendiblePages", "isOverfull", "()Z"⟩, 4) := ⟨⟨by decide +kernel, by decide +kernel⟩, List.mem_of_getElem? (i := 10) (by decide +kernel), List.mem_of_getElem? (i := 184) (by decide +kernel), List.mem_of_getElem? (i := 185) (by decide +kernel)⟩
theorem lw_p6 : lw_okq (⟨"ExtendiblePages$Classes", "isGood", "(I)Z"⟩, 2) := ⟨⟨by decide +kernel, by decide +kernel⟩, List.mem_of_getElem? (i := 30) (by decide +kernel), List.mem_of_getElem? (i := 200) (by decide +kernel), List.mem_of_getElem? (i := 201) (by decide +kernel)⟩
theorem lw_p7 : lw_okq (⟨"ExtendiblePages", "takeBackFrom", "(I)V"⟩, 4) := ⟨⟨by decide +kernel, by decide +kernel⟩, List.mem_of_getElem? (i := 10) (by decide +kernel), List.mem_of_getElem? (i := 229) (by decide +kernel), List.mem_of_getElem? (i := 230) (by decide +kernel)⟩
theorem lw_p8 : lw_okq (⟨"ExtendiblePages", "recordAndRemove", "(I)V"⟩, 4) := ⟨⟨by decide +kernel, by decide +kernel⟩, List.mem_of_getElem? (i := 10) (by decide +kernel), List.mem_of_getElem? (i := 250) (by decide +kernel), List.mem_of_getElem? (i := 251) (by decide +kernel)⟩
theorem lw_p9 : lw_okq (⟨"ExtendiblePages", "doStepsOfBatch", "()V"⟩, 4) := ⟨⟨by decide +kernel, by decide +kernel⟩, List.mem_of_getElem? (i := 10) (by decide +kernel), List.mem_of_getElem? (i := 286) (by decide +kernel), List.mem_of_getElem? (i := 287) (by decide +kernel)⟩
theorem lw_p10 : lw_okq (⟨"ExtendiblePages$Kept", "keyInBucket", "(II)I"⟩, 4) := ⟨⟨by decide +kernel, by decide +kernel⟩, List.mem_of_getElem? (i := 24) (by decide +kernel), List.mem_of_getElem? (i := 364) (by decide +kernel), List.mem_of_getElem? (i := 365) (by decide +kernel)⟩
theorem lw_p11 : lw_okq (⟨"ExtendiblePagesModel", "step", "(IIJ)I"⟩, 17) := ⟨⟨by decide +kernel, by decide +kernel⟩, List.mem_of_getElem? (i := 371) (by decide +kernel), List.mem_of_getElem? (i := 433) (by decide +kernel), List.mem_of_getElem? (i := 434) (by decide +kernel)⟩
theorem lw_p12 : lw_okq (⟨"ExtendiblePagesModel", "now", "()V"⟩, 17) := ⟨⟨by decide +kernel, by decide +kernel⟩, List.mem_of_getElem? (i := 371) (by decide +kernel), List.mem_of_getElem? (i := 441) (by decide +kernel), List.mem_of_getElem? (i := 442) (by decide +kernel)⟩
theorem lw_p13 : lw_okq (⟨"ExtendiblePagesModel", "replay", "(I)V"⟩, 17) := ⟨⟨by decide +kernel, by decide +kernel⟩, List.mem_of_getElem? (i := 371) (by decide +kernel), List.mem_of_getElem? (i := 445) (by decide +kernel), List.mem_of_getElem? (i := 446) (by decide +kernel)⟩
theorem lw_p14 : lw_okq (⟨"ExtendiblePagesModel", "set", "(IJ)V"⟩, 17) := ⟨⟨by decide +kernel, by decide +kernel⟩, List.mem_of_getElem? (i := 371) (by decide +kernel), List.mem_of_getElem? (i := 449) (by decide +kernel), List.mem_of_getElem? (i := 450) (by decide +kernel)⟩
theorem lw_p15 : lw_okq (⟨"ExtendiblePagesModel", "find", "(I)I"⟩, 17) := ⟨⟨by decide +kernel, by decide +kernel⟩, List.mem_of_getElem? (i := 371) (by decide +kernel), List.mem_of_getElem? (i := 453) (by decide +kernel), List.mem_of_getElem? (i := 454) (by decide +kernel)⟩
def lw_privs_1 : List (MethodName × Nat) := [(⟨"ExtendiblePages$Kept", "keysBelow", "(I)I"⟩, 4), (⟨"ExtendiblePages$Kept", "isAt", "(II)Z"⟩, 4), (⟨"ExtendiblePages", "recordAndSet", "(IJ)V"⟩, 4), (⟨"ExtendiblePages$Records", "append", "(IJI)V"⟩, 5), (⟨"ExtendiblePages$Kept", "insert", "(IIJ)V"⟩, 4), (⟨"ExtendiblePages", "isOverfull", "()Z"⟩, 4), (⟨"ExtendiblePages$Classes", "isGood", "(I)Z"⟩, 2), (⟨"ExtendiblePages", "takeBackFrom", "(I)V"⟩, 4), (⟨"ExtendiblePages", "recordAndRemove", "(I)V"⟩, 4), (⟨"ExtendiblePages", "doStepsOfBatch", "()V"⟩, 4), (⟨"ExtendiblePages$Kept", "keyInBucket", "(II)I"⟩, 4), (⟨"ExtendiblePagesModel", "step", "(IIJ)I"⟩, 17), (⟨"ExtendiblePagesModel", "now", "()V"⟩, 17), (⟨"ExtendiblePagesModel", "replay", "(I)V"⟩, 17), (⟨"ExtendiblePagesModel", "set", "(IJ)V"⟩, 17), (⟨"ExtendiblePagesModel", "find", "(I)I"⟩, 17)]
theorem lw_r1 : ∀ q ∈ lw_privs_1, lw_okq q := List.forall_mem_cons.mpr ⟨lw_p0, List.forall_mem_cons.mpr ⟨lw_p1, List.forall_mem_cons.mpr ⟨lw_p2, List.forall_mem_cons.mpr ⟨lw_p3, List.forall_mem_cons.mpr ⟨lw_p4, List.forall_mem_cons.mpr ⟨lw_p5, List.forall_mem_cons.mpr ⟨lw_p6, List.forall_mem_cons.mpr ⟨lw_p7, List.forall_mem_cons.mpr ⟨lw_p8, List.forall_mem_cons.mpr ⟨lw_p9, List.forall_mem_cons.mpr ⟨lw_p10, List.forall_mem_cons.mpr ⟨lw_p11, List.forall_mem_cons.mpr ⟨lw_p12, List.forall_mem_cons.mpr ⟨lw_p13, List.forall_mem_cons.mpr ⟨lw_p14, List.forall_mem_cons.mpr ⟨lw_p15, fun _ h => absurd h List.not_mem_nil⟩⟩⟩⟩⟩⟩⟩⟩⟩⟩⟩⟩⟩⟩⟩⟩
theorem lw_p16 : lw_okq (⟨"ExtendiblePagesModel", "remove", "(I)V"⟩, 17) := ⟨⟨by decide +kernel, by decide +kernel⟩, List.mem_of_getElem? (i := 371) (by decide +kernel), List.mem_of_getElem? (i := 457) (by decide +kernel), List.mem_of_getElem? (i := 458) (by decide +kernel)⟩
theorem lw_p17 : lw_okq (⟨"ExtendiblePagesModel", "write", "(IIJI)V"⟩, 17) := ⟨⟨by decide +kernel, by decide +kernel⟩, List.mem_of_getElem? (i := 371) (by decide +kernel), List.mem_of_getElem? (i := 461) (by decide +kernel), List.mem_of_getElem? (i := 462) (by decide +kernel)⟩
theorem lw_p18 : lw_okq (⟨"ExtendiblePagesModel", "stays", "(I)Z"⟩, 17) := ⟨⟨by decide +kernel, by decide +kernel⟩, List.mem_of_getElem? (i := 371) (by decide +kernel), List.mem_of_getElem? (i := 465) (by decide +kernel), List.mem_of_getElem? (i := 466) (by decide +kernel)⟩
theorem lw_p19 : lw_okq (⟨"ExtendiblePagesModel", "inUse", "()I"⟩, 17) := ⟨⟨by decide +kernel, by decide +kernel⟩, List.mem_of_getElem? (i := 371) (by decide +kernel), List.mem_of_getElem? (i := 469) (by decide +kernel), List.mem_of_getElem? (i := 470) (by decide +kernel)⟩
theorem lw_p20 : lw_okq (⟨"ExtendiblePagesModel", "greatest", "()I"⟩, 17) := ⟨⟨by decide +kernel, by decide +kernel⟩, List.mem_of_getElem? (i := 371) (by decide +kernel), List.mem_of_getElem? (i := 473) (by decide +kernel), List.mem_of_getElem? (i := 474) (by decide +kernel)⟩
theorem lw_p21 : lw_okq (⟨"ExtendiblePagesModel", "depthOf", "(I)I"⟩, 17) := ⟨⟨by decide +kernel, by decide +kernel⟩, List.mem_of_getElem? (i := 371) (by decide +kernel), List.mem_of_getElem? (i := 477) (by decide +kernel), List.mem_of_getElem? (i := 478) (by decide +kernel)⟩
theorem lw_p22 : lw_okq (⟨"ExtendiblePagesModel", "good", "(II)Z"⟩, 17) := ⟨⟨by decide +kernel, by decide +kernel⟩, List.mem_of_getElem? (i := 371) (by decide +kernel), List.mem_of_getElem? (i := 481) (by decide +kernel), List.mem_of_getElem? (i := 482) (by decide +kernel)⟩
theorem lw_p23 : lw_okq (⟨"ExtendiblePagesModel", "hash", "(I)I"⟩, 17) := ⟨⟨by decide +kernel, by decide +kernel⟩, List.mem_of_getElem? (i := 371) (by decide +kernel), List.mem_of_getElem? (i := 485) (by decide +kernel), List.mem_of_getElem? (i := 486) (by decide +kernel)⟩
theorem lw_p24 : lw_okq (⟨"ExtendiblePagesModel", "inClass", "(III)Z"⟩, 17) := ⟨⟨by decide +kernel, by decide +kernel⟩, List.mem_of_getElem? (i := 371) (by decide +kernel), List.mem_of_getElem? (i := 489) (by decide +kernel), List.mem_of_getElem? (i := 490) (by decide +kernel)⟩
theorem lw_p25 : lw_okq (⟨"ExtendiblePagesModel", "count", "(II)I"⟩, 17) := ⟨⟨by decide +kernel, by decide +kernel⟩, List.mem_of_getElem? (i := 371) (by decide +kernel), List.mem_of_getElem? (i := 493) (by decide +kernel), List.mem_of_getElem? (i := 494) (by decide +kernel)⟩
theorem lw_p26 : lw_okq (⟨"ExtendiblePagesModel", "valuePages", "(J)I"⟩, 17) := ⟨⟨by decide +kernel, by decide +kernel⟩, List.mem_of_getElem? (i := 371) (by decide +kernel), List.mem_of_getElem? (i := 497) (by decide +kernel), List.mem_of_getElem? (i := 498) (by decide +kernel)⟩
theorem lw_p27 : lw_okq (⟨"ExtendiblePagesModel", "bytes", "(J)I"⟩, 17) := ⟨⟨by decide +kernel, by decide +kernel⟩, List.mem_of_getElem? (i := 371) (by decide +kernel), List.mem_of_getElem? (i := 501) (by decide +kernel), List.mem_of_getElem? (i := 502) (by decide +kernel)⟩
theorem lw_p28 : lw_okq (⟨"ExtendiblePagesModel", "settle", "(I)V"⟩, 17) := ⟨⟨by decide +kernel, by decide +kernel⟩, List.mem_of_getElem? (i := 371) (by decide +kernel), List.mem_of_getElem? (i := 505) (by decide +kernel), List.mem_of_getElem? (i := 506) (by decide +kernel)⟩
theorem lw_p29 : lw_okq (⟨"ExtendiblePagesModel", "bucketOf", "(I)I"⟩, 17) := ⟨⟨by decide +kernel, by decide +kernel⟩, List.mem_of_getElem? (i := 371) (by decide +kernel), List.mem_of_getElem? (i := 542) (by decide +kernel), List.mem_of_getElem? (i := 543) (by decide +kernel)⟩
def lw_privs_2 : List (MethodName × Nat) := [(⟨"ExtendiblePagesModel", "remove", "(I)V"⟩, 17), (⟨"ExtendiblePagesModel", "write", "(IIJI)V"⟩, 17), (⟨"ExtendiblePagesModel", "stays", "(I)Z"⟩, 17), (⟨"ExtendiblePagesModel", "inUse", "()I"⟩, 17), (⟨"ExtendiblePagesModel", "greatest", "()I"⟩, 17), (⟨"ExtendiblePagesModel", "depthOf", "(I)I"⟩, 17), (⟨"ExtendiblePagesModel", "good", "(II)Z"⟩, 17), (⟨"ExtendiblePagesModel", "hash", "(I)I"⟩, 17), (⟨"ExtendiblePagesModel", "inClass", "(III)Z"⟩, 17), (⟨"ExtendiblePagesModel", "count", "(II)I"⟩, 17), (⟨"ExtendiblePagesModel", "valuePages", "(J)I"⟩, 17), (⟨"ExtendiblePagesModel", "bytes", "(J)I"⟩, 17), (⟨"ExtendiblePagesModel", "settle", "(I)V"⟩, 17), (⟨"ExtendiblePagesModel", "bucketOf", "(I)I"⟩, 17)]
theorem lw_r2 : ∀ q ∈ lw_privs_2, lw_okq q := List.forall_mem_cons.mpr ⟨lw_p16, List.forall_mem_cons.mpr ⟨lw_p17, List.forall_mem_cons.mpr ⟨lw_p18, List.forall_mem_cons.mpr ⟨lw_p19, List.forall_mem_cons.mpr ⟨lw_p20, List.forall_mem_cons.mpr ⟨lw_p21, List.forall_mem_cons.mpr ⟨lw_p22, List.forall_mem_cons.mpr ⟨lw_p23, List.forall_mem_cons.mpr ⟨lw_p24, List.forall_mem_cons.mpr ⟨lw_p25, List.forall_mem_cons.mpr ⟨lw_p26, List.forall_mem_cons.mpr ⟨lw_p27, List.forall_mem_cons.mpr ⟨lw_p28, List.forall_mem_cons.mpr ⟨lw_p29, fun _ h => absurd h List.not_mem_nil⟩⟩⟩⟩⟩⟩⟩⟩⟩⟩⟩⟩⟩⟩
def lw_privs : List (MethodName × Nat) := lw_privs_1 ++ (lw_privs_2)
def lw_tbl : List Cond := k2_sels lw_privs ++ tables_1
theorem lw_privs_ok : ∀ q ∈ lw_privs, lw_okq q := by
  show ∀ q ∈ lw_privs_1 ++ (lw_privs_2), lw_okq q
  exact List.forall_mem_append.mpr ⟨lw_r1, lw_r2⟩
end
section
/-! Names: classes, fields, methods; the words of the tables. -/
abbrev R_E : String := "ExtendiblePages"
def F_E : u_T := fun k => match k with
  | 0 => ("ExtendiblePages", "pagesOfStore", "I", true)
  | 1 => ("ExtendiblePages", "kept", "LExtendiblePages$Kept;", true)
  | 2 => ("ExtendiblePages", "records", "LExtendiblePages$Records;", true)
  | _ => ("ExtendiblePages", "batch", "LExtendiblePages$Batch;", true)
def t_E : Nat → FieldType := fun k => match k with
  | 0 => .int
  | 1 => .object "ExtendiblePages$Kept"
  | 2 => .object "ExtendiblePages$Records"
  | _ => .object "ExtendiblePages$Batch"
theorem n_E : ∀ a, a < 4 → ∀ b, b < 4 → a ≠ b → (F_E a).2.1 ≠ (F_E b).2.1 := by decide +kernel
theorem t_E_ok : ∀ k, k < 4 → parseFieldDescriptor (F_E k).2.2.1 = some (t_E k) := by decide +kernel
abbrev R_K : String := "ExtendiblePages$Kept"
def F_K : u_T := fun k => match k with
  | 0 => ("ExtendiblePages$Kept", "keys", "[I", true)
  | 1 => ("ExtendiblePages$Kept", "values", "[J", true)
  | 2 => ("ExtendiblePages$Kept", "classes", "LExtendiblePages$Classes;", true)
  | _ => ("ExtendiblePages$Kept", "count", "I", false)
def t_K : Nat → FieldType := fun k => match k with
  | 0 => .array .int
  | 1 => .array .long
  | 2 => .object "ExtendiblePages$Classes"
  | _ => .int
theorem n_K : ∀ a, a < 4 → ∀ b, b < 4 → a ≠ b → (F_K a).2.1 ≠ (F_K b).2.1 := by decide +kernel
theorem t_K_ok : ∀ k, k < 4 → parseFieldDescriptor (F_K k).2.2.1 = some (t_K k) := by decide +kernel
abbrev R_C : String := "ExtendiblePages$Classes"
def F_C : u_T := fun k => match k with
  | 0 => ("ExtendiblePages$Classes", "keysIn", "[I", true)
  | _ => ("ExtendiblePages$Classes", "hashesIn", "[I", true)
def t_C : Nat → FieldType := fun k => match k with
  | 0 => .array .int
  | _ => .array .int
theorem n_C : ∀ a, a < 2 → ∀ b, b < 2 → a ≠ b → (F_C a).2.1 ≠ (F_C b).2.1 := by decide +kernel
theorem t_C_ok : ∀ k, k < 2 → parseFieldDescriptor (F_C k).2.2.1 = some (t_C k) := by decide +kernel
abbrev R_R : String := "ExtendiblePages$Records"
def F_R : u_T := fun k => match k with
  | 0 => ("ExtendiblePages$Records", "keys", "[I", true)
  | 1 => ("ExtendiblePages$Records", "values", "[J", true)
  | 2 => ("ExtendiblePages$Records", "formers", "[I", true)
  | 3 => ("ExtendiblePages$Records", "starts", "[I", true)
  | _ => ("ExtendiblePages$Records", "count", "I", false)
def t_R : Nat → FieldType := fun k => match k with
  | 0 => .array .int
  | 1 => .array .long
  | 2 => .array .int
  | 3 => .array .int
  | _ => .int
theorem n_R : ∀ a, a < 5 → ∀ b, b < 5 → a ≠ b → (F_R a).2.1 ≠ (F_R b).2.1 := by decide +kernel
theorem t_R_ok : ∀ k, k < 5 → parseFieldDescriptor (F_R k).2.2.1 = some (t_R k) := by decide +kernel
abbrev R_B : String := "ExtendiblePages$Batch"
def F_B : u_T := fun k => match k with
  | 0 => ("ExtendiblePages$Batch", "isPut", "[Z", true)
  | 1 => ("ExtendiblePages$Batch", "keys", "[I", true)
  | 2 => ("ExtendiblePages$Batch", "values", "[J", true)
  | 3 => ("ExtendiblePages$Batch", "isOpen", "Z", false)
  | _ => ("ExtendiblePages$Batch", "count", "I", false)
def t_B : Nat → FieldType := fun k => match k with
  | 0 => .array .boolean
  | 1 => .array .int
  | 2 => .array .long
  | 3 => .boolean
  | _ => .int
theorem n_B : ∀ a, a < 5 → ∀ b, b < 5 → a ≠ b → (F_B a).2.1 ≠ (F_B b).2.1 := by decide +kernel
theorem t_B_ok : ∀ k, k < 5 → parseFieldDescriptor (F_B k).2.2.1 = some (t_B k) := by decide +kernel
abbrev R_M : String := "ExtendiblePagesModel"
def F_M : u_T := fun k => match k with
  | 0 => ("ExtendiblePagesModel", "limit", "I", true)
  | 1 => ("ExtendiblePagesModel", "baseSize", "I", false)
  | 2 => ("ExtendiblePagesModel", "baseKey", "[I", true)
  | 3 => ("ExtendiblePagesModel", "baseValue", "[J", true)
  | 4 => ("ExtendiblePagesModel", "records", "I", false)
  | 5 => ("ExtendiblePagesModel", "what", "[I", true)
  | 6 => ("ExtendiblePagesModel", "recordKey", "[I", true)
  | 7 => ("ExtendiblePagesModel", "recordValue", "[J", true)
  | 8 => ("ExtendiblePagesModel", "begins", "[I", true)
  | 9 => ("ExtendiblePagesModel", "batch", "Z", false)
  | 10 => ("ExtendiblePagesModel", "stepCount", "I", false)
  | 11 => ("ExtendiblePagesModel", "stepWhat", "[I", true)
  | 12 => ("ExtendiblePagesModel", "stepKey", "[I", true)
  | 13 => ("ExtendiblePagesModel", "stepValue", "[J", true)
  | 14 => ("ExtendiblePagesModel", "kept", "I", false)
  | 15 => ("ExtendiblePagesModel", "key", "[I", true)
  | _ => ("ExtendiblePagesModel", "value", "[J", true)
def t_M : Nat → FieldType := fun k => match k with
  | 0 => .int
  | 1 => .int
  | 2 => .array .int
  | 3 => .array .long
  | 4 => .int
  | 5 => .array .int
  | 6 => .array .int
  | 7 => .array .long
  | 8 => .array .int
  | 9 => .boolean
  | 10 => .int
  | 11 => .array .int
  | 12 => .array .int
  | 13 => .array .long
  | 14 => .int
  | 15 => .array .int
  | _ => .array .long
theorem n_M : ∀ a, a < 17 → ∀ b, b < 17 → a ≠ b → (F_M a).2.1 ≠ (F_M b).2.1 := by decide +kernel
theorem t_M_ok : ∀ k, k < 17 → parseFieldDescriptor (F_M k).2.2.1 = some (t_M k) := by decide +kernel
abbrev R_L : String := "ExtendiblePagesLaw"
abbrev zz_cl : List vw_C := [(R_E, F_E, 4), (R_K, F_K, 4), (R_C, F_C, 2), (R_R, F_R, 5), (R_B, F_B, 5), (R_M, F_M, 17)]
abbrev b_E_init : ByteArray := prog_1_method_1_code
def y_E_init : MethodName := ⟨R_E, "<init>", "(I)V"⟩
abbrev b_K_init : ByteArray := prog_4_method_1_code
def y_K_init : MethodName := ⟨R_K, "<init>", "()V"⟩
abbrev b_C_init : ByteArray := prog_3_method_1_code
def y_C_init : MethodName := ⟨R_C, "<init>", "()V"⟩
abbrev b_R_init : ByteArray := prog_5_method_1_code
def y_R_init : MethodName := ⟨R_R, "<init>", "()V"⟩
abbrev b_B_init : ByteArray := prog_2_method_1_code
def y_B_init : MethodName := ⟨R_B, "<init>", "()V"⟩
abbrev b_E_put : ByteArray := prog_1_method_2_code
def y_E_put : MethodName := ⟨R_E, "put", "(IJ)I"⟩
abbrev b_B_take : ByteArray := prog_2_method_4_code
def y_B_take : MethodName := ⟨R_B, "take", "(ZIJ)I"⟩
abbrev b_K_holds : ByteArray := prog_4_method_2_code
def y_K_holds : MethodName := ⟨R_K, "holds", "(I)Z"⟩
abbrev b_K_keysBelow : ByteArray := prog_4_method_11_code
def y_K_keysBelow : MethodName := ⟨R_K, "keysBelow", "(I)I"⟩
abbrev b_K_isAt : ByteArray := prog_4_method_10_code
def y_K_isAt : MethodName := ⟨R_K, "isAt", "(II)Z"⟩
abbrev b_E_recordAndSet : ByteArray := prog_1_method_21_code
def y_E_recordAndSet : MethodName := ⟨R_E, "recordAndSet", "(IJ)V"⟩
abbrev b_K_valueOf : ByteArray := prog_4_method_3_code
def y_K_valueOf : MethodName := ⟨R_K, "valueOf", "(I)J"⟩
abbrev b_R_write : ByteArray := prog_5_method_2_code
def y_R_write : MethodName := ⟨R_R, "write", "(IZJ)V"⟩
abbrev b_R_append : ByteArray := prog_5_method_7_code
def y_R_append : MethodName := ⟨R_R, "append", "(IJI)V"⟩
abbrev b_K_set : ByteArray := prog_4_method_4_code
def y_K_set : MethodName := ⟨R_K, "set", "(IJ)V"⟩
abbrev b_K_insert : ByteArray := prog_4_method_12_code
def y_K_insert : MethodName := ⟨R_K, "insert", "(IIJ)V"⟩
abbrev b_E_hash : ByteArray := prog_1_method_26_code
def y_E_hash : MethodName := ⟨R_E, "hash", "(I)I"⟩
abbrev b_C_countKey : ByteArray := prog_3_method_2_code
def y_C_countKey : MethodName := ⟨R_C, "countKey", "(II)V"⟩
abbrev b_C_cell : ByteArray := prog_3_method_10_code
def y_C_cell : MethodName := ⟨R_C, "cell", "(II)I"⟩
abbrev b_E_isOverfull : ByteArray := prog_1_method_24_code
def y_E_isOverfull : MethodName := ⟨R_E, "isOverfull", "()Z"⟩
abbrev b_K_pagesInUse : ByteArray := prog_4_method_6_code
def y_K_pagesInUse : MethodName := ⟨R_K, "pagesInUse", "()I"⟩
abbrev b_C_deepest : ByteArray := prog_3_method_4_code
def y_C_deepest : MethodName := ⟨R_C, "deepest", "()I"⟩
abbrev b_C_depthOf : ByteArray := prog_3_method_3_code
def y_C_depthOf : MethodName := ⟨R_C, "depthOf", "(I)I"⟩
abbrev b_C_isGood : ByteArray := prog_3_method_9_code
def y_C_isGood : MethodName := ⟨R_C, "isGood", "(I)Z"⟩
abbrev b_E_directoryPages : ByteArray := prog_1_method_27_code
def y_E_directoryPages : MethodName := ⟨R_E, "directoryPages", "(I)I"⟩
abbrev b_C_isPlace : ByteArray := prog_3_method_6_code
def y_C_isPlace : MethodName := ⟨R_C, "isPlace", "(I)Z"⟩
abbrev b_C_maskOf : ByteArray := prog_3_method_5_code
def y_C_maskOf : MethodName := ⟨R_C, "maskOf", "(I)I"⟩
abbrev b_C_keysOfBucket : ByteArray := prog_3_method_8_code
def y_C_keysOfBucket : MethodName := ⟨R_C, "keysOfBucket", "(I)I"⟩
abbrev b_E_bucketPages : ByteArray := prog_1_method_28_code
def y_E_bucketPages : MethodName := ⟨R_E, "bucketPages", "(I)I"⟩
abbrev b_E_valuePages : ByteArray := prog_1_method_29_code
def y_E_valuePages : MethodName := ⟨R_E, "valuePages", "(J)I"⟩
abbrev b_E_bytesOf : ByteArray := prog_1_method_30_code
def y_E_bytesOf : MethodName := ⟨R_E, "bytesOf", "(J)I"⟩
abbrev b_E_takeBackFrom : ByteArray := prog_1_method_25_code
def y_E_takeBackFrom : MethodName := ⟨R_E, "takeBackFrom", "(I)V"⟩
abbrev b_K_remove : ByteArray := prog_4_method_5_code
def y_K_remove : MethodName := ⟨R_K, "remove", "(I)V"⟩
abbrev b_R_forgetFrom : ByteArray := prog_5_method_6_code
def y_R_forgetFrom : MethodName := ⟨R_R, "forgetFrom", "(I)V"⟩
abbrev b_R_settle : ByteArray := prog_5_method_4_code
def y_R_settle : MethodName := ⟨R_R, "settle", "(I)V"⟩
abbrev b_E_delete : ByteArray := prog_1_method_3_code
def y_E_delete : MethodName := ⟨R_E, "delete", "(I)I"⟩
abbrev b_E_recordAndRemove : ByteArray := prog_1_method_22_code
def y_E_recordAndRemove : MethodName := ⟨R_E, "recordAndRemove", "(I)V"⟩
abbrev b_E_has : ByteArray := prog_1_method_4_code
def y_E_has : MethodName := ⟨R_E, "has", "(I)Z"⟩
abbrev b_E_get : ByteArray := prog_1_method_5_code
def y_E_get : MethodName := ⟨R_E, "get", "(I)J"⟩
abbrev b_E_reads : ByteArray := prog_1_method_6_code
def y_E_reads : MethodName := ⟨R_E, "reads", "(I)I"⟩
abbrev b_K_bucketPagesUpTo : ByteArray := prog_4_method_7_code
def y_K_bucketPagesUpTo : MethodName := ⟨R_K, "bucketPagesUpTo", "(I)I"⟩
abbrev b_E_open : ByteArray := prog_1_method_7_code
def y_E_open : MethodName := ⟨R_E, "open", "()Z"⟩
abbrev b_B_begin : ByteArray := prog_2_method_2_code
def y_B_begin : MethodName := ⟨R_B, "begin", "()V"⟩
abbrev b_E_commit : ByteArray := prog_1_method_8_code
def y_E_commit : MethodName := ⟨R_E, "commit", "()I"⟩
abbrev b_E_doStepsOfBatch : ByteArray := prog_1_method_23_code
def y_E_doStepsOfBatch : MethodName := ⟨R_E, "doStepsOfBatch", "()V"⟩
abbrev b_B_end : ByteArray := prog_2_method_3_code
def y_B_end : MethodName := ⟨R_B, "end", "()V"⟩
abbrev b_R_closeBatch : ByteArray := prog_5_method_3_code
def y_R_closeBatch : MethodName := ⟨R_R, "closeBatch", "(I)V"⟩
abbrev b_E_abandon : ByteArray := prog_1_method_9_code
def y_E_abandon : MethodName := ⟨R_E, "abandon", "()I"⟩
abbrev b_E_flush : ByteArray := prog_1_method_10_code
def y_E_flush : MethodName := ⟨R_E, "flush", "()I"⟩
abbrev b_E_crash : ByteArray := prog_1_method_11_code
def y_E_crash : MethodName := ⟨R_E, "crash", "(I)I"⟩
abbrev b_R_survivorsAmongFirst : ByteArray := prog_5_method_5_code
def y_R_survivorsAmongFirst : MethodName := ⟨R_R, "survivorsAmongFirst", "(I)I"⟩
abbrev b_E_unflushed : ByteArray := prog_1_method_12_code
def y_E_unflushed : MethodName := ⟨R_E, "unflushed", "()I"⟩
abbrev b_E_steps : ByteArray := prog_1_method_13_code
def y_E_steps : MethodName := ⟨R_E, "steps", "()I"⟩
abbrev b_E_size : ByteArray := prog_1_method_14_code
def y_E_size : MethodName := ⟨R_E, "size", "()I"⟩
abbrev b_E_pages : ByteArray := prog_1_method_15_code
def y_E_pages : MethodName := ⟨R_E, "pages", "()I"⟩
abbrev b_E_globalDepth : ByteArray := prog_1_method_16_code
def y_E_globalDepth : MethodName := ⟨R_E, "globalDepth", "()I"⟩
abbrev b_E_localDepth : ByteArray := prog_1_method_17_code
def y_E_localDepth : MethodName := ⟨R_E, "localDepth", "(I)I"⟩
abbrev b_E_buckets : ByteArray := prog_1_method_18_code
def y_E_buckets : MethodName := ⟨R_E, "buckets", "()I"⟩
abbrev b_C_countPlaces : ByteArray := prog_3_method_7_code
def y_C_countPlaces : MethodName := ⟨R_C, "countPlaces", "()I"⟩
abbrev b_E_bucketAt : ByteArray := prog_1_method_19_code
def y_E_bucketAt : MethodName := ⟨R_E, "bucketAt", "(I)I"⟩
abbrev b_E_keyAt : ByteArray := prog_1_method_20_code
def y_E_keyAt : MethodName := ⟨R_E, "keyAt", "(I)I"⟩
abbrev b_K_keyInPlaceOrder : ByteArray := prog_4_method_8_code
def y_K_keyInPlaceOrder : MethodName := ⟨R_K, "keyInPlaceOrder", "(I)I"⟩
abbrev b_K_keyInBucket : ByteArray := prog_4_method_9_code
def y_K_keyInBucket : MethodName := ⟨R_K, "keyInBucket", "(II)I"⟩
abbrev b_L_cell : ByteArray := method_2_code
def y_L_cell : MethodName := ⟨R_L, "cell", "([II)I"⟩
abbrev b_M_init : ByteArray := prog_7_method_1_code
def y_M_init : MethodName := ⟨R_M, "<init>", "(I)V"⟩
abbrev b_M_put : ByteArray := prog_7_method_20_code
def y_M_put : MethodName := ⟨R_M, "put", "(IJ)I"⟩
abbrev b_M_step : ByteArray := prog_7_method_19_code
def y_M_step : MethodName := ⟨R_M, "step", "(IIJ)I"⟩
abbrev b_M_has : ByteArray := prog_7_method_27_code
def y_M_has : MethodName := ⟨R_M, "has", "(I)Z"⟩
abbrev b_M_now : ByteArray := prog_7_method_6_code
def y_M_now : MethodName := ⟨R_M, "now", "()V"⟩
abbrev b_M_replay : ByteArray := prog_7_method_5_code
def y_M_replay : MethodName := ⟨R_M, "replay", "(I)V"⟩
abbrev b_M_set : ByteArray := prog_7_method_3_code
def y_M_set : MethodName := ⟨R_M, "set", "(IJ)V"⟩
abbrev b_M_find : ByteArray := prog_7_method_2_code
def y_M_find : MethodName := ⟨R_M, "find", "(I)I"⟩
abbrev b_M_remove : ByteArray := prog_7_method_4_code
def y_M_remove : MethodName := ⟨R_M, "remove", "(I)V"⟩
abbrev b_M_write : ByteArray := prog_7_method_8_code
def y_M_write : MethodName := ⟨R_M, "write", "(IIJI)V"⟩
abbrev b_M_stays : ByteArray := prog_7_method_9_code
def y_M_stays : MethodName := ⟨R_M, "stays", "(I)Z"⟩
abbrev b_M_inUse : ByteArray := prog_7_method_18_code
def y_M_inUse : MethodName := ⟨R_M, "inUse", "()I"⟩
abbrev b_M_greatest : ByteArray := prog_7_method_17_code
def y_M_greatest : MethodName := ⟨R_M, "greatest", "()I"⟩
abbrev b_M_depthOf : ByteArray := prog_7_method_14_code
def y_M_depthOf : MethodName := ⟨R_M, "depthOf", "(I)I"⟩
abbrev b_M_good : ByteArray := prog_7_method_13_code
def y_M_good : MethodName := ⟨R_M, "good", "(II)Z"⟩
abbrev b_M_hash : ByteArray := prog_7_method_10_code
def y_M_hash : MethodName := ⟨R_M, "hash", "(I)I"⟩
abbrev b_M_inClass : ByteArray := prog_7_method_11_code
def y_M_inClass : MethodName := ⟨R_M, "inClass", "(III)Z"⟩
abbrev b_M_count : ByteArray := prog_7_method_12_code
def y_M_count : MethodName := ⟨R_M, "count", "(II)I"⟩
abbrev b_M_valuePages : ByteArray := prog_7_method_16_code
def y_M_valuePages : MethodName := ⟨R_M, "valuePages", "(J)I"⟩
abbrev b_M_bytes : ByteArray := prog_7_method_15_code
def y_M_bytes : MethodName := ⟨R_M, "bytes", "(J)I"⟩
abbrev b_M_settle : ByteArray := prog_7_method_7_code
def y_M_settle : MethodName := ⟨R_M, "settle", "(I)V"⟩
abbrev b_M_delete : ByteArray := prog_7_method_21_code
def y_M_delete : MethodName := ⟨R_M, "delete", "(I)I"⟩
abbrev b_M_open : ByteArray := prog_7_method_22_code
def y_M_open : MethodName := ⟨R_M, "open", "()Z"⟩
abbrev b_M_commit : ByteArray := prog_7_method_23_code
def y_M_commit : MethodName := ⟨R_M, "commit", "()I"⟩
abbrev b_M_abandon : ByteArray := prog_7_method_24_code
def y_M_abandon : MethodName := ⟨R_M, "abandon", "()I"⟩
abbrev b_M_flush : ByteArray := prog_7_method_25_code
def y_M_flush : MethodName := ⟨R_M, "flush", "()I"⟩
abbrev b_M_crash : ByteArray := prog_7_method_26_code
def y_M_crash : MethodName := ⟨R_M, "crash", "(I)I"⟩
abbrev b_M_get : ByteArray := prog_7_method_28_code
def y_M_get : MethodName := ⟨R_M, "get", "(I)J"⟩
abbrev b_M_reads : ByteArray := prog_7_method_30_code
def y_M_reads : MethodName := ⟨R_M, "reads", "(I)I"⟩
abbrev b_M_bucketOf : ByteArray := prog_7_method_29_code
def y_M_bucketOf : MethodName := ⟨R_M, "bucketOf", "(I)I"⟩
abbrev b_M_unflushed : ByteArray := prog_7_method_31_code
def y_M_unflushed : MethodName := ⟨R_M, "unflushed", "()I"⟩
abbrev b_M_steps : ByteArray := prog_7_method_32_code
def y_M_steps : MethodName := ⟨R_M, "steps", "()I"⟩
abbrev b_M_size : ByteArray := prog_7_method_33_code
def y_M_size : MethodName := ⟨R_M, "size", "()I"⟩
abbrev b_M_pages : ByteArray := prog_7_method_34_code
def y_M_pages : MethodName := ⟨R_M, "pages", "()I"⟩
abbrev b_M_globalDepth : ByteArray := prog_7_method_35_code
def y_M_globalDepth : MethodName := ⟨R_M, "globalDepth", "()I"⟩
abbrev b_M_localDepth : ByteArray := prog_7_method_36_code
def y_M_localDepth : MethodName := ⟨R_M, "localDepth", "(I)I"⟩
abbrev b_M_buckets : ByteArray := prog_7_method_37_code
def y_M_buckets : MethodName := ⟨R_M, "buckets", "()I"⟩
abbrev b_M_bucketAt : ByteArray := prog_7_method_38_code
def y_M_bucketAt : MethodName := ⟨R_M, "bucketAt", "(I)I"⟩
abbrev b_M_keyAt : ByteArray := prog_7_method_39_code
def y_M_keyAt : MethodName := ⟨R_M, "keyAt", "(I)I"⟩
def zt : List Cond := lw_tbl.filter goodWord
def zb_n : Cond → Bool
  | .fieldLinkNest .. => true
  | .methodLinkNest .. => true
  | _ => false
def zn_L : List Cond := tables_1.filter zb_n
abbrev zw_E_init : List Cond := Cond.code y_E_init b_E_init 2 none :: zt
abbrev zw_K_init : List Cond := Cond.code y_K_init b_K_init 1 none :: zt
abbrev zw_C_init : List Cond := Cond.code y_C_init b_C_init 1 none :: zt
abbrev zw_R_init : List Cond := Cond.code y_R_init b_R_init 1 none :: zt
abbrev zw_B_init : List Cond := Cond.code y_B_init b_B_init 1 none :: zt
abbrev zw_E_put : List Cond := Cond.code y_E_put b_E_put 6 (some .int) :: zt
abbrev zw_B_take : List Cond := Cond.code y_B_take b_B_take 5 (some .int) :: zt
abbrev zw_K_holds : List Cond := Cond.code y_K_holds b_K_holds 2 (some .boolean) :: zt
abbrev zw_K_keysBelow : List Cond := Cond.code y_K_keysBelow b_K_keysBelow 3 (some .int) :: zt
abbrev zw_K_isAt : List Cond := Cond.code y_K_isAt b_K_isAt 3 (some .boolean) :: zt
abbrev zw_E_recordAndSet : List Cond := Cond.code y_E_recordAndSet b_E_recordAndSet 4 none :: zt
abbrev zw_K_valueOf : List Cond := Cond.code y_K_valueOf b_K_valueOf 3 (some .long) :: zt
abbrev zw_R_write : List Cond := Cond.code y_R_write b_R_write 5 none :: zt
abbrev zw_R_append : List Cond := Cond.code y_R_append b_R_append 5 none :: zt
abbrev zw_K_set : List Cond := Cond.code y_K_set b_K_set 5 none :: zt
abbrev zw_K_insert : List Cond := Cond.code y_K_insert b_K_insert 5 none :: zt
abbrev zw_E_hash : List Cond := Cond.code y_E_hash b_E_hash 1 (some .int) :: zt
abbrev zw_C_countKey : List Cond := Cond.code y_C_countKey b_C_countKey 7 none :: zt
abbrev zw_C_cell : List Cond := Cond.code y_C_cell b_C_cell 3 (some .int) :: zt
abbrev zw_E_isOverfull : List Cond := Cond.code y_E_isOverfull b_E_isOverfull 1 (some .boolean) :: zt
abbrev zw_K_pagesInUse : List Cond := Cond.code y_K_pagesInUse b_K_pagesInUse 3 (some .int) :: zt
abbrev zw_C_deepest : List Cond := Cond.code y_C_deepest b_C_deepest 3 (some .int) :: zt
abbrev zw_C_depthOf : List Cond := Cond.code y_C_depthOf b_C_depthOf 3 (some .int) :: zt
abbrev zw_C_isGood : List Cond := Cond.code y_C_isGood b_C_isGood 2 (some .boolean) :: zt
abbrev zw_E_directoryPages : List Cond := Cond.code y_E_directoryPages b_E_directoryPages 1 (some .int) :: zt
abbrev zw_C_isPlace : List Cond := Cond.code y_C_isPlace b_C_isPlace 2 (some .boolean) :: zt
abbrev zw_C_maskOf : List Cond := Cond.code y_C_maskOf b_C_maskOf 2 (some .int) :: zt
abbrev zw_C_keysOfBucket : List Cond := Cond.code y_C_keysOfBucket b_C_keysOfBucket 2 (some .int) :: zt
abbrev zw_E_bucketPages : List Cond := Cond.code y_E_bucketPages b_E_bucketPages 1 (some .int) :: zt
abbrev zw_E_valuePages : List Cond := Cond.code y_E_valuePages b_E_valuePages 3 (some .int) :: zt
abbrev zw_E_bytesOf : List Cond := Cond.code y_E_bytesOf b_E_bytesOf 3 (some .int) :: zt
abbrev zw_E_takeBackFrom : List Cond := Cond.code y_E_takeBackFrom b_E_takeBackFrom 3 none :: zt
abbrev zw_K_remove : List Cond := Cond.code y_K_remove b_K_remove 3 none :: zt
abbrev zw_R_forgetFrom : List Cond := Cond.code y_R_forgetFrom b_R_forgetFrom 2 none :: zt
abbrev zw_R_settle : List Cond := Cond.code y_R_settle b_R_settle 4 none :: zt
abbrev zw_E_delete : List Cond := Cond.code y_E_delete b_E_delete 3 (some .int) :: zt
abbrev zw_E_recordAndRemove : List Cond := Cond.code y_E_recordAndRemove b_E_recordAndRemove 2 none :: zt
abbrev zw_E_has : List Cond := Cond.code y_E_has b_E_has 2 (some .boolean) :: zt
abbrev zw_E_get : List Cond := Cond.code y_E_get b_E_get 2 (some .long) :: zt
abbrev zw_E_reads : List Cond := Cond.code y_E_reads b_E_reads 3 (some .int) :: zt
abbrev zw_K_bucketPagesUpTo : List Cond := Cond.code y_K_bucketPagesUpTo b_K_bucketPagesUpTo 6 (some .int) :: zt
abbrev zw_E_open : List Cond := Cond.code y_E_open b_E_open 1 (some .boolean) :: zt
abbrev zw_B_begin : List Cond := Cond.code y_B_begin b_B_begin 1 none :: zt
abbrev zw_E_commit : List Cond := Cond.code y_E_commit b_E_commit 3 (some .int) :: zt
abbrev zw_E_doStepsOfBatch : List Cond := Cond.code y_E_doStepsOfBatch b_E_doStepsOfBatch 2 none :: zt
abbrev zw_B_end : List Cond := Cond.code y_B_end b_B_end 1 none :: zt
abbrev zw_R_closeBatch : List Cond := Cond.code y_R_closeBatch b_R_closeBatch 3 none :: zt
abbrev zw_E_abandon : List Cond := Cond.code y_E_abandon b_E_abandon 2 (some .int) :: zt
abbrev zw_E_flush : List Cond := Cond.code y_E_flush b_E_flush 2 (some .int) :: zt
abbrev zw_E_crash : List Cond := Cond.code y_E_crash b_E_crash 4 (some .int) :: zt
abbrev zw_R_survivorsAmongFirst : List Cond := Cond.code y_R_survivorsAmongFirst b_R_survivorsAmongFirst 3 (some .int) :: zt
abbrev zw_E_unflushed : List Cond := Cond.code y_E_unflushed b_E_unflushed 1 (some .int) :: zt
abbrev zw_E_steps : List Cond := Cond.code y_E_steps b_E_steps 1 (some .int) :: zt
abbrev zw_E_size : List Cond := Cond.code y_E_size b_E_size 1 (some .int) :: zt
abbrev zw_E_pages : List Cond := Cond.code y_E_pages b_E_pages 1 (some .int) :: zt
abbrev zw_E_globalDepth : List Cond := Cond.code y_E_globalDepth b_E_globalDepth 1 (some .int) :: zt
abbrev zw_E_localDepth : List Cond := Cond.code y_E_localDepth b_E_localDepth 2 (some .int) :: zt
abbrev zw_E_buckets : List Cond := Cond.code y_E_buckets b_E_buckets 1 (some .int) :: zt
abbrev zw_C_countPlaces : List Cond := Cond.code y_C_countPlaces b_C_countPlaces 3 (some .int) :: zt
abbrev zw_E_bucketAt : List Cond := Cond.code y_E_bucketAt b_E_bucketAt 4 (some .int) :: zt
abbrev zw_E_keyAt : List Cond := Cond.code y_E_keyAt b_E_keyAt 2 (some .int) :: zt
abbrev zw_K_keyInPlaceOrder : List Cond := Cond.code y_K_keyInPlaceOrder b_K_keyInPlaceOrder 5 (some .int) :: zt
abbrev zw_K_keyInBucket : List Cond := Cond.code y_K_keyInBucket b_K_keyInBucket 6 (some .int) :: zt
abbrev zw_L_cell : List Cond := Cond.code y_L_cell b_L_cell 2 (some .int) :: zt
abbrev zw_M_init : List Cond := Cond.code y_M_init b_M_init 2 none :: zt
abbrev zw_M_put : List Cond := Cond.code y_M_put b_M_put 5 (some .int) :: zt
abbrev zw_M_step : List Cond := Cond.code y_M_step b_M_step 5 (some .int) :: zt
abbrev zw_M_has : List Cond := Cond.code y_M_has b_M_has 2 (some .boolean) :: zt
abbrev zw_M_now : List Cond := Cond.code y_M_now b_M_now 1 none :: zt
abbrev zw_M_replay : List Cond := Cond.code y_M_replay b_M_replay 3 none :: zt
abbrev zw_M_set : List Cond := Cond.code y_M_set b_M_set 7 none :: zt
abbrev zw_M_find : List Cond := Cond.code y_M_find b_M_find 4 (some .int) :: zt
abbrev zw_M_remove : List Cond := Cond.code y_M_remove b_M_remove 4 none :: zt
abbrev zw_M_write : List Cond := Cond.code y_M_write b_M_write 6 none :: zt
abbrev zw_M_stays : List Cond := Cond.code y_M_stays b_M_stays 2 (some .boolean) :: zt
abbrev zw_M_inUse : List Cond := Cond.code y_M_inUse b_M_inUse 6 (some .int) :: zt
abbrev zw_M_greatest : List Cond := Cond.code y_M_greatest b_M_greatest 4 (some .int) :: zt
abbrev zw_M_depthOf : List Cond := Cond.code y_M_depthOf b_M_depthOf 5 (some .int) :: zt
abbrev zw_M_good : List Cond := Cond.code y_M_good b_M_good 8 (some .boolean) :: zt
abbrev zw_M_hash : List Cond := Cond.code y_M_hash b_M_hash 2 (some .int) :: zt
abbrev zw_M_inClass : List Cond := Cond.code y_M_inClass b_M_inClass 4 (some .boolean) :: zt
abbrev zw_M_count : List Cond := Cond.code y_M_count b_M_count 5 (some .int) :: zt
abbrev zw_M_valuePages : List Cond := Cond.code y_M_valuePages b_M_valuePages 4 (some .int) :: zt
abbrev zw_M_bytes : List Cond := Cond.code y_M_bytes b_M_bytes 7 (some .int) :: zt
abbrev zw_M_settle : List Cond := Cond.code y_M_settle b_M_settle 3 none :: zt
abbrev zw_M_delete : List Cond := Cond.code y_M_delete b_M_delete 2 (some .int) :: zt
abbrev zw_M_open : List Cond := Cond.code y_M_open b_M_open 1 (some .boolean) :: zt
abbrev zw_M_commit : List Cond := Cond.code y_M_commit b_M_commit 3 (some .int) :: zt
abbrev zw_M_abandon : List Cond := Cond.code y_M_abandon b_M_abandon 1 (some .int) :: zt
abbrev zw_M_flush : List Cond := Cond.code y_M_flush b_M_flush 2 (some .int) :: zt
abbrev zw_M_crash : List Cond := Cond.code y_M_crash b_M_crash 5 (some .int) :: zt
abbrev zw_M_get : List Cond := Cond.code y_M_get b_M_get 3 (some .long) :: zt
abbrev zw_M_reads : List Cond := Cond.code y_M_reads b_M_reads 10 (some .int) :: zt
abbrev zw_M_bucketOf : List Cond := Cond.code y_M_bucketOf b_M_bucketOf 6 (some .int) :: zt
abbrev zw_M_unflushed : List Cond := Cond.code y_M_unflushed b_M_unflushed 1 (some .int) :: zt
abbrev zw_M_steps : List Cond := Cond.code y_M_steps b_M_steps 1 (some .int) :: zt
abbrev zw_M_size : List Cond := Cond.code y_M_size b_M_size 1 (some .int) :: zt
abbrev zw_M_pages : List Cond := Cond.code y_M_pages b_M_pages 1 (some .int) :: zt
abbrev zw_M_globalDepth : List Cond := Cond.code y_M_globalDepth b_M_globalDepth 1 (some .int) :: zt
abbrev zw_M_localDepth : List Cond := Cond.code y_M_localDepth b_M_localDepth 2 (some .int) :: zt
abbrev zw_M_buckets : List Cond := Cond.code y_M_buckets b_M_buckets 3 (some .int) :: zt
abbrev zw_M_bucketAt : List Cond := Cond.code y_M_bucketAt b_M_bucketAt 4 (some .int) :: zt
abbrev zw_M_keyAt : List Cond := Cond.code y_M_keyAt b_M_keyAt 6 (some .int) :: zt
theorem zt_good {w : Cond} (h : w ∈ zt) : (w.onTables && w.keeps) = true ∨ ∃ ty, w = .arrayClass ty := good_of_word (List.mem_filter.mp h).2
theorem zt_of {w : Cond} (i : Nat) (h : tables_1[i]? = some w) (g : goodWord w = true) : w ∈ zt := List.mem_filter.mpr ⟨List.mem_append_right _ (List.mem_of_getElem? h), g⟩
theorem zt_sel {w : Cond} (i : Nat) (h : (k2_sels lw_privs)[i]? = some w) (g : goodWord w = true) : w ∈ zt := List.mem_filter.mpr ⟨List.mem_append_left _ (List.mem_of_getElem? h), g⟩
theorem zn_of {w : Cond} (i : Nat) (h : tables_1[i]? = some w) (g : zb_n w = true) : w ∈ zn_L := List.mem_filter.mpr ⟨List.mem_of_getElem? h, g⟩
theorem zg_C {z c : Cond} (h5 : c ∈ zt) : GoodIn (z :: zt) (c :: zt) := by
  intro w hw
  have h : w ∈ zt := by
    rcases List.mem_cons.mp hw with rfl | hw
    · exact h5
    · exact hw
  exact ⟨List.mem_cons_of_mem _ h, zt_good h⟩
theorem zg_V {z c : Cond} {own C : String} {idx : Nat} {y : MethodName} (h1 : Cond.methodLink own idx y ∈ zt) (h2 : Cond.instanceMethod y ∈ zt) (h3 : Cond.selects C y y ∈ zt) (h4 : Cond.initialized C ∈ zt) (h5 : c ∈ zt) : GoodIn (z :: zt) (wsV own idx C y (c :: zt)) := by
  intro w hw
  have h : w ∈ zt := by
    rcases List.mem_append.mp hw with hw | hw
    · simp only [List.mem_cons, List.not_mem_nil, or_false] at hw
      rcases hw with rfl | rfl | rfl | rfl <;> assumption
    · rcases List.mem_cons.mp hw with rfl | hw
      · exact h5
      · exact hw
  exact ⟨List.mem_cons_of_mem _ h, zt_good h⟩
theorem zg_S {z c : Cond} {own : String} {idx : Nat} {y : MethodName} (h1 : Cond.methodLink own idx y ∈ zt) (h2 : Cond.static y ∈ zt) (h4 : Cond.initialized own ∈ zt) (h5 : c ∈ zt) : GoodIn (z :: zt) (wsS own idx y (c :: zt)) := by
  intro w hw
  have h : w ∈ zt := by
    rcases List.mem_append.mp hw with hw | hw
    · simp only [List.mem_cons, List.not_mem_nil, or_false] at hw
      rcases hw with rfl | rfl | rfl <;> assumption
    · rcases List.mem_cons.mp hw with rfl | hw
      · exact h5
      · exact hw
  exact ⟨List.mem_cons_of_mem _ h, zt_good h⟩
theorem zj_E : ∀ w ∈ u_ws R_E F_E 4, w ∈ zt := by decide +kernel
theorem zi_E (z : Cond) : ∀ w ∈ u_ws R_E F_E 4, w ∈ z :: zt := fun w h => List.mem_cons_of_mem _ (zj_E w h)
theorem zj_K : ∀ w ∈ u_ws R_K F_K 4, w ∈ zt := by decide +kernel
theorem zi_K (z : Cond) : ∀ w ∈ u_ws R_K F_K 4, w ∈ z :: zt := fun w h => List.mem_cons_of_mem _ (zj_K w h)
theorem zj_C : ∀ w ∈ u_ws R_C F_C 2, w ∈ zt := by decide +kernel
theorem zi_C (z : Cond) : ∀ w ∈ u_ws R_C F_C 2, w ∈ z :: zt := fun w h => List.mem_cons_of_mem _ (zj_C w h)
theorem zj_R : ∀ w ∈ u_ws R_R F_R 5, w ∈ zt := by decide +kernel
theorem zi_R (z : Cond) : ∀ w ∈ u_ws R_R F_R 5, w ∈ z :: zt := fun w h => List.mem_cons_of_mem _ (zj_R w h)
theorem zj_B : ∀ w ∈ u_ws R_B F_B 5, w ∈ zt := by decide +kernel
theorem zi_B (z : Cond) : ∀ w ∈ u_ws R_B F_B 5, w ∈ z :: zt := fun w h => List.mem_cons_of_mem _ (zj_B w h)
theorem zj_M : ∀ w ∈ u_ws R_M F_M 17, w ∈ zt := by decide +kernel
theorem zi_M (z : Cond) : ∀ w ∈ u_ws R_M F_M 17, w ∈ z :: zt := fun w h => List.mem_cons_of_mem _ (zj_M w h)
/-- what is known of the links to private members of nest mates -/
def zN (U : State) : Prop := ∀ w ∈ zn_L, va_Nw w U
theorem zN_warm {s U : State} (hW : s.WarmedH U.vm) (h : zN s) : zN U := by
  intro w hw
  have h1 := h w hw
  have h2 : zb_n w = true := (List.mem_filter.mp hw).2
  cases w <;> first | exact h1.warmF hW | exact h1.warmM hW | cases h2
theorem zN_same {u U : State} (hv : u.vm = U.vm) (h : zN u) : zN U := by
  intro w hw
  have h1 := h w hw
  have h2 : zb_n w = true := (List.mem_filter.mp hw).2
  cases w <;> first | exact va_Nw.same rfl hv h1 | cases h2
theorem zN_of {A : Array Value} {U : State} (h : ∀ w ∈ lw_tbl, w.before A U = true) : zN U := by
  intro w hw
  have h1 := h w (List.mem_append_right _ (List.mem_filter.mp hw).1)
  have h2 : zb_n w = true := (List.mem_filter.mp hw).2
  cases w <;> first | exact va_Nw.of rfl h1 | cases h2
end
section
/-! The words of the tables, by their places. -/
theorem zm_0 : (Cond.initialized R_L) ∈ zt := zt_of 0 (by decide +kernel) rfl
theorem zm_1 : (Cond.initialized R_E) ∈ zt := zt_of 1 (by decide +kernel) rfl
theorem zm_2 : (Cond.initialized "java/lang/Math") ∈ zt := zt_of 2 (by decide +kernel) rfl
theorem zm_3 : (Cond.initialized R_K) ∈ zt := zt_of 3 (by decide +kernel) rfl
theorem zm_4 : (Cond.initialized R_C) ∈ zt := zt_of 4 (by decide +kernel) rfl
theorem zm_5 : (Cond.initialized R_R) ∈ zt := zt_of 5 (by decide +kernel) rfl
theorem zm_6 : (Cond.initialized R_B) ∈ zt := zt_of 6 (by decide +kernel) rfl
theorem zm_7 : (Cond.initialized R_M) ∈ zt := zt_of 7 (by decide +kernel) rfl
theorem zm_8 : (Cond.initialized "java/lang/System") ∈ zt := zt_of 8 (by decide +kernel) rfl
theorem zm_9 : (Cond.classLink R_L (7 : Nat) R_E) ∈ zt := zt_of 9 (by decide +kernel) rfl
theorem zm_10 : (Cond.instantiable R_E (4 : Nat)) ∈ zt := zt_of 10 (by decide +kernel) rfl
theorem zm_11 : (Cond.methodLink R_L (15 : Nat) y_E_init) ∈ zt := zt_of 11 (by decide +kernel) rfl
theorem zm_12 : (Cond.instanceMethod y_E_init) ∈ zt := zt_of 12 (by decide +kernel) rfl
theorem zm_13 : (Cond.code y_E_init b_E_init 2 none) ∈ zt := zt_of 13 (by decide +kernel) rfl
theorem zm_14 : (Cond.methodLink R_E (3 : Nat) objectInit) ∈ zt := zt_of 14 (by decide +kernel) rfl
theorem zm_15 : (Cond.instanceMethod objectInit) ∈ zt := zt_of 15 (by decide +kernel) rfl
theorem zm_16 : (Cond.code objectInit ⟨#[0xb1]⟩ 1 none) ∈ zt := zt_of 16 (by decide +kernel) rfl
theorem zm_17 : (Cond.methodLink R_E (9 : Nat) Lib.Math.min.name) ∈ zt := zt_of 17 (by decide +kernel) rfl
theorem zm_18 : (Cond.static Lib.Math.min.name) ∈ zt := zt_of 18 (by decide +kernel) rfl
theorem zm_19 : (Cond.code Lib.Math.min.name Lib.Math.min.code 2 (some .int)) ∈ zt := zt_of 19 (by decide +kernel) rfl
theorem zm_20 : (Cond.methodLink R_E (15 : Nat) Lib.Math.max.name) ∈ zt := zt_of 20 (by decide +kernel) rfl
theorem zm_21 : (Cond.static Lib.Math.max.name) ∈ zt := zt_of 21 (by decide +kernel) rfl
theorem zm_22 : (Cond.code Lib.Math.max.name Lib.Math.max.code 2 (some .int)) ∈ zt := zt_of 22 (by decide +kernel) rfl
theorem zm_23 : (Cond.classLink R_E (22 : Nat) R_K) ∈ zt := zt_of 23 (by decide +kernel) rfl
theorem zm_24 : (Cond.instantiable R_K (4 : Nat)) ∈ zt := zt_of 24 (by decide +kernel) rfl
theorem zn_25 : (Cond.methodLinkNest R_E (24 : Nat) y_K_init R_E) ∈ zn_L := zn_of 25 (by decide +kernel) rfl
theorem zm_26 : (Cond.instanceMethod y_K_init) ∈ zt := zt_of 26 (by decide +kernel) rfl
theorem zm_27 : (Cond.code y_K_init b_K_init 1 none) ∈ zt := zt_of 27 (by decide +kernel) rfl
theorem zm_28 : (Cond.methodLink R_K (3 : Nat) objectInit) ∈ zt := zt_of 28 (by decide +kernel) rfl
theorem zm_29 : (Cond.classLink R_K (19 : Nat) R_C) ∈ zt := zt_of 29 (by decide +kernel) rfl
theorem zm_30 : (Cond.instantiable R_C (2 : Nat)) ∈ zt := zt_of 30 (by decide +kernel) rfl
theorem zn_31 : (Cond.methodLinkNest R_K (21 : Nat) y_C_init R_E) ∈ zn_L := zn_of 31 (by decide +kernel) rfl
theorem zm_32 : (Cond.instanceMethod y_C_init) ∈ zt := zt_of 32 (by decide +kernel) rfl
theorem zm_33 : (Cond.code y_C_init b_C_init 1 none) ∈ zt := zt_of 33 (by decide +kernel) rfl
theorem zm_34 : (Cond.methodLink R_C (3 : Nat) objectInit) ∈ zt := zt_of 34 (by decide +kernel) rfl
theorem zm_35 : (Cond.fieldLink R_C (9 : Nat) R_C "keysIn" "[I") ∈ zt := zt_of 35 (by decide +kernel) rfl
theorem zm_36 : (Cond.fieldLink R_C (15 : Nat) R_C "hashesIn" "[I") ∈ zt := zt_of 36 (by decide +kernel) rfl
theorem zm_42 : (Cond.arrayClass FieldType.int) ∈ zt := zt_of 42 (by decide +kernel) rfl
theorem zm_43 : (Cond.arrayClass FieldType.long) ∈ zt := zt_of 43 (by decide +kernel) rfl
theorem zm_44 : (Cond.fieldLink R_K (11 : Nat) R_K "keys" "[I") ∈ zt := zt_of 44 (by decide +kernel) rfl
theorem zm_45 : (Cond.fieldLink R_K (15 : Nat) R_K "values" "[J") ∈ zt := zt_of 45 (by decide +kernel) rfl
theorem zm_46 : (Cond.fieldLink R_K (22 : Nat) R_K "classes" "LExtendiblePages$Classes;") ∈ zt := zt_of 46 (by decide +kernel) rfl
theorem zn_47 : (Cond.fieldLinkNest R_E (112 : Nat) R_K "classes" "LExtendiblePages$Classes;" R_E) ∈ zn_L := zn_of 47 (by decide +kernel) rfl
theorem zm_48 : (Cond.fieldLink R_K (34 : Nat) R_K "count" "I") ∈ zt := zt_of 48 (by decide +kernel) rfl
theorem zn_49 : (Cond.fieldLinkNest R_E (107 : Nat) R_K "count" "I" R_E) ∈ zn_L := zn_of 49 (by decide +kernel) rfl
theorem zm_59 : (Cond.classLink R_E (29 : Nat) R_R) ∈ zt := zt_of 59 (by decide +kernel) rfl
theorem zm_60 : (Cond.instantiable R_R (5 : Nat)) ∈ zt := zt_of 60 (by decide +kernel) rfl
theorem zn_61 : (Cond.methodLinkNest R_E (31 : Nat) y_R_init R_E) ∈ zn_L := zn_of 61 (by decide +kernel) rfl
theorem zm_62 : (Cond.instanceMethod y_R_init) ∈ zt := zt_of 62 (by decide +kernel) rfl
theorem zm_63 : (Cond.code y_R_init b_R_init 1 none) ∈ zt := zt_of 63 (by decide +kernel) rfl
theorem zm_64 : (Cond.methodLink R_R (3 : Nat) objectInit) ∈ zt := zt_of 64 (by decide +kernel) rfl
theorem zm_65 : (Cond.fieldLink R_R (11 : Nat) R_R "keys" "[I") ∈ zt := zt_of 65 (by decide +kernel) rfl
theorem zn_66 : (Cond.fieldLinkNest R_E (161 : Nat) R_R "keys" "[I" R_E) ∈ zn_L := zn_of 66 (by decide +kernel) rfl
theorem zm_67 : (Cond.fieldLink R_R (15 : Nat) R_R "values" "[J") ∈ zt := zt_of 67 (by decide +kernel) rfl
theorem zn_68 : (Cond.fieldLinkNest R_E (162 : Nat) R_R "values" "[J" R_E) ∈ zn_L := zn_of 68 (by decide +kernel) rfl
theorem zm_69 : (Cond.fieldLink R_R (19 : Nat) R_R "formers" "[I") ∈ zt := zt_of 69 (by decide +kernel) rfl
theorem zn_70 : (Cond.fieldLinkNest R_E (158 : Nat) R_R "formers" "[I" R_E) ∈ zn_L := zn_of 70 (by decide +kernel) rfl
theorem zm_71 : (Cond.fieldLink R_R (22 : Nat) R_R "starts" "[I") ∈ zt := zt_of 71 (by decide +kernel) rfl
theorem zn_72 : (Cond.fieldLinkNest R_E (51 : Nat) R_R "count" "I" R_E) ∈ zn_L := zn_of 72 (by decide +kernel) rfl
theorem zm_73 : (Cond.fieldLink R_R (29 : Nat) R_R "count" "I") ∈ zt := zt_of 73 (by decide +kernel) rfl
theorem zm_85 : (Cond.classLink R_E (36 : Nat) R_B) ∈ zt := zt_of 85 (by decide +kernel) rfl
theorem zm_86 : (Cond.instantiable R_B (5 : Nat)) ∈ zt := zt_of 86 (by decide +kernel) rfl
theorem zn_87 : (Cond.methodLinkNest R_E (38 : Nat) y_B_init R_E) ∈ zn_L := zn_of 87 (by decide +kernel) rfl
theorem zm_88 : (Cond.instanceMethod y_B_init) ∈ zt := zt_of 88 (by decide +kernel) rfl
theorem zm_89 : (Cond.code y_B_init b_B_init 1 none) ∈ zt := zt_of 89 (by decide +kernel) rfl
theorem zm_90 : (Cond.methodLink R_B (3 : Nat) objectInit) ∈ zt := zt_of 90 (by decide +kernel) rfl
theorem zm_91 : (Cond.fieldLink R_B (9 : Nat) R_B "isPut" "[Z") ∈ zt := zt_of 91 (by decide +kernel) rfl
theorem zn_92 : (Cond.fieldLinkNest R_E (146 : Nat) R_B "isPut" "[Z" R_E) ∈ zn_L := zn_of 92 (by decide +kernel) rfl
theorem zm_93 : (Cond.fieldLink R_B (15 : Nat) R_B "keys" "[I") ∈ zt := zt_of 93 (by decide +kernel) rfl
theorem zn_94 : (Cond.fieldLinkNest R_E (150 : Nat) R_B "keys" "[I" R_E) ∈ zn_L := zn_of 94 (by decide +kernel) rfl
theorem zm_95 : (Cond.fieldLink R_B (19 : Nat) R_B "values" "[J") ∈ zt := zt_of 95 (by decide +kernel) rfl
theorem zn_96 : (Cond.fieldLinkNest R_E (154 : Nat) R_B "values" "[J" R_E) ∈ zn_L := zn_of 96 (by decide +kernel) rfl
theorem zm_97 : (Cond.fieldLink R_B (23 : Nat) R_B "isOpen" "Z") ∈ zt := zt_of 97 (by decide +kernel) rfl
theorem zn_98 : (Cond.fieldLinkNest R_E (43 : Nat) R_B "isOpen" "Z" R_E) ∈ zn_L := zn_of 98 (by decide +kernel) rfl
theorem zm_99 : (Cond.fieldLink R_B (27 : Nat) R_B "count" "I") ∈ zt := zt_of 99 (by decide +kernel) rfl
theorem zn_100 : (Cond.fieldLinkNest R_E (100 : Nat) R_B "count" "I" R_E) ∈ zn_L := zn_of 100 (by decide +kernel) rfl
theorem zm_112 : (Cond.arrayClass FieldType.boolean) ∈ zt := zt_of 112 (by decide +kernel) rfl
theorem zm_113 : (Cond.fieldLink R_E (18 : Nat) R_E "pagesOfStore" "I") ∈ zt := zt_of 113 (by decide +kernel) rfl
theorem zm_114 : (Cond.fieldLink R_E (25 : Nat) R_E "kept" "LExtendiblePages$Kept;") ∈ zt := zt_of 114 (by decide +kernel) rfl
theorem zm_115 : (Cond.fieldLink R_E (32 : Nat) R_E "records" "LExtendiblePages$Records;") ∈ zt := zt_of 115 (by decide +kernel) rfl
theorem zm_116 : (Cond.fieldLink R_E (39 : Nat) R_E "batch" "LExtendiblePages$Batch;") ∈ zt := zt_of 116 (by decide +kernel) rfl
theorem zm_126 : (Cond.methodLink R_L (23 : Nat) y_E_put) ∈ zt := zt_of 126 (by decide +kernel) rfl
theorem zm_127 : (Cond.instanceMethod y_E_put) ∈ zt := zt_of 127 (by decide +kernel) rfl
theorem zm_128 : (Cond.selects R_E y_E_put y_E_put) ∈ zt := zt_of 128 (by decide +kernel) rfl
theorem zm_129 : (Cond.code y_E_put b_E_put 6 (some .int)) ∈ zt := zt_of 129 (by decide +kernel) rfl
theorem zm_130 : (Cond.methodLink R_E (47 : Nat) y_B_take) ∈ zt := zt_of 130 (by decide +kernel) rfl
theorem zm_131 : (Cond.instanceMethod y_B_take) ∈ zt := zt_of 131 (by decide +kernel) rfl
theorem zm_132 : (Cond.selects R_B y_B_take y_B_take) ∈ zt := zt_of 132 (by decide +kernel) rfl
theorem zm_133 : (Cond.code y_B_take b_B_take 5 (some .int)) ∈ zt := zt_of 133 (by decide +kernel) rfl
theorem zm_134 : (Cond.methodLink R_E (54 : Nat) y_K_holds) ∈ zt := zt_of 134 (by decide +kernel) rfl
theorem zm_135 : (Cond.instanceMethod y_K_holds) ∈ zt := zt_of 135 (by decide +kernel) rfl
theorem zm_136 : (Cond.selects R_K y_K_holds y_K_holds) ∈ zt := zt_of 136 (by decide +kernel) rfl
theorem zm_137 : (Cond.code y_K_holds b_K_holds 2 (some .boolean)) ∈ zt := zt_of 137 (by decide +kernel) rfl
theorem zm_138 : (Cond.methodLink R_K (26 : Nat) y_K_keysBelow) ∈ zt := zt_of 138 (by decide +kernel) rfl
theorem zm_140 : (Cond.instanceMethod y_K_keysBelow) ∈ zt := zt_of 140 (by decide +kernel) rfl
theorem zm_141 : (Cond.code y_K_keysBelow b_K_keysBelow 3 (some .int)) ∈ zt := zt_of 141 (by decide +kernel) rfl
theorem zm_142 : (Cond.methodLink R_K (30 : Nat) y_K_isAt) ∈ zt := zt_of 142 (by decide +kernel) rfl
theorem zm_144 : (Cond.instanceMethod y_K_isAt) ∈ zt := zt_of 144 (by decide +kernel) rfl
theorem zm_145 : (Cond.code y_K_isAt b_K_isAt 3 (some .boolean)) ∈ zt := zt_of 145 (by decide +kernel) rfl
theorem zm_146 : (Cond.methodLink R_E (58 : Nat) y_E_recordAndSet) ∈ zt := zt_of 146 (by decide +kernel) rfl
theorem zm_148 : (Cond.instanceMethod y_E_recordAndSet) ∈ zt := zt_of 148 (by decide +kernel) rfl
theorem zm_149 : (Cond.code y_E_recordAndSet b_E_recordAndSet 4 none) ∈ zt := zt_of 149 (by decide +kernel) rfl
theorem zm_150 : (Cond.methodLink R_E (76 : Nat) y_K_valueOf) ∈ zt := zt_of 150 (by decide +kernel) rfl
theorem zm_151 : (Cond.instanceMethod y_K_valueOf) ∈ zt := zt_of 151 (by decide +kernel) rfl
theorem zm_152 : (Cond.selects R_K y_K_valueOf y_K_valueOf) ∈ zt := zt_of 152 (by decide +kernel) rfl
theorem zm_153 : (Cond.code y_K_valueOf b_K_valueOf 3 (some .long)) ∈ zt := zt_of 153 (by decide +kernel) rfl
theorem zm_154 : (Cond.methodLink R_E (136 : Nat) y_R_write) ∈ zt := zt_of 154 (by decide +kernel) rfl
theorem zm_155 : (Cond.instanceMethod y_R_write) ∈ zt := zt_of 155 (by decide +kernel) rfl
theorem zm_156 : (Cond.selects R_R y_R_write y_R_write) ∈ zt := zt_of 156 (by decide +kernel) rfl
theorem zm_157 : (Cond.code y_R_write b_R_write 5 none) ∈ zt := zt_of 157 (by decide +kernel) rfl
theorem zm_158 : (Cond.methodLink R_R (25 : Nat) y_R_append) ∈ zt := zt_of 158 (by decide +kernel) rfl
theorem zm_160 : (Cond.instanceMethod y_R_append) ∈ zt := zt_of 160 (by decide +kernel) rfl
theorem zm_161 : (Cond.code y_R_append b_R_append 5 none) ∈ zt := zt_of 161 (by decide +kernel) rfl
theorem zm_162 : (Cond.methodLink R_E (140 : Nat) y_K_set) ∈ zt := zt_of 162 (by decide +kernel) rfl
theorem zm_163 : (Cond.instanceMethod y_K_set) ∈ zt := zt_of 163 (by decide +kernel) rfl
theorem zm_164 : (Cond.selects R_K y_K_set y_K_set) ∈ zt := zt_of 164 (by decide +kernel) rfl
theorem zm_165 : (Cond.code y_K_set b_K_set 5 none) ∈ zt := zt_of 165 (by decide +kernel) rfl
theorem zm_166 : (Cond.methodLink R_K (38 : Nat) y_K_insert) ∈ zt := zt_of 166 (by decide +kernel) rfl
theorem zm_168 : (Cond.instanceMethod y_K_insert) ∈ zt := zt_of 168 (by decide +kernel) rfl
theorem zm_169 : (Cond.code y_K_insert b_K_insert 5 none) ∈ zt := zt_of 169 (by decide +kernel) rfl
theorem zm_170 : (Cond.methodLink R_K (42 : Nat) arraycopyName) ∈ zt := zt_of 170 (by decide +kernel) rfl
theorem zm_171 : (Cond.static arraycopyName) ∈ zt := zt_of 171 (by decide +kernel) rfl
theorem zm_172 : (Cond.native arraycopyName) ∈ zt := zt_of 172 (by decide +kernel) rfl
theorem zn_173 : (Cond.methodLinkNest R_K (48 : Nat) y_E_hash R_E) ∈ zn_L := zn_of 173 (by decide +kernel) rfl
theorem zm_174 : (Cond.static y_E_hash) ∈ zt := zt_of 174 (by decide +kernel) rfl
theorem zm_175 : (Cond.code y_E_hash b_E_hash 1 (some .int)) ∈ zt := zt_of 175 (by decide +kernel) rfl
theorem zm_176 : (Cond.methodLink R_K (51 : Nat) y_C_countKey) ∈ zt := zt_of 176 (by decide +kernel) rfl
theorem zm_177 : (Cond.instanceMethod y_C_countKey) ∈ zt := zt_of 177 (by decide +kernel) rfl
theorem zm_178 : (Cond.selects R_C y_C_countKey y_C_countKey) ∈ zt := zt_of 178 (by decide +kernel) rfl
theorem zm_179 : (Cond.code y_C_countKey b_C_countKey 7 none) ∈ zt := zt_of 179 (by decide +kernel) rfl
theorem zm_180 : (Cond.methodLink R_C (18 : Nat) y_C_cell) ∈ zt := zt_of 180 (by decide +kernel) rfl
theorem zm_181 : (Cond.static y_C_cell) ∈ zt := zt_of 181 (by decide +kernel) rfl
theorem zm_182 : (Cond.code y_C_cell b_C_cell 3 (some .int)) ∈ zt := zt_of 182 (by decide +kernel) rfl
theorem zm_183 : (Cond.methodLink R_E (62 : Nat) y_E_isOverfull) ∈ zt := zt_of 183 (by decide +kernel) rfl
theorem zm_185 : (Cond.instanceMethod y_E_isOverfull) ∈ zt := zt_of 185 (by decide +kernel) rfl
theorem zm_186 : (Cond.code y_E_isOverfull b_E_isOverfull 1 (some .boolean)) ∈ zt := zt_of 186 (by decide +kernel) rfl
theorem zm_187 : (Cond.methodLink R_E (108 : Nat) y_K_pagesInUse) ∈ zt := zt_of 187 (by decide +kernel) rfl
theorem zm_188 : (Cond.instanceMethod y_K_pagesInUse) ∈ zt := zt_of 188 (by decide +kernel) rfl
theorem zm_189 : (Cond.selects R_K y_K_pagesInUse y_K_pagesInUse) ∈ zt := zt_of 189 (by decide +kernel) rfl
theorem zm_190 : (Cond.code y_K_pagesInUse b_K_pagesInUse 3 (some .int)) ∈ zt := zt_of 190 (by decide +kernel) rfl
theorem zm_191 : (Cond.methodLink R_K (55 : Nat) y_C_deepest) ∈ zt := zt_of 191 (by decide +kernel) rfl
theorem zm_192 : (Cond.instanceMethod y_C_deepest) ∈ zt := zt_of 192 (by decide +kernel) rfl
theorem zm_193 : (Cond.selects R_C y_C_deepest y_C_deepest) ∈ zt := zt_of 193 (by decide +kernel) rfl
theorem zm_194 : (Cond.code y_C_deepest b_C_deepest 3 (some .int)) ∈ zt := zt_of 194 (by decide +kernel) rfl
theorem zm_195 : (Cond.methodLink R_C (26 : Nat) y_C_depthOf) ∈ zt := zt_of 195 (by decide +kernel) rfl
theorem zm_196 : (Cond.instanceMethod y_C_depthOf) ∈ zt := zt_of 196 (by decide +kernel) rfl
theorem zm_197 : (Cond.selects R_C y_C_depthOf y_C_depthOf) ∈ zt := zt_of 197 (by decide +kernel) rfl
theorem zm_198 : (Cond.code y_C_depthOf b_C_depthOf 3 (some .int)) ∈ zt := zt_of 198 (by decide +kernel) rfl
theorem zm_199 : (Cond.methodLink R_C (22 : Nat) y_C_isGood) ∈ zt := zt_of 199 (by decide +kernel) rfl
theorem zm_201 : (Cond.instanceMethod y_C_isGood) ∈ zt := zt_of 201 (by decide +kernel) rfl
theorem zm_202 : (Cond.code y_C_isGood b_C_isGood 2 (some .boolean)) ∈ zt := zt_of 202 (by decide +kernel) rfl
theorem zm_203 : (Cond.methodLink R_C (30 : Nat) Lib.Math.max.name) ∈ zt := zt_of 203 (by decide +kernel) rfl
theorem zn_204 : (Cond.methodLinkNest R_K (59 : Nat) y_E_directoryPages R_E) ∈ zn_L := zn_of 204 (by decide +kernel) rfl
theorem zm_205 : (Cond.static y_E_directoryPages) ∈ zt := zt_of 205 (by decide +kernel) rfl
theorem zm_206 : (Cond.code y_E_directoryPages b_E_directoryPages 1 (some .int)) ∈ zt := zt_of 206 (by decide +kernel) rfl
theorem zm_207 : (Cond.methodLink R_K (62 : Nat) y_C_isPlace) ∈ zt := zt_of 207 (by decide +kernel) rfl
theorem zm_208 : (Cond.instanceMethod y_C_isPlace) ∈ zt := zt_of 208 (by decide +kernel) rfl
theorem zm_209 : (Cond.selects R_C y_C_isPlace y_C_isPlace) ∈ zt := zt_of 209 (by decide +kernel) rfl
theorem zm_210 : (Cond.code y_C_isPlace b_C_isPlace 2 (some .boolean)) ∈ zt := zt_of 210 (by decide +kernel) rfl
theorem zm_211 : (Cond.methodLink R_C (35 : Nat) y_C_maskOf) ∈ zt := zt_of 211 (by decide +kernel) rfl
theorem zm_212 : (Cond.instanceMethod y_C_maskOf) ∈ zt := zt_of 212 (by decide +kernel) rfl
theorem zm_213 : (Cond.selects R_C y_C_maskOf y_C_maskOf) ∈ zt := zt_of 213 (by decide +kernel) rfl
theorem zm_214 : (Cond.code y_C_maskOf b_C_maskOf 2 (some .int)) ∈ zt := zt_of 214 (by decide +kernel) rfl
theorem zm_215 : (Cond.methodLink R_K (66 : Nat) y_C_keysOfBucket) ∈ zt := zt_of 215 (by decide +kernel) rfl
theorem zm_216 : (Cond.instanceMethod y_C_keysOfBucket) ∈ zt := zt_of 216 (by decide +kernel) rfl
theorem zm_217 : (Cond.selects R_C y_C_keysOfBucket y_C_keysOfBucket) ∈ zt := zt_of 217 (by decide +kernel) rfl
theorem zm_218 : (Cond.code y_C_keysOfBucket b_C_keysOfBucket 2 (some .int)) ∈ zt := zt_of 218 (by decide +kernel) rfl
theorem zn_219 : (Cond.methodLinkNest R_K (69 : Nat) y_E_bucketPages R_E) ∈ zn_L := zn_of 219 (by decide +kernel) rfl
theorem zm_220 : (Cond.static y_E_bucketPages) ∈ zt := zt_of 220 (by decide +kernel) rfl
theorem zm_221 : (Cond.code y_E_bucketPages b_E_bucketPages 1 (some .int)) ∈ zt := zt_of 221 (by decide +kernel) rfl
theorem zn_222 : (Cond.methodLinkNest R_K (72 : Nat) y_E_valuePages R_E) ∈ zn_L := zn_of 222 (by decide +kernel) rfl
theorem zm_223 : (Cond.static y_E_valuePages) ∈ zt := zt_of 223 (by decide +kernel) rfl
theorem zm_224 : (Cond.code y_E_valuePages b_E_valuePages 3 (some .int)) ∈ zt := zt_of 224 (by decide +kernel) rfl
theorem zm_225 : (Cond.methodLink R_E (163 : Nat) y_E_bytesOf) ∈ zt := zt_of 225 (by decide +kernel) rfl
theorem zm_226 : (Cond.static y_E_bytesOf) ∈ zt := zt_of 226 (by decide +kernel) rfl
theorem zm_227 : (Cond.code y_E_bytesOf b_E_bytesOf 3 (some .int)) ∈ zt := zt_of 227 (by decide +kernel) rfl
theorem zm_228 : (Cond.methodLink R_E (66 : Nat) y_E_takeBackFrom) ∈ zt := zt_of 228 (by decide +kernel) rfl
theorem zm_230 : (Cond.instanceMethod y_E_takeBackFrom) ∈ zt := zt_of 230 (by decide +kernel) rfl
theorem zm_231 : (Cond.code y_E_takeBackFrom b_E_takeBackFrom 3 none) ∈ zt := zt_of 231 (by decide +kernel) rfl
theorem zm_232 : (Cond.methodLink R_E (143 : Nat) y_K_remove) ∈ zt := zt_of 232 (by decide +kernel) rfl
theorem zm_233 : (Cond.instanceMethod y_K_remove) ∈ zt := zt_of 233 (by decide +kernel) rfl
theorem zm_234 : (Cond.selects R_K y_K_remove y_K_remove) ∈ zt := zt_of 234 (by decide +kernel) rfl
theorem zm_235 : (Cond.code y_K_remove b_K_remove 3 none) ∈ zt := zt_of 235 (by decide +kernel) rfl
theorem zm_236 : (Cond.methodLink R_E (101 : Nat) y_R_forgetFrom) ∈ zt := zt_of 236 (by decide +kernel) rfl
theorem zm_237 : (Cond.instanceMethod y_R_forgetFrom) ∈ zt := zt_of 237 (by decide +kernel) rfl
theorem zm_238 : (Cond.selects R_R y_R_forgetFrom y_R_forgetFrom) ∈ zt := zt_of 238 (by decide +kernel) rfl
theorem zm_239 : (Cond.code y_R_forgetFrom b_R_forgetFrom 2 none) ∈ zt := zt_of 239 (by decide +kernel) rfl
theorem zm_240 : (Cond.methodLink R_R (33 : Nat) Lib.Math.min.name) ∈ zt := zt_of 240 (by decide +kernel) rfl
theorem zm_241 : (Cond.methodLink R_E (70 : Nat) y_R_settle) ∈ zt := zt_of 241 (by decide +kernel) rfl
theorem zm_242 : (Cond.instanceMethod y_R_settle) ∈ zt := zt_of 242 (by decide +kernel) rfl
theorem zm_243 : (Cond.selects R_R y_R_settle y_R_settle) ∈ zt := zt_of 243 (by decide +kernel) rfl
theorem zm_244 : (Cond.code y_R_settle b_R_settle 4 none) ∈ zt := zt_of 244 (by decide +kernel) rfl
theorem zm_245 : (Cond.methodLink R_L (28 : Nat) y_E_delete) ∈ zt := zt_of 245 (by decide +kernel) rfl
theorem zm_246 : (Cond.instanceMethod y_E_delete) ∈ zt := zt_of 246 (by decide +kernel) rfl
theorem zm_247 : (Cond.selects R_E y_E_delete y_E_delete) ∈ zt := zt_of 247 (by decide +kernel) rfl
theorem zm_248 : (Cond.code y_E_delete b_E_delete 3 (some .int)) ∈ zt := zt_of 248 (by decide +kernel) rfl
theorem zm_249 : (Cond.methodLink R_E (73 : Nat) y_E_recordAndRemove) ∈ zt := zt_of 249 (by decide +kernel) rfl
theorem zm_251 : (Cond.instanceMethod y_E_recordAndRemove) ∈ zt := zt_of 251 (by decide +kernel) rfl
theorem zm_252 : (Cond.code y_E_recordAndRemove b_E_recordAndRemove 2 none) ∈ zt := zt_of 252 (by decide +kernel) rfl
theorem zm_253 : (Cond.methodLink R_L (33 : Nat) y_E_has) ∈ zt := zt_of 253 (by decide +kernel) rfl
theorem zm_254 : (Cond.instanceMethod y_E_has) ∈ zt := zt_of 254 (by decide +kernel) rfl
theorem zm_255 : (Cond.selects R_E y_E_has y_E_has) ∈ zt := zt_of 255 (by decide +kernel) rfl
theorem zm_256 : (Cond.code y_E_has b_E_has 2 (some .boolean)) ∈ zt := zt_of 256 (by decide +kernel) rfl
theorem zm_257 : (Cond.methodLink R_L (38 : Nat) y_E_get) ∈ zt := zt_of 257 (by decide +kernel) rfl
theorem zm_258 : (Cond.instanceMethod y_E_get) ∈ zt := zt_of 258 (by decide +kernel) rfl
theorem zm_259 : (Cond.selects R_E y_E_get y_E_get) ∈ zt := zt_of 259 (by decide +kernel) rfl
theorem zm_260 : (Cond.code y_E_get b_E_get 2 (some .long)) ∈ zt := zt_of 260 (by decide +kernel) rfl
theorem zm_261 : (Cond.methodLink R_L (43 : Nat) y_E_reads) ∈ zt := zt_of 261 (by decide +kernel) rfl
theorem zm_262 : (Cond.instanceMethod y_E_reads) ∈ zt := zt_of 262 (by decide +kernel) rfl
theorem zm_263 : (Cond.selects R_E y_E_reads y_E_reads) ∈ zt := zt_of 263 (by decide +kernel) rfl
theorem zm_264 : (Cond.code y_E_reads b_E_reads 3 (some .int)) ∈ zt := zt_of 264 (by decide +kernel) rfl
theorem zm_265 : (Cond.methodLink R_E (80 : Nat) y_E_valuePages) ∈ zt := zt_of 265 (by decide +kernel) rfl
theorem zm_266 : (Cond.methodLink R_E (84 : Nat) y_K_bucketPagesUpTo) ∈ zt := zt_of 266 (by decide +kernel) rfl
theorem zm_267 : (Cond.instanceMethod y_K_bucketPagesUpTo) ∈ zt := zt_of 267 (by decide +kernel) rfl
theorem zm_268 : (Cond.selects R_K y_K_bucketPagesUpTo y_K_bucketPagesUpTo) ∈ zt := zt_of 268 (by decide +kernel) rfl
theorem zm_269 : (Cond.code y_K_bucketPagesUpTo b_K_bucketPagesUpTo 6 (some .int)) ∈ zt := zt_of 269 (by decide +kernel) rfl
theorem zm_270 : (Cond.methodLink R_K (76 : Nat) y_C_maskOf) ∈ zt := zt_of 270 (by decide +kernel) rfl
theorem zm_271 : (Cond.methodLink R_K (79 : Nat) Lib.Math.max.name) ∈ zt := zt_of 271 (by decide +kernel) rfl
theorem zm_272 : (Cond.methodLink R_K (85 : Nat) Lib.Math.min.name) ∈ zt := zt_of 272 (by decide +kernel) rfl
theorem zm_273 : (Cond.methodLink R_L (47 : Nat) y_E_open) ∈ zt := zt_of 273 (by decide +kernel) rfl
theorem zm_274 : (Cond.instanceMethod y_E_open) ∈ zt := zt_of 274 (by decide +kernel) rfl
theorem zm_275 : (Cond.selects R_E y_E_open y_E_open) ∈ zt := zt_of 275 (by decide +kernel) rfl
theorem zm_276 : (Cond.code y_E_open b_E_open 1 (some .boolean)) ∈ zt := zt_of 276 (by decide +kernel) rfl
theorem zm_277 : (Cond.methodLink R_E (88 : Nat) y_B_begin) ∈ zt := zt_of 277 (by decide +kernel) rfl
theorem zm_278 : (Cond.instanceMethod y_B_begin) ∈ zt := zt_of 278 (by decide +kernel) rfl
theorem zm_279 : (Cond.selects R_B y_B_begin y_B_begin) ∈ zt := zt_of 279 (by decide +kernel) rfl
theorem zm_280 : (Cond.code y_B_begin b_B_begin 1 none) ∈ zt := zt_of 280 (by decide +kernel) rfl
theorem zm_281 : (Cond.methodLink R_L (52 : Nat) y_E_commit) ∈ zt := zt_of 281 (by decide +kernel) rfl
theorem zm_282 : (Cond.instanceMethod y_E_commit) ∈ zt := zt_of 282 (by decide +kernel) rfl
theorem zm_283 : (Cond.selects R_E y_E_commit y_E_commit) ∈ zt := zt_of 283 (by decide +kernel) rfl
theorem zm_284 : (Cond.code y_E_commit b_E_commit 3 (some .int)) ∈ zt := zt_of 284 (by decide +kernel) rfl
theorem zm_285 : (Cond.methodLink R_E (91 : Nat) y_E_doStepsOfBatch) ∈ zt := zt_of 285 (by decide +kernel) rfl
theorem zm_287 : (Cond.instanceMethod y_E_doStepsOfBatch) ∈ zt := zt_of 287 (by decide +kernel) rfl
theorem zm_288 : (Cond.code y_E_doStepsOfBatch b_E_doStepsOfBatch 2 none) ∈ zt := zt_of 288 (by decide +kernel) rfl
theorem zm_289 : (Cond.methodLink R_E (94 : Nat) y_B_end) ∈ zt := zt_of 289 (by decide +kernel) rfl
theorem zm_290 : (Cond.instanceMethod y_B_end) ∈ zt := zt_of 290 (by decide +kernel) rfl
theorem zm_291 : (Cond.selects R_B y_B_end y_B_end) ∈ zt := zt_of 291 (by decide +kernel) rfl
theorem zm_292 : (Cond.code y_B_end b_B_end 1 none) ∈ zt := zt_of 292 (by decide +kernel) rfl
theorem zm_293 : (Cond.methodLink R_E (97 : Nat) y_R_closeBatch) ∈ zt := zt_of 293 (by decide +kernel) rfl
theorem zm_294 : (Cond.instanceMethod y_R_closeBatch) ∈ zt := zt_of 294 (by decide +kernel) rfl
theorem zm_295 : (Cond.selects R_R y_R_closeBatch y_R_closeBatch) ∈ zt := zt_of 295 (by decide +kernel) rfl
theorem zm_296 : (Cond.code y_R_closeBatch b_R_closeBatch 3 none) ∈ zt := zt_of 296 (by decide +kernel) rfl
theorem zm_297 : (Cond.methodLink R_L (57 : Nat) y_E_abandon) ∈ zt := zt_of 297 (by decide +kernel) rfl
theorem zm_298 : (Cond.instanceMethod y_E_abandon) ∈ zt := zt_of 298 (by decide +kernel) rfl
theorem zm_299 : (Cond.selects R_E y_E_abandon y_E_abandon) ∈ zt := zt_of 299 (by decide +kernel) rfl
theorem zm_300 : (Cond.code y_E_abandon b_E_abandon 2 (some .int)) ∈ zt := zt_of 300 (by decide +kernel) rfl
theorem zm_301 : (Cond.methodLink R_L (61 : Nat) y_E_flush) ∈ zt := zt_of 301 (by decide +kernel) rfl
theorem zm_302 : (Cond.instanceMethod y_E_flush) ∈ zt := zt_of 302 (by decide +kernel) rfl
theorem zm_303 : (Cond.selects R_E y_E_flush y_E_flush) ∈ zt := zt_of 303 (by decide +kernel) rfl
theorem zm_304 : (Cond.code y_E_flush b_E_flush 2 (some .int)) ∈ zt := zt_of 304 (by decide +kernel) rfl
theorem zm_305 : (Cond.methodLink R_L (65 : Nat) y_E_crash) ∈ zt := zt_of 305 (by decide +kernel) rfl
theorem zm_306 : (Cond.instanceMethod y_E_crash) ∈ zt := zt_of 306 (by decide +kernel) rfl
theorem zm_307 : (Cond.selects R_E y_E_crash y_E_crash) ∈ zt := zt_of 307 (by decide +kernel) rfl
theorem zm_308 : (Cond.code y_E_crash b_E_crash 4 (some .int)) ∈ zt := zt_of 308 (by decide +kernel) rfl
theorem zm_309 : (Cond.methodLink R_E (104 : Nat) y_R_survivorsAmongFirst) ∈ zt := zt_of 309 (by decide +kernel) rfl
theorem zm_310 : (Cond.instanceMethod y_R_survivorsAmongFirst) ∈ zt := zt_of 310 (by decide +kernel) rfl
theorem zm_311 : (Cond.selects R_R y_R_survivorsAmongFirst y_R_survivorsAmongFirst) ∈ zt := zt_of 311 (by decide +kernel) rfl
theorem zm_312 : (Cond.code y_R_survivorsAmongFirst b_R_survivorsAmongFirst 3 (some .int)) ∈ zt := zt_of 312 (by decide +kernel) rfl
theorem zm_313 : (Cond.methodLink R_R (39 : Nat) Lib.Math.max.name) ∈ zt := zt_of 313 (by decide +kernel) rfl
theorem zm_314 : (Cond.methodLink R_L (69 : Nat) y_E_unflushed) ∈ zt := zt_of 314 (by decide +kernel) rfl
theorem zm_315 : (Cond.instanceMethod y_E_unflushed) ∈ zt := zt_of 315 (by decide +kernel) rfl
theorem zm_316 : (Cond.selects R_E y_E_unflushed y_E_unflushed) ∈ zt := zt_of 316 (by decide +kernel) rfl
theorem zm_317 : (Cond.code y_E_unflushed b_E_unflushed 1 (some .int)) ∈ zt := zt_of 317 (by decide +kernel) rfl
theorem zm_318 : (Cond.methodLink R_L (73 : Nat) y_E_steps) ∈ zt := zt_of 318 (by decide +kernel) rfl
theorem zm_319 : (Cond.instanceMethod y_E_steps) ∈ zt := zt_of 319 (by decide +kernel) rfl
theorem zm_320 : (Cond.selects R_E y_E_steps y_E_steps) ∈ zt := zt_of 320 (by decide +kernel) rfl
theorem zm_321 : (Cond.code y_E_steps b_E_steps 1 (some .int)) ∈ zt := zt_of 321 (by decide +kernel) rfl
theorem zm_322 : (Cond.methodLink R_L (77 : Nat) y_E_size) ∈ zt := zt_of 322 (by decide +kernel) rfl
theorem zm_323 : (Cond.instanceMethod y_E_size) ∈ zt := zt_of 323 (by decide +kernel) rfl
theorem zm_324 : (Cond.selects R_E y_E_size y_E_size) ∈ zt := zt_of 324 (by decide +kernel) rfl
theorem zm_325 : (Cond.code y_E_size b_E_size 1 (some .int)) ∈ zt := zt_of 325 (by decide +kernel) rfl
theorem zm_326 : (Cond.methodLink R_L (81 : Nat) y_E_pages) ∈ zt := zt_of 326 (by decide +kernel) rfl
theorem zm_327 : (Cond.instanceMethod y_E_pages) ∈ zt := zt_of 327 (by decide +kernel) rfl
theorem zm_328 : (Cond.selects R_E y_E_pages y_E_pages) ∈ zt := zt_of 328 (by decide +kernel) rfl
theorem zm_329 : (Cond.code y_E_pages b_E_pages 1 (some .int)) ∈ zt := zt_of 329 (by decide +kernel) rfl
theorem zm_330 : (Cond.methodLink R_L (85 : Nat) y_E_globalDepth) ∈ zt := zt_of 330 (by decide +kernel) rfl
theorem zm_331 : (Cond.instanceMethod y_E_globalDepth) ∈ zt := zt_of 331 (by decide +kernel) rfl
theorem zm_332 : (Cond.selects R_E y_E_globalDepth y_E_globalDepth) ∈ zt := zt_of 332 (by decide +kernel) rfl
theorem zm_333 : (Cond.code y_E_globalDepth b_E_globalDepth 1 (some .int)) ∈ zt := zt_of 333 (by decide +kernel) rfl
theorem zm_334 : (Cond.methodLink R_E (116 : Nat) y_C_deepest) ∈ zt := zt_of 334 (by decide +kernel) rfl
theorem zm_335 : (Cond.methodLink R_L (89 : Nat) y_E_localDepth) ∈ zt := zt_of 335 (by decide +kernel) rfl
theorem zm_336 : (Cond.instanceMethod y_E_localDepth) ∈ zt := zt_of 336 (by decide +kernel) rfl
theorem zm_337 : (Cond.selects R_E y_E_localDepth y_E_localDepth) ∈ zt := zt_of 337 (by decide +kernel) rfl
theorem zm_338 : (Cond.code y_E_localDepth b_E_localDepth 2 (some .int)) ∈ zt := zt_of 338 (by decide +kernel) rfl
theorem zm_339 : (Cond.methodLink R_E (121 : Nat) y_E_hash) ∈ zt := zt_of 339 (by decide +kernel) rfl
theorem zm_340 : (Cond.methodLink R_E (124 : Nat) y_C_depthOf) ∈ zt := zt_of 340 (by decide +kernel) rfl
theorem zm_341 : (Cond.methodLink R_L (93 : Nat) y_E_buckets) ∈ zt := zt_of 341 (by decide +kernel) rfl
theorem zm_342 : (Cond.instanceMethod y_E_buckets) ∈ zt := zt_of 342 (by decide +kernel) rfl
theorem zm_343 : (Cond.selects R_E y_E_buckets y_E_buckets) ∈ zt := zt_of 343 (by decide +kernel) rfl
theorem zm_344 : (Cond.code y_E_buckets b_E_buckets 1 (some .int)) ∈ zt := zt_of 344 (by decide +kernel) rfl
theorem zm_345 : (Cond.methodLink R_E (127 : Nat) y_C_countPlaces) ∈ zt := zt_of 345 (by decide +kernel) rfl
theorem zm_346 : (Cond.instanceMethod y_C_countPlaces) ∈ zt := zt_of 346 (by decide +kernel) rfl
theorem zm_347 : (Cond.selects R_C y_C_countPlaces y_C_countPlaces) ∈ zt := zt_of 347 (by decide +kernel) rfl
theorem zm_348 : (Cond.code y_C_countPlaces b_C_countPlaces 3 (some .int)) ∈ zt := zt_of 348 (by decide +kernel) rfl
theorem zm_349 : (Cond.methodLink R_C (38 : Nat) y_C_isPlace) ∈ zt := zt_of 349 (by decide +kernel) rfl
theorem zm_350 : (Cond.methodLink R_L (97 : Nat) y_E_bucketAt) ∈ zt := zt_of 350 (by decide +kernel) rfl
theorem zm_351 : (Cond.instanceMethod y_E_bucketAt) ∈ zt := zt_of 351 (by decide +kernel) rfl
theorem zm_352 : (Cond.selects R_E y_E_bucketAt y_E_bucketAt) ∈ zt := zt_of 352 (by decide +kernel) rfl
theorem zm_353 : (Cond.code y_E_bucketAt b_E_bucketAt 4 (some .int)) ∈ zt := zt_of 353 (by decide +kernel) rfl
theorem zm_354 : (Cond.methodLink R_E (130 : Nat) y_C_isPlace) ∈ zt := zt_of 354 (by decide +kernel) rfl
theorem zm_355 : (Cond.methodLink R_L (101 : Nat) y_E_keyAt) ∈ zt := zt_of 355 (by decide +kernel) rfl
theorem zm_356 : (Cond.instanceMethod y_E_keyAt) ∈ zt := zt_of 356 (by decide +kernel) rfl
theorem zm_357 : (Cond.selects R_E y_E_keyAt y_E_keyAt) ∈ zt := zt_of 357 (by decide +kernel) rfl
theorem zm_358 : (Cond.code y_E_keyAt b_E_keyAt 2 (some .int)) ∈ zt := zt_of 358 (by decide +kernel) rfl
theorem zm_359 : (Cond.methodLink R_E (133 : Nat) y_K_keyInPlaceOrder) ∈ zt := zt_of 359 (by decide +kernel) rfl
theorem zm_360 : (Cond.instanceMethod y_K_keyInPlaceOrder) ∈ zt := zt_of 360 (by decide +kernel) rfl
theorem zm_361 : (Cond.selects R_K y_K_keyInPlaceOrder y_K_keyInPlaceOrder) ∈ zt := zt_of 361 (by decide +kernel) rfl
theorem zm_362 : (Cond.code y_K_keyInPlaceOrder b_K_keyInPlaceOrder 5 (some .int)) ∈ zt := zt_of 362 (by decide +kernel) rfl
theorem zm_363 : (Cond.methodLink R_K (88 : Nat) y_K_keyInBucket) ∈ zt := zt_of 363 (by decide +kernel) rfl
theorem zm_365 : (Cond.instanceMethod y_K_keyInBucket) ∈ zt := zt_of 365 (by decide +kernel) rfl
theorem zm_366 : (Cond.code y_K_keyInBucket b_K_keyInBucket 6 (some .int)) ∈ zt := zt_of 366 (by decide +kernel) rfl
theorem zm_367 : (Cond.methodLink R_L (9 : Nat) y_L_cell) ∈ zt := zt_of 367 (by decide +kernel) rfl
theorem zm_368 : (Cond.static y_L_cell) ∈ zt := zt_of 368 (by decide +kernel) rfl
theorem zm_369 : (Cond.code y_L_cell b_L_cell 2 (some .int)) ∈ zt := zt_of 369 (by decide +kernel) rfl
theorem zm_370 : (Cond.classLink R_L (18 : Nat) R_M) ∈ zt := zt_of 370 (by decide +kernel) rfl
theorem zm_371 : (Cond.instantiable R_M (17 : Nat)) ∈ zt := zt_of 371 (by decide +kernel) rfl
theorem zm_372 : (Cond.methodLink R_L (20 : Nat) y_M_init) ∈ zt := zt_of 372 (by decide +kernel) rfl
theorem zm_373 : (Cond.instanceMethod y_M_init) ∈ zt := zt_of 373 (by decide +kernel) rfl
theorem zm_374 : (Cond.code y_M_init b_M_init 2 none) ∈ zt := zt_of 374 (by decide +kernel) rfl
theorem zm_375 : (Cond.methodLink R_M (1 : Nat) objectInit) ∈ zt := zt_of 375 (by decide +kernel) rfl
theorem zm_376 : (Cond.fieldLink R_M (44 : Nat) R_M "limit" "I") ∈ zt := zt_of 376 (by decide +kernel) rfl
theorem zm_377 : (Cond.fieldLink R_M (55 : Nat) R_M "baseSize" "I") ∈ zt := zt_of 377 (by decide +kernel) rfl
theorem zm_378 : (Cond.fieldLink R_M (7 : Nat) R_M "baseKey" "[I") ∈ zt := zt_of 378 (by decide +kernel) rfl
theorem zm_379 : (Cond.fieldLink R_M (13 : Nat) R_M "baseValue" "[J") ∈ zt := zt_of 379 (by decide +kernel) rfl
theorem zm_380 : (Cond.fieldLink R_M (66 : Nat) R_M "records" "I") ∈ zt := zt_of 380 (by decide +kernel) rfl
theorem zm_381 : (Cond.fieldLink R_M (17 : Nat) R_M "what" "[I") ∈ zt := zt_of 381 (by decide +kernel) rfl
theorem zm_382 : (Cond.fieldLink R_M (20 : Nat) R_M "recordKey" "[I") ∈ zt := zt_of 382 (by decide +kernel) rfl
theorem zm_383 : (Cond.fieldLink R_M (23 : Nat) R_M "recordValue" "[J") ∈ zt := zt_of 383 (by decide +kernel) rfl
theorem zm_384 : (Cond.fieldLink R_M (26 : Nat) R_M "begins" "[I") ∈ zt := zt_of 384 (by decide +kernel) rfl
theorem zm_385 : (Cond.fieldLink R_M (113 : Nat) R_M "batch" "Z") ∈ zt := zt_of 385 (by decide +kernel) rfl
theorem zm_386 : (Cond.fieldLink R_M (110 : Nat) R_M "stepCount" "I") ∈ zt := zt_of 386 (by decide +kernel) rfl
theorem zm_387 : (Cond.fieldLink R_M (29 : Nat) R_M "stepWhat" "[I") ∈ zt := zt_of 387 (by decide +kernel) rfl
theorem zm_388 : (Cond.fieldLink R_M (32 : Nat) R_M "stepKey" "[I") ∈ zt := zt_of 388 (by decide +kernel) rfl
theorem zm_389 : (Cond.fieldLink R_M (35 : Nat) R_M "stepValue" "[J") ∈ zt := zt_of 389 (by decide +kernel) rfl
theorem zm_390 : (Cond.fieldLink R_M (48 : Nat) R_M "kept" "I") ∈ zt := zt_of 390 (by decide +kernel) rfl
theorem zm_391 : (Cond.fieldLink R_M (38 : Nat) R_M "key" "[I") ∈ zt := zt_of 391 (by decide +kernel) rfl
theorem zm_392 : (Cond.fieldLink R_M (41 : Nat) R_M "value" "[J") ∈ zt := zt_of 392 (by decide +kernel) rfl
theorem zm_428 : (Cond.methodLink R_L (27 : Nat) y_M_put) ∈ zt := zt_of 428 (by decide +kernel) rfl
theorem zm_429 : (Cond.instanceMethod y_M_put) ∈ zt := zt_of 429 (by decide +kernel) rfl
theorem zm_430 : (Cond.selects R_M y_M_put y_M_put) ∈ zt := zt_of 430 (by decide +kernel) rfl
theorem zm_431 : (Cond.code y_M_put b_M_put 5 (some .int)) ∈ zt := zt_of 431 (by decide +kernel) rfl
theorem zm_432 : (Cond.methodLink R_M (117 : Nat) y_M_step) ∈ zt := zt_of 432 (by decide +kernel) rfl
theorem zm_434 : (Cond.instanceMethod y_M_step) ∈ zt := zt_of 434 (by decide +kernel) rfl
theorem zm_435 : (Cond.code y_M_step b_M_step 5 (some .int)) ∈ zt := zt_of 435 (by decide +kernel) rfl
theorem zm_436 : (Cond.methodLink R_M (121 : Nat) y_M_has) ∈ zt := zt_of 436 (by decide +kernel) rfl
theorem zm_437 : (Cond.instanceMethod y_M_has) ∈ zt := zt_of 437 (by decide +kernel) rfl
theorem zm_438 : (Cond.selects R_M y_M_has y_M_has) ∈ zt := zt_of 438 (by decide +kernel) rfl
theorem zm_439 : (Cond.code y_M_has b_M_has 2 (some .boolean)) ∈ zt := zt_of 439 (by decide +kernel) rfl
theorem zm_440 : (Cond.methodLink R_M (72 : Nat) y_M_now) ∈ zt := zt_of 440 (by decide +kernel) rfl
theorem zm_442 : (Cond.instanceMethod y_M_now) ∈ zt := zt_of 442 (by decide +kernel) rfl
theorem zm_443 : (Cond.code y_M_now b_M_now 1 none) ∈ zt := zt_of 443 (by decide +kernel) rfl
theorem zm_444 : (Cond.methodLink R_M (69 : Nat) y_M_replay) ∈ zt := zt_of 444 (by decide +kernel) rfl
theorem zm_446 : (Cond.instanceMethod y_M_replay) ∈ zt := zt_of 446 (by decide +kernel) rfl
theorem zm_447 : (Cond.code y_M_replay b_M_replay 3 none) ∈ zt := zt_of 447 (by decide +kernel) rfl
theorem zm_448 : (Cond.methodLink R_M (58 : Nat) y_M_set) ∈ zt := zt_of 448 (by decide +kernel) rfl
theorem zm_450 : (Cond.instanceMethod y_M_set) ∈ zt := zt_of 450 (by decide +kernel) rfl
theorem zm_451 : (Cond.code y_M_set b_M_set 7 none) ∈ zt := zt_of 451 (by decide +kernel) rfl
theorem zm_452 : (Cond.methodLink R_M (51 : Nat) y_M_find) ∈ zt := zt_of 452 (by decide +kernel) rfl
theorem zm_454 : (Cond.instanceMethod y_M_find) ∈ zt := zt_of 454 (by decide +kernel) rfl
theorem zm_455 : (Cond.code y_M_find b_M_find 4 (some .int)) ∈ zt := zt_of 455 (by decide +kernel) rfl
theorem zm_456 : (Cond.methodLink R_M (62 : Nat) y_M_remove) ∈ zt := zt_of 456 (by decide +kernel) rfl
theorem zm_458 : (Cond.instanceMethod y_M_remove) ∈ zt := zt_of 458 (by decide +kernel) rfl
theorem zm_459 : (Cond.code y_M_remove b_M_remove 4 none) ∈ zt := zt_of 459 (by decide +kernel) rfl
theorem zm_460 : (Cond.methodLink R_M (125 : Nat) y_M_write) ∈ zt := zt_of 460 (by decide +kernel) rfl
theorem zm_462 : (Cond.instanceMethod y_M_write) ∈ zt := zt_of 462 (by decide +kernel) rfl
theorem zm_463 : (Cond.code y_M_write b_M_write 6 none) ∈ zt := zt_of 463 (by decide +kernel) rfl
theorem zm_464 : (Cond.methodLink R_M (129 : Nat) y_M_stays) ∈ zt := zt_of 464 (by decide +kernel) rfl
theorem zm_466 : (Cond.instanceMethod y_M_stays) ∈ zt := zt_of 466 (by decide +kernel) rfl
theorem zm_467 : (Cond.code y_M_stays b_M_stays 2 (some .boolean)) ∈ zt := zt_of 467 (by decide +kernel) rfl
theorem zm_468 : (Cond.methodLink R_M (75 : Nat) y_M_inUse) ∈ zt := zt_of 468 (by decide +kernel) rfl
theorem zm_470 : (Cond.instanceMethod y_M_inUse) ∈ zt := zt_of 470 (by decide +kernel) rfl
theorem zm_471 : (Cond.code y_M_inUse b_M_inUse 6 (some .int)) ∈ zt := zt_of 471 (by decide +kernel) rfl
theorem zm_472 : (Cond.methodLink R_M (100 : Nat) y_M_greatest) ∈ zt := zt_of 472 (by decide +kernel) rfl
theorem zm_474 : (Cond.instanceMethod y_M_greatest) ∈ zt := zt_of 474 (by decide +kernel) rfl
theorem zm_475 : (Cond.code y_M_greatest b_M_greatest 4 (some .int)) ∈ zt := zt_of 475 (by decide +kernel) rfl
theorem zm_476 : (Cond.methodLink R_M (97 : Nat) y_M_depthOf) ∈ zt := zt_of 476 (by decide +kernel) rfl
theorem zm_478 : (Cond.instanceMethod y_M_depthOf) ∈ zt := zt_of 478 (by decide +kernel) rfl
theorem zm_479 : (Cond.code y_M_depthOf b_M_depthOf 5 (some .int)) ∈ zt := zt_of 479 (by decide +kernel) rfl
theorem zm_480 : (Cond.methodLink R_M (89 : Nat) y_M_good) ∈ zt := zt_of 480 (by decide +kernel) rfl
theorem zm_482 : (Cond.instanceMethod y_M_good) ∈ zt := zt_of 482 (by decide +kernel) rfl
theorem zm_483 : (Cond.code y_M_good b_M_good 8 (some .boolean)) ∈ zt := zt_of 483 (by decide +kernel) rfl
theorem zm_484 : (Cond.methodLink R_M (82 : Nat) y_M_hash) ∈ zt := zt_of 484 (by decide +kernel) rfl
theorem zm_486 : (Cond.instanceMethod y_M_hash) ∈ zt := zt_of 486 (by decide +kernel) rfl
theorem zm_487 : (Cond.code y_M_hash b_M_hash 2 (some .int)) ∈ zt := zt_of 487 (by decide +kernel) rfl
theorem zm_488 : (Cond.methodLink R_M (85 : Nat) y_M_inClass) ∈ zt := zt_of 488 (by decide +kernel) rfl
theorem zm_490 : (Cond.instanceMethod y_M_inClass) ∈ zt := zt_of 490 (by decide +kernel) rfl
theorem zm_491 : (Cond.code y_M_inClass b_M_inClass 4 (some .boolean)) ∈ zt := zt_of 491 (by decide +kernel) rfl
theorem zm_492 : (Cond.methodLink R_M (103 : Nat) y_M_count) ∈ zt := zt_of 492 (by decide +kernel) rfl
theorem zm_494 : (Cond.instanceMethod y_M_count) ∈ zt := zt_of 494 (by decide +kernel) rfl
theorem zm_495 : (Cond.code y_M_count b_M_count 5 (some .int)) ∈ zt := zt_of 495 (by decide +kernel) rfl
theorem zm_496 : (Cond.methodLink R_M (107 : Nat) y_M_valuePages) ∈ zt := zt_of 496 (by decide +kernel) rfl
theorem zm_498 : (Cond.instanceMethod y_M_valuePages) ∈ zt := zt_of 498 (by decide +kernel) rfl
theorem zm_499 : (Cond.code y_M_valuePages b_M_valuePages 4 (some .int)) ∈ zt := zt_of 499 (by decide +kernel) rfl
theorem zm_500 : (Cond.methodLink R_M (93 : Nat) y_M_bytes) ∈ zt := zt_of 500 (by decide +kernel) rfl
theorem zm_502 : (Cond.instanceMethod y_M_bytes) ∈ zt := zt_of 502 (by decide +kernel) rfl
theorem zm_503 : (Cond.code y_M_bytes b_M_bytes 7 (some .int)) ∈ zt := zt_of 503 (by decide +kernel) rfl
theorem zm_504 : (Cond.methodLink R_M (79 : Nat) y_M_settle) ∈ zt := zt_of 504 (by decide +kernel) rfl
theorem zm_506 : (Cond.instanceMethod y_M_settle) ∈ zt := zt_of 506 (by decide +kernel) rfl
theorem zm_507 : (Cond.code y_M_settle b_M_settle 3 none) ∈ zt := zt_of 507 (by decide +kernel) rfl
theorem zm_508 : (Cond.methodLink R_L (32 : Nat) y_M_delete) ∈ zt := zt_of 508 (by decide +kernel) rfl
theorem zm_509 : (Cond.instanceMethod y_M_delete) ∈ zt := zt_of 509 (by decide +kernel) rfl
theorem zm_510 : (Cond.selects R_M y_M_delete y_M_delete) ∈ zt := zt_of 510 (by decide +kernel) rfl
theorem zm_511 : (Cond.code y_M_delete b_M_delete 2 (some .int)) ∈ zt := zt_of 511 (by decide +kernel) rfl
theorem zm_512 : (Cond.methodLink R_L (51 : Nat) y_M_open) ∈ zt := zt_of 512 (by decide +kernel) rfl
theorem zm_513 : (Cond.instanceMethod y_M_open) ∈ zt := zt_of 513 (by decide +kernel) rfl
theorem zm_514 : (Cond.selects R_M y_M_open y_M_open) ∈ zt := zt_of 514 (by decide +kernel) rfl
theorem zm_515 : (Cond.code y_M_open b_M_open 1 (some .boolean)) ∈ zt := zt_of 515 (by decide +kernel) rfl
theorem zm_516 : (Cond.methodLink R_L (56 : Nat) y_M_commit) ∈ zt := zt_of 516 (by decide +kernel) rfl
theorem zm_517 : (Cond.instanceMethod y_M_commit) ∈ zt := zt_of 517 (by decide +kernel) rfl
theorem zm_518 : (Cond.selects R_M y_M_commit y_M_commit) ∈ zt := zt_of 518 (by decide +kernel) rfl
theorem zm_519 : (Cond.code y_M_commit b_M_commit 3 (some .int)) ∈ zt := zt_of 519 (by decide +kernel) rfl
theorem zm_520 : (Cond.methodLink R_L (60 : Nat) y_M_abandon) ∈ zt := zt_of 520 (by decide +kernel) rfl
theorem zm_521 : (Cond.instanceMethod y_M_abandon) ∈ zt := zt_of 521 (by decide +kernel) rfl
theorem zm_522 : (Cond.selects R_M y_M_abandon y_M_abandon) ∈ zt := zt_of 522 (by decide +kernel) rfl
theorem zm_523 : (Cond.code y_M_abandon b_M_abandon 1 (some .int)) ∈ zt := zt_of 523 (by decide +kernel) rfl
theorem zm_524 : (Cond.methodLink R_L (64 : Nat) y_M_flush) ∈ zt := zt_of 524 (by decide +kernel) rfl
theorem zm_525 : (Cond.instanceMethod y_M_flush) ∈ zt := zt_of 525 (by decide +kernel) rfl
theorem zm_526 : (Cond.selects R_M y_M_flush y_M_flush) ∈ zt := zt_of 526 (by decide +kernel) rfl
theorem zm_527 : (Cond.code y_M_flush b_M_flush 2 (some .int)) ∈ zt := zt_of 527 (by decide +kernel) rfl
theorem zm_528 : (Cond.methodLink R_L (68 : Nat) y_M_crash) ∈ zt := zt_of 528 (by decide +kernel) rfl
theorem zm_529 : (Cond.instanceMethod y_M_crash) ∈ zt := zt_of 529 (by decide +kernel) rfl
theorem zm_530 : (Cond.selects R_M y_M_crash y_M_crash) ∈ zt := zt_of 530 (by decide +kernel) rfl
theorem zm_531 : (Cond.code y_M_crash b_M_crash 5 (some .int)) ∈ zt := zt_of 531 (by decide +kernel) rfl
theorem zm_532 : (Cond.methodLink R_L (37 : Nat) y_M_has) ∈ zt := zt_of 532 (by decide +kernel) rfl
theorem zm_533 : (Cond.methodLink R_L (42 : Nat) y_M_get) ∈ zt := zt_of 533 (by decide +kernel) rfl
theorem zm_534 : (Cond.instanceMethod y_M_get) ∈ zt := zt_of 534 (by decide +kernel) rfl
theorem zm_535 : (Cond.selects R_M y_M_get y_M_get) ∈ zt := zt_of 535 (by decide +kernel) rfl
theorem zm_536 : (Cond.code y_M_get b_M_get 3 (some .long)) ∈ zt := zt_of 536 (by decide +kernel) rfl
theorem zm_537 : (Cond.methodLink R_L (46 : Nat) y_M_reads) ∈ zt := zt_of 537 (by decide +kernel) rfl
theorem zm_538 : (Cond.instanceMethod y_M_reads) ∈ zt := zt_of 538 (by decide +kernel) rfl
theorem zm_539 : (Cond.selects R_M y_M_reads y_M_reads) ∈ zt := zt_of 539 (by decide +kernel) rfl
theorem zm_540 : (Cond.code y_M_reads b_M_reads 10 (some .int)) ∈ zt := zt_of 540 (by decide +kernel) rfl
theorem zm_541 : (Cond.methodLink R_M (132 : Nat) y_M_bucketOf) ∈ zt := zt_of 541 (by decide +kernel) rfl
theorem zm_543 : (Cond.instanceMethod y_M_bucketOf) ∈ zt := zt_of 543 (by decide +kernel) rfl
theorem zm_544 : (Cond.code y_M_bucketOf b_M_bucketOf 6 (some .int)) ∈ zt := zt_of 544 (by decide +kernel) rfl
theorem zm_545 : (Cond.methodLink R_L (72 : Nat) y_M_unflushed) ∈ zt := zt_of 545 (by decide +kernel) rfl
theorem zm_546 : (Cond.instanceMethod y_M_unflushed) ∈ zt := zt_of 546 (by decide +kernel) rfl
theorem zm_547 : (Cond.selects R_M y_M_unflushed y_M_unflushed) ∈ zt := zt_of 547 (by decide +kernel) rfl
theorem zm_548 : (Cond.code y_M_unflushed b_M_unflushed 1 (some .int)) ∈ zt := zt_of 548 (by decide +kernel) rfl
theorem zm_549 : (Cond.methodLink R_L (76 : Nat) y_M_steps) ∈ zt := zt_of 549 (by decide +kernel) rfl
theorem zm_550 : (Cond.instanceMethod y_M_steps) ∈ zt := zt_of 550 (by decide +kernel) rfl
theorem zm_551 : (Cond.selects R_M y_M_steps y_M_steps) ∈ zt := zt_of 551 (by decide +kernel) rfl
theorem zm_552 : (Cond.code y_M_steps b_M_steps 1 (some .int)) ∈ zt := zt_of 552 (by decide +kernel) rfl
theorem zm_553 : (Cond.methodLink R_L (80 : Nat) y_M_size) ∈ zt := zt_of 553 (by decide +kernel) rfl
theorem zm_554 : (Cond.instanceMethod y_M_size) ∈ zt := zt_of 554 (by decide +kernel) rfl
theorem zm_555 : (Cond.selects R_M y_M_size y_M_size) ∈ zt := zt_of 555 (by decide +kernel) rfl
theorem zm_556 : (Cond.code y_M_size b_M_size 1 (some .int)) ∈ zt := zt_of 556 (by decide +kernel) rfl
theorem zm_557 : (Cond.methodLink R_L (84 : Nat) y_M_pages) ∈ zt := zt_of 557 (by decide +kernel) rfl
theorem zm_558 : (Cond.instanceMethod y_M_pages) ∈ zt := zt_of 558 (by decide +kernel) rfl
theorem zm_559 : (Cond.selects R_M y_M_pages y_M_pages) ∈ zt := zt_of 559 (by decide +kernel) rfl
theorem zm_560 : (Cond.code y_M_pages b_M_pages 1 (some .int)) ∈ zt := zt_of 560 (by decide +kernel) rfl
theorem zm_561 : (Cond.methodLink R_L (88 : Nat) y_M_globalDepth) ∈ zt := zt_of 561 (by decide +kernel) rfl
theorem zm_562 : (Cond.instanceMethod y_M_globalDepth) ∈ zt := zt_of 562 (by decide +kernel) rfl
theorem zm_563 : (Cond.selects R_M y_M_globalDepth y_M_globalDepth) ∈ zt := zt_of 563 (by decide +kernel) rfl
theorem zm_564 : (Cond.code y_M_globalDepth b_M_globalDepth 1 (some .int)) ∈ zt := zt_of 564 (by decide +kernel) rfl
theorem zm_565 : (Cond.methodLink R_L (92 : Nat) y_M_localDepth) ∈ zt := zt_of 565 (by decide +kernel) rfl
theorem zm_566 : (Cond.instanceMethod y_M_localDepth) ∈ zt := zt_of 566 (by decide +kernel) rfl
theorem zm_567 : (Cond.selects R_M y_M_localDepth y_M_localDepth) ∈ zt := zt_of 567 (by decide +kernel) rfl
theorem zm_568 : (Cond.code y_M_localDepth b_M_localDepth 2 (some .int)) ∈ zt := zt_of 568 (by decide +kernel) rfl
theorem zm_569 : (Cond.methodLink R_L (96 : Nat) y_M_buckets) ∈ zt := zt_of 569 (by decide +kernel) rfl
theorem zm_570 : (Cond.instanceMethod y_M_buckets) ∈ zt := zt_of 570 (by decide +kernel) rfl
theorem zm_571 : (Cond.selects R_M y_M_buckets y_M_buckets) ∈ zt := zt_of 571 (by decide +kernel) rfl
theorem zm_572 : (Cond.code y_M_buckets b_M_buckets 3 (some .int)) ∈ zt := zt_of 572 (by decide +kernel) rfl
theorem zm_573 : (Cond.methodLink R_L (100 : Nat) y_M_bucketAt) ∈ zt := zt_of 573 (by decide +kernel) rfl
theorem zm_574 : (Cond.instanceMethod y_M_bucketAt) ∈ zt := zt_of 574 (by decide +kernel) rfl
theorem zm_575 : (Cond.selects R_M y_M_bucketAt y_M_bucketAt) ∈ zt := zt_of 575 (by decide +kernel) rfl
theorem zm_576 : (Cond.code y_M_bucketAt b_M_bucketAt 4 (some .int)) ∈ zt := zt_of 576 (by decide +kernel) rfl
theorem zm_577 : (Cond.methodLink R_L (104 : Nat) y_M_keyAt) ∈ zt := zt_of 577 (by decide +kernel) rfl
theorem zm_578 : (Cond.instanceMethod y_M_keyAt) ∈ zt := zt_of 578 (by decide +kernel) rfl
theorem zm_579 : (Cond.selects R_M y_M_keyAt y_M_keyAt) ∈ zt := zt_of 579 (by decide +kernel) rfl
theorem zm_580 : (Cond.code y_M_keyAt b_M_keyAt 6 (some .int)) ∈ zt := zt_of 580 (by decide +kernel) rfl
theorem zm_581 : (Cond.constantLong R_L (21 : Nat) (4294967295 : Int64)) ∈ zt := zt_of 581 (by decide +kernel) rfl
theorem zs_0 : Cond.selects R_K y_K_keysBelow y_K_keysBelow ∈ zt := zt_sel 0 (by decide +kernel) rfl
theorem zs_1 : Cond.selects R_K y_K_isAt y_K_isAt ∈ zt := zt_sel 1 (by decide +kernel) rfl
theorem zs_2 : Cond.selects R_E y_E_recordAndSet y_E_recordAndSet ∈ zt := zt_sel 2 (by decide +kernel) rfl
theorem zs_3 : Cond.selects R_R y_R_append y_R_append ∈ zt := zt_sel 3 (by decide +kernel) rfl
theorem zs_4 : Cond.selects R_K y_K_insert y_K_insert ∈ zt := zt_sel 4 (by decide +kernel) rfl
theorem zs_5 : Cond.selects R_E y_E_isOverfull y_E_isOverfull ∈ zt := zt_sel 5 (by decide +kernel) rfl
theorem zs_6 : Cond.selects R_C y_C_isGood y_C_isGood ∈ zt := zt_sel 6 (by decide +kernel) rfl
theorem zs_7 : Cond.selects R_E y_E_takeBackFrom y_E_takeBackFrom ∈ zt := zt_sel 7 (by decide +kernel) rfl
theorem zs_8 : Cond.selects R_E y_E_recordAndRemove y_E_recordAndRemove ∈ zt := zt_sel 8 (by decide +kernel) rfl
theorem zs_9 : Cond.selects R_E y_E_doStepsOfBatch y_E_doStepsOfBatch ∈ zt := zt_sel 9 (by decide +kernel) rfl
theorem zs_10 : Cond.selects R_K y_K_keyInBucket y_K_keyInBucket ∈ zt := zt_sel 10 (by decide +kernel) rfl
theorem zs_11 : Cond.selects R_M y_M_step y_M_step ∈ zt := zt_sel 11 (by decide +kernel) rfl
theorem zs_12 : Cond.selects R_M y_M_now y_M_now ∈ zt := zt_sel 12 (by decide +kernel) rfl
theorem zs_13 : Cond.selects R_M y_M_replay y_M_replay ∈ zt := zt_sel 13 (by decide +kernel) rfl
theorem zs_14 : Cond.selects R_M y_M_set y_M_set ∈ zt := zt_sel 14 (by decide +kernel) rfl
theorem zs_15 : Cond.selects R_M y_M_find y_M_find ∈ zt := zt_sel 15 (by decide +kernel) rfl
theorem zs_16 : Cond.selects R_M y_M_remove y_M_remove ∈ zt := zt_sel 16 (by decide +kernel) rfl
theorem zs_17 : Cond.selects R_M y_M_write y_M_write ∈ zt := zt_sel 17 (by decide +kernel) rfl
theorem zs_18 : Cond.selects R_M y_M_stays y_M_stays ∈ zt := zt_sel 18 (by decide +kernel) rfl
theorem zs_19 : Cond.selects R_M y_M_inUse y_M_inUse ∈ zt := zt_sel 19 (by decide +kernel) rfl
theorem zs_20 : Cond.selects R_M y_M_greatest y_M_greatest ∈ zt := zt_sel 20 (by decide +kernel) rfl
theorem zs_21 : Cond.selects R_M y_M_depthOf y_M_depthOf ∈ zt := zt_sel 21 (by decide +kernel) rfl
theorem zs_22 : Cond.selects R_M y_M_good y_M_good ∈ zt := zt_sel 22 (by decide +kernel) rfl
theorem zs_23 : Cond.selects R_M y_M_hash y_M_hash ∈ zt := zt_sel 23 (by decide +kernel) rfl
theorem zs_24 : Cond.selects R_M y_M_inClass y_M_inClass ∈ zt := zt_sel 24 (by decide +kernel) rfl
theorem zs_25 : Cond.selects R_M y_M_count y_M_count ∈ zt := zt_sel 25 (by decide +kernel) rfl
theorem zs_26 : Cond.selects R_M y_M_valuePages y_M_valuePages ∈ zt := zt_sel 26 (by decide +kernel) rfl
theorem zs_27 : Cond.selects R_M y_M_bytes y_M_bytes ∈ zt := zt_sel 27 (by decide +kernel) rfl
theorem zs_28 : Cond.selects R_M y_M_settle y_M_settle ∈ zt := zt_sel 28 (by decide +kernel) rfl
theorem zs_29 : Cond.selects R_M y_M_bucketOf y_M_bucketOf ∈ zt := zt_sel 29 (by decide +kernel) rfl
end
section
/-! Decode rows. -/
theorem d_E_init_0 : decode b_E_init 0 = .ok (.aload_n 0, 1) := by decide +kernel
theorem d_E_init_1 : decode b_E_init 1 = .ok (.invokespecial 3, 3) := by decide +kernel
theorem d_E_init_4 : decode b_E_init 4 = .ok (.aload_n 0, 1) := by decide +kernel
theorem d_E_init_5 : decode b_E_init 5 = .ok (.bipush 8, 2) := by decide +kernel
theorem d_E_init_7 : decode b_E_init 7 = .ok (.sipush 200, 3) := by decide +kernel
theorem d_E_init_10 : decode b_E_init 10 = .ok (.iload_n 1, 1) := by decide +kernel
theorem d_E_init_11 : decode b_E_init 11 = .ok (.invokestatic 9, 3) := by decide +kernel
theorem d_E_init_14 : decode b_E_init 14 = .ok (.invokestatic 15, 3) := by decide +kernel
theorem d_E_init_17 : decode b_E_init 17 = .ok (.putfield 18, 3) := by decide +kernel
theorem d_E_init_20 : decode b_E_init 20 = .ok (.aload_n 0, 1) := by decide +kernel
theorem d_E_init_21 : decode b_E_init 21 = .ok (.new 22, 3) := by decide +kernel
theorem d_E_init_24 : decode b_E_init 24 = .ok (.dup, 1) := by decide +kernel
theorem d_E_init_25 : decode b_E_init 25 = .ok (.invokespecial 24, 3) := by decide +kernel
theorem d_E_init_28 : decode b_E_init 28 = .ok (.putfield 25, 3) := by decide +kernel
theorem d_E_init_31 : decode b_E_init 31 = .ok (.aload_n 0, 1) := by decide +kernel
theorem d_E_init_32 : decode b_E_init 32 = .ok (.new 29, 3) := by decide +kernel
theorem d_E_init_35 : decode b_E_init 35 = .ok (.dup, 1) := by decide +kernel
theorem d_E_init_36 : decode b_E_init 36 = .ok (.invokespecial 31, 3) := by decide +kernel
theorem d_E_init_39 : decode b_E_init 39 = .ok (.putfield 32, 3) := by decide +kernel
theorem d_E_init_42 : decode b_E_init 42 = .ok (.aload_n 0, 1) := by decide +kernel
theorem d_E_init_43 : decode b_E_init 43 = .ok (.new 36, 3) := by decide +kernel
theorem d_E_init_46 : decode b_E_init 46 = .ok (.dup, 1) := by decide +kernel
theorem d_E_init_47 : decode b_E_init 47 = .ok (.invokespecial 38, 3) := by decide +kernel
theorem d_E_init_50 : decode b_E_init 50 = .ok (.putfield 39, 3) := by decide +kernel
theorem d_E_init_53 : decode b_E_init 53 = .ok (.return_, 1) := by decide +kernel
theorem d_E_put_0 : decode b_E_put 0 = .ok (.aload_n 0, 1) := by decide +kernel
theorem d_E_put_1 : decode b_E_put 1 = .ok (.getfield 39, 3) := by decide +kernel
theorem d_E_put_4 : decode b_E_put 4 = .ok (.getfield 43, 3) := by decide +kernel
theorem d_E_put_7 : decode b_E_put 7 = .ok (.ifCond .eq 14, 3) := by decide +kernel
theorem d_E_put_10 : decode b_E_put 10 = .ok (.aload_n 0, 1) := by decide +kernel
theorem d_E_put_11 : decode b_E_put 11 = .ok (.getfield 39, 3) := by decide +kernel
theorem d_E_put_14 : decode b_E_put 14 = .ok (.iconst 1, 1) := by decide +kernel
theorem d_E_put_15 : decode b_E_put 15 = .ok (.iload_n 1, 1) := by decide +kernel
theorem d_E_put_16 : decode b_E_put 16 = .ok (.lload_n 2, 1) := by decide +kernel
theorem d_E_put_17 : decode b_E_put 17 = .ok (.invokevirtual 47, 3) := by decide +kernel
theorem d_E_put_20 : decode b_E_put 20 = .ok (.ireturn, 1) := by decide +kernel
theorem d_E_put_21 : decode b_E_put 21 = .ok (.aload_n 0, 1) := by decide +kernel
theorem d_E_put_22 : decode b_E_put 22 = .ok (.getfield 32, 3) := by decide +kernel
theorem d_E_put_25 : decode b_E_put 25 = .ok (.getfield 51, 3) := by decide +kernel
theorem d_E_put_28 : decode b_E_put 28 = .ok (.istore 4, 2) := by decide +kernel
theorem d_E_put_30 : decode b_E_put 30 = .ok (.aload_n 0, 1) := by decide +kernel
theorem d_E_put_31 : decode b_E_put 31 = .ok (.getfield 25, 3) := by decide +kernel
theorem d_E_put_34 : decode b_E_put 34 = .ok (.iload_n 1, 1) := by decide +kernel
theorem d_E_put_35 : decode b_E_put 35 = .ok (.invokevirtual 54, 3) := by decide +kernel
theorem d_E_put_38 : decode b_E_put 38 = .ok (.istore 5, 2) := by decide +kernel
theorem d_E_put_40 : decode b_E_put 40 = .ok (.aload_n 0, 1) := by decide +kernel
theorem d_E_put_41 : decode b_E_put 41 = .ok (.iload_n 1, 1) := by decide +kernel
theorem d_E_put_42 : decode b_E_put 42 = .ok (.lload_n 2, 1) := by decide +kernel
theorem d_E_put_43 : decode b_E_put 43 = .ok (.invokevirtual 58, 3) := by decide +kernel
theorem d_E_put_46 : decode b_E_put 46 = .ok (.aload_n 0, 1) := by decide +kernel
theorem d_E_put_47 : decode b_E_put 47 = .ok (.invokevirtual 62, 3) := by decide +kernel
theorem d_E_put_50 : decode b_E_put 50 = .ok (.ifCond .eq 11, 3) := by decide +kernel
theorem d_E_put_53 : decode b_E_put 53 = .ok (.aload_n 0, 1) := by decide +kernel
theorem d_E_put_54 : decode b_E_put 54 = .ok (.iload 4, 2) := by decide +kernel
theorem d_E_put_56 : decode b_E_put 56 = .ok (.invokevirtual 66, 3) := by decide +kernel
theorem d_E_put_59 : decode b_E_put 59 = .ok (.iconst 0, 1) := by decide +kernel
theorem d_E_put_60 : decode b_E_put 60 = .ok (.ireturn, 1) := by decide +kernel
theorem d_E_put_61 : decode b_E_put 61 = .ok (.aload_n 0, 1) := by decide +kernel
theorem d_E_put_62 : decode b_E_put 62 = .ok (.getfield 32, 3) := by decide +kernel
theorem d_E_put_65 : decode b_E_put 65 = .ok (.iload 4, 2) := by decide +kernel
theorem d_E_put_67 : decode b_E_put 67 = .ok (.invokevirtual 70, 3) := by decide +kernel
theorem d_E_put_70 : decode b_E_put 70 = .ok (.iload 5, 2) := by decide +kernel
theorem d_E_put_72 : decode b_E_put 72 = .ok (.ifCond .eq 7, 3) := by decide +kernel
theorem d_E_put_75 : decode b_E_put 75 = .ok (.iconst 2, 1) := by decide +kernel
theorem d_E_put_76 : decode b_E_put 76 = .ok (.goto 4, 3) := by decide +kernel
theorem d_E_put_79 : decode b_E_put 79 = .ok (.iconst 1, 1) := by decide +kernel
theorem d_E_put_80 : decode b_E_put 80 = .ok (.ireturn, 1) := by decide +kernel
theorem d_E_recordAndSet_0 : decode b_E_recordAndSet 0 = .ok (.aload_n 0, 1) := by decide +kernel
theorem d_E_recordAndSet_1 : decode b_E_recordAndSet 1 = .ok (.getfield 32, 3) := by decide +kernel
theorem d_E_recordAndSet_4 : decode b_E_recordAndSet 4 = .ok (.iload_n 1, 1) := by decide +kernel
theorem d_E_recordAndSet_5 : decode b_E_recordAndSet 5 = .ok (.aload_n 0, 1) := by decide +kernel
theorem d_E_recordAndSet_6 : decode b_E_recordAndSet 6 = .ok (.getfield 25, 3) := by decide +kernel
theorem d_E_recordAndSet_9 : decode b_E_recordAndSet 9 = .ok (.iload_n 1, 1) := by decide +kernel
theorem d_E_recordAndSet_10 : decode b_E_recordAndSet 10 = .ok (.invokevirtual 54, 3) := by decide +kernel
theorem d_E_recordAndSet_13 : decode b_E_recordAndSet 13 = .ok (.aload_n 0, 1) := by decide +kernel
theorem d_E_recordAndSet_14 : decode b_E_recordAndSet 14 = .ok (.getfield 25, 3) := by decide +kernel
theorem d_E_recordAndSet_17 : decode b_E_recordAndSet 17 = .ok (.iload_n 1, 1) := by decide +kernel
theorem d_E_recordAndSet_18 : decode b_E_recordAndSet 18 = .ok (.invokevirtual 76, 3) := by decide +kernel
theorem d_E_recordAndSet_21 : decode b_E_recordAndSet 21 = .ok (.invokevirtual 136, 3) := by decide +kernel
theorem d_E_recordAndSet_24 : decode b_E_recordAndSet 24 = .ok (.aload_n 0, 1) := by decide +kernel
theorem d_E_recordAndSet_25 : decode b_E_recordAndSet 25 = .ok (.getfield 25, 3) := by decide +kernel
theorem d_E_recordAndSet_28 : decode b_E_recordAndSet 28 = .ok (.iload_n 1, 1) := by decide +kernel
theorem d_E_recordAndSet_29 : decode b_E_recordAndSet 29 = .ok (.lload_n 2, 1) := by decide +kernel
theorem d_E_recordAndSet_30 : decode b_E_recordAndSet 30 = .ok (.invokevirtual 140, 3) := by decide +kernel
theorem d_E_recordAndSet_33 : decode b_E_recordAndSet 33 = .ok (.return_, 1) := by decide +kernel
theorem d_E_hash_0 : decode b_E_hash 0 = .ok (.iload_n 0, 1) := by decide +kernel
theorem d_E_hash_1 : decode b_E_hash 1 = .ok (.iload_n 0, 1) := by decide +kernel
theorem d_E_hash_2 : decode b_E_hash 2 = .ok (.bipush 6, 2) := by decide +kernel
theorem d_E_hash_4 : decode b_E_hash 4 = .ok (.iushr, 1) := by decide +kernel
theorem d_E_hash_5 : decode b_E_hash 5 = .ok (.ixor, 1) := by decide +kernel
theorem d_E_hash_6 : decode b_E_hash 6 = .ok (.iload_n 0, 1) := by decide +kernel
theorem d_E_hash_7 : decode b_E_hash 7 = .ok (.bipush 12, 2) := by decide +kernel
theorem d_E_hash_9 : decode b_E_hash 9 = .ok (.iushr, 1) := by decide +kernel
theorem d_E_hash_10 : decode b_E_hash 10 = .ok (.ixor, 1) := by decide +kernel
theorem d_E_hash_11 : decode b_E_hash 11 = .ok (.iload_n 0, 1) := by decide +kernel
theorem d_E_hash_12 : decode b_E_hash 12 = .ok (.bipush 18, 2) := by decide +kernel
theorem d_E_hash_14 : decode b_E_hash 14 = .ok (.iushr, 1) := by decide +kernel
theorem d_E_hash_15 : decode b_E_hash 15 = .ok (.ixor, 1) := by decide +kernel
theorem d_E_hash_16 : decode b_E_hash 16 = .ok (.iload_n 0, 1) := by decide +kernel
theorem d_E_hash_17 : decode b_E_hash 17 = .ok (.bipush 24, 2) := by decide +kernel
theorem d_E_hash_19 : decode b_E_hash 19 = .ok (.iushr, 1) := by decide +kernel
theorem d_E_hash_20 : decode b_E_hash 20 = .ok (.ixor, 1) := by decide +kernel
theorem d_E_hash_21 : decode b_E_hash 21 = .ok (.iload_n 0, 1) := by decide +kernel
theorem d_E_hash_22 : decode b_E_hash 22 = .ok (.bipush 30, 2) := by decide +kernel
theorem d_E_hash_24 : decode b_E_hash 24 = .ok (.iushr, 1) := by decide +kernel
theorem d_E_hash_25 : decode b_E_hash 25 = .ok (.ixor, 1) := by decide +kernel
theorem d_E_hash_26 : decode b_E_hash 26 = .ok (.bipush 63, 2) := by decide +kernel
theorem d_E_hash_28 : decode b_E_hash 28 = .ok (.iand, 1) := by decide +kernel
theorem d_E_hash_29 : decode b_E_hash 29 = .ok (.ireturn, 1) := by decide +kernel
theorem d_E_isOverfull_0 : decode b_E_isOverfull 0 = .ok (.aload_n 0, 1) := by decide +kernel
theorem d_E_isOverfull_1 : decode b_E_isOverfull 1 = .ok (.getfield 25, 3) := by decide +kernel
theorem d_E_isOverfull_4 : decode b_E_isOverfull 4 = .ok (.getfield 107, 3) := by decide +kernel
theorem d_E_isOverfull_7 : decode b_E_isOverfull 7 = .ok (.bipush 60, 2) := by decide +kernel
theorem d_E_isOverfull_9 : decode b_E_isOverfull 9 = .ok (.if_icmp .gt 17, 3) := by decide +kernel
theorem d_E_isOverfull_12 : decode b_E_isOverfull 12 = .ok (.aload_n 0, 1) := by decide +kernel
theorem d_E_isOverfull_13 : decode b_E_isOverfull 13 = .ok (.getfield 25, 3) := by decide +kernel
theorem d_E_isOverfull_16 : decode b_E_isOverfull 16 = .ok (.invokevirtual 108, 3) := by decide +kernel
theorem d_E_isOverfull_19 : decode b_E_isOverfull 19 = .ok (.aload_n 0, 1) := by decide +kernel
theorem d_E_isOverfull_20 : decode b_E_isOverfull 20 = .ok (.getfield 18, 3) := by decide +kernel
theorem d_E_isOverfull_23 : decode b_E_isOverfull 23 = .ok (.if_icmp .le 7, 3) := by decide +kernel
theorem d_E_isOverfull_26 : decode b_E_isOverfull 26 = .ok (.iconst 1, 1) := by decide +kernel
theorem d_E_isOverfull_27 : decode b_E_isOverfull 27 = .ok (.goto 4, 3) := by decide +kernel
theorem d_E_isOverfull_30 : decode b_E_isOverfull 30 = .ok (.iconst 0, 1) := by decide +kernel
theorem d_E_isOverfull_31 : decode b_E_isOverfull 31 = .ok (.ireturn, 1) := by decide +kernel
theorem d_E_directoryPages_0 : decode b_E_directoryPages 0 = .ok (.iload_n 0, 1) := by decide +kernel
theorem d_E_directoryPages_1 : decode b_E_directoryPages 1 = .ok (.bipush 16, 2) := by decide +kernel
theorem d_E_directoryPages_3 : decode b_E_directoryPages 3 = .ok (.iadd, 1) := by decide +kernel
theorem d_E_directoryPages_4 : decode b_E_directoryPages 4 = .ok (.iconst 1, 1) := by decide +kernel
theorem d_E_directoryPages_5 : decode b_E_directoryPages 5 = .ok (.isub, 1) := by decide +kernel
theorem d_E_directoryPages_6 : decode b_E_directoryPages 6 = .ok (.bipush 16, 2) := by decide +kernel
theorem d_E_directoryPages_8 : decode b_E_directoryPages 8 = .ok (.idiv, 1) := by decide +kernel
theorem d_E_directoryPages_9 : decode b_E_directoryPages 9 = .ok (.ireturn, 1) := by decide +kernel
theorem d_E_bucketPages_0 : decode b_E_bucketPages 0 = .ok (.iconst 1, 1) := by decide +kernel
theorem d_E_bucketPages_1 : decode b_E_bucketPages 1 = .ok (.iload_n 0, 1) := by decide +kernel
theorem d_E_bucketPages_2 : decode b_E_bucketPages 2 = .ok (.iconst 4, 1) := by decide +kernel
theorem d_E_bucketPages_3 : decode b_E_bucketPages 3 = .ok (.iadd, 1) := by decide +kernel
theorem d_E_bucketPages_4 : decode b_E_bucketPages 4 = .ok (.iconst 1, 1) := by decide +kernel
theorem d_E_bucketPages_5 : decode b_E_bucketPages 5 = .ok (.isub, 1) := by decide +kernel
theorem d_E_bucketPages_6 : decode b_E_bucketPages 6 = .ok (.iconst 4, 1) := by decide +kernel
theorem d_E_bucketPages_7 : decode b_E_bucketPages 7 = .ok (.idiv, 1) := by decide +kernel
theorem d_E_bucketPages_8 : decode b_E_bucketPages 8 = .ok (.invokestatic 15, 3) := by decide +kernel
theorem d_E_bucketPages_11 : decode b_E_bucketPages 11 = .ok (.ireturn, 1) := by decide +kernel
theorem d_E_valuePages_0 : decode b_E_valuePages 0 = .ok (.lload_n 0, 1) := by decide +kernel
theorem d_E_valuePages_1 : decode b_E_valuePages 1 = .ok (.invokestatic 163, 3) := by decide +kernel
theorem d_E_valuePages_4 : decode b_E_valuePages 4 = .ok (.istore_n 2, 1) := by decide +kernel
theorem d_E_valuePages_5 : decode b_E_valuePages 5 = .ok (.iload_n 2, 1) := by decide +kernel
theorem d_E_valuePages_6 : decode b_E_valuePages 6 = .ok (.iconst 2, 1) := by decide +kernel
theorem d_E_valuePages_7 : decode b_E_valuePages 7 = .ok (.if_icmp .le 13, 3) := by decide +kernel
theorem d_E_valuePages_10 : decode b_E_valuePages 10 = .ok (.iload_n 2, 1) := by decide +kernel
theorem d_E_valuePages_11 : decode b_E_valuePages 11 = .ok (.iconst 2, 1) := by decide +kernel
theorem d_E_valuePages_12 : decode b_E_valuePages 12 = .ok (.iadd, 1) := by decide +kernel
theorem d_E_valuePages_13 : decode b_E_valuePages 13 = .ok (.iconst 1, 1) := by decide +kernel
theorem d_E_valuePages_14 : decode b_E_valuePages 14 = .ok (.isub, 1) := by decide +kernel
theorem d_E_valuePages_15 : decode b_E_valuePages 15 = .ok (.iconst 2, 1) := by decide +kernel
theorem d_E_valuePages_16 : decode b_E_valuePages 16 = .ok (.idiv, 1) := by decide +kernel
theorem d_E_valuePages_17 : decode b_E_valuePages 17 = .ok (.goto 4, 3) := by decide +kernel
theorem d_E_valuePages_20 : decode b_E_valuePages 20 = .ok (.iconst 0, 1) := by decide +kernel
theorem d_E_valuePages_21 : decode b_E_valuePages 21 = .ok (.ireturn, 1) := by decide +kernel
theorem d_E_bytesOf_0 : decode b_E_bytesOf 0 = .ok (.iconst 1, 1) := by decide +kernel
theorem d_E_bytesOf_1 : decode b_E_bytesOf 1 = .ok (.istore_n 2, 1) := by decide +kernel
theorem d_E_bytesOf_2 : decode b_E_bytesOf 2 = .ok (.iload_n 2, 1) := by decide +kernel
theorem d_E_bytesOf_3 : decode b_E_bytesOf 3 = .ok (.bipush 8, 2) := by decide +kernel
theorem d_E_bytesOf_5 : decode b_E_bytesOf 5 = .ok (.if_icmp .ge 22, 3) := by decide +kernel
theorem d_E_bytesOf_8 : decode b_E_bytesOf 8 = .ok (.lload_n 0, 1) := by decide +kernel
theorem d_E_bytesOf_9 : decode b_E_bytesOf 9 = .ok (.bipush 8, 2) := by decide +kernel
theorem d_E_bytesOf_11 : decode b_E_bytesOf 11 = .ok (.iload_n 2, 1) := by decide +kernel
theorem d_E_bytesOf_12 : decode b_E_bytesOf 12 = .ok (.imul, 1) := by decide +kernel
theorem d_E_bytesOf_13 : decode b_E_bytesOf 13 = .ok (.lushr, 1) := by decide +kernel
theorem d_E_bytesOf_14 : decode b_E_bytesOf 14 = .ok (.lconst 0, 1) := by decide +kernel
theorem d_E_bytesOf_15 : decode b_E_bytesOf 15 = .ok (.lcmp, 1) := by decide +kernel
theorem d_E_bytesOf_16 : decode b_E_bytesOf 16 = .ok (.ifCond .ne 5, 3) := by decide +kernel
theorem d_E_bytesOf_19 : decode b_E_bytesOf 19 = .ok (.iload_n 2, 1) := by decide +kernel
theorem d_E_bytesOf_20 : decode b_E_bytesOf 20 = .ok (.ireturn, 1) := by decide +kernel
theorem d_E_bytesOf_21 : decode b_E_bytesOf 21 = .ok (.iinc 2 1, 3) := by decide +kernel
theorem d_E_bytesOf_24 : decode b_E_bytesOf 24 = .ok (.goto (-22), 3) := by decide +kernel
theorem d_E_bytesOf_27 : decode b_E_bytesOf 27 = .ok (.bipush 8, 2) := by decide +kernel
theorem d_E_bytesOf_29 : decode b_E_bytesOf 29 = .ok (.ireturn, 1) := by decide +kernel
theorem d_E_takeBackFrom_0 : decode b_E_takeBackFrom 0 = .ok (.aload_n 0, 1) := by decide +kernel
theorem d_E_takeBackFrom_1 : decode b_E_takeBackFrom 1 = .ok (.getfield 32, 3) := by decide +kernel
theorem d_E_takeBackFrom_4 : decode b_E_takeBackFrom 4 = .ok (.getfield 51, 3) := by decide +kernel
theorem d_E_takeBackFrom_7 : decode b_E_takeBackFrom 7 = .ok (.iconst 1, 1) := by decide +kernel
theorem d_E_takeBackFrom_8 : decode b_E_takeBackFrom 8 = .ok (.isub, 1) := by decide +kernel
theorem d_E_takeBackFrom_9 : decode b_E_takeBackFrom 9 = .ok (.istore_n 2, 1) := by decide +kernel
theorem d_E_takeBackFrom_10 : decode b_E_takeBackFrom 10 = .ok (.iload_n 2, 1) := by decide +kernel
theorem d_E_takeBackFrom_11 : decode b_E_takeBackFrom 11 = .ok (.iload_n 1, 1) := by decide +kernel
theorem d_E_takeBackFrom_12 : decode b_E_takeBackFrom 12 = .ok (.if_icmp .lt 79, 3) := by decide +kernel
theorem d_E_takeBackFrom_15 : decode b_E_takeBackFrom 15 = .ok (.aload_n 0, 1) := by decide +kernel
theorem d_E_takeBackFrom_16 : decode b_E_takeBackFrom 16 = .ok (.getfield 32, 3) := by decide +kernel
theorem d_E_takeBackFrom_19 : decode b_E_takeBackFrom 19 = .ok (.getfield 158, 3) := by decide +kernel
theorem d_E_takeBackFrom_22 : decode b_E_takeBackFrom 22 = .ok (.iload_n 2, 1) := by decide +kernel
theorem d_E_takeBackFrom_23 : decode b_E_takeBackFrom 23 = .ok (.iaload, 1) := by decide +kernel
theorem d_E_takeBackFrom_24 : decode b_E_takeBackFrom 24 = .ok (.iconst 2, 1) := by decide +kernel
theorem d_E_takeBackFrom_25 : decode b_E_takeBackFrom 25 = .ok (.if_icmp .ne 31, 3) := by decide +kernel
theorem d_E_takeBackFrom_28 : decode b_E_takeBackFrom 28 = .ok (.aload_n 0, 1) := by decide +kernel
theorem d_E_takeBackFrom_29 : decode b_E_takeBackFrom 29 = .ok (.getfield 25, 3) := by decide +kernel
theorem d_E_takeBackFrom_32 : decode b_E_takeBackFrom 32 = .ok (.aload_n 0, 1) := by decide +kernel
theorem d_E_takeBackFrom_33 : decode b_E_takeBackFrom 33 = .ok (.getfield 32, 3) := by decide +kernel
theorem d_E_takeBackFrom_36 : decode b_E_takeBackFrom 36 = .ok (.getfield 161, 3) := by decide +kernel
theorem d_E_takeBackFrom_39 : decode b_E_takeBackFrom 39 = .ok (.iload_n 2, 1) := by decide +kernel
theorem d_E_takeBackFrom_40 : decode b_E_takeBackFrom 40 = .ok (.iaload, 1) := by decide +kernel
theorem d_E_takeBackFrom_41 : decode b_E_takeBackFrom 41 = .ok (.aload_n 0, 1) := by decide +kernel
theorem d_E_takeBackFrom_42 : decode b_E_takeBackFrom 42 = .ok (.getfield 32, 3) := by decide +kernel
theorem d_E_takeBackFrom_45 : decode b_E_takeBackFrom 45 = .ok (.getfield 162, 3) := by decide +kernel
theorem d_E_takeBackFrom_48 : decode b_E_takeBackFrom 48 = .ok (.iload_n 2, 1) := by decide +kernel
theorem d_E_takeBackFrom_49 : decode b_E_takeBackFrom 49 = .ok (.laload, 1) := by decide +kernel
theorem d_E_takeBackFrom_50 : decode b_E_takeBackFrom 50 = .ok (.invokevirtual 140, 3) := by decide +kernel
theorem d_E_takeBackFrom_53 : decode b_E_takeBackFrom 53 = .ok (.goto 32, 3) := by decide +kernel
theorem d_E_takeBackFrom_56 : decode b_E_takeBackFrom 56 = .ok (.aload_n 0, 1) := by decide +kernel
theorem d_E_takeBackFrom_57 : decode b_E_takeBackFrom 57 = .ok (.getfield 32, 3) := by decide +kernel
theorem d_E_takeBackFrom_60 : decode b_E_takeBackFrom 60 = .ok (.getfield 158, 3) := by decide +kernel
theorem d_E_takeBackFrom_63 : decode b_E_takeBackFrom 63 = .ok (.iload_n 2, 1) := by decide +kernel
theorem d_E_takeBackFrom_64 : decode b_E_takeBackFrom 64 = .ok (.iaload, 1) := by decide +kernel
theorem d_E_takeBackFrom_65 : decode b_E_takeBackFrom 65 = .ok (.iconst 1, 1) := by decide +kernel
theorem d_E_takeBackFrom_66 : decode b_E_takeBackFrom 66 = .ok (.if_icmp .ne 19, 3) := by decide +kernel
theorem d_E_takeBackFrom_69 : decode b_E_takeBackFrom 69 = .ok (.aload_n 0, 1) := by decide +kernel
theorem d_E_takeBackFrom_70 : decode b_E_takeBackFrom 70 = .ok (.getfield 25, 3) := by decide +kernel
theorem d_E_takeBackFrom_73 : decode b_E_takeBackFrom 73 = .ok (.aload_n 0, 1) := by decide +kernel
theorem d_E_takeBackFrom_74 : decode b_E_takeBackFrom 74 = .ok (.getfield 32, 3) := by decide +kernel
theorem d_E_takeBackFrom_77 : decode b_E_takeBackFrom 77 = .ok (.getfield 161, 3) := by decide +kernel
theorem d_E_takeBackFrom_80 : decode b_E_takeBackFrom 80 = .ok (.iload_n 2, 1) := by decide +kernel
theorem d_E_takeBackFrom_81 : decode b_E_takeBackFrom 81 = .ok (.iaload, 1) := by decide +kernel
theorem d_E_takeBackFrom_82 : decode b_E_takeBackFrom 82 = .ok (.invokevirtual 143, 3) := by decide +kernel
theorem d_E_takeBackFrom_85 : decode b_E_takeBackFrom 85 = .ok (.iinc 2 (-1), 3) := by decide +kernel
theorem d_E_takeBackFrom_88 : decode b_E_takeBackFrom 88 = .ok (.goto (-78), 3) := by decide +kernel
theorem d_E_takeBackFrom_91 : decode b_E_takeBackFrom 91 = .ok (.aload_n 0, 1) := by decide +kernel
theorem d_E_takeBackFrom_92 : decode b_E_takeBackFrom 92 = .ok (.getfield 32, 3) := by decide +kernel
theorem d_E_takeBackFrom_95 : decode b_E_takeBackFrom 95 = .ok (.iload_n 1, 1) := by decide +kernel
theorem d_E_takeBackFrom_96 : decode b_E_takeBackFrom 96 = .ok (.invokevirtual 101, 3) := by decide +kernel
theorem d_E_takeBackFrom_99 : decode b_E_takeBackFrom 99 = .ok (.return_, 1) := by decide +kernel
theorem d_E_delete_0 : decode b_E_delete 0 = .ok (.aload_n 0, 1) := by decide +kernel
theorem d_E_delete_1 : decode b_E_delete 1 = .ok (.getfield 39, 3) := by decide +kernel
theorem d_E_delete_4 : decode b_E_delete 4 = .ok (.getfield 43, 3) := by decide +kernel
theorem d_E_delete_7 : decode b_E_delete 7 = .ok (.ifCond .eq 14, 3) := by decide +kernel
theorem d_E_delete_10 : decode b_E_delete 10 = .ok (.aload_n 0, 1) := by decide +kernel
theorem d_E_delete_11 : decode b_E_delete 11 = .ok (.getfield 39, 3) := by decide +kernel
theorem d_E_delete_14 : decode b_E_delete 14 = .ok (.iconst 0, 1) := by decide +kernel
theorem d_E_delete_15 : decode b_E_delete 15 = .ok (.iload_n 1, 1) := by decide +kernel
theorem d_E_delete_16 : decode b_E_delete 16 = .ok (.lconst 0, 1) := by decide +kernel
theorem d_E_delete_17 : decode b_E_delete 17 = .ok (.invokevirtual 47, 3) := by decide +kernel
theorem d_E_delete_20 : decode b_E_delete 20 = .ok (.ireturn, 1) := by decide +kernel
theorem d_E_delete_21 : decode b_E_delete 21 = .ok (.aload_n 0, 1) := by decide +kernel
theorem d_E_delete_22 : decode b_E_delete 22 = .ok (.getfield 25, 3) := by decide +kernel
theorem d_E_delete_25 : decode b_E_delete 25 = .ok (.iload_n 1, 1) := by decide +kernel
theorem d_E_delete_26 : decode b_E_delete 26 = .ok (.invokevirtual 54, 3) := by decide +kernel
theorem d_E_delete_29 : decode b_E_delete 29 = .ok (.ifCond .ne 5, 3) := by decide +kernel
theorem d_E_delete_32 : decode b_E_delete 32 = .ok (.iconst 0, 1) := by decide +kernel
theorem d_E_delete_33 : decode b_E_delete 33 = .ok (.ireturn, 1) := by decide +kernel
theorem d_E_delete_34 : decode b_E_delete 34 = .ok (.aload_n 0, 1) := by decide +kernel
theorem d_E_delete_35 : decode b_E_delete 35 = .ok (.getfield 32, 3) := by decide +kernel
theorem d_E_delete_38 : decode b_E_delete 38 = .ok (.getfield 51, 3) := by decide +kernel
theorem d_E_delete_41 : decode b_E_delete 41 = .ok (.istore_n 2, 1) := by decide +kernel
theorem d_E_delete_42 : decode b_E_delete 42 = .ok (.aload_n 0, 1) := by decide +kernel
theorem d_E_delete_43 : decode b_E_delete 43 = .ok (.iload_n 1, 1) := by decide +kernel
theorem d_E_delete_44 : decode b_E_delete 44 = .ok (.invokevirtual 73, 3) := by decide +kernel
theorem d_E_delete_47 : decode b_E_delete 47 = .ok (.aload_n 0, 1) := by decide +kernel
theorem d_E_delete_48 : decode b_E_delete 48 = .ok (.getfield 32, 3) := by decide +kernel
theorem d_E_delete_51 : decode b_E_delete 51 = .ok (.iload_n 2, 1) := by decide +kernel
theorem d_E_delete_52 : decode b_E_delete 52 = .ok (.invokevirtual 70, 3) := by decide +kernel
theorem d_E_delete_55 : decode b_E_delete 55 = .ok (.iconst 1, 1) := by decide +kernel
theorem d_E_delete_56 : decode b_E_delete 56 = .ok (.ireturn, 1) := by decide +kernel
theorem d_E_recordAndRemove_0 : decode b_E_recordAndRemove 0 = .ok (.aload_n 0, 1) := by decide +kernel
theorem d_E_recordAndRemove_1 : decode b_E_recordAndRemove 1 = .ok (.getfield 32, 3) := by decide +kernel
theorem d_E_recordAndRemove_4 : decode b_E_recordAndRemove 4 = .ok (.iload_n 1, 1) := by decide +kernel
theorem d_E_recordAndRemove_5 : decode b_E_recordAndRemove 5 = .ok (.aload_n 0, 1) := by decide +kernel
theorem d_E_recordAndRemove_6 : decode b_E_recordAndRemove 6 = .ok (.getfield 25, 3) := by decide +kernel
theorem d_E_recordAndRemove_9 : decode b_E_recordAndRemove 9 = .ok (.iload_n 1, 1) := by decide +kernel
theorem d_E_recordAndRemove_10 : decode b_E_recordAndRemove 10 = .ok (.invokevirtual 54, 3) := by decide +kernel
theorem d_E_recordAndRemove_13 : decode b_E_recordAndRemove 13 = .ok (.aload_n 0, 1) := by decide +kernel
theorem d_E_recordAndRemove_14 : decode b_E_recordAndRemove 14 = .ok (.getfield 25, 3) := by decide +kernel
theorem d_E_recordAndRemove_17 : decode b_E_recordAndRemove 17 = .ok (.iload_n 1, 1) := by decide +kernel
theorem d_E_recordAndRemove_18 : decode b_E_recordAndRemove 18 = .ok (.invokevirtual 76, 3) := by decide +kernel
theorem d_E_recordAndRemove_21 : decode b_E_recordAndRemove 21 = .ok (.invokevirtual 136, 3) := by decide +kernel
theorem d_E_recordAndRemove_24 : decode b_E_recordAndRemove 24 = .ok (.aload_n 0, 1) := by decide +kernel
theorem d_E_recordAndRemove_25 : decode b_E_recordAndRemove 25 = .ok (.getfield 25, 3) := by decide +kernel
theorem d_E_recordAndRemove_28 : decode b_E_recordAndRemove 28 = .ok (.iload_n 1, 1) := by decide +kernel
theorem d_E_recordAndRemove_29 : decode b_E_recordAndRemove 29 = .ok (.invokevirtual 143, 3) := by decide +kernel
theorem d_E_recordAndRemove_32 : decode b_E_recordAndRemove 32 = .ok (.return_, 1) := by decide +kernel
theorem d_E_has_0 : decode b_E_has 0 = .ok (.aload_n 0, 1) := by decide +kernel
theorem d_E_has_1 : decode b_E_has 1 = .ok (.getfield 25, 3) := by decide +kernel
theorem d_E_has_4 : decode b_E_has 4 = .ok (.iload_n 1, 1) := by decide +kernel
theorem d_E_has_5 : decode b_E_has 5 = .ok (.invokevirtual 54, 3) := by decide +kernel
theorem d_E_has_8 : decode b_E_has 8 = .ok (.ireturn, 1) := by decide +kernel
theorem d_E_get_0 : decode b_E_get 0 = .ok (.aload_n 0, 1) := by decide +kernel
theorem d_E_get_1 : decode b_E_get 1 = .ok (.getfield 25, 3) := by decide +kernel
theorem d_E_get_4 : decode b_E_get 4 = .ok (.iload_n 1, 1) := by decide +kernel
theorem d_E_get_5 : decode b_E_get 5 = .ok (.invokevirtual 76, 3) := by decide +kernel
theorem d_E_get_8 : decode b_E_get 8 = .ok (.lreturn, 1) := by decide +kernel
theorem d_E_reads_0 : decode b_E_reads 0 = .ok (.aload_n 0, 1) := by decide +kernel
theorem d_E_reads_1 : decode b_E_reads 1 = .ok (.getfield 25, 3) := by decide +kernel
theorem d_E_reads_4 : decode b_E_reads 4 = .ok (.iload_n 1, 1) := by decide +kernel
theorem d_E_reads_5 : decode b_E_reads 5 = .ok (.invokevirtual 54, 3) := by decide +kernel
theorem d_E_reads_8 : decode b_E_reads 8 = .ok (.ifCond .eq 17, 3) := by decide +kernel
theorem d_E_reads_11 : decode b_E_reads 11 = .ok (.aload_n 0, 1) := by decide +kernel
theorem d_E_reads_12 : decode b_E_reads 12 = .ok (.getfield 25, 3) := by decide +kernel
theorem d_E_reads_15 : decode b_E_reads 15 = .ok (.iload_n 1, 1) := by decide +kernel
theorem d_E_reads_16 : decode b_E_reads 16 = .ok (.invokevirtual 76, 3) := by decide +kernel
theorem d_E_reads_19 : decode b_E_reads 19 = .ok (.invokestatic 80, 3) := by decide +kernel
theorem d_E_reads_22 : decode b_E_reads 22 = .ok (.goto 4, 3) := by decide +kernel
theorem d_E_reads_25 : decode b_E_reads 25 = .ok (.iconst 0, 1) := by decide +kernel
theorem d_E_reads_26 : decode b_E_reads 26 = .ok (.istore_n 2, 1) := by decide +kernel
theorem d_E_reads_27 : decode b_E_reads 27 = .ok (.iconst 1, 1) := by decide +kernel
theorem d_E_reads_28 : decode b_E_reads 28 = .ok (.aload_n 0, 1) := by decide +kernel
theorem d_E_reads_29 : decode b_E_reads 29 = .ok (.getfield 25, 3) := by decide +kernel
theorem d_E_reads_32 : decode b_E_reads 32 = .ok (.iload_n 1, 1) := by decide +kernel
theorem d_E_reads_33 : decode b_E_reads 33 = .ok (.invokevirtual 84, 3) := by decide +kernel
theorem d_E_reads_36 : decode b_E_reads 36 = .ok (.iadd, 1) := by decide +kernel
theorem d_E_reads_37 : decode b_E_reads 37 = .ok (.iload_n 2, 1) := by decide +kernel
theorem d_E_reads_38 : decode b_E_reads 38 = .ok (.iadd, 1) := by decide +kernel
theorem d_E_reads_39 : decode b_E_reads 39 = .ok (.ireturn, 1) := by decide +kernel
theorem d_E_open_0 : decode b_E_open 0 = .ok (.aload_n 0, 1) := by decide +kernel
theorem d_E_open_1 : decode b_E_open 1 = .ok (.getfield 39, 3) := by decide +kernel
theorem d_E_open_4 : decode b_E_open 4 = .ok (.getfield 43, 3) := by decide +kernel
theorem d_E_open_7 : decode b_E_open 7 = .ok (.ifCond .eq 5, 3) := by decide +kernel
theorem d_E_open_10 : decode b_E_open 10 = .ok (.iconst 0, 1) := by decide +kernel
theorem d_E_open_11 : decode b_E_open 11 = .ok (.ireturn, 1) := by decide +kernel
theorem d_E_open_12 : decode b_E_open 12 = .ok (.aload_n 0, 1) := by decide +kernel
theorem d_E_open_13 : decode b_E_open 13 = .ok (.getfield 39, 3) := by decide +kernel
theorem d_E_open_16 : decode b_E_open 16 = .ok (.invokevirtual 88, 3) := by decide +kernel
theorem d_E_open_19 : decode b_E_open 19 = .ok (.iconst 1, 1) := by decide +kernel
theorem d_E_open_20 : decode b_E_open 20 = .ok (.ireturn, 1) := by decide +kernel
theorem d_E_commit_0 : decode b_E_commit 0 = .ok (.aload_n 0, 1) := by decide +kernel
theorem d_E_commit_1 : decode b_E_commit 1 = .ok (.getfield 39, 3) := by decide +kernel
theorem d_E_commit_4 : decode b_E_commit 4 = .ok (.getfield 43, 3) := by decide +kernel
theorem d_E_commit_7 : decode b_E_commit 7 = .ok (.ifCond .ne 5, 3) := by decide +kernel
theorem d_E_commit_10 : decode b_E_commit 10 = .ok (.iconst (-1), 1) := by decide +kernel
theorem d_E_commit_11 : decode b_E_commit 11 = .ok (.ireturn, 1) := by decide +kernel
theorem d_E_commit_12 : decode b_E_commit 12 = .ok (.aload_n 0, 1) := by decide +kernel
theorem d_E_commit_13 : decode b_E_commit 13 = .ok (.getfield 32, 3) := by decide +kernel
theorem d_E_commit_16 : decode b_E_commit 16 = .ok (.getfield 51, 3) := by decide +kernel
theorem d_E_commit_19 : decode b_E_commit 19 = .ok (.istore_n 1, 1) := by decide +kernel
theorem d_E_commit_20 : decode b_E_commit 20 = .ok (.aload_n 0, 1) := by decide +kernel
theorem d_E_commit_21 : decode b_E_commit 21 = .ok (.invokevirtual 91, 3) := by decide +kernel
theorem d_E_commit_24 : decode b_E_commit 24 = .ok (.aload_n 0, 1) := by decide +kernel
theorem d_E_commit_25 : decode b_E_commit 25 = .ok (.getfield 39, 3) := by decide +kernel
theorem d_E_commit_28 : decode b_E_commit 28 = .ok (.invokevirtual 94, 3) := by decide +kernel
theorem d_E_commit_31 : decode b_E_commit 31 = .ok (.aload_n 0, 1) := by decide +kernel
theorem d_E_commit_32 : decode b_E_commit 32 = .ok (.invokevirtual 62, 3) := by decide +kernel
theorem d_E_commit_35 : decode b_E_commit 35 = .ok (.ifCond .eq 10, 3) := by decide +kernel
theorem d_E_commit_38 : decode b_E_commit 38 = .ok (.aload_n 0, 1) := by decide +kernel
theorem d_E_commit_39 : decode b_E_commit 39 = .ok (.iload_n 1, 1) := by decide +kernel
theorem d_E_commit_40 : decode b_E_commit 40 = .ok (.invokevirtual 66, 3) := by decide +kernel
theorem d_E_commit_43 : decode b_E_commit 43 = .ok (.iconst 0, 1) := by decide +kernel
theorem d_E_commit_44 : decode b_E_commit 44 = .ok (.ireturn, 1) := by decide +kernel
theorem d_E_commit_45 : decode b_E_commit 45 = .ok (.aload_n 0, 1) := by decide +kernel
theorem d_E_commit_46 : decode b_E_commit 46 = .ok (.getfield 32, 3) := by decide +kernel
theorem d_E_commit_49 : decode b_E_commit 49 = .ok (.iload_n 1, 1) := by decide +kernel
theorem d_E_commit_50 : decode b_E_commit 50 = .ok (.invokevirtual 97, 3) := by decide +kernel
theorem d_E_commit_53 : decode b_E_commit 53 = .ok (.aload_n 0, 1) := by decide +kernel
theorem d_E_commit_54 : decode b_E_commit 54 = .ok (.getfield 32, 3) := by decide +kernel
theorem d_E_commit_57 : decode b_E_commit 57 = .ok (.getfield 51, 3) := by decide +kernel
theorem d_E_commit_60 : decode b_E_commit 60 = .ok (.iload_n 1, 1) := by decide +kernel
theorem d_E_commit_61 : decode b_E_commit 61 = .ok (.isub, 1) := by decide +kernel
theorem d_E_commit_62 : decode b_E_commit 62 = .ok (.istore_n 2, 1) := by decide +kernel
theorem d_E_commit_63 : decode b_E_commit 63 = .ok (.aload_n 0, 1) := by decide +kernel
theorem d_E_commit_64 : decode b_E_commit 64 = .ok (.getfield 32, 3) := by decide +kernel
theorem d_E_commit_67 : decode b_E_commit 67 = .ok (.iload_n 1, 1) := by decide +kernel
theorem d_E_commit_68 : decode b_E_commit 68 = .ok (.invokevirtual 70, 3) := by decide +kernel
theorem d_E_commit_71 : decode b_E_commit 71 = .ok (.iload_n 2, 1) := by decide +kernel
theorem d_E_commit_72 : decode b_E_commit 72 = .ok (.ireturn, 1) := by decide +kernel
theorem d_E_doStepsOfBatch_0 : decode b_E_doStepsOfBatch 0 = .ok (.iconst 0, 1) := by decide +kernel
theorem d_E_doStepsOfBatch_1 : decode b_E_doStepsOfBatch 1 = .ok (.istore_n 1, 1) := by decide +kernel
theorem d_E_doStepsOfBatch_2 : decode b_E_doStepsOfBatch 2 = .ok (.iload_n 1, 1) := by decide +kernel
theorem d_E_doStepsOfBatch_3 : decode b_E_doStepsOfBatch 3 = .ok (.aload_n 0, 1) := by decide +kernel
theorem d_E_doStepsOfBatch_4 : decode b_E_doStepsOfBatch 4 = .ok (.getfield 39, 3) := by decide +kernel
theorem d_E_doStepsOfBatch_7 : decode b_E_doStepsOfBatch 7 = .ok (.getfield 100, 3) := by decide +kernel
theorem d_E_doStepsOfBatch_10 : decode b_E_doStepsOfBatch 10 = .ok (.if_icmp .ge 59, 3) := by decide +kernel
theorem d_E_doStepsOfBatch_13 : decode b_E_doStepsOfBatch 13 = .ok (.aload_n 0, 1) := by decide +kernel
theorem d_E_doStepsOfBatch_14 : decode b_E_doStepsOfBatch 14 = .ok (.getfield 39, 3) := by decide +kernel
theorem d_E_doStepsOfBatch_17 : decode b_E_doStepsOfBatch 17 = .ok (.getfield 146, 3) := by decide +kernel
theorem d_E_doStepsOfBatch_20 : decode b_E_doStepsOfBatch 20 = .ok (.iload_n 1, 1) := by decide +kernel
theorem d_E_doStepsOfBatch_21 : decode b_E_doStepsOfBatch 21 = .ok (.baload, 1) := by decide +kernel
theorem d_E_doStepsOfBatch_22 : decode b_E_doStepsOfBatch 22 = .ok (.ifCond .eq 28, 3) := by decide +kernel
theorem d_E_doStepsOfBatch_25 : decode b_E_doStepsOfBatch 25 = .ok (.aload_n 0, 1) := by decide +kernel
theorem d_E_doStepsOfBatch_26 : decode b_E_doStepsOfBatch 26 = .ok (.aload_n 0, 1) := by decide +kernel
theorem d_E_doStepsOfBatch_27 : decode b_E_doStepsOfBatch 27 = .ok (.getfield 39, 3) := by decide +kernel
theorem d_E_doStepsOfBatch_30 : decode b_E_doStepsOfBatch 30 = .ok (.getfield 150, 3) := by decide +kernel
theorem d_E_doStepsOfBatch_33 : decode b_E_doStepsOfBatch 33 = .ok (.iload_n 1, 1) := by decide +kernel
theorem d_E_doStepsOfBatch_34 : decode b_E_doStepsOfBatch 34 = .ok (.iaload, 1) := by decide +kernel
theorem d_E_doStepsOfBatch_35 : decode b_E_doStepsOfBatch 35 = .ok (.aload_n 0, 1) := by decide +kernel
theorem d_E_doStepsOfBatch_36 : decode b_E_doStepsOfBatch 36 = .ok (.getfield 39, 3) := by decide +kernel
theorem d_E_doStepsOfBatch_39 : decode b_E_doStepsOfBatch 39 = .ok (.getfield 154, 3) := by decide +kernel
theorem d_E_doStepsOfBatch_42 : decode b_E_doStepsOfBatch 42 = .ok (.iload_n 1, 1) := by decide +kernel
theorem d_E_doStepsOfBatch_43 : decode b_E_doStepsOfBatch 43 = .ok (.laload, 1) := by decide +kernel
theorem d_E_doStepsOfBatch_44 : decode b_E_doStepsOfBatch 44 = .ok (.invokevirtual 58, 3) := by decide +kernel
theorem d_E_doStepsOfBatch_47 : decode b_E_doStepsOfBatch 47 = .ok (.goto 16, 3) := by decide +kernel
theorem d_E_doStepsOfBatch_50 : decode b_E_doStepsOfBatch 50 = .ok (.aload_n 0, 1) := by decide +kernel
theorem d_E_doStepsOfBatch_51 : decode b_E_doStepsOfBatch 51 = .ok (.aload_n 0, 1) := by decide +kernel
theorem d_E_doStepsOfBatch_52 : decode b_E_doStepsOfBatch 52 = .ok (.getfield 39, 3) := by decide +kernel
theorem d_E_doStepsOfBatch_55 : decode b_E_doStepsOfBatch 55 = .ok (.getfield 150, 3) := by decide +kernel
theorem d_E_doStepsOfBatch_58 : decode b_E_doStepsOfBatch 58 = .ok (.iload_n 1, 1) := by decide +kernel
theorem d_E_doStepsOfBatch_59 : decode b_E_doStepsOfBatch 59 = .ok (.iaload, 1) := by decide +kernel
theorem d_E_doStepsOfBatch_60 : decode b_E_doStepsOfBatch 60 = .ok (.invokevirtual 73, 3) := by decide +kernel
theorem d_E_doStepsOfBatch_63 : decode b_E_doStepsOfBatch 63 = .ok (.iinc 1 1, 3) := by decide +kernel
theorem d_E_doStepsOfBatch_66 : decode b_E_doStepsOfBatch 66 = .ok (.goto (-64), 3) := by decide +kernel
theorem d_E_doStepsOfBatch_69 : decode b_E_doStepsOfBatch 69 = .ok (.return_, 1) := by decide +kernel
theorem d_E_abandon_0 : decode b_E_abandon 0 = .ok (.aload_n 0, 1) := by decide +kernel
theorem d_E_abandon_1 : decode b_E_abandon 1 = .ok (.getfield 39, 3) := by decide +kernel
theorem d_E_abandon_4 : decode b_E_abandon 4 = .ok (.getfield 43, 3) := by decide +kernel
theorem d_E_abandon_7 : decode b_E_abandon 7 = .ok (.ifCond .ne 5, 3) := by decide +kernel
theorem d_E_abandon_10 : decode b_E_abandon 10 = .ok (.iconst (-1), 1) := by decide +kernel
theorem d_E_abandon_11 : decode b_E_abandon 11 = .ok (.ireturn, 1) := by decide +kernel
theorem d_E_abandon_12 : decode b_E_abandon 12 = .ok (.aload_n 0, 1) := by decide +kernel
theorem d_E_abandon_13 : decode b_E_abandon 13 = .ok (.getfield 39, 3) := by decide +kernel
theorem d_E_abandon_16 : decode b_E_abandon 16 = .ok (.getfield 100, 3) := by decide +kernel
theorem d_E_abandon_19 : decode b_E_abandon 19 = .ok (.istore_n 1, 1) := by decide +kernel
theorem d_E_abandon_20 : decode b_E_abandon 20 = .ok (.aload_n 0, 1) := by decide +kernel
theorem d_E_abandon_21 : decode b_E_abandon 21 = .ok (.getfield 39, 3) := by decide +kernel
theorem d_E_abandon_24 : decode b_E_abandon 24 = .ok (.invokevirtual 94, 3) := by decide +kernel
theorem d_E_abandon_27 : decode b_E_abandon 27 = .ok (.iload_n 1, 1) := by decide +kernel
theorem d_E_abandon_28 : decode b_E_abandon 28 = .ok (.ireturn, 1) := by decide +kernel
theorem d_E_flush_0 : decode b_E_flush 0 = .ok (.aload_n 0, 1) := by decide +kernel
theorem d_E_flush_1 : decode b_E_flush 1 = .ok (.getfield 32, 3) := by decide +kernel
theorem d_E_flush_4 : decode b_E_flush 4 = .ok (.getfield 51, 3) := by decide +kernel
theorem d_E_flush_7 : decode b_E_flush 7 = .ok (.istore_n 1, 1) := by decide +kernel
theorem d_E_flush_8 : decode b_E_flush 8 = .ok (.aload_n 0, 1) := by decide +kernel
theorem d_E_flush_9 : decode b_E_flush 9 = .ok (.getfield 32, 3) := by decide +kernel
theorem d_E_flush_12 : decode b_E_flush 12 = .ok (.iconst 0, 1) := by decide +kernel
theorem d_E_flush_13 : decode b_E_flush 13 = .ok (.invokevirtual 101, 3) := by decide +kernel
theorem d_E_flush_16 : decode b_E_flush 16 = .ok (.iload_n 1, 1) := by decide +kernel
theorem d_E_flush_17 : decode b_E_flush 17 = .ok (.ireturn, 1) := by decide +kernel
theorem d_E_crash_0 : decode b_E_crash 0 = .ok (.aload_n 0, 1) := by decide +kernel
theorem d_E_crash_1 : decode b_E_crash 1 = .ok (.getfield 32, 3) := by decide +kernel
theorem d_E_crash_4 : decode b_E_crash 4 = .ok (.iload_n 1, 1) := by decide +kernel
theorem d_E_crash_5 : decode b_E_crash 5 = .ok (.invokevirtual 104, 3) := by decide +kernel
theorem d_E_crash_8 : decode b_E_crash 8 = .ok (.istore_n 2, 1) := by decide +kernel
theorem d_E_crash_9 : decode b_E_crash 9 = .ok (.aload_n 0, 1) := by decide +kernel
theorem d_E_crash_10 : decode b_E_crash 10 = .ok (.getfield 32, 3) := by decide +kernel
theorem d_E_crash_13 : decode b_E_crash 13 = .ok (.getfield 51, 3) := by decide +kernel
theorem d_E_crash_16 : decode b_E_crash 16 = .ok (.iload_n 2, 1) := by decide +kernel
theorem d_E_crash_17 : decode b_E_crash 17 = .ok (.isub, 1) := by decide +kernel
theorem d_E_crash_18 : decode b_E_crash 18 = .ok (.istore_n 3, 1) := by decide +kernel
theorem d_E_crash_19 : decode b_E_crash 19 = .ok (.aload_n 0, 1) := by decide +kernel
theorem d_E_crash_20 : decode b_E_crash 20 = .ok (.iload_n 2, 1) := by decide +kernel
theorem d_E_crash_21 : decode b_E_crash 21 = .ok (.invokevirtual 66, 3) := by decide +kernel
theorem d_E_crash_24 : decode b_E_crash 24 = .ok (.aload_n 0, 1) := by decide +kernel
theorem d_E_crash_25 : decode b_E_crash 25 = .ok (.getfield 32, 3) := by decide +kernel
theorem d_E_crash_28 : decode b_E_crash 28 = .ok (.iconst 0, 1) := by decide +kernel
theorem d_E_crash_29 : decode b_E_crash 29 = .ok (.invokevirtual 101, 3) := by decide +kernel
theorem d_E_crash_32 : decode b_E_crash 32 = .ok (.aload_n 0, 1) := by decide +kernel
theorem d_E_crash_33 : decode b_E_crash 33 = .ok (.getfield 39, 3) := by decide +kernel
theorem d_E_crash_36 : decode b_E_crash 36 = .ok (.invokevirtual 94, 3) := by decide +kernel
theorem d_E_crash_39 : decode b_E_crash 39 = .ok (.iload_n 3, 1) := by decide +kernel
theorem d_E_crash_40 : decode b_E_crash 40 = .ok (.ireturn, 1) := by decide +kernel
theorem d_E_unflushed_0 : decode b_E_unflushed 0 = .ok (.aload_n 0, 1) := by decide +kernel
theorem d_E_unflushed_1 : decode b_E_unflushed 1 = .ok (.getfield 32, 3) := by decide +kernel
theorem d_E_unflushed_4 : decode b_E_unflushed 4 = .ok (.getfield 51, 3) := by decide +kernel
theorem d_E_unflushed_7 : decode b_E_unflushed 7 = .ok (.ireturn, 1) := by decide +kernel
theorem d_E_steps_0 : decode b_E_steps 0 = .ok (.aload_n 0, 1) := by decide +kernel
theorem d_E_steps_1 : decode b_E_steps 1 = .ok (.getfield 39, 3) := by decide +kernel
theorem d_E_steps_4 : decode b_E_steps 4 = .ok (.getfield 43, 3) := by decide +kernel
theorem d_E_steps_7 : decode b_E_steps 7 = .ok (.ifCond .eq 13, 3) := by decide +kernel
theorem d_E_steps_10 : decode b_E_steps 10 = .ok (.aload_n 0, 1) := by decide +kernel
theorem d_E_steps_11 : decode b_E_steps 11 = .ok (.getfield 39, 3) := by decide +kernel
theorem d_E_steps_14 : decode b_E_steps 14 = .ok (.getfield 100, 3) := by decide +kernel
theorem d_E_steps_17 : decode b_E_steps 17 = .ok (.goto 4, 3) := by decide +kernel
theorem d_E_steps_20 : decode b_E_steps 20 = .ok (.iconst (-1), 1) := by decide +kernel
theorem d_E_steps_21 : decode b_E_steps 21 = .ok (.ireturn, 1) := by decide +kernel
theorem d_E_size_0 : decode b_E_size 0 = .ok (.aload_n 0, 1) := by decide +kernel
theorem d_E_size_1 : decode b_E_size 1 = .ok (.getfield 25, 3) := by decide +kernel
theorem d_E_size_4 : decode b_E_size 4 = .ok (.getfield 107, 3) := by decide +kernel
theorem d_E_size_7 : decode b_E_size 7 = .ok (.ireturn, 1) := by decide +kernel
theorem d_E_pages_0 : decode b_E_pages 0 = .ok (.aload_n 0, 1) := by decide +kernel
theorem d_E_pages_1 : decode b_E_pages 1 = .ok (.getfield 25, 3) := by decide +kernel
theorem d_E_pages_4 : decode b_E_pages 4 = .ok (.invokevirtual 108, 3) := by decide +kernel
theorem d_E_pages_7 : decode b_E_pages 7 = .ok (.ireturn, 1) := by decide +kernel
theorem d_E_globalDepth_0 : decode b_E_globalDepth 0 = .ok (.aload_n 0, 1) := by decide +kernel
theorem d_E_globalDepth_1 : decode b_E_globalDepth 1 = .ok (.getfield 25, 3) := by decide +kernel
theorem d_E_globalDepth_4 : decode b_E_globalDepth 4 = .ok (.getfield 112, 3) := by decide +kernel
theorem d_E_globalDepth_7 : decode b_E_globalDepth 7 = .ok (.invokevirtual 116, 3) := by decide +kernel
theorem d_E_globalDepth_10 : decode b_E_globalDepth 10 = .ok (.ireturn, 1) := by decide +kernel
theorem d_E_localDepth_0 : decode b_E_localDepth 0 = .ok (.aload_n 0, 1) := by decide +kernel
theorem d_E_localDepth_1 : decode b_E_localDepth 1 = .ok (.getfield 25, 3) := by decide +kernel
theorem d_E_localDepth_4 : decode b_E_localDepth 4 = .ok (.getfield 112, 3) := by decide +kernel
theorem d_E_localDepth_7 : decode b_E_localDepth 7 = .ok (.iload_n 1, 1) := by decide +kernel
theorem d_E_localDepth_8 : decode b_E_localDepth 8 = .ok (.invokestatic 121, 3) := by decide +kernel
theorem d_E_localDepth_11 : decode b_E_localDepth 11 = .ok (.invokevirtual 124, 3) := by decide +kernel
theorem d_E_localDepth_14 : decode b_E_localDepth 14 = .ok (.ireturn, 1) := by decide +kernel
theorem d_E_buckets_0 : decode b_E_buckets 0 = .ok (.aload_n 0, 1) := by decide +kernel
theorem d_E_buckets_1 : decode b_E_buckets 1 = .ok (.getfield 25, 3) := by decide +kernel
theorem d_E_buckets_4 : decode b_E_buckets 4 = .ok (.getfield 112, 3) := by decide +kernel
theorem d_E_buckets_7 : decode b_E_buckets 7 = .ok (.invokevirtual 127, 3) := by decide +kernel
theorem d_E_buckets_10 : decode b_E_buckets 10 = .ok (.ireturn, 1) := by decide +kernel
theorem d_E_bucketAt_0 : decode b_E_bucketAt 0 = .ok (.iload_n 1, 1) := by decide +kernel
theorem d_E_bucketAt_1 : decode b_E_bucketAt 1 = .ok (.ifCond .ge 5, 3) := by decide +kernel
theorem d_E_bucketAt_4 : decode b_E_bucketAt 4 = .ok (.iconst (-1), 1) := by decide +kernel
theorem d_E_bucketAt_5 : decode b_E_bucketAt 5 = .ok (.ireturn, 1) := by decide +kernel
theorem d_E_bucketAt_6 : decode b_E_bucketAt 6 = .ok (.iload_n 1, 1) := by decide +kernel
theorem d_E_bucketAt_7 : decode b_E_bucketAt 7 = .ok (.istore_n 2, 1) := by decide +kernel
theorem d_E_bucketAt_8 : decode b_E_bucketAt 8 = .ok (.iconst 0, 1) := by decide +kernel
theorem d_E_bucketAt_9 : decode b_E_bucketAt 9 = .ok (.istore_n 3, 1) := by decide +kernel
theorem d_E_bucketAt_10 : decode b_E_bucketAt 10 = .ok (.iload_n 3, 1) := by decide +kernel
theorem d_E_bucketAt_11 : decode b_E_bucketAt 11 = .ok (.bipush 64, 2) := by decide +kernel
theorem d_E_bucketAt_13 : decode b_E_bucketAt 13 = .ok (.if_icmp .ge 32, 3) := by decide +kernel
theorem d_E_bucketAt_16 : decode b_E_bucketAt 16 = .ok (.aload_n 0, 1) := by decide +kernel
theorem d_E_bucketAt_17 : decode b_E_bucketAt 17 = .ok (.getfield 25, 3) := by decide +kernel
theorem d_E_bucketAt_20 : decode b_E_bucketAt 20 = .ok (.getfield 112, 3) := by decide +kernel
theorem d_E_bucketAt_23 : decode b_E_bucketAt 23 = .ok (.iload_n 3, 1) := by decide +kernel
theorem d_E_bucketAt_24 : decode b_E_bucketAt 24 = .ok (.invokevirtual 130, 3) := by decide +kernel
theorem d_E_bucketAt_27 : decode b_E_bucketAt 27 = .ok (.ifCond .eq 12, 3) := by decide +kernel
theorem d_E_bucketAt_30 : decode b_E_bucketAt 30 = .ok (.iload_n 2, 1) := by decide +kernel
theorem d_E_bucketAt_31 : decode b_E_bucketAt 31 = .ok (.ifCond .ne 5, 3) := by decide +kernel
theorem d_E_bucketAt_34 : decode b_E_bucketAt 34 = .ok (.iload_n 3, 1) := by decide +kernel
theorem d_E_bucketAt_35 : decode b_E_bucketAt 35 = .ok (.ireturn, 1) := by decide +kernel
theorem d_E_bucketAt_36 : decode b_E_bucketAt 36 = .ok (.iinc 2 (-1), 3) := by decide +kernel
theorem d_E_bucketAt_39 : decode b_E_bucketAt 39 = .ok (.iinc 3 1, 3) := by decide +kernel
theorem d_E_bucketAt_42 : decode b_E_bucketAt 42 = .ok (.goto (-32), 3) := by decide +kernel
theorem d_E_bucketAt_45 : decode b_E_bucketAt 45 = .ok (.iconst (-1), 1) := by decide +kernel
theorem d_E_bucketAt_46 : decode b_E_bucketAt 46 = .ok (.ireturn, 1) := by decide +kernel
theorem d_E_keyAt_0 : decode b_E_keyAt 0 = .ok (.aload_n 0, 1) := by decide +kernel
theorem d_E_keyAt_1 : decode b_E_keyAt 1 = .ok (.getfield 25, 3) := by decide +kernel
theorem d_E_keyAt_4 : decode b_E_keyAt 4 = .ok (.iload_n 1, 1) := by decide +kernel
theorem d_E_keyAt_5 : decode b_E_keyAt 5 = .ok (.invokevirtual 133, 3) := by decide +kernel
theorem d_E_keyAt_8 : decode b_E_keyAt 8 = .ok (.ireturn, 1) := by decide +kernel
theorem d_C_init_0 : decode b_C_init 0 = .ok (.aload_n 0, 1) := by decide +kernel
theorem d_C_init_1 : decode b_C_init 1 = .ok (.invokespecial 3, 3) := by decide +kernel
theorem d_C_init_4 : decode b_C_init 4 = .ok (.aload_n 0, 1) := by decide +kernel
theorem d_C_init_5 : decode b_C_init 5 = .ok (.sipush 128, 3) := by decide +kernel
theorem d_C_init_8 : decode b_C_init 8 = .ok (.newarray .int, 2) := by decide +kernel
theorem d_C_init_10 : decode b_C_init 10 = .ok (.putfield 9, 3) := by decide +kernel
theorem d_C_init_13 : decode b_C_init 13 = .ok (.aload_n 0, 1) := by decide +kernel
theorem d_C_init_14 : decode b_C_init 14 = .ok (.sipush 128, 3) := by decide +kernel
theorem d_C_init_17 : decode b_C_init 17 = .ok (.newarray .int, 2) := by decide +kernel
theorem d_C_init_19 : decode b_C_init 19 = .ok (.putfield 15, 3) := by decide +kernel
theorem d_C_init_22 : decode b_C_init 22 = .ok (.return_, 1) := by decide +kernel
theorem d_C_countKey_0 : decode b_C_countKey 0 = .ok (.aload_n 0, 1) := by decide +kernel
theorem d_C_countKey_1 : decode b_C_countKey 1 = .ok (.getfield 9, 3) := by decide +kernel
theorem d_C_countKey_4 : decode b_C_countKey 4 = .ok (.bipush 6, 2) := by decide +kernel
theorem d_C_countKey_6 : decode b_C_countKey 6 = .ok (.iload_n 1, 1) := by decide +kernel
theorem d_C_countKey_7 : decode b_C_countKey 7 = .ok (.invokestatic 18, 3) := by decide +kernel
theorem d_C_countKey_10 : decode b_C_countKey 10 = .ok (.iaload, 1) := by decide +kernel
theorem d_C_countKey_11 : decode b_C_countKey 11 = .ok (.istore_n 3, 1) := by decide +kernel
theorem d_C_countKey_12 : decode b_C_countKey 12 = .ok (.iload_n 3, 1) := by decide +kernel
theorem d_C_countKey_13 : decode b_C_countKey 13 = .ok (.ifCond .eq 9, 3) := by decide +kernel
theorem d_C_countKey_16 : decode b_C_countKey 16 = .ok (.iload_n 3, 1) := by decide +kernel
theorem d_C_countKey_17 : decode b_C_countKey 17 = .ok (.iload_n 2, 1) := by decide +kernel
theorem d_C_countKey_18 : decode b_C_countKey 18 = .ok (.iadd, 1) := by decide +kernel
theorem d_C_countKey_19 : decode b_C_countKey 19 = .ok (.ifCond .ne 7, 3) := by decide +kernel
theorem d_C_countKey_22 : decode b_C_countKey 22 = .ok (.iconst 1, 1) := by decide +kernel
theorem d_C_countKey_23 : decode b_C_countKey 23 = .ok (.goto 4, 3) := by decide +kernel
theorem d_C_countKey_26 : decode b_C_countKey 26 = .ok (.iconst 0, 1) := by decide +kernel
theorem d_C_countKey_27 : decode b_C_countKey 27 = .ok (.istore 4, 2) := by decide +kernel
theorem d_C_countKey_29 : decode b_C_countKey 29 = .ok (.iconst 0, 1) := by decide +kernel
theorem d_C_countKey_30 : decode b_C_countKey 30 = .ok (.istore 5, 2) := by decide +kernel
theorem d_C_countKey_32 : decode b_C_countKey 32 = .ok (.iload 5, 2) := by decide +kernel
theorem d_C_countKey_34 : decode b_C_countKey 34 = .ok (.bipush 6, 2) := by decide +kernel
theorem d_C_countKey_36 : decode b_C_countKey 36 = .ok (.if_icmp .gt 44, 3) := by decide +kernel
theorem d_C_countKey_39 : decode b_C_countKey 39 = .ok (.iload 5, 2) := by decide +kernel
theorem d_C_countKey_41 : decode b_C_countKey 41 = .ok (.iload_n 1, 1) := by decide +kernel
theorem d_C_countKey_42 : decode b_C_countKey 42 = .ok (.invokestatic 18, 3) := by decide +kernel
theorem d_C_countKey_45 : decode b_C_countKey 45 = .ok (.istore 6, 2) := by decide +kernel
theorem d_C_countKey_47 : decode b_C_countKey 47 = .ok (.aload_n 0, 1) := by decide +kernel
theorem d_C_countKey_48 : decode b_C_countKey 48 = .ok (.getfield 9, 3) := by decide +kernel
theorem d_C_countKey_51 : decode b_C_countKey 51 = .ok (.iload 6, 2) := by decide +kernel
theorem d_C_countKey_53 : decode b_C_countKey 53 = .ok (.dup2, 1) := by decide +kernel
theorem d_C_countKey_54 : decode b_C_countKey 54 = .ok (.iaload, 1) := by decide +kernel
theorem d_C_countKey_55 : decode b_C_countKey 55 = .ok (.iload_n 2, 1) := by decide +kernel
theorem d_C_countKey_56 : decode b_C_countKey 56 = .ok (.iadd, 1) := by decide +kernel
theorem d_C_countKey_57 : decode b_C_countKey 57 = .ok (.iastore, 1) := by decide +kernel
theorem d_C_countKey_58 : decode b_C_countKey 58 = .ok (.iload 4, 2) := by decide +kernel
theorem d_C_countKey_60 : decode b_C_countKey 60 = .ok (.ifCond .eq 14, 3) := by decide +kernel
theorem d_C_countKey_63 : decode b_C_countKey 63 = .ok (.aload_n 0, 1) := by decide +kernel
theorem d_C_countKey_64 : decode b_C_countKey 64 = .ok (.getfield 15, 3) := by decide +kernel
theorem d_C_countKey_67 : decode b_C_countKey 67 = .ok (.iload 6, 2) := by decide +kernel
theorem d_C_countKey_69 : decode b_C_countKey 69 = .ok (.dup2, 1) := by decide +kernel
theorem d_C_countKey_70 : decode b_C_countKey 70 = .ok (.iaload, 1) := by decide +kernel
theorem d_C_countKey_71 : decode b_C_countKey 71 = .ok (.iload_n 2, 1) := by decide +kernel
theorem d_C_countKey_72 : decode b_C_countKey 72 = .ok (.iadd, 1) := by decide +kernel
theorem d_C_countKey_73 : decode b_C_countKey 73 = .ok (.iastore, 1) := by decide +kernel
theorem d_C_countKey_74 : decode b_C_countKey 74 = .ok (.iinc 5 1, 3) := by decide +kernel
theorem d_C_countKey_77 : decode b_C_countKey 77 = .ok (.goto (-45), 3) := by decide +kernel
theorem d_C_countKey_80 : decode b_C_countKey 80 = .ok (.return_, 1) := by decide +kernel
theorem d_C_cell_0 : decode b_C_cell 0 = .ok (.iconst 1, 1) := by decide +kernel
theorem d_C_cell_1 : decode b_C_cell 1 = .ok (.iload_n 0, 1) := by decide +kernel
theorem d_C_cell_2 : decode b_C_cell 2 = .ok (.ishl, 1) := by decide +kernel
theorem d_C_cell_3 : decode b_C_cell 3 = .ok (.istore_n 2, 1) := by decide +kernel
theorem d_C_cell_4 : decode b_C_cell 4 = .ok (.iload_n 2, 1) := by decide +kernel
theorem d_C_cell_5 : decode b_C_cell 5 = .ok (.iload_n 1, 1) := by decide +kernel
theorem d_C_cell_6 : decode b_C_cell 6 = .ok (.iload_n 2, 1) := by decide +kernel
theorem d_C_cell_7 : decode b_C_cell 7 = .ok (.iconst 1, 1) := by decide +kernel
theorem d_C_cell_8 : decode b_C_cell 8 = .ok (.isub, 1) := by decide +kernel
theorem d_C_cell_9 : decode b_C_cell 9 = .ok (.iand, 1) := by decide +kernel
theorem d_C_cell_10 : decode b_C_cell 10 = .ok (.iadd, 1) := by decide +kernel
theorem d_C_cell_11 : decode b_C_cell 11 = .ok (.ireturn, 1) := by decide +kernel
theorem d_C_deepest_0 : decode b_C_deepest 0 = .ok (.iconst 0, 1) := by decide +kernel
theorem d_C_deepest_1 : decode b_C_deepest 1 = .ok (.istore_n 1, 1) := by decide +kernel
theorem d_C_deepest_2 : decode b_C_deepest 2 = .ok (.iconst 0, 1) := by decide +kernel
theorem d_C_deepest_3 : decode b_C_deepest 3 = .ok (.istore_n 2, 1) := by decide +kernel
theorem d_C_deepest_4 : decode b_C_deepest 4 = .ok (.iload_n 2, 1) := by decide +kernel
theorem d_C_deepest_5 : decode b_C_deepest 5 = .ok (.bipush 64, 2) := by decide +kernel
theorem d_C_deepest_7 : decode b_C_deepest 7 = .ok (.if_icmp .ge 19, 3) := by decide +kernel
theorem d_C_deepest_10 : decode b_C_deepest 10 = .ok (.iload_n 1, 1) := by decide +kernel
theorem d_C_deepest_11 : decode b_C_deepest 11 = .ok (.aload_n 0, 1) := by decide +kernel
theorem d_C_deepest_12 : decode b_C_deepest 12 = .ok (.iload_n 2, 1) := by decide +kernel
theorem d_C_deepest_13 : decode b_C_deepest 13 = .ok (.invokevirtual 26, 3) := by decide +kernel
theorem d_C_deepest_16 : decode b_C_deepest 16 = .ok (.invokestatic 30, 3) := by decide +kernel
theorem d_C_deepest_19 : decode b_C_deepest 19 = .ok (.istore_n 1, 1) := by decide +kernel
theorem d_C_deepest_20 : decode b_C_deepest 20 = .ok (.iinc 2 1, 3) := by decide +kernel
theorem d_C_deepest_23 : decode b_C_deepest 23 = .ok (.goto (-19), 3) := by decide +kernel
theorem d_C_deepest_26 : decode b_C_deepest 26 = .ok (.iload_n 1, 1) := by decide +kernel
theorem d_C_deepest_27 : decode b_C_deepest 27 = .ok (.ireturn, 1) := by decide +kernel
theorem d_C_depthOf_0 : decode b_C_depthOf 0 = .ok (.iconst 0, 1) := by decide +kernel
theorem d_C_depthOf_1 : decode b_C_depthOf 1 = .ok (.istore_n 2, 1) := by decide +kernel
theorem d_C_depthOf_2 : decode b_C_depthOf 2 = .ok (.iload_n 2, 1) := by decide +kernel
theorem d_C_depthOf_3 : decode b_C_depthOf 3 = .ok (.bipush 6, 2) := by decide +kernel
theorem d_C_depthOf_5 : decode b_C_depthOf 5 = .ok (.if_icmp .ge 23, 3) := by decide +kernel
theorem d_C_depthOf_8 : decode b_C_depthOf 8 = .ok (.aload_n 0, 1) := by decide +kernel
theorem d_C_depthOf_9 : decode b_C_depthOf 9 = .ok (.iload_n 2, 1) := by decide +kernel
theorem d_C_depthOf_10 : decode b_C_depthOf 10 = .ok (.iload_n 1, 1) := by decide +kernel
theorem d_C_depthOf_11 : decode b_C_depthOf 11 = .ok (.invokestatic 18, 3) := by decide +kernel
theorem d_C_depthOf_14 : decode b_C_depthOf 14 = .ok (.invokevirtual 22, 3) := by decide +kernel
theorem d_C_depthOf_17 : decode b_C_depthOf 17 = .ok (.ifCond .eq 5, 3) := by decide +kernel
theorem d_C_depthOf_20 : decode b_C_depthOf 20 = .ok (.iload_n 2, 1) := by decide +kernel
theorem d_C_depthOf_21 : decode b_C_depthOf 21 = .ok (.ireturn, 1) := by decide +kernel
theorem d_C_depthOf_22 : decode b_C_depthOf 22 = .ok (.iinc 2 1, 3) := by decide +kernel
theorem d_C_depthOf_25 : decode b_C_depthOf 25 = .ok (.goto (-23), 3) := by decide +kernel
theorem d_C_depthOf_28 : decode b_C_depthOf 28 = .ok (.bipush 6, 2) := by decide +kernel
theorem d_C_depthOf_30 : decode b_C_depthOf 30 = .ok (.ireturn, 1) := by decide +kernel
theorem d_C_isGood_0 : decode b_C_isGood 0 = .ok (.aload_n 0, 1) := by decide +kernel
theorem d_C_isGood_1 : decode b_C_isGood 1 = .ok (.getfield 9, 3) := by decide +kernel
theorem d_C_isGood_4 : decode b_C_isGood 4 = .ok (.iload_n 1, 1) := by decide +kernel
theorem d_C_isGood_5 : decode b_C_isGood 5 = .ok (.iaload, 1) := by decide +kernel
theorem d_C_isGood_6 : decode b_C_isGood 6 = .ok (.iconst 4, 1) := by decide +kernel
theorem d_C_isGood_7 : decode b_C_isGood 7 = .ok (.if_icmp .le 13, 3) := by decide +kernel
theorem d_C_isGood_10 : decode b_C_isGood 10 = .ok (.aload_n 0, 1) := by decide +kernel
theorem d_C_isGood_11 : decode b_C_isGood 11 = .ok (.getfield 15, 3) := by decide +kernel
theorem d_C_isGood_14 : decode b_C_isGood 14 = .ok (.iload_n 1, 1) := by decide +kernel
theorem d_C_isGood_15 : decode b_C_isGood 15 = .ok (.iaload, 1) := by decide +kernel
theorem d_C_isGood_16 : decode b_C_isGood 16 = .ok (.iconst 1, 1) := by decide +kernel
theorem d_C_isGood_17 : decode b_C_isGood 17 = .ok (.if_icmp .ne 7, 3) := by decide +kernel
theorem d_C_isGood_20 : decode b_C_isGood 20 = .ok (.iconst 1, 1) := by decide +kernel
theorem d_C_isGood_21 : decode b_C_isGood 21 = .ok (.goto 4, 3) := by decide +kernel
theorem d_C_isGood_24 : decode b_C_isGood 24 = .ok (.iconst 0, 1) := by decide +kernel
theorem d_C_isGood_25 : decode b_C_isGood 25 = .ok (.ireturn, 1) := by decide +kernel
theorem d_C_isPlace_0 : decode b_C_isPlace 0 = .ok (.iload_n 1, 1) := by decide +kernel
theorem d_C_isPlace_1 : decode b_C_isPlace 1 = .ok (.aload_n 0, 1) := by decide +kernel
theorem d_C_isPlace_2 : decode b_C_isPlace 2 = .ok (.iload_n 1, 1) := by decide +kernel
theorem d_C_isPlace_3 : decode b_C_isPlace 3 = .ok (.invokevirtual 35, 3) := by decide +kernel
theorem d_C_isPlace_6 : decode b_C_isPlace 6 = .ok (.iand, 1) := by decide +kernel
theorem d_C_isPlace_7 : decode b_C_isPlace 7 = .ok (.iload_n 1, 1) := by decide +kernel
theorem d_C_isPlace_8 : decode b_C_isPlace 8 = .ok (.if_icmp .ne 7, 3) := by decide +kernel
theorem d_C_isPlace_11 : decode b_C_isPlace 11 = .ok (.iconst 1, 1) := by decide +kernel
theorem d_C_isPlace_12 : decode b_C_isPlace 12 = .ok (.goto 4, 3) := by decide +kernel
theorem d_C_isPlace_15 : decode b_C_isPlace 15 = .ok (.iconst 0, 1) := by decide +kernel
theorem d_C_isPlace_16 : decode b_C_isPlace 16 = .ok (.ireturn, 1) := by decide +kernel
theorem d_C_maskOf_0 : decode b_C_maskOf 0 = .ok (.iconst 1, 1) := by decide +kernel
theorem d_C_maskOf_1 : decode b_C_maskOf 1 = .ok (.aload_n 0, 1) := by decide +kernel
theorem d_C_maskOf_2 : decode b_C_maskOf 2 = .ok (.iload_n 1, 1) := by decide +kernel
theorem d_C_maskOf_3 : decode b_C_maskOf 3 = .ok (.invokevirtual 26, 3) := by decide +kernel
theorem d_C_maskOf_6 : decode b_C_maskOf 6 = .ok (.ishl, 1) := by decide +kernel
theorem d_C_maskOf_7 : decode b_C_maskOf 7 = .ok (.iconst 1, 1) := by decide +kernel
end
section
/-! Decode rows. -/
theorem d_C_maskOf_8 : decode b_C_maskOf 8 = .ok (.isub, 1) := by decide +kernel
theorem d_C_maskOf_9 : decode b_C_maskOf 9 = .ok (.ireturn, 1) := by decide +kernel
theorem d_C_keysOfBucket_0 : decode b_C_keysOfBucket 0 = .ok (.aload_n 0, 1) := by decide +kernel
theorem d_C_keysOfBucket_1 : decode b_C_keysOfBucket 1 = .ok (.getfield 9, 3) := by decide +kernel
theorem d_C_keysOfBucket_4 : decode b_C_keysOfBucket 4 = .ok (.aload_n 0, 1) := by decide +kernel
theorem d_C_keysOfBucket_5 : decode b_C_keysOfBucket 5 = .ok (.iload_n 1, 1) := by decide +kernel
theorem d_C_keysOfBucket_6 : decode b_C_keysOfBucket 6 = .ok (.invokevirtual 26, 3) := by decide +kernel
theorem d_C_keysOfBucket_9 : decode b_C_keysOfBucket 9 = .ok (.iload_n 1, 1) := by decide +kernel
theorem d_C_keysOfBucket_10 : decode b_C_keysOfBucket 10 = .ok (.invokestatic 18, 3) := by decide +kernel
theorem d_C_keysOfBucket_13 : decode b_C_keysOfBucket 13 = .ok (.iaload, 1) := by decide +kernel
theorem d_C_keysOfBucket_14 : decode b_C_keysOfBucket 14 = .ok (.ireturn, 1) := by decide +kernel
theorem d_C_countPlaces_0 : decode b_C_countPlaces 0 = .ok (.iconst 0, 1) := by decide +kernel
theorem d_C_countPlaces_1 : decode b_C_countPlaces 1 = .ok (.istore_n 1, 1) := by decide +kernel
theorem d_C_countPlaces_2 : decode b_C_countPlaces 2 = .ok (.iconst 0, 1) := by decide +kernel
theorem d_C_countPlaces_3 : decode b_C_countPlaces 3 = .ok (.istore_n 2, 1) := by decide +kernel
theorem d_C_countPlaces_4 : decode b_C_countPlaces 4 = .ok (.iload_n 2, 1) := by decide +kernel
theorem d_C_countPlaces_5 : decode b_C_countPlaces 5 = .ok (.bipush 64, 2) := by decide +kernel
theorem d_C_countPlaces_7 : decode b_C_countPlaces 7 = .ok (.if_icmp .ge 20, 3) := by decide +kernel
theorem d_C_countPlaces_10 : decode b_C_countPlaces 10 = .ok (.aload_n 0, 1) := by decide +kernel
theorem d_C_countPlaces_11 : decode b_C_countPlaces 11 = .ok (.iload_n 2, 1) := by decide +kernel
theorem d_C_countPlaces_12 : decode b_C_countPlaces 12 = .ok (.invokevirtual 38, 3) := by decide +kernel
theorem d_C_countPlaces_15 : decode b_C_countPlaces 15 = .ok (.ifCond .eq 6, 3) := by decide +kernel
theorem d_C_countPlaces_18 : decode b_C_countPlaces 18 = .ok (.iinc 1 1, 3) := by decide +kernel
theorem d_C_countPlaces_21 : decode b_C_countPlaces 21 = .ok (.iinc 2 1, 3) := by decide +kernel
theorem d_C_countPlaces_24 : decode b_C_countPlaces 24 = .ok (.goto (-20), 3) := by decide +kernel
theorem d_C_countPlaces_27 : decode b_C_countPlaces 27 = .ok (.iload_n 1, 1) := by decide +kernel
theorem d_C_countPlaces_28 : decode b_C_countPlaces 28 = .ok (.ireturn, 1) := by decide +kernel
theorem d_K_init_0 : decode b_K_init 0 = .ok (.aload_n 0, 1) := by decide +kernel
theorem d_K_init_1 : decode b_K_init 1 = .ok (.invokespecial 3, 3) := by decide +kernel
theorem d_K_init_4 : decode b_K_init 4 = .ok (.aload_n 0, 1) := by decide +kernel
theorem d_K_init_5 : decode b_K_init 5 = .ok (.bipush 65, 2) := by decide +kernel
theorem d_K_init_7 : decode b_K_init 7 = .ok (.newarray .int, 2) := by decide +kernel
theorem d_K_init_9 : decode b_K_init 9 = .ok (.putfield 11, 3) := by decide +kernel
theorem d_K_init_12 : decode b_K_init 12 = .ok (.aload_n 0, 1) := by decide +kernel
theorem d_K_init_13 : decode b_K_init 13 = .ok (.bipush 65, 2) := by decide +kernel
theorem d_K_init_15 : decode b_K_init 15 = .ok (.newarray .long, 2) := by decide +kernel
theorem d_K_init_17 : decode b_K_init 17 = .ok (.putfield 15, 3) := by decide +kernel
theorem d_K_init_20 : decode b_K_init 20 = .ok (.aload_n 0, 1) := by decide +kernel
theorem d_K_init_21 : decode b_K_init 21 = .ok (.new 19, 3) := by decide +kernel
theorem d_K_init_24 : decode b_K_init 24 = .ok (.dup, 1) := by decide +kernel
theorem d_K_init_25 : decode b_K_init 25 = .ok (.invokespecial 21, 3) := by decide +kernel
theorem d_K_init_28 : decode b_K_init 28 = .ok (.putfield 22, 3) := by decide +kernel
theorem d_K_init_31 : decode b_K_init 31 = .ok (.return_, 1) := by decide +kernel
theorem d_K_holds_0 : decode b_K_holds 0 = .ok (.aload_n 0, 1) := by decide +kernel
theorem d_K_holds_1 : decode b_K_holds 1 = .ok (.aload_n 0, 1) := by decide +kernel
theorem d_K_holds_2 : decode b_K_holds 2 = .ok (.iload_n 1, 1) := by decide +kernel
theorem d_K_holds_3 : decode b_K_holds 3 = .ok (.invokevirtual 26, 3) := by decide +kernel
theorem d_K_holds_6 : decode b_K_holds 6 = .ok (.iload_n 1, 1) := by decide +kernel
theorem d_K_holds_7 : decode b_K_holds 7 = .ok (.invokevirtual 30, 3) := by decide +kernel
theorem d_K_holds_10 : decode b_K_holds 10 = .ok (.ireturn, 1) := by decide +kernel
theorem d_K_keysBelow_0 : decode b_K_keysBelow 0 = .ok (.iconst 0, 1) := by decide +kernel
theorem d_K_keysBelow_1 : decode b_K_keysBelow 1 = .ok (.istore_n 2, 1) := by decide +kernel
theorem d_K_keysBelow_2 : decode b_K_keysBelow 2 = .ok (.iload_n 2, 1) := by decide +kernel
theorem d_K_keysBelow_3 : decode b_K_keysBelow 3 = .ok (.aload_n 0, 1) := by decide +kernel
theorem d_K_keysBelow_4 : decode b_K_keysBelow 4 = .ok (.getfield 34, 3) := by decide +kernel
theorem d_K_keysBelow_7 : decode b_K_keysBelow 7 = .ok (.if_icmp .ge 19, 3) := by decide +kernel
theorem d_K_keysBelow_10 : decode b_K_keysBelow 10 = .ok (.aload_n 0, 1) := by decide +kernel
theorem d_K_keysBelow_11 : decode b_K_keysBelow 11 = .ok (.getfield 11, 3) := by decide +kernel
theorem d_K_keysBelow_14 : decode b_K_keysBelow 14 = .ok (.iload_n 2, 1) := by decide +kernel
theorem d_K_keysBelow_15 : decode b_K_keysBelow 15 = .ok (.iaload, 1) := by decide +kernel
theorem d_K_keysBelow_16 : decode b_K_keysBelow 16 = .ok (.iload_n 1, 1) := by decide +kernel
theorem d_K_keysBelow_17 : decode b_K_keysBelow 17 = .ok (.if_icmp .ge 9, 3) := by decide +kernel
theorem d_K_keysBelow_20 : decode b_K_keysBelow 20 = .ok (.iinc 2 1, 3) := by decide +kernel
theorem d_K_keysBelow_23 : decode b_K_keysBelow 23 = .ok (.goto (-21), 3) := by decide +kernel
theorem d_K_keysBelow_26 : decode b_K_keysBelow 26 = .ok (.iload_n 2, 1) := by decide +kernel
theorem d_K_keysBelow_27 : decode b_K_keysBelow 27 = .ok (.ireturn, 1) := by decide +kernel
theorem d_K_isAt_0 : decode b_K_isAt 0 = .ok (.iload_n 1, 1) := by decide +kernel
theorem d_K_isAt_1 : decode b_K_isAt 1 = .ok (.aload_n 0, 1) := by decide +kernel
theorem d_K_isAt_2 : decode b_K_isAt 2 = .ok (.getfield 34, 3) := by decide +kernel
theorem d_K_isAt_5 : decode b_K_isAt 5 = .ok (.if_icmp .ge 17, 3) := by decide +kernel
theorem d_K_isAt_8 : decode b_K_isAt 8 = .ok (.aload_n 0, 1) := by decide +kernel
theorem d_K_isAt_9 : decode b_K_isAt 9 = .ok (.getfield 11, 3) := by decide +kernel
theorem d_K_isAt_12 : decode b_K_isAt 12 = .ok (.iload_n 1, 1) := by decide +kernel
theorem d_K_isAt_13 : decode b_K_isAt 13 = .ok (.iaload, 1) := by decide +kernel
theorem d_K_isAt_14 : decode b_K_isAt 14 = .ok (.iload_n 2, 1) := by decide +kernel
theorem d_K_isAt_15 : decode b_K_isAt 15 = .ok (.if_icmp .ne 7, 3) := by decide +kernel
theorem d_K_isAt_18 : decode b_K_isAt 18 = .ok (.iconst 1, 1) := by decide +kernel
theorem d_K_isAt_19 : decode b_K_isAt 19 = .ok (.goto 4, 3) := by decide +kernel
theorem d_K_isAt_22 : decode b_K_isAt 22 = .ok (.iconst 0, 1) := by decide +kernel
theorem d_K_isAt_23 : decode b_K_isAt 23 = .ok (.ireturn, 1) := by decide +kernel
theorem d_K_valueOf_0 : decode b_K_valueOf 0 = .ok (.aload_n 0, 1) := by decide +kernel
theorem d_K_valueOf_1 : decode b_K_valueOf 1 = .ok (.iload_n 1, 1) := by decide +kernel
theorem d_K_valueOf_2 : decode b_K_valueOf 2 = .ok (.invokevirtual 26, 3) := by decide +kernel
theorem d_K_valueOf_5 : decode b_K_valueOf 5 = .ok (.istore_n 2, 1) := by decide +kernel
theorem d_K_valueOf_6 : decode b_K_valueOf 6 = .ok (.aload_n 0, 1) := by decide +kernel
theorem d_K_valueOf_7 : decode b_K_valueOf 7 = .ok (.iload_n 2, 1) := by decide +kernel
theorem d_K_valueOf_8 : decode b_K_valueOf 8 = .ok (.iload_n 1, 1) := by decide +kernel
theorem d_K_valueOf_9 : decode b_K_valueOf 9 = .ok (.invokevirtual 30, 3) := by decide +kernel
theorem d_K_valueOf_12 : decode b_K_valueOf 12 = .ok (.ifCond .eq 12, 3) := by decide +kernel
theorem d_K_valueOf_15 : decode b_K_valueOf 15 = .ok (.aload_n 0, 1) := by decide +kernel
theorem d_K_valueOf_16 : decode b_K_valueOf 16 = .ok (.getfield 15, 3) := by decide +kernel
theorem d_K_valueOf_19 : decode b_K_valueOf 19 = .ok (.iload_n 2, 1) := by decide +kernel
theorem d_K_valueOf_20 : decode b_K_valueOf 20 = .ok (.laload, 1) := by decide +kernel
theorem d_K_valueOf_21 : decode b_K_valueOf 21 = .ok (.goto 4, 3) := by decide +kernel
theorem d_K_valueOf_24 : decode b_K_valueOf 24 = .ok (.lconst 0, 1) := by decide +kernel
theorem d_K_valueOf_25 : decode b_K_valueOf 25 = .ok (.lreturn, 1) := by decide +kernel
theorem d_K_set_0 : decode b_K_set 0 = .ok (.aload_n 0, 1) := by decide +kernel
theorem d_K_set_1 : decode b_K_set 1 = .ok (.iload_n 1, 1) := by decide +kernel
theorem d_K_set_2 : decode b_K_set 2 = .ok (.invokevirtual 26, 3) := by decide +kernel
theorem d_K_set_5 : decode b_K_set 5 = .ok (.istore 4, 2) := by decide +kernel
theorem d_K_set_7 : decode b_K_set 7 = .ok (.aload_n 0, 1) := by decide +kernel
theorem d_K_set_8 : decode b_K_set 8 = .ok (.iload 4, 2) := by decide +kernel
theorem d_K_set_10 : decode b_K_set 10 = .ok (.iload_n 1, 1) := by decide +kernel
theorem d_K_set_11 : decode b_K_set 11 = .ok (.invokevirtual 30, 3) := by decide +kernel
theorem d_K_set_14 : decode b_K_set 14 = .ok (.ifCond .eq 14, 3) := by decide +kernel
theorem d_K_set_17 : decode b_K_set 17 = .ok (.aload_n 0, 1) := by decide +kernel
theorem d_K_set_18 : decode b_K_set 18 = .ok (.getfield 15, 3) := by decide +kernel
theorem d_K_set_21 : decode b_K_set 21 = .ok (.iload 4, 2) := by decide +kernel
theorem d_K_set_23 : decode b_K_set 23 = .ok (.lload_n 2, 1) := by decide +kernel
theorem d_K_set_24 : decode b_K_set 24 = .ok (.lastore, 1) := by decide +kernel
theorem d_K_set_25 : decode b_K_set 25 = .ok (.goto 20, 3) := by decide +kernel
theorem d_K_set_28 : decode b_K_set 28 = .ok (.aload_n 0, 1) := by decide +kernel
theorem d_K_set_29 : decode b_K_set 29 = .ok (.getfield 34, 3) := by decide +kernel
theorem d_K_set_32 : decode b_K_set 32 = .ok (.bipush 65, 2) := by decide +kernel
theorem d_K_set_34 : decode b_K_set 34 = .ok (.if_icmp .ge 11, 3) := by decide +kernel
theorem d_K_set_37 : decode b_K_set 37 = .ok (.aload_n 0, 1) := by decide +kernel
theorem d_K_set_38 : decode b_K_set 38 = .ok (.iload 4, 2) := by decide +kernel
theorem d_K_set_40 : decode b_K_set 40 = .ok (.iload_n 1, 1) := by decide +kernel
theorem d_K_set_41 : decode b_K_set 41 = .ok (.lload_n 2, 1) := by decide +kernel
theorem d_K_set_42 : decode b_K_set 42 = .ok (.invokevirtual 38, 3) := by decide +kernel
theorem d_K_set_45 : decode b_K_set 45 = .ok (.return_, 1) := by decide +kernel
theorem d_K_insert_0 : decode b_K_insert 0 = .ok (.aload_n 0, 1) := by decide +kernel
theorem d_K_insert_1 : decode b_K_insert 1 = .ok (.getfield 11, 3) := by decide +kernel
theorem d_K_insert_4 : decode b_K_insert 4 = .ok (.iload_n 1, 1) := by decide +kernel
theorem d_K_insert_5 : decode b_K_insert 5 = .ok (.aload_n 0, 1) := by decide +kernel
theorem d_K_insert_6 : decode b_K_insert 6 = .ok (.getfield 11, 3) := by decide +kernel
theorem d_K_insert_9 : decode b_K_insert 9 = .ok (.iload_n 1, 1) := by decide +kernel
theorem d_K_insert_10 : decode b_K_insert 10 = .ok (.iconst 1, 1) := by decide +kernel
theorem d_K_insert_11 : decode b_K_insert 11 = .ok (.iadd, 1) := by decide +kernel
theorem d_K_insert_12 : decode b_K_insert 12 = .ok (.aload_n 0, 1) := by decide +kernel
theorem d_K_insert_13 : decode b_K_insert 13 = .ok (.getfield 34, 3) := by decide +kernel
theorem d_K_insert_16 : decode b_K_insert 16 = .ok (.iload_n 1, 1) := by decide +kernel
theorem d_K_insert_17 : decode b_K_insert 17 = .ok (.isub, 1) := by decide +kernel
theorem d_K_insert_18 : decode b_K_insert 18 = .ok (.invokestatic 42, 3) := by decide +kernel
theorem d_K_insert_21 : decode b_K_insert 21 = .ok (.aload_n 0, 1) := by decide +kernel
theorem d_K_insert_22 : decode b_K_insert 22 = .ok (.getfield 15, 3) := by decide +kernel
theorem d_K_insert_25 : decode b_K_insert 25 = .ok (.iload_n 1, 1) := by decide +kernel
theorem d_K_insert_26 : decode b_K_insert 26 = .ok (.aload_n 0, 1) := by decide +kernel
theorem d_K_insert_27 : decode b_K_insert 27 = .ok (.getfield 15, 3) := by decide +kernel
theorem d_K_insert_30 : decode b_K_insert 30 = .ok (.iload_n 1, 1) := by decide +kernel
theorem d_K_insert_31 : decode b_K_insert 31 = .ok (.iconst 1, 1) := by decide +kernel
theorem d_K_insert_32 : decode b_K_insert 32 = .ok (.iadd, 1) := by decide +kernel
theorem d_K_insert_33 : decode b_K_insert 33 = .ok (.aload_n 0, 1) := by decide +kernel
theorem d_K_insert_34 : decode b_K_insert 34 = .ok (.getfield 34, 3) := by decide +kernel
theorem d_K_insert_37 : decode b_K_insert 37 = .ok (.iload_n 1, 1) := by decide +kernel
theorem d_K_insert_38 : decode b_K_insert 38 = .ok (.isub, 1) := by decide +kernel
theorem d_K_insert_39 : decode b_K_insert 39 = .ok (.invokestatic 42, 3) := by decide +kernel
theorem d_K_insert_42 : decode b_K_insert 42 = .ok (.aload_n 0, 1) := by decide +kernel
theorem d_K_insert_43 : decode b_K_insert 43 = .ok (.getfield 11, 3) := by decide +kernel
theorem d_K_insert_46 : decode b_K_insert 46 = .ok (.iload_n 1, 1) := by decide +kernel
theorem d_K_insert_47 : decode b_K_insert 47 = .ok (.iload_n 2, 1) := by decide +kernel
theorem d_K_insert_48 : decode b_K_insert 48 = .ok (.iastore, 1) := by decide +kernel
theorem d_K_insert_49 : decode b_K_insert 49 = .ok (.aload_n 0, 1) := by decide +kernel
theorem d_K_insert_50 : decode b_K_insert 50 = .ok (.getfield 15, 3) := by decide +kernel
theorem d_K_insert_53 : decode b_K_insert 53 = .ok (.iload_n 1, 1) := by decide +kernel
theorem d_K_insert_54 : decode b_K_insert 54 = .ok (.lload_n 3, 1) := by decide +kernel
theorem d_K_insert_55 : decode b_K_insert 55 = .ok (.lastore, 1) := by decide +kernel
theorem d_K_insert_56 : decode b_K_insert 56 = .ok (.aload_n 0, 1) := by decide +kernel
theorem d_K_insert_57 : decode b_K_insert 57 = .ok (.dup, 1) := by decide +kernel
theorem d_K_insert_58 : decode b_K_insert 58 = .ok (.getfield 34, 3) := by decide +kernel
theorem d_K_insert_61 : decode b_K_insert 61 = .ok (.iconst 1, 1) := by decide +kernel
theorem d_K_insert_62 : decode b_K_insert 62 = .ok (.iadd, 1) := by decide +kernel
theorem d_K_insert_63 : decode b_K_insert 63 = .ok (.putfield 34, 3) := by decide +kernel
theorem d_K_insert_66 : decode b_K_insert 66 = .ok (.aload_n 0, 1) := by decide +kernel
theorem d_K_insert_67 : decode b_K_insert 67 = .ok (.getfield 22, 3) := by decide +kernel
theorem d_K_insert_70 : decode b_K_insert 70 = .ok (.iload_n 2, 1) := by decide +kernel
theorem d_K_insert_71 : decode b_K_insert 71 = .ok (.invokestatic 48, 3) := by decide +kernel
theorem d_K_insert_74 : decode b_K_insert 74 = .ok (.iconst 1, 1) := by decide +kernel
theorem d_K_insert_75 : decode b_K_insert 75 = .ok (.invokevirtual 51, 3) := by decide +kernel
theorem d_K_insert_78 : decode b_K_insert 78 = .ok (.return_, 1) := by decide +kernel
theorem d_K_pagesInUse_0 : decode b_K_pagesInUse 0 = .ok (.iconst 1, 1) := by decide +kernel
theorem d_K_pagesInUse_1 : decode b_K_pagesInUse 1 = .ok (.iconst 1, 1) := by decide +kernel
theorem d_K_pagesInUse_2 : decode b_K_pagesInUse 2 = .ok (.aload_n 0, 1) := by decide +kernel
theorem d_K_pagesInUse_3 : decode b_K_pagesInUse 3 = .ok (.getfield 22, 3) := by decide +kernel
theorem d_K_pagesInUse_6 : decode b_K_pagesInUse 6 = .ok (.invokevirtual 55, 3) := by decide +kernel
theorem d_K_pagesInUse_9 : decode b_K_pagesInUse 9 = .ok (.ishl, 1) := by decide +kernel
theorem d_K_pagesInUse_10 : decode b_K_pagesInUse 10 = .ok (.invokestatic 59, 3) := by decide +kernel
theorem d_K_pagesInUse_13 : decode b_K_pagesInUse 13 = .ok (.iadd, 1) := by decide +kernel
theorem d_K_pagesInUse_14 : decode b_K_pagesInUse 14 = .ok (.istore_n 1, 1) := by decide +kernel
theorem d_K_pagesInUse_15 : decode b_K_pagesInUse 15 = .ok (.iconst 0, 1) := by decide +kernel
theorem d_K_pagesInUse_16 : decode b_K_pagesInUse 16 = .ok (.istore_n 2, 1) := by decide +kernel
theorem d_K_pagesInUse_17 : decode b_K_pagesInUse 17 = .ok (.iload_n 2, 1) := by decide +kernel
theorem d_K_pagesInUse_18 : decode b_K_pagesInUse 18 = .ok (.bipush 64, 2) := by decide +kernel
theorem d_K_pagesInUse_20 : decode b_K_pagesInUse 20 = .ok (.if_icmp .ge 34, 3) := by decide +kernel
theorem d_K_pagesInUse_23 : decode b_K_pagesInUse 23 = .ok (.aload_n 0, 1) := by decide +kernel
theorem d_K_pagesInUse_24 : decode b_K_pagesInUse 24 = .ok (.getfield 22, 3) := by decide +kernel
theorem d_K_pagesInUse_27 : decode b_K_pagesInUse 27 = .ok (.iload_n 2, 1) := by decide +kernel
theorem d_K_pagesInUse_28 : decode b_K_pagesInUse 28 = .ok (.invokevirtual 62, 3) := by decide +kernel
theorem d_K_pagesInUse_31 : decode b_K_pagesInUse 31 = .ok (.ifCond .eq 17, 3) := by decide +kernel
theorem d_K_pagesInUse_34 : decode b_K_pagesInUse 34 = .ok (.iload_n 1, 1) := by decide +kernel
theorem d_K_pagesInUse_35 : decode b_K_pagesInUse 35 = .ok (.aload_n 0, 1) := by decide +kernel
theorem d_K_pagesInUse_36 : decode b_K_pagesInUse 36 = .ok (.getfield 22, 3) := by decide +kernel
theorem d_K_pagesInUse_39 : decode b_K_pagesInUse 39 = .ok (.iload_n 2, 1) := by decide +kernel
theorem d_K_pagesInUse_40 : decode b_K_pagesInUse 40 = .ok (.invokevirtual 66, 3) := by decide +kernel
theorem d_K_pagesInUse_43 : decode b_K_pagesInUse 43 = .ok (.invokestatic 69, 3) := by decide +kernel
theorem d_K_pagesInUse_46 : decode b_K_pagesInUse 46 = .ok (.iadd, 1) := by decide +kernel
theorem d_K_pagesInUse_47 : decode b_K_pagesInUse 47 = .ok (.istore_n 1, 1) := by decide +kernel
theorem d_K_pagesInUse_48 : decode b_K_pagesInUse 48 = .ok (.iinc 2 1, 3) := by decide +kernel
theorem d_K_pagesInUse_51 : decode b_K_pagesInUse 51 = .ok (.goto (-34), 3) := by decide +kernel
theorem d_K_pagesInUse_54 : decode b_K_pagesInUse 54 = .ok (.iconst 0, 1) := by decide +kernel
theorem d_K_pagesInUse_55 : decode b_K_pagesInUse 55 = .ok (.istore_n 2, 1) := by decide +kernel
theorem d_K_pagesInUse_56 : decode b_K_pagesInUse 56 = .ok (.iload_n 2, 1) := by decide +kernel
theorem d_K_pagesInUse_57 : decode b_K_pagesInUse 57 = .ok (.aload_n 0, 1) := by decide +kernel
theorem d_K_pagesInUse_58 : decode b_K_pagesInUse 58 = .ok (.getfield 34, 3) := by decide +kernel
theorem d_K_pagesInUse_61 : decode b_K_pagesInUse 61 = .ok (.if_icmp .ge 21, 3) := by decide +kernel
theorem d_K_pagesInUse_64 : decode b_K_pagesInUse 64 = .ok (.iload_n 1, 1) := by decide +kernel
theorem d_K_pagesInUse_65 : decode b_K_pagesInUse 65 = .ok (.aload_n 0, 1) := by decide +kernel
theorem d_K_pagesInUse_66 : decode b_K_pagesInUse 66 = .ok (.getfield 15, 3) := by decide +kernel
theorem d_K_pagesInUse_69 : decode b_K_pagesInUse 69 = .ok (.iload_n 2, 1) := by decide +kernel
theorem d_K_pagesInUse_70 : decode b_K_pagesInUse 70 = .ok (.laload, 1) := by decide +kernel
theorem d_K_pagesInUse_71 : decode b_K_pagesInUse 71 = .ok (.invokestatic 72, 3) := by decide +kernel
theorem d_K_pagesInUse_74 : decode b_K_pagesInUse 74 = .ok (.iadd, 1) := by decide +kernel
theorem d_K_pagesInUse_75 : decode b_K_pagesInUse 75 = .ok (.istore_n 1, 1) := by decide +kernel
theorem d_K_pagesInUse_76 : decode b_K_pagesInUse 76 = .ok (.iinc 2 1, 3) := by decide +kernel
theorem d_K_pagesInUse_79 : decode b_K_pagesInUse 79 = .ok (.goto (-23), 3) := by decide +kernel
theorem d_K_pagesInUse_82 : decode b_K_pagesInUse 82 = .ok (.iload_n 1, 1) := by decide +kernel
theorem d_K_pagesInUse_83 : decode b_K_pagesInUse 83 = .ok (.ireturn, 1) := by decide +kernel
theorem d_K_remove_0 : decode b_K_remove 0 = .ok (.aload_n 0, 1) := by decide +kernel
theorem d_K_remove_1 : decode b_K_remove 1 = .ok (.iload_n 1, 1) := by decide +kernel
theorem d_K_remove_2 : decode b_K_remove 2 = .ok (.invokevirtual 26, 3) := by decide +kernel
theorem d_K_remove_5 : decode b_K_remove 5 = .ok (.istore_n 2, 1) := by decide +kernel
theorem d_K_remove_6 : decode b_K_remove 6 = .ok (.aload_n 0, 1) := by decide +kernel
theorem d_K_remove_7 : decode b_K_remove 7 = .ok (.iload_n 2, 1) := by decide +kernel
theorem d_K_remove_8 : decode b_K_remove 8 = .ok (.iload_n 1, 1) := by decide +kernel
theorem d_K_remove_9 : decode b_K_remove 9 = .ok (.invokevirtual 30, 3) := by decide +kernel
theorem d_K_remove_12 : decode b_K_remove 12 = .ok (.ifCond .eq 67, 3) := by decide +kernel
theorem d_K_remove_15 : decode b_K_remove 15 = .ok (.aload_n 0, 1) := by decide +kernel
theorem d_K_remove_16 : decode b_K_remove 16 = .ok (.dup, 1) := by decide +kernel
theorem d_K_remove_17 : decode b_K_remove 17 = .ok (.getfield 34, 3) := by decide +kernel
theorem d_K_remove_20 : decode b_K_remove 20 = .ok (.iconst 1, 1) := by decide +kernel
theorem d_K_remove_21 : decode b_K_remove 21 = .ok (.isub, 1) := by decide +kernel
theorem d_K_remove_22 : decode b_K_remove 22 = .ok (.putfield 34, 3) := by decide +kernel
theorem d_K_remove_25 : decode b_K_remove 25 = .ok (.aload_n 0, 1) := by decide +kernel
theorem d_K_remove_26 : decode b_K_remove 26 = .ok (.getfield 11, 3) := by decide +kernel
theorem d_K_remove_29 : decode b_K_remove 29 = .ok (.iload_n 2, 1) := by decide +kernel
theorem d_K_remove_30 : decode b_K_remove 30 = .ok (.iconst 1, 1) := by decide +kernel
theorem d_K_remove_31 : decode b_K_remove 31 = .ok (.iadd, 1) := by decide +kernel
theorem d_K_remove_32 : decode b_K_remove 32 = .ok (.aload_n 0, 1) := by decide +kernel
theorem d_K_remove_33 : decode b_K_remove 33 = .ok (.getfield 11, 3) := by decide +kernel
theorem d_K_remove_36 : decode b_K_remove 36 = .ok (.iload_n 2, 1) := by decide +kernel
theorem d_K_remove_37 : decode b_K_remove 37 = .ok (.aload_n 0, 1) := by decide +kernel
theorem d_K_remove_38 : decode b_K_remove 38 = .ok (.getfield 34, 3) := by decide +kernel
theorem d_K_remove_41 : decode b_K_remove 41 = .ok (.iload_n 2, 1) := by decide +kernel
theorem d_K_remove_42 : decode b_K_remove 42 = .ok (.isub, 1) := by decide +kernel
theorem d_K_remove_43 : decode b_K_remove 43 = .ok (.invokestatic 42, 3) := by decide +kernel
theorem d_K_remove_46 : decode b_K_remove 46 = .ok (.aload_n 0, 1) := by decide +kernel
theorem d_K_remove_47 : decode b_K_remove 47 = .ok (.getfield 15, 3) := by decide +kernel
theorem d_K_remove_50 : decode b_K_remove 50 = .ok (.iload_n 2, 1) := by decide +kernel
theorem d_K_remove_51 : decode b_K_remove 51 = .ok (.iconst 1, 1) := by decide +kernel
theorem d_K_remove_52 : decode b_K_remove 52 = .ok (.iadd, 1) := by decide +kernel
theorem d_K_remove_53 : decode b_K_remove 53 = .ok (.aload_n 0, 1) := by decide +kernel
theorem d_K_remove_54 : decode b_K_remove 54 = .ok (.getfield 15, 3) := by decide +kernel
theorem d_K_remove_57 : decode b_K_remove 57 = .ok (.iload_n 2, 1) := by decide +kernel
theorem d_K_remove_58 : decode b_K_remove 58 = .ok (.aload_n 0, 1) := by decide +kernel
theorem d_K_remove_59 : decode b_K_remove 59 = .ok (.getfield 34, 3) := by decide +kernel
theorem d_K_remove_62 : decode b_K_remove 62 = .ok (.iload_n 2, 1) := by decide +kernel
theorem d_K_remove_63 : decode b_K_remove 63 = .ok (.isub, 1) := by decide +kernel
theorem d_K_remove_64 : decode b_K_remove 64 = .ok (.invokestatic 42, 3) := by decide +kernel
theorem d_K_remove_67 : decode b_K_remove 67 = .ok (.aload_n 0, 1) := by decide +kernel
theorem d_K_remove_68 : decode b_K_remove 68 = .ok (.getfield 22, 3) := by decide +kernel
theorem d_K_remove_71 : decode b_K_remove 71 = .ok (.iload_n 1, 1) := by decide +kernel
theorem d_K_remove_72 : decode b_K_remove 72 = .ok (.invokestatic 48, 3) := by decide +kernel
theorem d_K_remove_75 : decode b_K_remove 75 = .ok (.iconst (-1), 1) := by decide +kernel
theorem d_K_remove_76 : decode b_K_remove 76 = .ok (.invokevirtual 51, 3) := by decide +kernel
theorem d_K_remove_79 : decode b_K_remove 79 = .ok (.return_, 1) := by decide +kernel
theorem d_K_bucketPagesUpTo_0 : decode b_K_bucketPagesUpTo 0 = .ok (.aload_n 0, 1) := by decide +kernel
theorem d_K_bucketPagesUpTo_1 : decode b_K_bucketPagesUpTo 1 = .ok (.getfield 22, 3) := by decide +kernel
theorem d_K_bucketPagesUpTo_4 : decode b_K_bucketPagesUpTo 4 = .ok (.iload_n 1, 1) := by decide +kernel
theorem d_K_bucketPagesUpTo_5 : decode b_K_bucketPagesUpTo 5 = .ok (.invokestatic 48, 3) := by decide +kernel
theorem d_K_bucketPagesUpTo_8 : decode b_K_bucketPagesUpTo 8 = .ok (.invokevirtual 76, 3) := by decide +kernel
theorem d_K_bucketPagesUpTo_11 : decode b_K_bucketPagesUpTo 11 = .ok (.istore_n 2, 1) := by decide +kernel
theorem d_K_bucketPagesUpTo_12 : decode b_K_bucketPagesUpTo 12 = .ok (.iload_n 1, 1) := by decide +kernel
theorem d_K_bucketPagesUpTo_13 : decode b_K_bucketPagesUpTo 13 = .ok (.invokestatic 48, 3) := by decide +kernel
theorem d_K_bucketPagesUpTo_16 : decode b_K_bucketPagesUpTo 16 = .ok (.iload_n 2, 1) := by decide +kernel
theorem d_K_bucketPagesUpTo_17 : decode b_K_bucketPagesUpTo 17 = .ok (.iand, 1) := by decide +kernel
theorem d_K_bucketPagesUpTo_18 : decode b_K_bucketPagesUpTo 18 = .ok (.istore_n 3, 1) := by decide +kernel
theorem d_K_bucketPagesUpTo_19 : decode b_K_bucketPagesUpTo 19 = .ok (.iconst 0, 1) := by decide +kernel
theorem d_K_bucketPagesUpTo_20 : decode b_K_bucketPagesUpTo 20 = .ok (.istore 4, 2) := by decide +kernel
theorem d_K_bucketPagesUpTo_22 : decode b_K_bucketPagesUpTo 22 = .ok (.iconst 0, 1) := by decide +kernel
theorem d_K_bucketPagesUpTo_23 : decode b_K_bucketPagesUpTo 23 = .ok (.istore 5, 2) := by decide +kernel
theorem d_K_bucketPagesUpTo_25 : decode b_K_bucketPagesUpTo 25 = .ok (.iload 5, 2) := by decide +kernel
theorem d_K_bucketPagesUpTo_27 : decode b_K_bucketPagesUpTo 27 = .ok (.aload_n 0, 1) := by decide +kernel
theorem d_K_bucketPagesUpTo_28 : decode b_K_bucketPagesUpTo 28 = .ok (.getfield 34, 3) := by decide +kernel
theorem d_K_bucketPagesUpTo_31 : decode b_K_bucketPagesUpTo 31 = .ok (.if_icmp .ge 39, 3) := by decide +kernel
theorem d_K_bucketPagesUpTo_34 : decode b_K_bucketPagesUpTo 34 = .ok (.aload_n 0, 1) := by decide +kernel
theorem d_K_bucketPagesUpTo_35 : decode b_K_bucketPagesUpTo 35 = .ok (.getfield 11, 3) := by decide +kernel
theorem d_K_bucketPagesUpTo_38 : decode b_K_bucketPagesUpTo 38 = .ok (.iload 5, 2) := by decide +kernel
theorem d_K_bucketPagesUpTo_40 : decode b_K_bucketPagesUpTo 40 = .ok (.iaload, 1) := by decide +kernel
theorem d_K_bucketPagesUpTo_41 : decode b_K_bucketPagesUpTo 41 = .ok (.iload_n 1, 1) := by decide +kernel
theorem d_K_bucketPagesUpTo_42 : decode b_K_bucketPagesUpTo 42 = .ok (.if_icmp .ge 28, 3) := by decide +kernel
theorem d_K_bucketPagesUpTo_45 : decode b_K_bucketPagesUpTo 45 = .ok (.aload_n 0, 1) := by decide +kernel
theorem d_K_bucketPagesUpTo_46 : decode b_K_bucketPagesUpTo 46 = .ok (.getfield 11, 3) := by decide +kernel
theorem d_K_bucketPagesUpTo_49 : decode b_K_bucketPagesUpTo 49 = .ok (.iload 5, 2) := by decide +kernel
theorem d_K_bucketPagesUpTo_51 : decode b_K_bucketPagesUpTo 51 = .ok (.iaload, 1) := by decide +kernel
theorem d_K_bucketPagesUpTo_52 : decode b_K_bucketPagesUpTo 52 = .ok (.invokestatic 48, 3) := by decide +kernel
theorem d_K_bucketPagesUpTo_55 : decode b_K_bucketPagesUpTo 55 = .ok (.iload_n 2, 1) := by decide +kernel
theorem d_K_bucketPagesUpTo_56 : decode b_K_bucketPagesUpTo 56 = .ok (.iand, 1) := by decide +kernel
theorem d_K_bucketPagesUpTo_57 : decode b_K_bucketPagesUpTo 57 = .ok (.iload_n 3, 1) := by decide +kernel
theorem d_K_bucketPagesUpTo_58 : decode b_K_bucketPagesUpTo 58 = .ok (.if_icmp .ne 6, 3) := by decide +kernel
theorem d_K_bucketPagesUpTo_61 : decode b_K_bucketPagesUpTo 61 = .ok (.iinc 4 1, 3) := by decide +kernel
theorem d_K_bucketPagesUpTo_64 : decode b_K_bucketPagesUpTo 64 = .ok (.iinc 5 1, 3) := by decide +kernel
theorem d_K_bucketPagesUpTo_67 : decode b_K_bucketPagesUpTo 67 = .ok (.goto (-42), 3) := by decide +kernel
theorem d_K_bucketPagesUpTo_70 : decode b_K_bucketPagesUpTo 70 = .ok (.iconst 0, 1) := by decide +kernel
theorem d_K_bucketPagesUpTo_71 : decode b_K_bucketPagesUpTo 71 = .ok (.aload_n 0, 1) := by decide +kernel
theorem d_K_bucketPagesUpTo_72 : decode b_K_bucketPagesUpTo 72 = .ok (.getfield 22, 3) := by decide +kernel
theorem d_K_bucketPagesUpTo_75 : decode b_K_bucketPagesUpTo 75 = .ok (.iload_n 3, 1) := by decide +kernel
theorem d_K_bucketPagesUpTo_76 : decode b_K_bucketPagesUpTo 76 = .ok (.invokevirtual 66, 3) := by decide +kernel
theorem d_K_bucketPagesUpTo_79 : decode b_K_bucketPagesUpTo 79 = .ok (.iconst 1, 1) := by decide +kernel
theorem d_K_bucketPagesUpTo_80 : decode b_K_bucketPagesUpTo 80 = .ok (.isub, 1) := by decide +kernel
theorem d_K_bucketPagesUpTo_81 : decode b_K_bucketPagesUpTo 81 = .ok (.invokestatic 79, 3) := by decide +kernel
theorem d_K_bucketPagesUpTo_84 : decode b_K_bucketPagesUpTo 84 = .ok (.istore 5, 2) := by decide +kernel
theorem d_K_bucketPagesUpTo_86 : decode b_K_bucketPagesUpTo 86 = .ok (.iload 4, 2) := by decide +kernel
theorem d_K_bucketPagesUpTo_88 : decode b_K_bucketPagesUpTo 88 = .ok (.iload 5, 2) := by decide +kernel
theorem d_K_bucketPagesUpTo_90 : decode b_K_bucketPagesUpTo 90 = .ok (.invokestatic 85, 3) := by decide +kernel
theorem d_K_bucketPagesUpTo_93 : decode b_K_bucketPagesUpTo 93 = .ok (.iconst 4, 1) := by decide +kernel
theorem d_K_bucketPagesUpTo_94 : decode b_K_bucketPagesUpTo 94 = .ok (.idiv, 1) := by decide +kernel
theorem d_K_bucketPagesUpTo_95 : decode b_K_bucketPagesUpTo 95 = .ok (.iconst 1, 1) := by decide +kernel
theorem d_K_bucketPagesUpTo_96 : decode b_K_bucketPagesUpTo 96 = .ok (.iadd, 1) := by decide +kernel
theorem d_K_bucketPagesUpTo_97 : decode b_K_bucketPagesUpTo 97 = .ok (.ireturn, 1) := by decide +kernel
theorem d_K_keyInPlaceOrder_0 : decode b_K_keyInPlaceOrder 0 = .ok (.iload_n 1, 1) := by decide +kernel
theorem d_K_keyInPlaceOrder_1 : decode b_K_keyInPlaceOrder 1 = .ok (.ifCond .lt 11, 3) := by decide +kernel
theorem d_K_keyInPlaceOrder_4 : decode b_K_keyInPlaceOrder 4 = .ok (.iload_n 1, 1) := by decide +kernel
theorem d_K_keyInPlaceOrder_5 : decode b_K_keyInPlaceOrder 5 = .ok (.aload_n 0, 1) := by decide +kernel
theorem d_K_keyInPlaceOrder_6 : decode b_K_keyInPlaceOrder 6 = .ok (.getfield 34, 3) := by decide +kernel
theorem d_K_keyInPlaceOrder_9 : decode b_K_keyInPlaceOrder 9 = .ok (.if_icmp .lt 5, 3) := by decide +kernel
theorem d_K_keyInPlaceOrder_12 : decode b_K_keyInPlaceOrder 12 = .ok (.iconst 0, 1) := by decide +kernel
theorem d_K_keyInPlaceOrder_13 : decode b_K_keyInPlaceOrder 13 = .ok (.ireturn, 1) := by decide +kernel
theorem d_K_keyInPlaceOrder_14 : decode b_K_keyInPlaceOrder 14 = .ok (.iload_n 1, 1) := by decide +kernel
theorem d_K_keyInPlaceOrder_15 : decode b_K_keyInPlaceOrder 15 = .ok (.istore_n 2, 1) := by decide +kernel
theorem d_K_keyInPlaceOrder_16 : decode b_K_keyInPlaceOrder 16 = .ok (.iconst 0, 1) := by decide +kernel
theorem d_K_keyInPlaceOrder_17 : decode b_K_keyInPlaceOrder 17 = .ok (.istore_n 3, 1) := by decide +kernel
theorem d_K_keyInPlaceOrder_18 : decode b_K_keyInPlaceOrder 18 = .ok (.iload_n 3, 1) := by decide +kernel
theorem d_K_keyInPlaceOrder_19 : decode b_K_keyInPlaceOrder 19 = .ok (.bipush 64, 2) := by decide +kernel
theorem d_K_keyInPlaceOrder_21 : decode b_K_keyInPlaceOrder 21 = .ok (.if_icmp .ge 48, 3) := by decide +kernel
theorem d_K_keyInPlaceOrder_24 : decode b_K_keyInPlaceOrder 24 = .ok (.aload_n 0, 1) := by decide +kernel
theorem d_K_keyInPlaceOrder_25 : decode b_K_keyInPlaceOrder 25 = .ok (.getfield 22, 3) := by decide +kernel
theorem d_K_keyInPlaceOrder_28 : decode b_K_keyInPlaceOrder 28 = .ok (.iload_n 3, 1) := by decide +kernel
theorem d_K_keyInPlaceOrder_29 : decode b_K_keyInPlaceOrder 29 = .ok (.invokevirtual 62, 3) := by decide +kernel
theorem d_K_keyInPlaceOrder_32 : decode b_K_keyInPlaceOrder 32 = .ok (.ifCond .eq 31, 3) := by decide +kernel
theorem d_K_keyInPlaceOrder_35 : decode b_K_keyInPlaceOrder 35 = .ok (.aload_n 0, 1) := by decide +kernel
theorem d_K_keyInPlaceOrder_36 : decode b_K_keyInPlaceOrder 36 = .ok (.getfield 22, 3) := by decide +kernel
theorem d_K_keyInPlaceOrder_39 : decode b_K_keyInPlaceOrder 39 = .ok (.iload_n 3, 1) := by decide +kernel
theorem d_K_keyInPlaceOrder_40 : decode b_K_keyInPlaceOrder 40 = .ok (.invokevirtual 66, 3) := by decide +kernel
theorem d_K_keyInPlaceOrder_43 : decode b_K_keyInPlaceOrder 43 = .ok (.istore 4, 2) := by decide +kernel
theorem d_K_keyInPlaceOrder_45 : decode b_K_keyInPlaceOrder 45 = .ok (.iload_n 2, 1) := by decide +kernel
theorem d_K_keyInPlaceOrder_46 : decode b_K_keyInPlaceOrder 46 = .ok (.iload 4, 2) := by decide +kernel
theorem d_K_keyInPlaceOrder_48 : decode b_K_keyInPlaceOrder 48 = .ok (.if_icmp .ge 10, 3) := by decide +kernel
theorem d_K_keyInPlaceOrder_51 : decode b_K_keyInPlaceOrder 51 = .ok (.aload_n 0, 1) := by decide +kernel
theorem d_K_keyInPlaceOrder_52 : decode b_K_keyInPlaceOrder 52 = .ok (.iload_n 3, 1) := by decide +kernel
theorem d_K_keyInPlaceOrder_53 : decode b_K_keyInPlaceOrder 53 = .ok (.iload_n 2, 1) := by decide +kernel
theorem d_K_keyInPlaceOrder_54 : decode b_K_keyInPlaceOrder 54 = .ok (.invokevirtual 88, 3) := by decide +kernel
theorem d_K_keyInPlaceOrder_57 : decode b_K_keyInPlaceOrder 57 = .ok (.ireturn, 1) := by decide +kernel
theorem d_K_keyInPlaceOrder_58 : decode b_K_keyInPlaceOrder 58 = .ok (.iload_n 2, 1) := by decide +kernel
theorem d_K_keyInPlaceOrder_59 : decode b_K_keyInPlaceOrder 59 = .ok (.iload 4, 2) := by decide +kernel
theorem d_K_keyInPlaceOrder_61 : decode b_K_keyInPlaceOrder 61 = .ok (.isub, 1) := by decide +kernel
theorem d_K_keyInPlaceOrder_62 : decode b_K_keyInPlaceOrder 62 = .ok (.istore_n 2, 1) := by decide +kernel
theorem d_K_keyInPlaceOrder_63 : decode b_K_keyInPlaceOrder 63 = .ok (.iinc 3 1, 3) := by decide +kernel
theorem d_K_keyInPlaceOrder_66 : decode b_K_keyInPlaceOrder 66 = .ok (.goto (-48), 3) := by decide +kernel
theorem d_K_keyInPlaceOrder_69 : decode b_K_keyInPlaceOrder 69 = .ok (.iconst 0, 1) := by decide +kernel
theorem d_K_keyInPlaceOrder_70 : decode b_K_keyInPlaceOrder 70 = .ok (.ireturn, 1) := by decide +kernel
theorem d_K_keyInBucket_0 : decode b_K_keyInBucket 0 = .ok (.aload_n 0, 1) := by decide +kernel
theorem d_K_keyInBucket_1 : decode b_K_keyInBucket 1 = .ok (.getfield 22, 3) := by decide +kernel
theorem d_K_keyInBucket_4 : decode b_K_keyInBucket 4 = .ok (.iload_n 1, 1) := by decide +kernel
theorem d_K_keyInBucket_5 : decode b_K_keyInBucket 5 = .ok (.invokevirtual 76, 3) := by decide +kernel
theorem d_K_keyInBucket_8 : decode b_K_keyInBucket 8 = .ok (.istore_n 3, 1) := by decide +kernel
theorem d_K_keyInBucket_9 : decode b_K_keyInBucket 9 = .ok (.iload_n 2, 1) := by decide +kernel
theorem d_K_keyInBucket_10 : decode b_K_keyInBucket 10 = .ok (.istore 4, 2) := by decide +kernel
theorem d_K_keyInBucket_12 : decode b_K_keyInBucket 12 = .ok (.iconst 0, 1) := by decide +kernel
theorem d_K_keyInBucket_13 : decode b_K_keyInBucket 13 = .ok (.istore 5, 2) := by decide +kernel
theorem d_K_keyInBucket_15 : decode b_K_keyInBucket 15 = .ok (.iload 5, 2) := by decide +kernel
theorem d_K_keyInBucket_17 : decode b_K_keyInBucket 17 = .ok (.aload_n 0, 1) := by decide +kernel
theorem d_K_keyInBucket_18 : decode b_K_keyInBucket 18 = .ok (.getfield 34, 3) := by decide +kernel
theorem d_K_keyInBucket_21 : decode b_K_keyInBucket 21 = .ok (.if_icmp .ge 41, 3) := by decide +kernel
theorem d_K_keyInBucket_24 : decode b_K_keyInBucket 24 = .ok (.aload_n 0, 1) := by decide +kernel
theorem d_K_keyInBucket_25 : decode b_K_keyInBucket 25 = .ok (.getfield 11, 3) := by decide +kernel
theorem d_K_keyInBucket_28 : decode b_K_keyInBucket 28 = .ok (.iload 5, 2) := by decide +kernel
theorem d_K_keyInBucket_30 : decode b_K_keyInBucket 30 = .ok (.iaload, 1) := by decide +kernel
theorem d_K_keyInBucket_31 : decode b_K_keyInBucket 31 = .ok (.invokestatic 48, 3) := by decide +kernel
theorem d_K_keyInBucket_34 : decode b_K_keyInBucket 34 = .ok (.iload_n 3, 1) := by decide +kernel
theorem d_K_keyInBucket_35 : decode b_K_keyInBucket 35 = .ok (.iand, 1) := by decide +kernel
theorem d_K_keyInBucket_36 : decode b_K_keyInBucket 36 = .ok (.iload_n 1, 1) := by decide +kernel
theorem d_K_keyInBucket_37 : decode b_K_keyInBucket 37 = .ok (.if_icmp .ne 19, 3) := by decide +kernel
theorem d_K_keyInBucket_40 : decode b_K_keyInBucket 40 = .ok (.iload 4, 2) := by decide +kernel
theorem d_K_keyInBucket_42 : decode b_K_keyInBucket 42 = .ok (.ifCond .ne 11, 3) := by decide +kernel
theorem d_K_keyInBucket_45 : decode b_K_keyInBucket 45 = .ok (.aload_n 0, 1) := by decide +kernel
theorem d_K_keyInBucket_46 : decode b_K_keyInBucket 46 = .ok (.getfield 11, 3) := by decide +kernel
theorem d_K_keyInBucket_49 : decode b_K_keyInBucket 49 = .ok (.iload 5, 2) := by decide +kernel
theorem d_K_keyInBucket_51 : decode b_K_keyInBucket 51 = .ok (.iaload, 1) := by decide +kernel
theorem d_K_keyInBucket_52 : decode b_K_keyInBucket 52 = .ok (.ireturn, 1) := by decide +kernel
theorem d_K_keyInBucket_53 : decode b_K_keyInBucket 53 = .ok (.iinc 4 (-1), 3) := by decide +kernel
theorem d_K_keyInBucket_56 : decode b_K_keyInBucket 56 = .ok (.iinc 5 1, 3) := by decide +kernel
theorem d_K_keyInBucket_59 : decode b_K_keyInBucket 59 = .ok (.goto (-44), 3) := by decide +kernel
theorem d_K_keyInBucket_62 : decode b_K_keyInBucket 62 = .ok (.iconst 0, 1) := by decide +kernel
theorem d_K_keyInBucket_63 : decode b_K_keyInBucket 63 = .ok (.ireturn, 1) := by decide +kernel
theorem d_R_init_0 : decode b_R_init 0 = .ok (.aload_n 0, 1) := by decide +kernel
theorem d_R_init_1 : decode b_R_init 1 = .ok (.invokespecial 3, 3) := by decide +kernel
theorem d_R_init_4 : decode b_R_init 4 = .ok (.aload_n 0, 1) := by decide +kernel
theorem d_R_init_5 : decode b_R_init 5 = .ok (.bipush 70, 2) := by decide +kernel
theorem d_R_init_7 : decode b_R_init 7 = .ok (.newarray .int, 2) := by decide +kernel
theorem d_R_init_9 : decode b_R_init 9 = .ok (.putfield 11, 3) := by decide +kernel
theorem d_R_init_12 : decode b_R_init 12 = .ok (.aload_n 0, 1) := by decide +kernel
theorem d_R_init_13 : decode b_R_init 13 = .ok (.bipush 70, 2) := by decide +kernel
theorem d_R_init_15 : decode b_R_init 15 = .ok (.newarray .long, 2) := by decide +kernel
theorem d_R_init_17 : decode b_R_init 17 = .ok (.putfield 15, 3) := by decide +kernel
theorem d_R_init_20 : decode b_R_init 20 = .ok (.aload_n 0, 1) := by decide +kernel
theorem d_R_init_21 : decode b_R_init 21 = .ok (.bipush 70, 2) := by decide +kernel
theorem d_R_init_23 : decode b_R_init 23 = .ok (.newarray .int, 2) := by decide +kernel
theorem d_R_init_25 : decode b_R_init 25 = .ok (.putfield 19, 3) := by decide +kernel
theorem d_R_init_28 : decode b_R_init 28 = .ok (.aload_n 0, 1) := by decide +kernel
theorem d_R_init_29 : decode b_R_init 29 = .ok (.bipush 70, 2) := by decide +kernel
theorem d_R_init_31 : decode b_R_init 31 = .ok (.newarray .int, 2) := by decide +kernel
theorem d_R_init_33 : decode b_R_init 33 = .ok (.putfield 22, 3) := by decide +kernel
theorem d_R_init_36 : decode b_R_init 36 = .ok (.return_, 1) := by decide +kernel
theorem d_R_write_0 : decode b_R_write 0 = .ok (.aload_n 0, 1) := by decide +kernel
theorem d_R_write_1 : decode b_R_write 1 = .ok (.iload_n 1, 1) := by decide +kernel
theorem d_R_write_2 : decode b_R_write 2 = .ok (.lload_n 3, 1) := by decide +kernel
theorem d_R_write_3 : decode b_R_write 3 = .ok (.iload_n 2, 1) := by decide +kernel
theorem d_R_write_4 : decode b_R_write 4 = .ok (.ifCond .eq 7, 3) := by decide +kernel
theorem d_R_write_7 : decode b_R_write 7 = .ok (.iconst 2, 1) := by decide +kernel
theorem d_R_write_8 : decode b_R_write 8 = .ok (.goto 4, 3) := by decide +kernel
theorem d_R_write_11 : decode b_R_write 11 = .ok (.iconst 1, 1) := by decide +kernel
theorem d_R_write_12 : decode b_R_write 12 = .ok (.invokevirtual 25, 3) := by decide +kernel
theorem d_R_write_15 : decode b_R_write 15 = .ok (.return_, 1) := by decide +kernel
theorem d_R_append_0 : decode b_R_append 0 = .ok (.aload_n 0, 1) := by decide +kernel
theorem d_R_append_1 : decode b_R_append 1 = .ok (.getfield 29, 3) := by decide +kernel
theorem d_R_append_4 : decode b_R_append 4 = .ok (.bipush 70, 2) := by decide +kernel
theorem d_R_append_6 : decode b_R_append 6 = .ok (.if_icmp .ge 57, 3) := by decide +kernel
theorem d_R_append_9 : decode b_R_append 9 = .ok (.aload_n 0, 1) := by decide +kernel
theorem d_R_append_10 : decode b_R_append 10 = .ok (.getfield 11, 3) := by decide +kernel
theorem d_R_append_13 : decode b_R_append 13 = .ok (.aload_n 0, 1) := by decide +kernel
theorem d_R_append_14 : decode b_R_append 14 = .ok (.getfield 29, 3) := by decide +kernel
theorem d_R_append_17 : decode b_R_append 17 = .ok (.iload_n 1, 1) := by decide +kernel
theorem d_R_append_18 : decode b_R_append 18 = .ok (.iastore, 1) := by decide +kernel
theorem d_R_append_19 : decode b_R_append 19 = .ok (.aload_n 0, 1) := by decide +kernel
theorem d_R_append_20 : decode b_R_append 20 = .ok (.getfield 15, 3) := by decide +kernel
theorem d_R_append_23 : decode b_R_append 23 = .ok (.aload_n 0, 1) := by decide +kernel
theorem d_R_append_24 : decode b_R_append 24 = .ok (.getfield 29, 3) := by decide +kernel
theorem d_R_append_27 : decode b_R_append 27 = .ok (.lload_n 2, 1) := by decide +kernel
theorem d_R_append_28 : decode b_R_append 28 = .ok (.lastore, 1) := by decide +kernel
theorem d_R_append_29 : decode b_R_append 29 = .ok (.aload_n 0, 1) := by decide +kernel
theorem d_R_append_30 : decode b_R_append 30 = .ok (.getfield 19, 3) := by decide +kernel
theorem d_R_append_33 : decode b_R_append 33 = .ok (.aload_n 0, 1) := by decide +kernel
theorem d_R_append_34 : decode b_R_append 34 = .ok (.getfield 29, 3) := by decide +kernel
theorem d_R_append_37 : decode b_R_append 37 = .ok (.iload 4, 2) := by decide +kernel
theorem d_R_append_39 : decode b_R_append 39 = .ok (.iastore, 1) := by decide +kernel
theorem d_R_append_40 : decode b_R_append 40 = .ok (.aload_n 0, 1) := by decide +kernel
theorem d_R_append_41 : decode b_R_append 41 = .ok (.getfield 22, 3) := by decide +kernel
theorem d_R_append_44 : decode b_R_append 44 = .ok (.aload_n 0, 1) := by decide +kernel
theorem d_R_append_45 : decode b_R_append 45 = .ok (.getfield 29, 3) := by decide +kernel
theorem d_R_append_48 : decode b_R_append 48 = .ok (.aload_n 0, 1) := by decide +kernel
theorem d_R_append_49 : decode b_R_append 49 = .ok (.getfield 29, 3) := by decide +kernel
theorem d_R_append_52 : decode b_R_append 52 = .ok (.iastore, 1) := by decide +kernel
theorem d_R_append_53 : decode b_R_append 53 = .ok (.aload_n 0, 1) := by decide +kernel
theorem d_R_append_54 : decode b_R_append 54 = .ok (.dup, 1) := by decide +kernel
theorem d_R_append_55 : decode b_R_append 55 = .ok (.getfield 29, 3) := by decide +kernel
theorem d_R_append_58 : decode b_R_append 58 = .ok (.iconst 1, 1) := by decide +kernel
theorem d_R_append_59 : decode b_R_append 59 = .ok (.iadd, 1) := by decide +kernel
theorem d_R_append_60 : decode b_R_append 60 = .ok (.putfield 29, 3) := by decide +kernel
theorem d_R_append_63 : decode b_R_append 63 = .ok (.return_, 1) := by decide +kernel
theorem d_R_forgetFrom_0 : decode b_R_forgetFrom 0 = .ok (.aload_n 0, 1) := by decide +kernel
theorem d_R_forgetFrom_1 : decode b_R_forgetFrom 1 = .ok (.aload_n 0, 1) := by decide +kernel
theorem d_R_forgetFrom_2 : decode b_R_forgetFrom 2 = .ok (.getfield 29, 3) := by decide +kernel
theorem d_R_forgetFrom_5 : decode b_R_forgetFrom 5 = .ok (.iload_n 1, 1) := by decide +kernel
theorem d_R_forgetFrom_6 : decode b_R_forgetFrom 6 = .ok (.invokestatic 33, 3) := by decide +kernel
theorem d_R_forgetFrom_9 : decode b_R_forgetFrom 9 = .ok (.putfield 29, 3) := by decide +kernel
theorem d_R_forgetFrom_12 : decode b_R_forgetFrom 12 = .ok (.return_, 1) := by decide +kernel
theorem d_R_settle_0 : decode b_R_settle 0 = .ok (.aload_n 0, 1) := by decide +kernel
theorem d_R_settle_1 : decode b_R_settle 1 = .ok (.getfield 29, 3) := by decide +kernel
theorem d_R_settle_4 : decode b_R_settle 4 = .ok (.bipush 64, 2) := by decide +kernel
theorem d_R_settle_6 : decode b_R_settle 6 = .ok (.if_icmp .gt 4, 3) := by decide +kernel
theorem d_R_settle_9 : decode b_R_settle 9 = .ok (.return_, 1) := by decide +kernel
theorem d_R_settle_10 : decode b_R_settle 10 = .ok (.aload_n 0, 1) := by decide +kernel
theorem d_R_settle_11 : decode b_R_settle 11 = .ok (.getfield 29, 3) := by decide +kernel
theorem d_R_settle_14 : decode b_R_settle 14 = .ok (.iload_n 1, 1) := by decide +kernel
theorem d_R_settle_15 : decode b_R_settle 15 = .ok (.isub, 1) := by decide +kernel
theorem d_R_settle_16 : decode b_R_settle 16 = .ok (.istore_n 2, 1) := by decide +kernel
theorem d_R_settle_17 : decode b_R_settle 17 = .ok (.iconst 0, 1) := by decide +kernel
theorem d_R_settle_18 : decode b_R_settle 18 = .ok (.istore_n 3, 1) := by decide +kernel
theorem d_R_settle_19 : decode b_R_settle 19 = .ok (.iload_n 3, 1) := by decide +kernel
theorem d_R_settle_20 : decode b_R_settle 20 = .ok (.iload_n 2, 1) := by decide +kernel
theorem d_R_settle_21 : decode b_R_settle 21 = .ok (.if_icmp .ge 67, 3) := by decide +kernel
theorem d_R_settle_24 : decode b_R_settle 24 = .ok (.aload_n 0, 1) := by decide +kernel
theorem d_R_settle_25 : decode b_R_settle 25 = .ok (.getfield 11, 3) := by decide +kernel
theorem d_R_settle_28 : decode b_R_settle 28 = .ok (.iload_n 3, 1) := by decide +kernel
theorem d_R_settle_29 : decode b_R_settle 29 = .ok (.aload_n 0, 1) := by decide +kernel
theorem d_R_settle_30 : decode b_R_settle 30 = .ok (.getfield 11, 3) := by decide +kernel
theorem d_R_settle_33 : decode b_R_settle 33 = .ok (.iload_n 1, 1) := by decide +kernel
theorem d_R_settle_34 : decode b_R_settle 34 = .ok (.iload_n 3, 1) := by decide +kernel
theorem d_R_settle_35 : decode b_R_settle 35 = .ok (.iadd, 1) := by decide +kernel
theorem d_R_settle_36 : decode b_R_settle 36 = .ok (.iaload, 1) := by decide +kernel
theorem d_R_settle_37 : decode b_R_settle 37 = .ok (.iastore, 1) := by decide +kernel
theorem d_R_settle_38 : decode b_R_settle 38 = .ok (.aload_n 0, 1) := by decide +kernel
theorem d_R_settle_39 : decode b_R_settle 39 = .ok (.getfield 15, 3) := by decide +kernel
theorem d_R_settle_42 : decode b_R_settle 42 = .ok (.iload_n 3, 1) := by decide +kernel
theorem d_R_settle_43 : decode b_R_settle 43 = .ok (.aload_n 0, 1) := by decide +kernel
theorem d_R_settle_44 : decode b_R_settle 44 = .ok (.getfield 15, 3) := by decide +kernel
theorem d_R_settle_47 : decode b_R_settle 47 = .ok (.iload_n 1, 1) := by decide +kernel
theorem d_R_settle_48 : decode b_R_settle 48 = .ok (.iload_n 3, 1) := by decide +kernel
theorem d_R_settle_49 : decode b_R_settle 49 = .ok (.iadd, 1) := by decide +kernel
theorem d_R_settle_50 : decode b_R_settle 50 = .ok (.laload, 1) := by decide +kernel
theorem d_R_settle_51 : decode b_R_settle 51 = .ok (.lastore, 1) := by decide +kernel
theorem d_R_settle_52 : decode b_R_settle 52 = .ok (.aload_n 0, 1) := by decide +kernel
theorem d_R_settle_53 : decode b_R_settle 53 = .ok (.getfield 19, 3) := by decide +kernel
theorem d_R_settle_56 : decode b_R_settle 56 = .ok (.iload_n 3, 1) := by decide +kernel
theorem d_R_settle_57 : decode b_R_settle 57 = .ok (.aload_n 0, 1) := by decide +kernel
theorem d_R_settle_58 : decode b_R_settle 58 = .ok (.getfield 19, 3) := by decide +kernel
theorem d_R_settle_61 : decode b_R_settle 61 = .ok (.iload_n 1, 1) := by decide +kernel
theorem d_R_settle_62 : decode b_R_settle 62 = .ok (.iload_n 3, 1) := by decide +kernel
theorem d_R_settle_63 : decode b_R_settle 63 = .ok (.iadd, 1) := by decide +kernel
theorem d_R_settle_64 : decode b_R_settle 64 = .ok (.iaload, 1) := by decide +kernel
theorem d_R_settle_65 : decode b_R_settle 65 = .ok (.iastore, 1) := by decide +kernel
theorem d_R_settle_66 : decode b_R_settle 66 = .ok (.aload_n 0, 1) := by decide +kernel
theorem d_R_settle_67 : decode b_R_settle 67 = .ok (.getfield 22, 3) := by decide +kernel
theorem d_R_settle_70 : decode b_R_settle 70 = .ok (.iload_n 3, 1) := by decide +kernel
theorem d_R_settle_71 : decode b_R_settle 71 = .ok (.aload_n 0, 1) := by decide +kernel
theorem d_R_settle_72 : decode b_R_settle 72 = .ok (.getfield 22, 3) := by decide +kernel
theorem d_R_settle_75 : decode b_R_settle 75 = .ok (.iload_n 1, 1) := by decide +kernel
theorem d_R_settle_76 : decode b_R_settle 76 = .ok (.iload_n 3, 1) := by decide +kernel
theorem d_R_settle_77 : decode b_R_settle 77 = .ok (.iadd, 1) := by decide +kernel
theorem d_R_settle_78 : decode b_R_settle 78 = .ok (.iaload, 1) := by decide +kernel
theorem d_R_settle_79 : decode b_R_settle 79 = .ok (.iload_n 1, 1) := by decide +kernel
theorem d_R_settle_80 : decode b_R_settle 80 = .ok (.isub, 1) := by decide +kernel
theorem d_R_settle_81 : decode b_R_settle 81 = .ok (.iastore, 1) := by decide +kernel
theorem d_R_settle_82 : decode b_R_settle 82 = .ok (.iinc 3 1, 3) := by decide +kernel
theorem d_R_settle_85 : decode b_R_settle 85 = .ok (.goto (-66), 3) := by decide +kernel
theorem d_R_settle_88 : decode b_R_settle 88 = .ok (.aload_n 0, 1) := by decide +kernel
theorem d_R_settle_89 : decode b_R_settle 89 = .ok (.iload_n 2, 1) := by decide +kernel
theorem d_R_settle_90 : decode b_R_settle 90 = .ok (.putfield 29, 3) := by decide +kernel
theorem d_R_settle_93 : decode b_R_settle 93 = .ok (.return_, 1) := by decide +kernel
theorem d_R_closeBatch_0 : decode b_R_closeBatch 0 = .ok (.aload_n 0, 1) := by decide +kernel
theorem d_R_closeBatch_1 : decode b_R_closeBatch 1 = .ok (.iconst 0, 1) := by decide +kernel
theorem d_R_closeBatch_2 : decode b_R_closeBatch 2 = .ok (.lconst 0, 1) := by decide +kernel
theorem d_R_closeBatch_3 : decode b_R_closeBatch 3 = .ok (.iconst 0, 1) := by decide +kernel
theorem d_R_closeBatch_4 : decode b_R_closeBatch 4 = .ok (.invokevirtual 25, 3) := by decide +kernel
theorem d_R_closeBatch_7 : decode b_R_closeBatch 7 = .ok (.iload_n 1, 1) := by decide +kernel
theorem d_R_closeBatch_8 : decode b_R_closeBatch 8 = .ok (.istore_n 2, 1) := by decide +kernel
theorem d_R_closeBatch_9 : decode b_R_closeBatch 9 = .ok (.iload_n 2, 1) := by decide +kernel
theorem d_R_closeBatch_10 : decode b_R_closeBatch 10 = .ok (.aload_n 0, 1) := by decide +kernel
theorem d_R_closeBatch_11 : decode b_R_closeBatch 11 = .ok (.getfield 29, 3) := by decide +kernel
theorem d_R_closeBatch_14 : decode b_R_closeBatch 14 = .ok (.if_icmp .ge 16, 3) := by decide +kernel
theorem d_R_closeBatch_17 : decode b_R_closeBatch 17 = .ok (.aload_n 0, 1) := by decide +kernel
theorem d_R_closeBatch_18 : decode b_R_closeBatch 18 = .ok (.getfield 22, 3) := by decide +kernel
theorem d_R_closeBatch_21 : decode b_R_closeBatch 21 = .ok (.iload_n 2, 1) := by decide +kernel
theorem d_R_closeBatch_22 : decode b_R_closeBatch 22 = .ok (.iload_n 1, 1) := by decide +kernel
theorem d_R_closeBatch_23 : decode b_R_closeBatch 23 = .ok (.iastore, 1) := by decide +kernel
theorem d_R_closeBatch_24 : decode b_R_closeBatch 24 = .ok (.iinc 2 1, 3) := by decide +kernel
theorem d_R_closeBatch_27 : decode b_R_closeBatch 27 = .ok (.goto (-18), 3) := by decide +kernel
theorem d_R_closeBatch_30 : decode b_R_closeBatch 30 = .ok (.return_, 1) := by decide +kernel
theorem d_R_survivorsAmongFirst_0 : decode b_R_survivorsAmongFirst 0 = .ok (.iconst 0, 1) := by decide +kernel
theorem d_R_survivorsAmongFirst_1 : decode b_R_survivorsAmongFirst 1 = .ok (.aload_n 0, 1) := by decide +kernel
theorem d_R_survivorsAmongFirst_2 : decode b_R_survivorsAmongFirst 2 = .ok (.getfield 29, 3) := by decide +kernel
theorem d_R_survivorsAmongFirst_5 : decode b_R_survivorsAmongFirst 5 = .ok (.iload_n 1, 1) := by decide +kernel
theorem d_R_survivorsAmongFirst_6 : decode b_R_survivorsAmongFirst 6 = .ok (.invokestatic 33, 3) := by decide +kernel
theorem d_R_survivorsAmongFirst_9 : decode b_R_survivorsAmongFirst 9 = .ok (.invokestatic 39, 3) := by decide +kernel
theorem d_R_survivorsAmongFirst_12 : decode b_R_survivorsAmongFirst 12 = .ok (.istore_n 2, 1) := by decide +kernel
theorem d_R_survivorsAmongFirst_13 : decode b_R_survivorsAmongFirst 13 = .ok (.iload_n 2, 1) := by decide +kernel
theorem d_R_survivorsAmongFirst_14 : decode b_R_survivorsAmongFirst 14 = .ok (.aload_n 0, 1) := by decide +kernel
theorem d_R_survivorsAmongFirst_15 : decode b_R_survivorsAmongFirst 15 = .ok (.getfield 29, 3) := by decide +kernel
theorem d_R_survivorsAmongFirst_18 : decode b_R_survivorsAmongFirst 18 = .ok (.if_icmp .ge 12, 3) := by decide +kernel
theorem d_R_survivorsAmongFirst_21 : decode b_R_survivorsAmongFirst 21 = .ok (.aload_n 0, 1) := by decide +kernel
theorem d_R_survivorsAmongFirst_22 : decode b_R_survivorsAmongFirst 22 = .ok (.getfield 22, 3) := by decide +kernel
theorem d_R_survivorsAmongFirst_25 : decode b_R_survivorsAmongFirst 25 = .ok (.iload_n 2, 1) := by decide +kernel
theorem d_R_survivorsAmongFirst_26 : decode b_R_survivorsAmongFirst 26 = .ok (.iaload, 1) := by decide +kernel
theorem d_R_survivorsAmongFirst_27 : decode b_R_survivorsAmongFirst 27 = .ok (.goto 7, 3) := by decide +kernel
theorem d_R_survivorsAmongFirst_30 : decode b_R_survivorsAmongFirst 30 = .ok (.aload_n 0, 1) := by decide +kernel
theorem d_R_survivorsAmongFirst_31 : decode b_R_survivorsAmongFirst 31 = .ok (.getfield 29, 3) := by decide +kernel
theorem d_R_survivorsAmongFirst_34 : decode b_R_survivorsAmongFirst 34 = .ok (.ireturn, 1) := by decide +kernel
theorem d_B_init_0 : decode b_B_init 0 = .ok (.aload_n 0, 1) := by decide +kernel
theorem d_B_init_1 : decode b_B_init 1 = .ok (.invokespecial 3, 3) := by decide +kernel
theorem d_B_init_4 : decode b_B_init 4 = .ok (.aload_n 0, 1) := by decide +kernel
theorem d_B_init_5 : decode b_B_init 5 = .ok (.iconst 5, 1) := by decide +kernel
theorem d_B_init_6 : decode b_B_init 6 = .ok (.newarray .boolean, 2) := by decide +kernel
theorem d_B_init_8 : decode b_B_init 8 = .ok (.putfield 9, 3) := by decide +kernel
theorem d_B_init_11 : decode b_B_init 11 = .ok (.aload_n 0, 1) := by decide +kernel
theorem d_B_init_12 : decode b_B_init 12 = .ok (.iconst 5, 1) := by decide +kernel
theorem d_B_init_13 : decode b_B_init 13 = .ok (.newarray .int, 2) := by decide +kernel
theorem d_B_init_15 : decode b_B_init 15 = .ok (.putfield 15, 3) := by decide +kernel
theorem d_B_init_18 : decode b_B_init 18 = .ok (.aload_n 0, 1) := by decide +kernel
theorem d_B_init_19 : decode b_B_init 19 = .ok (.iconst 5, 1) := by decide +kernel
theorem d_B_init_20 : decode b_B_init 20 = .ok (.newarray .long, 2) := by decide +kernel
theorem d_B_init_22 : decode b_B_init 22 = .ok (.putfield 19, 3) := by decide +kernel
theorem d_B_init_25 : decode b_B_init 25 = .ok (.return_, 1) := by decide +kernel
theorem d_B_take_0 : decode b_B_take 0 = .ok (.aload_n 0, 1) := by decide +kernel
theorem d_B_take_1 : decode b_B_take 1 = .ok (.getfield 27, 3) := by decide +kernel
theorem d_B_take_4 : decode b_B_take 4 = .ok (.iconst 5, 1) := by decide +kernel
theorem d_B_take_5 : decode b_B_take 5 = .ok (.if_icmp .lt 5, 3) := by decide +kernel
theorem d_B_take_8 : decode b_B_take 8 = .ok (.iconst 0, 1) := by decide +kernel
theorem d_B_take_9 : decode b_B_take 9 = .ok (.ireturn, 1) := by decide +kernel
theorem d_B_take_10 : decode b_B_take 10 = .ok (.aload_n 0, 1) := by decide +kernel
theorem d_B_take_11 : decode b_B_take 11 = .ok (.getfield 9, 3) := by decide +kernel
theorem d_B_take_14 : decode b_B_take 14 = .ok (.aload_n 0, 1) := by decide +kernel
theorem d_B_take_15 : decode b_B_take 15 = .ok (.getfield 27, 3) := by decide +kernel
theorem d_B_take_18 : decode b_B_take 18 = .ok (.iload_n 1, 1) := by decide +kernel
theorem d_B_take_19 : decode b_B_take 19 = .ok (.bastore, 1) := by decide +kernel
theorem d_B_take_20 : decode b_B_take 20 = .ok (.aload_n 0, 1) := by decide +kernel
theorem d_B_take_21 : decode b_B_take 21 = .ok (.getfield 15, 3) := by decide +kernel
theorem d_B_take_24 : decode b_B_take 24 = .ok (.aload_n 0, 1) := by decide +kernel
theorem d_B_take_25 : decode b_B_take 25 = .ok (.getfield 27, 3) := by decide +kernel
theorem d_B_take_28 : decode b_B_take 28 = .ok (.iload_n 2, 1) := by decide +kernel
theorem d_B_take_29 : decode b_B_take 29 = .ok (.iastore, 1) := by decide +kernel
theorem d_B_take_30 : decode b_B_take 30 = .ok (.aload_n 0, 1) := by decide +kernel
theorem d_B_take_31 : decode b_B_take 31 = .ok (.getfield 19, 3) := by decide +kernel
theorem d_B_take_34 : decode b_B_take 34 = .ok (.aload_n 0, 1) := by decide +kernel
theorem d_B_take_35 : decode b_B_take 35 = .ok (.getfield 27, 3) := by decide +kernel
theorem d_B_take_38 : decode b_B_take 38 = .ok (.lload_n 3, 1) := by decide +kernel
theorem d_B_take_39 : decode b_B_take 39 = .ok (.lastore, 1) := by decide +kernel
theorem d_B_take_40 : decode b_B_take 40 = .ok (.aload_n 0, 1) := by decide +kernel
theorem d_B_take_41 : decode b_B_take 41 = .ok (.dup, 1) := by decide +kernel
theorem d_B_take_42 : decode b_B_take 42 = .ok (.getfield 27, 3) := by decide +kernel
theorem d_B_take_45 : decode b_B_take 45 = .ok (.iconst 1, 1) := by decide +kernel
theorem d_B_take_46 : decode b_B_take 46 = .ok (.iadd, 1) := by decide +kernel
theorem d_B_take_47 : decode b_B_take 47 = .ok (.putfield 27, 3) := by decide +kernel
theorem d_B_take_50 : decode b_B_take 50 = .ok (.iconst 3, 1) := by decide +kernel
theorem d_B_take_51 : decode b_B_take 51 = .ok (.ireturn, 1) := by decide +kernel
theorem d_B_begin_0 : decode b_B_begin 0 = .ok (.aload_n 0, 1) := by decide +kernel
theorem d_B_begin_1 : decode b_B_begin 1 = .ok (.iconst 1, 1) := by decide +kernel
theorem d_B_begin_2 : decode b_B_begin 2 = .ok (.putfield 23, 3) := by decide +kernel
theorem d_B_begin_5 : decode b_B_begin 5 = .ok (.aload_n 0, 1) := by decide +kernel
theorem d_B_begin_6 : decode b_B_begin 6 = .ok (.iconst 0, 1) := by decide +kernel
theorem d_B_begin_7 : decode b_B_begin 7 = .ok (.putfield 27, 3) := by decide +kernel
theorem d_B_begin_10 : decode b_B_begin 10 = .ok (.return_, 1) := by decide +kernel
theorem d_B_end_0 : decode b_B_end 0 = .ok (.aload_n 0, 1) := by decide +kernel
theorem d_B_end_1 : decode b_B_end 1 = .ok (.iconst 0, 1) := by decide +kernel
theorem d_B_end_2 : decode b_B_end 2 = .ok (.putfield 23, 3) := by decide +kernel
theorem d_B_end_5 : decode b_B_end 5 = .ok (.aload_n 0, 1) := by decide +kernel
theorem d_B_end_6 : decode b_B_end 6 = .ok (.iconst 0, 1) := by decide +kernel
theorem d_B_end_7 : decode b_B_end 7 = .ok (.putfield 27, 3) := by decide +kernel
theorem d_B_end_10 : decode b_B_end 10 = .ok (.return_, 1) := by decide +kernel
theorem d_M_init_0 : decode b_M_init 0 = .ok (.aload_n 0, 1) := by decide +kernel
theorem d_M_init_1 : decode b_M_init 1 = .ok (.invokespecial 1, 3) := by decide +kernel
theorem d_M_init_4 : decode b_M_init 4 = .ok (.aload_n 0, 1) := by decide +kernel
theorem d_M_init_5 : decode b_M_init 5 = .ok (.bipush 60, 2) := by decide +kernel
theorem d_M_init_7 : decode b_M_init 7 = .ok (.newarray .int, 2) := by decide +kernel
theorem d_M_init_9 : decode b_M_init 9 = .ok (.putfield 7, 3) := by decide +kernel
theorem d_M_init_12 : decode b_M_init 12 = .ok (.aload_n 0, 1) := by decide +kernel
theorem d_M_init_13 : decode b_M_init 13 = .ok (.bipush 60, 2) := by decide +kernel
theorem d_M_init_15 : decode b_M_init 15 = .ok (.newarray .long, 2) := by decide +kernel
theorem d_M_init_17 : decode b_M_init 17 = .ok (.putfield 13, 3) := by decide +kernel
theorem d_M_init_20 : decode b_M_init 20 = .ok (.aload_n 0, 1) := by decide +kernel
theorem d_M_init_21 : decode b_M_init 21 = .ok (.bipush 70, 2) := by decide +kernel
theorem d_M_init_23 : decode b_M_init 23 = .ok (.newarray .int, 2) := by decide +kernel
theorem d_M_init_25 : decode b_M_init 25 = .ok (.putfield 17, 3) := by decide +kernel
theorem d_M_init_28 : decode b_M_init 28 = .ok (.aload_n 0, 1) := by decide +kernel
theorem d_M_init_29 : decode b_M_init 29 = .ok (.bipush 70, 2) := by decide +kernel
theorem d_M_init_31 : decode b_M_init 31 = .ok (.newarray .int, 2) := by decide +kernel
theorem d_M_init_33 : decode b_M_init 33 = .ok (.putfield 20, 3) := by decide +kernel
theorem d_M_init_36 : decode b_M_init 36 = .ok (.aload_n 0, 1) := by decide +kernel
theorem d_M_init_37 : decode b_M_init 37 = .ok (.bipush 70, 2) := by decide +kernel
theorem d_M_init_39 : decode b_M_init 39 = .ok (.newarray .long, 2) := by decide +kernel
theorem d_M_init_41 : decode b_M_init 41 = .ok (.putfield 23, 3) := by decide +kernel
end
section
/-! Decode rows. -/
theorem d_M_init_44 : decode b_M_init 44 = .ok (.aload_n 0, 1) := by decide +kernel
theorem d_M_init_45 : decode b_M_init 45 = .ok (.bipush 70, 2) := by decide +kernel
theorem d_M_init_47 : decode b_M_init 47 = .ok (.newarray .int, 2) := by decide +kernel
theorem d_M_init_49 : decode b_M_init 49 = .ok (.putfield 26, 3) := by decide +kernel
theorem d_M_init_52 : decode b_M_init 52 = .ok (.aload_n 0, 1) := by decide +kernel
theorem d_M_init_53 : decode b_M_init 53 = .ok (.iconst 5, 1) := by decide +kernel
theorem d_M_init_54 : decode b_M_init 54 = .ok (.newarray .int, 2) := by decide +kernel
theorem d_M_init_56 : decode b_M_init 56 = .ok (.putfield 29, 3) := by decide +kernel
theorem d_M_init_59 : decode b_M_init 59 = .ok (.aload_n 0, 1) := by decide +kernel
theorem d_M_init_60 : decode b_M_init 60 = .ok (.iconst 5, 1) := by decide +kernel
theorem d_M_init_61 : decode b_M_init 61 = .ok (.newarray .int, 2) := by decide +kernel
theorem d_M_init_63 : decode b_M_init 63 = .ok (.putfield 32, 3) := by decide +kernel
theorem d_M_init_66 : decode b_M_init 66 = .ok (.aload_n 0, 1) := by decide +kernel
theorem d_M_init_67 : decode b_M_init 67 = .ok (.iconst 5, 1) := by decide +kernel
theorem d_M_init_68 : decode b_M_init 68 = .ok (.newarray .long, 2) := by decide +kernel
theorem d_M_init_70 : decode b_M_init 70 = .ok (.putfield 35, 3) := by decide +kernel
theorem d_M_init_73 : decode b_M_init 73 = .ok (.aload_n 0, 1) := by decide +kernel
theorem d_M_init_74 : decode b_M_init 74 = .ok (.bipush 66, 2) := by decide +kernel
theorem d_M_init_76 : decode b_M_init 76 = .ok (.newarray .int, 2) := by decide +kernel
theorem d_M_init_78 : decode b_M_init 78 = .ok (.putfield 38, 3) := by decide +kernel
theorem d_M_init_81 : decode b_M_init 81 = .ok (.aload_n 0, 1) := by decide +kernel
theorem d_M_init_82 : decode b_M_init 82 = .ok (.bipush 66, 2) := by decide +kernel
theorem d_M_init_84 : decode b_M_init 84 = .ok (.newarray .long, 2) := by decide +kernel
theorem d_M_init_86 : decode b_M_init 86 = .ok (.putfield 41, 3) := by decide +kernel
theorem d_M_init_89 : decode b_M_init 89 = .ok (.aload_n 0, 1) := by decide +kernel
theorem d_M_init_90 : decode b_M_init 90 = .ok (.iload_n 1, 1) := by decide +kernel
theorem d_M_init_91 : decode b_M_init 91 = .ok (.bipush 8, 2) := by decide +kernel
theorem d_M_init_93 : decode b_M_init 93 = .ok (.if_icmp .ge 8, 3) := by decide +kernel
theorem d_M_init_96 : decode b_M_init 96 = .ok (.bipush 8, 2) := by decide +kernel
theorem d_M_init_98 : decode b_M_init 98 = .ok (.goto 17, 3) := by decide +kernel
theorem d_M_init_101 : decode b_M_init 101 = .ok (.iload_n 1, 1) := by decide +kernel
theorem d_M_init_102 : decode b_M_init 102 = .ok (.sipush 200, 3) := by decide +kernel
theorem d_M_init_105 : decode b_M_init 105 = .ok (.if_icmp .le 9, 3) := by decide +kernel
theorem d_M_init_108 : decode b_M_init 108 = .ok (.sipush 200, 3) := by decide +kernel
theorem d_M_init_111 : decode b_M_init 111 = .ok (.goto 4, 3) := by decide +kernel
theorem d_M_init_114 : decode b_M_init 114 = .ok (.iload_n 1, 1) := by decide +kernel
theorem d_M_init_115 : decode b_M_init 115 = .ok (.putfield 44, 3) := by decide +kernel
theorem d_M_init_118 : decode b_M_init 118 = .ok (.return_, 1) := by decide +kernel
theorem d_M_put_0 : decode b_M_put 0 = .ok (.aload_n 0, 1) := by decide +kernel
theorem d_M_put_1 : decode b_M_put 1 = .ok (.getfield 113, 3) := by decide +kernel
theorem d_M_put_4 : decode b_M_put 4 = .ok (.ifCond .eq 11, 3) := by decide +kernel
theorem d_M_put_7 : decode b_M_put 7 = .ok (.aload_n 0, 1) := by decide +kernel
theorem d_M_put_8 : decode b_M_put 8 = .ok (.iconst 0, 1) := by decide +kernel
theorem d_M_put_9 : decode b_M_put 9 = .ok (.iload_n 1, 1) := by decide +kernel
theorem d_M_put_10 : decode b_M_put 10 = .ok (.lload_n 2, 1) := by decide +kernel
theorem d_M_put_11 : decode b_M_put 11 = .ok (.invokevirtual 117, 3) := by decide +kernel
theorem d_M_put_14 : decode b_M_put 14 = .ok (.ireturn, 1) := by decide +kernel
theorem d_M_put_15 : decode b_M_put 15 = .ok (.aload_n 0, 1) := by decide +kernel
theorem d_M_put_16 : decode b_M_put 16 = .ok (.iload_n 1, 1) := by decide +kernel
theorem d_M_put_17 : decode b_M_put 17 = .ok (.invokevirtual 121, 3) := by decide +kernel
theorem d_M_put_20 : decode b_M_put 20 = .ok (.istore 4, 2) := by decide +kernel
theorem d_M_put_22 : decode b_M_put 22 = .ok (.aload_n 0, 1) := by decide +kernel
theorem d_M_put_23 : decode b_M_put 23 = .ok (.iconst 0, 1) := by decide +kernel
theorem d_M_put_24 : decode b_M_put 24 = .ok (.iload_n 1, 1) := by decide +kernel
theorem d_M_put_25 : decode b_M_put 25 = .ok (.lload_n 2, 1) := by decide +kernel
theorem d_M_put_26 : decode b_M_put 26 = .ok (.aload_n 0, 1) := by decide +kernel
theorem d_M_put_27 : decode b_M_put 27 = .ok (.getfield 66, 3) := by decide +kernel
theorem d_M_put_30 : decode b_M_put 30 = .ok (.invokevirtual 125, 3) := by decide +kernel
theorem d_M_put_33 : decode b_M_put 33 = .ok (.aload_n 0, 1) := by decide +kernel
theorem d_M_put_34 : decode b_M_put 34 = .ok (.aload_n 0, 1) := by decide +kernel
theorem d_M_put_35 : decode b_M_put 35 = .ok (.getfield 66, 3) := by decide +kernel
theorem d_M_put_38 : decode b_M_put 38 = .ok (.iconst 1, 1) := by decide +kernel
theorem d_M_put_39 : decode b_M_put 39 = .ok (.isub, 1) := by decide +kernel
theorem d_M_put_40 : decode b_M_put 40 = .ok (.invokevirtual 129, 3) := by decide +kernel
theorem d_M_put_43 : decode b_M_put 43 = .ok (.ifCond .ne 5, 3) := by decide +kernel
theorem d_M_put_46 : decode b_M_put 46 = .ok (.iconst 0, 1) := by decide +kernel
theorem d_M_put_47 : decode b_M_put 47 = .ok (.ireturn, 1) := by decide +kernel
theorem d_M_put_48 : decode b_M_put 48 = .ok (.iload 4, 2) := by decide +kernel
theorem d_M_put_50 : decode b_M_put 50 = .ok (.ifCond .eq 7, 3) := by decide +kernel
theorem d_M_put_53 : decode b_M_put 53 = .ok (.iconst 2, 1) := by decide +kernel
theorem d_M_put_54 : decode b_M_put 54 = .ok (.goto 4, 3) := by decide +kernel
theorem d_M_put_57 : decode b_M_put 57 = .ok (.iconst 1, 1) := by decide +kernel
theorem d_M_put_58 : decode b_M_put 58 = .ok (.ireturn, 1) := by decide +kernel
theorem d_M_step_0 : decode b_M_step 0 = .ok (.aload_n 0, 1) := by decide +kernel
theorem d_M_step_1 : decode b_M_step 1 = .ok (.getfield 110, 3) := by decide +kernel
theorem d_M_step_4 : decode b_M_step 4 = .ok (.iconst 5, 1) := by decide +kernel
theorem d_M_step_5 : decode b_M_step 5 = .ok (.if_icmp .lt 5, 3) := by decide +kernel
theorem d_M_step_8 : decode b_M_step 8 = .ok (.iconst 0, 1) := by decide +kernel
theorem d_M_step_9 : decode b_M_step 9 = .ok (.ireturn, 1) := by decide +kernel
theorem d_M_step_10 : decode b_M_step 10 = .ok (.aload_n 0, 1) := by decide +kernel
theorem d_M_step_11 : decode b_M_step 11 = .ok (.getfield 29, 3) := by decide +kernel
theorem d_M_step_14 : decode b_M_step 14 = .ok (.aload_n 0, 1) := by decide +kernel
theorem d_M_step_15 : decode b_M_step 15 = .ok (.getfield 110, 3) := by decide +kernel
theorem d_M_step_18 : decode b_M_step 18 = .ok (.iload_n 1, 1) := by decide +kernel
theorem d_M_step_19 : decode b_M_step 19 = .ok (.iastore, 1) := by decide +kernel
theorem d_M_step_20 : decode b_M_step 20 = .ok (.aload_n 0, 1) := by decide +kernel
theorem d_M_step_21 : decode b_M_step 21 = .ok (.getfield 32, 3) := by decide +kernel
theorem d_M_step_24 : decode b_M_step 24 = .ok (.aload_n 0, 1) := by decide +kernel
theorem d_M_step_25 : decode b_M_step 25 = .ok (.getfield 110, 3) := by decide +kernel
theorem d_M_step_28 : decode b_M_step 28 = .ok (.iload_n 2, 1) := by decide +kernel
theorem d_M_step_29 : decode b_M_step 29 = .ok (.iastore, 1) := by decide +kernel
theorem d_M_step_30 : decode b_M_step 30 = .ok (.aload_n 0, 1) := by decide +kernel
theorem d_M_step_31 : decode b_M_step 31 = .ok (.getfield 35, 3) := by decide +kernel
theorem d_M_step_34 : decode b_M_step 34 = .ok (.aload_n 0, 1) := by decide +kernel
theorem d_M_step_35 : decode b_M_step 35 = .ok (.getfield 110, 3) := by decide +kernel
theorem d_M_step_38 : decode b_M_step 38 = .ok (.lload_n 3, 1) := by decide +kernel
theorem d_M_step_39 : decode b_M_step 39 = .ok (.lastore, 1) := by decide +kernel
theorem d_M_step_40 : decode b_M_step 40 = .ok (.aload_n 0, 1) := by decide +kernel
theorem d_M_step_41 : decode b_M_step 41 = .ok (.aload_n 0, 1) := by decide +kernel
theorem d_M_step_42 : decode b_M_step 42 = .ok (.getfield 110, 3) := by decide +kernel
theorem d_M_step_45 : decode b_M_step 45 = .ok (.iconst 1, 1) := by decide +kernel
theorem d_M_step_46 : decode b_M_step 46 = .ok (.iadd, 1) := by decide +kernel
theorem d_M_step_47 : decode b_M_step 47 = .ok (.putfield 110, 3) := by decide +kernel
theorem d_M_step_50 : decode b_M_step 50 = .ok (.iconst 3, 1) := by decide +kernel
theorem d_M_step_51 : decode b_M_step 51 = .ok (.ireturn, 1) := by decide +kernel
theorem d_M_has_0 : decode b_M_has 0 = .ok (.aload_n 0, 1) := by decide +kernel
theorem d_M_has_1 : decode b_M_has 1 = .ok (.invokevirtual 72, 3) := by decide +kernel
theorem d_M_has_4 : decode b_M_has 4 = .ok (.aload_n 0, 1) := by decide +kernel
theorem d_M_has_5 : decode b_M_has 5 = .ok (.iload_n 1, 1) := by decide +kernel
theorem d_M_has_6 : decode b_M_has 6 = .ok (.invokevirtual 51, 3) := by decide +kernel
theorem d_M_has_9 : decode b_M_has 9 = .ok (.ifCond .lt 7, 3) := by decide +kernel
theorem d_M_has_12 : decode b_M_has 12 = .ok (.iconst 1, 1) := by decide +kernel
theorem d_M_has_13 : decode b_M_has 13 = .ok (.goto 4, 3) := by decide +kernel
theorem d_M_has_16 : decode b_M_has 16 = .ok (.iconst 0, 1) := by decide +kernel
theorem d_M_has_17 : decode b_M_has 17 = .ok (.ireturn, 1) := by decide +kernel
theorem d_M_now_0 : decode b_M_now 0 = .ok (.aload_n 0, 1) := by decide +kernel
theorem d_M_now_1 : decode b_M_now 1 = .ok (.aload_n 0, 1) := by decide +kernel
theorem d_M_now_2 : decode b_M_now 2 = .ok (.getfield 66, 3) := by decide +kernel
theorem d_M_now_5 : decode b_M_now 5 = .ok (.invokevirtual 69, 3) := by decide +kernel
theorem d_M_now_8 : decode b_M_now 8 = .ok (.return_, 1) := by decide +kernel
theorem d_M_replay_0 : decode b_M_replay 0 = .ok (.aload_n 0, 1) := by decide +kernel
theorem d_M_replay_1 : decode b_M_replay 1 = .ok (.aload_n 0, 1) := by decide +kernel
theorem d_M_replay_2 : decode b_M_replay 2 = .ok (.getfield 55, 3) := by decide +kernel
theorem d_M_replay_5 : decode b_M_replay 5 = .ok (.putfield 48, 3) := by decide +kernel
theorem d_M_replay_8 : decode b_M_replay 8 = .ok (.iconst 0, 1) := by decide +kernel
theorem d_M_replay_9 : decode b_M_replay 9 = .ok (.istore_n 2, 1) := by decide +kernel
theorem d_M_replay_10 : decode b_M_replay 10 = .ok (.iload_n 2, 1) := by decide +kernel
theorem d_M_replay_11 : decode b_M_replay 11 = .ok (.aload_n 0, 1) := by decide +kernel
theorem d_M_replay_12 : decode b_M_replay 12 = .ok (.getfield 55, 3) := by decide +kernel
theorem d_M_replay_15 : decode b_M_replay 15 = .ok (.if_icmp .ge 33, 3) := by decide +kernel
theorem d_M_replay_18 : decode b_M_replay 18 = .ok (.aload_n 0, 1) := by decide +kernel
theorem d_M_replay_19 : decode b_M_replay 19 = .ok (.getfield 38, 3) := by decide +kernel
theorem d_M_replay_22 : decode b_M_replay 22 = .ok (.iload_n 2, 1) := by decide +kernel
theorem d_M_replay_23 : decode b_M_replay 23 = .ok (.aload_n 0, 1) := by decide +kernel
theorem d_M_replay_24 : decode b_M_replay 24 = .ok (.getfield 7, 3) := by decide +kernel
theorem d_M_replay_27 : decode b_M_replay 27 = .ok (.iload_n 2, 1) := by decide +kernel
theorem d_M_replay_28 : decode b_M_replay 28 = .ok (.iaload, 1) := by decide +kernel
theorem d_M_replay_29 : decode b_M_replay 29 = .ok (.iastore, 1) := by decide +kernel
theorem d_M_replay_30 : decode b_M_replay 30 = .ok (.aload_n 0, 1) := by decide +kernel
theorem d_M_replay_31 : decode b_M_replay 31 = .ok (.getfield 41, 3) := by decide +kernel
theorem d_M_replay_34 : decode b_M_replay 34 = .ok (.iload_n 2, 1) := by decide +kernel
theorem d_M_replay_35 : decode b_M_replay 35 = .ok (.aload_n 0, 1) := by decide +kernel
theorem d_M_replay_36 : decode b_M_replay 36 = .ok (.getfield 13, 3) := by decide +kernel
theorem d_M_replay_39 : decode b_M_replay 39 = .ok (.iload_n 2, 1) := by decide +kernel
theorem d_M_replay_40 : decode b_M_replay 40 = .ok (.laload, 1) := by decide +kernel
theorem d_M_replay_41 : decode b_M_replay 41 = .ok (.lastore, 1) := by decide +kernel
theorem d_M_replay_42 : decode b_M_replay 42 = .ok (.iinc 2 1, 3) := by decide +kernel
theorem d_M_replay_45 : decode b_M_replay 45 = .ok (.goto (-35), 3) := by decide +kernel
theorem d_M_replay_48 : decode b_M_replay 48 = .ok (.iconst 0, 1) := by decide +kernel
theorem d_M_replay_49 : decode b_M_replay 49 = .ok (.istore_n 2, 1) := by decide +kernel
theorem d_M_replay_50 : decode b_M_replay 50 = .ok (.iload_n 2, 1) := by decide +kernel
theorem d_M_replay_51 : decode b_M_replay 51 = .ok (.iload_n 1, 1) := by decide +kernel
theorem d_M_replay_52 : decode b_M_replay 52 = .ok (.if_icmp .ge 57, 3) := by decide +kernel
theorem d_M_replay_55 : decode b_M_replay 55 = .ok (.aload_n 0, 1) := by decide +kernel
theorem d_M_replay_56 : decode b_M_replay 56 = .ok (.getfield 17, 3) := by decide +kernel
theorem d_M_replay_59 : decode b_M_replay 59 = .ok (.iload_n 2, 1) := by decide +kernel
theorem d_M_replay_60 : decode b_M_replay 60 = .ok (.iaload, 1) := by decide +kernel
theorem d_M_replay_61 : decode b_M_replay 61 = .ok (.ifCond .ne 22, 3) := by decide +kernel
theorem d_M_replay_64 : decode b_M_replay 64 = .ok (.aload_n 0, 1) := by decide +kernel
theorem d_M_replay_65 : decode b_M_replay 65 = .ok (.aload_n 0, 1) := by decide +kernel
theorem d_M_replay_66 : decode b_M_replay 66 = .ok (.getfield 20, 3) := by decide +kernel
theorem d_M_replay_69 : decode b_M_replay 69 = .ok (.iload_n 2, 1) := by decide +kernel
theorem d_M_replay_70 : decode b_M_replay 70 = .ok (.iaload, 1) := by decide +kernel
theorem d_M_replay_71 : decode b_M_replay 71 = .ok (.aload_n 0, 1) := by decide +kernel
theorem d_M_replay_72 : decode b_M_replay 72 = .ok (.getfield 23, 3) := by decide +kernel
theorem d_M_replay_75 : decode b_M_replay 75 = .ok (.iload_n 2, 1) := by decide +kernel
theorem d_M_replay_76 : decode b_M_replay 76 = .ok (.laload, 1) := by decide +kernel
theorem d_M_replay_77 : decode b_M_replay 77 = .ok (.invokevirtual 58, 3) := by decide +kernel
theorem d_M_replay_80 : decode b_M_replay 80 = .ok (.goto 23, 3) := by decide +kernel
theorem d_M_replay_83 : decode b_M_replay 83 = .ok (.aload_n 0, 1) := by decide +kernel
theorem d_M_replay_84 : decode b_M_replay 84 = .ok (.getfield 17, 3) := by decide +kernel
theorem d_M_replay_87 : decode b_M_replay 87 = .ok (.iload_n 2, 1) := by decide +kernel
theorem d_M_replay_88 : decode b_M_replay 88 = .ok (.iaload, 1) := by decide +kernel
theorem d_M_replay_89 : decode b_M_replay 89 = .ok (.iconst 1, 1) := by decide +kernel
theorem d_M_replay_90 : decode b_M_replay 90 = .ok (.if_icmp .ne 13, 3) := by decide +kernel
theorem d_M_replay_93 : decode b_M_replay 93 = .ok (.aload_n 0, 1) := by decide +kernel
theorem d_M_replay_94 : decode b_M_replay 94 = .ok (.aload_n 0, 1) := by decide +kernel
theorem d_M_replay_95 : decode b_M_replay 95 = .ok (.getfield 20, 3) := by decide +kernel
theorem d_M_replay_98 : decode b_M_replay 98 = .ok (.iload_n 2, 1) := by decide +kernel
theorem d_M_replay_99 : decode b_M_replay 99 = .ok (.iaload, 1) := by decide +kernel
theorem d_M_replay_100 : decode b_M_replay 100 = .ok (.invokevirtual 62, 3) := by decide +kernel
theorem d_M_replay_103 : decode b_M_replay 103 = .ok (.iinc 2 1, 3) := by decide +kernel
theorem d_M_replay_106 : decode b_M_replay 106 = .ok (.goto (-56), 3) := by decide +kernel
theorem d_M_replay_109 : decode b_M_replay 109 = .ok (.return_, 1) := by decide +kernel
theorem d_M_set_0 : decode b_M_set 0 = .ok (.aload_n 0, 1) := by decide +kernel
theorem d_M_set_1 : decode b_M_set 1 = .ok (.iload_n 1, 1) := by decide +kernel
theorem d_M_set_2 : decode b_M_set 2 = .ok (.invokevirtual 51, 3) := by decide +kernel
theorem d_M_set_5 : decode b_M_set 5 = .ok (.istore 4, 2) := by decide +kernel
theorem d_M_set_7 : decode b_M_set 7 = .ok (.iload 4, 2) := by decide +kernel
theorem d_M_set_9 : decode b_M_set 9 = .ok (.ifCond .lt 12, 3) := by decide +kernel
theorem d_M_set_12 : decode b_M_set 12 = .ok (.aload_n 0, 1) := by decide +kernel
theorem d_M_set_13 : decode b_M_set 13 = .ok (.getfield 41, 3) := by decide +kernel
theorem d_M_set_16 : decode b_M_set 16 = .ok (.iload 4, 2) := by decide +kernel
theorem d_M_set_18 : decode b_M_set 18 = .ok (.lload_n 2, 1) := by decide +kernel
theorem d_M_set_19 : decode b_M_set 19 = .ok (.lastore, 1) := by decide +kernel
theorem d_M_set_20 : decode b_M_set 20 = .ok (.return_, 1) := by decide +kernel
theorem d_M_set_21 : decode b_M_set 21 = .ok (.iconst 0, 1) := by decide +kernel
theorem d_M_set_22 : decode b_M_set 22 = .ok (.istore 5, 2) := by decide +kernel
theorem d_M_set_24 : decode b_M_set 24 = .ok (.iconst 0, 1) := by decide +kernel
theorem d_M_set_25 : decode b_M_set 25 = .ok (.istore 6, 2) := by decide +kernel
theorem d_M_set_27 : decode b_M_set 27 = .ok (.iload 6, 2) := by decide +kernel
theorem d_M_set_29 : decode b_M_set 29 = .ok (.aload_n 0, 1) := by decide +kernel
theorem d_M_set_30 : decode b_M_set 30 = .ok (.getfield 48, 3) := by decide +kernel
theorem d_M_set_33 : decode b_M_set 33 = .ok (.if_icmp .ge 31, 3) := by decide +kernel
theorem d_M_set_36 : decode b_M_set 36 = .ok (.aload_n 0, 1) := by decide +kernel
theorem d_M_set_37 : decode b_M_set 37 = .ok (.getfield 38, 3) := by decide +kernel
theorem d_M_set_40 : decode b_M_set 40 = .ok (.iload 6, 2) := by decide +kernel
theorem d_M_set_42 : decode b_M_set 42 = .ok (.iaload, 1) := by decide +kernel
theorem d_M_set_43 : decode b_M_set 43 = .ok (.iload_n 1, 1) := by decide +kernel
theorem d_M_set_44 : decode b_M_set 44 = .ok (.if_icmp .ge 10, 3) := by decide +kernel
theorem d_M_set_47 : decode b_M_set 47 = .ok (.iload 6, 2) := by decide +kernel
theorem d_M_set_49 : decode b_M_set 49 = .ok (.iconst 1, 1) := by decide +kernel
theorem d_M_set_50 : decode b_M_set 50 = .ok (.iadd, 1) := by decide +kernel
theorem d_M_set_51 : decode b_M_set 51 = .ok (.goto 5, 3) := by decide +kernel
theorem d_M_set_54 : decode b_M_set 54 = .ok (.iload 5, 2) := by decide +kernel
theorem d_M_set_56 : decode b_M_set 56 = .ok (.istore 5, 2) := by decide +kernel
theorem d_M_set_58 : decode b_M_set 58 = .ok (.iinc 6 1, 3) := by decide +kernel
theorem d_M_set_61 : decode b_M_set 61 = .ok (.goto (-34), 3) := by decide +kernel
theorem d_M_set_64 : decode b_M_set 64 = .ok (.aload_n 0, 1) := by decide +kernel
theorem d_M_set_65 : decode b_M_set 65 = .ok (.getfield 48, 3) := by decide +kernel
theorem d_M_set_68 : decode b_M_set 68 = .ok (.istore 6, 2) := by decide +kernel
theorem d_M_set_70 : decode b_M_set 70 = .ok (.iload 6, 2) := by decide +kernel
theorem d_M_set_72 : decode b_M_set 72 = .ok (.iload 5, 2) := by decide +kernel
theorem d_M_set_74 : decode b_M_set 74 = .ok (.if_icmp .le 41, 3) := by decide +kernel
theorem d_M_set_77 : decode b_M_set 77 = .ok (.aload_n 0, 1) := by decide +kernel
theorem d_M_set_78 : decode b_M_set 78 = .ok (.getfield 38, 3) := by decide +kernel
theorem d_M_set_81 : decode b_M_set 81 = .ok (.iload 6, 2) := by decide +kernel
theorem d_M_set_83 : decode b_M_set 83 = .ok (.aload_n 0, 1) := by decide +kernel
theorem d_M_set_84 : decode b_M_set 84 = .ok (.getfield 38, 3) := by decide +kernel
theorem d_M_set_87 : decode b_M_set 87 = .ok (.iload 6, 2) := by decide +kernel
theorem d_M_set_89 : decode b_M_set 89 = .ok (.iconst 1, 1) := by decide +kernel
theorem d_M_set_90 : decode b_M_set 90 = .ok (.isub, 1) := by decide +kernel
theorem d_M_set_91 : decode b_M_set 91 = .ok (.iaload, 1) := by decide +kernel
theorem d_M_set_92 : decode b_M_set 92 = .ok (.iastore, 1) := by decide +kernel
theorem d_M_set_93 : decode b_M_set 93 = .ok (.aload_n 0, 1) := by decide +kernel
theorem d_M_set_94 : decode b_M_set 94 = .ok (.getfield 41, 3) := by decide +kernel
theorem d_M_set_97 : decode b_M_set 97 = .ok (.iload 6, 2) := by decide +kernel
theorem d_M_set_99 : decode b_M_set 99 = .ok (.aload_n 0, 1) := by decide +kernel
theorem d_M_set_100 : decode b_M_set 100 = .ok (.getfield 41, 3) := by decide +kernel
theorem d_M_set_103 : decode b_M_set 103 = .ok (.iload 6, 2) := by decide +kernel
theorem d_M_set_105 : decode b_M_set 105 = .ok (.iconst 1, 1) := by decide +kernel
theorem d_M_set_106 : decode b_M_set 106 = .ok (.isub, 1) := by decide +kernel
theorem d_M_set_107 : decode b_M_set 107 = .ok (.laload, 1) := by decide +kernel
theorem d_M_set_108 : decode b_M_set 108 = .ok (.lastore, 1) := by decide +kernel
theorem d_M_set_109 : decode b_M_set 109 = .ok (.iinc 6 (-1), 3) := by decide +kernel
theorem d_M_set_112 : decode b_M_set 112 = .ok (.goto (-42), 3) := by decide +kernel
theorem d_M_set_115 : decode b_M_set 115 = .ok (.aload_n 0, 1) := by decide +kernel
theorem d_M_set_116 : decode b_M_set 116 = .ok (.getfield 38, 3) := by decide +kernel
theorem d_M_set_119 : decode b_M_set 119 = .ok (.iload 5, 2) := by decide +kernel
theorem d_M_set_121 : decode b_M_set 121 = .ok (.iload_n 1, 1) := by decide +kernel
theorem d_M_set_122 : decode b_M_set 122 = .ok (.iastore, 1) := by decide +kernel
theorem d_M_set_123 : decode b_M_set 123 = .ok (.aload_n 0, 1) := by decide +kernel
theorem d_M_set_124 : decode b_M_set 124 = .ok (.getfield 41, 3) := by decide +kernel
theorem d_M_set_127 : decode b_M_set 127 = .ok (.iload 5, 2) := by decide +kernel
theorem d_M_set_129 : decode b_M_set 129 = .ok (.lload_n 2, 1) := by decide +kernel
theorem d_M_set_130 : decode b_M_set 130 = .ok (.lastore, 1) := by decide +kernel
theorem d_M_set_131 : decode b_M_set 131 = .ok (.aload_n 0, 1) := by decide +kernel
theorem d_M_set_132 : decode b_M_set 132 = .ok (.aload_n 0, 1) := by decide +kernel
theorem d_M_set_133 : decode b_M_set 133 = .ok (.getfield 48, 3) := by decide +kernel
theorem d_M_set_136 : decode b_M_set 136 = .ok (.iconst 1, 1) := by decide +kernel
theorem d_M_set_137 : decode b_M_set 137 = .ok (.iadd, 1) := by decide +kernel
theorem d_M_set_138 : decode b_M_set 138 = .ok (.putfield 48, 3) := by decide +kernel
theorem d_M_set_141 : decode b_M_set 141 = .ok (.return_, 1) := by decide +kernel
theorem d_M_find_0 : decode b_M_find 0 = .ok (.iconst (-1), 1) := by decide +kernel
theorem d_M_find_1 : decode b_M_find 1 = .ok (.istore_n 2, 1) := by decide +kernel
theorem d_M_find_2 : decode b_M_find 2 = .ok (.iconst 0, 1) := by decide +kernel
theorem d_M_find_3 : decode b_M_find 3 = .ok (.istore_n 3, 1) := by decide +kernel
theorem d_M_find_4 : decode b_M_find 4 = .ok (.iload_n 3, 1) := by decide +kernel
theorem d_M_find_5 : decode b_M_find 5 = .ok (.aload_n 0, 1) := by decide +kernel
theorem d_M_find_6 : decode b_M_find 6 = .ok (.getfield 48, 3) := by decide +kernel
theorem d_M_find_9 : decode b_M_find 9 = .ok (.if_icmp .ge 25, 3) := by decide +kernel
theorem d_M_find_12 : decode b_M_find 12 = .ok (.aload_n 0, 1) := by decide +kernel
theorem d_M_find_13 : decode b_M_find 13 = .ok (.getfield 38, 3) := by decide +kernel
theorem d_M_find_16 : decode b_M_find 16 = .ok (.iload_n 3, 1) := by decide +kernel
theorem d_M_find_17 : decode b_M_find 17 = .ok (.iaload, 1) := by decide +kernel
theorem d_M_find_18 : decode b_M_find 18 = .ok (.iload_n 1, 1) := by decide +kernel
theorem d_M_find_19 : decode b_M_find 19 = .ok (.if_icmp .ne 7, 3) := by decide +kernel
theorem d_M_find_22 : decode b_M_find 22 = .ok (.iload_n 3, 1) := by decide +kernel
theorem d_M_find_23 : decode b_M_find 23 = .ok (.goto 4, 3) := by decide +kernel
theorem d_M_find_26 : decode b_M_find 26 = .ok (.iload_n 2, 1) := by decide +kernel
theorem d_M_find_27 : decode b_M_find 27 = .ok (.istore_n 2, 1) := by decide +kernel
theorem d_M_find_28 : decode b_M_find 28 = .ok (.iinc 3 1, 3) := by decide +kernel
theorem d_M_find_31 : decode b_M_find 31 = .ok (.goto (-27), 3) := by decide +kernel
theorem d_M_find_34 : decode b_M_find 34 = .ok (.iload_n 2, 1) := by decide +kernel
theorem d_M_find_35 : decode b_M_find 35 = .ok (.ireturn, 1) := by decide +kernel
theorem d_M_remove_0 : decode b_M_remove 0 = .ok (.aload_n 0, 1) := by decide +kernel
theorem d_M_remove_1 : decode b_M_remove 1 = .ok (.iload_n 1, 1) := by decide +kernel
theorem d_M_remove_2 : decode b_M_remove 2 = .ok (.invokevirtual 51, 3) := by decide +kernel
theorem d_M_remove_5 : decode b_M_remove 5 = .ok (.istore_n 2, 1) := by decide +kernel
theorem d_M_remove_6 : decode b_M_remove 6 = .ok (.iload_n 2, 1) := by decide +kernel
theorem d_M_remove_7 : decode b_M_remove 7 = .ok (.ifCond .ge 4, 3) := by decide +kernel
theorem d_M_remove_10 : decode b_M_remove 10 = .ok (.return_, 1) := by decide +kernel
theorem d_M_remove_11 : decode b_M_remove 11 = .ok (.aload_n 0, 1) := by decide +kernel
theorem d_M_remove_12 : decode b_M_remove 12 = .ok (.aload_n 0, 1) := by decide +kernel
theorem d_M_remove_13 : decode b_M_remove 13 = .ok (.getfield 48, 3) := by decide +kernel
theorem d_M_remove_16 : decode b_M_remove 16 = .ok (.iconst 1, 1) := by decide +kernel
theorem d_M_remove_17 : decode b_M_remove 17 = .ok (.isub, 1) := by decide +kernel
theorem d_M_remove_18 : decode b_M_remove 18 = .ok (.putfield 48, 3) := by decide +kernel
theorem d_M_remove_21 : decode b_M_remove 21 = .ok (.iload_n 2, 1) := by decide +kernel
theorem d_M_remove_22 : decode b_M_remove 22 = .ok (.istore_n 3, 1) := by decide +kernel
theorem d_M_remove_23 : decode b_M_remove 23 = .ok (.iload_n 3, 1) := by decide +kernel
theorem d_M_remove_24 : decode b_M_remove 24 = .ok (.aload_n 0, 1) := by decide +kernel
theorem d_M_remove_25 : decode b_M_remove 25 = .ok (.getfield 48, 3) := by decide +kernel
theorem d_M_remove_28 : decode b_M_remove 28 = .ok (.if_icmp .ge 37, 3) := by decide +kernel
theorem d_M_remove_31 : decode b_M_remove 31 = .ok (.aload_n 0, 1) := by decide +kernel
theorem d_M_remove_32 : decode b_M_remove 32 = .ok (.getfield 38, 3) := by decide +kernel
theorem d_M_remove_35 : decode b_M_remove 35 = .ok (.iload_n 3, 1) := by decide +kernel
theorem d_M_remove_36 : decode b_M_remove 36 = .ok (.aload_n 0, 1) := by decide +kernel
theorem d_M_remove_37 : decode b_M_remove 37 = .ok (.getfield 38, 3) := by decide +kernel
theorem d_M_remove_40 : decode b_M_remove 40 = .ok (.iload_n 3, 1) := by decide +kernel
theorem d_M_remove_41 : decode b_M_remove 41 = .ok (.iconst 1, 1) := by decide +kernel
theorem d_M_remove_42 : decode b_M_remove 42 = .ok (.iadd, 1) := by decide +kernel
theorem d_M_remove_43 : decode b_M_remove 43 = .ok (.iaload, 1) := by decide +kernel
theorem d_M_remove_44 : decode b_M_remove 44 = .ok (.iastore, 1) := by decide +kernel
theorem d_M_remove_45 : decode b_M_remove 45 = .ok (.aload_n 0, 1) := by decide +kernel
theorem d_M_remove_46 : decode b_M_remove 46 = .ok (.getfield 41, 3) := by decide +kernel
theorem d_M_remove_49 : decode b_M_remove 49 = .ok (.iload_n 3, 1) := by decide +kernel
theorem d_M_remove_50 : decode b_M_remove 50 = .ok (.aload_n 0, 1) := by decide +kernel
theorem d_M_remove_51 : decode b_M_remove 51 = .ok (.getfield 41, 3) := by decide +kernel
theorem d_M_remove_54 : decode b_M_remove 54 = .ok (.iload_n 3, 1) := by decide +kernel
theorem d_M_remove_55 : decode b_M_remove 55 = .ok (.iconst 1, 1) := by decide +kernel
theorem d_M_remove_56 : decode b_M_remove 56 = .ok (.iadd, 1) := by decide +kernel
theorem d_M_remove_57 : decode b_M_remove 57 = .ok (.laload, 1) := by decide +kernel
theorem d_M_remove_58 : decode b_M_remove 58 = .ok (.lastore, 1) := by decide +kernel
theorem d_M_remove_59 : decode b_M_remove 59 = .ok (.iinc 3 1, 3) := by decide +kernel
theorem d_M_remove_62 : decode b_M_remove 62 = .ok (.goto (-39), 3) := by decide +kernel
theorem d_M_remove_65 : decode b_M_remove 65 = .ok (.return_, 1) := by decide +kernel
theorem d_M_write_0 : decode b_M_write 0 = .ok (.aload_n 0, 1) := by decide +kernel
theorem d_M_write_1 : decode b_M_write 1 = .ok (.getfield 17, 3) := by decide +kernel
theorem d_M_write_4 : decode b_M_write 4 = .ok (.aload_n 0, 1) := by decide +kernel
theorem d_M_write_5 : decode b_M_write 5 = .ok (.getfield 66, 3) := by decide +kernel
theorem d_M_write_8 : decode b_M_write 8 = .ok (.iload_n 1, 1) := by decide +kernel
theorem d_M_write_9 : decode b_M_write 9 = .ok (.iastore, 1) := by decide +kernel
theorem d_M_write_10 : decode b_M_write 10 = .ok (.aload_n 0, 1) := by decide +kernel
theorem d_M_write_11 : decode b_M_write 11 = .ok (.getfield 20, 3) := by decide +kernel
theorem d_M_write_14 : decode b_M_write 14 = .ok (.aload_n 0, 1) := by decide +kernel
theorem d_M_write_15 : decode b_M_write 15 = .ok (.getfield 66, 3) := by decide +kernel
theorem d_M_write_18 : decode b_M_write 18 = .ok (.iload_n 2, 1) := by decide +kernel
theorem d_M_write_19 : decode b_M_write 19 = .ok (.iastore, 1) := by decide +kernel
theorem d_M_write_20 : decode b_M_write 20 = .ok (.aload_n 0, 1) := by decide +kernel
theorem d_M_write_21 : decode b_M_write 21 = .ok (.getfield 23, 3) := by decide +kernel
theorem d_M_write_24 : decode b_M_write 24 = .ok (.aload_n 0, 1) := by decide +kernel
theorem d_M_write_25 : decode b_M_write 25 = .ok (.getfield 66, 3) := by decide +kernel
theorem d_M_write_28 : decode b_M_write 28 = .ok (.lload_n 3, 1) := by decide +kernel
theorem d_M_write_29 : decode b_M_write 29 = .ok (.lastore, 1) := by decide +kernel
theorem d_M_write_30 : decode b_M_write 30 = .ok (.aload_n 0, 1) := by decide +kernel
theorem d_M_write_31 : decode b_M_write 31 = .ok (.getfield 26, 3) := by decide +kernel
theorem d_M_write_34 : decode b_M_write 34 = .ok (.aload_n 0, 1) := by decide +kernel
theorem d_M_write_35 : decode b_M_write 35 = .ok (.getfield 66, 3) := by decide +kernel
theorem d_M_write_38 : decode b_M_write 38 = .ok (.iload 5, 2) := by decide +kernel
theorem d_M_write_40 : decode b_M_write 40 = .ok (.iastore, 1) := by decide +kernel
theorem d_M_write_41 : decode b_M_write 41 = .ok (.aload_n 0, 1) := by decide +kernel
theorem d_M_write_42 : decode b_M_write 42 = .ok (.aload_n 0, 1) := by decide +kernel
theorem d_M_write_43 : decode b_M_write 43 = .ok (.getfield 66, 3) := by decide +kernel
theorem d_M_write_46 : decode b_M_write 46 = .ok (.iconst 1, 1) := by decide +kernel
theorem d_M_write_47 : decode b_M_write 47 = .ok (.iadd, 1) := by decide +kernel
theorem d_M_write_48 : decode b_M_write 48 = .ok (.putfield 66, 3) := by decide +kernel
theorem d_M_write_51 : decode b_M_write 51 = .ok (.return_, 1) := by decide +kernel
theorem d_M_stays_0 : decode b_M_stays 0 = .ok (.aload_n 0, 1) := by decide +kernel
theorem d_M_stays_1 : decode b_M_stays 1 = .ok (.invokevirtual 72, 3) := by decide +kernel
theorem d_M_stays_4 : decode b_M_stays 4 = .ok (.aload_n 0, 1) := by decide +kernel
theorem d_M_stays_5 : decode b_M_stays 5 = .ok (.getfield 48, 3) := by decide +kernel
theorem d_M_stays_8 : decode b_M_stays 8 = .ok (.bipush 60, 2) := by decide +kernel
theorem d_M_stays_10 : decode b_M_stays 10 = .ok (.if_icmp .gt 14, 3) := by decide +kernel
theorem d_M_stays_13 : decode b_M_stays 13 = .ok (.aload_n 0, 1) := by decide +kernel
theorem d_M_stays_14 : decode b_M_stays 14 = .ok (.invokevirtual 75, 3) := by decide +kernel
theorem d_M_stays_17 : decode b_M_stays 17 = .ok (.aload_n 0, 1) := by decide +kernel
theorem d_M_stays_18 : decode b_M_stays 18 = .ok (.getfield 44, 3) := by decide +kernel
theorem d_M_stays_21 : decode b_M_stays 21 = .ok (.if_icmp .le 10, 3) := by decide +kernel
theorem d_M_stays_24 : decode b_M_stays 24 = .ok (.aload_n 0, 1) := by decide +kernel
theorem d_M_stays_25 : decode b_M_stays 25 = .ok (.iload_n 1, 1) := by decide +kernel
theorem d_M_stays_26 : decode b_M_stays 26 = .ok (.putfield 66, 3) := by decide +kernel
theorem d_M_stays_29 : decode b_M_stays 29 = .ok (.iconst 0, 1) := by decide +kernel
theorem d_M_stays_30 : decode b_M_stays 30 = .ok (.ireturn, 1) := by decide +kernel
theorem d_M_stays_31 : decode b_M_stays 31 = .ok (.aload_n 0, 1) := by decide +kernel
theorem d_M_stays_32 : decode b_M_stays 32 = .ok (.getfield 66, 3) := by decide +kernel
theorem d_M_stays_35 : decode b_M_stays 35 = .ok (.bipush 64, 2) := by decide +kernel
theorem d_M_stays_37 : decode b_M_stays 37 = .ok (.if_icmp .le 8, 3) := by decide +kernel
theorem d_M_stays_40 : decode b_M_stays 40 = .ok (.aload_n 0, 1) := by decide +kernel
theorem d_M_stays_41 : decode b_M_stays 41 = .ok (.iload_n 1, 1) := by decide +kernel
theorem d_M_stays_42 : decode b_M_stays 42 = .ok (.invokevirtual 79, 3) := by decide +kernel
theorem d_M_stays_45 : decode b_M_stays 45 = .ok (.iconst 1, 1) := by decide +kernel
theorem d_M_stays_46 : decode b_M_stays 46 = .ok (.ireturn, 1) := by decide +kernel
theorem d_M_inUse_0 : decode b_M_inUse 0 = .ok (.iconst 1, 1) := by decide +kernel
theorem d_M_inUse_1 : decode b_M_inUse 1 = .ok (.aload_n 0, 1) := by decide +kernel
theorem d_M_inUse_2 : decode b_M_inUse 2 = .ok (.invokevirtual 100, 3) := by decide +kernel
theorem d_M_inUse_5 : decode b_M_inUse 5 = .ok (.ishl, 1) := by decide +kernel
theorem d_M_inUse_6 : decode b_M_inUse 6 = .ok (.istore_n 1, 1) := by decide +kernel
theorem d_M_inUse_7 : decode b_M_inUse 7 = .ok (.iconst 1, 1) := by decide +kernel
theorem d_M_inUse_8 : decode b_M_inUse 8 = .ok (.iload_n 1, 1) := by decide +kernel
theorem d_M_inUse_9 : decode b_M_inUse 9 = .ok (.bipush 15, 2) := by decide +kernel
theorem d_M_inUse_11 : decode b_M_inUse 11 = .ok (.iadd, 1) := by decide +kernel
theorem d_M_inUse_12 : decode b_M_inUse 12 = .ok (.bipush 16, 2) := by decide +kernel
theorem d_M_inUse_14 : decode b_M_inUse 14 = .ok (.idiv, 1) := by decide +kernel
theorem d_M_inUse_15 : decode b_M_inUse 15 = .ok (.iadd, 1) := by decide +kernel
theorem d_M_inUse_16 : decode b_M_inUse 16 = .ok (.istore_n 2, 1) := by decide +kernel
theorem d_M_inUse_17 : decode b_M_inUse 17 = .ok (.iconst 0, 1) := by decide +kernel
theorem d_M_inUse_18 : decode b_M_inUse 18 = .ok (.istore_n 3, 1) := by decide +kernel
theorem d_M_inUse_19 : decode b_M_inUse 19 = .ok (.iload_n 3, 1) := by decide +kernel
theorem d_M_inUse_20 : decode b_M_inUse 20 = .ok (.bipush 64, 2) := by decide +kernel
theorem d_M_inUse_22 : decode b_M_inUse 22 = .ok (.if_icmp .ge 48, 3) := by decide +kernel
theorem d_M_inUse_25 : decode b_M_inUse 25 = .ok (.aload_n 0, 1) := by decide +kernel
theorem d_M_inUse_26 : decode b_M_inUse 26 = .ok (.iload_n 3, 1) := by decide +kernel
theorem d_M_inUse_27 : decode b_M_inUse 27 = .ok (.invokevirtual 97, 3) := by decide +kernel
theorem d_M_inUse_30 : decode b_M_inUse 30 = .ok (.istore 4, 2) := by decide +kernel
theorem d_M_inUse_32 : decode b_M_inUse 32 = .ok (.iload 4, 2) := by decide +kernel
theorem d_M_inUse_34 : decode b_M_inUse 34 = .ok (.ifCond .lt 30, 3) := by decide +kernel
theorem d_M_inUse_37 : decode b_M_inUse 37 = .ok (.aload_n 0, 1) := by decide +kernel
theorem d_M_inUse_38 : decode b_M_inUse 38 = .ok (.iload 4, 2) := by decide +kernel
theorem d_M_inUse_40 : decode b_M_inUse 40 = .ok (.iload_n 3, 1) := by decide +kernel
theorem d_M_inUse_41 : decode b_M_inUse 41 = .ok (.invokevirtual 103, 3) := by decide +kernel
theorem d_M_inUse_44 : decode b_M_inUse 44 = .ok (.istore 5, 2) := by decide +kernel
theorem d_M_inUse_46 : decode b_M_inUse 46 = .ok (.iload_n 2, 1) := by decide +kernel
theorem d_M_inUse_47 : decode b_M_inUse 47 = .ok (.iload 5, 2) := by decide +kernel
theorem d_M_inUse_49 : decode b_M_inUse 49 = .ok (.ifCond .ne 7, 3) := by decide +kernel
theorem d_M_inUse_52 : decode b_M_inUse 52 = .ok (.iconst 1, 1) := by decide +kernel
theorem d_M_inUse_53 : decode b_M_inUse 53 = .ok (.goto 9, 3) := by decide +kernel
theorem d_M_inUse_56 : decode b_M_inUse 56 = .ok (.iload 5, 2) := by decide +kernel
theorem d_M_inUse_58 : decode b_M_inUse 58 = .ok (.iconst 3, 1) := by decide +kernel
theorem d_M_inUse_59 : decode b_M_inUse 59 = .ok (.iadd, 1) := by decide +kernel
theorem d_M_inUse_60 : decode b_M_inUse 60 = .ok (.iconst 4, 1) := by decide +kernel
theorem d_M_inUse_61 : decode b_M_inUse 61 = .ok (.idiv, 1) := by decide +kernel
theorem d_M_inUse_62 : decode b_M_inUse 62 = .ok (.iadd, 1) := by decide +kernel
theorem d_M_inUse_63 : decode b_M_inUse 63 = .ok (.istore_n 2, 1) := by decide +kernel
theorem d_M_inUse_64 : decode b_M_inUse 64 = .ok (.iinc 3 1, 3) := by decide +kernel
theorem d_M_inUse_67 : decode b_M_inUse 67 = .ok (.goto (-48), 3) := by decide +kernel
theorem d_M_inUse_70 : decode b_M_inUse 70 = .ok (.iconst 0, 1) := by decide +kernel
theorem d_M_inUse_71 : decode b_M_inUse 71 = .ok (.istore_n 3, 1) := by decide +kernel
theorem d_M_inUse_72 : decode b_M_inUse 72 = .ok (.iload_n 3, 1) := by decide +kernel
theorem d_M_inUse_73 : decode b_M_inUse 73 = .ok (.aload_n 0, 1) := by decide +kernel
theorem d_M_inUse_74 : decode b_M_inUse 74 = .ok (.getfield 48, 3) := by decide +kernel
theorem d_M_inUse_77 : decode b_M_inUse 77 = .ok (.if_icmp .ge 22, 3) := by decide +kernel
theorem d_M_inUse_80 : decode b_M_inUse 80 = .ok (.iload_n 2, 1) := by decide +kernel
theorem d_M_inUse_81 : decode b_M_inUse 81 = .ok (.aload_n 0, 1) := by decide +kernel
theorem d_M_inUse_82 : decode b_M_inUse 82 = .ok (.aload_n 0, 1) := by decide +kernel
theorem d_M_inUse_83 : decode b_M_inUse 83 = .ok (.getfield 41, 3) := by decide +kernel
theorem d_M_inUse_86 : decode b_M_inUse 86 = .ok (.iload_n 3, 1) := by decide +kernel
theorem d_M_inUse_87 : decode b_M_inUse 87 = .ok (.laload, 1) := by decide +kernel
theorem d_M_inUse_88 : decode b_M_inUse 88 = .ok (.invokevirtual 107, 3) := by decide +kernel
theorem d_M_inUse_91 : decode b_M_inUse 91 = .ok (.iadd, 1) := by decide +kernel
theorem d_M_inUse_92 : decode b_M_inUse 92 = .ok (.istore_n 2, 1) := by decide +kernel
theorem d_M_inUse_93 : decode b_M_inUse 93 = .ok (.iinc 3 1, 3) := by decide +kernel
theorem d_M_inUse_96 : decode b_M_inUse 96 = .ok (.goto (-24), 3) := by decide +kernel
theorem d_M_inUse_99 : decode b_M_inUse 99 = .ok (.iload_n 2, 1) := by decide +kernel
theorem d_M_inUse_100 : decode b_M_inUse 100 = .ok (.ireturn, 1) := by decide +kernel
theorem d_M_greatest_0 : decode b_M_greatest 0 = .ok (.iconst 0, 1) := by decide +kernel
theorem d_M_greatest_1 : decode b_M_greatest 1 = .ok (.istore_n 1, 1) := by decide +kernel
theorem d_M_greatest_2 : decode b_M_greatest 2 = .ok (.iconst 0, 1) := by decide +kernel
theorem d_M_greatest_3 : decode b_M_greatest 3 = .ok (.istore_n 2, 1) := by decide +kernel
theorem d_M_greatest_4 : decode b_M_greatest 4 = .ok (.iload_n 2, 1) := by decide +kernel
theorem d_M_greatest_5 : decode b_M_greatest 5 = .ok (.bipush 64, 2) := by decide +kernel
theorem d_M_greatest_7 : decode b_M_greatest 7 = .ok (.if_icmp .ge 26, 3) := by decide +kernel
theorem d_M_greatest_10 : decode b_M_greatest 10 = .ok (.aload_n 0, 1) := by decide +kernel
theorem d_M_greatest_11 : decode b_M_greatest 11 = .ok (.iload_n 2, 1) := by decide +kernel
theorem d_M_greatest_12 : decode b_M_greatest 12 = .ok (.invokevirtual 97, 3) := by decide +kernel
theorem d_M_greatest_15 : decode b_M_greatest 15 = .ok (.istore_n 3, 1) := by decide +kernel
theorem d_M_greatest_16 : decode b_M_greatest 16 = .ok (.iload_n 3, 1) := by decide +kernel
theorem d_M_greatest_17 : decode b_M_greatest 17 = .ok (.iload_n 1, 1) := by decide +kernel
theorem d_M_greatest_18 : decode b_M_greatest 18 = .ok (.if_icmp .le 7, 3) := by decide +kernel
theorem d_M_greatest_21 : decode b_M_greatest 21 = .ok (.iload_n 3, 1) := by decide +kernel
theorem d_M_greatest_22 : decode b_M_greatest 22 = .ok (.goto 4, 3) := by decide +kernel
theorem d_M_greatest_25 : decode b_M_greatest 25 = .ok (.iload_n 1, 1) := by decide +kernel
theorem d_M_greatest_26 : decode b_M_greatest 26 = .ok (.istore_n 1, 1) := by decide +kernel
theorem d_M_greatest_27 : decode b_M_greatest 27 = .ok (.iinc 2 1, 3) := by decide +kernel
theorem d_M_greatest_30 : decode b_M_greatest 30 = .ok (.goto (-26), 3) := by decide +kernel
theorem d_M_greatest_33 : decode b_M_greatest 33 = .ok (.iload_n 1, 1) := by decide +kernel
theorem d_M_greatest_34 : decode b_M_greatest 34 = .ok (.ireturn, 1) := by decide +kernel
theorem d_M_depthOf_0 : decode b_M_depthOf 0 = .ok (.iconst (-1), 1) := by decide +kernel
theorem d_M_depthOf_1 : decode b_M_depthOf 1 = .ok (.istore_n 2, 1) := by decide +kernel
theorem d_M_depthOf_2 : decode b_M_depthOf 2 = .ok (.iconst 0, 1) := by decide +kernel
theorem d_M_depthOf_3 : decode b_M_depthOf 3 = .ok (.istore_n 3, 1) := by decide +kernel
theorem d_M_depthOf_4 : decode b_M_depthOf 4 = .ok (.iload_n 3, 1) := by decide +kernel
theorem d_M_depthOf_5 : decode b_M_depthOf 5 = .ok (.bipush 6, 2) := by decide +kernel
theorem d_M_depthOf_7 : decode b_M_depthOf 7 = .ok (.if_icmp .gt 66, 3) := by decide +kernel
theorem d_M_depthOf_10 : decode b_M_depthOf 10 = .ok (.iload_n 1, 1) := by decide +kernel
theorem d_M_depthOf_11 : decode b_M_depthOf 11 = .ok (.iconst 1, 1) := by decide +kernel
theorem d_M_depthOf_12 : decode b_M_depthOf 12 = .ok (.iload_n 3, 1) := by decide +kernel
theorem d_M_depthOf_13 : decode b_M_depthOf 13 = .ok (.ishl, 1) := by decide +kernel
theorem d_M_depthOf_14 : decode b_M_depthOf 14 = .ok (.if_icmp .ge 53, 3) := by decide +kernel
theorem d_M_depthOf_17 : decode b_M_depthOf 17 = .ok (.aload_n 0, 1) := by decide +kernel
theorem d_M_depthOf_18 : decode b_M_depthOf 18 = .ok (.iload_n 3, 1) := by decide +kernel
theorem d_M_depthOf_19 : decode b_M_depthOf 19 = .ok (.iload_n 1, 1) := by decide +kernel
theorem d_M_depthOf_20 : decode b_M_depthOf 20 = .ok (.invokevirtual 89, 3) := by decide +kernel
theorem d_M_depthOf_23 : decode b_M_depthOf 23 = .ok (.ifCond .eq 44, 3) := by decide +kernel
theorem d_M_depthOf_26 : decode b_M_depthOf 26 = .ok (.iload_n 3, 1) := by decide +kernel
theorem d_M_depthOf_27 : decode b_M_depthOf 27 = .ok (.ifCond .eq 22, 3) := by decide +kernel
theorem d_M_depthOf_30 : decode b_M_depthOf 30 = .ok (.aload_n 0, 1) := by decide +kernel
theorem d_M_depthOf_31 : decode b_M_depthOf 31 = .ok (.iload_n 3, 1) := by decide +kernel
theorem d_M_depthOf_32 : decode b_M_depthOf 32 = .ok (.iconst 1, 1) := by decide +kernel
theorem d_M_depthOf_33 : decode b_M_depthOf 33 = .ok (.isub, 1) := by decide +kernel
theorem d_M_depthOf_34 : decode b_M_depthOf 34 = .ok (.iload_n 1, 1) := by decide +kernel
theorem d_M_depthOf_35 : decode b_M_depthOf 35 = .ok (.iconst 1, 1) := by decide +kernel
theorem d_M_depthOf_36 : decode b_M_depthOf 36 = .ok (.iload_n 3, 1) := by decide +kernel
theorem d_M_depthOf_37 : decode b_M_depthOf 37 = .ok (.iconst 1, 1) := by decide +kernel
theorem d_M_depthOf_38 : decode b_M_depthOf 38 = .ok (.isub, 1) := by decide +kernel
theorem d_M_depthOf_39 : decode b_M_depthOf 39 = .ok (.ishl, 1) := by decide +kernel
theorem d_M_depthOf_40 : decode b_M_depthOf 40 = .ok (.iconst 1, 1) := by decide +kernel
theorem d_M_depthOf_41 : decode b_M_depthOf 41 = .ok (.isub, 1) := by decide +kernel
theorem d_M_depthOf_42 : decode b_M_depthOf 42 = .ok (.iand, 1) := by decide +kernel
theorem d_M_depthOf_43 : decode b_M_depthOf 43 = .ok (.invokevirtual 89, 3) := by decide +kernel
theorem d_M_depthOf_46 : decode b_M_depthOf 46 = .ok (.ifCond .ne 7, 3) := by decide +kernel
theorem d_M_depthOf_49 : decode b_M_depthOf 49 = .ok (.iconst 1, 1) := by decide +kernel
theorem d_M_depthOf_50 : decode b_M_depthOf 50 = .ok (.goto 4, 3) := by decide +kernel
theorem d_M_depthOf_53 : decode b_M_depthOf 53 = .ok (.iconst 0, 1) := by decide +kernel
theorem d_M_depthOf_54 : decode b_M_depthOf 54 = .ok (.istore 4, 2) := by decide +kernel
theorem d_M_depthOf_56 : decode b_M_depthOf 56 = .ok (.iload 4, 2) := by decide +kernel
theorem d_M_depthOf_58 : decode b_M_depthOf 58 = .ok (.ifCond .eq 7, 3) := by decide +kernel
theorem d_M_depthOf_61 : decode b_M_depthOf 61 = .ok (.iload_n 3, 1) := by decide +kernel
theorem d_M_depthOf_62 : decode b_M_depthOf 62 = .ok (.goto 4, 3) := by decide +kernel
theorem d_M_depthOf_65 : decode b_M_depthOf 65 = .ok (.iload_n 2, 1) := by decide +kernel
theorem d_M_depthOf_66 : decode b_M_depthOf 66 = .ok (.istore_n 2, 1) := by decide +kernel
theorem d_M_depthOf_67 : decode b_M_depthOf 67 = .ok (.iinc 3 1, 3) := by decide +kernel
theorem d_M_depthOf_70 : decode b_M_depthOf 70 = .ok (.goto (-66), 3) := by decide +kernel
theorem d_M_depthOf_73 : decode b_M_depthOf 73 = .ok (.iload_n 2, 1) := by decide +kernel
theorem d_M_depthOf_74 : decode b_M_depthOf 74 = .ok (.ireturn, 1) := by decide +kernel
theorem d_M_good_0 : decode b_M_good 0 = .ok (.iconst 0, 1) := by decide +kernel
theorem d_M_good_1 : decode b_M_good 1 = .ok (.istore_n 3, 1) := by decide +kernel
theorem d_M_good_2 : decode b_M_good 2 = .ok (.iconst (-1), 1) := by decide +kernel
theorem d_M_good_3 : decode b_M_good 3 = .ok (.istore 4, 2) := by decide +kernel
theorem d_M_good_5 : decode b_M_good 5 = .ok (.iconst 1, 1) := by decide +kernel
theorem d_M_good_6 : decode b_M_good 6 = .ok (.istore 5, 2) := by decide +kernel
theorem d_M_good_8 : decode b_M_good 8 = .ok (.iconst 0, 1) := by decide +kernel
theorem d_M_good_9 : decode b_M_good 9 = .ok (.istore 6, 2) := by decide +kernel
theorem d_M_good_11 : decode b_M_good 11 = .ok (.iload 6, 2) := by decide +kernel
theorem d_M_good_13 : decode b_M_good 13 = .ok (.aload_n 0, 1) := by decide +kernel
theorem d_M_good_14 : decode b_M_good 14 = .ok (.getfield 48, 3) := by decide +kernel
theorem d_M_good_17 : decode b_M_good 17 = .ok (.if_icmp .ge 65, 3) := by decide +kernel
theorem d_M_good_20 : decode b_M_good 20 = .ok (.aload_n 0, 1) := by decide +kernel
theorem d_M_good_21 : decode b_M_good 21 = .ok (.aload_n 0, 1) := by decide +kernel
theorem d_M_good_22 : decode b_M_good 22 = .ok (.getfield 38, 3) := by decide +kernel
theorem d_M_good_25 : decode b_M_good 25 = .ok (.iload 6, 2) := by decide +kernel
theorem d_M_good_27 : decode b_M_good 27 = .ok (.iaload, 1) := by decide +kernel
theorem d_M_good_28 : decode b_M_good 28 = .ok (.invokevirtual 82, 3) := by decide +kernel
theorem d_M_good_31 : decode b_M_good 31 = .ok (.istore 7, 2) := by decide +kernel
theorem d_M_good_33 : decode b_M_good 33 = .ok (.aload_n 0, 1) := by decide +kernel
theorem d_M_good_34 : decode b_M_good 34 = .ok (.iload 7, 2) := by decide +kernel
theorem d_M_good_36 : decode b_M_good 36 = .ok (.iload_n 1, 1) := by decide +kernel
theorem d_M_good_37 : decode b_M_good 37 = .ok (.iload_n 2, 1) := by decide +kernel
theorem d_M_good_38 : decode b_M_good 38 = .ok (.invokevirtual 85, 3) := by decide +kernel
theorem d_M_good_41 : decode b_M_good 41 = .ok (.ifCond .eq 35, 3) := by decide +kernel
theorem d_M_good_44 : decode b_M_good 44 = .ok (.iload_n 3, 1) := by decide +kernel
theorem d_M_good_45 : decode b_M_good 45 = .ok (.iconst 1, 1) := by decide +kernel
theorem d_M_good_46 : decode b_M_good 46 = .ok (.iadd, 1) := by decide +kernel
theorem d_M_good_47 : decode b_M_good 47 = .ok (.istore_n 3, 1) := by decide +kernel
theorem d_M_good_48 : decode b_M_good 48 = .ok (.iload 5, 2) := by decide +kernel
theorem d_M_good_50 : decode b_M_good 50 = .ok (.ifCond .eq 19, 3) := by decide +kernel
theorem d_M_good_53 : decode b_M_good 53 = .ok (.iload 4, 2) := by decide +kernel
theorem d_M_good_55 : decode b_M_good 55 = .ok (.ifCond .lt 10, 3) := by decide +kernel
theorem d_M_good_58 : decode b_M_good 58 = .ok (.iload 4, 2) := by decide +kernel
theorem d_M_good_60 : decode b_M_good 60 = .ok (.iload 7, 2) := by decide +kernel
theorem d_M_good_62 : decode b_M_good 62 = .ok (.if_icmp .ne 7, 3) := by decide +kernel
theorem d_M_good_65 : decode b_M_good 65 = .ok (.iconst 1, 1) := by decide +kernel
theorem d_M_good_66 : decode b_M_good 66 = .ok (.goto 4, 3) := by decide +kernel
theorem d_M_good_69 : decode b_M_good 69 = .ok (.iconst 0, 1) := by decide +kernel
theorem d_M_good_70 : decode b_M_good 70 = .ok (.istore 5, 2) := by decide +kernel
theorem d_M_good_72 : decode b_M_good 72 = .ok (.iload 7, 2) := by decide +kernel
theorem d_M_good_74 : decode b_M_good 74 = .ok (.istore 4, 2) := by decide +kernel
theorem d_M_good_76 : decode b_M_good 76 = .ok (.iinc 6 1, 3) := by decide +kernel
theorem d_M_good_79 : decode b_M_good 79 = .ok (.goto (-68), 3) := by decide +kernel
theorem d_M_good_82 : decode b_M_good 82 = .ok (.iload_n 3, 1) := by decide +kernel
theorem d_M_good_83 : decode b_M_good 83 = .ok (.iconst 4, 1) := by decide +kernel
theorem d_M_good_84 : decode b_M_good 84 = .ok (.if_icmp .le 8, 3) := by decide +kernel
theorem d_M_good_87 : decode b_M_good 87 = .ok (.iload 5, 2) := by decide +kernel
theorem d_M_good_89 : decode b_M_good 89 = .ok (.ifCond .eq 7, 3) := by decide +kernel
theorem d_M_good_92 : decode b_M_good 92 = .ok (.iconst 1, 1) := by decide +kernel
theorem d_M_good_93 : decode b_M_good 93 = .ok (.goto 4, 3) := by decide +kernel
theorem d_M_good_96 : decode b_M_good 96 = .ok (.iconst 0, 1) := by decide +kernel
theorem d_M_good_97 : decode b_M_good 97 = .ok (.ireturn, 1) := by decide +kernel
theorem d_M_hash_0 : decode b_M_hash 0 = .ok (.iload_n 1, 1) := by decide +kernel
theorem d_M_hash_1 : decode b_M_hash 1 = .ok (.iload_n 1, 1) := by decide +kernel
theorem d_M_hash_2 : decode b_M_hash 2 = .ok (.bipush 6, 2) := by decide +kernel
theorem d_M_hash_4 : decode b_M_hash 4 = .ok (.iushr, 1) := by decide +kernel
theorem d_M_hash_5 : decode b_M_hash 5 = .ok (.ixor, 1) := by decide +kernel
theorem d_M_hash_6 : decode b_M_hash 6 = .ok (.iload_n 1, 1) := by decide +kernel
theorem d_M_hash_7 : decode b_M_hash 7 = .ok (.bipush 12, 2) := by decide +kernel
theorem d_M_hash_9 : decode b_M_hash 9 = .ok (.iushr, 1) := by decide +kernel
theorem d_M_hash_10 : decode b_M_hash 10 = .ok (.ixor, 1) := by decide +kernel
theorem d_M_hash_11 : decode b_M_hash 11 = .ok (.iload_n 1, 1) := by decide +kernel
theorem d_M_hash_12 : decode b_M_hash 12 = .ok (.bipush 18, 2) := by decide +kernel
theorem d_M_hash_14 : decode b_M_hash 14 = .ok (.iushr, 1) := by decide +kernel
theorem d_M_hash_15 : decode b_M_hash 15 = .ok (.ixor, 1) := by decide +kernel
theorem d_M_hash_16 : decode b_M_hash 16 = .ok (.iload_n 1, 1) := by decide +kernel
theorem d_M_hash_17 : decode b_M_hash 17 = .ok (.bipush 24, 2) := by decide +kernel
theorem d_M_hash_19 : decode b_M_hash 19 = .ok (.iushr, 1) := by decide +kernel
theorem d_M_hash_20 : decode b_M_hash 20 = .ok (.ixor, 1) := by decide +kernel
theorem d_M_hash_21 : decode b_M_hash 21 = .ok (.iload_n 1, 1) := by decide +kernel
theorem d_M_hash_22 : decode b_M_hash 22 = .ok (.bipush 30, 2) := by decide +kernel
theorem d_M_hash_24 : decode b_M_hash 24 = .ok (.iushr, 1) := by decide +kernel
theorem d_M_hash_25 : decode b_M_hash 25 = .ok (.ixor, 1) := by decide +kernel
theorem d_M_hash_26 : decode b_M_hash 26 = .ok (.bipush 63, 2) := by decide +kernel
theorem d_M_hash_28 : decode b_M_hash 28 = .ok (.iand, 1) := by decide +kernel
theorem d_M_hash_29 : decode b_M_hash 29 = .ok (.ireturn, 1) := by decide +kernel
theorem d_M_inClass_0 : decode b_M_inClass 0 = .ok (.iload_n 1, 1) := by decide +kernel
theorem d_M_inClass_1 : decode b_M_inClass 1 = .ok (.iconst 1, 1) := by decide +kernel
theorem d_M_inClass_2 : decode b_M_inClass 2 = .ok (.iload_n 2, 1) := by decide +kernel
theorem d_M_inClass_3 : decode b_M_inClass 3 = .ok (.ishl, 1) := by decide +kernel
theorem d_M_inClass_4 : decode b_M_inClass 4 = .ok (.iconst 1, 1) := by decide +kernel
theorem d_M_inClass_5 : decode b_M_inClass 5 = .ok (.isub, 1) := by decide +kernel
theorem d_M_inClass_6 : decode b_M_inClass 6 = .ok (.iand, 1) := by decide +kernel
theorem d_M_inClass_7 : decode b_M_inClass 7 = .ok (.iload_n 3, 1) := by decide +kernel
theorem d_M_inClass_8 : decode b_M_inClass 8 = .ok (.if_icmp .ne 7, 3) := by decide +kernel
theorem d_M_inClass_11 : decode b_M_inClass 11 = .ok (.iconst 1, 1) := by decide +kernel
theorem d_M_inClass_12 : decode b_M_inClass 12 = .ok (.goto 4, 3) := by decide +kernel
theorem d_M_inClass_15 : decode b_M_inClass 15 = .ok (.iconst 0, 1) := by decide +kernel
theorem d_M_inClass_16 : decode b_M_inClass 16 = .ok (.ireturn, 1) := by decide +kernel
theorem d_M_count_0 : decode b_M_count 0 = .ok (.iconst 0, 1) := by decide +kernel
theorem d_M_count_1 : decode b_M_count 1 = .ok (.istore_n 3, 1) := by decide +kernel
theorem d_M_count_2 : decode b_M_count 2 = .ok (.iconst 0, 1) := by decide +kernel
theorem d_M_count_3 : decode b_M_count 3 = .ok (.istore 4, 2) := by decide +kernel
theorem d_M_count_5 : decode b_M_count 5 = .ok (.iload 4, 2) := by decide +kernel
theorem d_M_count_7 : decode b_M_count 7 = .ok (.aload_n 0, 1) := by decide +kernel
theorem d_M_count_8 : decode b_M_count 8 = .ok (.getfield 48, 3) := by decide +kernel
theorem d_M_count_11 : decode b_M_count 11 = .ok (.if_icmp .ge 37, 3) := by decide +kernel
theorem d_M_count_14 : decode b_M_count 14 = .ok (.aload_n 0, 1) := by decide +kernel
theorem d_M_count_15 : decode b_M_count 15 = .ok (.aload_n 0, 1) := by decide +kernel
theorem d_M_count_16 : decode b_M_count 16 = .ok (.aload_n 0, 1) := by decide +kernel
theorem d_M_count_17 : decode b_M_count 17 = .ok (.getfield 38, 3) := by decide +kernel
theorem d_M_count_20 : decode b_M_count 20 = .ok (.iload 4, 2) := by decide +kernel
theorem d_M_count_22 : decode b_M_count 22 = .ok (.iaload, 1) := by decide +kernel
theorem d_M_count_23 : decode b_M_count 23 = .ok (.invokevirtual 82, 3) := by decide +kernel
theorem d_M_count_26 : decode b_M_count 26 = .ok (.iload_n 1, 1) := by decide +kernel
theorem d_M_count_27 : decode b_M_count 27 = .ok (.iload_n 2, 1) := by decide +kernel
theorem d_M_count_28 : decode b_M_count 28 = .ok (.invokevirtual 85, 3) := by decide +kernel
theorem d_M_count_31 : decode b_M_count 31 = .ok (.ifCond .eq 9, 3) := by decide +kernel
theorem d_M_count_34 : decode b_M_count 34 = .ok (.iload_n 3, 1) := by decide +kernel
theorem d_M_count_35 : decode b_M_count 35 = .ok (.iconst 1, 1) := by decide +kernel
theorem d_M_count_36 : decode b_M_count 36 = .ok (.iadd, 1) := by decide +kernel
theorem d_M_count_37 : decode b_M_count 37 = .ok (.goto 4, 3) := by decide +kernel
theorem d_M_count_40 : decode b_M_count 40 = .ok (.iload_n 3, 1) := by decide +kernel
theorem d_M_count_41 : decode b_M_count 41 = .ok (.istore_n 3, 1) := by decide +kernel
theorem d_M_count_42 : decode b_M_count 42 = .ok (.iinc 4 1, 3) := by decide +kernel
theorem d_M_count_45 : decode b_M_count 45 = .ok (.goto (-40), 3) := by decide +kernel
theorem d_M_count_48 : decode b_M_count 48 = .ok (.iload_n 3, 1) := by decide +kernel
theorem d_M_count_49 : decode b_M_count 49 = .ok (.ireturn, 1) := by decide +kernel
theorem d_M_valuePages_0 : decode b_M_valuePages 0 = .ok (.aload_n 0, 1) := by decide +kernel
theorem d_M_valuePages_1 : decode b_M_valuePages 1 = .ok (.lload_n 1, 1) := by decide +kernel
theorem d_M_valuePages_2 : decode b_M_valuePages 2 = .ok (.invokevirtual 93, 3) := by decide +kernel
theorem d_M_valuePages_5 : decode b_M_valuePages 5 = .ok (.istore_n 3, 1) := by decide +kernel
theorem d_M_valuePages_6 : decode b_M_valuePages 6 = .ok (.iload_n 3, 1) := by decide +kernel
theorem d_M_valuePages_7 : decode b_M_valuePages 7 = .ok (.iconst 2, 1) := by decide +kernel
theorem d_M_valuePages_8 : decode b_M_valuePages 8 = .ok (.if_icmp .le 11, 3) := by decide +kernel
theorem d_M_valuePages_11 : decode b_M_valuePages 11 = .ok (.iload_n 3, 1) := by decide +kernel
theorem d_M_valuePages_12 : decode b_M_valuePages 12 = .ok (.iconst 1, 1) := by decide +kernel
theorem d_M_valuePages_13 : decode b_M_valuePages 13 = .ok (.iadd, 1) := by decide +kernel
theorem d_M_valuePages_14 : decode b_M_valuePages 14 = .ok (.iconst 2, 1) := by decide +kernel
theorem d_M_valuePages_15 : decode b_M_valuePages 15 = .ok (.idiv, 1) := by decide +kernel
theorem d_M_valuePages_16 : decode b_M_valuePages 16 = .ok (.goto 4, 3) := by decide +kernel
theorem d_M_valuePages_19 : decode b_M_valuePages 19 = .ok (.iconst 0, 1) := by decide +kernel
theorem d_M_valuePages_20 : decode b_M_valuePages 20 = .ok (.ireturn, 1) := by decide +kernel
theorem d_M_bytes_0 : decode b_M_bytes 0 = .ok (.iconst 1, 1) := by decide +kernel
end
section
/-! Decode rows. -/
theorem d_M_bytes_1 : decode b_M_bytes 1 = .ok (.istore_n 3, 1) := by decide +kernel
theorem d_M_bytes_2 : decode b_M_bytes 2 = .ok (.lload_n 1, 1) := by decide +kernel
theorem d_M_bytes_3 : decode b_M_bytes 3 = .ok (.bipush 8, 2) := by decide +kernel
theorem d_M_bytes_5 : decode b_M_bytes 5 = .ok (.lshr, 1) := by decide +kernel
theorem d_M_bytes_6 : decode b_M_bytes 6 = .ok (.lstore 4, 2) := by decide +kernel
theorem d_M_bytes_8 : decode b_M_bytes 8 = .ok (.iconst 0, 1) := by decide +kernel
theorem d_M_bytes_9 : decode b_M_bytes 9 = .ok (.istore 6, 2) := by decide +kernel
theorem d_M_bytes_11 : decode b_M_bytes 11 = .ok (.iload 6, 2) := by decide +kernel
theorem d_M_bytes_13 : decode b_M_bytes 13 = .ok (.bipush 7, 2) := by decide +kernel
theorem d_M_bytes_15 : decode b_M_bytes 15 = .ok (.if_icmp .ge 37, 3) := by decide +kernel
theorem d_M_bytes_18 : decode b_M_bytes 18 = .ok (.lload_n 1, 1) := by decide +kernel
theorem d_M_bytes_19 : decode b_M_bytes 19 = .ok (.lconst 0, 1) := by decide +kernel
theorem d_M_bytes_20 : decode b_M_bytes 20 = .ok (.lcmp, 1) := by decide +kernel
theorem d_M_bytes_21 : decode b_M_bytes 21 = .ok (.ifCond .lt 31, 3) := by decide +kernel
theorem d_M_bytes_24 : decode b_M_bytes 24 = .ok (.lload 4, 2) := by decide +kernel
theorem d_M_bytes_26 : decode b_M_bytes 26 = .ok (.lconst 0, 1) := by decide +kernel
theorem d_M_bytes_27 : decode b_M_bytes 27 = .ok (.lcmp, 1) := by decide +kernel
theorem d_M_bytes_28 : decode b_M_bytes 28 = .ok (.ifCond .le 9, 3) := by decide +kernel
theorem d_M_bytes_31 : decode b_M_bytes 31 = .ok (.iload_n 3, 1) := by decide +kernel
theorem d_M_bytes_32 : decode b_M_bytes 32 = .ok (.iconst 1, 1) := by decide +kernel
theorem d_M_bytes_33 : decode b_M_bytes 33 = .ok (.iadd, 1) := by decide +kernel
theorem d_M_bytes_34 : decode b_M_bytes 34 = .ok (.goto 4, 3) := by decide +kernel
theorem d_M_bytes_37 : decode b_M_bytes 37 = .ok (.iload_n 3, 1) := by decide +kernel
theorem d_M_bytes_38 : decode b_M_bytes 38 = .ok (.istore_n 3, 1) := by decide +kernel
theorem d_M_bytes_39 : decode b_M_bytes 39 = .ok (.lload 4, 2) := by decide +kernel
theorem d_M_bytes_41 : decode b_M_bytes 41 = .ok (.bipush 8, 2) := by decide +kernel
theorem d_M_bytes_43 : decode b_M_bytes 43 = .ok (.lshr, 1) := by decide +kernel
theorem d_M_bytes_44 : decode b_M_bytes 44 = .ok (.lstore 4, 2) := by decide +kernel
theorem d_M_bytes_46 : decode b_M_bytes 46 = .ok (.iinc 6 1, 3) := by decide +kernel
theorem d_M_bytes_49 : decode b_M_bytes 49 = .ok (.goto (-38), 3) := by decide +kernel
theorem d_M_bytes_52 : decode b_M_bytes 52 = .ok (.lload_n 1, 1) := by decide +kernel
theorem d_M_bytes_53 : decode b_M_bytes 53 = .ok (.lconst 0, 1) := by decide +kernel
theorem d_M_bytes_54 : decode b_M_bytes 54 = .ok (.lcmp, 1) := by decide +kernel
theorem d_M_bytes_55 : decode b_M_bytes 55 = .ok (.ifCond .ge 8, 3) := by decide +kernel
theorem d_M_bytes_58 : decode b_M_bytes 58 = .ok (.bipush 8, 2) := by decide +kernel
theorem d_M_bytes_60 : decode b_M_bytes 60 = .ok (.goto 4, 3) := by decide +kernel
theorem d_M_bytes_63 : decode b_M_bytes 63 = .ok (.iload_n 3, 1) := by decide +kernel
theorem d_M_bytes_64 : decode b_M_bytes 64 = .ok (.ireturn, 1) := by decide +kernel
theorem d_M_settle_0 : decode b_M_settle 0 = .ok (.aload_n 0, 1) := by decide +kernel
theorem d_M_settle_1 : decode b_M_settle 1 = .ok (.iload_n 1, 1) := by decide +kernel
theorem d_M_settle_2 : decode b_M_settle 2 = .ok (.invokevirtual 69, 3) := by decide +kernel
theorem d_M_settle_5 : decode b_M_settle 5 = .ok (.aload_n 0, 1) := by decide +kernel
theorem d_M_settle_6 : decode b_M_settle 6 = .ok (.aload_n 0, 1) := by decide +kernel
theorem d_M_settle_7 : decode b_M_settle 7 = .ok (.getfield 48, 3) := by decide +kernel
theorem d_M_settle_10 : decode b_M_settle 10 = .ok (.putfield 55, 3) := by decide +kernel
theorem d_M_settle_13 : decode b_M_settle 13 = .ok (.iconst 0, 1) := by decide +kernel
theorem d_M_settle_14 : decode b_M_settle 14 = .ok (.istore_n 2, 1) := by decide +kernel
theorem d_M_settle_15 : decode b_M_settle 15 = .ok (.iload_n 2, 1) := by decide +kernel
theorem d_M_settle_16 : decode b_M_settle 16 = .ok (.aload_n 0, 1) := by decide +kernel
theorem d_M_settle_17 : decode b_M_settle 17 = .ok (.getfield 48, 3) := by decide +kernel
theorem d_M_settle_20 : decode b_M_settle 20 = .ok (.if_icmp .ge 33, 3) := by decide +kernel
theorem d_M_settle_23 : decode b_M_settle 23 = .ok (.aload_n 0, 1) := by decide +kernel
theorem d_M_settle_24 : decode b_M_settle 24 = .ok (.getfield 7, 3) := by decide +kernel
theorem d_M_settle_27 : decode b_M_settle 27 = .ok (.iload_n 2, 1) := by decide +kernel
theorem d_M_settle_28 : decode b_M_settle 28 = .ok (.aload_n 0, 1) := by decide +kernel
theorem d_M_settle_29 : decode b_M_settle 29 = .ok (.getfield 38, 3) := by decide +kernel
theorem d_M_settle_32 : decode b_M_settle 32 = .ok (.iload_n 2, 1) := by decide +kernel
theorem d_M_settle_33 : decode b_M_settle 33 = .ok (.iaload, 1) := by decide +kernel
theorem d_M_settle_34 : decode b_M_settle 34 = .ok (.iastore, 1) := by decide +kernel
theorem d_M_settle_35 : decode b_M_settle 35 = .ok (.aload_n 0, 1) := by decide +kernel
theorem d_M_settle_36 : decode b_M_settle 36 = .ok (.getfield 13, 3) := by decide +kernel
theorem d_M_settle_39 : decode b_M_settle 39 = .ok (.iload_n 2, 1) := by decide +kernel
theorem d_M_settle_40 : decode b_M_settle 40 = .ok (.aload_n 0, 1) := by decide +kernel
theorem d_M_settle_41 : decode b_M_settle 41 = .ok (.getfield 41, 3) := by decide +kernel
theorem d_M_settle_44 : decode b_M_settle 44 = .ok (.iload_n 2, 1) := by decide +kernel
theorem d_M_settle_45 : decode b_M_settle 45 = .ok (.laload, 1) := by decide +kernel
theorem d_M_settle_46 : decode b_M_settle 46 = .ok (.lastore, 1) := by decide +kernel
theorem d_M_settle_47 : decode b_M_settle 47 = .ok (.iinc 2 1, 3) := by decide +kernel
theorem d_M_settle_50 : decode b_M_settle 50 = .ok (.goto (-35), 3) := by decide +kernel
theorem d_M_settle_53 : decode b_M_settle 53 = .ok (.iload_n 1, 1) := by decide +kernel
theorem d_M_settle_54 : decode b_M_settle 54 = .ok (.istore_n 2, 1) := by decide +kernel
theorem d_M_settle_55 : decode b_M_settle 55 = .ok (.iload_n 2, 1) := by decide +kernel
theorem d_M_settle_56 : decode b_M_settle 56 = .ok (.aload_n 0, 1) := by decide +kernel
theorem d_M_settle_57 : decode b_M_settle 57 = .ok (.getfield 66, 3) := by decide +kernel
theorem d_M_settle_60 : decode b_M_settle 60 = .ok (.if_icmp .ge 67, 3) := by decide +kernel
theorem d_M_settle_63 : decode b_M_settle 63 = .ok (.aload_n 0, 1) := by decide +kernel
theorem d_M_settle_64 : decode b_M_settle 64 = .ok (.getfield 17, 3) := by decide +kernel
theorem d_M_settle_67 : decode b_M_settle 67 = .ok (.iload_n 2, 1) := by decide +kernel
theorem d_M_settle_68 : decode b_M_settle 68 = .ok (.iload_n 1, 1) := by decide +kernel
theorem d_M_settle_69 : decode b_M_settle 69 = .ok (.isub, 1) := by decide +kernel
theorem d_M_settle_70 : decode b_M_settle 70 = .ok (.aload_n 0, 1) := by decide +kernel
theorem d_M_settle_71 : decode b_M_settle 71 = .ok (.getfield 17, 3) := by decide +kernel
theorem d_M_settle_74 : decode b_M_settle 74 = .ok (.iload_n 2, 1) := by decide +kernel
theorem d_M_settle_75 : decode b_M_settle 75 = .ok (.iaload, 1) := by decide +kernel
theorem d_M_settle_76 : decode b_M_settle 76 = .ok (.iastore, 1) := by decide +kernel
theorem d_M_settle_77 : decode b_M_settle 77 = .ok (.aload_n 0, 1) := by decide +kernel
theorem d_M_settle_78 : decode b_M_settle 78 = .ok (.getfield 20, 3) := by decide +kernel
theorem d_M_settle_81 : decode b_M_settle 81 = .ok (.iload_n 2, 1) := by decide +kernel
theorem d_M_settle_82 : decode b_M_settle 82 = .ok (.iload_n 1, 1) := by decide +kernel
theorem d_M_settle_83 : decode b_M_settle 83 = .ok (.isub, 1) := by decide +kernel
theorem d_M_settle_84 : decode b_M_settle 84 = .ok (.aload_n 0, 1) := by decide +kernel
theorem d_M_settle_85 : decode b_M_settle 85 = .ok (.getfield 20, 3) := by decide +kernel
theorem d_M_settle_88 : decode b_M_settle 88 = .ok (.iload_n 2, 1) := by decide +kernel
theorem d_M_settle_89 : decode b_M_settle 89 = .ok (.iaload, 1) := by decide +kernel
theorem d_M_settle_90 : decode b_M_settle 90 = .ok (.iastore, 1) := by decide +kernel
theorem d_M_settle_91 : decode b_M_settle 91 = .ok (.aload_n 0, 1) := by decide +kernel
theorem d_M_settle_92 : decode b_M_settle 92 = .ok (.getfield 23, 3) := by decide +kernel
theorem d_M_settle_95 : decode b_M_settle 95 = .ok (.iload_n 2, 1) := by decide +kernel
theorem d_M_settle_96 : decode b_M_settle 96 = .ok (.iload_n 1, 1) := by decide +kernel
theorem d_M_settle_97 : decode b_M_settle 97 = .ok (.isub, 1) := by decide +kernel
theorem d_M_settle_98 : decode b_M_settle 98 = .ok (.aload_n 0, 1) := by decide +kernel
theorem d_M_settle_99 : decode b_M_settle 99 = .ok (.getfield 23, 3) := by decide +kernel
theorem d_M_settle_102 : decode b_M_settle 102 = .ok (.iload_n 2, 1) := by decide +kernel
theorem d_M_settle_103 : decode b_M_settle 103 = .ok (.laload, 1) := by decide +kernel
theorem d_M_settle_104 : decode b_M_settle 104 = .ok (.lastore, 1) := by decide +kernel
theorem d_M_settle_105 : decode b_M_settle 105 = .ok (.aload_n 0, 1) := by decide +kernel
theorem d_M_settle_106 : decode b_M_settle 106 = .ok (.getfield 26, 3) := by decide +kernel
theorem d_M_settle_109 : decode b_M_settle 109 = .ok (.iload_n 2, 1) := by decide +kernel
theorem d_M_settle_110 : decode b_M_settle 110 = .ok (.iload_n 1, 1) := by decide +kernel
theorem d_M_settle_111 : decode b_M_settle 111 = .ok (.isub, 1) := by decide +kernel
theorem d_M_settle_112 : decode b_M_settle 112 = .ok (.aload_n 0, 1) := by decide +kernel
theorem d_M_settle_113 : decode b_M_settle 113 = .ok (.getfield 26, 3) := by decide +kernel
theorem d_M_settle_116 : decode b_M_settle 116 = .ok (.iload_n 2, 1) := by decide +kernel
theorem d_M_settle_117 : decode b_M_settle 117 = .ok (.iaload, 1) := by decide +kernel
theorem d_M_settle_118 : decode b_M_settle 118 = .ok (.iload_n 1, 1) := by decide +kernel
theorem d_M_settle_119 : decode b_M_settle 119 = .ok (.isub, 1) := by decide +kernel
theorem d_M_settle_120 : decode b_M_settle 120 = .ok (.iastore, 1) := by decide +kernel
theorem d_M_settle_121 : decode b_M_settle 121 = .ok (.iinc 2 1, 3) := by decide +kernel
theorem d_M_settle_124 : decode b_M_settle 124 = .ok (.goto (-69), 3) := by decide +kernel
theorem d_M_settle_127 : decode b_M_settle 127 = .ok (.aload_n 0, 1) := by decide +kernel
theorem d_M_settle_128 : decode b_M_settle 128 = .ok (.aload_n 0, 1) := by decide +kernel
theorem d_M_settle_129 : decode b_M_settle 129 = .ok (.getfield 66, 3) := by decide +kernel
theorem d_M_settle_132 : decode b_M_settle 132 = .ok (.iload_n 1, 1) := by decide +kernel
theorem d_M_settle_133 : decode b_M_settle 133 = .ok (.isub, 1) := by decide +kernel
theorem d_M_settle_134 : decode b_M_settle 134 = .ok (.putfield 66, 3) := by decide +kernel
theorem d_M_settle_137 : decode b_M_settle 137 = .ok (.return_, 1) := by decide +kernel
theorem d_M_delete_0 : decode b_M_delete 0 = .ok (.aload_n 0, 1) := by decide +kernel
theorem d_M_delete_1 : decode b_M_delete 1 = .ok (.getfield 113, 3) := by decide +kernel
theorem d_M_delete_4 : decode b_M_delete 4 = .ok (.ifCond .eq 11, 3) := by decide +kernel
theorem d_M_delete_7 : decode b_M_delete 7 = .ok (.aload_n 0, 1) := by decide +kernel
theorem d_M_delete_8 : decode b_M_delete 8 = .ok (.iconst 1, 1) := by decide +kernel
theorem d_M_delete_9 : decode b_M_delete 9 = .ok (.iload_n 1, 1) := by decide +kernel
theorem d_M_delete_10 : decode b_M_delete 10 = .ok (.lconst 0, 1) := by decide +kernel
theorem d_M_delete_11 : decode b_M_delete 11 = .ok (.invokevirtual 117, 3) := by decide +kernel
theorem d_M_delete_14 : decode b_M_delete 14 = .ok (.ireturn, 1) := by decide +kernel
theorem d_M_delete_15 : decode b_M_delete 15 = .ok (.aload_n 0, 1) := by decide +kernel
theorem d_M_delete_16 : decode b_M_delete 16 = .ok (.iload_n 1, 1) := by decide +kernel
theorem d_M_delete_17 : decode b_M_delete 17 = .ok (.invokevirtual 121, 3) := by decide +kernel
theorem d_M_delete_20 : decode b_M_delete 20 = .ok (.ifCond .ne 5, 3) := by decide +kernel
theorem d_M_delete_23 : decode b_M_delete 23 = .ok (.iconst 0, 1) := by decide +kernel
theorem d_M_delete_24 : decode b_M_delete 24 = .ok (.ireturn, 1) := by decide +kernel
theorem d_M_delete_25 : decode b_M_delete 25 = .ok (.aload_n 0, 1) := by decide +kernel
theorem d_M_delete_26 : decode b_M_delete 26 = .ok (.iconst 1, 1) := by decide +kernel
theorem d_M_delete_27 : decode b_M_delete 27 = .ok (.iload_n 1, 1) := by decide +kernel
theorem d_M_delete_28 : decode b_M_delete 28 = .ok (.lconst 0, 1) := by decide +kernel
theorem d_M_delete_29 : decode b_M_delete 29 = .ok (.aload_n 0, 1) := by decide +kernel
theorem d_M_delete_30 : decode b_M_delete 30 = .ok (.getfield 66, 3) := by decide +kernel
theorem d_M_delete_33 : decode b_M_delete 33 = .ok (.invokevirtual 125, 3) := by decide +kernel
theorem d_M_delete_36 : decode b_M_delete 36 = .ok (.aload_n 0, 1) := by decide +kernel
theorem d_M_delete_37 : decode b_M_delete 37 = .ok (.aload_n 0, 1) := by decide +kernel
theorem d_M_delete_38 : decode b_M_delete 38 = .ok (.getfield 66, 3) := by decide +kernel
theorem d_M_delete_41 : decode b_M_delete 41 = .ok (.iconst 1, 1) := by decide +kernel
theorem d_M_delete_42 : decode b_M_delete 42 = .ok (.isub, 1) := by decide +kernel
theorem d_M_delete_43 : decode b_M_delete 43 = .ok (.invokevirtual 129, 3) := by decide +kernel
theorem d_M_delete_46 : decode b_M_delete 46 = .ok (.ifCond .eq 7, 3) := by decide +kernel
theorem d_M_delete_49 : decode b_M_delete 49 = .ok (.iconst 1, 1) := by decide +kernel
theorem d_M_delete_50 : decode b_M_delete 50 = .ok (.goto 4, 3) := by decide +kernel
theorem d_M_delete_53 : decode b_M_delete 53 = .ok (.iconst 0, 1) := by decide +kernel
theorem d_M_delete_54 : decode b_M_delete 54 = .ok (.ireturn, 1) := by decide +kernel
theorem d_M_open_0 : decode b_M_open 0 = .ok (.aload_n 0, 1) := by decide +kernel
theorem d_M_open_1 : decode b_M_open 1 = .ok (.getfield 113, 3) := by decide +kernel
theorem d_M_open_4 : decode b_M_open 4 = .ok (.ifCond .eq 5, 3) := by decide +kernel
theorem d_M_open_7 : decode b_M_open 7 = .ok (.iconst 0, 1) := by decide +kernel
theorem d_M_open_8 : decode b_M_open 8 = .ok (.ireturn, 1) := by decide +kernel
theorem d_M_open_9 : decode b_M_open 9 = .ok (.aload_n 0, 1) := by decide +kernel
theorem d_M_open_10 : decode b_M_open 10 = .ok (.iconst 1, 1) := by decide +kernel
theorem d_M_open_11 : decode b_M_open 11 = .ok (.putfield 113, 3) := by decide +kernel
theorem d_M_open_14 : decode b_M_open 14 = .ok (.aload_n 0, 1) := by decide +kernel
theorem d_M_open_15 : decode b_M_open 15 = .ok (.iconst 0, 1) := by decide +kernel
theorem d_M_open_16 : decode b_M_open 16 = .ok (.putfield 110, 3) := by decide +kernel
theorem d_M_open_19 : decode b_M_open 19 = .ok (.iconst 1, 1) := by decide +kernel
theorem d_M_open_20 : decode b_M_open 20 = .ok (.ireturn, 1) := by decide +kernel
theorem d_M_commit_0 : decode b_M_commit 0 = .ok (.aload_n 0, 1) := by decide +kernel
theorem d_M_commit_1 : decode b_M_commit 1 = .ok (.getfield 113, 3) := by decide +kernel
theorem d_M_commit_4 : decode b_M_commit 4 = .ok (.ifCond .ne 5, 3) := by decide +kernel
theorem d_M_commit_7 : decode b_M_commit 7 = .ok (.iconst (-1), 1) := by decide +kernel
theorem d_M_commit_8 : decode b_M_commit 8 = .ok (.ireturn, 1) := by decide +kernel
theorem d_M_commit_9 : decode b_M_commit 9 = .ok (.aload_n 0, 1) := by decide +kernel
theorem d_M_commit_10 : decode b_M_commit 10 = .ok (.iconst 0, 1) := by decide +kernel
theorem d_M_commit_11 : decode b_M_commit 11 = .ok (.putfield 113, 3) := by decide +kernel
theorem d_M_commit_14 : decode b_M_commit 14 = .ok (.aload_n 0, 1) := by decide +kernel
theorem d_M_commit_15 : decode b_M_commit 15 = .ok (.getfield 66, 3) := by decide +kernel
theorem d_M_commit_18 : decode b_M_commit 18 = .ok (.istore_n 1, 1) := by decide +kernel
theorem d_M_commit_19 : decode b_M_commit 19 = .ok (.iconst 0, 1) := by decide +kernel
theorem d_M_commit_20 : decode b_M_commit 20 = .ok (.istore_n 2, 1) := by decide +kernel
theorem d_M_commit_21 : decode b_M_commit 21 = .ok (.iload_n 2, 1) := by decide +kernel
theorem d_M_commit_22 : decode b_M_commit 22 = .ok (.aload_n 0, 1) := by decide +kernel
theorem d_M_commit_23 : decode b_M_commit 23 = .ok (.getfield 110, 3) := by decide +kernel
theorem d_M_commit_26 : decode b_M_commit 26 = .ok (.if_icmp .ge 32, 3) := by decide +kernel
theorem d_M_commit_29 : decode b_M_commit 29 = .ok (.aload_n 0, 1) := by decide +kernel
theorem d_M_commit_30 : decode b_M_commit 30 = .ok (.aload_n 0, 1) := by decide +kernel
theorem d_M_commit_31 : decode b_M_commit 31 = .ok (.getfield 29, 3) := by decide +kernel
theorem d_M_commit_34 : decode b_M_commit 34 = .ok (.iload_n 2, 1) := by decide +kernel
theorem d_M_commit_35 : decode b_M_commit 35 = .ok (.iaload, 1) := by decide +kernel
theorem d_M_commit_36 : decode b_M_commit 36 = .ok (.aload_n 0, 1) := by decide +kernel
theorem d_M_commit_37 : decode b_M_commit 37 = .ok (.getfield 32, 3) := by decide +kernel
theorem d_M_commit_40 : decode b_M_commit 40 = .ok (.iload_n 2, 1) := by decide +kernel
theorem d_M_commit_41 : decode b_M_commit 41 = .ok (.iaload, 1) := by decide +kernel
theorem d_M_commit_42 : decode b_M_commit 42 = .ok (.aload_n 0, 1) := by decide +kernel
theorem d_M_commit_43 : decode b_M_commit 43 = .ok (.getfield 35, 3) := by decide +kernel
theorem d_M_commit_46 : decode b_M_commit 46 = .ok (.iload_n 2, 1) := by decide +kernel
theorem d_M_commit_47 : decode b_M_commit 47 = .ok (.laload, 1) := by decide +kernel
theorem d_M_commit_48 : decode b_M_commit 48 = .ok (.iload_n 1, 1) := by decide +kernel
theorem d_M_commit_49 : decode b_M_commit 49 = .ok (.invokevirtual 125, 3) := by decide +kernel
theorem d_M_commit_52 : decode b_M_commit 52 = .ok (.iinc 2 1, 3) := by decide +kernel
theorem d_M_commit_55 : decode b_M_commit 55 = .ok (.goto (-34), 3) := by decide +kernel
theorem d_M_commit_58 : decode b_M_commit 58 = .ok (.aload_n 0, 1) := by decide +kernel
theorem d_M_commit_59 : decode b_M_commit 59 = .ok (.iconst 2, 1) := by decide +kernel
theorem d_M_commit_60 : decode b_M_commit 60 = .ok (.iconst 0, 1) := by decide +kernel
theorem d_M_commit_61 : decode b_M_commit 61 = .ok (.lconst 0, 1) := by decide +kernel
theorem d_M_commit_62 : decode b_M_commit 62 = .ok (.iload_n 1, 1) := by decide +kernel
theorem d_M_commit_63 : decode b_M_commit 63 = .ok (.invokevirtual 125, 3) := by decide +kernel
theorem d_M_commit_66 : decode b_M_commit 66 = .ok (.aload_n 0, 1) := by decide +kernel
theorem d_M_commit_67 : decode b_M_commit 67 = .ok (.iload_n 1, 1) := by decide +kernel
theorem d_M_commit_68 : decode b_M_commit 68 = .ok (.invokevirtual 129, 3) := by decide +kernel
theorem d_M_commit_71 : decode b_M_commit 71 = .ok (.ifCond .eq 12, 3) := by decide +kernel
theorem d_M_commit_74 : decode b_M_commit 74 = .ok (.aload_n 0, 1) := by decide +kernel
theorem d_M_commit_75 : decode b_M_commit 75 = .ok (.getfield 110, 3) := by decide +kernel
theorem d_M_commit_78 : decode b_M_commit 78 = .ok (.iconst 1, 1) := by decide +kernel
theorem d_M_commit_79 : decode b_M_commit 79 = .ok (.iadd, 1) := by decide +kernel
theorem d_M_commit_80 : decode b_M_commit 80 = .ok (.goto 4, 3) := by decide +kernel
theorem d_M_commit_83 : decode b_M_commit 83 = .ok (.iconst 0, 1) := by decide +kernel
theorem d_M_commit_84 : decode b_M_commit 84 = .ok (.ireturn, 1) := by decide +kernel
theorem d_M_abandon_0 : decode b_M_abandon 0 = .ok (.aload_n 0, 1) := by decide +kernel
theorem d_M_abandon_1 : decode b_M_abandon 1 = .ok (.getfield 113, 3) := by decide +kernel
theorem d_M_abandon_4 : decode b_M_abandon 4 = .ok (.ifCond .ne 5, 3) := by decide +kernel
theorem d_M_abandon_7 : decode b_M_abandon 7 = .ok (.iconst (-1), 1) := by decide +kernel
theorem d_M_abandon_8 : decode b_M_abandon 8 = .ok (.ireturn, 1) := by decide +kernel
theorem d_M_abandon_9 : decode b_M_abandon 9 = .ok (.aload_n 0, 1) := by decide +kernel
theorem d_M_abandon_10 : decode b_M_abandon 10 = .ok (.iconst 0, 1) := by decide +kernel
theorem d_M_abandon_11 : decode b_M_abandon 11 = .ok (.putfield 113, 3) := by decide +kernel
theorem d_M_abandon_14 : decode b_M_abandon 14 = .ok (.aload_n 0, 1) := by decide +kernel
theorem d_M_abandon_15 : decode b_M_abandon 15 = .ok (.getfield 110, 3) := by decide +kernel
theorem d_M_abandon_18 : decode b_M_abandon 18 = .ok (.ireturn, 1) := by decide +kernel
theorem d_M_flush_0 : decode b_M_flush 0 = .ok (.aload_n 0, 1) := by decide +kernel
theorem d_M_flush_1 : decode b_M_flush 1 = .ok (.getfield 66, 3) := by decide +kernel
theorem d_M_flush_4 : decode b_M_flush 4 = .ok (.istore_n 1, 1) := by decide +kernel
theorem d_M_flush_5 : decode b_M_flush 5 = .ok (.aload_n 0, 1) := by decide +kernel
theorem d_M_flush_6 : decode b_M_flush 6 = .ok (.iload_n 1, 1) := by decide +kernel
theorem d_M_flush_7 : decode b_M_flush 7 = .ok (.invokevirtual 79, 3) := by decide +kernel
theorem d_M_flush_10 : decode b_M_flush 10 = .ok (.iload_n 1, 1) := by decide +kernel
theorem d_M_flush_11 : decode b_M_flush 11 = .ok (.ireturn, 1) := by decide +kernel
theorem d_M_crash_0 : decode b_M_crash 0 = .ok (.aload_n 0, 1) := by decide +kernel
theorem d_M_crash_1 : decode b_M_crash 1 = .ok (.iconst 0, 1) := by decide +kernel
theorem d_M_crash_2 : decode b_M_crash 2 = .ok (.putfield 113, 3) := by decide +kernel
theorem d_M_crash_5 : decode b_M_crash 5 = .ok (.iload_n 1, 1) := by decide +kernel
theorem d_M_crash_6 : decode b_M_crash 6 = .ok (.ifCond .ge 7, 3) := by decide +kernel
theorem d_M_crash_9 : decode b_M_crash 9 = .ok (.iconst 0, 1) := by decide +kernel
theorem d_M_crash_10 : decode b_M_crash 10 = .ok (.goto 19, 3) := by decide +kernel
theorem d_M_crash_13 : decode b_M_crash 13 = .ok (.iload_n 1, 1) := by decide +kernel
theorem d_M_crash_14 : decode b_M_crash 14 = .ok (.aload_n 0, 1) := by decide +kernel
theorem d_M_crash_15 : decode b_M_crash 15 = .ok (.getfield 66, 3) := by decide +kernel
theorem d_M_crash_18 : decode b_M_crash 18 = .ok (.if_icmp .le 10, 3) := by decide +kernel
theorem d_M_crash_21 : decode b_M_crash 21 = .ok (.aload_n 0, 1) := by decide +kernel
theorem d_M_crash_22 : decode b_M_crash 22 = .ok (.getfield 66, 3) := by decide +kernel
theorem d_M_crash_25 : decode b_M_crash 25 = .ok (.goto 4, 3) := by decide +kernel
theorem d_M_crash_28 : decode b_M_crash 28 = .ok (.iload_n 1, 1) := by decide +kernel
theorem d_M_crash_29 : decode b_M_crash 29 = .ok (.istore_n 2, 1) := by decide +kernel
theorem d_M_crash_30 : decode b_M_crash 30 = .ok (.iload_n 2, 1) := by decide +kernel
theorem d_M_crash_31 : decode b_M_crash 31 = .ok (.aload_n 0, 1) := by decide +kernel
theorem d_M_crash_32 : decode b_M_crash 32 = .ok (.getfield 66, 3) := by decide +kernel
theorem d_M_crash_35 : decode b_M_crash 35 = .ok (.if_icmp .ge 12, 3) := by decide +kernel
theorem d_M_crash_38 : decode b_M_crash 38 = .ok (.aload_n 0, 1) := by decide +kernel
theorem d_M_crash_39 : decode b_M_crash 39 = .ok (.getfield 26, 3) := by decide +kernel
theorem d_M_crash_42 : decode b_M_crash 42 = .ok (.iload_n 2, 1) := by decide +kernel
theorem d_M_crash_43 : decode b_M_crash 43 = .ok (.iaload, 1) := by decide +kernel
theorem d_M_crash_44 : decode b_M_crash 44 = .ok (.goto 7, 3) := by decide +kernel
theorem d_M_crash_47 : decode b_M_crash 47 = .ok (.aload_n 0, 1) := by decide +kernel
theorem d_M_crash_48 : decode b_M_crash 48 = .ok (.getfield 66, 3) := by decide +kernel
theorem d_M_crash_51 : decode b_M_crash 51 = .ok (.istore_n 3, 1) := by decide +kernel
theorem d_M_crash_52 : decode b_M_crash 52 = .ok (.aload_n 0, 1) := by decide +kernel
theorem d_M_crash_53 : decode b_M_crash 53 = .ok (.getfield 66, 3) := by decide +kernel
theorem d_M_crash_56 : decode b_M_crash 56 = .ok (.iload_n 3, 1) := by decide +kernel
theorem d_M_crash_57 : decode b_M_crash 57 = .ok (.isub, 1) := by decide +kernel
theorem d_M_crash_58 : decode b_M_crash 58 = .ok (.istore 4, 2) := by decide +kernel
theorem d_M_crash_60 : decode b_M_crash 60 = .ok (.aload_n 0, 1) := by decide +kernel
theorem d_M_crash_61 : decode b_M_crash 61 = .ok (.iload_n 3, 1) := by decide +kernel
theorem d_M_crash_62 : decode b_M_crash 62 = .ok (.putfield 66, 3) := by decide +kernel
theorem d_M_crash_65 : decode b_M_crash 65 = .ok (.aload_n 0, 1) := by decide +kernel
theorem d_M_crash_66 : decode b_M_crash 66 = .ok (.iload_n 3, 1) := by decide +kernel
theorem d_M_crash_67 : decode b_M_crash 67 = .ok (.invokevirtual 79, 3) := by decide +kernel
theorem d_M_crash_70 : decode b_M_crash 70 = .ok (.iload 4, 2) := by decide +kernel
theorem d_M_crash_72 : decode b_M_crash 72 = .ok (.ireturn, 1) := by decide +kernel
theorem d_M_get_0 : decode b_M_get 0 = .ok (.aload_n 0, 1) := by decide +kernel
theorem d_M_get_1 : decode b_M_get 1 = .ok (.invokevirtual 72, 3) := by decide +kernel
theorem d_M_get_4 : decode b_M_get 4 = .ok (.aload_n 0, 1) := by decide +kernel
theorem d_M_get_5 : decode b_M_get 5 = .ok (.iload_n 1, 1) := by decide +kernel
theorem d_M_get_6 : decode b_M_get 6 = .ok (.invokevirtual 51, 3) := by decide +kernel
theorem d_M_get_9 : decode b_M_get 9 = .ok (.istore_n 2, 1) := by decide +kernel
theorem d_M_get_10 : decode b_M_get 10 = .ok (.iload_n 2, 1) := by decide +kernel
theorem d_M_get_11 : decode b_M_get 11 = .ok (.ifCond .ge 7, 3) := by decide +kernel
theorem d_M_get_14 : decode b_M_get 14 = .ok (.lconst 0, 1) := by decide +kernel
theorem d_M_get_15 : decode b_M_get 15 = .ok (.goto 9, 3) := by decide +kernel
theorem d_M_get_18 : decode b_M_get 18 = .ok (.aload_n 0, 1) := by decide +kernel
theorem d_M_get_19 : decode b_M_get 19 = .ok (.getfield 41, 3) := by decide +kernel
theorem d_M_get_22 : decode b_M_get 22 = .ok (.iload_n 2, 1) := by decide +kernel
theorem d_M_get_23 : decode b_M_get 23 = .ok (.laload, 1) := by decide +kernel
theorem d_M_get_24 : decode b_M_get 24 = .ok (.lreturn, 1) := by decide +kernel
theorem d_M_reads_0 : decode b_M_reads 0 = .ok (.aload_n 0, 1) := by decide +kernel
theorem d_M_reads_1 : decode b_M_reads 1 = .ok (.invokevirtual 72, 3) := by decide +kernel
theorem d_M_reads_4 : decode b_M_reads 4 = .ok (.aload_n 0, 1) := by decide +kernel
theorem d_M_reads_5 : decode b_M_reads 5 = .ok (.iload_n 1, 1) := by decide +kernel
theorem d_M_reads_6 : decode b_M_reads 6 = .ok (.invokevirtual 132, 3) := by decide +kernel
theorem d_M_reads_9 : decode b_M_reads 9 = .ok (.istore_n 2, 1) := by decide +kernel
theorem d_M_reads_10 : decode b_M_reads 10 = .ok (.aload_n 0, 1) := by decide +kernel
theorem d_M_reads_11 : decode b_M_reads 11 = .ok (.iload_n 2, 1) := by decide +kernel
theorem d_M_reads_12 : decode b_M_reads 12 = .ok (.invokevirtual 97, 3) := by decide +kernel
theorem d_M_reads_15 : decode b_M_reads 15 = .ok (.istore_n 3, 1) := by decide +kernel
theorem d_M_reads_16 : decode b_M_reads 16 = .ok (.aload_n 0, 1) := by decide +kernel
theorem d_M_reads_17 : decode b_M_reads 17 = .ok (.iload_n 3, 1) := by decide +kernel
theorem d_M_reads_18 : decode b_M_reads 18 = .ok (.iload_n 2, 1) := by decide +kernel
theorem d_M_reads_19 : decode b_M_reads 19 = .ok (.invokevirtual 103, 3) := by decide +kernel
theorem d_M_reads_22 : decode b_M_reads 22 = .ok (.istore 4, 2) := by decide +kernel
theorem d_M_reads_24 : decode b_M_reads 24 = .ok (.iconst 0, 1) := by decide +kernel
theorem d_M_reads_25 : decode b_M_reads 25 = .ok (.istore 5, 2) := by decide +kernel
theorem d_M_reads_27 : decode b_M_reads 27 = .ok (.iconst 0, 1) := by decide +kernel
theorem d_M_reads_28 : decode b_M_reads 28 = .ok (.istore 6, 2) := by decide +kernel
theorem d_M_reads_30 : decode b_M_reads 30 = .ok (.iconst 1, 1) := by decide +kernel
theorem d_M_reads_31 : decode b_M_reads 31 = .ok (.istore 7, 2) := by decide +kernel
theorem d_M_reads_33 : decode b_M_reads 33 = .ok (.iconst 0, 1) := by decide +kernel
theorem d_M_reads_34 : decode b_M_reads 34 = .ok (.istore 8, 2) := by decide +kernel
theorem d_M_reads_36 : decode b_M_reads 36 = .ok (.iload 8, 2) := by decide +kernel
theorem d_M_reads_38 : decode b_M_reads 38 = .ok (.aload_n 0, 1) := by decide +kernel
theorem d_M_reads_39 : decode b_M_reads 39 = .ok (.getfield 48, 3) := by decide +kernel
theorem d_M_reads_42 : decode b_M_reads 42 = .ok (.if_icmp .ge 113, 3) := by decide +kernel
theorem d_M_reads_45 : decode b_M_reads 45 = .ok (.iload 7, 2) := by decide +kernel
theorem d_M_reads_47 : decode b_M_reads 47 = .ok (.ifCond .eq 108, 3) := by decide +kernel
theorem d_M_reads_50 : decode b_M_reads 50 = .ok (.aload_n 0, 1) := by decide +kernel
theorem d_M_reads_51 : decode b_M_reads 51 = .ok (.aload_n 0, 1) := by decide +kernel
theorem d_M_reads_52 : decode b_M_reads 52 = .ok (.aload_n 0, 1) := by decide +kernel
theorem d_M_reads_53 : decode b_M_reads 53 = .ok (.getfield 38, 3) := by decide +kernel
theorem d_M_reads_56 : decode b_M_reads 56 = .ok (.iload 8, 2) := by decide +kernel
theorem d_M_reads_58 : decode b_M_reads 58 = .ok (.iaload, 1) := by decide +kernel
theorem d_M_reads_59 : decode b_M_reads 59 = .ok (.invokevirtual 82, 3) := by decide +kernel
theorem d_M_reads_62 : decode b_M_reads 62 = .ok (.iload_n 3, 1) := by decide +kernel
theorem d_M_reads_63 : decode b_M_reads 63 = .ok (.iload_n 2, 1) := by decide +kernel
theorem d_M_reads_64 : decode b_M_reads 64 = .ok (.invokevirtual 85, 3) := by decide +kernel
theorem d_M_reads_67 : decode b_M_reads 67 = .ok (.ifCond .eq 82, 3) := by decide +kernel
theorem d_M_reads_70 : decode b_M_reads 70 = .ok (.iload 5, 2) := by decide +kernel
theorem d_M_reads_72 : decode b_M_reads 72 = .ok (.iconst 4, 1) := by decide +kernel
theorem d_M_reads_73 : decode b_M_reads 73 = .ok (.irem, 1) := by decide +kernel
theorem d_M_reads_74 : decode b_M_reads 74 = .ok (.ifCond .ne 10, 3) := by decide +kernel
theorem d_M_reads_77 : decode b_M_reads 77 = .ok (.iload 6, 2) := by decide +kernel
theorem d_M_reads_79 : decode b_M_reads 79 = .ok (.iconst 1, 1) := by decide +kernel
theorem d_M_reads_80 : decode b_M_reads 80 = .ok (.iadd, 1) := by decide +kernel
theorem d_M_reads_81 : decode b_M_reads 81 = .ok (.goto 5, 3) := by decide +kernel
theorem d_M_reads_84 : decode b_M_reads 84 = .ok (.iload 6, 2) := by decide +kernel
theorem d_M_reads_86 : decode b_M_reads 86 = .ok (.istore 6, 2) := by decide +kernel
theorem d_M_reads_88 : decode b_M_reads 88 = .ok (.iload 5, 2) := by decide +kernel
theorem d_M_reads_90 : decode b_M_reads 90 = .ok (.iconst 1, 1) := by decide +kernel
theorem d_M_reads_91 : decode b_M_reads 91 = .ok (.iadd, 1) := by decide +kernel
theorem d_M_reads_92 : decode b_M_reads 92 = .ok (.istore 5, 2) := by decide +kernel
theorem d_M_reads_94 : decode b_M_reads 94 = .ok (.iload 5, 2) := by decide +kernel
theorem d_M_reads_96 : decode b_M_reads 96 = .ok (.iconst 4, 1) := by decide +kernel
theorem d_M_reads_97 : decode b_M_reads 97 = .ok (.irem, 1) := by decide +kernel
theorem d_M_reads_98 : decode b_M_reads 98 = .ok (.ifCond .eq 10, 3) := by decide +kernel
theorem d_M_reads_101 : decode b_M_reads 101 = .ok (.iload 5, 2) := by decide +kernel
theorem d_M_reads_103 : decode b_M_reads 103 = .ok (.iload 4, 2) := by decide +kernel
theorem d_M_reads_105 : decode b_M_reads 105 = .ok (.if_icmp .ne 7, 3) := by decide +kernel
theorem d_M_reads_108 : decode b_M_reads 108 = .ok (.iconst 1, 1) := by decide +kernel
theorem d_M_reads_109 : decode b_M_reads 109 = .ok (.goto 4, 3) := by decide +kernel
theorem d_M_reads_112 : decode b_M_reads 112 = .ok (.iconst 0, 1) := by decide +kernel
theorem d_M_reads_113 : decode b_M_reads 113 = .ok (.istore 9, 2) := by decide +kernel
theorem d_M_reads_115 : decode b_M_reads 115 = .ok (.aload_n 0, 1) := by decide +kernel
theorem d_M_reads_116 : decode b_M_reads 116 = .ok (.getfield 38, 3) := by decide +kernel
theorem d_M_reads_119 : decode b_M_reads 119 = .ok (.iload 8, 2) := by decide +kernel
theorem d_M_reads_121 : decode b_M_reads 121 = .ok (.iaload, 1) := by decide +kernel
theorem d_M_reads_122 : decode b_M_reads 122 = .ok (.iload_n 1, 1) := by decide +kernel
theorem d_M_reads_123 : decode b_M_reads 123 = .ok (.if_icmp .eq 23, 3) := by decide +kernel
theorem d_M_reads_126 : decode b_M_reads 126 = .ok (.iload 9, 2) := by decide +kernel
theorem d_M_reads_128 : decode b_M_reads 128 = .ok (.ifCond .eq 14, 3) := by decide +kernel
theorem d_M_reads_131 : decode b_M_reads 131 = .ok (.aload_n 0, 1) := by decide +kernel
theorem d_M_reads_132 : decode b_M_reads 132 = .ok (.getfield 38, 3) := by decide +kernel
theorem d_M_reads_135 : decode b_M_reads 135 = .ok (.iload 8, 2) := by decide +kernel
theorem d_M_reads_137 : decode b_M_reads 137 = .ok (.iaload, 1) := by decide +kernel
theorem d_M_reads_138 : decode b_M_reads 138 = .ok (.iload_n 1, 1) := by decide +kernel
theorem d_M_reads_139 : decode b_M_reads 139 = .ok (.if_icmp .gt 7, 3) := by decide +kernel
theorem d_M_reads_142 : decode b_M_reads 142 = .ok (.iconst 1, 1) := by decide +kernel
theorem d_M_reads_143 : decode b_M_reads 143 = .ok (.goto 4, 3) := by decide +kernel
theorem d_M_reads_146 : decode b_M_reads 146 = .ok (.iconst 0, 1) := by decide +kernel
theorem d_M_reads_147 : decode b_M_reads 147 = .ok (.istore 7, 2) := by decide +kernel
theorem d_M_reads_149 : decode b_M_reads 149 = .ok (.iinc 8 1, 3) := by decide +kernel
theorem d_M_reads_152 : decode b_M_reads 152 = .ok (.goto (-116), 3) := by decide +kernel
theorem d_M_reads_155 : decode b_M_reads 155 = .ok (.aload_n 0, 1) := by decide +kernel
theorem d_M_reads_156 : decode b_M_reads 156 = .ok (.iload_n 1, 1) := by decide +kernel
theorem d_M_reads_157 : decode b_M_reads 157 = .ok (.invokevirtual 51, 3) := by decide +kernel
theorem d_M_reads_160 : decode b_M_reads 160 = .ok (.istore 8, 2) := by decide +kernel
theorem d_M_reads_162 : decode b_M_reads 162 = .ok (.iconst 1, 1) := by decide +kernel
theorem d_M_reads_163 : decode b_M_reads 163 = .ok (.iload 4, 2) := by decide +kernel
theorem d_M_reads_165 : decode b_M_reads 165 = .ok (.ifCond .ne 7, 3) := by decide +kernel
theorem d_M_reads_168 : decode b_M_reads 168 = .ok (.iconst 1, 1) := by decide +kernel
theorem d_M_reads_169 : decode b_M_reads 169 = .ok (.goto 5, 3) := by decide +kernel
theorem d_M_reads_172 : decode b_M_reads 172 = .ok (.iload 6, 2) := by decide +kernel
theorem d_M_reads_174 : decode b_M_reads 174 = .ok (.iadd, 1) := by decide +kernel
theorem d_M_reads_175 : decode b_M_reads 175 = .ok (.iload 8, 2) := by decide +kernel
theorem d_M_reads_177 : decode b_M_reads 177 = .ok (.ifCond .ge 7, 3) := by decide +kernel
theorem d_M_reads_180 : decode b_M_reads 180 = .ok (.iconst 0, 1) := by decide +kernel
theorem d_M_reads_181 : decode b_M_reads 181 = .ok (.goto 14, 3) := by decide +kernel
theorem d_M_reads_184 : decode b_M_reads 184 = .ok (.aload_n 0, 1) := by decide +kernel
theorem d_M_reads_185 : decode b_M_reads 185 = .ok (.aload_n 0, 1) := by decide +kernel
theorem d_M_reads_186 : decode b_M_reads 186 = .ok (.getfield 41, 3) := by decide +kernel
theorem d_M_reads_189 : decode b_M_reads 189 = .ok (.iload 8, 2) := by decide +kernel
theorem d_M_reads_191 : decode b_M_reads 191 = .ok (.laload, 1) := by decide +kernel
theorem d_M_reads_192 : decode b_M_reads 192 = .ok (.invokevirtual 107, 3) := by decide +kernel
theorem d_M_reads_195 : decode b_M_reads 195 = .ok (.iadd, 1) := by decide +kernel
theorem d_M_reads_196 : decode b_M_reads 196 = .ok (.ireturn, 1) := by decide +kernel
theorem d_M_bucketOf_0 : decode b_M_bucketOf 0 = .ok (.aload_n 0, 1) := by decide +kernel
theorem d_M_bucketOf_1 : decode b_M_bucketOf 1 = .ok (.iload_n 1, 1) := by decide +kernel
theorem d_M_bucketOf_2 : decode b_M_bucketOf 2 = .ok (.invokevirtual 82, 3) := by decide +kernel
theorem d_M_bucketOf_5 : decode b_M_bucketOf 5 = .ok (.istore_n 2, 1) := by decide +kernel
theorem d_M_bucketOf_6 : decode b_M_bucketOf 6 = .ok (.iconst 0, 1) := by decide +kernel
theorem d_M_bucketOf_7 : decode b_M_bucketOf 7 = .ok (.istore_n 3, 1) := by decide +kernel
theorem d_M_bucketOf_8 : decode b_M_bucketOf 8 = .ok (.iconst 0, 1) := by decide +kernel
theorem d_M_bucketOf_9 : decode b_M_bucketOf 9 = .ok (.istore 4, 2) := by decide +kernel
theorem d_M_bucketOf_11 : decode b_M_bucketOf 11 = .ok (.iload 4, 2) := by decide +kernel
theorem d_M_bucketOf_13 : decode b_M_bucketOf 13 = .ok (.bipush 64, 2) := by decide +kernel
theorem d_M_bucketOf_15 : decode b_M_bucketOf 15 = .ok (.if_icmp .ge 41, 3) := by decide +kernel
theorem d_M_bucketOf_18 : decode b_M_bucketOf 18 = .ok (.aload_n 0, 1) := by decide +kernel
theorem d_M_bucketOf_19 : decode b_M_bucketOf 19 = .ok (.iload 4, 2) := by decide +kernel
theorem d_M_bucketOf_21 : decode b_M_bucketOf 21 = .ok (.invokevirtual 97, 3) := by decide +kernel
theorem d_M_bucketOf_24 : decode b_M_bucketOf 24 = .ok (.istore 5, 2) := by decide +kernel
theorem d_M_bucketOf_26 : decode b_M_bucketOf 26 = .ok (.iload 5, 2) := by decide +kernel
theorem d_M_bucketOf_28 : decode b_M_bucketOf 28 = .ok (.ifCond .lt 20, 3) := by decide +kernel
theorem d_M_bucketOf_31 : decode b_M_bucketOf 31 = .ok (.aload_n 0, 1) := by decide +kernel
theorem d_M_bucketOf_32 : decode b_M_bucketOf 32 = .ok (.iload_n 2, 1) := by decide +kernel
theorem d_M_bucketOf_33 : decode b_M_bucketOf 33 = .ok (.iload 5, 2) := by decide +kernel
theorem d_M_bucketOf_35 : decode b_M_bucketOf 35 = .ok (.iload 4, 2) := by decide +kernel
theorem d_M_bucketOf_37 : decode b_M_bucketOf 37 = .ok (.invokevirtual 85, 3) := by decide +kernel
theorem d_M_bucketOf_40 : decode b_M_bucketOf 40 = .ok (.ifCond .eq 8, 3) := by decide +kernel
theorem d_M_bucketOf_43 : decode b_M_bucketOf 43 = .ok (.iload 4, 2) := by decide +kernel
theorem d_M_bucketOf_45 : decode b_M_bucketOf 45 = .ok (.goto 4, 3) := by decide +kernel
theorem d_M_bucketOf_48 : decode b_M_bucketOf 48 = .ok (.iload_n 3, 1) := by decide +kernel
theorem d_M_bucketOf_49 : decode b_M_bucketOf 49 = .ok (.istore_n 3, 1) := by decide +kernel
theorem d_M_bucketOf_50 : decode b_M_bucketOf 50 = .ok (.iinc 4 1, 3) := by decide +kernel
theorem d_M_bucketOf_53 : decode b_M_bucketOf 53 = .ok (.goto (-42), 3) := by decide +kernel
theorem d_M_bucketOf_56 : decode b_M_bucketOf 56 = .ok (.iload_n 3, 1) := by decide +kernel
theorem d_M_bucketOf_57 : decode b_M_bucketOf 57 = .ok (.ireturn, 1) := by decide +kernel
theorem d_M_unflushed_0 : decode b_M_unflushed 0 = .ok (.aload_n 0, 1) := by decide +kernel
theorem d_M_unflushed_1 : decode b_M_unflushed 1 = .ok (.getfield 66, 3) := by decide +kernel
theorem d_M_unflushed_4 : decode b_M_unflushed 4 = .ok (.ireturn, 1) := by decide +kernel
theorem d_M_steps_0 : decode b_M_steps 0 = .ok (.aload_n 0, 1) := by decide +kernel
theorem d_M_steps_1 : decode b_M_steps 1 = .ok (.getfield 113, 3) := by decide +kernel
theorem d_M_steps_4 : decode b_M_steps 4 = .ok (.ifCond .eq 10, 3) := by decide +kernel
theorem d_M_steps_7 : decode b_M_steps 7 = .ok (.aload_n 0, 1) := by decide +kernel
theorem d_M_steps_8 : decode b_M_steps 8 = .ok (.getfield 110, 3) := by decide +kernel
theorem d_M_steps_11 : decode b_M_steps 11 = .ok (.goto 4, 3) := by decide +kernel
theorem d_M_steps_14 : decode b_M_steps 14 = .ok (.iconst (-1), 1) := by decide +kernel
theorem d_M_steps_15 : decode b_M_steps 15 = .ok (.ireturn, 1) := by decide +kernel
theorem d_M_size_0 : decode b_M_size 0 = .ok (.aload_n 0, 1) := by decide +kernel
theorem d_M_size_1 : decode b_M_size 1 = .ok (.invokevirtual 72, 3) := by decide +kernel
theorem d_M_size_4 : decode b_M_size 4 = .ok (.aload_n 0, 1) := by decide +kernel
theorem d_M_size_5 : decode b_M_size 5 = .ok (.getfield 48, 3) := by decide +kernel
theorem d_M_size_8 : decode b_M_size 8 = .ok (.ireturn, 1) := by decide +kernel
theorem d_M_pages_0 : decode b_M_pages 0 = .ok (.aload_n 0, 1) := by decide +kernel
theorem d_M_pages_1 : decode b_M_pages 1 = .ok (.invokevirtual 72, 3) := by decide +kernel
theorem d_M_pages_4 : decode b_M_pages 4 = .ok (.aload_n 0, 1) := by decide +kernel
theorem d_M_pages_5 : decode b_M_pages 5 = .ok (.invokevirtual 75, 3) := by decide +kernel
theorem d_M_pages_8 : decode b_M_pages 8 = .ok (.ireturn, 1) := by decide +kernel
theorem d_M_globalDepth_0 : decode b_M_globalDepth 0 = .ok (.aload_n 0, 1) := by decide +kernel
theorem d_M_globalDepth_1 : decode b_M_globalDepth 1 = .ok (.invokevirtual 72, 3) := by decide +kernel
theorem d_M_globalDepth_4 : decode b_M_globalDepth 4 = .ok (.aload_n 0, 1) := by decide +kernel
theorem d_M_globalDepth_5 : decode b_M_globalDepth 5 = .ok (.invokevirtual 100, 3) := by decide +kernel
theorem d_M_globalDepth_8 : decode b_M_globalDepth 8 = .ok (.ireturn, 1) := by decide +kernel
theorem d_M_localDepth_0 : decode b_M_localDepth 0 = .ok (.aload_n 0, 1) := by decide +kernel
theorem d_M_localDepth_1 : decode b_M_localDepth 1 = .ok (.invokevirtual 72, 3) := by decide +kernel
theorem d_M_localDepth_4 : decode b_M_localDepth 4 = .ok (.aload_n 0, 1) := by decide +kernel
theorem d_M_localDepth_5 : decode b_M_localDepth 5 = .ok (.aload_n 0, 1) := by decide +kernel
theorem d_M_localDepth_6 : decode b_M_localDepth 6 = .ok (.iload_n 1, 1) := by decide +kernel
theorem d_M_localDepth_7 : decode b_M_localDepth 7 = .ok (.invokevirtual 132, 3) := by decide +kernel
theorem d_M_localDepth_10 : decode b_M_localDepth 10 = .ok (.invokevirtual 97, 3) := by decide +kernel
theorem d_M_localDepth_13 : decode b_M_localDepth 13 = .ok (.ireturn, 1) := by decide +kernel
theorem d_M_buckets_0 : decode b_M_buckets 0 = .ok (.aload_n 0, 1) := by decide +kernel
theorem d_M_buckets_1 : decode b_M_buckets 1 = .ok (.invokevirtual 72, 3) := by decide +kernel
theorem d_M_buckets_4 : decode b_M_buckets 4 = .ok (.iconst 0, 1) := by decide +kernel
theorem d_M_buckets_5 : decode b_M_buckets 5 = .ok (.istore_n 1, 1) := by decide +kernel
theorem d_M_buckets_6 : decode b_M_buckets 6 = .ok (.iconst 0, 1) := by decide +kernel
theorem d_M_buckets_7 : decode b_M_buckets 7 = .ok (.istore_n 2, 1) := by decide +kernel
theorem d_M_buckets_8 : decode b_M_buckets 8 = .ok (.iload_n 2, 1) := by decide +kernel
theorem d_M_buckets_9 : decode b_M_buckets 9 = .ok (.bipush 64, 2) := by decide +kernel
theorem d_M_buckets_11 : decode b_M_buckets 11 = .ok (.if_icmp .ge 25, 3) := by decide +kernel
theorem d_M_buckets_14 : decode b_M_buckets 14 = .ok (.aload_n 0, 1) := by decide +kernel
theorem d_M_buckets_15 : decode b_M_buckets 15 = .ok (.iload_n 2, 1) := by decide +kernel
theorem d_M_buckets_16 : decode b_M_buckets 16 = .ok (.invokevirtual 97, 3) := by decide +kernel
theorem d_M_buckets_19 : decode b_M_buckets 19 = .ok (.ifCond .lt 9, 3) := by decide +kernel
theorem d_M_buckets_22 : decode b_M_buckets 22 = .ok (.iload_n 1, 1) := by decide +kernel
theorem d_M_buckets_23 : decode b_M_buckets 23 = .ok (.iconst 1, 1) := by decide +kernel
theorem d_M_buckets_24 : decode b_M_buckets 24 = .ok (.iadd, 1) := by decide +kernel
theorem d_M_buckets_25 : decode b_M_buckets 25 = .ok (.goto 4, 3) := by decide +kernel
theorem d_M_buckets_28 : decode b_M_buckets 28 = .ok (.iload_n 1, 1) := by decide +kernel
theorem d_M_buckets_29 : decode b_M_buckets 29 = .ok (.istore_n 1, 1) := by decide +kernel
theorem d_M_buckets_30 : decode b_M_buckets 30 = .ok (.iinc 2 1, 3) := by decide +kernel
theorem d_M_buckets_33 : decode b_M_buckets 33 = .ok (.goto (-25), 3) := by decide +kernel
theorem d_M_buckets_36 : decode b_M_buckets 36 = .ok (.iload_n 1, 1) := by decide +kernel
theorem d_M_buckets_37 : decode b_M_buckets 37 = .ok (.ireturn, 1) := by decide +kernel
theorem d_M_bucketAt_0 : decode b_M_bucketAt 0 = .ok (.aload_n 0, 1) := by decide +kernel
theorem d_M_bucketAt_1 : decode b_M_bucketAt 1 = .ok (.invokevirtual 72, 3) := by decide +kernel
theorem d_M_bucketAt_4 : decode b_M_bucketAt 4 = .ok (.iconst 0, 1) := by decide +kernel
theorem d_M_bucketAt_5 : decode b_M_bucketAt 5 = .ok (.istore_n 2, 1) := by decide +kernel
theorem d_M_bucketAt_6 : decode b_M_bucketAt 6 = .ok (.iconst 0, 1) := by decide +kernel
theorem d_M_bucketAt_7 : decode b_M_bucketAt 7 = .ok (.istore_n 3, 1) := by decide +kernel
theorem d_M_bucketAt_8 : decode b_M_bucketAt 8 = .ok (.iload_n 3, 1) := by decide +kernel
theorem d_M_bucketAt_9 : decode b_M_bucketAt 9 = .ok (.bipush 64, 2) := by decide +kernel
theorem d_M_bucketAt_11 : decode b_M_bucketAt 11 = .ok (.if_icmp .ge 28, 3) := by decide +kernel
theorem d_M_bucketAt_14 : decode b_M_bucketAt 14 = .ok (.aload_n 0, 1) := by decide +kernel
theorem d_M_bucketAt_15 : decode b_M_bucketAt 15 = .ok (.iload_n 3, 1) := by decide +kernel
theorem d_M_bucketAt_16 : decode b_M_bucketAt 16 = .ok (.invokevirtual 97, 3) := by decide +kernel
theorem d_M_bucketAt_19 : decode b_M_bucketAt 19 = .ok (.ifCond .lt 14, 3) := by decide +kernel
theorem d_M_bucketAt_22 : decode b_M_bucketAt 22 = .ok (.iload_n 2, 1) := by decide +kernel
theorem d_M_bucketAt_23 : decode b_M_bucketAt 23 = .ok (.iload_n 1, 1) := by decide +kernel
theorem d_M_bucketAt_24 : decode b_M_bucketAt 24 = .ok (.if_icmp .ne 5, 3) := by decide +kernel
theorem d_M_bucketAt_27 : decode b_M_bucketAt 27 = .ok (.iload_n 3, 1) := by decide +kernel
theorem d_M_bucketAt_28 : decode b_M_bucketAt 28 = .ok (.ireturn, 1) := by decide +kernel
theorem d_M_bucketAt_29 : decode b_M_bucketAt 29 = .ok (.iload_n 2, 1) := by decide +kernel
theorem d_M_bucketAt_30 : decode b_M_bucketAt 30 = .ok (.iconst 1, 1) := by decide +kernel
theorem d_M_bucketAt_31 : decode b_M_bucketAt 31 = .ok (.iadd, 1) := by decide +kernel
theorem d_M_bucketAt_32 : decode b_M_bucketAt 32 = .ok (.istore_n 2, 1) := by decide +kernel
theorem d_M_bucketAt_33 : decode b_M_bucketAt 33 = .ok (.iinc 3 1, 3) := by decide +kernel
theorem d_M_bucketAt_36 : decode b_M_bucketAt 36 = .ok (.goto (-28), 3) := by decide +kernel
theorem d_M_bucketAt_39 : decode b_M_bucketAt 39 = .ok (.iconst (-1), 1) := by decide +kernel
theorem d_M_bucketAt_40 : decode b_M_bucketAt 40 = .ok (.ireturn, 1) := by decide +kernel
theorem d_M_keyAt_0 : decode b_M_keyAt 0 = .ok (.aload_n 0, 1) := by decide +kernel
theorem d_M_keyAt_1 : decode b_M_keyAt 1 = .ok (.invokevirtual 72, 3) := by decide +kernel
theorem d_M_keyAt_4 : decode b_M_keyAt 4 = .ok (.iconst 0, 1) := by decide +kernel
theorem d_M_keyAt_5 : decode b_M_keyAt 5 = .ok (.istore_n 2, 1) := by decide +kernel
theorem d_M_keyAt_6 : decode b_M_keyAt 6 = .ok (.iconst 0, 1) := by decide +kernel
theorem d_M_keyAt_7 : decode b_M_keyAt 7 = .ok (.istore_n 3, 1) := by decide +kernel
theorem d_M_keyAt_8 : decode b_M_keyAt 8 = .ok (.iload_n 3, 1) := by decide +kernel
theorem d_M_keyAt_9 : decode b_M_keyAt 9 = .ok (.bipush 64, 2) := by decide +kernel
theorem d_M_keyAt_11 : decode b_M_keyAt 11 = .ok (.if_icmp .ge 77, 3) := by decide +kernel
theorem d_M_keyAt_14 : decode b_M_keyAt 14 = .ok (.aload_n 0, 1) := by decide +kernel
theorem d_M_keyAt_15 : decode b_M_keyAt 15 = .ok (.iload_n 3, 1) := by decide +kernel
theorem d_M_keyAt_16 : decode b_M_keyAt 16 = .ok (.invokevirtual 97, 3) := by decide +kernel
theorem d_M_keyAt_19 : decode b_M_keyAt 19 = .ok (.istore 4, 2) := by decide +kernel
theorem d_M_keyAt_21 : decode b_M_keyAt 21 = .ok (.iconst 0, 1) := by decide +kernel
theorem d_M_keyAt_22 : decode b_M_keyAt 22 = .ok (.istore 5, 2) := by decide +kernel
theorem d_M_keyAt_24 : decode b_M_keyAt 24 = .ok (.iload 5, 2) := by decide +kernel
theorem d_M_keyAt_26 : decode b_M_keyAt 26 = .ok (.aload_n 0, 1) := by decide +kernel
theorem d_M_keyAt_27 : decode b_M_keyAt 27 = .ok (.getfield 48, 3) := by decide +kernel
theorem d_M_keyAt_30 : decode b_M_keyAt 30 = .ok (.if_icmp .ge 52, 3) := by decide +kernel
theorem d_M_keyAt_33 : decode b_M_keyAt 33 = .ok (.iload 4, 2) := by decide +kernel
theorem d_M_keyAt_35 : decode b_M_keyAt 35 = .ok (.ifCond .lt 47, 3) := by decide +kernel
theorem d_M_keyAt_38 : decode b_M_keyAt 38 = .ok (.aload_n 0, 1) := by decide +kernel
theorem d_M_keyAt_39 : decode b_M_keyAt 39 = .ok (.aload_n 0, 1) := by decide +kernel
theorem d_M_keyAt_40 : decode b_M_keyAt 40 = .ok (.aload_n 0, 1) := by decide +kernel
theorem d_M_keyAt_41 : decode b_M_keyAt 41 = .ok (.getfield 38, 3) := by decide +kernel
theorem d_M_keyAt_44 : decode b_M_keyAt 44 = .ok (.iload 5, 2) := by decide +kernel
theorem d_M_keyAt_46 : decode b_M_keyAt 46 = .ok (.iaload, 1) := by decide +kernel
theorem d_M_keyAt_47 : decode b_M_keyAt 47 = .ok (.invokevirtual 82, 3) := by decide +kernel
theorem d_M_keyAt_50 : decode b_M_keyAt 50 = .ok (.iload 4, 2) := by decide +kernel
theorem d_M_keyAt_52 : decode b_M_keyAt 52 = .ok (.iload_n 3, 1) := by decide +kernel
theorem d_M_keyAt_53 : decode b_M_keyAt 53 = .ok (.invokevirtual 85, 3) := by decide +kernel
theorem d_M_keyAt_56 : decode b_M_keyAt 56 = .ok (.ifCond .eq 20, 3) := by decide +kernel
theorem d_M_keyAt_59 : decode b_M_keyAt 59 = .ok (.iload_n 2, 1) := by decide +kernel
theorem d_M_keyAt_60 : decode b_M_keyAt 60 = .ok (.iload_n 1, 1) := by decide +kernel
theorem d_M_keyAt_61 : decode b_M_keyAt 61 = .ok (.if_icmp .ne 11, 3) := by decide +kernel
theorem d_M_keyAt_64 : decode b_M_keyAt 64 = .ok (.aload_n 0, 1) := by decide +kernel
theorem d_M_keyAt_65 : decode b_M_keyAt 65 = .ok (.getfield 38, 3) := by decide +kernel
theorem d_M_keyAt_68 : decode b_M_keyAt 68 = .ok (.iload 5, 2) := by decide +kernel
theorem d_M_keyAt_70 : decode b_M_keyAt 70 = .ok (.iaload, 1) := by decide +kernel
theorem d_M_keyAt_71 : decode b_M_keyAt 71 = .ok (.ireturn, 1) := by decide +kernel
theorem d_M_keyAt_72 : decode b_M_keyAt 72 = .ok (.iload_n 2, 1) := by decide +kernel
theorem d_M_keyAt_73 : decode b_M_keyAt 73 = .ok (.iconst 1, 1) := by decide +kernel
theorem d_M_keyAt_74 : decode b_M_keyAt 74 = .ok (.iadd, 1) := by decide +kernel
theorem d_M_keyAt_75 : decode b_M_keyAt 75 = .ok (.istore_n 2, 1) := by decide +kernel
theorem d_M_keyAt_76 : decode b_M_keyAt 76 = .ok (.iinc 5 1, 3) := by decide +kernel
theorem d_M_keyAt_79 : decode b_M_keyAt 79 = .ok (.goto (-55), 3) := by decide +kernel
theorem d_M_keyAt_82 : decode b_M_keyAt 82 = .ok (.iinc 3 1, 3) := by decide +kernel
theorem d_M_keyAt_85 : decode b_M_keyAt 85 = .ok (.goto (-77), 3) := by decide +kernel
theorem d_M_keyAt_88 : decode b_M_keyAt 88 = .ok (.iconst 0, 1) := by decide +kernel
theorem d_M_keyAt_89 : decode b_M_keyAt 89 = .ok (.ireturn, 1) := by decide +kernel
end
section
/-! My own rows over the kit's: numbers, booleans, arrays at natural places, calls. -/
def xb_i (b : Bool) : Int32 := if b then 1 else 0
theorem xb_0 {b : Bool} : xb_i b = 0 ↔ b = false := by cases b <;> decide
theorem xb_1 {b : Bool} : ¬ xb_i b = 0 ↔ b = true := by cases b <;> decide
theorem xb_nar (b : Bool) : narrow .boolean (.int (xb_i b)) = .int (xb_i b) := by cases b <;> rfl
theorem xb_fit (b : Bool) : fits .boolean (.int (xb_i b)) = true := by cases b <;> rfl
theorem xb_vp (b : Bool) : vp_nar .boolean (xb_i b) = xb_i b := by cases b <;> rfl
theorem xb_t : xb_i true = nI 1 := by decide
theorem xb_f : xb_i false = nI 0 := by decide
theorem xn_inc (a : Nat) : nI a + Int32.ofInt 1 = nI (a + 1) := by rw [show Int32.ofInt 1 = 1 from by decide]; exact nI_1 a
theorem xn_dec {a : Nat} (h : 0 < a) : nI a + Int32.ofInt (-1) = nI (a - 1) := by rw [show Int32.ofInt (-1) = -1 from by decide]; exact sb_m1 h
theorem xn_eq0 {n : Nat} (h : n < 2 ^ 31) : nI n = 0 ↔ n = 0 := by rw [← nI_0, nI_eq h (by decide)]
theorem xn_ne0 {n : Nat} (h : n < 2 ^ 31) : nI n = 0 ↔ n = 0 := xn_eq0 h
theorem xn_lt0 {n : Nat} (h : n < 2 ^ 31) : nI n < 0 ↔ n < 0 := by rw [← nI_0, nI_ltI h (by decide)]
theorem xn_ge0 {n : Nat} (h : n < 2 ^ 31) : 0 ≤ nI n ↔ 0 ≤ n := by rw [← nI_0, nI_leI (by decide) h]
theorem xn_gt0 {n : Nat} (h : n < 2 ^ 31) : 0 < nI n ↔ 0 < n := by rw [← nI_0, nI_ltI (by decide) h]
theorem xn_le0 {n : Nat} (h : n < 2 ^ 31) : nI n ≤ 0 ↔ n ≤ 0 := by rw [← nI_0, nI_leI h (by decide)]
theorem xn_max {a b : Nat} (ha : a < 2 ^ 31) (hb : b < 2 ^ 31) : (if nI a < nI b then nI b else nI a) = nI (max a b) := by
  simp only [nI_ltI ha hb]
  split
  · rw [Nat.max_eq_right (by omega)]
  · rw [Nat.max_eq_left (by omega)]
theorem xn_min {a b : Nat} (ha : a < 2 ^ 31) (hb : b < 2 ^ 31) : (if nI b < nI a then nI b else nI a) = nI (min a b) := by
  simp only [nI_ltI hb ha]
  split
  · rw [Nat.min_eq_right (by omega)]
  · rw [Nat.min_eq_left (by omega)]
theorem xa_D {A : Nat → Prop} {ws ws' : va_W} (h : ws'.map Prod.fst = ws.map Prod.fst) (hD : va_D A ws) : va_D A ws' := by
  have key : ∀ (i : Nat) (p : Nat × va_E), ws'[i]? = some p → ∃ p', ws[i]? = some p' ∧ p'.1 = p.1 := by
    intro i p hp
    have h1 : (ws'.map Prod.fst)[i]? = some p.1 := by rw [List.getElem?_map, hp]; rfl
    rw [h, List.getElem?_map] at h1
    cases hq : ws[i]? with
    | none => rw [hq] at h1; cases h1
    | some p' => rw [hq] at h1; exact ⟨p', rfl, Option.some.inj h1⟩
  refine ⟨fun i j p q hp hq e => ?_, fun k q hq => ?_⟩
  · obtain ⟨p', a1, b1⟩ := key i p hp
    obtain ⟨q', a2, b2⟩ := key j q hq
    exact hD.1 i j p' q' a1 a2 (by rw [b1, b2, e])
  · obtain ⟨q', a2, b2⟩ := key k q hq
    rw [← b2]
    exact hD.2 k q' a2
theorem xa_F {A : Nat → Prop} {w : va_W} {H0 H : Heap} {locs : List Loc} (hD : va_D A w) (hS : va_S A H0 H locs) (hA : ∀ q, H0.size ≤ q → A q) : ∀ q, va_A w H.size q → A q := fun q h => by
  rcases h with ⟨k, e, h⟩ | h
  · exact hD.2 k (q, e) h
  · exact hA q (Nat.le_trans hS.1 h)
section XA
variable {p : Program} {l : Launch} {e : Env} {R : Room} {s : State} {m : MethodId} {args : Array Value} {below : List Frame} {meth : Method} {c : Code} {H : Heap} {locs : List Loc} {cells slots : Nat} {Q : State → Prop}
variable {cc : ByteArray} {pc : Nat} {ls : Array Slot} {rest : List Value} {D : va_G} {cl : List vw_C} {A : Nat → Prop} {a : Nat} {tys : List (ClassId × FieldType)} {ws ws' : va_W} {H0 : Heap}
theorem xa_top {x y : Int32} (h : x = y) (k : W p l e R s m args below meth c H locs cells slots Q (F0 m pc ls (.int y :: rest))) : W p l e R s m args below meth c H locs cells slots Q (F0 m pc ls (.int x :: rest)) := by rw [h]; exact k
theorem xa_topl {x y : Int64} (h : x = y) (k : W p l e R s m args below meth c H locs cells slots Q (F0 m pc ls (.long y :: rest))) : W p l e R s m args below meth c H locs cells slots Q (F0 m pc ls (.long x :: rest)) := by rw [h]; exact k
theorem xa_iald (hexec : p.tables.exec = Jvm.exec) (hb : c.code = cc) (hK : va_K D cl tys s) (hP : va_P D cl ws H) (q0 t0 : Nat) {cA : ClassId} {n : Nat} {f : Nat → Int32} (ha : ws[q0]? = some (a, .inl (cA, n, .inl f))) (ht : tys[t0]? = some (cA, .int)) {k : Nat} (hk : k < n) (hn : n < 2 ^ 31) (hdg : decode cc pc = .ok (.iaload, 1))
    (kk : W p l e R s m args below meth c H locs cells slots Q (F0 m (pc + 1) ls (.int (f k) :: rest))) : W p l e R s m args below meth c H locs cells slots Q (F0 m pc ls (.int (nI k) :: .ref a :: rest)) := by
  refine va_iald hexec hb hK hP q0 t0 ha ht (vp_in_nI hk hn) hdg ?_
  rw [nI_clamp (by omega)]
  exact kk
theorem xa_zald (hexec : p.tables.exec = Jvm.exec) (hb : c.code = cc) (hK : va_K D cl tys s) (hP : va_P D cl ws H) (q0 t0 : Nat) {cA : ClassId} {n : Nat} {f : Nat → Int32} (ha : ws[q0]? = some (a, .inl (cA, n, .inl f))) (ht : tys[t0]? = some (cA, .boolean)) {k : Nat} (hk : k < n) (hn : n < 2 ^ 31) (hdg : decode cc pc = .ok (.baload, 1))
    (kk : W p l e R s m args below meth c H locs cells slots Q (F0 m (pc + 1) ls (.int (f k) :: rest))) : W p l e R s m args below meth c H locs cells slots Q (F0 m pc ls (.int (nI k) :: .ref a :: rest)) := by
  refine va_zald hexec hb hK hP q0 t0 ha ht (vp_in_nI hk hn) hdg ?_
  rw [nI_clamp (by omega)]
  exact kk
theorem xa_lald (hexec : p.tables.exec = Jvm.exec) (hb : c.code = cc) (hK : va_K D cl tys s) (hP : va_P D cl ws H) (q0 t0 : Nat) {cA : ClassId} {n : Nat} {f : Nat → Int64} (ha : ws[q0]? = some (a, .inl (cA, n, .inr (.inl f)))) (ht : tys[t0]? = some (cA, .long)) {k : Nat} (hk : k < n) (hn : n < 2 ^ 31) (hdg : decode cc pc = .ok (.laload, 1))
    (kk : W p l e R s m args below meth c H locs cells slots Q (F0 m (pc + 1) ls (.long (f k) :: rest))) : W p l e R s m args below meth c H locs cells slots Q (F0 m pc ls (.int (nI k) :: .ref a :: rest)) := by
  refine va_lald hexec hb hK hP q0 t0 ha ht (vp_in_nI hk hn) hdg ?_
  rw [nI_clamp (by omega)]
  exact kk
theorem xa_iast (hexec : p.tables.exec = Jvm.exec) (hb : c.code = cc) (hK : va_K D cl tys s) (hP : va_P D cl ws H) (hD : va_D A ws) (hS : va_S A H0 H locs) (q0 t0 : Nat) {cA : ClassId} {n : Nat} {f : Nat → Int32} (ha : ws[q0]? = some (a, .inl (cA, n, .inl f))) (ht : tys[t0]? = some (cA, .int)) {k : Nat} {x : Int32} (hk : k < n) (hn : n < 2 ^ 31) (hw : ws.set q0 (a, .inl (cA, n, .inl (upd f k x))) = ws') (hdg : decode cc pc = .ok (.iastore, 1))
    (kk : ∀ (H1 : Heap) (locs1 : List Loc), va_P D cl ws' H1 → va_D A ws' → va_S A H0 H1 locs1 → W p l e R s m args below meth c H1 locs1 cells slots Q (F0 m (pc + 1) ls rest)) : W p l e R s m args below meth c H locs cells slots Q (F0 m pc ls (.int x :: .int (nI k) :: .ref a :: rest)) := by
  refine va_iast hexec hb hK hP hD hS q0 t0 ha ht (vp_in_nI hk hn) hdg (fun H1 locs1 h1 h2 h3 => ?_)
  rw [nI_clamp (by omega), hw] at h1 h2
  exact kk H1 locs1 h1 h2 h3
theorem xa_zast (hexec : p.tables.exec = Jvm.exec) (hb : c.code = cc) (hK : va_K D cl tys s) (hP : va_P D cl ws H) (hD : va_D A ws) (hS : va_S A H0 H locs) (q0 t0 : Nat) {cA : ClassId} {n : Nat} {f : Nat → Int32} (ha : ws[q0]? = some (a, .inl (cA, n, .inl f))) (ht : tys[t0]? = some (cA, .boolean)) {k : Nat} {x : Int32} (hk : k < n) (hn : n < 2 ^ 31) (hx : vp_nar .boolean x = x) (hw : ws.set q0 (a, .inl (cA, n, .inl (upd f k x))) = ws') (hdg : decode cc pc = .ok (.bastore, 1))
    (kk : ∀ (H1 : Heap) (locs1 : List Loc), va_P D cl ws' H1 → va_D A ws' → va_S A H0 H1 locs1 → W p l e R s m args below meth c H1 locs1 cells slots Q (F0 m (pc + 1) ls rest)) : W p l e R s m args below meth c H locs cells slots Q (F0 m pc ls (.int x :: .int (nI k) :: .ref a :: rest)) := by
  refine va_zast hexec hb hK hP hD hS q0 t0 ha ht (vp_in_nI hk hn) hdg (fun H1 locs1 h1 h2 h3 => ?_)
  rw [nI_clamp (by omega), hx, hw] at h1 h2
  exact kk H1 locs1 h1 h2 h3
theorem xa_last (hexec : p.tables.exec = Jvm.exec) (hb : c.code = cc) (hK : va_K D cl tys s) (hP : va_P D cl ws H) (hD : va_D A ws) (hS : va_S A H0 H locs) (q0 t0 : Nat) {cA : ClassId} {n : Nat} {f : Nat → Int64} (ha : ws[q0]? = some (a, .inl (cA, n, .inr (.inl f)))) (ht : tys[t0]? = some (cA, .long)) {k : Nat} {x : Int64} (hk : k < n) (hn : n < 2 ^ 31) (hw : ws.set q0 (a, .inl (cA, n, .inr (.inl (vp_updL f k x)))) = ws') (hdg : decode cc pc = .ok (.lastore, 1))
    (kk : ∀ (H1 : Heap) (locs1 : List Loc), va_P D cl ws' H1 → va_D A ws' → va_S A H0 H1 locs1 → W p l e R s m args below meth c H1 locs1 cells slots Q (F0 m (pc + 1) ls rest)) : W p l e R s m args below meth c H locs cells slots Q (F0 m pc ls (.long x :: .int (nI k) :: .ref a :: rest)) := by
  refine va_last hexec hb hK hP hD hS q0 t0 ha ht (vp_in_nI hk hn) hdg (fun H1 locs1 h1 h2 h3 => ?_)
  rw [nI_clamp (by omega), hw] at h1 h2
  exact kk H1 locs1 h1 h2 h3
theorem xa_put (hexec : p.tables.exec = Jvm.exec) (hb : c.code = cc) {own ref C : String} {T : u_T} {N ci index : Nat} {Ts : List Cond} (hts : ∀ w ∈ Ts, w.before args s = true) (hin : ∀ w ∈ u_ws C T N, w ∈ Ts) (ty0 : Nat → FieldType) (hty : ∀ k, k < N → parseFieldDescriptor (T k).2.2.1 = some (ty0 k)) (hnm : ∀ a, a < N → ∀ b, b < N → a ≠ b → (T a).2.1 ≠ (T b).2.1) (hown : s.vm.findClass own = some m.cls) (hK : va_K D cl tys s) (hP : va_P D cl ws H) (hD : va_D A ws) (hS0 : va_S A H0 H locs) (q0 : Nat) {fs : List Value} (he : ws[q0]? = some (a, .inr (ci, fs))) (hc : cl[ci]? = some (C, T, N)) (k : Nat) (hk : k < N) (hlink : (Cond.fieldLink own index ref (T k).2.1 (T k).2.2.1).before args s = true) (hsame : ∀ x, s.fieldFound? (T k).1 (T k).2.1 (T k).2.2.1 = some x → s.fieldFound? ref (T k).2.1 (T k).2.2.1 = some x) (hfin : (T k).2.2.2 = false) {ty : FieldType} {v : Value} (hd : parseFieldDescriptor (T k).2.2.1 = some ty) (hn : narrow ty v = v) (hfit : fits ty v = true) (hl : k < fs.length) (hw : ws.set q0 (a, .inr (ci, fs.set k v)) = ws')
    (hdg : decode cc pc = .ok (.putfield index, 3)) (kk : ∀ (H1 : Heap) (locs1 : List Loc), va_P D cl ws' H1 → va_D A ws' → va_S A H0 H1 locs1 → W p l e R s m args below meth c H1 locs1 cells slots Q (F0 m (pc + 3) ls rest)) : W p l e R s m args below meth c H locs cells slots Q (F0 m pc ls (v :: .ref a :: rest)) := by
  refine va_put hexec hb hts hin ty0 hty hnm hown hK hP hD hS0 q0 he hc k hk hlink hsame hfin hd hn hfit hl hdg (fun H1 locs1 h1 h2 h3 => ?_)
  rw [hw] at h1 h2
  exact kk H1 locs1 h1 h2 h3
theorem xa_putN (hexec : p.tables.exec = Jvm.exec) (hb : c.code = cc) {own ref C host : String} {T : u_T} {N ci index : Nat} {Ts : List Cond} (hts : ∀ w ∈ Ts, w.before args s = true) (hin : ∀ w ∈ u_ws C T N, w ∈ Ts) (ty0 : Nat → FieldType) (hty : ∀ k, k < N → parseFieldDescriptor (T k).2.2.1 = some (ty0 k)) (hnm : ∀ a, a < N → ∀ b, b < N → a ≠ b → (T a).2.1 ≠ (T b).2.1) (hown : s.vm.findClass own = some m.cls) (hK : va_K D cl tys s) (hP : va_P D cl ws H) (hD : va_D A ws) (hS0 : va_S A H0 H locs) (q0 : Nat) {fs : List Value} (he : ws[q0]? = some (a, .inr (ci, fs))) (hc : cl[ci]? = some (C, T, N)) (k : Nat) (hk : k < N) (hlink : (Cond.fieldLinkNest own index ref (T k).2.1 (T k).2.2.1 host).before args s = true) (hsame : ∀ x, s.fieldFound? (T k).1 (T k).2.1 (T k).2.2.1 = some x → s.fieldFound? ref (T k).2.1 (T k).2.2.1 = some x) (hfin : (T k).2.2.2 = false) {ty : FieldType} {v : Value} (hd : parseFieldDescriptor (T k).2.2.1 = some ty) (hn : narrow ty v = v) (hfit : fits ty v = true) (hl : k < fs.length) (hw : ws.set q0 (a, .inr (ci, fs.set k v)) = ws')
    (hdg : decode cc pc = .ok (.putfield index, 3)) (kk : ∀ (H1 : Heap) (locs1 : List Loc), va_P D cl ws' H1 → va_D A ws' → va_S A H0 H1 locs1 → W p l e R s m args below meth c H1 locs1 cells slots Q (F0 m (pc + 3) ls rest)) : W p l e R s m args below meth c H locs cells slots Q (F0 m pc ls (v :: .ref a :: rest)) := by
  refine va_putN hexec hb hts hin ty0 hty hnm hown hK hP hD hS0 q0 he hc k hk hlink hsame hfin hd hn hfit hl hdg (fun H1 locs1 h1 h2 h3 => ?_)
  rw [hw] at h1 h2
  exact kk H1 locs1 h1 h2 h3
theorem xa_copyi (hexec : p.tables.exec = Jvm.exec) (hb : c.code = cc) (hml : c.maxLocals = ls.size) {own : String} {index : Nat} (hown : s.vm.findClass own = some m.cls) (hlink : (Cond.methodLink own index arraycopyName).before args s = true) (hnat : (Cond.native arraycopyName).before args s = true) (hstat : (Cond.static arraycopyName).before args s = true) (hini : (Cond.initialized "java/lang/System").before args s = true)
    (hK : va_K D cl tys s) (hP : va_P D cl ws H) (hD : va_D A ws) (hS : va_S A H0 H locs) (q0 q1 t0 t1 : Nat) {a0 : Nat} {c0 c1 : ClassId} {n0 n1 : Nat} {f g : Nat → Int32} (ha0 : ws[q0]? = some (a0, .inl (c0, n0, .inl f))) (ha1 : ws[q1]? = some (a, .inl (c1, n1, .inl g))) (ht0 : tys[t0]? = some (c0, .int)) (ht1 : tys[t1]? = some (c1, .int))
    {sp dp n : Nat} (h4 : sp + n ≤ n0) (h5 : dp + n ≤ n1) (hn0 : n0 < 2 ^ 31) (hn1 : n1 < 2 ^ 31)
    (hframes : 1 ≤ R.frames) (hlocals : (rest.map fun v => v.category).sum + (nativeFrameWords "java/lang/System" "arraycopy" 5 + 11) ≤ R.locals) (hw : ws.set q1 (a, .inl (c1, n1, .inl (va_cpy f g sp dp n))) = ws') (hdg : decode cc pc = .ok (.invokestatic index, 3))
    (kk : ∀ (H1 : Heap) (locs1 : List Loc), va_P D cl ws' H1 → va_D A ws' → va_S A H0 H1 locs1 → W p l e R s m args below meth c H1 locs1 cells slots Q (F0 m (pc + 3) ls rest)) : W p l e R s m args below meth c H locs cells slots Q (F0 m pc ls (.int (nI n) :: .int (nI dp) :: .ref a :: .int (nI sp) :: .ref a0 :: rest)) := by
  have e1 := nI_clamp (n := sp) (by omega)
  have e2 := nI_clamp (n := dp) (by omega)
  have e3 := nI_clamp (n := n) (by omega)
  refine va_copyi hexec hb hml hown hlink hnat hstat hini hK hP hD hS q0 q1 t0 t1 ha0 ha1 ht0 ht1 rfl (nI_pos (by omega)) (nI_pos (by omega)) (nI_pos (by omega)) (by rw [e1, e3]; exact h4) (by rw [e2, e3]; exact h5) (fun i _ => rfl) hframes hlocals hdg (fun H1 locs1 h1 h2 h3 => ?_)
  rw [e1, e2, e3, hw] at h1 h2
  exact kk H1 locs1 h1 h2 h3
theorem xa_copyl (hexec : p.tables.exec = Jvm.exec) (hb : c.code = cc) (hml : c.maxLocals = ls.size) {own : String} {index : Nat} (hown : s.vm.findClass own = some m.cls) (hlink : (Cond.methodLink own index arraycopyName).before args s = true) (hnat : (Cond.native arraycopyName).before args s = true) (hstat : (Cond.static arraycopyName).before args s = true) (hini : (Cond.initialized "java/lang/System").before args s = true)
    (hK : va_K D cl tys s) (hP : va_P D cl ws H) (hD : va_D A ws) (hS : va_S A H0 H locs) (q0 q1 t0 t1 : Nat) {a0 : Nat} {c0 c1 : ClassId} {n0 n1 : Nat} {f g : Nat → Int64} (ha0 : ws[q0]? = some (a0, .inl (c0, n0, .inr (.inl f)))) (ha1 : ws[q1]? = some (a, .inl (c1, n1, .inr (.inl g)))) (ht0 : tys[t0]? = some (c0, .long)) (ht1 : tys[t1]? = some (c1, .long))
    {sp dp n : Nat} (h4 : sp + n ≤ n0) (h5 : dp + n ≤ n1) (hn0 : n0 < 2 ^ 31) (hn1 : n1 < 2 ^ 31)
    (hframes : 1 ≤ R.frames) (hlocals : (rest.map fun v => v.category).sum + (nativeFrameWords "java/lang/System" "arraycopy" 5 + 11) ≤ R.locals) (hw : ws.set q1 (a, .inl (c1, n1, .inr (.inl (va_cpy f g sp dp n)))) = ws') (hdg : decode cc pc = .ok (.invokestatic index, 3))
    (kk : ∀ (H1 : Heap) (locs1 : List Loc), va_P D cl ws' H1 → va_D A ws' → va_S A H0 H1 locs1 → W p l e R s m args below meth c H1 locs1 cells slots Q (F0 m (pc + 3) ls rest)) : W p l e R s m args below meth c H locs cells slots Q (F0 m pc ls (.int (nI n) :: .int (nI dp) :: .ref a :: .int (nI sp) :: .ref a0 :: rest)) := by
  have e1 := nI_clamp (n := sp) (by omega)
  have e2 := nI_clamp (n := dp) (by omega)
  have e3 := nI_clamp (n := n) (by omega)
  refine va_copyl hexec hb hml hown hlink hnat hstat hini hK hP hD hS q0 q1 t0 t1 ha0 ha1 ht0 ht1 rfl (nI_pos (by omega)) (nI_pos (by omega)) (nI_pos (by omega)) (by rw [e1, e3]; exact h4) (by rw [e2, e3]; exact h5) (fun i _ => rfl) hframes hlocals hdg (fun H1 locs1 h1 h2 h3 => ?_)
  rw [e1, e2, e3, hw] at h1 h2
  exact kk H1 locs1 h1 h2 h3
variable {st0 : List Value} {av : Array Value}
theorem xa_cI {v : Int32} (hr : va_Run p l e R s m args below meth c H locs cells slots 0 0 (F0 m pc ls st0) rest (vp_Si (fun r : Int32 => r = v) av) (fun _ => False))
    (kk : W p l e R s m args below meth c H locs cells slots Q (F0 m (pc + 3) ls (.int v :: rest))) : W p l e R s m args below meth c H locs cells slots Q (F0 m pc ls st0) := by
  intro T hT X
  obtain ⟨v', st₀, t, T', L, h0, X', hL, e1, e2, ⟨r, hv, hp, hh⟩, st⟩ := hr T hT X
  cases hv
  subst hp
  obtain ⟨t2, a1, b1⟩ := kk T' (by rw [e1, hh, h0]) (Stand.forget X' (fun q h => (hL q h).elim))
  exact ⟨t2, st t2 a1, b1⟩
theorem xa_cJ {v : Int64} (hr : va_Run p l e R s m args below meth c H locs cells slots 0 0 (F0 m pc ls st0) rest (vp_Sl (fun r : Int64 => r = v) av) (fun _ => False))
    (kk : W p l e R s m args below meth c H locs cells slots Q (F0 m (pc + 3) ls (.long v :: rest))) : W p l e R s m args below meth c H locs cells slots Q (F0 m pc ls st0) := by
  intro T hT X
  obtain ⟨v', st₀, t, T', L, h0, X', hL, e1, e2, ⟨r, hv, hp, hh⟩, st⟩ := hr T hT X
  cases hv
  subst hp
  obtain ⟨t2, a1, b1⟩ := kk T' (by rw [e1, hh, h0]) (Stand.forget X' (fun q h => (hL q h).elim))
  exact ⟨t2, st t2 a1, b1⟩
theorem xa_cMV {S : Type} {post : S → Prop} {w : S → va_W} {w0 : va_W} (hr : va_Run p l e R s m args below meth c H locs cells slots 0 0 (F0 m pc ls st0) rest (va_Qv post (fun (u : S) (t : State) => va_P D cl (w u) t.heap) (va_A w0 H.size) av) (va_A w0 H.size)) (hS : va_S A H0 H locs) (hF : ∀ q, va_A w0 H.size q → A q)
    (kk : ∀ (u : S) (H1 : Heap) (locs1 : List Loc), post u → va_P D cl (w u) H1 → va_S A H0 H1 locs1 → W p l e R s m args below meth c H1 locs1 cells slots Q (F0 m (pc + 3) ls rest)) : W p l e R s m args below meth c H locs cells slots Q (F0 m pc ls st0) :=
  va_callv hr hS (fun q _ h => hF q h) hF (fun u t H1 locs1 ht _ hp hB _ _ hS => kk u H1 locs1 hp (by rw [← ht]; exact hB) hS)
theorem xa_cMI {S : Type} {post : Int32 → S → Prop} {w : S → va_W} {w0 : va_W} (hr : va_Run p l e R s m args below meth c H locs cells slots 0 0 (F0 m pc ls st0) rest (va_Qi post (fun (u : S) (t : State) => va_P D cl (w u) t.heap) (va_A w0 H.size) av) (va_A w0 H.size)) (hS : va_S A H0 H locs) (hF : ∀ q, va_A w0 H.size q → A q)
    (kk : ∀ (r : Int32) (u : S) (H1 : Heap) (locs1 : List Loc), post r u → va_P D cl (w u) H1 → va_S A H0 H1 locs1 → W p l e R s m args below meth c H1 locs1 cells slots Q (F0 m (pc + 3) ls (.int r :: rest))) : W p l e R s m args below meth c H locs cells slots Q (F0 m pc ls st0) :=
  va_calli hr hS (fun q _ h => hF q h) hF (fun r u t H1 locs1 ht _ hp hB _ _ hS => kk r u H1 locs1 hp (by rw [← ht]; exact hB) hS)
theorem xa_cMJ {S : Type} {post : Int64 → S → Prop} {w : S → va_W} {w0 : va_W} (hr : va_Run p l e R s m args below meth c H locs cells slots 0 0 (F0 m pc ls st0) rest (va_Ql post (fun (u : S) (t : State) => va_P D cl (w u) t.heap) (va_A w0 H.size) av) (va_A w0 H.size)) (hS : va_S A H0 H locs) (hF : ∀ q, va_A w0 H.size q → A q)
    (kk : ∀ (r : Int64) (u : S) (H1 : Heap) (locs1 : List Loc), post r u → va_P D cl (w u) H1 → va_S A H0 H1 locs1 → W p l e R s m args below meth c H1 locs1 cells slots Q (F0 m (pc + 3) ls (.long r :: rest))) : W p l e R s m args below meth c H locs cells slots Q (F0 m pc ls st0) :=
  va_calll hr hS (fun q _ h => hF q h) hF (fun r u t H1 locs1 ht _ hp hB _ _ hS => kk r u H1 locs1 hp (by rw [← ht]; exact hB) hS)
end XA
/-! a method's start, and its worlds at a call -/
def xp_R (D : va_G) (cl : List vw_C) (tys : List (ClassId × FieldType)) (w : va_W) (U : State) : Prop := va_P D cl w U.heap ∧ va_K D cl tys U ∧ zN U
def xp_Q (D : va_G) (cl : List vw_C) (tys : List (ClassId × FieldType)) (sz : Nat) (w : va_W) (U : State) : Prop := U.heap.size = sz ∧ va_P D cl w U.heap ∧ va_K D cl tys U ∧ va_D (fun _ => True) w ∧ zN U
theorem xp_preS {s : State} {H : Heap} {As : List Value} : PreS s H (va_Pc As (fun _ => True)) As := ⟨fun _ _ _ _ q => q, fun _ _ _ => ⟨rfl, trivial⟩⟩
theorem xp_preV {s : State} {H : Heap} {D : va_G} {cl : List vw_C} {b q0 ci : Nat} {q : vw_C} {C : String} {fs : List Value} {w : va_W} {tys : List (ClassId × FieldType)} {As : List Value} (hK : va_K D cl tys s) (hP : va_P D cl w H) (hc : cl[ci]? = some q) (hC : q.1 = C) (he : w[q0]? = some (b, .inr (ci, fs))) (hZ : zN s) : PreV s H C b (va_Pc (.ref b :: As) (xp_R D cl tys w)) As := by
  refine ⟨fun a U g mk h => ?_, ?_, fun U hU hW => ⟨rfl, by rw [hU]; exact hP, va_K.moved hW.alike hK, zN_warm hW hZ⟩⟩
  · obtain ⟨q0, qP, qK, qZ⟩ := h
    exact ⟨q0, qP, va_K.moved (u := U) (U := U.calling g mk a) (Vm.Alike.refl U.vm) qK, zN_same (u := U) (U := U.calling g mk a) rfl qZ⟩
  · have := va_recv hK hP hc he
    rw [hC] at this
    exact this
theorem xp_preVQ {s : State} {H : Heap} {D : va_G} {cl : List vw_C} {b q0 ci : Nat} {q : vw_C} {C : String} {fs : List Value} {A : Nat → Prop} {w : va_W} {tys : List (ClassId × FieldType)} {As : List Value} (hK : va_K D cl tys s) (hP : va_P D cl w H) (hD : va_D A w) (hc : cl[ci]? = some q) (hC : q.1 = C) (he : w[q0]? = some (b, .inr (ci, fs))) (hZ : zN s) : PreV s H C b (va_Pc (.ref b :: As) (xp_Q D cl tys H.size w)) As := by
  refine ⟨fun a U g mk h => ?_, ?_, fun U hU hW => ⟨rfl, by rw [hU], by rw [hU]; exact hP, va_K.moved hW.alike hK, hD.weaken (fun _ _ _ _ => trivial), zN_warm hW hZ⟩⟩
  · obtain ⟨q0, q1, qP, qK, qD, qZ⟩ := h
    exact ⟨q0, q1, qP, va_K.moved (u := U) (U := U.calling g mk a) (Vm.Alike.refl U.vm) qK, qD, zN_same (u := U) (U := U.calling g mk a) rfl qZ⟩
  · have := va_recv hK hP hc he
    rw [hC] at this
    exact this
/-! the two worlds -/
def xw_C (q : Nat → Nat) (cA : Nat → ClassId) (lim : Int32) (kf : Nat → Int32) (kg : Nat → Int64) (kn : Int32) (af : Nat → Int32) (bf : Nat → Int32) (rk : Nat → Int32) (rv : Nat → Int64) (rm : Nat → Int32) (rs : Nat → Int32) (rn : Int32) (bp : Nat → Int32) (bk : Nat → Int32) (bv : Nat → Int64) (bo : Int32) (bn : Int32) : va_W := [(q 0, .inr (0, [.int lim, .ref (q 1), .ref (q 3), .ref (q 4)])), (q 1, .inr (1, [.ref (q 5), .ref (q 6), .ref (q 2), .int kn])), (q 2, .inr (2, [.ref (q 7), .ref (q 8)])), (q 3, .inr (3, [.ref (q 9), .ref (q 10), .ref (q 11), .ref (q 12), .int rn])), (q 4, .inr (4, [.ref (q 13), .ref (q 14), .ref (q 15), .int bo, .int bn])), (q 5, .inl (cA 5, 65, .inl kf)), (q 6, .inl (cA 6, 65, .inr (.inl kg))), (q 7, .inl (cA 7, 128, .inl af)), (q 8, .inl (cA 8, 128, .inl bf)), (q 9, .inl (cA 9, 70, .inl rk)), (q 10, .inl (cA 10, 70, .inr (.inl rv))), (q 11, .inl (cA 11, 70, .inl rm)), (q 12, .inl (cA 12, 70, .inl rs)), (q 13, .inl (cA 13, 5, .inl bp)), (q 14, .inl (cA 14, 5, .inl bk)), (q 15, .inl (cA 15, 5, .inr (.inl bv)))]
def xw_tC (cA : Nat → ClassId) : List (ClassId × FieldType) := [(cA 5, .int), (cA 6, .long), (cA 7, .int), (cA 8, .int), (cA 9, .int), (cA 10, .long), (cA 11, .int), (cA 12, .int), (cA 13, .boolean), (cA 14, .int), (cA 15, .long)]
def xw_M (q : Nat → Nat) (cA : Nat → ClassId) (lim : Int32) (bs : Int32) (bk : Nat → Int32) (bv : Nat → Int64) (rn : Int32) (wh : Nat → Int32) (rk : Nat → Int32) (rv : Nat → Int64) (bg : Nat → Int32) (bt : Int32) (sc : Int32) (sw : Nat → Int32) (sk : Nat → Int32) (sv : Nat → Int64) (kp : Int32) (ky : Nat → Int32) (vl : Nat → Int64) : va_W := [(q 0, .inr (5, [.int lim, .int bs, .ref (q 1), .ref (q 2), .int rn, .ref (q 3), .ref (q 4), .ref (q 5), .ref (q 6), .int bt, .int sc, .ref (q 7), .ref (q 8), .ref (q 9), .int kp, .ref (q 10), .ref (q 11)])), (q 1, .inl (cA 1, 60, .inl bk)), (q 2, .inl (cA 2, 60, .inr (.inl bv))), (q 3, .inl (cA 3, 70, .inl wh)), (q 4, .inl (cA 4, 70, .inl rk)), (q 5, .inl (cA 5, 70, .inr (.inl rv))), (q 6, .inl (cA 6, 70, .inl bg)), (q 7, .inl (cA 7, 5, .inl sw)), (q 8, .inl (cA 8, 5, .inl sk)), (q 9, .inl (cA 9, 5, .inr (.inl sv))), (q 10, .inl (cA 10, 66, .inl ky)), (q 11, .inl (cA 11, 66, .inr (.inl vl)))]
def xw_tM (cA : Nat → ClassId) : List (ClassId × FieldType) := [(cA 1, .int), (cA 2, .long), (cA 3, .int), (cA 4, .int), (cA 5, .long), (cA 6, .int), (cA 7, .int), (cA 8, .int), (cA 9, .long), (cA 10, .int), (cA 11, .long)]
end
section
/-! Pure: the keys with their values, ascending, as a list; what set and remove do to it. -/
abbrev xk_E : Type := Int32 × Int64
def xk_u (k n : Int32) : Int32 := (k.toUInt32 >>> (n.toUInt32 &&& Int32.toUInt32 31)).toInt32
def xk_x (k : Int32) : Int32 := ((((k ^^^ xk_u k (nI 6)) ^^^ xk_u k (nI 12)) ^^^ xk_u k (nI 18)) ^^^ xk_u k (nI 24)) ^^^ xk_u k (nI 30)
def xk_h (k : Int32) : Nat := (xk_x k).toBitVec.toNat % 64
theorem xk_h_lt (k : Int32) : xk_h k < 64 := Nat.mod_lt _ (by decide)
theorem xk_h_eq (k : Int32) : xk_x k &&& nI 63 = nI (xk_h k) := pk_and (xk_x k) 6 (by decide +kernel)
def xk_lo : List xk_E → Int32 → Nat
  | [], _ => 0
  | e :: t, k => if e.1 < k then xk_lo t k + 1 else 0
def xk_has : List xk_E → Int32 → Bool
  | [], _ => false
  | e :: t, k => if e.1 < k then xk_has t k else e.1 == k
def xk_get : List xk_E → Int32 → Int64
  | [], _ => 0
  | e :: t, k => if e.1 < k then xk_get t k else if e.1 = k then e.2 else 0
def xk_set : List xk_E → Int32 → Int64 → List xk_E
  | [], k, v => [(k, v)]
  | e :: t, k, v => if e.1 < k then e :: xk_set t k v else if e.1 = k then (k, v) :: t else (k, v) :: e :: t
def xk_rem : List xk_E → Int32 → List xk_E
  | [], _ => []
  | e :: t, k => if e.1 < k then e :: xk_rem t k else if e.1 = k then t else e :: t
def xk_asc (K : List xk_E) : Prop := K.Pairwise (fun a b => a.1 < b.1)
theorem xk_irr (k : Int32) : ¬ k < k := by rw [Int32.lt_iff_toInt_lt]; omega
theorem xk_tr {a b c : Int32} (h : a < b) (g : b < c) : a < c := by rw [Int32.lt_iff_toInt_lt] at *; omega
theorem xk_tri {a b : Int32} (h : ¬ a < b) (g : ¬ a = b) : b < a := by
  rw [Int32.lt_iff_toInt_lt] at *
  have : a.toInt ≠ b.toInt := fun q => g (Int32.toInt_inj.mp q)
  omega
theorem xk_nlt {a b : Int32} (h : a < b) : ¬ b < a := by rw [Int32.lt_iff_toInt_lt] at *; omega
theorem xk_lo_le (K : List xk_E) (k : Int32) : xk_lo K k ≤ K.length := by
  induction K with
  | nil => simp [xk_lo]
  | cons e t ih => simp only [xk_lo, List.length_cons]; split <;> omega
theorem xk_lo_lt {K : List xk_E} {k : Int32} {j : Nat} {e : xk_E} (h : j < xk_lo K k) (he : K[j]? = some e) : e.1 < k := by
  induction K generalizing j with
  | nil => simp at he
  | cons a t ih =>
    simp only [xk_lo] at h
    split at h
    · cases j with
      | zero => simp at he; subst he; assumption
      | succ j => exact ih (j := j) (by omega) (by simpa using he)
    · omega
theorem xk_lo_ge {K : List xk_E} {k : Int32} {e : xk_E} (he : K[xk_lo K k]? = some e) : ¬ e.1 < k := by
  induction K with
  | nil => simp at he
  | cons a t ih =>
    simp only [xk_lo] at he
    split at he
    · exact ih (by simpa using he)
    · simp at he; subst he; assumption
theorem xk_lo_eq {K : List xk_E} {k : Int32} {b : Nat} (hb : b ≤ K.length) (h1 : ∀ (j : Nat) (e : xk_E), j < b → K[j]? = some e → e.1 < k) (h2 : ∀ e : xk_E, K[b]? = some e → ¬ e.1 < k) : b = xk_lo K k := by
  induction K generalizing b with
  | nil => simp at hb; simp [xk_lo, hb]
  | cons a t ih =>
    cases b with
    | zero =>
      have := h2 a (by simp)
      simp [xk_lo, this]
    | succ b =>
      have ha := h1 0 a (by omega) (by simp)
      simp only [xk_lo, ha, if_true]
      have := ih (b := b) (by simpa using hb) (fun j e hj he => h1 (j + 1) e (by omega) (by simpa using he)) (fun e he => h2 e (by simpa using he))
      omega
theorem xk_has_iff (K : List xk_E) (k : Int32) : xk_has K k = true ↔ ∃ e, K[xk_lo K k]? = some e ∧ e.1 = k := by
  induction K with
  | nil => simp [xk_has]
  | cons a t ih =>
    simp only [xk_has, xk_lo]
    split
    · simpa using ih
    · simp
theorem xk_has_at {K : List xk_E} {k : Int32} (h : xk_has K k = true) : K[xk_lo K k]? = some (k, xk_get K k) := by
  induction K with
  | nil => simp [xk_has] at h
  | cons a t ih =>
    simp only [xk_has, xk_lo, xk_get] at *
    split
    · rename_i q
      simp only [q, if_true] at h
      simpa using ih h
    · rename_i q
      simp only [q, if_false] at h
      have : a.1 = k := by simpa using h
      subst this
      simp
theorem xk_has_lt {K : List xk_E} {k : Int32} (h : xk_has K k = true) : xk_lo K k < K.length := by
  have := xk_has_at h
  exact (List.getElem?_eq_some_iff.mp this).1
theorem xk_get_0 {K : List xk_E} {k : Int32} (h : xk_has K k = false) : xk_get K k = 0 := by
  induction K with
  | nil => simp [xk_get]
  | cons a t ih =>
    simp only [xk_has, xk_get] at *
    split
    · rename_i q
      simp only [q, if_true] at h
      exact ih h
    · rename_i q
      simp only [q, if_false] at h
      have : ¬ a.1 = k := by simpa using h
      simp [this]
theorem xk_set_len (K : List xk_E) (k : Int32) (v : Int64) : (xk_set K k v).length = if xk_has K k then K.length else K.length + 1 := by
  induction K with
  | nil => simp [xk_set, xk_has]
  | cons a t ih =>
    simp only [xk_set, xk_has]
    by_cases q : a.1 < k
    · simp only [q, if_true, List.length_cons, ih]; split <;> rfl
    · by_cases r : a.1 = k
      · subst r; simp [q]
      · simp [q, r]
theorem xk_rem_len (K : List xk_E) (k : Int32) : (xk_rem K k).length = if xk_has K k then K.length - 1 else K.length := by
  induction K with
  | nil => simp [xk_rem, xk_has]
  | cons a t ih =>
    simp only [xk_rem, xk_has]
    by_cases q : a.1 < k
    · simp only [q, if_true, List.length_cons, ih]
      by_cases w : xk_has t k = true
      · have := xk_has_lt w
        simp only [w, if_true]; omega
      · simp [w]
    · by_cases r : a.1 = k
      · subst r; simp [q]
      · simp [q, r]
theorem xk_set_at (K : List xk_E) (k : Int32) (v : Int64) (i : Nat) : (xk_set K k v)[i]? = if i < xk_lo K k then K[i]? else if i = xk_lo K k then some (k, v) else if xk_has K k then K[i]? else K[i - 1]? := by
  induction K generalizing i with
  | nil => cases i <;> simp [xk_set, xk_has, xk_lo]
  | cons a t ih =>
    simp only [xk_set, xk_has, xk_lo]
    by_cases q : a.1 < k
    · simp only [q, if_true]
      cases i with
      | zero => simp
      | succ i =>
        simp only [List.getElem?_cons_succ, ih, Nat.add_lt_add_iff_right, Nat.add_right_cancel_iff, Nat.add_sub_cancel]
        split
        · rfl
        · split
          · rfl
          · split
            · rfl
            · have : 0 < i := by omega
              obtain ⟨j, rfl⟩ : ∃ j, i = j + 1 := ⟨i - 1, by omega⟩
              simp
    · by_cases r : a.1 = k
      · subst r
        cases i <;> simp [q]
      · cases i with
        | zero => simp [q, r]
        | succ i => simp [q, r]
theorem xk_rem_at (K : List xk_E) (k : Int32) (i : Nat) : (xk_rem K k)[i]? = if i < xk_lo K k ∨ xk_has K k = false then K[i]? else K[i + 1]? := by
  induction K generalizing i with
  | nil => simp [xk_rem]
  | cons a t ih =>
    simp only [xk_rem, xk_has, xk_lo]
    by_cases q : a.1 < k
    · simp only [q, if_true]
      cases i with
      | zero => simp
      | succ i => simp only [List.getElem?_cons_succ, ih, Nat.add_lt_add_iff_right]
    · by_cases r : a.1 = k
      · subst r
        simp [q]
      · simp [q, r]
theorem xk_set_mem {K : List xk_E} {k : Int32} {v : Int64} {e : xk_E} (h : e ∈ xk_set K k v) : e = (k, v) ∨ e ∈ K := by
  induction K with
  | nil => simp only [xk_set, List.mem_singleton] at h; exact Or.inl h
  | cons a t ih =>
    simp only [xk_set] at h
    split at h
    · rcases List.mem_cons.mp h with h | h
      · exact Or.inr (by simp [h])
      · rcases ih h with h | h
        · exact Or.inl h
        · exact Or.inr (List.mem_cons_of_mem _ h)
    · split at h
      · rcases List.mem_cons.mp h with h | h
        · exact Or.inl h
        · exact Or.inr (List.mem_cons_of_mem _ h)
      · rcases List.mem_cons.mp h with h | h
        · exact Or.inl h
        · exact Or.inr h
theorem xk_rem_mem {K : List xk_E} {k : Int32} {e : xk_E} (h : e ∈ xk_rem K k) : e ∈ K := by
  induction K with
  | nil => simp [xk_rem] at h
  | cons a t ih =>
    simp only [xk_rem] at h
    split at h
    · rcases List.mem_cons.mp h with h | h
      · simp [h]
      · exact List.mem_cons_of_mem _ (ih h)
    · split at h
      · exact List.mem_cons_of_mem _ h
      · exact h
theorem xk_asc_set {K : List xk_E} (h : xk_asc K) (k : Int32) (v : Int64) : xk_asc (xk_set K k v) := by
  unfold xk_asc at *
  induction K with
  | nil => simp [xk_set]
  | cons a t ih =>
    have h2 := List.pairwise_cons.mp h
    simp only [xk_set]
    split
    · rename_i q
      refine List.pairwise_cons.mpr ⟨fun e he => ?_, ih h2.2⟩
      rcases xk_set_mem he with rfl | he
      · exact q
      · exact h2.1 e he
    · rename_i q
      split
      · rename_i r
        exact List.pairwise_cons.mpr ⟨fun e he => by rw [← r]; exact h2.1 e he, h2.2⟩
      · rename_i r
        have z := xk_tri q r
        refine List.pairwise_cons.mpr ⟨fun e he => ?_, h⟩
        rcases List.mem_cons.mp he with rfl | he
        · exact z
        · exact xk_tr z (h2.1 e he)
theorem xk_asc_rem {K : List xk_E} (h : xk_asc K) (k : Int32) : xk_asc (xk_rem K k) := by
  unfold xk_asc at *
  induction K with
  | nil => simp [xk_rem]
  | cons a t ih =>
    have h2 := List.pairwise_cons.mp h
    simp only [xk_rem]
    split
    · exact List.pairwise_cons.mpr ⟨fun e he => h2.1 e (xk_rem_mem he), ih h2.2⟩
    · split
      · exact h2.2
      · exact h
theorem xk_un_ss {K : List xk_E} {k : Int32} (v : Int64) (h : xk_has K k = true) : xk_set (xk_set K k v) k (xk_get K k) = K := by
  induction K with
  | nil => simp [xk_has] at h
  | cons a t ih =>
    simp only [xk_has] at h
    simp only [xk_set, xk_get]
    by_cases q : a.1 < k
    · simp only [q, if_true] at h ⊢
      simp only [xk_set, q, if_true, ih h]
    · simp only [q, if_false] at h ⊢
      have r : a.1 = k := by simpa using h
      simp [r, xk_set, xk_irr]
      rw [← r]
theorem xk_un_rs {K : List xk_E} {k : Int32} (v : Int64) (h : xk_has K k = false) : xk_rem (xk_set K k v) k = K := by
  induction K with
  | nil => simp [xk_set, xk_rem, xk_irr]
  | cons a t ih =>
    simp only [xk_has] at h
    simp only [xk_set]
    by_cases q : a.1 < k
    · simp only [q, if_true] at h ⊢
      simp only [xk_rem, q, if_true, ih h]
    · simp only [q, if_false] at h ⊢
      have r : ¬ a.1 = k := by simpa using h
      simp [r, xk_rem, xk_irr]
theorem xk_rem_no {K : List xk_E} {k : Int32} (h : xk_has K k = false) : xk_rem K k = K := by
  induction K with
  | nil => simp [xk_rem]
  | cons a t ih =>
    simp only [xk_has] at h
    simp only [xk_rem]
    by_cases q : a.1 < k
    · simp only [q, if_true] at h ⊢
      rw [ih h]
    · simp only [q, if_false] at h ⊢
      have r : ¬ a.1 = k := by simpa using h
      simp [r]
theorem xk_un_sr {K : List xk_E} (hA : xk_asc K) {k : Int32} (h : xk_has K k = true) : xk_set (xk_rem K k) k (xk_get K k) = K := by
  unfold xk_asc at hA
  induction K with
  | nil => simp [xk_has] at h
  | cons a t ih =>
    have h2 := List.pairwise_cons.mp hA
    simp only [xk_has] at h
    simp only [xk_rem, xk_get]
    by_cases q : a.1 < k
    · simp only [q, if_true] at h ⊢
      simp only [xk_set, q, if_true, ih h2.2 h]
    · simp only [q, if_false] at h ⊢
      have r : a.1 = k := by simpa using h
      simp only [r, if_true]
      have e1 : (k, a.2) = a := by rw [← r]
      cases t with
      | nil => simp [xk_set, e1]
      | cons b u =>
        have hb := h2.1 b (by simp)
        rw [r] at hb
        have n1 : ¬ b.1 < k := xk_nlt hb
        have n2 : ¬ b.1 = k := fun z => by rw [z] at hb; exact xk_irr _ hb
        simp [xk_set, n1, n2, e1]
/-- in an ascending list: which places lie below a key, and which one holds it -/
theorem xk_asc_lt {K : List xk_E} (hA : xk_asc K) {i j : Nat} {a b : xk_E} (h : i < j) (ha : K[i]? = some a) (hb : K[j]? = some b) : a.1 < b.1 := by
  obtain ⟨hi, rfl⟩ := List.getElem?_eq_some_iff.mp ha
  obtain ⟨hj, rfl⟩ := List.getElem?_eq_some_iff.mp hb
  exact (List.pairwise_iff_getElem.mp hA) i j hi hj h
theorem xk_below {K : List xk_E} (hA : xk_asc K) {k : Int32} {i : Nat} {e : xk_E} (he : K[i]? = some e) : e.1 < k ↔ i < xk_lo K k := by
  constructor
  · intro h
    refine Classical.byContradiction fun q => ?_
    have hl : xk_lo K k ≤ i := by omega
    have hi := (List.getElem?_eq_some_iff.mp he).1
    have hlt : xk_lo K k < K.length := by omega
    obtain ⟨e0, ho⟩ : ∃ e0, K[xk_lo K k]? = some e0 := ⟨_, List.getElem?_eq_getElem hlt⟩
    have hn := xk_lo_ge ho
    by_cases z : xk_lo K k = i
    · rw [z, he] at ho
      cases ho
      exact hn h
    · exact hn (xk_tr (xk_asc_lt hA (by omega) ho he) h)
  · intro h
    exact xk_lo_lt h he
theorem xk_there {K : List xk_E} (hA : xk_asc K) {k : Int32} {i : Nat} {e : xk_E} (he : K[i]? = some e) : e.1 = k ↔ i = xk_lo K k ∧ xk_has K k = true := by
  constructor
  · intro h
    have n1 : ¬ i < xk_lo K k := fun q => by
      have := xk_lo_lt q he
      rw [h] at this
      exact xk_irr _ this
    have n2 : ¬ xk_lo K k < i := fun q => by
      have hi := (List.getElem?_eq_some_iff.mp he).1
      obtain ⟨e0, ho⟩ : ∃ e0, K[xk_lo K k]? = some e0 := ⟨_, List.getElem?_eq_getElem (by omega)⟩
      have h3 := xk_asc_lt hA q ho he
      rw [h] at h3
      exact xk_lo_ge ho h3
    have n3 : i = xk_lo K k := by omega
    exact ⟨n3, (xk_has_iff K k).mpr ⟨e, by rw [← n3]; exact he, h⟩⟩
  · rintro ⟨h1, h2⟩
    have := xk_has_at h2
    rw [← h1, he] at this
    cases this
    rfl
/-- arrays hold a list -/
def xk_tie (f : Nat → Int32) (g : Nat → Int64) (K : List xk_E) : Prop := ∀ i : Nat, i < K.length → K[i]? = some (f i, g i)
theorem xk_tie_put {f : Nat → Int32} {g : Nat → Int64} {K : List xk_E} (h : xk_tie f g K) {k : Int32} (v : Int64) (hk : xk_has K k = true) : xk_tie f (vp_updL g (xk_lo K k) v) (xk_set K k v) := by
  intro i hi
  rw [xk_set_len, if_pos hk] at hi
  rw [xk_set_at]
  have ho := h (xk_lo K k) (xk_has_lt hk)
  rw [xk_has_at hk] at ho
  by_cases q : i < xk_lo K k
  · rw [if_pos q, h i hi, pk_uLn (by omega)]
  · rw [if_neg q]
    by_cases r : i = xk_lo K k
    · subst r
      rw [if_pos rfl, pk_uLs]
      have e1 : k = f (xk_lo K k) := by simpa using congrArg Prod.fst (Option.some.inj ho)
      rw [← e1]
    · rw [if_neg r, if_pos hk, h i hi, pk_uLn r]
/-- the arrays with a place opened at b -/
def xk_ins {α : Type} (f : Nat → α) (b : Nat) (x : α) : Nat → α := fun j => if j < b then f j else if j = b then x else f (j - 1)
def xk_del {α : Type} (f : Nat → α) (b : Nat) : Nat → α := fun j => if j < b then f j else f (j + 1)
theorem xk_tie_ins {f f' : Nat → Int32} {g g' : Nat → Int64} {K : List xk_E} (h : xk_tie f g K) {k : Int32} {v : Int64} (hk : xk_has K k = false) (hf : ∀ j, j < K.length + 1 → f' j = xk_ins f (xk_lo K k) k j) (hg : ∀ j, j < K.length + 1 → g' j = xk_ins g (xk_lo K k) v j) : xk_tie f' g' (xk_set K k v) := by
  intro i hi
  rw [xk_set_len, hk] at hi
  have hi : i < K.length + 1 := hi
  rw [xk_set_at, hf i hi, hg i hi]
  have hl := xk_lo_le K k
  unfold xk_ins
  by_cases q : i < xk_lo K k
  · rw [if_pos q, if_pos q, if_pos q, h i (by omega)]
  · rw [if_neg q, if_neg q, if_neg q]
    by_cases r : i = xk_lo K k
    · rw [if_pos r, if_pos r, if_pos r]
    · rw [if_neg r, if_neg r, if_neg r, hk]
      exact h (i - 1) (by omega)
theorem xk_tie_del {f f' : Nat → Int32} {g g' : Nat → Int64} {K : List xk_E} (h : xk_tie f g K) {k : Int32} (hk : xk_has K k = true) (hf : ∀ j, j + 1 < K.length → f' j = xk_del f (xk_lo K k) j) (hg : ∀ j, j + 1 < K.length → g' j = xk_del g (xk_lo K k) j) : xk_tie f' g' (xk_rem K k) := by
  intro i hi
  rw [xk_rem_len, if_pos hk] at hi
  rw [xk_rem_at, hf i (by omega), hg i (by omega)]
  unfold xk_del
  by_cases q : i < xk_lo K k
  · rw [if_pos (Or.inl q), if_pos q, if_pos q]
    exact h i (by omega)
  · rw [if_neg, if_neg q, if_neg q]
    · exact h (i + 1) (by omega)
    · rintro (z | z)
      · exact q z
      · rw [hk] at z; cases z
theorem xk_tie_f {f : Nat → Int32} {g : Nat → Int64} {K : List xk_E} (h : xk_tie f g K) {i : Nat} {e : xk_E} (he : K[i]? = some e) : f i = e.1 ∧ g i = e.2 := by
  have hi := (List.getElem?_eq_some_iff.mp he).1
  have := h i hi
  rw [he] at this
  cases this
  exact ⟨rfl, rfl⟩
end
section
/-! Pure: classes of hashes, good ones, depths, places. -/
def xd_in (d p : Nat) (e : xk_E) : Bool := xk_h e.1 % 2 ^ d == p
def xd_cn (K : List xk_E) (d p : Nat) : Nat := K.countP (xd_in d p)
def xd_sm (K : List xk_E) (d p : Nat) : Bool := K.all fun a => K.all fun b => !(xd_in d p a && xd_in d p b) || xk_h a.1 == xk_h b.1
def xd_gd (K : List xk_E) (d p : Nat) : Bool := decide (xd_cn K d p ≤ 4) || xd_sm K d p
def xd_dR (K : List xk_E) (h : Nat) : Nat → Nat → Nat
  | d, 0 => d
  | d, n + 1 => if xd_gd K d (h % 2 ^ d) then d else xd_dR K h (d + 1) n
def xd_dp (K : List xk_E) (h : Nat) : Nat := xd_dR K h 0 6
def xd_pl (K : List xk_E) (p : Nat) : Bool := decide (p < 2 ^ xd_dp K p)
theorem xd_in_iff {d p : Nat} {e : xk_E} : xd_in d p e = true ↔ xk_h e.1 % 2 ^ d = p := by simp [xd_in]
theorem xd_mod {a b i j : Nat} (h : i ≤ j) (e : a % 2 ^ j = b % 2 ^ j) : a % 2 ^ i = b % 2 ^ i := by
  have hd : 2 ^ i ∣ 2 ^ j := Nat.pow_dvd_pow 2 h
  rw [← Nat.mod_mod_of_dvd a hd, ← Nat.mod_mod_of_dvd b hd, e]
theorem xd_in_up {d h : Nat} {e : xk_E} (i : xd_in (d + 1) (h % 2 ^ (d + 1)) e = true) : xd_in d (h % 2 ^ d) e = true := by
  rw [xd_in_iff] at *
  exact xd_mod (Nat.le_succ d) i
theorem xd_sm_iff {K : List xk_E} {d p : Nat} : xd_sm K d p = true ↔ ∀ a ∈ K, ∀ b ∈ K, xd_in d p a = true → xd_in d p b = true → xk_h a.1 = xk_h b.1 := by
  simp only [xd_sm, List.all_eq_true, Bool.or_eq_true, Bool.not_eq_true', beq_iff_eq]
  constructor
  · intro h a ha b hb i j
    rcases h a ha b hb with q | q
    · rw [i, j] at q; cases q
    · exact q
  · intro h a ha b hb
    cases i : xd_in d p a
    · exact Or.inl rfl
    · cases j : xd_in d p b
      · exact Or.inl rfl
      · exact Or.inr (h a ha b hb i j)
theorem xd_gd_mono {K : List xk_E} {d h : Nat} (g : xd_gd K d (h % 2 ^ d) = true) : xd_gd K (d + 1) (h % 2 ^ (d + 1)) = true := by
  simp only [xd_gd, Bool.or_eq_true, decide_eq_true_eq] at *
  rcases g with g | g
  · exact Or.inl (Nat.le_trans (List.countP_mono_left (fun e _ i => xd_in_up i)) g)
  · rw [xd_sm_iff] at *
    exact Or.inr fun a ha b hb i j => g a ha b hb (xd_in_up i) (xd_in_up j)
theorem xd_gd_6 (K : List xk_E) (p : Nat) : xd_gd K 6 p = true := by
  simp only [xd_gd, Bool.or_eq_true]
  refine Or.inr (xd_sm_iff.mpr fun a _ b _ i j => ?_)
  rw [xd_in_iff] at i j
  have h1 := xk_h_lt a.1
  have h2 := xk_h_lt b.1
  have e1 : (2 : Nat) ^ 6 = 64 := rfl
  rw [e1] at i j
  omega
theorem xd_dR_spec (K : List xk_E) (h : Nat) : ∀ n d : Nat, d ≤ xd_dR K h d n ∧ xd_dR K h d n ≤ d + n ∧ (∀ j, d ≤ j → j < xd_dR K h d n → xd_gd K j (h % 2 ^ j) = false) ∧ (xd_dR K h d n < d + n → xd_gd K (xd_dR K h d n) (h % 2 ^ xd_dR K h d n) = true) := by
  intro n
  induction n with
  | zero => intro d; simp only [xd_dR]; exact ⟨Nat.le_refl _, Nat.le_refl _, fun j a b => by omega, fun a => by omega⟩
  | succ n ih =>
    intro d
    simp only [xd_dR]
    by_cases g : xd_gd K d (h % 2 ^ d) = true
    · simp only [g, if_true]
      exact ⟨Nat.le_refl _, by omega, fun j a b => by omega, fun _ => trivial⟩
    · simp only [g]
      obtain ⟨a, b, c, e⟩ := ih (d + 1)
      refine ⟨by simp only [Bool.false_eq_true, if_false]; omega, by simp only [Bool.false_eq_true, if_false]; omega, ?_, ?_⟩
      · simp only [Bool.false_eq_true, if_false]
        intro j h1 h2
        by_cases z : j = d
        · subst z; simpa using g
        · exact c j (by omega) h2
      · simp only [Bool.false_eq_true, if_false]
        intro q
        exact e (by omega)
theorem xd_dp_le (K : List xk_E) (h : Nat) : xd_dp K h ≤ 6 := by
  have := (xd_dR_spec K h 6 0).2.1
  unfold xd_dp; omega
theorem xd_dp_min {K : List xk_E} {h j : Nat} (g : j < xd_dp K h) : xd_gd K j (h % 2 ^ j) = false := (xd_dR_spec K h 6 0).2.2.1 j (Nat.zero_le _) g
theorem xd_dp_gd (K : List xk_E) (h : Nat) : xd_gd K (xd_dp K h) (h % 2 ^ xd_dp K h) = true := by
  have a := (xd_dR_spec K h 6 0).2.2.2
  by_cases q : xd_dp K h < 6
  · exact a (by unfold xd_dp at q; omega)
  · have e : xd_dp K h = 6 := by have := xd_dp_le K h; omega
    rw [e]; exact xd_gd_6 K _
theorem xd_gd_up {K : List xk_E} {h d : Nat} (g : xd_gd K d (h % 2 ^ d) = true) : ∀ n, xd_gd K (d + n) (h % 2 ^ (d + n)) = true := by
  intro n
  induction n with
  | zero => exact g
  | succ n ih => exact xd_gd_mono ih
theorem xd_dp_up {K : List xk_E} {h j : Nat} (g : xd_dp K h ≤ j) : xd_gd K j (h % 2 ^ j) = true := by
  have := xd_gd_up (xd_dp_gd K h) (j - xd_dp K h)
  rwa [show xd_dp K h + (j - xd_dp K h) = j from by omega] at this
theorem xd_dp_uniq {K : List xk_E} {h d : Nat} (g : xd_gd K d (h % 2 ^ d) = true) (b : d = 0 ∨ xd_gd K (d - 1) (h % 2 ^ (d - 1)) = false) : d = xd_dp K h := by
  have n1 : ¬ d < xd_dp K h := fun q => by have := xd_dp_min q; rw [g] at this; cases this
  have n2 : ¬ xd_dp K h < d := fun q => by
    rcases b with b | b
    · omega
    · have := xd_dp_up (K := K) (h := h) (j := d - 1) (by omega)
      rw [b] at this; cases this
  omega
theorem xd_dp_cong {K : List xk_E} {a b : Nat} (e : b % 2 ^ xd_dp K a = a % 2 ^ xd_dp K a) : xd_dp K b = xd_dp K a := by
  refine (xd_dp_uniq (by rw [e]; exact xd_dp_gd K a) ?_).symm
  by_cases z : xd_dp K a = 0
  · exact Or.inl z
  · refine Or.inr ?_
    rw [xd_mod (Nat.sub_le _ 1) e]
    exact xd_dp_min (by omega)
theorem xd_dp_place (K : List xk_E) (h : Nat) : xd_dp K (h % 2 ^ xd_dp K h) = xd_dp K h := xd_dp_cong (Nat.mod_mod _ _)
theorem xd_pl_iff {K : List xk_E} {p : Nat} : xd_pl K p = true ↔ p % 2 ^ xd_dp K p = p := by
  simp only [xd_pl, decide_eq_true_eq]
  constructor
  · exact Nat.mod_eq_of_lt
  · intro h
    have := Nat.mod_lt p (Nat.two_pow_pos (xd_dp K p))
    omega
theorem xd_pl_place (K : List xk_E) (h : Nat) : xd_pl K (h % 2 ^ xd_dp K h) = true := by
  rw [xd_pl_iff, xd_dp_place, Nat.mod_mod]
/-- the depth that the reference's search finds at p -/
theorem xd_ref_iff {K : List xk_E} {p d : Nat} (hd : d ≤ 6) : (p < 2 ^ d ∧ xd_gd K d p = true ∧ (d = 0 ∨ xd_gd K (d - 1) (p % 2 ^ (d - 1)) = false)) ↔ (d = xd_dp K p ∧ xd_pl K p = true) := by
  constructor
  · rintro ⟨h1, h2, h3⟩
    have e : d = xd_dp K p := xd_dp_uniq (by rw [Nat.mod_eq_of_lt h1]; exact h2) h3
    exact ⟨e, by simp only [xd_pl, decide_eq_true_eq]; rw [← e]; exact h1⟩
  · rintro ⟨h1, h2⟩
    simp only [xd_pl, decide_eq_true_eq] at h2
    rw [← h1] at h2
    refine ⟨h2, ?_, ?_⟩
    · have := xd_dp_gd K p
      rw [← h1, Nat.mod_eq_of_lt h2] at this
      exact this
    · by_cases z : d = 0
      · exact Or.inl z
      · exact Or.inr (xd_dp_min (by omega))
/-- the deepest, the pages -/
def xd_gm (K : List xk_E) : Nat → Nat
  | 0 => 0
  | p + 1 => max (xd_gm K p) (xd_dp K p)
theorem xd_gm_ge {K : List xk_E} {p q : Nat} (h : q < p) : xd_dp K q ≤ xd_gm K p := by
  induction p with
  | zero => omega
  | succ p ih =>
    simp only [xd_gm]
    by_cases z : q = p
    · subst z; omega
    · have := ih (by omega); omega
theorem xd_gm_le (K : List xk_E) (p : Nat) : xd_gm K p ≤ 6 := by
  induction p with
  | zero => simp [xd_gm]
  | succ p ih =>
    have := xd_dp_le K p
    simp only [xd_gm]; omega
theorem xd_gm_no {K : List xk_E} {p : Nat} (h : xd_pl K p = false) : xd_gm K (p + 1) = xd_gm K p := by
  have n1 : ¬ p % 2 ^ xd_dp K p = p := fun q => by rw [xd_pl_iff.mpr q] at h; cases h
  have n2 : p % 2 ^ xd_dp K p < p := by have := Nat.mod_le p (2 ^ xd_dp K p); omega
  have := xd_gm_ge (K := K) n2
  rw [xd_dp_place] at this
  simp only [xd_gm]; omega
def xd_bp (n : Nat) : Nat := max 1 ((n + 3) / 4)
def xd_sp (K : List xk_E) : Nat → Nat
  | 0 => 0
  | p + 1 => if xd_pl K p then xd_sp K p + xd_bp (xd_cn K (xd_dp K p) p) else xd_sp K p
theorem xk_take {α : Type} {K : List α} {i : Nat} {e : α} (he : K[i]? = some e) : K.take (i + 1) = K.take i ++ [e] := by
  rw [List.take_add_one, he]; rfl
/-- counting along the list -/
theorem xd_cn_take {K : List xk_E} {d p i : Nat} {e : xk_E} (he : K[i]? = some e) : xd_cn (K.take (i + 1)) d p = if xk_h e.1 % 2 ^ d = p then xd_cn (K.take i) d p + 1 else xd_cn (K.take i) d p := by
  rw [xk_take he]
  simp only [xd_cn, List.countP_append, List.countP_cons, List.countP_nil, xd_in, beq_iff_eq]
  split <;> simp
theorem xd_cn_all (K : List xk_E) (d p : Nat) : xd_cn (K.take K.length) d p = xd_cn K d p := by rw [List.take_length]
theorem xd_cn_le (K : List xk_E) (d p : Nat) : xd_cn K d p ≤ K.length := List.countP_le_length
theorem xd_cn_set (K : List xk_E) (k : Int32) (v : Int64) (d p : Nat) : xd_cn (xk_set K k v) d p = if xk_has K k = false ∧ xk_h k % 2 ^ d = p then xd_cn K d p + 1 else xd_cn K d p := by
  induction K with
  | nil => simp [xk_set, xk_has, xd_cn, xd_in, List.countP_cons]
  | cons a t ih =>
    simp only [xd_cn] at ih
    simp only [xk_set, xk_has, xd_cn]
    by_cases q : a.1 < k
    · simp only [q, if_true, List.countP_cons, ih]
      split <;> omega
    · by_cases r : a.1 = k
      · subst r
        simp [q, List.countP_cons, xd_in]
      · simp only [q, r, if_false, List.countP_cons, xd_in, beq_iff_eq]
        have : (a.1 == k) = false := by simpa using r
        simp only [this, true_and]
        by_cases z1 : xk_h k % 2 ^ d = p <;> by_cases z2 : xk_h a.1 % 2 ^ d = p <;> simp [z1, z2]
theorem xd_cn_rem (K : List xk_E) (k : Int32) (d p : Nat) : xd_cn K d p = if xk_has K k = true ∧ xk_h k % 2 ^ d = p then xd_cn (xk_rem K k) d p + 1 else xd_cn (xk_rem K k) d p := by
  induction K with
  | nil => simp [xk_rem, xk_has, xd_cn]
  | cons a t ih =>
    simp only [xd_cn] at ih
    simp only [xk_rem, xk_has, xd_cn]
    by_cases q : a.1 < k
    · simp only [q, if_true, List.countP_cons, ih]
      split <;> omega
    · by_cases r : a.1 = k
      · subst r
        simp only [q, if_false, if_true, List.countP_cons, xd_in, beq_iff_eq, beq_self_eq_true, true_and]
        split <;> omega
      · have : (a.1 == k) = false := by simpa using r
        simp [q, r, this]
end
section
/-! Pure: how many different hashes a class has. -/
def xd_hc (K : List xk_E) (d p : Nat) : Nat := (List.range 64).countP (fun h => h % 2 ^ d == p && decide (0 < xd_cn K 6 h))
theorem xd_cn6 {K : List xk_E} {h : Nat} (hh : h < 64) : 0 < xd_cn K 6 h ↔ ∃ e ∈ K, xk_h e.1 = h := by
  rw [xd_cn, List.countP_pos_iff]
  have e1 : (2 : Nat) ^ 6 = 64 := rfl
  constructor
  · rintro ⟨e, he, i⟩
    rw [xd_in_iff, e1] at i
    have := xk_h_lt e.1
    exact ⟨e, he, by omega⟩
  · rintro ⟨e, he, i⟩
    refine ⟨e, he, ?_⟩
    rw [xd_in_iff, e1]
    omega
/-- a count over a range with one place changed -/
theorem xd_count1 {P Q : Nat → Bool} {h : Nat} (hd : ∀ j, j ≠ h → P j = Q j) (hP : P h = false) (hQ : Q h = true) : ∀ n, h < n → (List.range n).countP Q = (List.range n).countP P + 1 := by
  intro n hn
  induction n with
  | zero => omega
  | succ n ih =>
    rw [List.range_succ, List.countP_append, List.countP_append]
    simp only [List.countP_cons, List.countP_nil]
    by_cases z : h = n
    · subst z
      have : (List.range h).countP Q = (List.range h).countP P := by
        refine List.countP_congr (fun j hj => ?_)
        have := List.mem_range.mp hj
        rw [hd j (by omega)]
      simp [hP, hQ, this]
    · have := ih (by omega)
      rw [hd n (fun q => z q.symm)]
      omega
theorem xd_count0 {P Q : Nat → Bool} (n : Nat) (hd : ∀ j, j < n → P j = Q j) : (List.range n).countP Q = (List.range n).countP P := by
  refine List.countP_congr (fun j hj => ?_)
  rw [hd j (List.mem_range.mp hj)]
theorem xd_hc_set (K : List xk_E) (k : Int32) (v : Int64) (d p : Nat) (hk : xk_has K k = false) : xd_hc (xk_set K k v) d p = if xk_h k % 2 ^ d = p ∧ xd_cn K 6 (xk_h k) = 0 then xd_hc K d p + 1 else xd_hc K d p := by
  have hlt := xk_h_lt k
  have e1 : (2 : Nat) ^ 6 = 64 := rfl
  have hm : xk_h k % 2 ^ 6 = xk_h k := by rw [e1]; omega
  have hne : ∀ j, j ≠ xk_h k → xd_cn (xk_set K k v) 6 j = xd_cn K 6 j := fun j hj => by
    rw [xd_cn_set, if_neg]; rw [hm]; exact fun q => hj q.2.symm
  have heq : xd_cn (xk_set K k v) 6 (xk_h k) = xd_cn K 6 (xk_h k) + 1 := by
    rw [xd_cn_set, if_pos ⟨hk, hm⟩]
  unfold xd_hc
  by_cases z : xk_h k % 2 ^ d = p ∧ xd_cn K 6 (xk_h k) = 0
  · rw [if_pos z]
    refine xd_count1 (h := xk_h k) (fun j hj => by rw [hne j hj]) ?_ ?_ 64 hlt
    · simp [z.2]
    · simp [z.1, heq]
  · rw [if_neg z]
    refine xd_count0 64 (fun j _ => ?_)
    by_cases q : j = xk_h k
    · subst q
      by_cases w : xk_h k % 2 ^ d = p
      · have : 0 < xd_cn K 6 (xk_h k) := by
          rcases Nat.eq_zero_or_pos (xd_cn K 6 (xk_h k)) with y | y
          · exact absurd ⟨w, y⟩ z
          · exact y
        simp [w, heq, this]
      · have w2 : (xk_h k % 2 ^ d == p) = false := by simpa using w
        simp only [w2, Bool.false_and]
    · rw [hne j q]
theorem xd_hc_rem (K : List xk_E) (k : Int32) (d p : Nat) (hk : xk_has K k = true) : xd_hc K d p = if xk_h k % 2 ^ d = p ∧ xd_cn K 6 (xk_h k) = 1 then xd_hc (xk_rem K k) d p + 1 else xd_hc (xk_rem K k) d p := by
  have hlt := xk_h_lt k
  have e1 : (2 : Nat) ^ 6 = 64 := rfl
  have hm : xk_h k % 2 ^ 6 = xk_h k := by rw [e1]; omega
  have hne : ∀ j, j ≠ xk_h k → xd_cn K 6 j = xd_cn (xk_rem K k) 6 j := fun j hj => by
    rw [xd_cn_rem K k, if_neg]; rw [hm]; exact fun q => hj q.2.symm
  have heq : xd_cn K 6 (xk_h k) = xd_cn (xk_rem K k) 6 (xk_h k) + 1 := by
    rw [xd_cn_rem K k, if_pos ⟨hk, hm⟩]
  unfold xd_hc
  by_cases z : xk_h k % 2 ^ d = p ∧ xd_cn K 6 (xk_h k) = 1
  · rw [if_pos z]
    refine xd_count1 (h := xk_h k) (fun j hj => by rw [hne j hj]) ?_ ?_ 64 hlt
    · have : xd_cn (xk_rem K k) 6 (xk_h k) = 0 := by omega
      simp [this]
    · simp [z.1, z.2]
  · rw [if_neg z]
    refine xd_count0 64 (fun j _ => ?_)
    by_cases q : j = xk_h k
    · subst q
      by_cases w : xk_h k % 2 ^ d = p
      · have h1 : ¬ xd_cn K 6 (xk_h k) = 1 := fun y => z ⟨w, y⟩
        have h2 : 0 < xd_cn (xk_rem K k) 6 (xk_h k) := by omega
        have h3 : 0 < xd_cn K 6 (xk_h k) := by omega
        simp [w, h2, h3]
      · have w2 : (xk_h k % 2 ^ d == p) = false := by simpa using w
        simp only [w2, Bool.false_and]
    · rw [hne j q]
/-- one hash or no more than four keys: good -/
theorem xd_good (K : List xk_E) (d p : Nat) : xd_gd K d p = true ↔ xd_cn K d p ≤ 4 ∨ xd_hc K d p = 1 := by
  simp only [xd_gd, Bool.or_eq_true, decide_eq_true_eq]
  by_cases hc : xd_cn K d p ≤ 4
  · simp [hc]
  · simp only [hc, false_or]
    have hpos : 0 < K.countP (xd_in d p) := by unfold xd_cn at hc; omega
    obtain ⟨e, he, ie⟩ := List.countP_pos_iff.mp hpos
    have hie := xd_in_iff.mp ie
    constructor
    · intro hs
      rw [xd_sm_iff] at hs
      unfold xd_hc
      have : (List.range 64).countP (fun h => h % 2 ^ d == p && decide (0 < xd_cn K 6 h)) = (List.range 64).countP (fun h => h == xk_h e.1) := by
        refine xd_count0 64 (fun j hj => ?_)
        rw [Bool.eq_iff_iff]
        simp only [Bool.and_eq_true, beq_iff_eq, decide_eq_true_eq, xd_cn6 hj]
        constructor
        · intro q
          rw [q]
          exact ⟨hie, e, he, rfl⟩
        · rintro ⟨h1, a, ha, h2⟩
          rw [← h2]
          exact hs a ha e he (xd_in_iff.mpr (by rw [h2]; exact h1)) ie
      rw [this]
      have := xd_count1 (P := fun _ => false) (Q := fun h => h == xk_h e.1) (h := xk_h e.1) (fun j hj => by simp [hj]) rfl (by simp) 64 (xk_h_lt _)
      rw [this]
      simp
    · intro h1
      rw [xd_sm_iff]
      intro a ha b hb ia ib
      refine Classical.byContradiction fun hne => ?_
      have q1 : (fun h => h % 2 ^ d == p && decide (0 < xd_cn K 6 h)) (xk_h a.1) = true := by
        simp only [Bool.and_eq_true, beq_iff_eq, decide_eq_true_eq, xd_cn6 (xk_h_lt a.1)]
        exact ⟨xd_in_iff.mp ia, a, ha, rfl⟩
      have q2 : (fun h => h % 2 ^ d == p && decide (0 < xd_cn K 6 h)) (xk_h b.1) = true := by
        simp only [Bool.and_eq_true, beq_iff_eq, decide_eq_true_eq, xd_cn6 (xk_h_lt b.1)]
        exact ⟨xd_in_iff.mp ib, b, hb, rfl⟩
      unfold xd_hc at h1
      have s1 := xd_count1 (P := fun h => (h % 2 ^ d == p && decide (0 < xd_cn K 6 h)) && !(h == xk_h a.1)) (Q := fun h => h % 2 ^ d == p && decide (0 < xd_cn K 6 h)) (h := xk_h a.1) (fun j hj => by simp [hj]) (by simp) q1 64 (xk_h_lt _)
      rw [h1] at s1
      have s2 : 0 < (List.range 64).countP (fun h => (h % 2 ^ d == p && decide (0 < xd_cn K 6 h)) && !(h == xk_h a.1)) := by
        rw [List.countP_pos_iff]
        refine ⟨xk_h b.1, List.mem_range.mpr (xk_h_lt _), ?_⟩
        have q3 : (xk_h b.1 % 2 ^ d == p && decide (0 < xd_cn K 6 (xk_h b.1))) = true := q2
        rw [q3]
        simp
        exact fun z => hne z.symm
      omega
end
section
/-! Pure: how many bytes a value has: the class's way and the reference's. -/
def xk_lu (v : Int64) (y : Int32) : Int64 := (v.toUInt64 >>> (y.toInt64.toUInt64 &&& Int64.toUInt64 63)).toInt64
def xv_R (v : Int64) : Nat → Nat → Nat
  | b, 0 => b
  | b, n + 1 => if xk_lu v (nI (8 * b)) = 0 then b else xv_R v (b + 1) n
def xv_by (v : Int64) : Nat := xv_R v 1 7
def xv_vp (v : Int64) : Nat := if 2 < xv_by v then (xv_by v + 1) / 2 else 0
def xv_r (v : Int64) : Nat → Int64
  | 0 => v >>> ((nI 8).toInt64 &&& 63)
  | k + 1 => xv_r v k >>> ((nI 8).toInt64 &&& 63)
def xv_n (v : Int64) : Nat → Nat
  | 0 => 1
  | k + 1 => if 0 < xv_r v k then xv_n v k + 1 else xv_n v k
theorem xv_lu (v : Int64) (y : Int32) (k : Nat) (hs : ((y.toInt64.toUInt64 &&& Int64.toUInt64 63).toBitVec % 64).toNat = k) : (xk_lu v y).toBitVec.toNat = v.toBitVec.toNat / 2 ^ k := by
  have e : (xk_lu v y).toBitVec = v.toBitVec >>> k := by
    rw [← hs]
    exact UInt64.toBitVec_shiftRight _ _
  rw [e, BitVec.toNat_ushiftRight, Nat.shiftRight_eq_div_pow]
theorem xv_lu0 (v : Int64) (y : Int32) (k : Nat) (hs : ((y.toInt64.toUInt64 &&& Int64.toUInt64 63).toBitVec % 64).toNat = k) : xk_lu v y = 0 ↔ v.toBitVec.toNat < 2 ^ k := by
  have h := xv_lu v y k hs
  constructor
  · intro z
    rw [z] at h
    have h0 : (0 : Int64).toBitVec.toNat = 0 := by decide
    rw [h0] at h
    exact (Nat.div_eq_zero_iff_lt (Nat.two_pow_pos k)).mp h.symm
  · intro z
    apply Int64.toBitVec_inj.mp
    apply BitVec.eq_of_toNat_eq
    rw [h, Nat.div_eq_of_lt z]
    decide
theorem xv_shr {n : Nat} (h : n < 2 ^ 63) : lN n >>> ((nI 8).toInt64 &&& 63) = lN (n / 256) := by
  apply Int64.toInt_inj.mp
  have h2 : n / 256 ≤ n := Nat.div_le_self _ _
  rw [pk_lT (by omega)]
  show ((lN n).toBitVec.sshiftRight (((nI 8).toInt64 &&& 63).toBitVec.smod 64).toNat).toInt = _
  have e : (((nI 8).toInt64 &&& 63).toBitVec.smod 64).toNat = 8 := by decide
  rw [e, BitVec.toInt_sshiftRight]
  show (lN n).toInt >>> 8 = _
  rw [pk_lT h, Int.shiftRight_eq_div_pow]
  rfl
theorem xv_tn {n : Nat} (h : n < 2 ^ 63) : (lN n).toBitVec.toNat = n := by
  show (BitVec.ofNat 64 n).toNat = n
  rw [BitVec.toNat_ofNat]
  omega
theorem xv_r_eq {n : Nat} (h : n < 2 ^ 63) (k : Nat) : xv_r (lN n) k = lN (n / 256 ^ (k + 1)) := by
  induction k with
  | zero => exact xv_shr h
  | succ k ih =>
    have h2 : n / 256 ^ (k + 1) ≤ n := Nat.div_le_self _ _
    rw [xv_r, ih, xv_shr (by omega), Nat.div_div_eq_div_mul, ← Nat.pow_succ]
theorem xv_r_pos {n : Nat} (h : n < 2 ^ 63) (k : Nat) : 0 < xv_r (lN n) k ↔ ¬ n < 256 ^ (k + 1) := by
  have h2 : n / 256 ^ (k + 1) ≤ n := Nat.div_le_self _ _
  rw [xv_r_eq h, show (0 : Int64) = lN 0 from by decide, pk_lLT (by decide) (by omega)]
  have h3 : 0 < 256 ^ (k + 1) := Nat.pow_pos (by decide)
  rw [← Nat.div_eq_zero_iff_lt h3]
  generalize n / 256 ^ (k + 1) = m
  omega
theorem xv_same {v : Int64} (hv : ¬ v < 0) : xv_n v 7 = xv_by v := by
  obtain ⟨n, hn, rfl⟩ := pk_lOf hv
  have t := xv_tn hn
  have a1 := xv_lu0 (lN n) (nI (8 * 1)) 8 (by decide)
  have a2 := xv_lu0 (lN n) (nI (8 * 2)) 16 (by decide)
  have a3 := xv_lu0 (lN n) (nI (8 * 3)) 24 (by decide)
  have a4 := xv_lu0 (lN n) (nI (8 * 4)) 32 (by decide)
  have a5 := xv_lu0 (lN n) (nI (8 * 5)) 40 (by decide)
  have a6 := xv_lu0 (lN n) (nI (8 * 6)) 48 (by decide)
  have a7 := xv_lu0 (lN n) (nI (8 * 7)) 56 (by decide)
  rw [t] at a1 a2 a3 a4 a5 a6 a7
  simp only [xv_by, xv_R, xv_n, a1, a2, a3, a4, a5, a6, a7, xv_r_pos hn]
  simp only [Nat.reducePow, Nat.reduceAdd]
  by_cases c1 : n < 256
  · simp only [c1, if_true, show n < 65536 from by omega, show n < 16777216 from by omega, show n < 4294967296 from by omega, show n < 1099511627776 from by omega, show n < 281474976710656 from by omega, show n < 72057594037927936 from by omega, not_true, if_false]
  by_cases c2 : n < 65536
  · simp only [c1, c2, if_true, show n < 16777216 from by omega, show n < 4294967296 from by omega, show n < 1099511627776 from by omega, show n < 281474976710656 from by omega, show n < 72057594037927936 from by omega, not_true, not_false_iff, if_false]
  by_cases c3 : n < 16777216
  · simp only [c1, c2, c3, if_true, show n < 4294967296 from by omega, show n < 1099511627776 from by omega, show n < 281474976710656 from by omega, show n < 72057594037927936 from by omega, not_true, not_false_iff, if_false]
  by_cases c4 : n < 4294967296
  · simp only [c1, c2, c3, c4, if_true, show n < 1099511627776 from by omega, show n < 281474976710656 from by omega, show n < 72057594037927936 from by omega, not_true, not_false_iff, if_false]
  by_cases c5 : n < 1099511627776
  · simp only [c1, c2, c3, c4, c5, if_true, show n < 281474976710656 from by omega, show n < 72057594037927936 from by omega, not_true, not_false_iff, if_false]
  by_cases c6 : n < 281474976710656
  · simp only [c1, c2, c3, c4, c5, c6, if_true, show n < 72057594037927936 from by omega, not_true, not_false_iff, if_false]
  by_cases c7 : n < 72057594037927936
  · simp only [c1, c2, c3, c4, c5, c6, c7, if_true, not_true, not_false_iff, if_false]
  · simp only [c1, c2, c3, c4, c5, c6, c7, if_true, not_false_iff, if_false]
theorem xv_neg {v : Int64} (hv : v < 0) : xv_by v = 8 := by
  have t : ¬ v.toBitVec.toNat < 2 ^ 63 := by
    intro z
    rw [Int64.lt_iff_toInt_lt] at hv
    have h0 : (0 : Int64).toInt = 0 := by decide
    have e : v.toInt = v.toBitVec.toNat := by
      show v.toBitVec.toInt = _
      rw [BitVec.toInt_eq_toNat_of_lt (by omega)]
    omega
  have a1 := xv_lu0 v (nI (8 * 1)) 8 (by decide)
  have a2 := xv_lu0 v (nI (8 * 2)) 16 (by decide)
  have a3 := xv_lu0 v (nI (8 * 3)) 24 (by decide)
  have a4 := xv_lu0 v (nI (8 * 4)) 32 (by decide)
  have a5 := xv_lu0 v (nI (8 * 5)) 40 (by decide)
  have a6 := xv_lu0 v (nI (8 * 6)) 48 (by decide)
  have a7 := xv_lu0 v (nI (8 * 7)) 56 (by decide)
  simp only [Nat.reducePow] at *
  simp only [xv_by, xv_R]
  rw [if_neg (by rw [a1]; omega), if_neg (by rw [a2]; omega), if_neg (by rw [a3]; omega), if_neg (by rw [a4]; omega), if_neg (by rw [a5]; omega), if_neg (by rw [a6]; omega), if_neg (by rw [a7]; omega)]
theorem xv_R_le (v : Int64) : ∀ n b, b ≤ xv_R v b n ∧ xv_R v b n ≤ b + n := by
  intro n
  induction n with
  | zero => intro b; simp [xv_R]
  | succ n ih =>
    intro b
    simp only [xv_R]
    split
    · omega
    · have := ih (b + 1); omega
theorem xv_by_le (v : Int64) : 1 ≤ xv_by v ∧ xv_by v ≤ 8 := by
  have := xv_R_le v 7 1
  unfold xv_by; omega
theorem xv_vp_le (v : Int64) : xv_vp v ≤ 4 := by
  have := xv_by_le v
  unfold xv_vp
  split <;> omega
end
section
/-! Pure: the pages in use; taking a key away never needs more of them. -/
def xd_vs (K : List xk_E) : Nat := (K.map (fun e => xv_vp e.2)).sum
def xd_pg (K : List xk_E) : Nat := 1 + (2 ^ xd_gm K 64 + 15) / 16 + xd_sp K 64 + xd_vs K
theorem xd_vs_take {K : List xk_E} {i : Nat} {e : xk_E} (he : K[i]? = some e) : xd_vs (K.take (i + 1)) = xd_vs (K.take i) + xv_vp e.2 := by
  rw [xk_take he]
  simp [xd_vs]
def xt_S (f : Nat → Nat) : Nat → Nat
  | 0 => 0
  | n + 1 => xt_S f n + f n
theorem xt_S_congr {f g : Nat → Nat} : ∀ n, (∀ j, j < n → f j = g j) → xt_S f n = xt_S g n := by
  intro n
  induction n with
  | zero => intro _; rfl
  | succ n ih =>
    intro h
    simp only [xt_S]
    rw [ih (fun j hj => h j (by omega)), h n (by omega)]
theorem xt_S_add (f g : Nat → Nat) : ∀ n, xt_S (fun j => f j + g j) n = xt_S f n + xt_S g n := by
  intro n
  induction n with
  | zero => rfl
  | succ n ih => simp only [xt_S, ih]; omega
theorem xt_S_zero {f : Nat → Nat} : ∀ n, (∀ j, j < n → f j = 0) → xt_S f n = 0 := by
  intro n
  induction n with
  | zero => intro _; rfl
  | succ n ih =>
    intro h
    simp only [xt_S]
    rw [ih (fun j hj => h j (by omega)), h n (by omega)]
theorem xt_S_one {f : Nat → Nat} {p : Nat} : ∀ n, p < n → (∀ j, j < n → j ≠ p → f j = 0) → xt_S f n = f p := by
  intro n
  induction n with
  | zero => intro h; omega
  | succ n ih =>
    intro hp h
    simp only [xt_S]
    by_cases z : p = n
    · subst z
      rw [xt_S_zero p (fun j hj => h j (by omega) (by omega))]
      omega
    · rw [ih (by omega) (fun j hj hne => h j (by omega) hne), h n (by omega) (fun q => z q.symm)]
      rfl
/-- the pages of the buckets below a class -/
def xt_F (K : List xk_E) : Nat → Nat → Nat → Nat
  | 0, d, p => xd_bp (xd_cn K d p)
  | n + 1, d, p => if xd_gd K d p then xd_bp (xd_cn K d p) else xt_F K n (d + 1) p + xt_F K n (d + 1) (p + 2 ^ d)
def xt_g (K : List xk_E) (h : Nat) : Nat := if xd_pl K h then xd_bp (xd_cn K (xd_dp K h) h) else 0
theorem xt_sp (K : List xk_E) : ∀ n, xd_sp K n = xt_S (xt_g K) n := by
  intro n
  induction n with
  | zero => rfl
  | succ n ih =>
    simp only [xd_sp, xt_S, xt_g, ih]
    split <;> rfl
theorem xt_half (x d p : Nat) (hp : p < 2 ^ d) : x % 2 ^ d = p ↔ (x % 2 ^ (d + 1) = p ∨ x % 2 ^ (d + 1) = p + 2 ^ d) := by
  have h1 : x % 2 ^ (d + 1) = x % 2 ^ d + 2 ^ d * (x / 2 ^ d % 2) := by rw [Nat.pow_succ, Nat.mod_mul]
  have h2 : x % 2 ^ d < 2 ^ d := Nat.mod_lt _ (Nat.two_pow_pos d)
  rcases Nat.mod_two_eq_zero_or_one (x / 2 ^ d) with h3 | h3
  · rw [h3] at h1; omega
  · rw [h3] at h1; omega
/-- a class with no good one above it: its buckets' pages -/
theorem xt_tree (K : List xk_E) : ∀ n d p, d + n = 6 → p < 2 ^ d → (∀ j, j < d → xd_gd K j (p % 2 ^ j) = false) → xt_S (fun h => if h % 2 ^ d = p then xt_g K h else 0) 64 = xt_F K n d p := by
  intro n
  induction n with
  | zero =>
    intro d p hd hp hb
    have e : d = 6 := by omega
    subst e
    have e1 : (2 : Nat) ^ 6 = 64 := rfl
    rw [e1] at hp
    have hdp : xd_dp K p = 6 := by
      refine (xd_dp_uniq (xd_gd_6 K _) (Or.inr (hb 5 (by omega)))).symm
    rw [xt_S_one (p := p) 64 hp]
    · have e2 : p % 2 ^ 6 = p := by rw [e1]; omega
      simp only [e2, if_true, xt_g, xd_pl, hdp, xt_F]
      rw [if_pos (by simpa using hp)]
    · intro j hj hne
      have e2 : j % 2 ^ 6 = j := by rw [e1]; omega
      simp only [e2, hne, if_false]
  | succ n ih =>
    intro d p hd hp hb
    simp only [xt_F]
    by_cases g : xd_gd K d p = true
    · rw [if_pos g]
      have key : ∀ h, h % 2 ^ d = p → xd_dp K h = d := by
        intro h hh
        refine (xd_dp_uniq (by rw [hh]; exact g) ?_).symm
        by_cases z : d = 0
        · exact Or.inl z
        · refine Or.inr ?_
          have := hb (d - 1) (by omega)
          rw [← hh, Nat.mod_mod_of_dvd _ (Nat.pow_dvd_pow 2 (Nat.sub_le d 1))] at this
          exact this
      have h64 : p < 64 := Nat.lt_of_lt_of_le hp (by have : (2 : Nat) ^ d ≤ 2 ^ 6 := Nat.pow_le_pow_right (by decide) (by omega); exact this)
      rw [xt_S_one (p := p) 64 h64]
      · have hm := Nat.mod_eq_of_lt hp
        have hk := key p hm
        simp only [hm, if_true, xt_g, xd_pl, hk]
        rw [if_pos (by simpa using hp)]
      · intro j hj hne
        by_cases z : j % 2 ^ d = p
        · have hk := key j z
          simp only [z, if_true, xt_g, xd_pl, hk]
          rw [if_neg]
          simp only [decide_eq_true_eq]
          intro w
          rw [Nat.mod_eq_of_lt w] at z
          exact hne z
        · simp only [z, if_false]
    · rw [if_neg g]
      have gf : xd_gd K d p = false := by simpa using g
      have hm := Nat.mod_eq_of_lt hp
      have hpow : (2 : Nat) ^ (d + 1) = 2 ^ d + 2 ^ d := by rw [Nat.pow_succ]; omega
      have b1 : ∀ j, j < d + 1 → xd_gd K j (p % 2 ^ j) = false := by
        intro j hj
        by_cases z : j = d
        · subst z; rw [hm]; exact gf
        · exact hb j (by omega)
      have b2 : ∀ j, j < d + 1 → xd_gd K j ((p + 2 ^ d) % 2 ^ j) = false := by
        intro j hj
        have hd2 : 2 ^ j ∣ 2 ^ d := Nat.pow_dvd_pow 2 (by omega)
        have : (p + 2 ^ d) % 2 ^ j = p % 2 ^ j := by
          rw [Nat.add_mod, Nat.mod_eq_zero_of_dvd hd2, Nat.add_zero, Nat.mod_mod]
        rw [this]
        exact b1 j hj
      rw [← ih (d + 1) p (by omega) (by omega) b1, ← ih (d + 1) (p + 2 ^ d) (by omega) (by omega) b2, ← xt_S_add]
      refine xt_S_congr 64 (fun h _ => ?_)
      have hh := xt_half h d p hp
      have hpos := Nat.two_pow_pos d
      by_cases z1 : h % 2 ^ (d + 1) = p
      · have z2 : ¬ h % 2 ^ (d + 1) = p + 2 ^ d := by omega
        have z3 : h % 2 ^ d = p := hh.mpr (Or.inl z1)
        simp only [z1, z3, if_true]
        rw [if_neg (by omega)]
        omega
      · by_cases z2 : h % 2 ^ (d + 1) = p + 2 ^ d
        · have z3 : h % 2 ^ d = p := hh.mpr (Or.inr z2)
          simp only [z2, z3, if_true]
          rw [if_neg (by omega)]
          omega
        · have z3 : ¬ h % 2 ^ d = p := fun q => by rcases hh.mp q with q | q; exact z1 q; exact z2 q
          simp only [z1, z2, z3, if_false]
theorem xt_sp_F (K : List xk_E) : xd_sp K 64 = xt_F K 6 0 0 := by
  rw [xt_sp, ← xt_tree K 6 0 0 rfl (by decide) (fun j hj => by omega)]
  refine xt_S_congr 64 (fun h _ => ?_)
  have : h % 2 ^ 0 = 0 := by rw [Nat.pow_zero]; omega
  simp only [this, if_true]
theorem xt_cn_half (K : List xk_E) (d p : Nat) (hp : p < 2 ^ d) : xd_cn K d p = xd_cn K (d + 1) p + xd_cn K (d + 1) (p + 2 ^ d) := by
  have hpos := Nat.two_pow_pos d
  induction K with
  | nil => rfl
  | cons a t ih =>
    simp only [xd_cn] at ih
    simp only [xd_cn, List.countP_cons, ih, xd_in, beq_iff_eq]
    have hh := xt_half (xk_h a.1) d p hp
    by_cases z1 : xk_h a.1 % 2 ^ (d + 1) = p
    · have z3 : xk_h a.1 % 2 ^ d = p := hh.mpr (Or.inl z1)
      simp only [z1, z3, if_true]
      rw [if_neg (by omega)]
      omega
    · by_cases z2 : xk_h a.1 % 2 ^ (d + 1) = p + 2 ^ d
      · have z3 : xk_h a.1 % 2 ^ d = p := hh.mpr (Or.inr z2)
        simp only [z2, z3, if_true]
        rw [if_neg (by omega)]
        omega
      · have z3 : ¬ xk_h a.1 % 2 ^ d = p := fun q => by rcases hh.mp q with q | q; exact z1 q; exact z2 q
        simp only [z1, z2, z3, if_false]
        omega
theorem xt_F_ge (K : List xk_E) : ∀ n d p, p < 2 ^ d → xd_bp (xd_cn K d p) ≤ xt_F K n d p := by
  intro n
  induction n with
  | zero => intro d p _; exact Nat.le_refl _
  | succ n ih =>
    intro d p hp
    simp only [xt_F]
    split
    · exact Nat.le_refl _
    · have hpow : (2 : Nat) ^ (d + 1) = 2 ^ d + 2 ^ d := by rw [Nat.pow_succ]; omega
      have h1 := ih (d + 1) p (by omega)
      have h2 := ih (d + 1) (p + 2 ^ d) (by omega)
      rw [xt_cn_half K d p hp]
      refine Nat.le_trans ?_ (Nat.add_le_add h1 h2)
      unfold xd_bp
      omega
theorem xt_cn_rem (K : List xk_E) (k : Int32) (d p : Nat) : xd_cn (xk_rem K k) d p ≤ xd_cn K d p := by
  rw [xd_cn_rem K k d p]
  split <;> omega
theorem xt_gd_rem {K : List xk_E} (k : Int32) {d p : Nat} (g : xd_gd K d p = true) : xd_gd (xk_rem K k) d p = true := by
  simp only [xd_gd, Bool.or_eq_true, decide_eq_true_eq] at *
  rcases g with g | g
  · exact Or.inl (Nat.le_trans (xt_cn_rem K k d p) g)
  · rw [xd_sm_iff] at *
    exact Or.inr fun a ha b hb => g a (xk_rem_mem ha) b (xk_rem_mem hb)
theorem xt_bp_mono {a b : Nat} (h : a ≤ b) : xd_bp a ≤ xd_bp b := by unfold xd_bp; omega
theorem xt_F_rem (K : List xk_E) (k : Int32) : ∀ n d p, p < 2 ^ d → xt_F (xk_rem K k) n d p ≤ xt_F K n d p := by
  intro n
  induction n with
  | zero => intro d p _; exact xt_bp_mono (xt_cn_rem K k d p)
  | succ n ih =>
    intro d p hp
    have hpow : (2 : Nat) ^ (d + 1) = 2 ^ d + 2 ^ d := by rw [Nat.pow_succ]; omega
    by_cases g : xd_gd K d p = true
    · simp only [xt_F, g, xt_gd_rem k g, if_true]
      exact xt_bp_mono (xt_cn_rem K k d p)
    · by_cases g2 : xd_gd (xk_rem K k) d p = true
      · have h0 : xt_F (xk_rem K k) (n + 1) d p = xd_bp (xd_cn (xk_rem K k) d p) := by simp only [xt_F, g2, if_true]
        rw [h0]
        exact Nat.le_trans (xt_bp_mono (xt_cn_rem K k d p)) (xt_F_ge K (n + 1) d p hp)
      · simp only [xt_F]
        rw [if_neg g, if_neg g2]
        exact Nat.add_le_add (ih (d + 1) p (by omega)) (ih (d + 1) (p + 2 ^ d) (by omega))
theorem xt_dp_rem (K : List xk_E) (k : Int32) (h : Nat) : xd_dp (xk_rem K k) h ≤ xd_dp K h := by
  refine Classical.byContradiction fun q => ?_
  have h1 := xd_dp_min (K := xk_rem K k) (h := h) (j := xd_dp K h) (by omega)
  rw [xt_gd_rem k (xd_dp_gd K h)] at h1
  cases h1
theorem xt_gm_rem (K : List xk_E) (k : Int32) : ∀ n, xd_gm (xk_rem K k) n ≤ xd_gm K n := by
  intro n
  induction n with
  | zero => exact Nat.le_refl _
  | succ n ih =>
    have := xt_dp_rem K k n
    simp only [xd_gm]; omega
theorem xt_vs_rem (K : List xk_E) (k : Int32) : xd_vs (xk_rem K k) ≤ xd_vs K := by
  induction K with
  | nil => simp [xk_rem]
  | cons a t ih =>
    simp only [xd_vs] at ih
    simp only [xk_rem, xd_vs]
    split
    · simp only [List.map_cons, List.sum_cons]; omega
    · split
      · simp only [List.map_cons, List.sum_cons]; omega
      · exact Nat.le_refl _
theorem xd_pg_rem (K : List xk_E) (k : Int32) : xd_pg (xk_rem K k) ≤ xd_pg K := by
  have h1 : 2 ^ xd_gm (xk_rem K k) 64 ≤ 2 ^ xd_gm K 64 := Nat.pow_le_pow_right (by decide) (xt_gm_rem K k 64)
  have h2 := xt_F_rem K k 6 0 0 (by decide)
  have h3 := xt_vs_rem K k
  have h4 : (2 ^ xd_gm (xk_rem K k) 64 + 15) / 16 ≤ (2 ^ xd_gm K 64 + 15) / 16 := Nat.div_le_div_right (by omega)
  unfold xd_pg
  rw [xt_sp_F, xt_sp_F]
  omega
theorem xd_sp_le {K : List xk_E} (hK : K.length ≤ 65) : ∀ n, xd_sp K n ≤ n * 17 := by
  intro n
  induction n with
  | zero => exact Nat.le_refl _
  | succ n ih =>
    have := xd_cn_le K (xd_dp K n) n
    simp only [xd_sp]
    split
    · have : xd_bp (xd_cn K (xd_dp K n) n) ≤ 17 := by unfold xd_bp; omega
      omega
    · omega
theorem xd_vs_le (K : List xk_E) : xd_vs K ≤ K.length * 4 := by
  induction K with
  | nil => simp [xd_vs]
  | cons a t ih =>
    have := xv_vp_le a.2
    simp only [xd_vs] at ih
    simp only [xd_vs, List.map_cons, List.sum_cons, List.length_cons]
    omega
theorem xd_pg_le {K : List xk_E} (hK : K.length ≤ 65) : xd_pg K ≤ 2000 := by
  have h1 := xd_sp_le hK 64
  have h2 := xd_vs_le K
  have h3 : 2 ^ xd_gm K 64 ≤ 2 ^ 6 := Nat.pow_le_pow_right (by decide) (xd_gm_le K 64)
  have e1 : (2 : Nat) ^ 6 = 64 := rfl
  unfold xd_pg
  omega
end
section
/-! Pure: places in order, keys in the order of places, how many pages a look reads. -/
def xo_pls (K : List xk_E) : Nat → List Nat
  | 0 => []
  | p + 1 => if xd_pl K p then xo_pls K p ++ [p] else xo_pls K p
def xo_at (K : List xk_E) (i : Int32) : Int32 := if i < 0 then -1 else match (xo_pls K 64)[i.toNatClampNeg]? with
  | some p => nI p
  | none => -1
theorem xo_pls_more {K : List xk_E} {p j x : Nat} (h : (xo_pls K p)[j]? = some x) : ∀ n, (xo_pls K (p + n))[j]? = some x := by
  intro n
  induction n with
  | zero => exact h
  | succ n ih =>
    have hj := (List.getElem?_eq_some_iff.mp ih).1
    rw [show p + (n + 1) = (p + n) + 1 from rfl]
    simp only [xo_pls]
    split
    · rw [List.getElem?_append_left hj]; exact ih
    · exact ih
theorem xo_pls_last {K : List xk_E} {p : Nat} (h : xd_pl K p = true) : (xo_pls K (p + 1))[(xo_pls K p).length]? = some p := by
  simp [xo_pls, h]
theorem xo_pls_le (K : List xk_E) (p : Nat) : (xo_pls K p).length ≤ p := by
  induction p with
  | zero => simp [xo_pls]
  | succ p ih =>
    simp only [xo_pls]
    split
    · simp only [List.length_append, List.length_cons, List.length_nil]; omega
    · omega
theorem xo_pls_len (K : List xk_E) (p : Nat) : (xo_pls K (p + 1)).length = if xd_pl K p then (xo_pls K p).length + 1 else (xo_pls K p).length := by
  simp only [xo_pls]
  split <;> simp
theorem xo_at_hit {K : List xk_E} {p : Nat} (hp : p < 64) (h : xd_pl K p = true) : xo_at K (nI (xo_pls K p).length) = nI p := by
  have hl := xo_pls_le K p
  have h1 := xo_pls_more (xo_pls_last h) (63 - p)
  rw [show p + 1 + (63 - p) = 64 from by omega] at h1
  unfold xo_at
  rw [if_neg (nI_pos (by omega)), nI_clamp (by omega), h1]
theorem xo_at_miss {K : List xk_E} {i : Int32} (h : ∀ j, j < (xo_pls K 64).length → ¬ i = nI j) : xo_at K i = -1 := by
  unfold xo_at
  split
  · rfl
  · rename_i q
    obtain ⟨j, hj, rfl⟩ := nI_of q
    rw [nI_clamp hj]
    have : (xo_pls K 64)[j]? = none := by
      rw [List.getElem?_eq_none_iff]
      refine Classical.byContradiction fun z => ?_
      exact h j (by omega) rfl
    rw [this]
theorem xo_at_neg {K : List xk_E} {i : Int32} (h : i < 0) : xo_at K i = -1 := by unfold xo_at; rw [if_pos h]
def xo_ko (K : List xk_E) : Nat → List xk_E
  | 0 => []
  | p + 1 => if xd_pl K p then xo_ko K p ++ K.filter (xd_in (xd_dp K p) p) else xo_ko K p
def xo_ka (K : List xk_E) (i : Int32) : Int32 := if i < 0 then 0 else match (xo_ko K 64)[i.toNatClampNeg]? with
  | some e => e.1
  | none => 0
theorem xo_ko_more {K : List xk_E} {p j : Nat} {x : xk_E} (h : (xo_ko K p)[j]? = some x) : ∀ n, (xo_ko K (p + n))[j]? = some x := by
  intro n
  induction n with
  | zero => exact h
  | succ n ih =>
    have hj := (List.getElem?_eq_some_iff.mp ih).1
    rw [show p + (n + 1) = (p + n) + 1 from rfl]
    simp only [xo_ko]
    split
    · rw [List.getElem?_append_left hj]; exact ih
    · exact ih
theorem xo_uniq {K : List xk_E} {h j : Nat} (hp : xd_pl K j = true) (e : h % 2 ^ xd_dp K j = j) : j = h % 2 ^ xd_dp K h := by
  have h1 : xd_dp K h = xd_dp K j := xd_dp_cong (by rw [e]; exact (xd_pl_iff.mp hp).symm)
  rw [h1, e]
theorem xo_sum (K L : List xk_E) : xt_S (fun p => if xd_pl K p then L.countP (xd_in (xd_dp K p) p) else 0) 64 = L.length := by
  induction L with
  | nil => exact xt_S_zero 64 (fun j _ => by simp)
  | cons a t ih =>
    rw [List.length_cons, ← ih]
    have hp0 : xk_h a.1 % 2 ^ xd_dp K (xk_h a.1) < 64 := Nat.lt_of_le_of_lt (Nat.mod_le _ _) (xk_h_lt _)
    have h1 : xt_S (fun p => if xd_pl K p then (if xd_in (xd_dp K p) p a then 1 else 0) else 0) 64 = 1 := by
      rw [xt_S_one (p := xk_h a.1 % 2 ^ xd_dp K (xk_h a.1)) 64 hp0]
      · rw [xd_pl_place, if_pos rfl, xd_dp_place]
        simp [xd_in]
      · intro j _ hne
        split
        · rename_i q
          rw [if_neg]
          intro z
          exact hne (xo_uniq q (xd_in_iff.mp z))
        · rfl
    have h2 : xt_S (fun p => if xd_pl K p then (a :: t).countP (xd_in (xd_dp K p) p) else 0) 64 = xt_S (fun p => (if xd_pl K p then t.countP (xd_in (xd_dp K p) p) else 0) + (if xd_pl K p then (if xd_in (xd_dp K p) p a then 1 else 0) else 0)) 64 := by
      refine xt_S_congr 64 (fun j _ => ?_)
      split
      · rw [List.countP_cons]
      · rfl
    rw [h2, xt_S_add, h1]
theorem xo_ko_len (K : List xk_E) : ∀ n, (xo_ko K n).length = xt_S (fun p => if xd_pl K p then K.countP (xd_in (xd_dp K p) p) else 0) n := by
  intro n
  induction n with
  | zero => rfl
  | succ n ih =>
    simp only [xo_ko, xt_S]
    split
    · rw [List.length_append, ih, List.countP_eq_length_filter]
    · rw [ih]; rfl
theorem xo_ko_all (K : List xk_E) : (xo_ko K 64).length = K.length := by rw [xo_ko_len, xo_sum]
theorem xo_ko_le (K : List xk_E) {n : Nat} (h : n ≤ 64) : (xo_ko K n).length ≤ K.length := by
  have key : ∀ m, (xo_ko K n).length ≤ (xo_ko K (n + m)).length := by
    intro m
    induction m with
    | zero => exact Nat.le_refl _
    | succ m ih =>
      rw [show n + (m + 1) = (n + m) + 1 from rfl]
      simp only [xo_ko]
      split
      · rw [List.length_append]; omega
      · exact ih
  have := key (64 - n)
  rw [show n + (64 - n) = 64 from by omega, xo_ko_all] at this
  exact this
theorem xo_ko_step (K : List xk_E) (p : Nat) : (xo_ko K (p + 1)).length = if xd_pl K p then (xo_ko K p).length + xd_cn K (xd_dp K p) p else (xo_ko K p).length := by
  simp only [xo_ko]
  split
  · rw [List.length_append, xd_cn, List.countP_eq_length_filter]
  · rfl
/-- the n-th key of a class, n counted along the list -/
theorem xo_fil_at {K : List xk_E} {d p i : Nat} {e : xk_E} (he : K[i]? = some e) (hi : xk_h e.1 % 2 ^ d = p) : (K.filter (xd_in d p))[xd_cn (K.take i) d p]? = some e := by
  have hlt := (List.getElem?_eq_some_iff.mp he).1
  have h1 : K = K.take i ++ (e :: K.drop (i + 1)) := by
    obtain ⟨h2, h3⟩ := List.getElem?_eq_some_iff.mp he
    rw [← h3, ← List.drop_eq_getElem_cons h2, List.take_append_drop]
  rw [xd_cn, List.countP_eq_length_filter]
  have h4 : K.filter (xd_in d p) = (K.take i).filter (xd_in d p) ++ (e :: (K.drop (i + 1)).filter (xd_in d p)) := by
    conv => lhs; rw [h1]
    rw [List.filter_append, List.filter_cons, if_pos (xd_in_iff.mpr hi)]
  rw [h4, List.getElem?_append_right (Nat.le_refl _)]
  simp
theorem xo_ka_hit {K : List xk_E} {p i : Nat} {e : xk_E} (hK : K.length ≤ 65) (hp : p < 64) (h : xd_pl K p = true) (he : K[i]? = some e) (hi : xk_h e.1 % 2 ^ xd_dp K p = p) : xo_ka K (nI ((xo_ko K p).length + xd_cn (K.take i) (xd_dp K p) p)) = e.1 := by
  have h0 : (xo_ko K (p + 1))[(xo_ko K p).length + xd_cn (K.take i) (xd_dp K p) p]? = some e := by
    simp only [xo_ko, h, if_true]
    rw [List.getElem?_append_right (by omega), Nat.add_sub_cancel_left]
    exact xo_fil_at he hi
  have h1 := xo_ko_more h0 (63 - p)
  rw [show p + 1 + (63 - p) = 64 from by omega] at h1
  have h2 := (List.getElem?_eq_some_iff.mp h1).1
  rw [xo_ko_all] at h2
  unfold xo_ka
  rw [if_neg (nI_pos (by omega)), nI_clamp (by omega), h1]
theorem xo_ka_miss {K : List xk_E} {i : Int32} (h : ∀ j, j < (xo_ko K 64).length → ¬ i = nI j) : xo_ka K i = 0 := by
  unfold xo_ka
  split
  · rfl
  · rename_i q
    obtain ⟨j, hj, rfl⟩ := nI_of q
    rw [nI_clamp hj]
    have : (xo_ko K 64)[j]? = none := by
      rw [List.getElem?_eq_none_iff]
      refine Classical.byContradiction fun z => ?_
      exact h j (by omega) rfl
    rw [this]
/-- a look's pages -/
def xo_bl (K : List xk_E) (k : Int32) (d p : Nat) : Nat := xd_cn (K.take (xk_lo K k)) d p
def xo_rp (K : List xk_E) (k : Int32) (d p : Nat) : Nat := min (xo_bl K k d p) (xd_cn K d p - 1) / 4 + 1
def xo_rd (K : List xk_E) (k : Int32) : Nat := xo_rp K k (xd_dp K (xk_h k)) (xk_h k % 2 ^ xd_dp K (xk_h k))
theorem xd_cn_mono {K : List xk_E} {d p i j : Nat} (h : i ≤ j) : xd_cn (K.take i) d p ≤ xd_cn (K.take j) d p := by
  obtain ⟨n, rfl⟩ : ∃ n, j = i + n := ⟨j - i, by omega⟩
  rw [List.take_add, xd_cn, xd_cn, List.countP_append]
  omega
theorem xd_cn_sub (K : List xk_E) (d p i : Nat) : xd_cn (K.take i) d p ≤ xd_cn K d p := by
  by_cases z : i ≤ K.length
  · have := xd_cn_mono (K := K) (d := d) (p := p) z
    rwa [List.take_length] at this
  · rw [List.take_of_length_le (by omega)]; exact Nat.le_refl _
def xo_J (K : List xk_E) (k : Int32) (d p i g : Nat) (more : Bool) : Prop :=
  (more = true → g = (xd_cn (K.take i) d p + 3) / 4 ∧ 4 * (xd_cn (K.take i) d p / 4) ≤ xo_bl K k d p ∧ (xd_cn (K.take i) d p = xd_cn K d p → xd_cn K d p = 0 ∨ xo_bl K k d p = xd_cn K d p)) ∧
  (more = false → g = xo_rp K k d p ∧ 0 < xd_cn K d p)
theorem xo_J_0 (K : List xk_E) (k : Int32) (d p : Nat) : xo_J K k d p 0 0 true := by
  have h0 : xd_cn (K.take 0) d p = 0 := by simp [xd_cn]
  refine ⟨fun _ => ⟨by rw [h0], by rw [h0]; omega, fun h => Or.inl (by rw [← h, h0])⟩, fun h => by cases h⟩
theorem xo_J_skip {K : List xk_E} {k : Int32} {d p i g : Nat} {e : xk_E} (h : xo_J K k d p i g true) (he : K[i]? = some e) (hn : ¬ xk_h e.1 % 2 ^ d = p) : xo_J K k d p (i + 1) g true := by
  unfold xo_J at *
  rw [xd_cn_take he, if_neg hn]
  exact h
theorem xo_J_in {K : List xk_E} (hA : xk_asc K) {k : Int32} {d p i g g' : Nat} {e : xk_E} {more : Bool} (h : xo_J K k d p i g true) (he : K[i]? = some e) (hn : xk_h e.1 % 2 ^ d = p) (hg : g' = if xd_cn (K.take i) d p % 4 = 0 then g + 1 else g)
    (hm : more = (decide (e.1 ≠ k) && !((decide ((xd_cn (K.take i) d p + 1) % 4 = 0) || decide (xd_cn (K.take i) d p + 1 = xd_cn K d p)) && decide (k < e.1)))) : xo_J K k d p (i + 1) g' more := by
  obtain ⟨h1, h2, h3⟩ := h.1 rfl
  have ht : xd_cn (K.take (i + 1)) d p = xd_cn (K.take i) d p + 1 := by rw [xd_cn_take he, if_pos hn]
  have hle := xd_cn_sub K d p (i + 1)
  have hbl : xo_bl K k d p ≤ xd_cn K d p := xd_cn_sub K d p _
  have hg' : g' = (xd_cn (K.take i) d p + 1 + 3) / 4 := by rw [hg]; split <;> omega
  have hlt : e.1 < k → xd_cn (K.take i) d p + 1 ≤ xo_bl K k d p := fun q => by
    have := xd_cn_mono (K := K) (d := d) (p := p) (i := i + 1) (j := xk_lo K k) ((xk_below hA he).mp q)
    rw [ht] at this
    exact this
  have hge : ¬ e.1 < k → xo_bl K k d p ≤ xd_cn (K.take i) d p := fun q => by
    have : ¬ i < xk_lo K k := fun z => q ((xk_below hA he).mpr z)
    exact xd_cn_mono (by omega)
  unfold xo_J
  rw [ht] at hle ⊢
  constructor
  · intro q
    rw [q] at hm
    have hm := hm.symm
    simp only [Bool.and_eq_true, Bool.not_eq_true', decide_eq_true_eq, Bool.and_eq_false_iff, Bool.or_eq_false_iff, decide_eq_false_iff_not] at hm
    obtain ⟨m1, m2⟩ := hm
    have end' : (xd_cn (K.take i) d p + 1) % 4 = 0 ∨ xd_cn (K.take i) d p + 1 = xd_cn K d p → e.1 < k := by
      intro z
      rcases m2 with m2 | m2
      · rcases z with z | z
        · exact absurd z m2.1
        · exact absurd z m2.2
      · refine Classical.byContradiction fun w => ?_
        exact m2 (xk_tri w m1)
    refine ⟨hg', ?_, ?_⟩
    · by_cases z : (xd_cn (K.take i) d p + 1) % 4 = 0
      · have := hlt (end' (Or.inl z)); omega
      · omega
    · intro z
      have := hlt (end' (Or.inr z)); omega
  · intro q
    rw [q] at hm
    have hm := hm.symm
    simp only [Bool.and_eq_false_iff, Bool.not_eq_false', decide_eq_false_iff_not, Bool.and_eq_true, Bool.or_eq_true, decide_eq_true_eq] at hm
    refine ⟨?_, by omega⟩
    rw [hg', xo_rp]
    by_cases m1 : e.1 = k
    · obtain ⟨a1, a2⟩ := (xk_there hA he).mp m1
      have : xo_bl K k d p = xd_cn (K.take i) d p := by rw [xo_bl, ← a1]
      rw [this]
      omega
    · rcases hm with hm | hm
      · exact absurd m1 hm
      · have := hge (xk_nlt hm.2)
        omega
theorem xo_J_end {K : List xk_E} {k : Int32} {d p i g : Nat} {more : Bool} (h : xo_J K k d p i g more) (hi : more = true → i = K.length) : (if xd_cn K d p = 0 then 1 else g) = xo_rp K k d p := by
  cases more with
  | false =>
    obtain ⟨h1, h2⟩ := h.2 rfl
    rw [if_neg (by omega), h1]
  | true =>
    have e := hi rfl
    subst e
    obtain ⟨h1, h2, h3⟩ := h.1 rfl
    rw [List.take_length] at h1 h2 h3
    have h4 := h3 rfl
    have hbl : xo_bl K k d p ≤ xd_cn K d p := xd_cn_sub K d p _
    rw [h1, xo_rp]
    split
    · omega
    · rcases h4 with h4 | h4
      · omega
      · rw [h4]; omega
end
section
/-! Pure: base, records, the state behind each record; what a change adds. -/
abbrev xs_O : Type := Nat × Int32 × Int64
abbrev xs_R : Type := Nat × Int32 × Int64 × Nat
def xs_ap (S : List xk_E) (r : xs_R) : List xk_E := if r.1 = 0 then xk_set S r.2.1 r.2.2.1 else if r.1 = 1 then xk_rem S r.2.1 else S
def xs_S (B : List xk_E) (R : List xs_R) (i : Nat) : List xk_E := (R.take i).foldl xs_ap B
def xs_V (lim : Nat) (K : List xk_E) : Prop := K.length ≤ 60 ∧ xd_pg K ≤ lim
def xs_rec (st : Nat) (o : xs_O) : xs_R := (o.1, o.2.1, o.2.2, st)
theorem xs_S_0 (B : List xk_E) (R : List xs_R) : xs_S B R 0 = B := by simp [xs_S]
theorem xs_S_succ {B : List xk_E} {R : List xs_R} {i : Nat} {r : xs_R} (h : R[i]? = some r) : xs_S B R (i + 1) = xs_ap (xs_S B R i) r := by
  unfold xs_S
  rw [xk_take h, List.foldl_append]
  rfl
theorem xs_S_app (B : List xk_E) (R N : List xs_R) {i : Nat} (h : i ≤ R.length) : xs_S B (R ++ N) i = xs_S B R i := by
  unfold xs_S
  rw [List.take_append_of_le_length h]
theorem xs_S_drop (B : List xk_E) (R : List xs_R) (n i : Nat) : xs_S (xs_S B R n) (R.drop n) i = xs_S B R (n + i) := by
  unfold xs_S
  rw [← List.foldl_append]
  congr 1
  rw [List.take_add]
/-- the numbers where a batch began play no part -/
theorem xs_S_st (B : List xk_E) (R : List xs_R) (n i : Nat) : xs_S B (R.map (fun r => (r.1, r.2.1, r.2.2.1, n))) i = xs_S B R i := by
  unfold xs_S
  rw [← List.map_take, List.foldl_map]
  rfl
theorem xs_ap_asc {S : List xk_E} (h : xk_asc S) (r : xs_R) : xk_asc (xs_ap S r) := by
  unfold xs_ap
  split
  · exact xk_asc_set h _ _
  · split
    · exact xk_asc_rem h _
    · exact h
theorem xs_S_asc {B : List xk_E} (h : xk_asc B) (R : List xs_R) (i : Nat) : xk_asc (xs_S B R i) := by
  unfold xs_S
  generalize R.take i = L
  induction L generalizing B with
  | nil => exact h
  | cons r t ih => exact ih (xs_ap_asc h r)
theorem xs_ap_len (S : List xk_E) (r : xs_R) : (xs_ap S r).length ≤ S.length + 1 := by
  unfold xs_ap
  split
  · rw [xk_set_len]; split <;> omega
  · split
    · rw [xk_rem_len]; split <;> omega
    · omega
theorem xs_ap_mark (S : List xk_E) {r : xs_R} (h : r.1 = 2) : xs_ap S r = S := by
  unfold xs_ap
  rw [if_neg (by omega), if_neg (by omega)]
/-- what the class keeps of a record: what its key had before -/
def xs_fm (S : List xk_E) (r : xs_R) : Int32 := if r.1 = 2 then nI 0 else if xk_has S r.2.1 then nI 2 else nI 1
def xs_fv (S : List xk_E) (r : xs_R) : Int64 := if r.1 = 2 then 0 else xk_get S r.2.1
def xs_ct (B : List xk_E) (R : List xs_R) (rk : Nat → Int32) (rv : Nat → Int64) (rm : Nat → Int32) : Prop := ∀ (i : Nat) (r : xs_R), R[i]? = some r → rk i = r.2.1 ∧ rm i = xs_fm (xs_S B R i) r ∧ rv i = xs_fv (xs_S B R i) r
def xs_st (R : List xs_R) (rs : Nat → Int32) : Prop := ∀ (i : Nat) (r : xs_R), R[i]? = some r → rs i = nI r.2.2.2
theorem xs_app_at {α : Type} {R : List α} {r x : α} {i : Nat} (h : (R ++ [r])[i]? = some x) : (i < R.length ∧ R[i]? = some x) ∨ (i = R.length ∧ x = r) := by
  by_cases z : i < R.length
  · rw [List.getElem?_append_left z] at h
    exact Or.inl ⟨z, h⟩
  · rw [List.getElem?_append_right (by omega)] at h
    have hi := (List.getElem?_eq_some_iff.mp h).1
    simp only [List.length_cons, List.length_nil] at hi
    have e : i - R.length = 0 := by omega
    rw [e] at h
    simp at h
    exact Or.inr ⟨by omega, h.symm⟩
theorem xs_ct_app {B : List xk_E} {R : List xs_R} {rk : Nat → Int32} {rv : Nat → Int64} {rm : Nat → Int32} (h : xs_ct B R rk rv rm) (r : xs_R) : xs_ct B (R ++ [r]) (upd rk R.length r.2.1) (vp_updL rv R.length (xs_fv (xs_S B R R.length) r)) (upd rm R.length (xs_fm (xs_S B R R.length) r)) := by
  intro i x hx
  rcases xs_app_at hx with ⟨h1, h2⟩ | ⟨h1, h2⟩
  · rw [pk_un (by omega), pk_un (by omega), pk_uLn (by omega), xs_S_app B R [r] (by omega)]
    exact h i x h2
  · subst h1; subst h2
    rw [pk_us, pk_us, pk_uLs, xs_S_app B R [x] (Nat.le_refl _)]
    exact ⟨rfl, rfl, rfl⟩
/-- taking a record back -/
theorem xs_undo {S : List xk_E} (hA : xk_asc S) (r : xs_R) (hr : r.1 ≤ 2) (hl : S.length ≤ 65) :
    (xs_fm S r = nI 2 ∧ xk_set (xs_ap S r) r.2.1 (xs_fv S r) = S) ∨ (xs_fm S r = nI 1 ∧ xk_rem (xs_ap S r) r.2.1 = S) ∨ (xs_fm S r = nI 0 ∧ xs_ap S r = S) := by
  unfold xs_fm xs_fv xs_ap
  by_cases c2 : r.1 = 2
  · refine Or.inr (Or.inr ⟨by rw [if_pos c2], ?_⟩)
    rw [if_neg (by omega), if_neg (by omega)]
  · rw [if_neg c2, if_neg c2]
    by_cases hk : xk_has S r.2.1 = true
    · refine Or.inl ⟨by rw [if_pos hk], ?_⟩
      by_cases c0 : r.1 = 0
      · rw [if_pos c0]; exact xk_un_ss _ hk
      · rw [if_neg c0, if_pos (by omega)]; exact xk_un_sr hA hk
    · have hk : xk_has S r.2.1 = false := by simpa using hk
      refine Or.inr (Or.inl ⟨by rw [hk]; rfl, ?_⟩)
      by_cases c0 : r.1 = 0
      · rw [if_pos c0]; exact xk_un_rs _ hk
      · rw [if_neg c0, if_pos (by omega), xk_rem_no hk, xk_rem_no hk]
/-- between calls -/
def xs_ok (lim : Nat) (B : List xk_E) (R : List xs_R) : Prop := xk_asc B ∧ B.length ≤ 60 ∧ R.length ≤ 64 ∧ (∀ i, i ≤ R.length → (xs_S B R i).length ≤ 65) ∧ (∀ (i : Nat) (r : xs_R), R[i]? = some r → r.1 ≤ 2 ∧ r.2.2.2 ≤ i ∧ xs_V lim (xs_S B R r.2.2.2)) ∧ xs_V lim (xs_S B R R.length)
def xs_new (B : List xk_E) (R : List xs_R) (N : List xs_O) : List xs_R := R ++ N.map (xs_rec R.length)
def xs_now (B : List xk_E) (R : List xs_R) : List xk_E := xs_S B R R.length
def xs_bad (lim : Nat) (K : List xk_E) : Bool := decide (60 < K.length) || decide (lim < xd_pg K)
/-- base and records behind a change that stays -/
def xs_B (B : List xk_E) (R : List xs_R) (N : List xs_O) : List xk_E := if 64 < R.length + N.length then xs_now B R else B
def xs_Q (B : List xk_E) (R : List xs_R) (N : List xs_O) : List xs_R := if 64 < R.length + N.length then N.map (xs_rec 0) else xs_new B R N
theorem xs_S_len {B : List xk_E} {R : List xs_R} {n : Nat} (h : (xs_S B R n).length ≤ 60) : ∀ m, m ≤ 5 → n + m ≤ R.length → (xs_S B R (n + m)).length ≤ 60 + m := by
  intro m
  induction m with
  | zero => intro _ _; exact h
  | succ m ih =>
    intro hm hn
    have hr : R[n + m]? = some R[n + m] := List.getElem?_eq_getElem (by omega)
    rw [show n + (m + 1) = (n + m) + 1 from rfl, xs_S_succ hr]
    have := xs_ap_len (xs_S B R (n + m)) R[n + m]
    have := ih (by omega) (by omega)
    omega
theorem xs_new_len (B : List xk_E) (R : List xs_R) (N : List xs_O) : (xs_new B R N).length = R.length + N.length := by simp [xs_new]
theorem xs_new_st {B : List xk_E} {R : List xs_R} {N : List xs_O} {i : Nat} {r : xs_R} (h : (xs_new B R N)[i]? = some r) : (i < R.length ∧ R[i]? = some r) ∨ (R.length ≤ i ∧ ∃ o, N[i - R.length]? = some o ∧ r = xs_rec R.length o) := by
  unfold xs_new at h
  by_cases z : i < R.length
  · rw [List.getElem?_append_left z] at h
    exact Or.inl ⟨z, h⟩
  · rw [List.getElem?_append_right (by omega), List.getElem?_map] at h
    cases q : N[i - R.length]? with
    | none => rw [q] at h; cases h
    | some o => rw [q] at h; exact Or.inr ⟨by omega, o, rfl, (Option.some.inj h).symm⟩
theorem xs_new_mid {lim : Nat} {B : List xk_E} {R : List xs_R} (h : xs_ok lim B R) {N : List xs_O} (hN : N.length ≤ 6) (hm : N.length = 6 → ∃ o, N[5]? = some o ∧ o.1 = 2) : ∀ i, i ≤ (xs_new B R N).length → (xs_S B (xs_new B R N) i).length ≤ 65 := by
  intro i hi
  rw [xs_new_len] at hi
  by_cases z : i ≤ R.length
  · rw [xs_new, xs_S_app B R _ z]
    exact h.2.2.2.1 i z
  · have h60 : (xs_S B (xs_new B R N) R.length).length ≤ 60 := by
      rw [xs_new, xs_S_app B R _ (Nat.le_refl _)]
      exact h.2.2.2.2.2.1
    by_cases z5 : i ≤ R.length + 5
    · have := xs_S_len h60 (i - R.length) (by omega) (by rw [xs_new_len]; omega)
      rw [show R.length + (i - R.length) = i from by omega] at this
      omega
    · have e : i = (R.length + 5) + 1 := by omega
      obtain ⟨o, ho, h2⟩ := hm (by omega)
      have hr : (xs_new B R N)[R.length + 5]? = some (xs_rec R.length o) := by
        rw [xs_new, List.getElem?_append_right (by omega), List.getElem?_map, show R.length + 5 - R.length = 5 from by omega, ho]
        rfl
      rw [e, xs_S_succ hr, xs_ap_mark _ (by exact h2)]
      have := xs_S_len h60 5 (by omega) (by rw [xs_new_len]; omega)
      omega
theorem xs_ok_add {lim : Nat} {B : List xk_E} {R : List xs_R} (h : xs_ok lim B R) {N : List xs_O} (hN : N.length ≤ 6) (hm : N.length = 6 → ∃ o, N[5]? = some o ∧ o.1 = 2) (hw : ∀ o ∈ N, o.1 ≤ 2) (hg : xs_bad lim (xs_now B (xs_new B R N)) = false) : xs_ok lim (xs_B B R N) (xs_Q B R N) := by
  have hmid := xs_new_mid h hN hm
  have hV : xs_V lim (xs_S B (xs_new B R N) (xs_new B R N).length) := by
    simp only [xs_bad, Bool.or_eq_false_iff, decide_eq_false_iff_not] at hg
    exact ⟨by have := hg.1; unfold xs_now at this; omega, by have := hg.2; unfold xs_now at this; omega⟩
  obtain ⟨h1, h2, h3, h4, h5, h6⟩ := h
  unfold xs_B xs_Q
  by_cases z : 64 < R.length + N.length
  · rw [if_pos z, if_pos z]
    have hd : N.map (xs_rec 0) = ((xs_new B R N).drop R.length).map (fun r => (r.1, r.2.1, r.2.2.1, 0)) := by
      simp [xs_new, xs_rec]
    have hS : ∀ i, xs_S (xs_now B R) (N.map (xs_rec 0)) i = xs_S B (xs_new B R N) (R.length + i) := by
      intro i
      rw [hd, xs_S_st, xs_now]
      have : xs_S B R R.length = xs_S B (xs_new B R N) R.length := by rw [xs_new, xs_S_app B R _ (Nat.le_refl _)]
      rw [this, xs_S_drop]
    have hlen : (N.map (xs_rec 0)).length = N.length := by simp
    refine ⟨xs_S_asc h1 R _, h6.1, by rw [hlen]; omega, ?_, ?_, ?_⟩
    · intro i hi
      rw [hlen] at hi
      rw [hS]
      exact hmid _ (by rw [xs_new_len]; omega)
    · intro i r hr
      rw [List.getElem?_map] at hr
      cases q : N[i]? with
      | none => rw [q] at hr; cases hr
      | some o =>
        rw [q] at hr
        have hr := Option.some.inj hr
        subst hr
        refine ⟨hw o (List.mem_of_getElem? q), Nat.zero_le _, ?_⟩
        show xs_V lim (xs_S (xs_now B R) (N.map (xs_rec 0)) 0)
        rw [xs_S_0]
        exact h6
    · rw [hS, hlen, ← xs_new_len B]
      exact hV
  · rw [if_neg z, if_neg z]
    refine ⟨h1, h2, by rw [xs_new_len]; omega, hmid, ?_, hV⟩
    intro i r hr
    rcases xs_new_st hr with ⟨a, b⟩ | ⟨a, o, b, c⟩
    · obtain ⟨c1, c2, c3⟩ := h5 i r b
      refine ⟨c1, c2, ?_⟩
      rw [xs_new, xs_S_app B R _ (by omega)]
      exact c3
    · subst c
      refine ⟨hw o (List.mem_of_getElem? b), a, ?_⟩
      show xs_V lim (xs_S B (xs_new B R N) R.length)
      rw [xs_new, xs_S_app B R _ (Nat.le_refl _)]
      exact h6
theorem xs_ok_flush {lim : Nat} {B : List xk_E} {R : List xs_R} (h : xs_ok lim B R) {n : Nat} (hV : xs_V lim (xs_S B R n)) : xs_ok lim (xs_S B R n) [] := by
  refine ⟨xs_S_asc h.1 R n, hV.1, Nat.zero_le _, ?_, fun i r hr => by simp at hr, ?_⟩
  · intro i hi
    have e : i = 0 := by simpa using hi
    subst e
    rw [xs_S_0]
    have := hV.1; omega
  · show xs_V lim (xs_S (xs_S B R n) [] 0)
    rw [xs_S_0]
    exact hV
end
section
/-! Pure: what the class's arrays hold of a list. -/
def xw_KT (kf : Nat → Int32) (kg : Nat → Int64) (af bf : Nat → Int32) (K : List xk_E) : Prop := K.length ≤ 65 ∧ xk_asc K ∧ xk_tie kf kg K ∧ ∀ d p, d ≤ 6 → p < 2 ^ d → af (2 ^ d + p) = nI (xd_cn K d p) ∧ bf (2 ^ d + p) = nI (xd_hc K d p)
theorem xd_hc_le (K : List xk_E) (d p : Nat) : xd_hc K d p ≤ 64 := by
  have := List.countP_le_length (p := fun h => h % 2 ^ d == p && decide (0 < xd_cn K 6 h)) (l := List.range 64)
  rw [List.length_range] at this
  exact this
theorem xw_pow {d : Nat} (hd : d ≤ 6) : 2 ^ d ≤ 64 := by
  have : (2 : Nat) ^ d ≤ 2 ^ 6 := Nat.pow_le_pow_right (by decide) hd
  exact this
theorem xw_cell {d p : Nat} (hd : d ≤ 6) (hp : p < 2 ^ d) : 2 ^ d + p < 128 := by
  have := xw_pow hd; omega
theorem xw_shl {d : Nat} (hd : d ≤ 6) : nI 1 <<< (nI d &&& 31) = nI (2 ^ d) := by
  have key : ∀ d, d < 7 → nI 1 <<< (nI d &&& 31) = nI (2 ^ d) := by decide +kernel
  exact key d (by omega)
theorem xw_and {a d : Nat} (ha : a < 2 ^ 31) (hd : d ≤ 6) : nI a &&& nI (2 ^ d - 1) = nI (a % 2 ^ d) := by
  have := xw_pow hd
  exact pk_andN (by omega) d (pk_tn (by omega))
def xw_cu (f : Nat → Int32) (h : Nat) (x : Int32) : Nat → Nat → Int32
  | 0 => f
  | d + 1 => upd (xw_cu f h x d) (2 ^ d + h % 2 ^ d) (f (2 ^ d + h % 2 ^ d) + x)
theorem xw_cu_hi (f : Nat → Int32) (h : Nat) (x : Int32) : ∀ (d j : Nat), 2 ^ d ≤ j → xw_cu f h x d j = f j := by
  intro d
  induction d with
  | zero => intro j _; rfl
  | succ d ih =>
    intro j hj
    have h1 : h % 2 ^ d < 2 ^ d := Nat.mod_lt _ (Nat.two_pow_pos d)
    have h2 : (2 : Nat) ^ (d + 1) = 2 ^ d + 2 ^ d := by rw [Nat.pow_succ]; omega
    simp only [xw_cu]
    rw [pk_un (by omega), ih j (by omega)]
theorem xw_cu_at (f : Nat → Int32) (h : Nat) (x : Int32) {d p : Nat} (hp : p < 2 ^ d) : ∀ n, d < n → xw_cu f h x n (2 ^ d + p) = if h % 2 ^ d = p then f (2 ^ d + p) + x else f (2 ^ d + p) := by
  intro n
  induction n with
  | zero => intro hn; omega
  | succ n ih =>
    intro hn
    simp only [xw_cu]
    by_cases z : d = n
    · subst z
      by_cases w : h % 2 ^ d = p
      · rw [if_pos w, w, pk_us]
      · rw [if_neg w, pk_un (by omega), xw_cu_hi f h x d _ (by omega)]
    · have h2 : (2 : Nat) ^ (d + 1) = 2 ^ d + 2 ^ d := by rw [Nat.pow_succ]; omega
      have h3 : (2 : Nat) ^ (d + 1) ≤ 2 ^ n := Nat.pow_le_pow_right (by decide) (by omega)
      rw [pk_un (by omega), ih (by omega)]
theorem xw_mod6 {h : Nat} (hh : h < 64) : h % 2 ^ 6 = h := by
  have e1 : (2 : Nat) ^ 6 = 64 := rfl
  rw [e1]; omega
theorem xw_before {kf : Nat → Int32} {kg : Nat → Int64} {af bf : Nat → Int32} {K : List xk_E} (hT : xw_KT kf kg af bf K) {h : Nat} (hh : h < 64) : af (2 ^ 6 + h % 2 ^ 6) = nI (xd_cn K 6 h) := by
  rw [xw_mod6 hh]
  exact (hT.2.2.2 6 h (Nat.le_refl _) (by have e1 : (2 : Nat) ^ 6 = 64 := rfl; rw [e1]; exact hh)).1
theorem xw_KT_put {kf : Nat → Int32} {kg : Nat → Int64} {af bf : Nat → Int32} {K : List xk_E} (hT : xw_KT kf kg af bf K) {k : Int32} (v : Int64) (hk : xk_has K k = true) : xw_KT kf (vp_updL kg (xk_lo K k) v) af bf (xk_set K k v) := by
  obtain ⟨h1, h2, h3, h4⟩ := hT
  refine ⟨by rw [xk_set_len, if_pos hk]; exact h1, xk_asc_set h2 k v, xk_tie_put h3 v hk, fun d p hd hp => ?_⟩
  have hc : ∀ d p, xd_cn (xk_set K k v) d p = xd_cn K d p := fun d p => by rw [xd_cn_set, if_neg]; rw [hk]; exact fun q => by cases q.1
  have hh : xd_hc (xk_set K k v) d p = xd_hc K d p := by
    unfold xd_hc
    exact xd_count0 64 (fun j _ => by rw [hc])
  rw [hc, hh]
  exact h4 d p hd hp
theorem xw_KT_ins {kf kf' : Nat → Int32} {kg kg' : Nat → Int64} {af bf : Nat → Int32} {K : List xk_E} (hT : xw_KT kf kg af bf K) {k : Int32} {v : Int64} (hk : xk_has K k = false) (hl : K.length < 65) (hf : ∀ j, j < K.length + 1 → kf' j = xk_ins kf (xk_lo K k) k j) (hg : ∀ j, j < K.length + 1 → kg' j = xk_ins kg (xk_lo K k) v j) {fl : Bool} (hfl : fl = decide (xd_cn K 6 (xk_h k) = 0)) :
    xw_KT kf' kg' (xw_cu af (xk_h k) (nI 1) 7) (if fl = true then xw_cu bf (xk_h k) (nI 1) 7 else bf) (xk_set K k v) := by
  obtain ⟨h1, h2, h3, h4⟩ := hT
  refine ⟨by rw [xk_set_len, hk]; exact hl, xk_asc_set h2 k v, xk_tie_ins h3 hk hf hg, fun d p hd hp => ?_⟩
  obtain ⟨a1, a2⟩ := h4 d p hd hp
  rw [xd_cn_set, xd_hc_set K k v d p hk, xw_cu_at af _ _ hp 7 (by omega)]
  constructor
  · by_cases z : xk_h k % 2 ^ d = p
    · rw [if_pos z, if_pos ⟨hk, z⟩, a1, nI_add]
    · rw [if_neg z, if_neg (fun q => z q.2), a1]
  · by_cases w : xd_cn K 6 (xk_h k) = 0
    · have hf1 : fl = true := by rw [hfl, decide_eq_true_eq]; exact w
      rw [if_pos hf1, xw_cu_at bf _ _ hp 7 (by omega)]
      by_cases z : xk_h k % 2 ^ d = p
      · rw [if_pos z, if_pos ⟨z, w⟩, a2, nI_add]
      · rw [if_neg z, if_neg (fun q => z q.1), a2]
    · have hf1 : ¬ fl = true := by rw [hfl, decide_eq_true_eq]; exact w
      rw [if_neg hf1, if_neg (fun q => w q.2), a2]
theorem xw_has_cn {K : List xk_E} {k : Int32} (hk : xk_has K k = true) : 0 < xd_cn K 6 (xk_h k) := by
  rw [xd_cn_rem K k 6 (xk_h k), if_pos ⟨hk, xw_mod6 (xk_h_lt k)⟩]
  omega
theorem xw_dec (n : Nat) (h : 0 < n) : nI n + (-1) = nI (n - 1) := sb_m1 h
theorem xw_KT_del {kf kf' : Nat → Int32} {kg kg' : Nat → Int64} {af bf : Nat → Int32} {K : List xk_E} (hT : xw_KT kf kg af bf K) {k : Int32} (hk : xk_has K k = true) (hf : ∀ j, j + 1 < K.length → kf' j = xk_del kf (xk_lo K k) j) (hg : ∀ j, j + 1 < K.length → kg' j = xk_del kg (xk_lo K k) j) {fl : Bool} (hfl : fl = decide (xd_cn K 6 (xk_h k) = 1)) :
    xw_KT kf' kg' (xw_cu af (xk_h k) (-1) 7) (if fl = true then xw_cu bf (xk_h k) (-1) 7 else bf) (xk_rem K k) := by
  obtain ⟨h1, h2, h3, h4⟩ := hT
  refine ⟨by rw [xk_rem_len, if_pos hk]; omega, xk_asc_rem h2 k, xk_tie_del h3 hk hf hg, fun d p hd hp => ?_⟩
  obtain ⟨a1, a2⟩ := h4 d p hd hp
  have c1 := xd_cn_rem K k d p
  have c2 := xd_hc_rem K k d p hk
  rw [xw_cu_at af _ _ hp 7 (by omega)]
  constructor
  · by_cases z : xk_h k % 2 ^ d = p
    · rw [if_pos ⟨hk, z⟩] at c1
      rw [if_pos z, a1, xw_dec _ (by omega), c1]
      rfl
    · rw [if_neg (fun q => z q.2)] at c1
      rw [if_neg z, a1, c1]
  · by_cases w : xd_cn K 6 (xk_h k) = 1
    · have hf1 : fl = true := by rw [hfl, decide_eq_true_eq]; exact w
      rw [if_pos hf1, xw_cu_at bf _ _ hp 7 (by omega)]
      by_cases z : xk_h k % 2 ^ d = p
      · rw [if_pos ⟨z, w⟩] at c2
        rw [if_pos z, a2, xw_dec _ (by omega), c2]
        rfl
      · rw [if_neg (fun q => z q.1)] at c2
        rw [if_neg z, a2, c2]
    · have hf1 : ¬ fl = true := by rw [hfl, decide_eq_true_eq]; exact w
      rw [if_neg (fun q => w q.2)] at c2
      rw [if_neg hf1, a2, c2]
/-- moving the records from n on to the front -/
def xw_mv {α : Type} (f : Nat → α) (n w : Nat) : Nat → α := fun j => if j < w then f (n + j) else f j
theorem xw_mv_0 {α : Type} (f : Nat → α) (n : Nat) : xw_mv f n 0 = f := by funext j; simp [xw_mv]
theorem xw_mv_at {α : Type} (f : Nat → α) (n w : Nat) : xw_mv f n w (n + w) = f (n + w) := by
  unfold xw_mv
  rw [if_neg (by omega)]
theorem xw_mv_up (f : Nat → Int32) (n w : Nat) : upd (xw_mv f n w) w (f (n + w)) = xw_mv f n (w + 1) := by
  funext j
  by_cases z : j = w
  · subst z; rw [pk_us]; unfold xw_mv; rw [if_pos (by omega)]
  · rw [pk_un z]; unfold xw_mv
    by_cases y : j < w
    · rw [if_pos y, if_pos (by omega)]
    · rw [if_neg y, if_neg (by omega)]
theorem xw_mv_upL (f : Nat → Int64) (n w : Nat) : vp_updL (xw_mv f n w) w (f (n + w)) = xw_mv f n (w + 1) := by
  funext j
  by_cases z : j = w
  · subst z; rw [pk_uLs]; unfold xw_mv; rw [if_pos (by omega)]
  · rw [pk_uLn z]; unfold xw_mv
    by_cases y : j < w
    · rw [if_pos y, if_pos (by omega)]
    · rw [if_neg y, if_neg (by omega)]
/-- the reference's look whether a class is good -/
def xg_J (K : List xk_E) (d p i : Nat) (one : Int32) (same : Bool) : Prop :=
  (xd_cn (K.take i) d p = 0 → one = -1 ∧ same = true) ∧ (0 < xd_cn (K.take i) d p → ∃ a, a ∈ K.take i ∧ xd_in d p a = true ∧ one = nI (xk_h a.1) ∧ same = xd_sm (K.take i) d p)
theorem xg_J_0 (K : List xk_E) (d p : Nat) : xg_J K d p 0 (-1) true := by
  have h0 : xd_cn (K.take 0) d p = 0 := by simp [xd_cn]
  exact ⟨fun _ => ⟨rfl, rfl⟩, fun h => by omega⟩
theorem xg_J_skip {K : List xk_E} {d p i : Nat} {one : Int32} {same : Bool} {e : xk_E} (h : xg_J K d p i one same) (he : K[i]? = some e) (hn : ¬ xk_h e.1 % 2 ^ d = p) : xg_J K d p (i + 1) one same := by
  unfold xg_J at *
  rw [xd_cn_take he, if_neg hn]
  refine ⟨h.1, fun q => ?_⟩
  obtain ⟨a, h1, h2, h3, h4⟩ := h.2 q
  refine ⟨a, ?_, h2, h3, ?_⟩
  · rw [xk_take he]; exact List.mem_append_left _ h1
  · rw [h4, Bool.eq_iff_iff, xd_sm_iff, xd_sm_iff, xk_take he]
    constructor
    · intro g x hx y hy ix iy
      rcases List.mem_append.mp hx with hx | hx
      · rcases List.mem_append.mp hy with hy | hy
        · exact g x hx y hy ix iy
        · rw [List.mem_singleton.mp hy, xd_in_iff] at iy; exact absurd iy hn
      · rw [List.mem_singleton.mp hx, xd_in_iff] at ix; exact absurd ix hn
    · intro g x hx y hy ix iy
      exact g x (List.mem_append_left _ hx) y (List.mem_append_left _ hy) ix iy
theorem xg_J_in {K : List xk_E} {d p i : Nat} {one : Int32} {same same' : Bool} {e : xk_E} (h : xg_J K d p i one same) (he : K[i]? = some e) (hn : xk_h e.1 % 2 ^ d = p) (hs : same' = (same && (decide (one < 0) || decide (one = nI (xk_h e.1))))) : xg_J K d p (i + 1) (nI (xk_h e.1)) same' := by
  have hie : xd_in d p e = true := xd_in_iff.mpr hn
  have hmem : e ∈ K.take (i + 1) := by rw [xk_take he]; simp
  have hlt := xk_h_lt e.1
  refine ⟨fun q => ?_, fun _ => ⟨e, hmem, hie, rfl, ?_⟩⟩
  · rw [xd_cn_take he, if_pos hn] at q; omega
  · rw [hs]
    by_cases z : xd_cn (K.take i) d p = 0
    · obtain ⟨a1, a2⟩ := h.1 z
      rw [a1, a2]
      have e1 : decide ((-1 : Int32) < 0) = true := by decide
      rw [e1, Bool.eq_iff_iff, xd_sm_iff, xk_take he]
      simp only [Bool.true_or, Bool.and_self, true_iff]
      have no : ∀ x ∈ K.take i, ¬ xd_in d p x = true := fun x hx ix => by
        have : 0 < (K.take i).countP (xd_in d p) := List.countP_pos_iff.mpr ⟨x, hx, ix⟩
        unfold xd_cn at z; omega
      intro x hx y hy ix iy
      rcases List.mem_append.mp hx with hx | hx
      · exact absurd ix (no x hx)
      · rcases List.mem_append.mp hy with hy | hy
        · exact absurd iy (no y hy)
        · rw [List.mem_singleton.mp hx, List.mem_singleton.mp hy]
    · obtain ⟨a, h1, h2, h3, h4⟩ := h.2 (by omega)
      have hla := xk_h_lt a.1
      have e1 : decide (one < 0) = false := by rw [h3, decide_eq_false_iff_not]; exact nI_pos (by omega)
      have e2 : decide (one = nI (xk_h e.1)) = decide (xk_h a.1 = xk_h e.1) := by rw [h3, decide_eq_decide]; exact nI_eq (by omega) (by omega)
      rw [e1, e2, h4, Bool.eq_iff_iff, xd_sm_iff, xk_take he]
      simp only [Bool.false_or, Bool.and_eq_true, decide_eq_true_eq, xd_sm_iff]
      constructor
      · rintro ⟨g1, g2⟩ x hx y hy ix iy
        rcases List.mem_append.mp hx with hx | hx
        · rcases List.mem_append.mp hy with hy | hy
          · exact g1 x hx y hy ix iy
          · rw [List.mem_singleton.mp hy, ← g2]; exact g1 x hx a h1 ix h2
        · rcases List.mem_append.mp hy with hy | hy
          · rw [List.mem_singleton.mp hx, ← g2]; exact g1 a h1 y hy h2 iy
          · rw [List.mem_singleton.mp hx, List.mem_singleton.mp hy]
      · intro g
        refine ⟨fun x hx y hy ix iy => g x (List.mem_append_left _ hx) y (List.mem_append_left _ hy) ix iy, ?_⟩
        exact g a (List.mem_append_left _ h1) e (List.mem_append_right _ (by simp)) h2 hie
theorem xg_J_end {K : List xk_E} {d p : Nat} {one : Int32} {same : Bool} (h : xg_J K d p K.length one same) : xd_gd K d p = (decide (xd_cn K d p ≤ 4) || same) := by
  unfold xg_J at h
  rw [List.take_length] at h
  by_cases z : xd_cn K d p = 0
  · simp [xd_gd, z]
  · obtain ⟨a, _, _, _, h4⟩ := h.2 (by omega)
    rw [h4]
    rfl
end
section
/-! Pure: what the loops that move cells leave behind. -/
def xm_sh {α : Type} (f : Nat → α) (n i : Nat) : Nat → α := fun j => if i < j ∧ j ≤ n then f (j - 1) else f j
theorem xm_sh_0 {α : Type} (f : Nat → α) (n : Nat) : xm_sh f n n = f := by
  funext j; unfold xm_sh; rw [if_neg (by omega)]
theorem xm_sh_at {α : Type} (f : Nat → α) {n i : Nat} (h : 0 < i) : xm_sh f n i (i - 1) = f (i - 1) := by
  unfold xm_sh; rw [if_neg (by omega)]
theorem xm_sh_up (f : Nat → Int32) {n i : Nat} (h : 0 < i) (hn : i ≤ n) : upd (xm_sh f n i) i (f (i - 1)) = xm_sh f n (i - 1) := by
  funext j
  by_cases z : j = i
  · subst z; rw [pk_us]; unfold xm_sh; rw [if_pos (by omega)]
  · rw [pk_un z]; unfold xm_sh
    by_cases y : i < j ∧ j ≤ n
    · rw [if_pos y, if_pos (by omega)]
    · rw [if_neg y, if_neg (by omega)]
theorem xm_sh_upL (f : Nat → Int64) {n i : Nat} (h : 0 < i) (hn : i ≤ n) : vp_updL (xm_sh f n i) i (f (i - 1)) = xm_sh f n (i - 1) := by
  funext j
  by_cases z : j = i
  · subst z; rw [pk_uLs]; unfold xm_sh; rw [if_pos (by omega)]
  · rw [pk_uLn z]; unfold xm_sh
    by_cases y : i < j ∧ j ≤ n
    · rw [if_pos y, if_pos (by omega)]
    · rw [if_neg y, if_neg (by omega)]
theorem xm_sh_ins (f : Nat → Int32) (n b : Nat) (x : Int32) {j : Nat} (hj : j < n + 1) : upd (xm_sh f n b) b x j = xk_ins f b x j := by
  unfold xk_ins
  by_cases z : j = b
  · subst z; rw [pk_us, if_neg (by omega), if_pos rfl]
  · rw [pk_un z]; unfold xm_sh
    by_cases y : j < b
    · rw [if_pos y, if_neg (by omega)]
    · rw [if_neg y, if_neg z, if_pos (by omega)]
theorem xm_sh_insL (f : Nat → Int64) (n b : Nat) (x : Int64) {j : Nat} (hj : j < n + 1) : vp_updL (xm_sh f n b) b x j = xk_ins f b x j := by
  unfold xk_ins
  by_cases z : j = b
  · subst z; rw [pk_uLs, if_neg (by omega), if_pos rfl]
  · rw [pk_uLn z]; unfold xm_sh
    by_cases y : j < b
    · rw [if_pos y, if_neg (by omega)]
    · rw [if_neg y, if_neg z, if_pos (by omega)]
def xm_dn {α : Type} (f : Nat → α) (a i : Nat) : Nat → α := fun j => if a ≤ j ∧ j < i then f (j + 1) else f j
theorem xm_dn_0 {α : Type} (f : Nat → α) (a : Nat) : xm_dn f a a = f := by
  funext j; unfold xm_dn; rw [if_neg (by omega)]
theorem xm_dn_at {α : Type} (f : Nat → α) (a i : Nat) : xm_dn f a i (i + 1) = f (i + 1) := by
  unfold xm_dn; rw [if_neg (by omega)]
theorem xm_dn_up (f : Nat → Int32) {a i : Nat} (h : a ≤ i) : upd (xm_dn f a i) i (f (i + 1)) = xm_dn f a (i + 1) := by
  funext j
  by_cases z : j = i
  · subst z; rw [pk_us]; unfold xm_dn; rw [if_pos (by omega)]
  · rw [pk_un z]; unfold xm_dn
    by_cases y : a ≤ j ∧ j < i
    · rw [if_pos y, if_pos (by omega)]
    · rw [if_neg y, if_neg (by omega)]
theorem xm_dn_upL (f : Nat → Int64) {a i : Nat} (h : a ≤ i) : vp_updL (xm_dn f a i) i (f (i + 1)) = xm_dn f a (i + 1) := by
  funext j
  by_cases z : j = i
  · subst z; rw [pk_uLs]; unfold xm_dn; rw [if_pos (by omega)]
  · rw [pk_uLn z]; unfold xm_dn
    by_cases y : a ≤ j ∧ j < i
    · rw [if_pos y, if_pos (by omega)]
    · rw [if_neg y, if_neg (by omega)]
theorem xm_dn_del {α : Type} (f : Nat → α) (a n : Nat) {j : Nat} (hj : j + 1 < n) : xm_dn f a (n - 1) j = xk_del f a j := by
  unfold xm_dn xk_del
  by_cases y : j < a
  · rw [if_pos y, if_neg (by omega)]
  · rw [if_neg y, if_pos (by omega)]
def xm_cp {α : Type} (f g : Nat → α) (i : Nat) : Nat → α := fun j => if j < i then g j else f j
theorem xm_cp_0 {α : Type} (f g : Nat → α) : xm_cp f g 0 = f := by
  funext j; unfold xm_cp; rw [if_neg (by omega)]
theorem xm_cp_up (f g : Nat → Int32) (i : Nat) : upd (xm_cp f g i) i (g i) = xm_cp f g (i + 1) := by
  funext j
  by_cases z : j = i
  · subst z; rw [pk_us]; unfold xm_cp; rw [if_pos (by omega)]
  · rw [pk_un z]; unfold xm_cp
    by_cases y : j < i
    · rw [if_pos y, if_pos (by omega)]
    · rw [if_neg y, if_neg (by omega)]
theorem xm_cp_upL (f g : Nat → Int64) (i : Nat) : vp_updL (xm_cp f g i) i (g i) = xm_cp f g (i + 1) := by
  funext j
  by_cases z : j = i
  · subst z; rw [pk_uLs]; unfold xm_cp; rw [if_pos (by omega)]
  · rw [pk_uLn z]; unfold xm_cp
    by_cases y : j < i
    · rw [if_pos y, if_pos (by omega)]
    · rw [if_neg y, if_neg (by omega)]
theorem xm_cp_in {α : Type} (f g : Nat → α) {i j : Nat} (h : j < i) : xm_cp f g i j = g j := by unfold xm_cp; rw [if_pos h]
theorem xm_cp_tie {f fb : Nat → Int32} {g gb : Nat → Int64} {K : List xk_E} (h : xk_tie fb gb K) {n : Nat} (hn : n = K.length) : xk_tie (xm_cp f fb n) (xm_cp g gb n) K := by
  intro i hi
  rw [xm_cp_in _ _ (by omega), xm_cp_in _ _ (by omega)]
  exact h i hi
/-- the beginnings of batches, moved and counted anew -/
def xm_mb (f : Nat → Int32) (n w : Nat) : Nat → Int32 := fun j => if j < w then f (n + j) - nI n else f j
theorem xm_mb_0 (f : Nat → Int32) (n : Nat) : xm_mb f n 0 = f := by funext j; simp [xm_mb]
theorem xm_mb_at (f : Nat → Int32) (n w : Nat) : xm_mb f n w (n + w) = f (n + w) := by
  unfold xm_mb
  rw [if_neg (by omega)]
theorem xm_mb_up (f : Nat → Int32) (n w : Nat) : upd (xm_mb f n w) w (f (n + w) - nI n) = xm_mb f n (w + 1) := by
  funext j
  by_cases z : j = w
  · subst z; rw [pk_us]; unfold xm_mb; rw [if_pos (by omega)]
  · rw [pk_un z]; unfold xm_mb
    by_cases y : j < w
    · rw [if_pos y, if_pos (by omega)]
    · rw [if_neg y, if_neg (by omega)]
/-- System.arraycopy within the class's rows -/
theorem xm_ins (f : Nat → Int32) {n b : Nat} (hb : b ≤ n) (x : Int32) {j : Nat} (hj : j < n + 1) : upd (va_cpy f f b (b + 1) (n - b)) b x j = xk_ins f b x j := by
  unfold xk_ins
  by_cases z : j = b
  · subst z; rw [pk_us, if_neg (by omega), if_pos rfl]
  · rw [pk_un z]
    by_cases y : j < b
    · rw [if_pos y, pk_cpy_out (by omega)]
    · rw [if_neg y, if_neg z, pk_cpy_in (by omega) (by omega)]
      congr 1
      omega
theorem xm_insL (f : Nat → Int64) {n b : Nat} (hb : b ≤ n) (x : Int64) {j : Nat} (hj : j < n + 1) : vp_updL (va_cpy f f b (b + 1) (n - b)) b x j = xk_ins f b x j := by
  unfold xk_ins
  by_cases z : j = b
  · subst z; rw [pk_uLs, if_neg (by omega), if_pos rfl]
  · rw [pk_uLn z]
    by_cases y : j < b
    · rw [if_pos y, pk_cpy_out (by omega)]
    · rw [if_neg y, if_neg z, pk_cpy_in (by omega) (by omega)]
      congr 1
      omega
theorem xm_del {α : Type} (f : Nat → α) {n b : Nat} (hb : b < n) {j : Nat} (hj : j + 1 < n) : va_cpy f f (b + 1) b (n - 1 - b) j = xk_del f b j := by
  unfold xk_del
  by_cases y : j < b
  · rw [if_pos y, pk_cpy_out (by omega)]
  · rw [if_neg y, pk_cpy_in (by omega) (by omega)]
    congr 1
    omega
end
section
/-! Small rows that the walks use. -/
theorem xk_nle {a b : Int32} (h : ¬ a ≤ b) : b < a := by
  rw [Int32.le_iff_toInt_le] at h; rw [Int32.lt_iff_toInt_lt]; omega
theorem xk_nlt2 {a b : Int32} (h : a ≤ b) : ¬ b < a := by
  rw [Int32.le_iff_toInt_le] at h; rw [Int32.lt_iff_toInt_lt]; omega
theorem xk_le {a b : Int32} (h : ¬ a < b) : b ≤ a := by
  rw [Int32.lt_iff_toInt_lt] at h; rw [Int32.le_iff_toInt_le]; omega
theorem xl_eq {x y : Int64} : lg_cmp x y = 0 ↔ x = y := lg_cmp_eq x y
theorem xl_ne {x y : Int64} : lg_cmp x y = 0 ↔ x = y := lg_cmp_eq x y
theorem xl_lt {x y : Int64} : lg_cmp x y < 0 ↔ x < y := lg_cmp_lt x y
theorem xl_gt {x y : Int64} : 0 < lg_cmp x y ↔ y < x := lg_cmp_gt x y
theorem xl_ge {x y : Int64} : 0 ≤ lg_cmp x y ↔ ¬ x < y := by
  rw [lg_cmp_ge, Int64.lt_iff_toInt_lt, Int64.le_iff_toInt_le]; omega
theorem xl_le {x y : Int64} : lg_cmp x y ≤ 0 ↔ ¬ y < x := by
  rw [lg_cmp_le, Int64.lt_iff_toInt_lt, Int64.le_iff_toInt_le]; omega
theorem xw_g1 {K : List xk_E} {d p : Nat} (h : xd_cn K d p ≤ 4 ∨ xd_hc K d p = 1) : nI 1 = xb_i (xd_gd K d p) := by
  rw [(xd_good K d p).mpr h]; exact xb_t.symm
theorem xw_g0 {K : List xk_E} {d p : Nat} (h1 : ¬ xd_cn K d p ≤ 4) (h2 : ¬ xd_hc K d p = 1) : nI 0 = xb_i (xd_gd K d p) := by
  have : xd_gd K d p = false := by
    rw [← Bool.not_eq_true]
    intro q
    rcases (xd_good K d p).mp q with q | q
    · exact h1 q
    · exact h2 q
  rw [this]; exact xb_f.symm
theorem xw_pl0 {K : List xk_E} {p : Nat} (h : ¬ p % 2 ^ xd_dp K p = p) : xd_pl K p = false := by
  rw [← Bool.not_eq_true]
  exact fun q => h (xd_pl_iff.mp q)
theorem xw_lts {K : List xk_E} {b : Nat} {k : Int32} {e : xk_E} (h : ∀ (j : Nat) (e : xk_E), j < b → K[j]? = some e → e.1 < k) (he : K[b]? = some e) (hk : e.1 < k) : ∀ (j : Nat) (x : xk_E), j < b + 1 → K[j]? = some x → x.1 < k := by
  intro j x hj hx
  by_cases z : j = b
  · subst z
    rw [he] at hx
    cases hx
    exact hk
  · exact h j x (by omega) hx
theorem xw_none {α : Type} {K : List α} {b : Nat} {x : α} {P : Prop} (h : K.length ≤ b) (hx : K[b]? = some x) : P := by
  rw [List.getElem?_eq_none h] at hx; cases hx
theorem xw_nlt {K : List xk_E} {b : Nat} {k : Int32} {e x : xk_E} (he : K[b]? = some e) (hk : k ≤ e.1) (hx : K[b]? = some x) : ¬ x.1 < k := by
  rw [he] at hx
  cases hx
  exact xk_nlt2 hk
theorem xw_hT {K : List xk_E} {k : Int32} {e : xk_E} (he : K[xk_lo K k]? = some e) (h : e.1 = k) : xk_has K k = true := (xk_has_iff K k).mpr ⟨e, he, h⟩
theorem xw_hF {K : List xk_E} {k : Int32} {e : xk_E} (he : K[xk_lo K k]? = some e) (h : ¬ e.1 = k) : xk_has K k = false := by
  rw [← Bool.not_eq_true, xk_has_iff]
  rintro ⟨x, hx, q⟩
  rw [he] at hx
  cases hx
  exact h q
theorem xw_hL {K : List xk_E} {k : Int32} (h : K.length ≤ xk_lo K k) : xk_has K k = false := by
  rw [← Bool.not_eq_true]
  intro q
  have := xk_has_lt q
  omega
theorem xw_lo1 {K : List xk_E} {k : Int32} {i : Nat} (h : i ≤ xk_lo K k) (g : K.length ≤ i) : i = xk_lo K k := by
  have := xk_lo_le K k; omega
theorem xw_lo2 {K : List xk_E} (hA : xk_asc K) {k : Int32} {i : Nat} {e : xk_E} (h : i ≤ xk_lo K k) (he : K[i]? = some e) (g : k ≤ e.1) : i = xk_lo K k := by
  have : ¬ i < xk_lo K k := fun z => xk_nlt2 g ((xk_below hA he).mpr z)
  omega
theorem xw_max0 {n : Nat} (h : n < 2 ^ 31) : (if nI 0 < nI n - nI 1 then nI n - nI 1 else nI 0) = nI (n - 1) := by
  by_cases z : n = 0
  · subst z; decide
  · rw [pk_sub (by omega)]
    simp only [nI_ltI (show 0 < 2 ^ 31 by decide) (show n - 1 < 2 ^ 31 by omega)]
    split
    · rfl
    · rw [show n - 1 = 0 from by omega]
theorem xw_ix {x : Int32} {n : Nat} (h : ¬ x < 0) (g : x < nI n) (hn : n < 2 ^ 31) : ∃ j : Nat, j < n ∧ x = nI j := by
  obtain ⟨j, hj, rfl⟩ := nI_of h
  rw [nI_ltI hj hn] at g
  exact ⟨j, g, rfl⟩
theorem xw_ka0 {K : List xk_E} {x : Int32} (h : x < 0) : nI 0 = xo_ka K x := by
  unfold xo_ka; rw [if_pos h]; rfl
theorem xw_ka1 {K : List xk_E} {x : Int32} (hK : K.length ≤ 65) (h : ¬ x < nI K.length) : nI 0 = xo_ka K x := by
  rw [xo_ka_miss]
  · rfl
  · intro j hj e
    rw [xo_ko_all] at hj
    subst e
    exact h (nI_lt hj (by omega))
/-- keys and hashes counted, the hashes only where one comes or goes -/
def xw_cb (f : Nat → Int32) (h : Nat) (x : Int32) (fl : Bool) (d : Nat) : Nat → Int32 := match fl with
  | true => xw_cu f h x d
  | false => f
theorem xw_cb_0 (f : Nat → Int32) (h : Nat) (x : Int32) (fl : Bool) : f = xw_cb f h x fl 0 := by cases fl <;> rfl
theorem xw_cb_if (f : Nat → Int32) (h : Nat) (x : Int32) (fl : Bool) (d : Nat) : xw_cb f h x fl d = if fl = true then xw_cu f h x d else f := by cases fl <;> rfl
theorem xw_cb_t {f : Nat → Int32} {h : Nat} {x : Int32} {fl : Bool} {d : Nat} (hf : fl = true) : xw_cb f h x fl d = xw_cu f h x d := by subst hf; rfl
theorem xw_cb_f {f : Nat → Int32} {h : Nat} {x : Int32} {fl : Bool} (d d' : Nat) (hf : fl = false) : xw_cb f h x fl d = xw_cb f h x fl d' := by subst hf; rfl
theorem xw_fl1 {fl : Bool} {a x : Int32} (hfl : fl = (decide (a = 0) || decide (a + x = 0))) (h : a = 0 ∨ a + x = 0) : nI 1 = xb_i fl := by
  have : fl = true := by
    rw [hfl]
    simpa using h
  rw [this]; exact xb_t.symm
theorem xw_fl0 {fl : Bool} {a x : Int32} (hfl : fl = (decide (a = 0) || decide (a + x = 0))) (h1 : ¬ a = 0) (h2 : ¬ a + x = 0) : nI 0 = xb_i fl := by
  have : fl = false := by
    rw [hfl]
    simp [h1, h2]
  rw [this]; exact xb_f.symm
theorem xw_flP {kf : Nat → Int32} {kg : Nat → Int64} {af bf : Nat → Int32} {K : List xk_E} (hT : xw_KT kf kg af bf K) {h : Nat} (hh : h < 64) : decide (xd_cn K 6 h = 0) = (decide (af (2 ^ 6 + h % 2 ^ 6) = 0) || decide (af (2 ^ 6 + h % 2 ^ 6) + nI 1 = 0)) := by
  have hc := xd_cn_le K 6 h
  have hl := hT.1
  rw [xw_before hT hh, nI_add, Bool.eq_iff_iff]
  simp only [Bool.or_eq_true, decide_eq_true_eq, xn_eq0 (show xd_cn K 6 h < 2 ^ 31 by omega), xn_eq0 (show xd_cn K 6 h + 1 < 2 ^ 31 by omega)]
  omega
theorem xw_flM {kf : Nat → Int32} {kg : Nat → Int64} {af bf : Nat → Int32} {K : List xk_E} (hT : xw_KT kf kg af bf K) {k : Int32} (hk : xk_has K k = true) : decide (xd_cn K 6 (xk_h k) = 1) = (decide (af (2 ^ 6 + xk_h k % 2 ^ 6) = 0) || decide (af (2 ^ 6 + xk_h k % 2 ^ 6) + (-1) = 0)) := by
  have hc := xd_cn_le K 6 (xk_h k)
  have hl := hT.1
  have hp := xw_has_cn hk
  rw [xw_before hT (xk_h_lt k), xw_dec _ hp, Bool.eq_iff_iff]
  simp only [Bool.or_eq_true, decide_eq_true_eq, xn_eq0 (show xd_cn K 6 (xk_h k) < 2 ^ 31 by omega), xn_eq0 (show xd_cn K 6 (xk_h k) - 1 < 2 ^ 31 by omega)]
  omega
def xw_fo (b : Bool) : Int32 := if b = true then nI 2 else nI 1
/-- the places from a to b filled with one number -/
def xw_fi (f : Nat → Int32) (a i : Nat) (x : Int32) : Nat → Int32 := fun j => if a ≤ j ∧ j < i then x else f j
theorem xw_fi_0 (f : Nat → Int32) (a : Nat) (x : Int32) : f = xw_fi f a a x := by
  funext j; unfold xw_fi; rw [if_neg (by omega)]
theorem xw_fi_up (f : Nat → Int32) {a i : Nat} (h : a ≤ i) (x : Int32) : upd (xw_fi f a i x) i x = xw_fi f a (i + 1) x := by
  funext j
  by_cases z : j = i
  · subst z; rw [pk_us]; unfold xw_fi; rw [if_pos (by omega)]
  · rw [pk_un z]; unfold xw_fi
    by_cases y : a ≤ j ∧ j < i
    · rw [if_pos y, if_pos (by omega)]
    · rw [if_neg y, if_neg (by omega)]
theorem xw_KT_insb {kf kf' : Nat → Int32} {kg kg' : Nat → Int64} {af bf : Nat → Int32} {K : List xk_E} (hT : xw_KT kf kg af bf K) {k : Int32} {v : Int64} (hk : xk_has K k = false) (hl : K.length < 65) (hf : ∀ j, j < K.length + 1 → kf' j = xk_ins kf (xk_lo K k) k j) (hg : ∀ j, j < K.length + 1 → kg' j = xk_ins kg (xk_lo K k) v j) {fl : Bool} (hfl : fl = decide (xd_cn K 6 (xk_h k) = 0)) :
    xw_KT kf' kg' (xw_cu af (xk_h k) (nI 1) 7) (xw_cb bf (xk_h k) (nI 1) fl 7) (xk_set K k v) := by
  rw [xw_cb_if]
  exact xw_KT_ins hT hk hl hf hg hfl
theorem xw_KT_delb {kf kf' : Nat → Int32} {kg kg' : Nat → Int64} {af bf : Nat → Int32} {K : List xk_E} (hT : xw_KT kf kg af bf K) {k : Int32} (hk : xk_has K k = true) (hf : ∀ j, j + 1 < K.length → kf' j = xk_del kf (xk_lo K k) j) (hg : ∀ j, j + 1 < K.length → kg' j = xk_del kg (xk_lo K k) j) {fl : Bool} (hfl : fl = decide (xd_cn K 6 (xk_h k) = 1)) :
    xw_KT kf' kg' (xw_cu af (xk_h k) (-1) 7) (xw_cb bf (xk_h k) (-1) fl 7) (xk_rem K k) := by
  rw [xw_cb_if]
  exact xw_KT_del hT hk hf hg hfl
end
section
/-! More small rows. -/
theorem xa_E {A : Nat → Prop} {ws ws' : va_W} (hD : va_D A ws) (h : ws'.map Prod.fst = ws.map Prod.fst) : va_D A ws' := xa_D h hD
/-- a number of survivors, brought between 0 and n -/
def xw_cl (x : Int32) (n : Nat) : Nat := if x < 0 then 0 else min n x.toNatClampNeg
theorem xw_cl_le (x : Int32) (n : Nat) : xw_cl x n ≤ n := by
  unfold xw_cl; split <;> omega
theorem xw_cl_eq {x : Int32} {n : Nat} (hn : n < 2 ^ 31) : (if nI 0 < (if x < nI n then x else nI n) then (if x < nI n then x else nI n) else nI 0) = nI (xw_cl x n) := by
  unfold xw_cl
  by_cases h0 : x < 0
  · rw [if_pos h0]
    have h1 : x < nI n := by
      have := nI_toInt hn
      rw [Int32.lt_iff_toInt_lt] at *
      have e0 : (0 : Int32).toInt = 0 := by decide
      omega
    rw [if_pos h1, if_neg]
    rw [nI_0]
    exact xk_nlt h0
  · rw [if_neg h0]
    obtain ⟨j, hj, rfl⟩ := nI_of h0
    rw [nI_clamp hj]
    simp only [nI_ltI hj hn]
    by_cases h1 : j < n
    · simp only [h1, if_true, nI_ltI (show 0 < 2 ^ 31 by decide) hj]
      rw [Nat.min_eq_right (by omega)]
      split
      · rfl
      · rw [show j = 0 from by omega]
    · simp only [h1, if_false, nI_ltI (show 0 < 2 ^ 31 by decide) hn]
      rw [Nat.min_eq_left (by omega)]
      split
      · rfl
      · rw [show n = 0 from by omega]
theorem xw_ov1 {lim : Nat} {K : List xk_E} (h : 60 < K.length ∨ ¬ xd_pg K ≤ lim) : nI 1 = xb_i (xs_bad lim K) := by
  have : xs_bad lim K = true := by
    simp only [xs_bad, Bool.or_eq_true, decide_eq_true_eq]
    omega
  rw [this]; exact xb_t.symm
theorem xw_ov0 {lim : Nat} {K : List xk_E} (h1 : ¬ 60 < K.length) (h2 : xd_pg K ≤ lim) : nI 0 = xb_i (xs_bad lim K) := by
  have : xs_bad lim K = false := by
    simp only [xs_bad, Bool.or_eq_false_iff, decide_eq_false_iff_not]
    omega
  rw [this]; exact xb_f.symm
theorem xw_tm1 {t f : Nat} (ht : t ≤ 70) (hf : f ≤ 70) : nI t - nI 1 < nI f ↔ t < f + 1 := by
  by_cases z : t = 0
  · subst z
    have : nI 0 - nI 1 < nI f := by
      have h1 : (nI 0 - nI 1).toInt = -1 := by decide
      rw [Int32.lt_iff_toInt_lt, h1, nI_toInt (by omega)]
      omega
    simp only [this, true_iff]; omega
  · rw [pk_sub (by omega), nI_ltI (by omega) (by omega)]
    omega
theorem xw_dec2 {t : Nat} (ht : 0 < t) : nI t - nI 1 + Int32.ofInt (-1) = nI (t - 1) - nI 1 := by
  rw [pk_sub (by omega), show Int32.ofInt (-1) = -1 from by decide]
  generalize t - 1 = u
  rw [show nI 1 = 1 from by decide]
  apply Int32.toBitVec_inj.mp
  simp only [Int32.toBitVec_add, Int32.toBitVec_sub, Int32.toBitVec_neg]
  rw [BitVec.sub_eq_add_neg]
theorem xw_room {K : List xk_E} {k : Int32} {v : Int64} (h : (xk_set K k v).length ≤ 65) : xk_has K k = true ∨ K.length < 65 := by
  rw [xk_set_len] at h
  cases q : xk_has K k with
  | true => exact Or.inl rfl
  | false =>
    rw [q] at h
    have h : K.length + 1 ≤ 65 := h
    exact Or.inr (by omega)
/-- what taking record i back does -/
def xw_U (rk : Nat → Int32) (rv : Nat → Int64) (rm : Nat → Int32) (S : Nat → List xk_E) (i : Nat) : Prop :=
  (rm i = nI 2 ∧ xk_set (S (i + 1)) (rk i) (rv i) = S i ∧ (S i).length ≤ 65) ∨ (rm i = nI 1 ∧ xk_rem (S (i + 1)) (rk i) = S i) ∨ (rm i = nI 0 ∧ S (i + 1) = S i)
theorem xw_u2 {rk : Nat → Int32} {rv : Nat → Int64} {rm : Nat → Int32} {S : Nat → List xk_E} {t : Nat} (ht : 0 < t) (h : xw_U rk rv rm S (t - 1)) (hc : rm (t - 1) = nI 2) : xk_set (S t) (rk (t - 1)) (rv (t - 1)) = S (t - 1) ∧ (S (t - 1)).length ≤ 65 := by
  unfold xw_U at h
  rw [show t - 1 + 1 = t from by omega] at h
  rcases h with h | h | h
  · exact h.2
  · rw [hc] at h; exact absurd h.1 (by decide)
  · rw [hc] at h; exact absurd h.1 (by decide)
theorem xw_u1 {rk : Nat → Int32} {rv : Nat → Int64} {rm : Nat → Int32} {S : Nat → List xk_E} {t : Nat} (ht : 0 < t) (h : xw_U rk rv rm S (t - 1)) (hc : rm (t - 1) = nI 1) : xk_rem (S t) (rk (t - 1)) = S (t - 1) := by
  unfold xw_U at h
  rw [show t - 1 + 1 = t from by omega] at h
  rcases h with h | h | h
  · rw [hc] at h; exact absurd h.1 (by decide)
  · exact h.2
  · rw [hc] at h; exact absurd h.1 (by decide)
theorem xw_u0 {rk : Nat → Int32} {rv : Nat → Int64} {rm : Nat → Int32} {S : Nat → List xk_E} {t : Nat} (ht : 0 < t) (h : xw_U rk rv rm S (t - 1)) (h2 : ¬ rm (t - 1) = nI 2) (h1 : ¬ rm (t - 1) = nI 1) : S t = S (t - 1) := by
  unfold xw_U at h
  rw [show t - 1 + 1 = t from by omega] at h
  rcases h with h | h | h
  · exact absurd h.1 h2
  · exact absurd h.1 h1
  · exact h.2
end
section
/-! Walks: specs_a (printed by run.py) -/
set_option maxHeartbeats 4000000 in
set_option maxRecDepth 100000 in
theorem c_E_hash (l : Launch)  (k : Int32)  : Met l y_E_hash zw_E_hash ({ frames := 0, cells := 0, slots := 0, locals := 0 } : Room) (va_Pc [.int k] (fun _ => True)) (vp_Si (fun r : Int32 => r = nI (xk_h k))) 0 0 (fun _ => False) := by
  refine Met.ofW (cc := b_E_hash) (maxL := 1) (ret := (some .int)) (by decide) rfl ?_
  intro pJ eJ s mJ args below meth cJ s₁ B hml hv
  obtain ⟨rfl, -⟩ := hv
  have hx := B.exec
  have hb := B.bytes
  have hr := B.returns
  have hts := atoms_spec (ws := zw_E_hash) B.pre
  have hown : s.vm.findClass R_E = some mJ.cls := findClass_of_methodNamed B.named
  have hlocks := B.notSynchronized
  have hl := lv_entry ([.int k]) (n := 1) (Nat.le_of_ble_eq_true rfl)
  rw [lg_entry_eq]
  generalize (lg_sl ([.int k]) ++ List.replicate (1 - (lg_sl ([.int k])).length) Slot.unset).toArray = ls at hl ⊢
  have hl : lv_has ls 1 [(0, .int k)] := hl
  refine lv_iload_n hx hb d_E_hash_0 rfl (lv_at hl 0 rfl) ?_
  refine lv_iload_n hx hb d_E_hash_1 rfl (lv_at hl 0 rfl) ?_
  refine lv_bipush (v := nI 6) hx hb d_E_hash_2 (by decide +kernel) ?_
  refine lv_iushr (v := xk_u k (nI 6)) hx hb d_E_hash_4 rfl ?_
  refine lv_ixor hx hb d_E_hash_5 ?_
  refine lv_iload_n hx hb d_E_hash_6 rfl (lv_at hl 0 rfl) ?_
  refine lv_bipush (v := nI 12) hx hb d_E_hash_7 (by decide +kernel) ?_
  refine lv_iushr (v := xk_u k (nI 12)) hx hb d_E_hash_9 rfl ?_
  refine lv_ixor hx hb d_E_hash_10 ?_
  refine lv_iload_n hx hb d_E_hash_11 rfl (lv_at hl 0 rfl) ?_
  refine lv_bipush (v := nI 18) hx hb d_E_hash_12 (by decide +kernel) ?_
  refine lv_iushr (v := xk_u k (nI 18)) hx hb d_E_hash_14 rfl ?_
  refine lv_ixor hx hb d_E_hash_15 ?_
  refine lv_iload_n hx hb d_E_hash_16 rfl (lv_at hl 0 rfl) ?_
  refine lv_bipush (v := nI 24) hx hb d_E_hash_17 (by decide +kernel) ?_
  refine lv_iushr (v := xk_u k (nI 24)) hx hb d_E_hash_19 rfl ?_
  refine lv_ixor hx hb d_E_hash_20 ?_
  refine lv_iload_n hx hb d_E_hash_21 rfl (lv_at hl 0 rfl) ?_
  refine lv_bipush (v := nI 30) hx hb d_E_hash_22 (by decide +kernel) ?_
  refine lv_iushr (v := xk_u k (nI 30)) hx hb d_E_hash_24 rfl ?_
  refine lv_ixor hx hb d_E_hash_25 ?_
  refine lv_bipush (v := nI 63) hx hb d_E_hash_26 (by decide +kernel) ?_
  refine lv_iand hx hb d_E_hash_28 ?_
  refine xa_top (y := nI (xk_h k)) (xk_h_eq k) ?_
  exact W.iret (v := nI (xk_h k)) hx hb hr (fun t ht hW => ⟨_, rfl, rfl, ht⟩) (fun _ h => by cases h) d_E_hash_29
set_option maxHeartbeats 4000000 in
set_option maxRecDepth 100000 in
theorem c_E_dirp (l : Launch)  (n : Nat) (hn : n < 1000) : Met l y_E_directoryPages zw_E_directoryPages ({ frames := 0, cells := 0, slots := 0, locals := 0 } : Room) (va_Pc [.int (nI n)] (fun _ => True)) (vp_Si (fun r : Int32 => r = nI ((n + 15) / 16))) 0 0 (fun _ => False) := by
  refine Met.ofW (cc := b_E_directoryPages) (maxL := 1) (ret := (some .int)) (by decide) rfl ?_
  intro pJ eJ s mJ args below meth cJ s₁ B hml hv
  obtain ⟨rfl, -⟩ := hv
  have hx := B.exec
  have hb := B.bytes
  have hr := B.returns
  have hts := atoms_spec (ws := zw_E_directoryPages) B.pre
  have hown : s.vm.findClass R_E = some mJ.cls := findClass_of_methodNamed B.named
  have hlocks := B.notSynchronized
  have hl := lv_entry ([.int (nI n)]) (n := 1) (Nat.le_of_ble_eq_true rfl)
  rw [lg_entry_eq]
  generalize (lg_sl ([.int (nI n)]) ++ List.replicate (1 - (lg_sl ([.int (nI n)])).length) Slot.unset).toArray = ls at hl ⊢
  have hl : lv_has ls 1 [(0, .int (nI n))] := hl
  refine lv_iload_n hx hb d_E_directoryPages_0 rfl (lv_at hl 0 rfl) ?_
  refine lv_bipush (v := nI 16) hx hb d_E_directoryPages_1 (by decide +kernel) ?_
  refine lv_iadd hx hb d_E_directoryPages_3 ?_
  refine xa_top (y := nI (n + 16)) (nI_add _ _) ?_
  refine lv_iconst (v := nI 1) hx hb d_E_directoryPages_4 (by decide +kernel) ?_
  refine lv_isub hx hb d_E_directoryPages_5 ?_
  refine xa_top (y := nI ((n + 16) - 1)) (pk_sub (by omega)) ?_
  refine lv_bipush (v := nI 16) hx hb d_E_directoryPages_6 (by decide +kernel) ?_
  refine lv_idiv hx hb d_E_directoryPages_8 (by decide +kernel) ?_
  refine xa_top (y := nI (((n + 16) - 1) / 16)) (pk_div (by omega) (by omega) (by omega)) ?_
  exact W.iret (v := nI (((n + 16) - 1) / 16)) hx hb hr (fun t ht hW => ⟨_, rfl, congrArg nI (by omega), ht⟩) (fun _ h => by cases h) d_E_directoryPages_9
set_option maxHeartbeats 4000000 in
set_option maxRecDepth 100000 in
theorem c_E_bktp (l : Launch)  (n : Nat) (hn : n < 1000) : Met l y_E_bucketPages zw_E_bucketPages ({ frames := 1, cells := 0, slots := 0, locals := 21 } : Room) (va_Pc [.int (nI n)] (fun _ => True)) (vp_Si (fun r : Int32 => r = nI (xd_bp n))) 0 0 (fun _ => False) := by
  refine Met.ofW (cc := b_E_bucketPages) (maxL := 1) (ret := (some .int)) (by decide) rfl ?_
  intro pJ eJ s mJ args below meth cJ s₁ B hml hv
  obtain ⟨rfl, -⟩ := hv
  have hx := B.exec
  have hb := B.bytes
  have hr := B.returns
  have hts := atoms_spec (ws := zw_E_bucketPages) B.pre
  have hown : s.vm.findClass R_E = some mJ.cls := findClass_of_methodNamed B.named
  have hlocks := B.notSynchronized
  have hl := lv_entry ([.int (nI n)]) (n := 1) (Nat.le_of_ble_eq_true rfl)
  rw [lg_entry_eq]
  generalize (lg_sl ([.int (nI n)]) ++ List.replicate (1 - (lg_sl ([.int (nI n)])).length) Slot.unset).toArray = ls at hl ⊢
  have hl : lv_has ls 1 [(0, .int (nI n))] := hl
  refine lv_iconst (v := nI 1) hx hb d_E_bucketPages_0 (by decide +kernel) ?_
  refine lv_iload_n hx hb d_E_bucketPages_1 rfl (lv_at hl 0 rfl) ?_
  refine lv_iconst (v := nI 4) hx hb d_E_bucketPages_2 (by decide +kernel) ?_
  refine lv_iadd hx hb d_E_bucketPages_3 ?_
  refine xa_top (y := nI (n + 4)) (nI_add _ _) ?_
  refine lv_iconst (v := nI 1) hx hb d_E_bucketPages_4 (by decide +kernel) ?_
  refine lv_isub hx hb d_E_bucketPages_5 ?_
  refine xa_top (y := nI ((n + 4) - 1)) (pk_sub (by omega)) ?_
  refine lv_iconst (v := nI 4) hx hb d_E_bucketPages_6 (by decide +kernel) ?_
  refine lv_idiv hx hb d_E_bucketPages_7 (by decide +kernel) ?_
  refine xa_top (y := nI (((n + 4) - 1) / 4)) (pk_div (by omega) (by omega) (by omega)) ?_
  refine va_mmax hx hb (hml.trans hl.1.symm) hown (hts _ (List.mem_cons_of_mem _ zm_20)) (hts _ (List.mem_cons_of_mem _ zm_21)) (hts _ (List.mem_cons_of_mem _ zm_2)) (hts _ (List.mem_cons_of_mem _ zm_22)) (Nat.le_of_ble_eq_true rfl) (Nat.le_of_ble_eq_true rfl) (Nat.zero_le _) (Nat.zero_le _) d_E_bucketPages_8 ?_
  refine xa_top (y := nI (max 1 (((n + 4) - 1) / 4))) (xn_max (by omega) (by omega)) ?_
  exact W.iret (v := nI (max 1 (((n + 4) - 1) / 4))) hx hb hr (fun t ht hW => ⟨_, rfl, congrArg nI (by unfold xd_bp; omega), ht⟩) (fun _ h => by cases h) d_E_bucketPages_11
set_option maxHeartbeats 4000000 in
set_option maxRecDepth 100000 in
theorem c_E_byte (l : Launch)  (v : Int64)  : Met l y_E_bytesOf zw_E_bytesOf ({ frames := 0, cells := 0, slots := 0, locals := 0 } : Room) (va_Pc [.long v] (fun _ => True)) (vp_Si (fun r : Int32 => r = nI (xv_by v))) 0 0 (fun _ => False) := by
  refine Met.ofW (cc := b_E_bytesOf) (maxL := 3) (ret := (some .int)) (by decide) rfl ?_
  intro pJ eJ s mJ args below meth cJ s₁ B hml hv
  obtain ⟨rfl, -⟩ := hv
  have hx := B.exec
  have hb := B.bytes
  have hr := B.returns
  have hts := atoms_spec (ws := zw_E_bytesOf) B.pre
  have hown : s.vm.findClass R_E = some mJ.cls := findClass_of_methodNamed B.named
  have hlocks := B.notSynchronized
  have hl := lv_entry ([.long v]) (n := 3) (Nat.le_of_ble_eq_true rfl)
  rw [lg_entry_eq]
  generalize (lg_sl ([.long v]) ++ List.replicate (3 - (lg_sl ([.long v])).length) Slot.unset).toArray = ls at hl ⊢
  have hl : lv_has ls 3 [(0, .long v)] := hl
  refine lv_iconst (v := nI 1) hx hb d_E_bytesOf_0 (by decide +kernel) ?_
  refine lv_istore_n (lv' := [(2, .int (nI 1)), (0, .long v)]) hx hb d_E_bytesOf_1 rfl hl (Nat.le_of_ble_eq_true rfl) rfl (fun ls hl => ?_)
  have lp2 : ∀ (N : Nat) (b : Nat) (ls : Array Slot), (1 ≤ b) → (b ≤ 8) → (xv_by v = xv_R v b (8 - b)) → lv_has ls 3 [(0, .long v), (2, .int (nI b))] → 8 - b < N → W pJ l eJ (headSpec zw_E_bytesOf ({ frames := 0, cells := 0, slots := 0, locals := 0 } : Room)).room s mJ ([.long v] : List Value).toArray below meth cJ s.heap [] 0 0 (MQ below (vp_Si (fun r : Int32 => r = nI (xv_by v))) ([.long v] : List Value).toArray s 0 0 (fun _ => False)) (F0 mJ 2 ls []) := by
    intro N
    induction N with
    | zero => intro b ls hb1 hb8 hbv hl hm; exact absurd hm (Nat.not_lt_zero _)
    | succ N ih2 =>
      intro b ls hb1 hb8 hbv hl hm
      refine lv_iload_n hx hb d_E_bytesOf_2 rfl (lv_at hl 1 rfl) ?_
      refine lv_bipush (v := nI 8) hx hb d_E_bytesOf_3 (by decide +kernel) ?_
      refine lv_icmp_ge (tgt := 27) hx hb d_E_bytesOf_5 (by decide) (fun hc5 => ?_) (fun hc5 => ?_)
      · skip
        rw [nI_leI (by omega) (by omega)] at hc5
        refine lv_bipush (v := nI 8) hx hb d_E_bytesOf_27 (by decide +kernel) ?_
        exact W.iret (v := nI 8) hx hb hr (fun t ht hW => ⟨_, rfl, by rw [hbv, show b = 8 from by omega]; rfl, ht⟩) (fun _ h => by cases h) d_E_bytesOf_29
      · skip
        rw [nI_leI (by omega) (by omega)] at hc5
        refine lv_lload_n hx hb d_E_bytesOf_8 rfl (lv_at hl 0 rfl) ?_
        refine lv_bipush (v := nI 8) hx hb d_E_bytesOf_9 (by decide +kernel) ?_
        refine lv_iload_n hx hb d_E_bytesOf_11 rfl (lv_at hl 1 rfl) ?_
        refine lv_imul hx hb d_E_bytesOf_12 ?_
        refine xa_top (y := nI (8 * b)) (pk_mul _ _) ?_
        refine lv_lushr (v := xk_lu v (nI (8 * b))) hx hb d_E_bytesOf_13 rfl ?_
        refine lv_lconst (v := 0) hx hb d_E_bytesOf_14 (by decide +kernel) ?_
        refine W.lcmp hx hb d_E_bytesOf_15 ?_
        refine lv_if_ne (tgt := 21) hx hb d_E_bytesOf_16 (by decide) (fun hc16 => ?_) (fun hc16 => ?_)
        · skip
          rw [xl_ne] at hc16
          refine lv_iinc (k := 1) (v := nI (b + 1)) (lv' := [(2, .int (nI (b + 1))), (0, .long v)]) hx hb d_E_bytesOf_21 hl rfl (xn_inc _) (Nat.le_of_ble_eq_true rfl) rfl (fun ls hl => ?_)
          refine lv_goto (tgt := 2) hx hb d_E_bytesOf_24 (by decide) ?_
          exact ih2 (b + 1) ls (by omega) (by omega) (by rw [hbv, show 8 - b = (8 - (b + 1)) + 1 from by omega, xv_R, if_neg hc16]) (lv_sub hl [1, 0] rfl) (by omega)
        · skip
          rw [xl_ne] at hc16
          refine lv_iload_n hx hb d_E_bytesOf_19 rfl (lv_at hl 1 rfl) ?_
          exact W.iret (v := nI b) hx hb hr (fun t ht hW => ⟨_, rfl, by rw [hbv, show 8 - b = (7 - b) + 1 from by omega, xv_R, if_pos hc16], ht⟩) (fun _ h => by cases h) d_E_bytesOf_20
  exact lp2 _ 1 ls (by omega) (by omega) rfl (lv_sub hl [1, 0] rfl) (Nat.lt_succ_self _)
set_option maxHeartbeats 4000000 in
set_option maxRecDepth 100000 in
theorem c_E_valp (l : Launch)  (v : Int64)  : Met l y_E_valuePages zw_E_valuePages ({ frames := 1, cells := 0, slots := 0, locals := 22 } : Room) (va_Pc [.long v] (fun _ => True)) (vp_Si (fun r : Int32 => r = nI (xv_vp v))) 0 0 (fun _ => False) := by
  refine Met.ofW (cc := b_E_valuePages) (maxL := 3) (ret := (some .int)) (by decide) rfl ?_
  intro pJ eJ s mJ args below meth cJ s₁ B hml hv
  obtain ⟨rfl, -⟩ := hv
  have hx := B.exec
  have hb := B.bytes
  have hr := B.returns
  have hts := atoms_spec (ws := zw_E_valuePages) B.pre
  have hown : s.vm.findClass R_E = some mJ.cls := findClass_of_methodNamed B.named
  have hlocks := B.notSynchronized
  have hl := lv_entry ([.long v]) (n := 3) (Nat.le_of_ble_eq_true rfl)
  rw [lg_entry_eq]
  generalize (lg_sl ([.long v]) ++ List.replicate (3 - (lg_sl ([.long v])).length) Slot.unset).toArray = ls at hl ⊢
  have hl : lv_has ls 3 [(0, .long v)] := hl
  have hby := xv_by_le v
  refine lv_lload_n hx hb d_E_valuePages_0 rfl (lv_at hl 0 rfl) ?_
  refine xa_cI (va_runS (As := [.long v]) (rest := []) ⟨hx, hb, hml, hown, hts⟩ (c_E_byte l v) (cwS 1 hts (zg_S zm_225 zm_226 zm_1 zm_227) rfl rfl rfl (by decide +kernel) ⟨Nat.le_of_ble_eq_true rfl, Nat.le_of_ble_eq_true rfl⟩) xp_preS rfl rfl hl.1 rfl (lv_room (Nat.le_of_ble_eq_true rfl)) d_E_valuePages_1 ⟨Nat.zero_le _, Nat.zero_le _⟩) ?_
  refine lv_istore_n (lv' := [(2, .int (nI (xv_by v))), (0, .long v)]) hx hb d_E_valuePages_4 rfl hl (Nat.le_of_ble_eq_true rfl) rfl (fun ls hl => ?_)
  refine lv_iload_n hx hb d_E_valuePages_5 rfl (lv_at hl 0 rfl) ?_
  refine lv_iconst (v := nI 2) hx hb d_E_valuePages_6 (by decide +kernel) ?_
  refine lv_icmp_le (tgt := 20) hx hb d_E_valuePages_7 (by decide) (fun hc7 => ?_) (fun hc7 => ?_)
  · skip
    rw [nI_leI (by omega) (by omega)] at hc7
    refine lv_iconst (v := nI 0) hx hb d_E_valuePages_20 (by decide +kernel) ?_
    exact W.iret (v := nI 0) hx hb hr (fun t ht hW => ⟨_, rfl, congrArg nI (by unfold xv_vp; split <;> omega), ht⟩) (fun _ h => by cases h) d_E_valuePages_21
  · skip
    rw [nI_leI (by omega) (by omega)] at hc7
    refine lv_iload_n hx hb d_E_valuePages_10 rfl (lv_at hl 0 rfl) ?_
    refine lv_iconst (v := nI 2) hx hb d_E_valuePages_11 (by decide +kernel) ?_
    refine lv_iadd hx hb d_E_valuePages_12 ?_
    refine xa_top (y := nI (xv_by v + 2)) (nI_add _ _) ?_
    refine lv_iconst (v := nI 1) hx hb d_E_valuePages_13 (by decide +kernel) ?_
    refine lv_isub hx hb d_E_valuePages_14 ?_
    refine xa_top (y := nI ((xv_by v + 2) - 1)) (pk_sub (by omega)) ?_
    refine lv_iconst (v := nI 2) hx hb d_E_valuePages_15 (by decide +kernel) ?_
    refine lv_idiv hx hb d_E_valuePages_16 (by decide +kernel) ?_
    refine xa_top (y := nI (((xv_by v + 2) - 1) / 2)) (pk_div (by omega) (by omega) (by omega)) ?_
    refine lv_goto (tgt := 21) hx hb d_E_valuePages_17 (by decide) ?_
    exact W.iret (v := nI (((xv_by v + 2) - 1) / 2)) hx hb hr (fun t ht hW => ⟨_, rfl, congrArg nI (by unfold xv_vp; split <;> omega), ht⟩) (fun _ h => by cases h) d_E_valuePages_21
set_option maxHeartbeats 4000000 in
set_option maxRecDepth 100000 in
theorem c_C_cell (l : Launch)  (d : Nat) (h : Nat) (hd : d ≤ 6) (hh : h < 64) : Met l y_C_cell zw_C_cell ({ frames := 0, cells := 0, slots := 0, locals := 0 } : Room) (va_Pc [.int (nI d), .int (nI h)] (fun _ => True)) (vp_Si (fun r : Int32 => r = nI (2 ^ d + h % 2 ^ d))) 0 0 (fun _ => False) := by
  refine Met.ofW (cc := b_C_cell) (maxL := 3) (ret := (some .int)) (by decide) rfl ?_
  intro pJ eJ s mJ args below meth cJ s₁ B hml hv
  obtain ⟨rfl, -⟩ := hv
  have hx := B.exec
  have hb := B.bytes
  have hr := B.returns
  have hts := atoms_spec (ws := zw_C_cell) B.pre
  have hown : s.vm.findClass R_C = some mJ.cls := findClass_of_methodNamed B.named
  have hlocks := B.notSynchronized
  have hl := lv_entry ([.int (nI d), .int (nI h)]) (n := 3) (Nat.le_of_ble_eq_true rfl)
  rw [lg_entry_eq]
  generalize (lg_sl ([.int (nI d), .int (nI h)]) ++ List.replicate (3 - (lg_sl ([.int (nI d), .int (nI h)])).length) Slot.unset).toArray = ls at hl ⊢
  have hl : lv_has ls 3 [(0, .int (nI d)), (1, .int (nI h))] := hl
  have hpos := Nat.two_pow_pos d
  refine lv_iconst (v := nI 1) hx hb d_C_cell_0 (by decide +kernel) ?_
  refine lv_iload_n hx hb d_C_cell_1 rfl (lv_at hl 0 rfl) ?_
  refine lv_ishl hx hb d_C_cell_2 ?_
  refine xa_top (y := nI (2 ^ d)) (xw_shl hd) ?_
  refine lv_istore_n (lv' := [(2, .int (nI (2 ^ d))), (0, .int (nI d)), (1, .int (nI h))]) hx hb d_C_cell_3 rfl hl (Nat.le_of_ble_eq_true rfl) rfl (fun ls hl => ?_)
  refine lv_iload_n hx hb d_C_cell_4 rfl (lv_at hl 0 rfl) ?_
  refine lv_iload_n hx hb d_C_cell_5 rfl (lv_at hl 2 rfl) ?_
  refine lv_iload_n hx hb d_C_cell_6 rfl (lv_at hl 0 rfl) ?_
  refine lv_iconst (v := nI 1) hx hb d_C_cell_7 (by decide +kernel) ?_
  refine lv_isub hx hb d_C_cell_8 ?_
  refine xa_top (y := nI ((2 ^ d) - 1)) (pk_sub (by omega)) ?_
  refine lv_iand hx hb d_C_cell_9 ?_
  refine xa_top (y := nI (h % 2 ^ d)) (xw_and (by omega) hd) ?_
  refine lv_iadd hx hb d_C_cell_10 ?_
  refine xa_top (y := nI (2 ^ d + h % 2 ^ d)) (nI_add _ _) ?_
  exact W.iret (v := nI (2 ^ d + h % 2 ^ d)) hx hb hr (fun t ht hW => ⟨_, rfl, rfl, ht⟩) (fun _ h => by cases h) d_C_cell_11
set_option maxHeartbeats 4000000 in
set_option maxRecDepth 100000 in
theorem c_C_good (l : Launch) (D : va_G) (q : Nat → Nat) (cA : Nat → ClassId) (lim : Int32) (kf : Nat → Int32) (kg : Nat → Int64) (af : Nat → Int32) (bf : Nat → Int32) (rk : Nat → Int32) (rv : Nat → Int64) (rm : Nat → Int32) (rs : Nat → Int32) (rn : Int32) (bp : Nat → Int32) (bk : Nat → Int32) (bv : Nat → Int64) (bo : Int32) (bn : Int32) (K : List xk_E) (d : Nat) (p : Nat) (hT : xw_KT kf kg af bf K) (hd : d ≤ 6) (hp : p < 2 ^ d) : Met l y_C_isGood zw_C_isGood ({ frames := 0, cells := 0, slots := 0, locals := 0 } : Room) (va_Pc [.ref (q 2), .int (nI (2 ^ d + p))] (xp_R D zz_cl (xw_tC cA) (xw_C q cA lim kf kg (nI K.length) af bf rk rv rm rs rn bp bk bv bo bn))) (vp_Si (fun r : Int32 => r = xb_i (xd_gd K d p))) 0 0 (fun _ => False) := by
  refine Met.ofW (cc := b_C_isGood) (maxL := 2) (ret := (some .boolean)) (by decide) rfl ?_
  intro pJ eJ s mJ args below meth cJ s₁ B hml hv
  obtain ⟨rfl, hP, hK, hZ⟩ := hv
  have hx := B.exec
  have hb := B.bytes
  have hr := B.returns
  have hts := atoms_spec (ws := zw_C_isGood) B.pre
  have hown : s.vm.findClass R_C = some mJ.cls := findClass_of_methodNamed B.named
  have hlocks := B.notSynchronized
  have hl := lv_entry ([.ref (q 2), .int (nI (2 ^ d + p))]) (n := 2) (Nat.le_of_ble_eq_true rfl)
  rw [lg_entry_eq]
  generalize (lg_sl ([.ref (q 2), .int (nI (2 ^ d + p))]) ++ List.replicate (2 - (lg_sl ([.ref (q 2), .int (nI (2 ^ d + p))])).length) Slot.unset).toArray = ls at hl ⊢
  have hl : lv_has ls 2 [(0, .ref (q 2)), (1, .int (nI (2 ^ d + p)))] := hl
  have hi := xw_cell hd hp
  have hcn := xd_cn_le K d p
  have hhc := xd_hc_le K d p
  have hlen := hT.1
  refine lv_aload_n hx hb d_C_isGood_0 rfl (lv_at hl 0 rfl) ?_
  refine va_get (D := D) (ci := 2) (v := .ref (q 7)) (C := R_C) (T := F_C) (N := 2) hx hb hts (zi_C _) hown hK hP 2 rfl rfl 0 (by decide) (hts _ (List.mem_cons_of_mem _ zm_35)) (fun _ h9 => h9) rfl d_C_isGood_1 ?_
  refine lv_iload_n hx hb d_C_isGood_4 rfl (lv_at hl 1 rfl) ?_
  refine xa_iald hx hb hK hP 7 2 rfl rfl (k := 2 ^ d + p) (by omega) (by decide) d_C_isGood_5 ?_
  refine xa_top (y := nI (xd_cn K d p)) ((hT.2.2.2 d p hd hp).1) ?_
  refine lv_iconst (v := nI 4) hx hb d_C_isGood_6 (by decide +kernel) ?_
  refine lv_icmp_le (tgt := 20) hx hb d_C_isGood_7 (by decide) (fun hc7 => ?_) (fun hc7 => ?_)
  · skip
    rw [nI_leI (by omega) (by omega)] at hc7
    refine lv_iconst (v := nI 1) hx hb d_C_isGood_20 (by decide +kernel) ?_
    refine lv_goto (tgt := 25) hx hb d_C_isGood_21 (by decide) ?_
    exact W.zret (ty := .boolean) (v := nI 1) hx hb hr (by decide +kernel) (fun t ht hW => ⟨_, rfl, by first | exact xw_g1 (Or.inl hc7) | exact xw_g1 (Or.inr hc17) | exact xw_g0 hc7 hc17, ht⟩) (fun _ h => by cases h) d_C_isGood_25
  · skip
    rw [nI_leI (by omega) (by omega)] at hc7
    refine lv_aload_n hx hb d_C_isGood_10 rfl (lv_at hl 0 rfl) ?_
    refine va_get (D := D) (ci := 2) (v := .ref (q 8)) (C := R_C) (T := F_C) (N := 2) hx hb hts (zi_C _) hown hK hP 2 rfl rfl 1 (by decide) (hts _ (List.mem_cons_of_mem _ zm_36)) (fun _ h9 => h9) rfl d_C_isGood_11 ?_
    refine lv_iload_n hx hb d_C_isGood_14 rfl (lv_at hl 1 rfl) ?_
    refine xa_iald hx hb hK hP 8 3 rfl rfl (k := 2 ^ d + p) (by omega) (by decide) d_C_isGood_15 ?_
    refine xa_top (y := nI (xd_hc K d p)) ((hT.2.2.2 d p hd hp).2) ?_
    refine lv_iconst (v := nI 1) hx hb d_C_isGood_16 (by decide +kernel) ?_
    refine lv_icmp_ne (tgt := 24) hx hb d_C_isGood_17 (by decide) (fun hc17 => ?_) (fun hc17 => ?_)
    · skip
      rw [nI_eq (by omega) (by omega)] at hc17
      refine lv_iconst (v := nI 0) hx hb d_C_isGood_24 (by decide +kernel) ?_
      exact W.zret (ty := .boolean) (v := nI 0) hx hb hr (by decide +kernel) (fun t ht hW => ⟨_, rfl, by first | exact xw_g1 (Or.inl hc7) | exact xw_g1 (Or.inr hc17) | exact xw_g0 hc7 hc17, ht⟩) (fun _ h => by cases h) d_C_isGood_25
    · skip
      rw [nI_eq (by omega) (by omega)] at hc17
      refine lv_iconst (v := nI 1) hx hb d_C_isGood_20 (by decide +kernel) ?_
      refine lv_goto (tgt := 25) hx hb d_C_isGood_21 (by decide) ?_
      exact W.zret (ty := .boolean) (v := nI 1) hx hb hr (by decide +kernel) (fun t ht hW => ⟨_, rfl, by first | exact xw_g1 (Or.inl hc7) | exact xw_g1 (Or.inr hc17) | exact xw_g0 hc7 hc17, ht⟩) (fun _ h => by cases h) d_C_isGood_25
set_option maxHeartbeats 4000000 in
set_option maxRecDepth 100000 in
theorem c_C_dep (l : Launch) (D : va_G) (q : Nat → Nat) (cA : Nat → ClassId) (lim : Int32) (kf : Nat → Int32) (kg : Nat → Int64) (af : Nat → Int32) (bf : Nat → Int32) (rk : Nat → Int32) (rv : Nat → Int64) (rm : Nat → Int32) (rs : Nat → Int32) (rn : Int32) (bp : Nat → Int32) (bk : Nat → Int32) (bv : Nat → Int64) (bo : Int32) (bn : Int32) (K : List xk_E) (h : Nat) (hT : xw_KT kf kg af bf K) (hh : h < 64) : Met l y_C_depthOf zw_C_depthOf ({ frames := 1, cells := 0, slots := 0, locals := 22 } : Room) (va_Pc [.ref (q 2), .int (nI h)] (xp_R D zz_cl (xw_tC cA) (xw_C q cA lim kf kg (nI K.length) af bf rk rv rm rs rn bp bk bv bo bn))) (vp_Si (fun r : Int32 => r = nI (xd_dp K h))) 0 0 (fun _ => False) := by
  refine Met.ofW (cc := b_C_depthOf) (maxL := 3) (ret := (some .int)) (by decide) rfl ?_
  intro pJ eJ s mJ args below meth cJ s₁ B hml hv
  obtain ⟨rfl, hP, hK, hZ⟩ := hv
  have hx := B.exec
  have hb := B.bytes
  have hr := B.returns
  have hts := atoms_spec (ws := zw_C_depthOf) B.pre
  have hown : s.vm.findClass R_C = some mJ.cls := findClass_of_methodNamed B.named
  have hlocks := B.notSynchronized
  have hl := lv_entry ([.ref (q 2), .int (nI h)]) (n := 3) (Nat.le_of_ble_eq_true rfl)
  rw [lg_entry_eq]
  generalize (lg_sl ([.ref (q 2), .int (nI h)]) ++ List.replicate (3 - (lg_sl ([.ref (q 2), .int (nI h)])).length) Slot.unset).toArray = ls at hl ⊢
  have hl : lv_has ls 3 [(0, .ref (q 2)), (1, .int (nI h))] := hl
  refine lv_iconst (v := nI 0) hx hb d_C_depthOf_0 (by decide +kernel) ?_
  refine lv_istore_n (lv' := [(2, .int (nI 0)), (0, .ref (q 2)), (1, .int (nI h))]) hx hb d_C_depthOf_1 rfl hl (Nat.le_of_ble_eq_true rfl) rfl (fun ls hl => ?_)
  have lp2 : ∀ (N : Nat) (d : Nat) (ls : Array Slot), (d ≤ 6) → (xd_dp K h = xd_dR K h d (6 - d)) → lv_has ls 3 [(0, .ref (q 2)), (1, .int (nI h)), (2, .int (nI d))] → 6 - d < N → W pJ l eJ (headSpec zw_C_depthOf ({ frames := 1, cells := 0, slots := 0, locals := 22 } : Room)).room s mJ ([.ref (q 2), .int (nI h)] : List Value).toArray below meth cJ s.heap [] 0 0 (MQ below (vp_Si (fun r : Int32 => r = nI (xd_dp K h))) ([.ref (q 2), .int (nI h)] : List Value).toArray s 0 0 (fun _ => False)) (F0 mJ 2 ls []) := by
    intro N
    induction N with
    | zero => intro d ls hd6 hdr hl hm; exact absurd hm (Nat.not_lt_zero _)
    | succ N ih2 =>
      intro d ls hd6 hdr hl hm
      refine lv_iload_n hx hb d_C_depthOf_2 rfl (lv_at hl 2 rfl) ?_
      refine lv_bipush (v := nI 6) hx hb d_C_depthOf_3 (by decide +kernel) ?_
      refine lv_icmp_ge (tgt := 28) hx hb d_C_depthOf_5 (by decide) (fun hc5 => ?_) (fun hc5 => ?_)
      · skip
        rw [nI_leI (by omega) (by omega)] at hc5
        refine lv_bipush (v := nI 6) hx hb d_C_depthOf_28 (by decide +kernel) ?_
        exact W.iret (v := nI 6) hx hb hr (fun t ht hW => ⟨_, rfl, by rw [hdr, show d = 6 from by omega]; rfl, ht⟩) (fun _ h => by cases h) d_C_depthOf_30
      · skip
        rw [nI_leI (by omega) (by omega)] at hc5
        refine lv_aload_n hx hb d_C_depthOf_8 rfl (lv_at hl 0 rfl) ?_
        refine lv_iload_n hx hb d_C_depthOf_9 rfl (lv_at hl 2 rfl) ?_
        refine lv_iload_n hx hb d_C_depthOf_10 rfl (lv_at hl 1 rfl) ?_
        refine xa_cI (va_runS (As := [.int (nI d), .int (nI h)]) (rest := [.ref (q 2)]) ⟨hx, hb, hml, hown, hts⟩ (c_C_cell l d h (by omega) (by omega)) (cwS 2 hts (zg_S zm_180 zm_181 zm_4 zm_182) rfl rfl rfl (by decide +kernel) ⟨Nat.le_of_ble_eq_true rfl, Nat.le_of_ble_eq_true rfl⟩) xp_preS rfl rfl hl.1 rfl (lv_room (Nat.le_of_ble_eq_true rfl)) d_C_depthOf_11 ⟨Nat.zero_le _, Nat.zero_le _⟩) ?_
        refine xa_cI (va_runV (As := [.int (nI (2 ^ d + h % 2 ^ d))]) (rest := []) ⟨hx, hb, hml, hown, hts⟩ (c_C_good l D q cA lim kf kg af bf rk rv rm rs rn bp bk bv bo bn K d (h % 2 ^ d) hT (by omega) (Nat.mod_lt _ (Nat.two_pow_pos _))) (cwV 1 hts (zg_V zm_199 zm_201 zs_6 zm_4 zm_202) rfl rfl rfl (by decide +kernel) ⟨Nat.le_of_ble_eq_true rfl, Nat.le_of_ble_eq_true rfl⟩) (xp_preV (ci := 2) (q0 := 2) hK hP rfl rfl rfl hZ) rfl rfl hl.1 rfl (lv_room (Nat.le_of_ble_eq_true rfl)) d_C_depthOf_14 ⟨Nat.zero_le _, Nat.zero_le _⟩) ?_
        refine lv_if_eq (tgt := 22) hx hb d_C_depthOf_17 (by decide) (fun hc17 => ?_) (fun hc17 => ?_)
        · skip
          rw [xb_0] at hc17
          refine lv_iinc (k := 2) (v := nI (d + 1)) (lv' := [(2, .int (nI (d + 1))), (0, .ref (q 2)), (1, .int (nI h))]) hx hb d_C_depthOf_22 hl rfl (xn_inc _) (Nat.le_of_ble_eq_true rfl) rfl (fun ls hl => ?_)
          refine lv_goto (tgt := 2) hx hb d_C_depthOf_25 (by decide) ?_
          exact ih2 (d + 1) ls (by omega) (by rw [hdr, show 6 - d = (6 - (d + 1)) + 1 from by omega, xd_dR, if_neg (by simp [hc17])]) (lv_sub hl [1, 2, 0] rfl) (by omega)
        · skip
          rw [xb_1] at hc17
          refine lv_iload_n hx hb d_C_depthOf_20 rfl (lv_at hl 2 rfl) ?_
          exact W.iret (v := nI d) hx hb hr (fun t ht hW => ⟨_, rfl, by rw [hdr, show 6 - d = (5 - d) + 1 from by omega, xd_dR, if_pos hc17], ht⟩) (fun _ h => by cases h) d_C_depthOf_21
  exact lp2 _ 0 ls (by omega) rfl (lv_sub hl [1, 2, 0] rfl) (Nat.lt_succ_self _)
set_option maxHeartbeats 4000000 in
set_option maxRecDepth 100000 in
theorem c_C_deep (l : Launch) (D : va_G) (q : Nat → Nat) (cA : Nat → ClassId) (lim : Int32) (kf : Nat → Int32) (kg : Nat → Int64) (af : Nat → Int32) (bf : Nat → Int32) (rk : Nat → Int32) (rv : Nat → Int64) (rm : Nat → Int32) (rs : Nat → Int32) (rn : Int32) (bp : Nat → Int32) (bk : Nat → Int32) (bv : Nat → Int64) (bo : Int32) (bn : Int32) (K : List xk_E) (hT : xw_KT kf kg af bf K) : Met l y_C_deepest zw_C_deepest ({ frames := 2, cells := 0, slots := 0, locals := 44 } : Room) (va_Pc [.ref (q 2)] (xp_R D zz_cl (xw_tC cA) (xw_C q cA lim kf kg (nI K.length) af bf rk rv rm rs rn bp bk bv bo bn))) (vp_Si (fun r : Int32 => r = nI (xd_gm K 64))) 0 0 (fun _ => False) := by
  refine Met.ofW (cc := b_C_deepest) (maxL := 3) (ret := (some .int)) (by decide) rfl ?_
  intro pJ eJ s mJ args below meth cJ s₁ B hml hv
  obtain ⟨rfl, hP, hK, hZ⟩ := hv
  have hx := B.exec
  have hb := B.bytes
  have hr := B.returns
  have hts := atoms_spec (ws := zw_C_deepest) B.pre
  have hown : s.vm.findClass R_C = some mJ.cls := findClass_of_methodNamed B.named
  have hlocks := B.notSynchronized
  have hl := lv_entry ([.ref (q 2)]) (n := 3) (Nat.le_of_ble_eq_true rfl)
  rw [lg_entry_eq]
  generalize (lg_sl ([.ref (q 2)]) ++ List.replicate (3 - (lg_sl ([.ref (q 2)])).length) Slot.unset).toArray = ls at hl ⊢
  have hl : lv_has ls 3 [(0, .ref (q 2))] := hl
  refine lv_iconst (v := nI 0) hx hb d_C_deepest_0 (by decide +kernel) ?_
  refine lv_istore_n (lv' := [(1, .int (nI 0)), (0, .ref (q 2))]) hx hb d_C_deepest_1 rfl hl (Nat.le_of_ble_eq_true rfl) rfl (fun ls hl => ?_)
  refine lv_iconst (v := nI 0) hx hb d_C_deepest_2 (by decide +kernel) ?_
  refine lv_istore_n (lv' := [(2, .int (nI 0)), (1, .int (nI 0)), (0, .ref (q 2))]) hx hb d_C_deepest_3 rfl hl (Nat.le_of_ble_eq_true rfl) rfl (fun ls hl => ?_)
  have lp4 : ∀ (N : Nat) (p : Nat) (ls : Array Slot), (p ≤ 64) → lv_has ls 3 [(0, .ref (q 2)), (1, .int (nI (xd_gm K p))), (2, .int (nI p))] → 64 - p < N → W pJ l eJ (headSpec zw_C_deepest ({ frames := 2, cells := 0, slots := 0, locals := 44 } : Room)).room s mJ ([.ref (q 2)] : List Value).toArray below meth cJ s.heap [] 0 0 (MQ below (vp_Si (fun r : Int32 => r = nI (xd_gm K 64))) ([.ref (q 2)] : List Value).toArray s 0 0 (fun _ => False)) (F0 mJ 4 ls []) := by
    intro N
    induction N with
    | zero => intro p ls hp hl hm; exact absurd hm (Nat.not_lt_zero _)
    | succ N ih4 =>
      intro p ls hp hl hm
      refine lv_iload_n hx hb d_C_deepest_4 rfl (lv_at hl 2 rfl) ?_
      refine lv_bipush (v := nI 64) hx hb d_C_deepest_5 (by decide +kernel) ?_
      refine lv_icmp_ge (tgt := 26) hx hb d_C_deepest_7 (by decide) (fun hc7 => ?_) (fun hc7 => ?_)
      · skip
        rw [nI_leI (by omega) (by omega)] at hc7
        refine lv_iload_n hx hb d_C_deepest_26 rfl (lv_at hl 1 rfl) ?_
        exact W.iret (v := nI (xd_gm K p)) hx hb hr (fun t ht hW => ⟨_, rfl, by rw [show p = 64 from by omega], ht⟩) (fun _ h => by cases h) d_C_deepest_27
      · skip
        rw [nI_leI (by omega) (by omega)] at hc7
        refine lv_iload_n hx hb d_C_deepest_10 rfl (lv_at hl 1 rfl) ?_
        refine lv_aload_n hx hb d_C_deepest_11 rfl (lv_at hl 0 rfl) ?_
        refine lv_iload_n hx hb d_C_deepest_12 rfl (lv_at hl 2 rfl) ?_
        refine xa_cI (va_runV (As := [.int (nI p)]) (rest := [.int (nI (xd_gm K p))]) ⟨hx, hb, hml, hown, hts⟩ (c_C_dep l D q cA lim kf kg af bf rk rv rm rs rn bp bk bv bo bn K p hT (by omega)) (cwV 1 hts (zg_V zm_195 zm_196 zm_197 zm_4 zm_198) rfl rfl rfl (by decide +kernel) ⟨Nat.le_of_ble_eq_true rfl, Nat.le_of_ble_eq_true rfl⟩) (xp_preV (ci := 2) (q0 := 2) hK hP rfl rfl rfl hZ) rfl rfl hl.1 rfl (lv_room (Nat.le_of_ble_eq_true rfl)) d_C_deepest_13 ⟨Nat.zero_le _, Nat.zero_le _⟩) ?_
        have h6 := xd_gm_le K p
        have h7 := xd_dp_le K p
        refine va_mmax hx hb (hml.trans hl.1.symm) hown (hts _ (List.mem_cons_of_mem _ zm_203)) (hts _ (List.mem_cons_of_mem _ zm_21)) (hts _ (List.mem_cons_of_mem _ zm_2)) (hts _ (List.mem_cons_of_mem _ zm_22)) (Nat.le_of_ble_eq_true rfl) (Nat.le_of_ble_eq_true rfl) (Nat.zero_le _) (Nat.zero_le _) d_C_deepest_16 ?_
        refine xa_top (y := nI (max (xd_gm K p) (xd_dp K p))) (xn_max (by omega) (by omega)) ?_
        refine lv_istore_n (lv' := [(1, .int (nI (max (xd_gm K p) (xd_dp K p)))), (0, .ref (q 2)), (2, .int (nI p))]) hx hb d_C_deepest_19 rfl hl (Nat.le_of_ble_eq_true rfl) rfl (fun ls hl => ?_)
        refine lv_iinc (k := 2) (v := nI (p + 1)) (lv' := [(2, .int (nI (p + 1))), (1, .int (nI (max (xd_gm K p) (xd_dp K p)))), (0, .ref (q 2))]) hx hb d_C_deepest_20 hl rfl (xn_inc _) (Nat.le_of_ble_eq_true rfl) rfl (fun ls hl => ?_)
        refine lv_goto (tgt := 4) hx hb d_C_deepest_23 (by decide) ?_
        exact ih4 (p + 1) ls (by omega) (lv_sub hl [2, 1, 0] rfl) (by omega)
  exact lp4 _ 0 ls (by omega) (lv_sub hl [2, 1, 0] rfl) (Nat.lt_succ_self _)
set_option maxHeartbeats 4000000 in
set_option maxRecDepth 100000 in
theorem c_C_mask (l : Launch) (D : va_G) (q : Nat → Nat) (cA : Nat → ClassId) (lim : Int32) (kf : Nat → Int32) (kg : Nat → Int64) (af : Nat → Int32) (bf : Nat → Int32) (rk : Nat → Int32) (rv : Nat → Int64) (rm : Nat → Int32) (rs : Nat → Int32) (rn : Int32) (bp : Nat → Int32) (bk : Nat → Int32) (bv : Nat → Int64) (bo : Int32) (bn : Int32) (K : List xk_E) (h : Nat) (hT : xw_KT kf kg af bf K) (hh : h < 64) : Met l y_C_maskOf zw_C_maskOf ({ frames := 2, cells := 0, slots := 0, locals := 44 } : Room) (va_Pc [.ref (q 2), .int (nI h)] (xp_R D zz_cl (xw_tC cA) (xw_C q cA lim kf kg (nI K.length) af bf rk rv rm rs rn bp bk bv bo bn))) (vp_Si (fun r : Int32 => r = nI (2 ^ xd_dp K h - 1))) 0 0 (fun _ => False) := by
  refine Met.ofW (cc := b_C_maskOf) (maxL := 2) (ret := (some .int)) (by decide) rfl ?_
  intro pJ eJ s mJ args below meth cJ s₁ B hml hv
  obtain ⟨rfl, hP, hK, hZ⟩ := hv
  have hx := B.exec
  have hb := B.bytes
  have hr := B.returns
  have hts := atoms_spec (ws := zw_C_maskOf) B.pre
  have hown : s.vm.findClass R_C = some mJ.cls := findClass_of_methodNamed B.named
  have hlocks := B.notSynchronized
  have hl := lv_entry ([.ref (q 2), .int (nI h)]) (n := 2) (Nat.le_of_ble_eq_true rfl)
  rw [lg_entry_eq]
  generalize (lg_sl ([.ref (q 2), .int (nI h)]) ++ List.replicate (2 - (lg_sl ([.ref (q 2), .int (nI h)])).length) Slot.unset).toArray = ls at hl ⊢
  have hl : lv_has ls 2 [(0, .ref (q 2)), (1, .int (nI h))] := hl
  have h6 := xd_dp_le K h
  have hpos := Nat.two_pow_pos (xd_dp K h)
  refine lv_iconst (v := nI 1) hx hb d_C_maskOf_0 (by decide +kernel) ?_
  refine lv_aload_n hx hb d_C_maskOf_1 rfl (lv_at hl 0 rfl) ?_
  refine lv_iload_n hx hb d_C_maskOf_2 rfl (lv_at hl 1 rfl) ?_
  refine xa_cI (va_runV (As := [.int (nI h)]) (rest := [.int (nI 1)]) ⟨hx, hb, hml, hown, hts⟩ (c_C_dep l D q cA lim kf kg af bf rk rv rm rs rn bp bk bv bo bn K h hT (by omega)) (cwV 1 hts (zg_V zm_195 zm_196 zm_197 zm_4 zm_198) rfl rfl rfl (by decide +kernel) ⟨Nat.le_of_ble_eq_true rfl, Nat.le_of_ble_eq_true rfl⟩) (xp_preV (ci := 2) (q0 := 2) hK hP rfl rfl rfl hZ) rfl rfl hl.1 rfl (lv_room (Nat.le_of_ble_eq_true rfl)) d_C_maskOf_3 ⟨Nat.zero_le _, Nat.zero_le _⟩) ?_
  refine lv_ishl hx hb d_C_maskOf_6 ?_
  refine xa_top (y := nI (2 ^ xd_dp K h)) (xw_shl h6) ?_
  refine lv_iconst (v := nI 1) hx hb d_C_maskOf_7 (by decide +kernel) ?_
  refine lv_isub hx hb d_C_maskOf_8 ?_
  refine xa_top (y := nI ((2 ^ xd_dp K h) - 1)) (pk_sub (by omega)) ?_
  exact W.iret (v := nI ((2 ^ xd_dp K h) - 1)) hx hb hr (fun t ht hW => ⟨_, rfl, rfl, ht⟩) (fun _ h => by cases h) d_C_maskOf_9
set_option maxHeartbeats 4000000 in
set_option maxRecDepth 100000 in
theorem c_C_isP (l : Launch) (D : va_G) (q : Nat → Nat) (cA : Nat → ClassId) (lim : Int32) (kf : Nat → Int32) (kg : Nat → Int64) (af : Nat → Int32) (bf : Nat → Int32) (rk : Nat → Int32) (rv : Nat → Int64) (rm : Nat → Int32) (rs : Nat → Int32) (rn : Int32) (bp : Nat → Int32) (bk : Nat → Int32) (bv : Nat → Int64) (bo : Int32) (bn : Int32) (K : List xk_E) (h : Nat) (hT : xw_KT kf kg af bf K) (hh : h < 64) : Met l y_C_isPlace zw_C_isPlace ({ frames := 3, cells := 0, slots := 0, locals := 65 } : Room) (va_Pc [.ref (q 2), .int (nI h)] (xp_R D zz_cl (xw_tC cA) (xw_C q cA lim kf kg (nI K.length) af bf rk rv rm rs rn bp bk bv bo bn))) (vp_Si (fun r : Int32 => r = xb_i (xd_pl K h))) 0 0 (fun _ => False) := by
  refine Met.ofW (cc := b_C_isPlace) (maxL := 2) (ret := (some .boolean)) (by decide) rfl ?_
  intro pJ eJ s mJ args below meth cJ s₁ B hml hv
  obtain ⟨rfl, hP, hK, hZ⟩ := hv
  have hx := B.exec
  have hb := B.bytes
  have hr := B.returns
  have hts := atoms_spec (ws := zw_C_isPlace) B.pre
  have hown : s.vm.findClass R_C = some mJ.cls := findClass_of_methodNamed B.named
  have hlocks := B.notSynchronized
  have hl := lv_entry ([.ref (q 2), .int (nI h)]) (n := 2) (Nat.le_of_ble_eq_true rfl)
  rw [lg_entry_eq]
  generalize (lg_sl ([.ref (q 2), .int (nI h)]) ++ List.replicate (2 - (lg_sl ([.ref (q 2), .int (nI h)])).length) Slot.unset).toArray = ls at hl ⊢
  have hl : lv_has ls 2 [(0, .ref (q 2)), (1, .int (nI h))] := hl
  have hm := Nat.mod_le h (2 ^ xd_dp K h)
  refine lv_iload_n hx hb d_C_isPlace_0 rfl (lv_at hl 1 rfl) ?_
  refine lv_aload_n hx hb d_C_isPlace_1 rfl (lv_at hl 0 rfl) ?_
  refine lv_iload_n hx hb d_C_isPlace_2 rfl (lv_at hl 1 rfl) ?_
  refine xa_cI (va_runV (As := [.int (nI h)]) (rest := [.int (nI h)]) ⟨hx, hb, hml, hown, hts⟩ (c_C_mask l D q cA lim kf kg af bf rk rv rm rs rn bp bk bv bo bn K h hT (by omega)) (cwV 1 hts (zg_V zm_211 zm_212 zm_213 zm_4 zm_214) rfl rfl rfl (by decide +kernel) ⟨Nat.le_of_ble_eq_true rfl, Nat.le_of_ble_eq_true rfl⟩) (xp_preV (ci := 2) (q0 := 2) hK hP rfl rfl rfl hZ) rfl rfl hl.1 rfl (lv_room (Nat.le_of_ble_eq_true rfl)) d_C_isPlace_3 ⟨Nat.zero_le _, Nat.zero_le _⟩) ?_
  refine lv_iand hx hb d_C_isPlace_6 ?_
  refine xa_top (y := nI (h % 2 ^ xd_dp K h)) (xw_and (by omega) (xd_dp_le K h)) ?_
  refine lv_iload_n hx hb d_C_isPlace_7 rfl (lv_at hl 1 rfl) ?_
  refine lv_icmp_ne (tgt := 15) hx hb d_C_isPlace_8 (by decide) (fun hc8 => ?_) (fun hc8 => ?_)
  · skip
    rw [nI_eq (by omega) (by omega)] at hc8
    refine lv_iconst (v := nI 0) hx hb d_C_isPlace_15 (by decide +kernel) ?_
    exact W.zret (ty := .boolean) (v := nI 0) hx hb hr (by decide +kernel) (fun t ht hW => ⟨_, rfl, by first | (rw [xd_pl_iff.mpr hc8]; exact xb_t.symm) | (rw [xw_pl0 hc8]; exact xb_f.symm), ht⟩) (fun _ h => by cases h) d_C_isPlace_16
  · skip
    rw [nI_eq (by omega) (by omega)] at hc8
    refine lv_iconst (v := nI 1) hx hb d_C_isPlace_11 (by decide +kernel) ?_
    refine lv_goto (tgt := 16) hx hb d_C_isPlace_12 (by decide) ?_
    exact W.zret (ty := .boolean) (v := nI 1) hx hb hr (by decide +kernel) (fun t ht hW => ⟨_, rfl, by first | (rw [xd_pl_iff.mpr hc8]; exact xb_t.symm) | (rw [xw_pl0 hc8]; exact xb_f.symm), ht⟩) (fun _ h => by cases h) d_C_isPlace_16
set_option maxHeartbeats 4000000 in
set_option maxRecDepth 100000 in
theorem c_C_cntP (l : Launch) (D : va_G) (q : Nat → Nat) (cA : Nat → ClassId) (lim : Int32) (kf : Nat → Int32) (kg : Nat → Int64) (af : Nat → Int32) (bf : Nat → Int32) (rk : Nat → Int32) (rv : Nat → Int64) (rm : Nat → Int32) (rs : Nat → Int32) (rn : Int32) (bp : Nat → Int32) (bk : Nat → Int32) (bv : Nat → Int64) (bo : Int32) (bn : Int32) (K : List xk_E) (hT : xw_KT kf kg af bf K) : Met l y_C_countPlaces zw_C_countPlaces ({ frames := 4, cells := 0, slots := 0, locals := 86 } : Room) (va_Pc [.ref (q 2)] (xp_R D zz_cl (xw_tC cA) (xw_C q cA lim kf kg (nI K.length) af bf rk rv rm rs rn bp bk bv bo bn))) (vp_Si (fun r : Int32 => r = nI ((xo_pls K 64).length))) 0 0 (fun _ => False) := by
  refine Met.ofW (cc := b_C_countPlaces) (maxL := 3) (ret := (some .int)) (by decide) rfl ?_
  intro pJ eJ s mJ args below meth cJ s₁ B hml hv
  obtain ⟨rfl, hP, hK, hZ⟩ := hv
  have hx := B.exec
  have hb := B.bytes
  have hr := B.returns
  have hts := atoms_spec (ws := zw_C_countPlaces) B.pre
  have hown : s.vm.findClass R_C = some mJ.cls := findClass_of_methodNamed B.named
  have hlocks := B.notSynchronized
  have hl := lv_entry ([.ref (q 2)]) (n := 3) (Nat.le_of_ble_eq_true rfl)
  rw [lg_entry_eq]
  generalize (lg_sl ([.ref (q 2)]) ++ List.replicate (3 - (lg_sl ([.ref (q 2)])).length) Slot.unset).toArray = ls at hl ⊢
  have hl : lv_has ls 3 [(0, .ref (q 2))] := hl
  refine lv_iconst (v := nI 0) hx hb d_C_countPlaces_0 (by decide +kernel) ?_
  refine lv_istore_n (lv' := [(1, .int (nI 0)), (0, .ref (q 2))]) hx hb d_C_countPlaces_1 rfl hl (Nat.le_of_ble_eq_true rfl) rfl (fun ls hl => ?_)
  refine lv_iconst (v := nI 0) hx hb d_C_countPlaces_2 (by decide +kernel) ?_
  refine lv_istore_n (lv' := [(2, .int (nI 0)), (1, .int (nI 0)), (0, .ref (q 2))]) hx hb d_C_countPlaces_3 rfl hl (Nat.le_of_ble_eq_true rfl) rfl (fun ls hl => ?_)
  have lp4 : ∀ (N : Nat) (p : Nat) (n : Nat) (ls : Array Slot), (p ≤ 64) → (n = (xo_pls K p).length) → lv_has ls 3 [(0, .ref (q 2)), (1, .int (nI n)), (2, .int (nI p))] → 64 - p < N → W pJ l eJ (headSpec zw_C_countPlaces ({ frames := 4, cells := 0, slots := 0, locals := 86 } : Room)).room s mJ ([.ref (q 2)] : List Value).toArray below meth cJ s.heap [] 0 0 (MQ below (vp_Si (fun r : Int32 => r = nI ((xo_pls K 64).length))) ([.ref (q 2)] : List Value).toArray s 0 0 (fun _ => False)) (F0 mJ 4 ls []) := by
    intro N
    induction N with
    | zero => intro p n ls hp hn hl hm; exact absurd hm (Nat.not_lt_zero _)
    | succ N ih4 =>
      intro p n ls hp hn hl hm
      refine lv_iload_n hx hb d_C_countPlaces_4 rfl (lv_at hl 2 rfl) ?_
      refine lv_bipush (v := nI 64) hx hb d_C_countPlaces_5 (by decide +kernel) ?_
      refine lv_icmp_ge (tgt := 27) hx hb d_C_countPlaces_7 (by decide) (fun hc7 => ?_) (fun hc7 => ?_)
      · skip
        rw [nI_leI (by omega) (by omega)] at hc7
        refine lv_iload_n hx hb d_C_countPlaces_27 rfl (lv_at hl 1 rfl) ?_
        exact W.iret (v := nI n) hx hb hr (fun t ht hW => ⟨_, rfl, by rw [hn, show p = 64 from by omega], ht⟩) (fun _ h => by cases h) d_C_countPlaces_28
      · skip
        rw [nI_leI (by omega) (by omega)] at hc7
        refine lv_aload_n hx hb d_C_countPlaces_10 rfl (lv_at hl 0 rfl) ?_
        refine lv_iload_n hx hb d_C_countPlaces_11 rfl (lv_at hl 2 rfl) ?_
        refine xa_cI (va_runV (As := [.int (nI p)]) (rest := []) ⟨hx, hb, hml, hown, hts⟩ (c_C_isP l D q cA lim kf kg af bf rk rv rm rs rn bp bk bv bo bn K p hT (by omega)) (cwV 1 hts (zg_V zm_349 zm_208 zm_209 zm_4 zm_210) rfl rfl rfl (by decide +kernel) ⟨Nat.le_of_ble_eq_true rfl, Nat.le_of_ble_eq_true rfl⟩) (xp_preV (ci := 2) (q0 := 2) hK hP rfl rfl rfl hZ) rfl rfl hl.1 rfl (lv_room (Nat.le_of_ble_eq_true rfl)) d_C_countPlaces_12 ⟨Nat.zero_le _, Nat.zero_le _⟩) ?_
        refine lv_if_eq (tgt := 21) hx hb d_C_countPlaces_15 (by decide) (fun hc15 => ?_) (fun hc15 => ?_)
        · skip
          rw [xb_0] at hc15
          refine lv_iinc (k := 2) (v := nI (p + 1)) (lv' := [(2, .int (nI (p + 1))), (0, .ref (q 2)), (1, .int (nI n))]) hx hb d_C_countPlaces_21 hl rfl (xn_inc _) (Nat.le_of_ble_eq_true rfl) rfl (fun ls hl => ?_)
          refine lv_goto (tgt := 4) hx hb d_C_countPlaces_24 (by decide) ?_
          exact ih4 (p + 1) n ls (by omega) (by rw [xo_pls_len, hc15, hn]; rfl) (lv_sub hl [1, 2, 0] rfl) (by omega)
        · skip
          rw [xb_1] at hc15
          refine lv_iinc (k := 1) (v := nI (n + 1)) (lv' := [(1, .int (nI (n + 1))), (0, .ref (q 2)), (2, .int (nI p))]) hx hb d_C_countPlaces_18 hl rfl (xn_inc _) (Nat.le_of_ble_eq_true rfl) rfl (fun ls hl => ?_)
          refine lv_iinc (k := 2) (v := nI (p + 1)) (lv' := [(2, .int (nI (p + 1))), (1, .int (nI (n + 1))), (0, .ref (q 2))]) hx hb d_C_countPlaces_21 hl rfl (xn_inc _) (Nat.le_of_ble_eq_true rfl) rfl (fun ls hl => ?_)
          refine lv_goto (tgt := 4) hx hb d_C_countPlaces_24 (by decide) ?_
          exact ih4 (p + 1) (n + 1) ls (by omega) (by rw [xo_pls_len, hc15, hn]; rfl) (lv_sub hl [2, 1, 0] rfl) (by omega)
  exact lp4 _ 0 0 ls (by omega) rfl (lv_sub hl [2, 1, 0] rfl) (Nat.lt_succ_self _)
set_option maxHeartbeats 4000000 in
set_option maxRecDepth 100000 in
theorem c_C_kob (l : Launch) (D : va_G) (q : Nat → Nat) (cA : Nat → ClassId) (lim : Int32) (kf : Nat → Int32) (kg : Nat → Int64) (af : Nat → Int32) (bf : Nat → Int32) (rk : Nat → Int32) (rv : Nat → Int64) (rm : Nat → Int32) (rs : Nat → Int32) (rn : Int32) (bp : Nat → Int32) (bk : Nat → Int32) (bv : Nat → Int64) (bo : Int32) (bn : Int32) (K : List xk_E) (h : Nat) (hT : xw_KT kf kg af bf K) (hh : h < 64) : Met l y_C_keysOfBucket zw_C_keysOfBucket ({ frames := 2, cells := 0, slots := 0, locals := 44 } : Room) (va_Pc [.ref (q 2), .int (nI h)] (xp_R D zz_cl (xw_tC cA) (xw_C q cA lim kf kg (nI K.length) af bf rk rv rm rs rn bp bk bv bo bn))) (vp_Si (fun r : Int32 => r = nI (xd_cn K (xd_dp K h) (h % 2 ^ xd_dp K h)))) 0 0 (fun _ => False) := by
  refine Met.ofW (cc := b_C_keysOfBucket) (maxL := 2) (ret := (some .int)) (by decide) rfl ?_
  intro pJ eJ s mJ args below meth cJ s₁ B hml hv
  obtain ⟨rfl, hP, hK, hZ⟩ := hv
  have hx := B.exec
  have hb := B.bytes
  have hr := B.returns
  have hts := atoms_spec (ws := zw_C_keysOfBucket) B.pre
  have hown : s.vm.findClass R_C = some mJ.cls := findClass_of_methodNamed B.named
  have hlocks := B.notSynchronized
  have hl := lv_entry ([.ref (q 2), .int (nI h)]) (n := 2) (Nat.le_of_ble_eq_true rfl)
  rw [lg_entry_eq]
  generalize (lg_sl ([.ref (q 2), .int (nI h)]) ++ List.replicate (2 - (lg_sl ([.ref (q 2), .int (nI h)])).length) Slot.unset).toArray = ls at hl ⊢
  have hl : lv_has ls 2 [(0, .ref (q 2)), (1, .int (nI h))] := hl
  have h6 := xd_dp_le K h
  refine lv_aload_n hx hb d_C_keysOfBucket_0 rfl (lv_at hl 0 rfl) ?_
  refine va_get (D := D) (ci := 2) (v := .ref (q 7)) (C := R_C) (T := F_C) (N := 2) hx hb hts (zi_C _) hown hK hP 2 rfl rfl 0 (by decide) (hts _ (List.mem_cons_of_mem _ zm_35)) (fun _ h9 => h9) rfl d_C_keysOfBucket_1 ?_
  refine lv_aload_n hx hb d_C_keysOfBucket_4 rfl (lv_at hl 0 rfl) ?_
  refine lv_iload_n hx hb d_C_keysOfBucket_5 rfl (lv_at hl 1 rfl) ?_
  refine xa_cI (va_runV (As := [.int (nI h)]) (rest := [.ref (q 7)]) ⟨hx, hb, hml, hown, hts⟩ (c_C_dep l D q cA lim kf kg af bf rk rv rm rs rn bp bk bv bo bn K h hT (by omega)) (cwV 1 hts (zg_V zm_195 zm_196 zm_197 zm_4 zm_198) rfl rfl rfl (by decide +kernel) ⟨Nat.le_of_ble_eq_true rfl, Nat.le_of_ble_eq_true rfl⟩) (xp_preV (ci := 2) (q0 := 2) hK hP rfl rfl rfl hZ) rfl rfl hl.1 rfl (lv_room (Nat.le_of_ble_eq_true rfl)) d_C_keysOfBucket_6 ⟨Nat.zero_le _, Nat.zero_le _⟩) ?_
  refine lv_iload_n hx hb d_C_keysOfBucket_9 rfl (lv_at hl 1 rfl) ?_
  refine xa_cI (va_runS (As := [.int (nI (xd_dp K h)), .int (nI h)]) (rest := [.ref (q 7)]) ⟨hx, hb, hml, hown, hts⟩ (c_C_cell l (xd_dp K h) h (by omega) (by omega)) (cwS 2 hts (zg_S zm_180 zm_181 zm_4 zm_182) rfl rfl rfl (by decide +kernel) ⟨Nat.le_of_ble_eq_true rfl, Nat.le_of_ble_eq_true rfl⟩) xp_preS rfl rfl hl.1 rfl (lv_room (Nat.le_of_ble_eq_true rfl)) d_C_keysOfBucket_10 ⟨Nat.zero_le _, Nat.zero_le _⟩) ?_
  refine xa_iald hx hb hK hP 7 2 rfl rfl (k := 2 ^ (xd_dp K h) + h % 2 ^ (xd_dp K h)) (xw_cell h6 (Nat.mod_lt _ (Nat.two_pow_pos _))) (by decide) d_C_keysOfBucket_13 ?_
  refine xa_top (y := nI (xd_cn K (xd_dp K h) (h % 2 ^ xd_dp K h))) ((hT.2.2.2 _ _ h6 (Nat.mod_lt _ (Nat.two_pow_pos _))).1) ?_
  exact W.iret (v := nI (xd_cn K (xd_dp K h) (h % 2 ^ xd_dp K h))) hx hb hr (fun t ht hW => ⟨_, rfl, rfl, ht⟩) (fun _ h => by cases h) d_C_keysOfBucket_14
set_option maxHeartbeats 4000000 in
set_option maxRecDepth 100000 in
theorem c_K_below (l : Launch) (D : va_G) (q : Nat → Nat) (cA : Nat → ClassId) (lim : Int32) (kf : Nat → Int32) (kg : Nat → Int64) (af : Nat → Int32) (bf : Nat → Int32) (rk : Nat → Int32) (rv : Nat → Int64) (rm : Nat → Int32) (rs : Nat → Int32) (rn : Int32) (bp : Nat → Int32) (bk : Nat → Int32) (bv : Nat → Int64) (bo : Int32) (bn : Int32) (K : List xk_E) (k : Int32) (hT : xw_KT kf kg af bf K) : Met l y_K_keysBelow zw_K_keysBelow ({ frames := 0, cells := 0, slots := 0, locals := 0 } : Room) (va_Pc [.ref (q 1), .int k] (xp_R D zz_cl (xw_tC cA) (xw_C q cA lim kf kg (nI K.length) af bf rk rv rm rs rn bp bk bv bo bn))) (vp_Si (fun r : Int32 => r = nI (xk_lo K k))) 0 0 (fun _ => False) := by
  refine Met.ofW (cc := b_K_keysBelow) (maxL := 3) (ret := (some .int)) (by decide) rfl ?_
  intro pJ eJ s mJ args below meth cJ s₁ B hml hv
  obtain ⟨rfl, hP, hK, hZ⟩ := hv
  have hx := B.exec
  have hb := B.bytes
  have hr := B.returns
  have hts := atoms_spec (ws := zw_K_keysBelow) B.pre
  have hown : s.vm.findClass R_K = some mJ.cls := findClass_of_methodNamed B.named
  have hlocks := B.notSynchronized
  have hl := lv_entry ([.ref (q 1), .int k]) (n := 3) (Nat.le_of_ble_eq_true rfl)
  rw [lg_entry_eq]
  generalize (lg_sl ([.ref (q 1), .int k]) ++ List.replicate (3 - (lg_sl ([.ref (q 1), .int k])).length) Slot.unset).toArray = ls at hl ⊢
  have hl : lv_has ls 3 [(0, .ref (q 1)), (1, .int k)] := hl
  have hlen := hT.1
  refine lv_iconst (v := nI 0) hx hb d_K_keysBelow_0 (by decide +kernel) ?_
  refine lv_istore_n (lv' := [(2, .int (nI 0)), (0, .ref (q 1)), (1, .int k)]) hx hb d_K_keysBelow_1 rfl hl (Nat.le_of_ble_eq_true rfl) rfl (fun ls hl => ?_)
  have lp2 : ∀ (N : Nat) (b : Nat) (ls : Array Slot), (b ≤ K.length) → (∀ (j : Nat) (e : xk_E), j < b → K[j]? = some e → e.1 < k) → lv_has ls 3 [(0, .ref (q 1)), (1, .int k), (2, .int (nI b))] → K.length - b < N → W pJ l eJ (headSpec zw_K_keysBelow ({ frames := 0, cells := 0, slots := 0, locals := 0 } : Room)).room s mJ ([.ref (q 1), .int k] : List Value).toArray below meth cJ s.heap [] 0 0 (MQ below (vp_Si (fun r : Int32 => r = nI (xk_lo K k))) ([.ref (q 1), .int k] : List Value).toArray s 0 0 (fun _ => False)) (F0 mJ 2 ls []) := by
    intro N
    induction N with
    | zero => intro b ls hbl hbk hl hm; exact absurd hm (Nat.not_lt_zero _)
    | succ N ih2 =>
      intro b ls hbl hbk hl hm
      refine lv_iload_n hx hb d_K_keysBelow_2 rfl (lv_at hl 2 rfl) ?_
      refine lv_aload_n hx hb d_K_keysBelow_3 rfl (lv_at hl 0 rfl) ?_
      refine va_get (D := D) (ci := 1) (v := .int (nI K.length)) (C := R_K) (T := F_K) (N := 4) hx hb hts (zi_K _) hown hK hP 1 rfl rfl 3 (by decide) (hts _ (List.mem_cons_of_mem _ zm_48)) (fun _ h9 => h9) rfl d_K_keysBelow_4 ?_
      refine lv_icmp_ge (tgt := 26) hx hb d_K_keysBelow_7 (by decide) (fun hc7 => ?_) (fun hc7 => ?_)
      · skip
        rw [nI_leI (by omega) (by omega)] at hc7
        refine lv_iload_n hx hb d_K_keysBelow_26 rfl (lv_at hl 2 rfl) ?_
        exact W.iret (v := nI b) hx hb hr (fun t ht hW => ⟨_, rfl, congrArg nI (xk_lo_eq hbl hbk (fun x hx => by first | exact xw_none (by omega) hx | exact xw_nlt he hc17 hx)), ht⟩) (fun _ h => by cases h) d_K_keysBelow_27
      · skip
        rw [nI_leI (by omega) (by omega)] at hc7
        obtain ⟨e, he⟩ : ∃ e, K[b]? = some e := ⟨_, List.getElem?_eq_getElem (by omega)⟩
        have hfe := (xk_tie_f hT.2.2.1 he).1
        refine lv_aload_n hx hb d_K_keysBelow_10 rfl (lv_at hl 0 rfl) ?_
        refine va_get (D := D) (ci := 1) (v := .ref (q 5)) (C := R_K) (T := F_K) (N := 4) hx hb hts (zi_K _) hown hK hP 1 rfl rfl 0 (by decide) (hts _ (List.mem_cons_of_mem _ zm_44)) (fun _ h9 => h9) rfl d_K_keysBelow_11 ?_
        refine lv_iload_n hx hb d_K_keysBelow_14 rfl (lv_at hl 2 rfl) ?_
        refine xa_iald hx hb hK hP 5 0 rfl rfl (k := b) (by omega) (by decide) d_K_keysBelow_15 ?_
        refine xa_top (y := e.1) hfe ?_
        refine lv_iload_n hx hb d_K_keysBelow_16 rfl (lv_at hl 1 rfl) ?_
        refine lv_icmp_ge (tgt := 26) hx hb d_K_keysBelow_17 (by decide) (fun hc17 => ?_) (fun hc17 => ?_)
        · skip
          refine lv_iload_n hx hb d_K_keysBelow_26 rfl (lv_at hl 2 rfl) ?_
          exact W.iret (v := nI b) hx hb hr (fun t ht hW => ⟨_, rfl, congrArg nI (xk_lo_eq hbl hbk (fun x hx => by first | exact xw_none (by omega) hx | exact xw_nlt he hc17 hx)), ht⟩) (fun _ h => by cases h) d_K_keysBelow_27
        · skip
          refine lv_iinc (k := 2) (v := nI (b + 1)) (lv' := [(2, .int (nI (b + 1))), (0, .ref (q 1)), (1, .int k)]) hx hb d_K_keysBelow_20 hl rfl (xn_inc _) (Nat.le_of_ble_eq_true rfl) rfl (fun ls hl => ?_)
          refine lv_goto (tgt := 2) hx hb d_K_keysBelow_23 (by decide) ?_
          exact ih2 (b + 1) ls (by omega) (fun j x hj hx => xw_lts hbk he (xk_nle hc17) j x hj hx) (lv_sub hl [1, 2, 0] rfl) (by omega)
  exact lp2 _ 0 ls (by omega) (fun j e hj => by omega) (lv_sub hl [1, 2, 0] rfl) (Nat.lt_succ_self _)
set_option maxHeartbeats 4000000 in
set_option maxRecDepth 100000 in
theorem c_K_isAt (l : Launch) (D : va_G) (q : Nat → Nat) (cA : Nat → ClassId) (lim : Int32) (kf : Nat → Int32) (kg : Nat → Int64) (af : Nat → Int32) (bf : Nat → Int32) (rk : Nat → Int32) (rv : Nat → Int64) (rm : Nat → Int32) (rs : Nat → Int32) (rn : Int32) (bp : Nat → Int32) (bk : Nat → Int32) (bv : Nat → Int64) (bo : Int32) (bn : Int32) (K : List xk_E) (k : Int32) (hT : xw_KT kf kg af bf K) : Met l y_K_isAt zw_K_isAt ({ frames := 0, cells := 0, slots := 0, locals := 0 } : Room) (va_Pc [.ref (q 1), .int (nI (xk_lo K k)), .int k] (xp_R D zz_cl (xw_tC cA) (xw_C q cA lim kf kg (nI K.length) af bf rk rv rm rs rn bp bk bv bo bn))) (vp_Si (fun r : Int32 => r = xb_i (xk_has K k))) 0 0 (fun _ => False) := by
  refine Met.ofW (cc := b_K_isAt) (maxL := 3) (ret := (some .boolean)) (by decide) rfl ?_
  intro pJ eJ s mJ args below meth cJ s₁ B hml hv
  obtain ⟨rfl, hP, hK, hZ⟩ := hv
  have hx := B.exec
  have hb := B.bytes
  have hr := B.returns
  have hts := atoms_spec (ws := zw_K_isAt) B.pre
  have hown : s.vm.findClass R_K = some mJ.cls := findClass_of_methodNamed B.named
  have hlocks := B.notSynchronized
  have hl := lv_entry ([.ref (q 1), .int (nI (xk_lo K k)), .int k]) (n := 3) (Nat.le_of_ble_eq_true rfl)
  rw [lg_entry_eq]
  generalize (lg_sl ([.ref (q 1), .int (nI (xk_lo K k)), .int k]) ++ List.replicate (3 - (lg_sl ([.ref (q 1), .int (nI (xk_lo K k)), .int k])).length) Slot.unset).toArray = ls at hl ⊢
  have hl : lv_has ls 3 [(0, .ref (q 1)), (1, .int (nI (xk_lo K k))), (2, .int k)] := hl
  have hlen := hT.1
  have hlo := xk_lo_le K k
  refine lv_iload_n hx hb d_K_isAt_0 rfl (lv_at hl 1 rfl) ?_
  refine lv_aload_n hx hb d_K_isAt_1 rfl (lv_at hl 0 rfl) ?_
  refine va_get (D := D) (ci := 1) (v := .int (nI K.length)) (C := R_K) (T := F_K) (N := 4) hx hb hts (zi_K _) hown hK hP 1 rfl rfl 3 (by decide) (hts _ (List.mem_cons_of_mem _ zm_48)) (fun _ h9 => h9) rfl d_K_isAt_2 ?_
  refine lv_icmp_ge (tgt := 22) hx hb d_K_isAt_5 (by decide) (fun hc5 => ?_) (fun hc5 => ?_)
  · skip
    rw [nI_leI (by omega) (by omega)] at hc5
    refine lv_iconst (v := nI 0) hx hb d_K_isAt_22 (by decide +kernel) ?_
    exact W.zret (ty := .boolean) (v := nI 0) hx hb hr (by decide +kernel) (fun t ht hW => ⟨_, rfl, by first | (rw [xw_hT he hc15]; exact xb_t.symm) | (rw [xw_hF he hc15]; exact xb_f.symm) | (rw [xw_hL hc5]; exact xb_f.symm), ht⟩) (fun _ h => by cases h) d_K_isAt_23
  · skip
    rw [nI_leI (by omega) (by omega)] at hc5
    obtain ⟨e, he⟩ : ∃ e, K[xk_lo K k]? = some e := ⟨_, List.getElem?_eq_getElem (by omega)⟩
    have hfe := (xk_tie_f hT.2.2.1 he).1
    refine lv_aload_n hx hb d_K_isAt_8 rfl (lv_at hl 0 rfl) ?_
    refine va_get (D := D) (ci := 1) (v := .ref (q 5)) (C := R_K) (T := F_K) (N := 4) hx hb hts (zi_K _) hown hK hP 1 rfl rfl 0 (by decide) (hts _ (List.mem_cons_of_mem _ zm_44)) (fun _ h9 => h9) rfl d_K_isAt_9 ?_
    refine lv_iload_n hx hb d_K_isAt_12 rfl (lv_at hl 1 rfl) ?_
    refine xa_iald hx hb hK hP 5 0 rfl rfl (k := xk_lo K k) (by omega) (by decide) d_K_isAt_13 ?_
    refine xa_top (y := e.1) hfe ?_
    refine lv_iload_n hx hb d_K_isAt_14 rfl (lv_at hl 2 rfl) ?_
    refine lv_icmp_ne (tgt := 22) hx hb d_K_isAt_15 (by decide) (fun hc15 => ?_) (fun hc15 => ?_)
    · skip
      refine lv_iconst (v := nI 0) hx hb d_K_isAt_22 (by decide +kernel) ?_
      exact W.zret (ty := .boolean) (v := nI 0) hx hb hr (by decide +kernel) (fun t ht hW => ⟨_, rfl, by first | (rw [xw_hT he hc15]; exact xb_t.symm) | (rw [xw_hF he hc15]; exact xb_f.symm) | (rw [xw_hL hc5]; exact xb_f.symm), ht⟩) (fun _ h => by cases h) d_K_isAt_23
    · skip
      refine lv_iconst (v := nI 1) hx hb d_K_isAt_18 (by decide +kernel) ?_
      refine lv_goto (tgt := 23) hx hb d_K_isAt_19 (by decide) ?_
      exact W.zret (ty := .boolean) (v := nI 1) hx hb hr (by decide +kernel) (fun t ht hW => ⟨_, rfl, by first | (rw [xw_hT he hc15]; exact xb_t.symm) | (rw [xw_hF he hc15]; exact xb_f.symm) | (rw [xw_hL hc5]; exact xb_f.symm), ht⟩) (fun _ h => by cases h) d_K_isAt_23
set_option maxHeartbeats 4000000 in
set_option maxRecDepth 100000 in
theorem c_K_holds (l : Launch) (D : va_G) (q : Nat → Nat) (cA : Nat → ClassId) (lim : Int32) (kf : Nat → Int32) (kg : Nat → Int64) (af : Nat → Int32) (bf : Nat → Int32) (rk : Nat → Int32) (rv : Nat → Int64) (rm : Nat → Int32) (rs : Nat → Int32) (rn : Int32) (bp : Nat → Int32) (bk : Nat → Int32) (bv : Nat → Int64) (bo : Int32) (bn : Int32) (K : List xk_E) (k : Int32) (hT : xw_KT kf kg af bf K) : Met l y_K_holds zw_K_holds ({ frames := 1, cells := 0, slots := 0, locals := 22 } : Room) (va_Pc [.ref (q 1), .int k] (xp_R D zz_cl (xw_tC cA) (xw_C q cA lim kf kg (nI K.length) af bf rk rv rm rs rn bp bk bv bo bn))) (vp_Si (fun r : Int32 => r = xb_i (xk_has K k))) 0 0 (fun _ => False) := by
  refine Met.ofW (cc := b_K_holds) (maxL := 2) (ret := (some .boolean)) (by decide) rfl ?_
  intro pJ eJ s mJ args below meth cJ s₁ B hml hv
  obtain ⟨rfl, hP, hK, hZ⟩ := hv
  have hx := B.exec
  have hb := B.bytes
  have hr := B.returns
  have hts := atoms_spec (ws := zw_K_holds) B.pre
  have hown : s.vm.findClass R_K = some mJ.cls := findClass_of_methodNamed B.named
  have hlocks := B.notSynchronized
  have hl := lv_entry ([.ref (q 1), .int k]) (n := 2) (Nat.le_of_ble_eq_true rfl)
  rw [lg_entry_eq]
  generalize (lg_sl ([.ref (q 1), .int k]) ++ List.replicate (2 - (lg_sl ([.ref (q 1), .int k])).length) Slot.unset).toArray = ls at hl ⊢
  have hl : lv_has ls 2 [(0, .ref (q 1)), (1, .int k)] := hl
  refine lv_aload_n hx hb d_K_holds_0 rfl (lv_at hl 0 rfl) ?_
  refine lv_aload_n hx hb d_K_holds_1 rfl (lv_at hl 0 rfl) ?_
  refine lv_iload_n hx hb d_K_holds_2 rfl (lv_at hl 1 rfl) ?_
  refine xa_cI (va_runV (As := [.int k]) (rest := [.ref (q 1)]) ⟨hx, hb, hml, hown, hts⟩ (c_K_below l D q cA lim kf kg af bf rk rv rm rs rn bp bk bv bo bn K k hT) (cwV 1 hts (zg_V zm_138 zm_140 zs_0 zm_3 zm_141) rfl rfl rfl (by decide +kernel) ⟨Nat.le_of_ble_eq_true rfl, Nat.le_of_ble_eq_true rfl⟩) (xp_preV (ci := 1) (q0 := 1) hK hP rfl rfl rfl hZ) rfl rfl hl.1 rfl (lv_room (Nat.le_of_ble_eq_true rfl)) d_K_holds_3 ⟨Nat.zero_le _, Nat.zero_le _⟩) ?_
  refine lv_iload_n hx hb d_K_holds_6 rfl (lv_at hl 1 rfl) ?_
  refine xa_cI (va_runV (As := [.int (nI (xk_lo K k)), .int k]) (rest := []) ⟨hx, hb, hml, hown, hts⟩ (c_K_isAt l D q cA lim kf kg af bf rk rv rm rs rn bp bk bv bo bn K k hT) (cwV 2 hts (zg_V zm_142 zm_144 zs_1 zm_3 zm_145) rfl rfl rfl (by decide +kernel) ⟨Nat.le_of_ble_eq_true rfl, Nat.le_of_ble_eq_true rfl⟩) (xp_preV (ci := 1) (q0 := 1) hK hP rfl rfl rfl hZ) rfl rfl hl.1 rfl (lv_room (Nat.le_of_ble_eq_true rfl)) d_K_holds_7 ⟨Nat.zero_le _, Nat.zero_le _⟩) ?_
  exact W.zret (ty := .boolean) (v := xb_i (xk_has K k)) hx hb hr (xb_nar _) (fun t ht hW => ⟨_, rfl, rfl, ht⟩) (fun _ h => by cases h) d_K_holds_10
set_option maxHeartbeats 4000000 in
set_option maxRecDepth 100000 in
theorem c_K_valueOf (l : Launch) (D : va_G) (q : Nat → Nat) (cA : Nat → ClassId) (lim : Int32) (kf : Nat → Int32) (kg : Nat → Int64) (af : Nat → Int32) (bf : Nat → Int32) (rk : Nat → Int32) (rv : Nat → Int64) (rm : Nat → Int32) (rs : Nat → Int32) (rn : Int32) (bp : Nat → Int32) (bk : Nat → Int32) (bv : Nat → Int64) (bo : Int32) (bn : Int32) (K : List xk_E) (k : Int32) (hT : xw_KT kf kg af bf K) : Met l y_K_valueOf zw_K_valueOf ({ frames := 1, cells := 0, slots := 0, locals := 22 } : Room) (va_Pc [.ref (q 1), .int k] (xp_R D zz_cl (xw_tC cA) (xw_C q cA lim kf kg (nI K.length) af bf rk rv rm rs rn bp bk bv bo bn))) (vp_Sl (fun r : Int64 => r = xk_get K k)) 0 0 (fun _ => False) := by
  refine Met.ofW (cc := b_K_valueOf) (maxL := 3) (ret := (some .long)) (by decide) rfl ?_
  intro pJ eJ s mJ args below meth cJ s₁ B hml hv
  obtain ⟨rfl, hP, hK, hZ⟩ := hv
  have hx := B.exec
  have hb := B.bytes
  have hr := B.returns
  have hts := atoms_spec (ws := zw_K_valueOf) B.pre
  have hown : s.vm.findClass R_K = some mJ.cls := findClass_of_methodNamed B.named
  have hlocks := B.notSynchronized
  have hl := lv_entry ([.ref (q 1), .int k]) (n := 3) (Nat.le_of_ble_eq_true rfl)
  rw [lg_entry_eq]
  generalize (lg_sl ([.ref (q 1), .int k]) ++ List.replicate (3 - (lg_sl ([.ref (q 1), .int k])).length) Slot.unset).toArray = ls at hl ⊢
  have hl : lv_has ls 3 [(0, .ref (q 1)), (1, .int k)] := hl
  have hlen := hT.1
  refine lv_aload_n hx hb d_K_valueOf_0 rfl (lv_at hl 0 rfl) ?_
  refine lv_iload_n hx hb d_K_valueOf_1 rfl (lv_at hl 1 rfl) ?_
  refine xa_cI (va_runV (As := [.int k]) (rest := []) ⟨hx, hb, hml, hown, hts⟩ (c_K_below l D q cA lim kf kg af bf rk rv rm rs rn bp bk bv bo bn K k hT) (cwV 1 hts (zg_V zm_138 zm_140 zs_0 zm_3 zm_141) rfl rfl rfl (by decide +kernel) ⟨Nat.le_of_ble_eq_true rfl, Nat.le_of_ble_eq_true rfl⟩) (xp_preV (ci := 1) (q0 := 1) hK hP rfl rfl rfl hZ) rfl rfl hl.1 rfl (lv_room (Nat.le_of_ble_eq_true rfl)) d_K_valueOf_2 ⟨Nat.zero_le _, Nat.zero_le _⟩) ?_
  refine lv_istore_n (lv' := [(2, .int (nI (xk_lo K k))), (0, .ref (q 1)), (1, .int k)]) hx hb d_K_valueOf_5 rfl hl (Nat.le_of_ble_eq_true rfl) rfl (fun ls hl => ?_)
  refine lv_aload_n hx hb d_K_valueOf_6 rfl (lv_at hl 1 rfl) ?_
  refine lv_iload_n hx hb d_K_valueOf_7 rfl (lv_at hl 0 rfl) ?_
  refine lv_iload_n hx hb d_K_valueOf_8 rfl (lv_at hl 2 rfl) ?_
  refine xa_cI (va_runV (As := [.int (nI (xk_lo K k)), .int k]) (rest := []) ⟨hx, hb, hml, hown, hts⟩ (c_K_isAt l D q cA lim kf kg af bf rk rv rm rs rn bp bk bv bo bn K k hT) (cwV 2 hts (zg_V zm_142 zm_144 zs_1 zm_3 zm_145) rfl rfl rfl (by decide +kernel) ⟨Nat.le_of_ble_eq_true rfl, Nat.le_of_ble_eq_true rfl⟩) (xp_preV (ci := 1) (q0 := 1) hK hP rfl rfl rfl hZ) rfl rfl hl.1 rfl (lv_room (Nat.le_of_ble_eq_true rfl)) d_K_valueOf_9 ⟨Nat.zero_le _, Nat.zero_le _⟩) ?_
  refine lv_if_eq (tgt := 24) hx hb d_K_valueOf_12 (by decide) (fun hc12 => ?_) (fun hc12 => ?_)
  · skip
    rw [xb_0] at hc12
    refine lv_lconst (v := 0) hx hb d_K_valueOf_24 (by decide +kernel) ?_
    exact W.lret (v := 0) hx hb hr (fun t ht hW => ⟨_, rfl, by first | rfl | exact (xk_get_0 hc12).symm, ht⟩) (fun _ h => by cases h) d_K_valueOf_25
  · skip
    rw [xb_1] at hc12
    have hhl := xk_has_lt hc12
    have hge := (xk_tie_f hT.2.2.1 (xk_has_at hc12)).2
    refine lv_aload_n hx hb d_K_valueOf_15 rfl (lv_at hl 1 rfl) ?_
    refine va_get (D := D) (ci := 1) (v := .ref (q 6)) (C := R_K) (T := F_K) (N := 4) hx hb hts (zi_K _) hown hK hP 1 rfl rfl 1 (by decide) (hts _ (List.mem_cons_of_mem _ zm_45)) (fun _ h9 => h9) rfl d_K_valueOf_16 ?_
    refine lv_iload_n hx hb d_K_valueOf_19 rfl (lv_at hl 0 rfl) ?_
    refine xa_lald hx hb hK hP 6 1 rfl rfl (k := xk_lo K k) (by omega) (by decide) d_K_valueOf_20 ?_
    refine xa_topl (y := xk_get K k) hge ?_
    refine lv_goto (tgt := 25) hx hb d_K_valueOf_21 (by decide) ?_
    exact W.lret (v := xk_get K k) hx hb hr (fun t ht hW => ⟨_, rfl, by first | rfl | exact (xk_get_0 hc12).symm, ht⟩) (fun _ h => by cases h) d_K_valueOf_25
set_option maxHeartbeats 4000000 in
set_option maxRecDepth 100000 in
theorem c_K_pages (l : Launch) (D : va_G) (q : Nat → Nat) (cA : Nat → ClassId) (lim : Int32) (kf : Nat → Int32) (kg : Nat → Int64) (af : Nat → Int32) (bf : Nat → Int32) (rk : Nat → Int32) (rv : Nat → Int64) (rm : Nat → Int32) (rs : Nat → Int32) (rn : Int32) (bp : Nat → Int32) (bk : Nat → Int32) (bv : Nat → Int64) (bo : Int32) (bn : Int32) (K : List xk_E) (hT : xw_KT kf kg af bf K) : Met l y_K_pagesInUse zw_K_pagesInUse ({ frames := 4, cells := 0, slots := 0, locals := 86 } : Room) (va_Pc [.ref (q 1)] (xp_R D zz_cl (xw_tC cA) (xw_C q cA lim kf kg (nI K.length) af bf rk rv rm rs rn bp bk bv bo bn))) (vp_Si (fun r : Int32 => r = nI (xd_pg K))) 0 0 (fun _ => False) := by
  refine Met.ofW (cc := b_K_pagesInUse) (maxL := 3) (ret := (some .int)) (by decide) rfl ?_
  intro pJ eJ s mJ args below meth cJ s₁ B hml hv
  obtain ⟨rfl, hP, hK, hZ⟩ := hv
  have hx := B.exec
  have hb := B.bytes
  have hr := B.returns
  have hts := atoms_spec (ws := zw_K_pagesInUse) B.pre
  have hown : s.vm.findClass R_K = some mJ.cls := findClass_of_methodNamed B.named
  have hlocks := B.notSynchronized
  have hl := lv_entry ([.ref (q 1)]) (n := 3) (Nat.le_of_ble_eq_true rfl)
  rw [lg_entry_eq]
  generalize (lg_sl ([.ref (q 1)]) ++ List.replicate (3 - (lg_sl ([.ref (q 1)])).length) Slot.unset).toArray = ls at hl ⊢
  have hl : lv_has ls 3 [(0, .ref (q 1))] := hl
  have hlen := hT.1
  refine lv_iconst (v := nI 1) hx hb d_K_pagesInUse_0 (by decide +kernel) ?_
  refine lv_iconst (v := nI 1) hx hb d_K_pagesInUse_1 (by decide +kernel) ?_
  refine lv_aload_n hx hb d_K_pagesInUse_2 rfl (lv_at hl 0 rfl) ?_
  refine va_get (D := D) (ci := 1) (v := .ref (q 2)) (C := R_K) (T := F_K) (N := 4) hx hb hts (zi_K _) hown hK hP 1 rfl rfl 2 (by decide) (hts _ (List.mem_cons_of_mem _ zm_46)) (fun _ h9 => h9) rfl d_K_pagesInUse_3 ?_
  refine xa_cI (va_runV (As := []) (rest := [.int (nI 1), .int (nI 1)]) ⟨hx, hb, hml, hown, hts⟩ (c_C_deep l D q cA lim kf kg af bf rk rv rm rs rn bp bk bv bo bn K hT) (cwV 0 hts (zg_V zm_191 zm_192 zm_193 zm_4 zm_194) rfl rfl rfl (by decide +kernel) ⟨Nat.le_of_ble_eq_true rfl, Nat.le_of_ble_eq_true rfl⟩) (xp_preV (ci := 2) (q0 := 2) hK hP rfl rfl rfl hZ) rfl rfl hl.1 rfl (lv_room (Nat.le_of_ble_eq_true rfl)) d_K_pagesInUse_6 ⟨Nat.zero_le _, Nat.zero_le _⟩) ?_
  refine lv_ishl hx hb d_K_pagesInUse_9 ?_
  refine xa_top (y := nI (2 ^ xd_gm K 64)) (xw_shl (xd_gm_le K 64)) ?_
  have hpw := xw_pow (xd_gm_le K 64)
  refine xa_cI (va_runSN (As := [.int (nI (2 ^ xd_gm K 64))]) (rest := [.int (nI 1)]) ⟨hx, hb, hml, hown, hts⟩ (c_E_dirp l (2 ^ xd_gm K 64) (by omega)) ⟨(va_cnB 1 hts (zg_C zm_206) rfl rfl rfl (hZ _ zn_204) (hts _ (List.mem_cons_of_mem _ zm_1)) (by decide +kernel) ⟨Nat.le_of_ble_eq_true rfl, Nat.le_of_ble_eq_true rfl⟩), (hts _ (List.mem_cons_of_mem _ zm_205)), trivial⟩ xp_preS rfl rfl hl.1 rfl (lv_room (Nat.le_of_ble_eq_true rfl)) d_K_pagesInUse_10 ⟨Nat.zero_le _, Nat.zero_le _⟩) ?_
  refine lv_iadd hx hb d_K_pagesInUse_13 ?_
  refine xa_top (y := nI (1 + (2 ^ xd_gm K 64 + 15) / 16)) (nI_add _ _) ?_
  refine lv_istore_n (lv' := [(1, .int (nI (1 + (2 ^ xd_gm K 64 + 15) / 16))), (0, .ref (q 1))]) hx hb d_K_pagesInUse_14 rfl hl (Nat.le_of_ble_eq_true rfl) rfl (fun ls hl => ?_)
  refine lv_iconst (v := nI 0) hx hb d_K_pagesInUse_15 (by decide +kernel) ?_
  refine lv_istore_n (lv' := [(2, .int (nI 0)), (1, .int (nI (1 + (2 ^ xd_gm K 64 + 15) / 16))), (0, .ref (q 1))]) hx hb d_K_pagesInUse_16 rfl hl (Nat.le_of_ble_eq_true rfl) rfl (fun ls hl => ?_)
  have lp17 : ∀ (N : Nat) (p : Nat) (n : Nat) (ls : Array Slot), (p ≤ 64) → (n = 1 + (2 ^ xd_gm K 64 + 15) / 16 + xd_sp K p) → lv_has ls 3 [(0, .ref (q 1)), (1, .int (nI n)), (2, .int (nI p))] → 64 - p < N → W pJ l eJ (headSpec zw_K_pagesInUse ({ frames := 4, cells := 0, slots := 0, locals := 86 } : Room)).room s mJ ([.ref (q 1)] : List Value).toArray below meth cJ s.heap [] 0 0 (MQ below (vp_Si (fun r : Int32 => r = nI (xd_pg K))) ([.ref (q 1)] : List Value).toArray s 0 0 (fun _ => False)) (F0 mJ 17 ls []) := by
    intro N
    induction N with
    | zero => intro p n ls hp hn hl hm; exact absurd hm (Nat.not_lt_zero _)
    | succ N ih17 =>
      intro p n ls hp hn hl hm
      refine lv_iload_n hx hb d_K_pagesInUse_17 rfl (lv_at hl 2 rfl) ?_
      refine lv_bipush (v := nI 64) hx hb d_K_pagesInUse_18 (by decide +kernel) ?_
      refine lv_icmp_ge (tgt := 54) hx hb d_K_pagesInUse_20 (by decide) (fun hc20 => ?_) (fun hc20 => ?_)
      · skip
        rw [nI_leI (by omega) (by omega)] at hc20
        refine lv_iconst (v := nI 0) hx hb d_K_pagesInUse_54 (by decide +kernel) ?_
        refine lv_istore_n (lv' := [(2, .int (nI 0)), (0, .ref (q 1)), (1, .int (nI n))]) hx hb d_K_pagesInUse_55 rfl hl (Nat.le_of_ble_eq_true rfl) rfl (fun ls hl => ?_)
        have lp56 : ∀ (N : Nat) (i : Nat) (n : Nat) (ls : Array Slot), (i ≤ K.length) → (n = 1 + (2 ^ xd_gm K 64 + 15) / 16 + xd_sp K 64 + xd_vs (K.take i)) → lv_has ls 3 [(0, .ref (q 1)), (1, .int (nI n)), (2, .int (nI i))] → K.length - i < N → W pJ l eJ (headSpec zw_K_pagesInUse ({ frames := 4, cells := 0, slots := 0, locals := 86 } : Room)).room s mJ ([.ref (q 1)] : List Value).toArray below meth cJ s.heap [] 0 0 (MQ below (vp_Si (fun r : Int32 => r = nI (xd_pg K))) ([.ref (q 1)] : List Value).toArray s 0 0 (fun _ => False)) (F0 mJ 56 ls []) := by
          intro N
          induction N with
          | zero => intro i n ls hi hn hl hm; exact absurd hm (Nat.not_lt_zero _)
          | succ N ih56 =>
            intro i n ls hi hn hl hm
            refine lv_iload_n hx hb d_K_pagesInUse_56 rfl (lv_at hl 2 rfl) ?_
            refine lv_aload_n hx hb d_K_pagesInUse_57 rfl (lv_at hl 0 rfl) ?_
            refine va_get (D := D) (ci := 1) (v := .int (nI K.length)) (C := R_K) (T := F_K) (N := 4) hx hb hts (zi_K _) hown hK hP 1 rfl rfl 3 (by decide) (hts _ (List.mem_cons_of_mem _ zm_48)) (fun _ h9 => h9) rfl d_K_pagesInUse_58 ?_
            refine lv_icmp_ge (tgt := 82) hx hb d_K_pagesInUse_61 (by decide) (fun hc61 => ?_) (fun hc61 => ?_)
            · skip
              rw [nI_leI (by omega) (by omega)] at hc61
              refine lv_iload_n hx hb d_K_pagesInUse_82 rfl (lv_at hl 1 rfl) ?_
              exact W.iret (v := nI n) hx hb hr (fun t ht hW => ⟨_, rfl, by rw [hn, show i = K.length from by omega, List.take_length]; rfl, ht⟩) (fun _ h => by cases h) d_K_pagesInUse_83
            · skip
              rw [nI_leI (by omega) (by omega)] at hc61
              obtain ⟨e, he⟩ : ∃ e, K[i]? = some e := ⟨_, List.getElem?_eq_getElem (by omega)⟩
              have hge := (xk_tie_f hT.2.2.1 he).2
              refine lv_iload_n hx hb d_K_pagesInUse_64 rfl (lv_at hl 1 rfl) ?_
              refine lv_aload_n hx hb d_K_pagesInUse_65 rfl (lv_at hl 0 rfl) ?_
              refine va_get (D := D) (ci := 1) (v := .ref (q 6)) (C := R_K) (T := F_K) (N := 4) hx hb hts (zi_K _) hown hK hP 1 rfl rfl 1 (by decide) (hts _ (List.mem_cons_of_mem _ zm_45)) (fun _ h9 => h9) rfl d_K_pagesInUse_66 ?_
              refine lv_iload_n hx hb d_K_pagesInUse_69 rfl (lv_at hl 2 rfl) ?_
              refine xa_lald hx hb hK hP 6 1 rfl rfl (k := i) (by omega) (by decide) d_K_pagesInUse_70 ?_
              refine xa_topl (y := e.2) hge ?_
              refine xa_cI (va_runSN (As := [.long e.2]) (rest := [.int (nI n)]) ⟨hx, hb, hml, hown, hts⟩ (c_E_valp l e.2) ⟨(va_cnB 1 hts (zg_C zm_224) rfl rfl rfl (hZ _ zn_222) (hts _ (List.mem_cons_of_mem _ zm_1)) (by decide +kernel) ⟨Nat.le_of_ble_eq_true rfl, Nat.le_of_ble_eq_true rfl⟩), (hts _ (List.mem_cons_of_mem _ zm_223)), trivial⟩ xp_preS rfl rfl hl.1 rfl (lv_room (Nat.le_of_ble_eq_true rfl)) d_K_pagesInUse_71 ⟨Nat.zero_le _, Nat.zero_le _⟩) ?_
              refine lv_iadd hx hb d_K_pagesInUse_74 ?_
              refine xa_top (y := nI (n + xv_vp e.2)) (nI_add _ _) ?_
              refine lv_istore_n (lv' := [(1, .int (nI (n + xv_vp e.2))), (0, .ref (q 1)), (2, .int (nI i))]) hx hb d_K_pagesInUse_75 rfl hl (Nat.le_of_ble_eq_true rfl) rfl (fun ls hl => ?_)
              refine lv_iinc (k := 2) (v := nI (i + 1)) (lv' := [(2, .int (nI (i + 1))), (1, .int (nI (n + xv_vp e.2))), (0, .ref (q 1))]) hx hb d_K_pagesInUse_76 hl rfl (xn_inc _) (Nat.le_of_ble_eq_true rfl) rfl (fun ls hl => ?_)
              refine lv_goto (tgt := 56) hx hb d_K_pagesInUse_79 (by decide) ?_
              exact ih56 (i + 1) (n + xv_vp e.2) ls (by omega) (by rw [xd_vs_take he, hn]; omega) (lv_sub hl [2, 1, 0] rfl) (by omega)
        exact lp56 _ 0 n ls (by omega) (by rw [hn, show p = 64 from by omega]; rfl) (lv_sub hl [1, 2, 0] rfl) (Nat.lt_succ_self _)
      · skip
        rw [nI_leI (by omega) (by omega)] at hc20
        refine lv_aload_n hx hb d_K_pagesInUse_23 rfl (lv_at hl 0 rfl) ?_
        refine va_get (D := D) (ci := 1) (v := .ref (q 2)) (C := R_K) (T := F_K) (N := 4) hx hb hts (zi_K _) hown hK hP 1 rfl rfl 2 (by decide) (hts _ (List.mem_cons_of_mem _ zm_46)) (fun _ h9 => h9) rfl d_K_pagesInUse_24 ?_
        refine lv_iload_n hx hb d_K_pagesInUse_27 rfl (lv_at hl 2 rfl) ?_
        refine xa_cI (va_runV (As := [.int (nI p)]) (rest := []) ⟨hx, hb, hml, hown, hts⟩ (c_C_isP l D q cA lim kf kg af bf rk rv rm rs rn bp bk bv bo bn K p hT (by omega)) (cwV 1 hts (zg_V zm_207 zm_208 zm_209 zm_4 zm_210) rfl rfl rfl (by decide +kernel) ⟨Nat.le_of_ble_eq_true rfl, Nat.le_of_ble_eq_true rfl⟩) (xp_preV (ci := 2) (q0 := 2) hK hP rfl rfl rfl hZ) rfl rfl hl.1 rfl (lv_room (Nat.le_of_ble_eq_true rfl)) d_K_pagesInUse_28 ⟨Nat.zero_le _, Nat.zero_le _⟩) ?_
        refine lv_if_eq (tgt := 48) hx hb d_K_pagesInUse_31 (by decide) (fun hc31 => ?_) (fun hc31 => ?_)
        · skip
          rw [xb_0] at hc31
          refine lv_iinc (k := 2) (v := nI (p + 1)) (lv' := [(2, .int (nI (p + 1))), (0, .ref (q 1)), (1, .int (nI n))]) hx hb d_K_pagesInUse_48 hl rfl (xn_inc _) (Nat.le_of_ble_eq_true rfl) rfl (fun ls hl => ?_)
          refine lv_goto (tgt := 17) hx hb d_K_pagesInUse_51 (by decide) ?_
          exact ih17 (p + 1) n ls (by omega) (by first | (rw [hn, xd_sp, if_pos hc31, xd_pl_iff.mp hc31]; omega) | rw [hn, xd_sp, if_neg (by simp [hc31])]) (lv_sub hl [1, 2, 0] rfl) (by omega)
        · skip
          rw [xb_1] at hc31
          refine lv_iload_n hx hb d_K_pagesInUse_34 rfl (lv_at hl 1 rfl) ?_
          refine lv_aload_n hx hb d_K_pagesInUse_35 rfl (lv_at hl 0 rfl) ?_
          refine va_get (D := D) (ci := 1) (v := .ref (q 2)) (C := R_K) (T := F_K) (N := 4) hx hb hts (zi_K _) hown hK hP 1 rfl rfl 2 (by decide) (hts _ (List.mem_cons_of_mem _ zm_46)) (fun _ h9 => h9) rfl d_K_pagesInUse_36 ?_
          refine lv_iload_n hx hb d_K_pagesInUse_39 rfl (lv_at hl 2 rfl) ?_
          refine xa_cI (va_runV (As := [.int (nI p)]) (rest := [.int (nI n)]) ⟨hx, hb, hml, hown, hts⟩ (c_C_kob l D q cA lim kf kg af bf rk rv rm rs rn bp bk bv bo bn K p hT (by omega)) (cwV 1 hts (zg_V zm_215 zm_216 zm_217 zm_4 zm_218) rfl rfl rfl (by decide +kernel) ⟨Nat.le_of_ble_eq_true rfl, Nat.le_of_ble_eq_true rfl⟩) (xp_preV (ci := 2) (q0 := 2) hK hP rfl rfl rfl hZ) rfl rfl hl.1 rfl (lv_room (Nat.le_of_ble_eq_true rfl)) d_K_pagesInUse_40 ⟨Nat.zero_le _, Nat.zero_le _⟩) ?_
          have hcn := xd_cn_le K (xd_dp K p) (p % 2 ^ xd_dp K p)
          refine xa_cI (va_runSN (As := [.int (nI (xd_cn K (xd_dp K p) (p % 2 ^ xd_dp K p)))]) (rest := [.int (nI n)]) ⟨hx, hb, hml, hown, hts⟩ (c_E_bktp l (xd_cn K (xd_dp K p) (p % 2 ^ xd_dp K p)) (by omega)) ⟨(va_cnB 1 hts (zg_C zm_221) rfl rfl rfl (hZ _ zn_219) (hts _ (List.mem_cons_of_mem _ zm_1)) (by decide +kernel) ⟨Nat.le_of_ble_eq_true rfl, Nat.le_of_ble_eq_true rfl⟩), (hts _ (List.mem_cons_of_mem _ zm_220)), trivial⟩ xp_preS rfl rfl hl.1 rfl (lv_room (Nat.le_of_ble_eq_true rfl)) d_K_pagesInUse_43 ⟨Nat.zero_le _, Nat.zero_le _⟩) ?_
          refine lv_iadd hx hb d_K_pagesInUse_46 ?_
          refine xa_top (y := nI (n + xd_bp (xd_cn K (xd_dp K p) (p % 2 ^ xd_dp K p)))) (nI_add _ _) ?_
          refine lv_istore_n (lv' := [(1, .int (nI (n + xd_bp (xd_cn K (xd_dp K p) (p % 2 ^ xd_dp K p))))), (0, .ref (q 1)), (2, .int (nI p))]) hx hb d_K_pagesInUse_47 rfl hl (Nat.le_of_ble_eq_true rfl) rfl (fun ls hl => ?_)
          refine lv_iinc (k := 2) (v := nI (p + 1)) (lv' := [(2, .int (nI (p + 1))), (1, .int (nI (n + xd_bp (xd_cn K (xd_dp K p) (p % 2 ^ xd_dp K p))))), (0, .ref (q 1))]) hx hb d_K_pagesInUse_48 hl rfl (xn_inc _) (Nat.le_of_ble_eq_true rfl) rfl (fun ls hl => ?_)
          refine lv_goto (tgt := 17) hx hb d_K_pagesInUse_51 (by decide) ?_
          exact ih17 (p + 1) (n + xd_bp (xd_cn K (xd_dp K p) (p % 2 ^ xd_dp K p))) ls (by omega) (by first | (rw [hn, xd_sp, if_pos hc31, xd_pl_iff.mp hc31]; omega) | rw [hn, xd_sp, if_neg (by simp [hc31])]) (lv_sub hl [2, 1, 0] rfl) (by omega)
  exact lp17 _ 0 (1 + (2 ^ xd_gm K 64 + 15) / 16) ls (by omega) rfl (lv_sub hl [2, 1, 0] rfl) (Nat.lt_succ_self _)
end
section
/-! Walks: specs_b (printed by run.py) -/
set_option maxHeartbeats 4000000 in
set_option maxRecDepth 100000 in
theorem c_K_bpu (l : Launch) (D : va_G) (q : Nat → Nat) (cA : Nat → ClassId) (lim : Int32) (kf : Nat → Int32) (kg : Nat → Int64) (af : Nat → Int32) (bf : Nat → Int32) (rk : Nat → Int32) (rv : Nat → Int64) (rm : Nat → Int32) (rs : Nat → Int32) (rn : Int32) (bp : Nat → Int32) (bk : Nat → Int32) (bv : Nat → Int64) (bo : Int32) (bn : Int32) (K : List xk_E) (k : Int32) (hT : xw_KT kf kg af bf K) : Met l y_K_bucketPagesUpTo zw_K_bucketPagesUpTo ({ frames := 3, cells := 0, slots := 0, locals := 65 } : Room) (va_Pc [.ref (q 1), .int k] (xp_R D zz_cl (xw_tC cA) (xw_C q cA lim kf kg (nI K.length) af bf rk rv rm rs rn bp bk bv bo bn))) (vp_Si (fun r : Int32 => r = nI (xo_rd K k))) 0 0 (fun _ => False) := by
  refine Met.ofW (cc := b_K_bucketPagesUpTo) (maxL := 6) (ret := (some .int)) (by decide) rfl ?_
  intro pJ eJ s mJ args below meth cJ s₁ B hml hv
  obtain ⟨rfl, hP, hK, hZ⟩ := hv
  have hx := B.exec
  have hb := B.bytes
  have hr := B.returns
  have hts := atoms_spec (ws := zw_K_bucketPagesUpTo) B.pre
  have hown : s.vm.findClass R_K = some mJ.cls := findClass_of_methodNamed B.named
  have hlocks := B.notSynchronized
  have hl := lv_entry ([.ref (q 1), .int k]) (n := 6) (Nat.le_of_ble_eq_true rfl)
  rw [lg_entry_eq]
  generalize (lg_sl ([.ref (q 1), .int k]) ++ List.replicate (6 - (lg_sl ([.ref (q 1), .int k])).length) Slot.unset).toArray = ls at hl ⊢
  have hl : lv_has ls 6 [(0, .ref (q 1)), (1, .int k)] := hl
  have hlen := hT.1
  have hlo0 := xk_lo_le K k
  have hh := xk_h_lt k
  have hm0 := Nat.mod_le (xk_h k) (2 ^ xd_dp K (xk_h k))
  refine lv_aload_n hx hb d_K_bucketPagesUpTo_0 rfl (lv_at hl 0 rfl) ?_
  refine va_get (D := D) (ci := 1) (v := .ref (q 2)) (C := R_K) (T := F_K) (N := 4) hx hb hts (zi_K _) hown hK hP 1 rfl rfl 2 (by decide) (hts _ (List.mem_cons_of_mem _ zm_46)) (fun _ h9 => h9) rfl d_K_bucketPagesUpTo_1 ?_
  refine lv_iload_n hx hb d_K_bucketPagesUpTo_4 rfl (lv_at hl 1 rfl) ?_
  refine xa_cI (va_runSN (As := [.int k]) (rest := [.ref (q 2)]) ⟨hx, hb, hml, hown, hts⟩ (c_E_hash l k) ⟨(va_cnB 1 hts (zg_C zm_175) rfl rfl rfl (hZ _ zn_173) (hts _ (List.mem_cons_of_mem _ zm_1)) (by decide +kernel) ⟨Nat.le_of_ble_eq_true rfl, Nat.le_of_ble_eq_true rfl⟩), (hts _ (List.mem_cons_of_mem _ zm_174)), trivial⟩ xp_preS rfl rfl hl.1 rfl (lv_room (Nat.le_of_ble_eq_true rfl)) d_K_bucketPagesUpTo_5 ⟨Nat.zero_le _, Nat.zero_le _⟩) ?_
  refine xa_cI (va_runV (As := [.int (nI (xk_h k))]) (rest := []) ⟨hx, hb, hml, hown, hts⟩ (c_C_mask l D q cA lim kf kg af bf rk rv rm rs rn bp bk bv bo bn K (xk_h k) hT (by omega)) (cwV 1 hts (zg_V zm_270 zm_212 zm_213 zm_4 zm_214) rfl rfl rfl (by decide +kernel) ⟨Nat.le_of_ble_eq_true rfl, Nat.le_of_ble_eq_true rfl⟩) (xp_preV (ci := 2) (q0 := 2) hK hP rfl rfl rfl hZ) rfl rfl hl.1 rfl (lv_room (Nat.le_of_ble_eq_true rfl)) d_K_bucketPagesUpTo_8 ⟨Nat.zero_le _, Nat.zero_le _⟩) ?_
  refine lv_istore_n (lv' := [(2, .int (nI (2 ^ xd_dp K (xk_h k) - 1))), (0, .ref (q 1)), (1, .int k)]) hx hb d_K_bucketPagesUpTo_11 rfl hl (Nat.le_of_ble_eq_true rfl) rfl (fun ls hl => ?_)
  refine lv_iload_n hx hb d_K_bucketPagesUpTo_12 rfl (lv_at hl 2 rfl) ?_
  refine xa_cI (va_runSN (As := [.int k]) (rest := []) ⟨hx, hb, hml, hown, hts⟩ (c_E_hash l k) ⟨(va_cnB 1 hts (zg_C zm_175) rfl rfl rfl (hZ _ zn_173) (hts _ (List.mem_cons_of_mem _ zm_1)) (by decide +kernel) ⟨Nat.le_of_ble_eq_true rfl, Nat.le_of_ble_eq_true rfl⟩), (hts _ (List.mem_cons_of_mem _ zm_174)), trivial⟩ xp_preS rfl rfl hl.1 rfl (lv_room (Nat.le_of_ble_eq_true rfl)) d_K_bucketPagesUpTo_13 ⟨Nat.zero_le _, Nat.zero_le _⟩) ?_
  refine lv_iload_n hx hb d_K_bucketPagesUpTo_16 rfl (lv_at hl 0 rfl) ?_
  refine lv_iand hx hb d_K_bucketPagesUpTo_17 ?_
  refine xa_top (y := nI (xk_h k % 2 ^ xd_dp K (xk_h k))) (xw_and (by omega) (xd_dp_le K _)) ?_
  refine lv_istore_n (lv' := [(3, .int (nI (xk_h k % 2 ^ xd_dp K (xk_h k)))), (2, .int (nI (2 ^ xd_dp K (xk_h k) - 1))), (0, .ref (q 1)), (1, .int k)]) hx hb d_K_bucketPagesUpTo_18 rfl hl (Nat.le_of_ble_eq_true rfl) rfl (fun ls hl => ?_)
  refine lv_iconst (v := nI 0) hx hb d_K_bucketPagesUpTo_19 (by decide +kernel) ?_
  refine lv_istore (lv' := [(4, .int (nI 0)), (3, .int (nI (xk_h k % 2 ^ xd_dp K (xk_h k)))), (2, .int (nI (2 ^ xd_dp K (xk_h k) - 1))), (0, .ref (q 1)), (1, .int k)]) hx hb d_K_bucketPagesUpTo_20 hl (Nat.le_of_ble_eq_true rfl) rfl (fun ls hl => ?_)
  refine lv_iconst (v := nI 0) hx hb d_K_bucketPagesUpTo_22 (by decide +kernel) ?_
  refine lv_istore (lv' := [(5, .int (nI 0)), (4, .int (nI 0)), (3, .int (nI (xk_h k % 2 ^ xd_dp K (xk_h k)))), (2, .int (nI (2 ^ xd_dp K (xk_h k) - 1))), (0, .ref (q 1)), (1, .int k)]) hx hb d_K_bucketPagesUpTo_23 hl (Nat.le_of_ble_eq_true rfl) rfl (fun ls hl => ?_)
  have lp25 : ∀ (N : Nat) (i : Nat) (n : Nat) (ls : Array Slot), (i ≤ xk_lo K k) → (n = xd_cn (K.take i) (xd_dp K (xk_h k)) (xk_h k % 2 ^ xd_dp K (xk_h k))) → lv_has ls 6 [(0, .ref (q 1)), (1, .int k), (2, .int (nI (2 ^ xd_dp K (xk_h k) - 1))), (3, .int (nI (xk_h k % 2 ^ xd_dp K (xk_h k)))), (4, .int (nI n)), (5, .int (nI i))] → K.length - i < N → W pJ l eJ (headSpec zw_K_bucketPagesUpTo ({ frames := 3, cells := 0, slots := 0, locals := 65 } : Room)).room s mJ ([.ref (q 1), .int k] : List Value).toArray below meth cJ s.heap [] 0 0 (MQ below (vp_Si (fun r : Int32 => r = nI (xo_rd K k))) ([.ref (q 1), .int k] : List Value).toArray s 0 0 (fun _ => False)) (F0 mJ 25 ls []) := by
    intro N
    induction N with
    | zero => intro i n ls hil hn hl hm; exact absurd hm (Nat.not_lt_zero _)
    | succ N ih25 =>
      intro i n ls hil hn hl hm
      refine lv_iload hx hb d_K_bucketPagesUpTo_25 (lv_at hl 5 rfl) ?_
      refine lv_aload_n hx hb d_K_bucketPagesUpTo_27 rfl (lv_at hl 0 rfl) ?_
      refine va_get (D := D) (ci := 1) (v := .int (nI K.length)) (C := R_K) (T := F_K) (N := 4) hx hb hts (zi_K _) hown hK hP 1 rfl rfl 3 (by decide) (hts _ (List.mem_cons_of_mem _ zm_48)) (fun _ h9 => h9) rfl d_K_bucketPagesUpTo_28 ?_
      refine lv_icmp_ge (tgt := 70) hx hb d_K_bucketPagesUpTo_31 (by decide) (fun hc31 => ?_) (fun hc31 => ?_)
      · skip
        rw [nI_leI (by omega) (by omega)] at hc31
        have hlo : i = xk_lo K k := by first | exact xw_lo1 hil hc31 | exact xw_lo2 hT.2.1 hil he hc42
        have hcn := xd_cn_le K (xd_dp K (xk_h k)) (xk_h k % 2 ^ xd_dp K (xk_h k))
        have hn9 := xd_cn_sub K (xd_dp K (xk_h k)) (xk_h k % 2 ^ xd_dp K (xk_h k)) i
        refine lv_iconst (v := nI 0) hx hb d_K_bucketPagesUpTo_70 (by decide +kernel) ?_
        refine lv_aload_n hx hb d_K_bucketPagesUpTo_71 rfl (lv_at hl 0 rfl) ?_
        refine va_get (D := D) (ci := 1) (v := .ref (q 2)) (C := R_K) (T := F_K) (N := 4) hx hb hts (zi_K _) hown hK hP 1 rfl rfl 2 (by decide) (hts _ (List.mem_cons_of_mem _ zm_46)) (fun _ h9 => h9) rfl d_K_bucketPagesUpTo_72 ?_
        refine lv_iload_n hx hb d_K_bucketPagesUpTo_75 rfl (lv_at hl 3 rfl) ?_
        refine xa_cI (va_runV (As := [.int (nI (xk_h k % 2 ^ xd_dp K (xk_h k)))]) (rest := [.int (nI 0)]) ⟨hx, hb, hml, hown, hts⟩ (c_C_kob l D q cA lim kf kg af bf rk rv rm rs rn bp bk bv bo bn K (xk_h k % 2 ^ xd_dp K (xk_h k)) hT (by omega)) (cwV 1 hts (zg_V zm_215 zm_216 zm_217 zm_4 zm_218) rfl rfl rfl (by decide +kernel) ⟨Nat.le_of_ble_eq_true rfl, Nat.le_of_ble_eq_true rfl⟩) (xp_preV (ci := 2) (q0 := 2) hK hP rfl rfl rfl hZ) rfl rfl hl.1 rfl (lv_room (Nat.le_of_ble_eq_true rfl)) d_K_bucketPagesUpTo_76 ⟨Nat.zero_le _, Nat.zero_le _⟩) ?_
        refine xa_top (y := nI (xd_cn K (xd_dp K (xk_h k)) (xk_h k % 2 ^ xd_dp K (xk_h k)))) (by rw [xd_dp_place, Nat.mod_mod]) ?_
        refine lv_iconst (v := nI 1) hx hb d_K_bucketPagesUpTo_79 (by decide +kernel) ?_
        refine lv_isub hx hb d_K_bucketPagesUpTo_80 ?_
        refine xa_top (y := nI (xd_cn K (xd_dp K (xk_h k)) (xk_h k % 2 ^ xd_dp K (xk_h k))) - nI 1) rfl ?_
        refine va_mmax hx hb (hml.trans hl.1.symm) hown (hts _ (List.mem_cons_of_mem _ zm_271)) (hts _ (List.mem_cons_of_mem _ zm_21)) (hts _ (List.mem_cons_of_mem _ zm_2)) (hts _ (List.mem_cons_of_mem _ zm_22)) (Nat.le_of_ble_eq_true rfl) (Nat.le_of_ble_eq_true rfl) (Nat.zero_le _) (Nat.zero_le _) d_K_bucketPagesUpTo_81 ?_
        refine xa_top (y := nI (xd_cn K (xd_dp K (xk_h k)) (xk_h k % 2 ^ xd_dp K (xk_h k)) - 1)) (xw_max0 (by omega)) ?_
        refine lv_istore (lv' := [(5, .int (nI (xd_cn K (xd_dp K (xk_h k)) (xk_h k % 2 ^ xd_dp K (xk_h k)) - 1))), (0, .ref (q 1)), (1, .int k), (2, .int (nI (2 ^ xd_dp K (xk_h k) - 1))), (3, .int (nI (xk_h k % 2 ^ xd_dp K (xk_h k)))), (4, .int (nI n))]) hx hb d_K_bucketPagesUpTo_84 hl (Nat.le_of_ble_eq_true rfl) rfl (fun ls hl => ?_)
        refine lv_iload hx hb d_K_bucketPagesUpTo_86 (lv_at hl 5 rfl) ?_
        refine lv_iload hx hb d_K_bucketPagesUpTo_88 (lv_at hl 0 rfl) ?_
        refine va_mmin hx hb (hml.trans hl.1.symm) hown (hts _ (List.mem_cons_of_mem _ zm_272)) (hts _ (List.mem_cons_of_mem _ zm_18)) (hts _ (List.mem_cons_of_mem _ zm_2)) (hts _ (List.mem_cons_of_mem _ zm_19)) (Nat.le_of_ble_eq_true rfl) (Nat.le_of_ble_eq_true rfl) (Nat.zero_le _) (Nat.zero_le _) d_K_bucketPagesUpTo_90 ?_
        refine xa_top (y := nI (min n (xd_cn K (xd_dp K (xk_h k)) (xk_h k % 2 ^ xd_dp K (xk_h k)) - 1))) (xn_min (by omega) (by omega)) ?_
        refine lv_iconst (v := nI 4) hx hb d_K_bucketPagesUpTo_93 (by decide +kernel) ?_
        refine lv_idiv hx hb d_K_bucketPagesUpTo_94 (by decide +kernel) ?_
        refine xa_top (y := nI ((min n (xd_cn K (xd_dp K (xk_h k)) (xk_h k % 2 ^ xd_dp K (xk_h k)) - 1)) / 4)) (pk_div (by omega) (by omega) (by omega)) ?_
        refine lv_iconst (v := nI 1) hx hb d_K_bucketPagesUpTo_95 (by decide +kernel) ?_
        refine lv_iadd hx hb d_K_bucketPagesUpTo_96 ?_
        refine xa_top (y := nI ((min n (xd_cn K (xd_dp K (xk_h k)) (xk_h k % 2 ^ xd_dp K (xk_h k)) - 1)) / 4 + 1)) (nI_add _ _) ?_
        exact W.iret (v := nI ((min n (xd_cn K (xd_dp K (xk_h k)) (xk_h k % 2 ^ xd_dp K (xk_h k)) - 1)) / 4 + 1)) hx hb hr (fun tJ htJ hWJ => ⟨_, rfl, by rw [hn, hlo]; rfl, htJ⟩) (fun _ h => by cases h) d_K_bucketPagesUpTo_97
      · skip
        rw [nI_leI (by omega) (by omega)] at hc31
        obtain ⟨e, he⟩ : ∃ e, K[i]? = some e := ⟨_, List.getElem?_eq_getElem (by omega)⟩
        have hfe := (xk_tie_f hT.2.2.1 he).1
        refine lv_aload_n hx hb d_K_bucketPagesUpTo_34 rfl (lv_at hl 0 rfl) ?_
        refine va_get (D := D) (ci := 1) (v := .ref (q 5)) (C := R_K) (T := F_K) (N := 4) hx hb hts (zi_K _) hown hK hP 1 rfl rfl 0 (by decide) (hts _ (List.mem_cons_of_mem _ zm_44)) (fun _ h9 => h9) rfl d_K_bucketPagesUpTo_35 ?_
        refine lv_iload hx hb d_K_bucketPagesUpTo_38 (lv_at hl 5 rfl) ?_
        refine xa_iald hx hb hK hP 5 0 rfl rfl (k := i) (by omega) (by decide) d_K_bucketPagesUpTo_40 ?_
        refine xa_top (y := e.1) hfe ?_
        refine lv_iload_n hx hb d_K_bucketPagesUpTo_41 rfl (lv_at hl 1 rfl) ?_
        refine lv_icmp_ge (tgt := 70) hx hb d_K_bucketPagesUpTo_42 (by decide) (fun hc42 => ?_) (fun hc42 => ?_)
        · skip
          have hlo : i = xk_lo K k := by first | exact xw_lo1 hil hc31 | exact xw_lo2 hT.2.1 hil he hc42
          have hcn := xd_cn_le K (xd_dp K (xk_h k)) (xk_h k % 2 ^ xd_dp K (xk_h k))
          have hn9 := xd_cn_sub K (xd_dp K (xk_h k)) (xk_h k % 2 ^ xd_dp K (xk_h k)) i
          refine lv_iconst (v := nI 0) hx hb d_K_bucketPagesUpTo_70 (by decide +kernel) ?_
          refine lv_aload_n hx hb d_K_bucketPagesUpTo_71 rfl (lv_at hl 0 rfl) ?_
          refine va_get (D := D) (ci := 1) (v := .ref (q 2)) (C := R_K) (T := F_K) (N := 4) hx hb hts (zi_K _) hown hK hP 1 rfl rfl 2 (by decide) (hts _ (List.mem_cons_of_mem _ zm_46)) (fun _ h9 => h9) rfl d_K_bucketPagesUpTo_72 ?_
          refine lv_iload_n hx hb d_K_bucketPagesUpTo_75 rfl (lv_at hl 3 rfl) ?_
          refine xa_cI (va_runV (As := [.int (nI (xk_h k % 2 ^ xd_dp K (xk_h k)))]) (rest := [.int (nI 0)]) ⟨hx, hb, hml, hown, hts⟩ (c_C_kob l D q cA lim kf kg af bf rk rv rm rs rn bp bk bv bo bn K (xk_h k % 2 ^ xd_dp K (xk_h k)) hT (by omega)) (cwV 1 hts (zg_V zm_215 zm_216 zm_217 zm_4 zm_218) rfl rfl rfl (by decide +kernel) ⟨Nat.le_of_ble_eq_true rfl, Nat.le_of_ble_eq_true rfl⟩) (xp_preV (ci := 2) (q0 := 2) hK hP rfl rfl rfl hZ) rfl rfl hl.1 rfl (lv_room (Nat.le_of_ble_eq_true rfl)) d_K_bucketPagesUpTo_76 ⟨Nat.zero_le _, Nat.zero_le _⟩) ?_
          refine xa_top (y := nI (xd_cn K (xd_dp K (xk_h k)) (xk_h k % 2 ^ xd_dp K (xk_h k)))) (by rw [xd_dp_place, Nat.mod_mod]) ?_
          refine lv_iconst (v := nI 1) hx hb d_K_bucketPagesUpTo_79 (by decide +kernel) ?_
          refine lv_isub hx hb d_K_bucketPagesUpTo_80 ?_
          refine xa_top (y := nI (xd_cn K (xd_dp K (xk_h k)) (xk_h k % 2 ^ xd_dp K (xk_h k))) - nI 1) rfl ?_
          refine va_mmax hx hb (hml.trans hl.1.symm) hown (hts _ (List.mem_cons_of_mem _ zm_271)) (hts _ (List.mem_cons_of_mem _ zm_21)) (hts _ (List.mem_cons_of_mem _ zm_2)) (hts _ (List.mem_cons_of_mem _ zm_22)) (Nat.le_of_ble_eq_true rfl) (Nat.le_of_ble_eq_true rfl) (Nat.zero_le _) (Nat.zero_le _) d_K_bucketPagesUpTo_81 ?_
          refine xa_top (y := nI (xd_cn K (xd_dp K (xk_h k)) (xk_h k % 2 ^ xd_dp K (xk_h k)) - 1)) (xw_max0 (by omega)) ?_
          refine lv_istore (lv' := [(5, .int (nI (xd_cn K (xd_dp K (xk_h k)) (xk_h k % 2 ^ xd_dp K (xk_h k)) - 1))), (0, .ref (q 1)), (1, .int k), (2, .int (nI (2 ^ xd_dp K (xk_h k) - 1))), (3, .int (nI (xk_h k % 2 ^ xd_dp K (xk_h k)))), (4, .int (nI n))]) hx hb d_K_bucketPagesUpTo_84 hl (Nat.le_of_ble_eq_true rfl) rfl (fun ls hl => ?_)
          refine lv_iload hx hb d_K_bucketPagesUpTo_86 (lv_at hl 5 rfl) ?_
          refine lv_iload hx hb d_K_bucketPagesUpTo_88 (lv_at hl 0 rfl) ?_
          refine va_mmin hx hb (hml.trans hl.1.symm) hown (hts _ (List.mem_cons_of_mem _ zm_272)) (hts _ (List.mem_cons_of_mem _ zm_18)) (hts _ (List.mem_cons_of_mem _ zm_2)) (hts _ (List.mem_cons_of_mem _ zm_19)) (Nat.le_of_ble_eq_true rfl) (Nat.le_of_ble_eq_true rfl) (Nat.zero_le _) (Nat.zero_le _) d_K_bucketPagesUpTo_90 ?_
          refine xa_top (y := nI (min n (xd_cn K (xd_dp K (xk_h k)) (xk_h k % 2 ^ xd_dp K (xk_h k)) - 1))) (xn_min (by omega) (by omega)) ?_
          refine lv_iconst (v := nI 4) hx hb d_K_bucketPagesUpTo_93 (by decide +kernel) ?_
          refine lv_idiv hx hb d_K_bucketPagesUpTo_94 (by decide +kernel) ?_
          refine xa_top (y := nI ((min n (xd_cn K (xd_dp K (xk_h k)) (xk_h k % 2 ^ xd_dp K (xk_h k)) - 1)) / 4)) (pk_div (by omega) (by omega) (by omega)) ?_
          refine lv_iconst (v := nI 1) hx hb d_K_bucketPagesUpTo_95 (by decide +kernel) ?_
          refine lv_iadd hx hb d_K_bucketPagesUpTo_96 ?_
          refine xa_top (y := nI ((min n (xd_cn K (xd_dp K (xk_h k)) (xk_h k % 2 ^ xd_dp K (xk_h k)) - 1)) / 4 + 1)) (nI_add _ _) ?_
          exact W.iret (v := nI ((min n (xd_cn K (xd_dp K (xk_h k)) (xk_h k % 2 ^ xd_dp K (xk_h k)) - 1)) / 4 + 1)) hx hb hr (fun tJ htJ hWJ => ⟨_, rfl, by rw [hn, hlo]; rfl, htJ⟩) (fun _ h => by cases h) d_K_bucketPagesUpTo_97
        · skip
          refine lv_aload_n hx hb d_K_bucketPagesUpTo_45 rfl (lv_at hl 0 rfl) ?_
          refine va_get (D := D) (ci := 1) (v := .ref (q 5)) (C := R_K) (T := F_K) (N := 4) hx hb hts (zi_K _) hown hK hP 1 rfl rfl 0 (by decide) (hts _ (List.mem_cons_of_mem _ zm_44)) (fun _ h9 => h9) rfl d_K_bucketPagesUpTo_46 ?_
          refine lv_iload hx hb d_K_bucketPagesUpTo_49 (lv_at hl 5 rfl) ?_
          refine xa_iald hx hb hK hP 5 0 rfl rfl (k := i) (by omega) (by decide) d_K_bucketPagesUpTo_51 ?_
          refine xa_top (y := e.1) hfe ?_
          refine xa_cI (va_runSN (As := [.int e.1]) (rest := []) ⟨hx, hb, hml, hown, hts⟩ (c_E_hash l e.1) ⟨(va_cnB 1 hts (zg_C zm_175) rfl rfl rfl (hZ _ zn_173) (hts _ (List.mem_cons_of_mem _ zm_1)) (by decide +kernel) ⟨Nat.le_of_ble_eq_true rfl, Nat.le_of_ble_eq_true rfl⟩), (hts _ (List.mem_cons_of_mem _ zm_174)), trivial⟩ xp_preS rfl rfl hl.1 rfl (lv_room (Nat.le_of_ble_eq_true rfl)) d_K_bucketPagesUpTo_52 ⟨Nat.zero_le _, Nat.zero_le _⟩) ?_
          refine lv_iload_n hx hb d_K_bucketPagesUpTo_55 rfl (lv_at hl 2 rfl) ?_
          refine lv_iand hx hb d_K_bucketPagesUpTo_56 ?_
          refine xa_top (y := nI (xk_h e.1 % 2 ^ xd_dp K (xk_h k))) (xw_and (by have := xk_h_lt e.1; omega) (xd_dp_le K _)) ?_
          refine lv_iload_n hx hb d_K_bucketPagesUpTo_57 rfl (lv_at hl 3 rfl) ?_
          have hm1 := Nat.mod_le (xk_h e.1) (2 ^ xd_dp K (xk_h k))
          have hm2 := xk_h_lt e.1
          refine lv_icmp_ne (tgt := 64) hx hb d_K_bucketPagesUpTo_58 (by decide) (fun hc58 => ?_) (fun hc58 => ?_)
          · skip
            rw [nI_eq (by omega) (by omega)] at hc58
            refine lv_iinc (k := 5) (v := nI (i + 1)) (lv' := [(5, .int (nI (i + 1))), (0, .ref (q 1)), (1, .int k), (2, .int (nI (2 ^ xd_dp K (xk_h k) - 1))), (3, .int (nI (xk_h k % 2 ^ xd_dp K (xk_h k)))), (4, .int (nI n))]) hx hb d_K_bucketPagesUpTo_64 hl rfl (xn_inc _) (Nat.le_of_ble_eq_true rfl) rfl (fun ls hl => ?_)
            refine lv_goto (tgt := 25) hx hb d_K_bucketPagesUpTo_67 (by decide) ?_
            exact ih25 (i + 1) n ls ((xk_below hT.2.1 he).mp (xk_nle hc42)) (by first | rw [xd_cn_take he, if_pos hc58, hn] | rw [xd_cn_take he, if_neg hc58, hn]) (lv_sub hl [1, 2, 3, 4, 5, 0] rfl) (by omega)
          · skip
            rw [nI_eq (by omega) (by omega)] at hc58
            refine lv_iinc (k := 4) (v := nI (n + 1)) (lv' := [(4, .int (nI (n + 1))), (0, .ref (q 1)), (1, .int k), (2, .int (nI (2 ^ xd_dp K (xk_h k) - 1))), (3, .int (nI (xk_h k % 2 ^ xd_dp K (xk_h k)))), (5, .int (nI i))]) hx hb d_K_bucketPagesUpTo_61 hl rfl (xn_inc _) (Nat.le_of_ble_eq_true rfl) rfl (fun ls hl => ?_)
            refine lv_iinc (k := 5) (v := nI (i + 1)) (lv' := [(5, .int (nI (i + 1))), (4, .int (nI (n + 1))), (0, .ref (q 1)), (1, .int k), (2, .int (nI (2 ^ xd_dp K (xk_h k) - 1))), (3, .int (nI (xk_h k % 2 ^ xd_dp K (xk_h k))))]) hx hb d_K_bucketPagesUpTo_64 hl rfl (xn_inc _) (Nat.le_of_ble_eq_true rfl) rfl (fun ls hl => ?_)
            refine lv_goto (tgt := 25) hx hb d_K_bucketPagesUpTo_67 (by decide) ?_
            exact ih25 (i + 1) (n + 1) ls ((xk_below hT.2.1 he).mp (xk_nle hc42)) (by first | rw [xd_cn_take he, if_pos hc58, hn] | rw [xd_cn_take he, if_neg hc58, hn]) (lv_sub hl [2, 3, 4, 5, 1, 0] rfl) (by omega)
  exact lp25 _ 0 0 ls (Nat.zero_le _) (by simp [xd_cn]) (lv_sub hl [4, 5, 3, 2, 1, 0] rfl) (Nat.lt_succ_self _)
set_option maxHeartbeats 4000000 in
set_option maxRecDepth 100000 in
theorem c_K_kib (l : Launch) (D : va_G) (q : Nat → Nat) (cA : Nat → ClassId) (lim : Int32) (kf : Nat → Int32) (kg : Nat → Int64) (af : Nat → Int32) (bf : Nat → Int32) (rk : Nat → Int32) (rv : Nat → Int64) (rm : Nat → Int32) (rs : Nat → Int32) (rn : Int32) (bp : Nat → Int32) (bk : Nat → Int32) (bv : Nat → Int64) (bo : Int32) (bn : Int32) (K : List xk_E) (p : Nat) (j : Nat) (hT : xw_KT kf kg af bf K) (hp : p < 64) (hpl : xd_pl K p = true) (hj : j < xd_cn K (xd_dp K p) p) : Met l y_K_keyInBucket zw_K_keyInBucket ({ frames := 3, cells := 0, slots := 0, locals := 65 } : Room) (va_Pc [.ref (q 1), .int (nI p), .int (nI j)] (xp_R D zz_cl (xw_tC cA) (xw_C q cA lim kf kg (nI K.length) af bf rk rv rm rs rn bp bk bv bo bn))) (vp_Si (fun r : Int32 => r = xo_ka K (nI ((xo_ko K p).length + j)))) 0 0 (fun _ => False) := by
  refine Met.ofW (cc := b_K_keyInBucket) (maxL := 6) (ret := (some .int)) (by decide) rfl ?_
  intro pJ eJ s mJ args below meth cJ s₁ B hml hv
  obtain ⟨rfl, hP, hK, hZ⟩ := hv
  have hx := B.exec
  have hb := B.bytes
  have hr := B.returns
  have hts := atoms_spec (ws := zw_K_keyInBucket) B.pre
  have hown : s.vm.findClass R_K = some mJ.cls := findClass_of_methodNamed B.named
  have hlocks := B.notSynchronized
  have hl := lv_entry ([.ref (q 1), .int (nI p), .int (nI j)]) (n := 6) (Nat.le_of_ble_eq_true rfl)
  rw [lg_entry_eq]
  generalize (lg_sl ([.ref (q 1), .int (nI p), .int (nI j)]) ++ List.replicate (6 - (lg_sl ([.ref (q 1), .int (nI p), .int (nI j)])).length) Slot.unset).toArray = ls at hl ⊢
  have hl : lv_has ls 6 [(0, .ref (q 1)), (1, .int (nI p)), (2, .int (nI j))] := hl
  have hlen := hT.1
  have hcn := xd_cn_le K (xd_dp K p) p
  refine lv_aload_n hx hb d_K_keyInBucket_0 rfl (lv_at hl 0 rfl) ?_
  refine va_get (D := D) (ci := 1) (v := .ref (q 2)) (C := R_K) (T := F_K) (N := 4) hx hb hts (zi_K _) hown hK hP 1 rfl rfl 2 (by decide) (hts _ (List.mem_cons_of_mem _ zm_46)) (fun _ h9 => h9) rfl d_K_keyInBucket_1 ?_
  refine lv_iload_n hx hb d_K_keyInBucket_4 rfl (lv_at hl 1 rfl) ?_
  refine xa_cI (va_runV (As := [.int (nI p)]) (rest := []) ⟨hx, hb, hml, hown, hts⟩ (c_C_mask l D q cA lim kf kg af bf rk rv rm rs rn bp bk bv bo bn K p hT (by omega)) (cwV 1 hts (zg_V zm_270 zm_212 zm_213 zm_4 zm_214) rfl rfl rfl (by decide +kernel) ⟨Nat.le_of_ble_eq_true rfl, Nat.le_of_ble_eq_true rfl⟩) (xp_preV (ci := 2) (q0 := 2) hK hP rfl rfl rfl hZ) rfl rfl hl.1 rfl (lv_room (Nat.le_of_ble_eq_true rfl)) d_K_keyInBucket_5 ⟨Nat.zero_le _, Nat.zero_le _⟩) ?_
  refine lv_istore_n (lv' := [(3, .int (nI (2 ^ xd_dp K p - 1))), (0, .ref (q 1)), (1, .int (nI p)), (2, .int (nI j))]) hx hb d_K_keyInBucket_8 rfl hl (Nat.le_of_ble_eq_true rfl) rfl (fun ls hl => ?_)
  refine lv_iload_n hx hb d_K_keyInBucket_9 rfl (lv_at hl 3 rfl) ?_
  refine lv_istore (lv' := [(4, .int (nI j)), (3, .int (nI (2 ^ xd_dp K p - 1))), (0, .ref (q 1)), (1, .int (nI p)), (2, .int (nI j))]) hx hb d_K_keyInBucket_10 hl (Nat.le_of_ble_eq_true rfl) rfl (fun ls hl => ?_)
  refine lv_iconst (v := nI 0) hx hb d_K_keyInBucket_12 (by decide +kernel) ?_
  refine lv_istore (lv' := [(5, .int (nI 0)), (4, .int (nI j)), (3, .int (nI (2 ^ xd_dp K p - 1))), (0, .ref (q 1)), (1, .int (nI p)), (2, .int (nI j))]) hx hb d_K_keyInBucket_13 hl (Nat.le_of_ble_eq_true rfl) rfl (fun ls hl => ?_)
  have lp15 : ∀ (N : Nat) (i : Nat) (t : Nat) (ls : Array Slot), (i ≤ K.length) → (t + xd_cn (K.take i) (xd_dp K p) p = j) → lv_has ls 6 [(0, .ref (q 1)), (1, .int (nI p)), (2, .int (nI j)), (3, .int (nI (2 ^ xd_dp K p - 1))), (4, .int (nI t)), (5, .int (nI i))] → K.length - i < N → W pJ l eJ (headSpec zw_K_keyInBucket ({ frames := 3, cells := 0, slots := 0, locals := 65 } : Room)).room s mJ ([.ref (q 1), .int (nI p), .int (nI j)] : List Value).toArray below meth cJ s.heap [] 0 0 (MQ below (vp_Si (fun r : Int32 => r = xo_ka K (nI ((xo_ko K p).length + j)))) ([.ref (q 1), .int (nI p), .int (nI j)] : List Value).toArray s 0 0 (fun _ => False)) (F0 mJ 15 ls []) := by
    intro N
    induction N with
    | zero => intro i t ls hi ht hl hm; exact absurd hm (Nat.not_lt_zero _)
    | succ N ih15 =>
      intro i t ls hi ht hl hm
      refine lv_iload hx hb d_K_keyInBucket_15 (lv_at hl 5 rfl) ?_
      refine lv_aload_n hx hb d_K_keyInBucket_17 rfl (lv_at hl 0 rfl) ?_
      refine va_get (D := D) (ci := 1) (v := .int (nI K.length)) (C := R_K) (T := F_K) (N := 4) hx hb hts (zi_K _) hown hK hP 1 rfl rfl 3 (by decide) (hts _ (List.mem_cons_of_mem _ zm_48)) (fun _ h9 => h9) rfl d_K_keyInBucket_18 ?_
      refine lv_icmp_ge (tgt := 62) hx hb d_K_keyInBucket_21 (by decide) (fun hc21 => ?_) (fun hc21 => ?_)
      · skip
        rw [nI_leI (by omega) (by omega)] at hc21
        exfalso
        (rw [show i = K.length from by omega, List.take_length] at ht; omega)
      · skip
        rw [nI_leI (by omega) (by omega)] at hc21
        obtain ⟨e, he⟩ : ∃ e, K[i]? = some e := ⟨_, List.getElem?_eq_getElem (by omega)⟩
        have hfe := (xk_tie_f hT.2.2.1 he).1
        refine lv_aload_n hx hb d_K_keyInBucket_24 rfl (lv_at hl 0 rfl) ?_
        refine va_get (D := D) (ci := 1) (v := .ref (q 5)) (C := R_K) (T := F_K) (N := 4) hx hb hts (zi_K _) hown hK hP 1 rfl rfl 0 (by decide) (hts _ (List.mem_cons_of_mem _ zm_44)) (fun _ h9 => h9) rfl d_K_keyInBucket_25 ?_
        refine lv_iload hx hb d_K_keyInBucket_28 (lv_at hl 5 rfl) ?_
        refine xa_iald hx hb hK hP 5 0 rfl rfl (k := i) (by omega) (by decide) d_K_keyInBucket_30 ?_
        refine xa_top (y := e.1) hfe ?_
        refine xa_cI (va_runSN (As := [.int e.1]) (rest := []) ⟨hx, hb, hml, hown, hts⟩ (c_E_hash l e.1) ⟨(va_cnB 1 hts (zg_C zm_175) rfl rfl rfl (hZ _ zn_173) (hts _ (List.mem_cons_of_mem _ zm_1)) (by decide +kernel) ⟨Nat.le_of_ble_eq_true rfl, Nat.le_of_ble_eq_true rfl⟩), (hts _ (List.mem_cons_of_mem _ zm_174)), trivial⟩ xp_preS rfl rfl hl.1 rfl (lv_room (Nat.le_of_ble_eq_true rfl)) d_K_keyInBucket_31 ⟨Nat.zero_le _, Nat.zero_le _⟩) ?_
        refine lv_iload_n hx hb d_K_keyInBucket_34 rfl (lv_at hl 3 rfl) ?_
        refine lv_iand hx hb d_K_keyInBucket_35 ?_
        refine xa_top (y := nI (xk_h e.1 % 2 ^ xd_dp K p)) (xw_and (by have := xk_h_lt e.1; omega) (xd_dp_le K _)) ?_
        refine lv_iload_n hx hb d_K_keyInBucket_36 rfl (lv_at hl 1 rfl) ?_
        have hm1 := Nat.mod_le (xk_h e.1) (2 ^ xd_dp K p)
        have hm2 := xk_h_lt e.1
        refine lv_icmp_ne (tgt := 56) hx hb d_K_keyInBucket_37 (by decide) (fun hc37 => ?_) (fun hc37 => ?_)
        · skip
          rw [nI_eq (by omega) (by omega)] at hc37
          refine lv_iinc (k := 5) (v := nI (i + 1)) (lv' := [(5, .int (nI (i + 1))), (0, .ref (q 1)), (1, .int (nI p)), (2, .int (nI j)), (3, .int (nI (2 ^ xd_dp K p - 1))), (4, .int (nI t))]) hx hb d_K_keyInBucket_56 hl rfl (xn_inc _) (Nat.le_of_ble_eq_true rfl) rfl (fun ls hl => ?_)
          refine lv_goto (tgt := 15) hx hb d_K_keyInBucket_59 (by decide) ?_
          exact ih15 (i + 1) t ls (by omega) (by first | (rw [xd_cn_take he, if_pos hc37]; omega) | (rw [xd_cn_take he, if_neg hc37]; exact ht)) (lv_sub hl [1, 2, 3, 4, 5, 0] rfl) (by omega)
        · skip
          rw [nI_eq (by omega) (by omega)] at hc37
          refine lv_iload hx hb d_K_keyInBucket_40 (lv_at hl 4 rfl) ?_
          refine lv_if_ne (tgt := 53) hx hb d_K_keyInBucket_42 (by decide) (fun hc42 => ?_) (fun hc42 => ?_)
          · skip
            rw [xn_ne0 (by omega)] at hc42
            refine lv_iinc (k := 4) (v := nI (t - 1)) (lv' := [(4, .int (nI (t - 1))), (0, .ref (q 1)), (1, .int (nI p)), (2, .int (nI j)), (3, .int (nI (2 ^ xd_dp K p - 1))), (5, .int (nI i))]) hx hb d_K_keyInBucket_53 hl rfl (xn_dec (by omega)) (Nat.le_of_ble_eq_true rfl) rfl (fun ls hl => ?_)
            refine lv_iinc (k := 5) (v := nI (i + 1)) (lv' := [(5, .int (nI (i + 1))), (4, .int (nI (t - 1))), (0, .ref (q 1)), (1, .int (nI p)), (2, .int (nI j)), (3, .int (nI (2 ^ xd_dp K p - 1)))]) hx hb d_K_keyInBucket_56 hl rfl (xn_inc _) (Nat.le_of_ble_eq_true rfl) rfl (fun ls hl => ?_)
            refine lv_goto (tgt := 15) hx hb d_K_keyInBucket_59 (by decide) ?_
            exact ih15 (i + 1) (t - 1) ls (by omega) (by first | (rw [xd_cn_take he, if_pos hc37]; omega) | (rw [xd_cn_take he, if_neg hc37]; exact ht)) (lv_sub hl [2, 3, 4, 5, 1, 0] rfl) (by omega)
          · skip
            rw [xn_ne0 (by omega)] at hc42
            refine lv_aload_n hx hb d_K_keyInBucket_45 rfl (lv_at hl 0 rfl) ?_
            refine va_get (D := D) (ci := 1) (v := .ref (q 5)) (C := R_K) (T := F_K) (N := 4) hx hb hts (zi_K _) hown hK hP 1 rfl rfl 0 (by decide) (hts _ (List.mem_cons_of_mem _ zm_44)) (fun _ h9 => h9) rfl d_K_keyInBucket_46 ?_
            refine lv_iload hx hb d_K_keyInBucket_49 (lv_at hl 5 rfl) ?_
            refine xa_iald hx hb hK hP 5 0 rfl rfl (k := i) (by omega) (by decide) d_K_keyInBucket_51 ?_
            refine xa_top (y := e.1) hfe ?_
            exact W.iret (v := e.1) hx hb hr (fun tJ htJ hWJ => ⟨_, rfl, by rw [← ht, hc42, Nat.zero_add]; exact (xo_ka_hit hT.1 hp hpl he hc37).symm, htJ⟩) (fun _ h => by cases h) d_K_keyInBucket_52
  exact lp15 _ 0 j ls (Nat.zero_le _) (by simp [xd_cn]) (lv_sub hl [3, 4, 5, 2, 1, 0] rfl) (Nat.lt_succ_self _)
set_option maxHeartbeats 4000000 in
set_option maxRecDepth 100000 in
theorem c_K_kipo (l : Launch) (D : va_G) (q : Nat → Nat) (cA : Nat → ClassId) (lim : Int32) (kf : Nat → Int32) (kg : Nat → Int64) (af : Nat → Int32) (bf : Nat → Int32) (rk : Nat → Int32) (rv : Nat → Int64) (rm : Nat → Int32) (rs : Nat → Int32) (rn : Int32) (bp : Nat → Int32) (bk : Nat → Int32) (bv : Nat → Int64) (bo : Int32) (bn : Int32) (K : List xk_E) (x : Int32) (hT : xw_KT kf kg af bf K) : Met l y_K_keyInPlaceOrder zw_K_keyInPlaceOrder ({ frames := 4, cells := 0, slots := 0, locals := 90 } : Room) (va_Pc [.ref (q 1), .int x] (xp_R D zz_cl (xw_tC cA) (xw_C q cA lim kf kg (nI K.length) af bf rk rv rm rs rn bp bk bv bo bn))) (vp_Si (fun r : Int32 => r = xo_ka K x)) 0 0 (fun _ => False) := by
  refine Met.ofW (cc := b_K_keyInPlaceOrder) (maxL := 5) (ret := (some .int)) (by decide) rfl ?_
  intro pJ eJ s mJ args below meth cJ s₁ B hml hv
  obtain ⟨rfl, hP, hK, hZ⟩ := hv
  have hx := B.exec
  have hb := B.bytes
  have hr := B.returns
  have hts := atoms_spec (ws := zw_K_keyInPlaceOrder) B.pre
  have hown : s.vm.findClass R_K = some mJ.cls := findClass_of_methodNamed B.named
  have hlocks := B.notSynchronized
  have hl := lv_entry ([.ref (q 1), .int x]) (n := 5) (Nat.le_of_ble_eq_true rfl)
  rw [lg_entry_eq]
  generalize (lg_sl ([.ref (q 1), .int x]) ++ List.replicate (5 - (lg_sl ([.ref (q 1), .int x])).length) Slot.unset).toArray = ls at hl ⊢
  have hl : lv_has ls 5 [(0, .ref (q 1)), (1, .int x)] := hl
  have hlen := hT.1
  refine lv_iload_n hx hb d_K_keyInPlaceOrder_0 rfl (lv_at hl 1 rfl) ?_
  refine lv_if_lt (tgt := 12) hx hb d_K_keyInPlaceOrder_1 (by decide) (fun hc1 => ?_) (fun hc1 => ?_)
  · skip
    refine lv_iconst (v := nI 0) hx hb d_K_keyInPlaceOrder_12 (by decide +kernel) ?_
    exact W.iret (v := nI 0) hx hb hr (fun tJ htJ hWJ => ⟨_, rfl, by first | exact xw_ka0 hc1 | exact xw_ka1 hT.1 hc9, htJ⟩) (fun _ h => by cases h) d_K_keyInPlaceOrder_13
  · skip
    refine lv_iload_n hx hb d_K_keyInPlaceOrder_4 rfl (lv_at hl 1 rfl) ?_
    refine lv_aload_n hx hb d_K_keyInPlaceOrder_5 rfl (lv_at hl 0 rfl) ?_
    refine va_get (D := D) (ci := 1) (v := .int (nI K.length)) (C := R_K) (T := F_K) (N := 4) hx hb hts (zi_K _) hown hK hP 1 rfl rfl 3 (by decide) (hts _ (List.mem_cons_of_mem _ zm_48)) (fun _ h9 => h9) rfl d_K_keyInPlaceOrder_6 ?_
    refine lv_icmp_lt (tgt := 14) hx hb d_K_keyInPlaceOrder_9 (by decide) (fun hc9 => ?_) (fun hc9 => ?_)
    · skip
      obtain ⟨j, hj, hxj⟩ := xw_ix hc1 hc9 (by omega)
      refine lv_iload_n hx hb d_K_keyInPlaceOrder_14 rfl (lv_at hl 1 rfl) ?_
      refine xa_top (y := nI j) hxj ?_
      refine lv_istore_n (lv' := [(2, .int (nI j)), (0, .ref (q 1)), (1, .int x)]) hx hb d_K_keyInPlaceOrder_15 rfl hl (Nat.le_of_ble_eq_true rfl) rfl (fun ls hl => ?_)
      refine lv_iconst (v := nI 0) hx hb d_K_keyInPlaceOrder_16 (by decide +kernel) ?_
      refine lv_istore_n (lv' := [(3, .int (nI 0)), (2, .int (nI j)), (0, .ref (q 1)), (1, .int x)]) hx hb d_K_keyInPlaceOrder_17 rfl hl (Nat.le_of_ble_eq_true rfl) rfl (fun ls hl => ?_)
      have lp18 : ∀ (N : Nat) (p : Nat) (t : Nat) (ls : Array Slot), (p ≤ 64) → (t + (xo_ko K p).length = j) → lv_has ls 5 [(0, .ref (q 1)), (1, .int x), (2, .int (nI t)), (3, .int (nI p))] → 64 - p < N → W pJ l eJ (headSpec zw_K_keyInPlaceOrder ({ frames := 4, cells := 0, slots := 0, locals := 90 } : Room)).room s mJ ([.ref (q 1), .int x] : List Value).toArray below meth cJ s.heap [] 0 0 (MQ below (vp_Si (fun r : Int32 => r = xo_ka K x)) ([.ref (q 1), .int x] : List Value).toArray s 0 0 (fun _ => False)) (F0 mJ 18 ls []) := by
        intro N
        induction N with
        | zero => intro p t ls hp ht hl hm; exact absurd hm (Nat.not_lt_zero _)
        | succ N ih18 =>
          intro p t ls hp ht hl hm
          refine lv_iload_n hx hb d_K_keyInPlaceOrder_18 rfl (lv_at hl 3 rfl) ?_
          refine lv_bipush (v := nI 64) hx hb d_K_keyInPlaceOrder_19 (by decide +kernel) ?_
          refine lv_icmp_ge (tgt := 69) hx hb d_K_keyInPlaceOrder_21 (by decide) (fun hc21 => ?_) (fun hc21 => ?_)
          · skip
            rw [nI_leI (by omega) (by omega)] at hc21
            exfalso
            (rw [show p = 64 from by omega, xo_ko_all] at ht; omega)
          · skip
            rw [nI_leI (by omega) (by omega)] at hc21
            refine lv_aload_n hx hb d_K_keyInPlaceOrder_24 rfl (lv_at hl 0 rfl) ?_
            refine va_get (D := D) (ci := 1) (v := .ref (q 2)) (C := R_K) (T := F_K) (N := 4) hx hb hts (zi_K _) hown hK hP 1 rfl rfl 2 (by decide) (hts _ (List.mem_cons_of_mem _ zm_46)) (fun _ h9 => h9) rfl d_K_keyInPlaceOrder_25 ?_
            refine lv_iload_n hx hb d_K_keyInPlaceOrder_28 rfl (lv_at hl 3 rfl) ?_
            refine xa_cI (va_runV (As := [.int (nI p)]) (rest := []) ⟨hx, hb, hml, hown, hts⟩ (c_C_isP l D q cA lim kf kg af bf rk rv rm rs rn bp bk bv bo bn K p hT (by omega)) (cwV 1 hts (zg_V zm_207 zm_208 zm_209 zm_4 zm_210) rfl rfl rfl (by decide +kernel) ⟨Nat.le_of_ble_eq_true rfl, Nat.le_of_ble_eq_true rfl⟩) (xp_preV (ci := 2) (q0 := 2) hK hP rfl rfl rfl hZ) rfl rfl hl.1 rfl (lv_room (Nat.le_of_ble_eq_true rfl)) d_K_keyInPlaceOrder_29 ⟨Nat.zero_le _, Nat.zero_le _⟩) ?_
            refine lv_if_eq (tgt := 63) hx hb d_K_keyInPlaceOrder_32 (by decide) (fun hc32 => ?_) (fun hc32 => ?_)
            · skip
              rw [xb_0] at hc32
              refine lv_iinc (k := 3) (v := nI (p + 1)) (lv' := [(3, .int (nI (p + 1))), (0, .ref (q 1)), (1, .int x), (2, .int (nI t))]) hx hb d_K_keyInPlaceOrder_63 hl rfl (xn_inc _) (Nat.le_of_ble_eq_true rfl) rfl (fun ls hl => ?_)
              refine lv_goto (tgt := 18) hx hb d_K_keyInPlaceOrder_66 (by decide) ?_
              exact ih18 (p + 1) t ls (by omega) (by first | (rw [xo_ko_step, if_pos hc32]; omega) | (rw [xo_ko_step, if_neg (by simp [hc32])]; exact ht)) (lv_sub hl [1, 2, 3, 0] rfl) (by omega)
            · skip
              rw [xb_1] at hc32
              refine lv_aload_n hx hb d_K_keyInPlaceOrder_35 rfl (lv_at hl 0 rfl) ?_
              refine va_get (D := D) (ci := 1) (v := .ref (q 2)) (C := R_K) (T := F_K) (N := 4) hx hb hts (zi_K _) hown hK hP 1 rfl rfl 2 (by decide) (hts _ (List.mem_cons_of_mem _ zm_46)) (fun _ h9 => h9) rfl d_K_keyInPlaceOrder_36 ?_
              refine lv_iload_n hx hb d_K_keyInPlaceOrder_39 rfl (lv_at hl 3 rfl) ?_
              refine xa_cI (va_runV (As := [.int (nI p)]) (rest := []) ⟨hx, hb, hml, hown, hts⟩ (c_C_kob l D q cA lim kf kg af bf rk rv rm rs rn bp bk bv bo bn K p hT (by omega)) (cwV 1 hts (zg_V zm_215 zm_216 zm_217 zm_4 zm_218) rfl rfl rfl (by decide +kernel) ⟨Nat.le_of_ble_eq_true rfl, Nat.le_of_ble_eq_true rfl⟩) (xp_preV (ci := 2) (q0 := 2) hK hP rfl rfl rfl hZ) rfl rfl hl.1 rfl (lv_room (Nat.le_of_ble_eq_true rfl)) d_K_keyInPlaceOrder_40 ⟨Nat.zero_le _, Nat.zero_le _⟩) ?_
              refine xa_top (y := nI (xd_cn K (xd_dp K p) p)) (by rw [xd_pl_iff.mp hc32]) ?_
              refine lv_istore (lv' := [(4, .int (nI (xd_cn K (xd_dp K p) p))), (0, .ref (q 1)), (1, .int x), (2, .int (nI t)), (3, .int (nI p))]) hx hb d_K_keyInPlaceOrder_43 hl (Nat.le_of_ble_eq_true rfl) rfl (fun ls hl => ?_)
              have hcn := xd_cn_le K (xd_dp K p) p
              refine lv_iload_n hx hb d_K_keyInPlaceOrder_45 rfl (lv_at hl 3 rfl) ?_
              refine lv_iload hx hb d_K_keyInPlaceOrder_46 (lv_at hl 0 rfl) ?_
              refine lv_icmp_ge (tgt := 58) hx hb d_K_keyInPlaceOrder_48 (by decide) (fun hc48 => ?_) (fun hc48 => ?_)
              · skip
                rw [nI_leI (by omega) (by omega)] at hc48
                refine lv_iload_n hx hb d_K_keyInPlaceOrder_58 rfl (lv_at hl 3 rfl) ?_
                refine lv_iload hx hb d_K_keyInPlaceOrder_59 (lv_at hl 0 rfl) ?_
                refine lv_isub hx hb d_K_keyInPlaceOrder_61 ?_
                refine xa_top (y := nI (t - (xd_cn K (xd_dp K p) p))) (pk_sub (by omega)) ?_
                refine lv_istore_n (lv' := [(2, .int (nI (t - (xd_cn K (xd_dp K p) p)))), (4, .int (nI (xd_cn K (xd_dp K p) p))), (0, .ref (q 1)), (1, .int x), (3, .int (nI p))]) hx hb d_K_keyInPlaceOrder_62 rfl hl (Nat.le_of_ble_eq_true rfl) rfl (fun ls hl => ?_)
                refine lv_iinc (k := 4) (v := nI (p + 1)) (lv' := [(3, .int (nI (p + 1))), (2, .int (nI (t - (xd_cn K (xd_dp K p) p)))), (4, .int (nI (xd_cn K (xd_dp K p) p))), (0, .ref (q 1)), (1, .int x)]) hx hb d_K_keyInPlaceOrder_63 hl rfl (xn_inc _) (Nat.le_of_ble_eq_true rfl) rfl (fun ls hl => ?_)
                refine lv_goto (tgt := 18) hx hb d_K_keyInPlaceOrder_66 (by decide) ?_
                exact ih18 (p + 1) (t - (xd_cn K (xd_dp K p) p)) ls (by omega) (by first | (rw [xo_ko_step, if_pos hc32]; omega) | (rw [xo_ko_step, if_neg (by simp [hc32])]; exact ht)) (lv_sub hl [3, 4, 1, 0] rfl) (by omega)
              · skip
                rw [nI_leI (by omega) (by omega)] at hc48
                refine lv_aload_n hx hb d_K_keyInPlaceOrder_51 rfl (lv_at hl 1 rfl) ?_
                refine lv_iload_n hx hb d_K_keyInPlaceOrder_52 rfl (lv_at hl 4 rfl) ?_
                refine lv_iload_n hx hb d_K_keyInPlaceOrder_53 rfl (lv_at hl 3 rfl) ?_
                refine xa_cI (va_runV (As := [.int (nI p), .int (nI t)]) (rest := []) ⟨hx, hb, hml, hown, hts⟩ (c_K_kib l D q cA lim kf kg af bf rk rv rm rs rn bp bk bv bo bn K p t hT (by omega) hc32 (by omega)) (cwV 2 hts (zg_V zm_363 zm_365 zs_10 zm_3 zm_366) rfl rfl rfl (by decide +kernel) ⟨Nat.le_of_ble_eq_true rfl, Nat.le_of_ble_eq_true rfl⟩) (xp_preV (ci := 1) (q0 := 1) hK hP rfl rfl rfl hZ) rfl rfl hl.1 rfl (lv_room (Nat.le_of_ble_eq_true rfl)) d_K_keyInPlaceOrder_54 ⟨Nat.zero_le _, Nat.zero_le _⟩) ?_
                exact W.iret (v := xo_ka K (nI ((xo_ko K p).length + t))) hx hb hr (fun tJ htJ hWJ => ⟨_, rfl, by rw [hxj, ← ht, Nat.add_comm], htJ⟩) (fun _ h => by cases h) d_K_keyInPlaceOrder_57
      exact lp18 _ 0 j ls (by omega) rfl (lv_sub hl [2, 3, 1, 0] rfl) (Nat.lt_succ_self _)
    · skip
      refine lv_iconst (v := nI 0) hx hb d_K_keyInPlaceOrder_12 (by decide +kernel) ?_
      exact W.iret (v := nI 0) hx hb hr (fun tJ htJ hWJ => ⟨_, rfl, by first | exact xw_ka0 hc1 | exact xw_ka1 hT.1 hc9, htJ⟩) (fun _ h => by cases h) d_K_keyInPlaceOrder_13
set_option maxHeartbeats 4000000 in
set_option maxRecDepth 100000 in
theorem c_C_count (l : Launch) (D : va_G) (q : Nat → Nat) (cA : Nat → ClassId) (lim : Int32) (kf : Nat → Int32) (kg : Nat → Int64) (kn : Int32) (af : Nat → Int32) (bf : Nat → Int32) (rk : Nat → Int32) (rv : Nat → Int64) (rm : Nat → Int32) (rs : Nat → Int32) (rn : Int32) (bp : Nat → Int32) (bk : Nat → Int32) (bv : Nat → Int64) (bo : Int32) (bn : Int32) (sz : Nat) (h : Nat) (x : Int32) (fl : Bool) (hh : h < 64) (hfl : fl = (decide (af (2 ^ 6 + h % 2 ^ 6) = 0) || decide (af (2 ^ 6 + h % 2 ^ 6) + x = 0))) : Met l y_C_countKey zw_C_countKey ({ frames := 1, cells := 0, slots := 0, locals := 22 } : Room) (va_Pc [.ref (q 2), .int (nI h), .int x] (xp_Q D zz_cl (xw_tC cA) sz (xw_C q cA lim kf kg kn af bf rk rv rm rs rn bp bk bv bo bn))) (va_Qv (fun u : Unit => True) (fun (u : Unit) (t : State) => va_P D zz_cl (xw_C q cA lim kf kg kn (xw_cu af h x 7) (xw_cb bf h x fl 7) rk rv rm rs rn bp bk bv bo bn) t.heap) (va_A (xw_C q cA lim kf kg kn af bf rk rv rm rs rn bp bk bv bo bn) sz)) 0 0 (va_A (xw_C q cA lim kf kg kn af bf rk rv rm rs rn bp bk bv bo bn) sz) := by
  refine Met.ofW (cc := b_C_countKey) (maxL := 7) (ret := none) (by decide) rfl ?_
  intro pJ eJ s mJ args below meth cJ s₁ B hml hv
  obtain ⟨rfl, hsz, hP, hK, hD0, hZ⟩ := hv
  have hx := B.exec
  have hb := B.bytes
  have hr := B.returns
  have hts := atoms_spec (ws := zw_C_countKey) B.pre
  have hown : s.vm.findClass R_C = some mJ.cls := findClass_of_methodNamed B.named
  have hlocks := B.notSynchronized
  subst hsz
  have hD := hD0.self (sz := s.heap.size)
  generalize hAe : va_A (xw_C q cA lim kf kg kn af bf rk rv rm rs rn bp bk bv bo bn) s.heap.size = A at hD ⊢
  have hA : ∀ q : Nat, s.heap.size ≤ q → A q := fun q h => by rw [← hAe]; exact Or.inr h
  have hS : va_S A s.heap s.heap [] := va_S.rf
  have hl := lv_entry ([.ref (q 2), .int (nI h), .int x]) (n := 7) (Nat.le_of_ble_eq_true rfl)
  rw [lg_entry_eq]
  generalize (lg_sl ([.ref (q 2), .int (nI h), .int x]) ++ List.replicate (7 - (lg_sl ([.ref (q 2), .int (nI h), .int x])).length) Slot.unset).toArray = ls at hl ⊢
  have hl : lv_has ls 7 [(0, .ref (q 2)), (1, .int (nI h)), (2, .int x)] := hl
  refine lv_aload_n hx hb d_C_countKey_0 rfl (lv_at hl 0 rfl) ?_
  refine va_get (D := D) (ci := 2) (v := .ref (q 7)) (C := R_C) (T := F_C) (N := 2) hx hb hts (zi_C _) hown hK hP 2 rfl rfl 0 (by decide) (hts _ (List.mem_cons_of_mem _ zm_35)) (fun _ h9 => h9) rfl d_C_countKey_1 ?_
  refine lv_bipush (v := nI 6) hx hb d_C_countKey_4 (by decide +kernel) ?_
  refine lv_iload_n hx hb d_C_countKey_6 rfl (lv_at hl 1 rfl) ?_
  refine xa_cI (va_runS (As := [.int (nI 6), .int (nI h)]) (rest := [.ref (q 7)]) ⟨hx, hb, hml, hown, hts⟩ (c_C_cell l 6 h (by omega) (by omega)) (cwS 2 hts (zg_S zm_180 zm_181 zm_4 zm_182) rfl rfl rfl (by decide +kernel) ⟨Nat.le_of_ble_eq_true rfl, Nat.le_of_ble_eq_true rfl⟩) xp_preS rfl rfl hl.1 rfl (lv_room (Nat.le_of_ble_eq_true rfl)) d_C_countKey_7 ⟨Nat.zero_le _, Nat.zero_le _⟩) ?_
  refine xa_iald hx hb hK hP 7 2 rfl rfl (k := 2 ^ 6 + h % 2 ^ 6) (xw_cell (Nat.le_refl 6) (Nat.mod_lt _ (Nat.two_pow_pos _))) (by decide) d_C_countKey_10 ?_
  refine lv_istore_n (lv' := [(3, .int (af (2 ^ 6 + h % 2 ^ 6))), (0, .ref (q 2)), (1, .int (nI h)), (2, .int x)]) hx hb d_C_countKey_11 rfl hl (Nat.le_of_ble_eq_true rfl) rfl (fun ls hl => ?_)
  refine lv_iload_n hx hb d_C_countKey_12 rfl (lv_at hl 0 rfl) ?_
  refine lv_if_eq (tgt := 22) hx hb d_C_countKey_13 (by decide) (fun hc13 => ?_) (fun hc13 => ?_)
  · skip
    refine lv_iconst (v := nI 1) hx hb d_C_countKey_22 (by decide +kernel) ?_
    refine lv_goto (tgt := 27) hx hb d_C_countKey_23 (by decide) ?_
    refine xa_top (y := xb_i fl) (by first | exact xw_fl1 hfl (Or.inl hc13) | exact xw_fl1 hfl (Or.inr hc19) | exact xw_fl0 hfl hc13 hc19) ?_
    refine lv_istore (lv' := [(4, .int (xb_i fl)), (3, .int (af (2 ^ 6 + h % 2 ^ 6))), (0, .ref (q 2)), (1, .int (nI h)), (2, .int x)]) hx hb d_C_countKey_27 hl (Nat.le_of_ble_eq_true rfl) rfl (fun ls hl => ?_)
    rw [show bf = xw_cb bf h x fl 0 from xw_cb_0 bf h x fl] at hP hD
    refine lv_iconst (v := nI 0) hx hb d_C_countKey_29 (by decide +kernel) ?_
    refine lv_istore (lv' := [(5, .int (nI 0)), (4, .int (xb_i fl)), (3, .int (af (2 ^ 6 + h % 2 ^ 6))), (0, .ref (q 2)), (1, .int (nI h)), (2, .int x)]) hx hb d_C_countKey_30 hl (Nat.le_of_ble_eq_true rfl) rfl (fun ls hl => ?_)
    have lp32 : ∀ (N : Nat) (d : Nat) (ls : Array Slot) (H : Heap) (locs : List Loc), (d ≤ 7) → lv_has ls 7 [(0, .ref (q 2)), (1, .int (nI h)), (2, .int x), (3, .int (af (2 ^ 6 + h % 2 ^ 6))), (4, .int (xb_i fl)), (5, .int (nI d))] → va_P D zz_cl (xw_C q cA lim kf kg kn (xw_cu af h x d) (xw_cb bf h x fl d) rk rv rm rs rn bp bk bv bo bn) H → va_D A (xw_C q cA lim kf kg kn (xw_cu af h x d) (xw_cb bf h x fl d) rk rv rm rs rn bp bk bv bo bn) → va_S A s.heap H locs → 7 - d < N → W pJ l eJ (headSpec zw_C_countKey ({ frames := 1, cells := 0, slots := 0, locals := 22 } : Room)).room s mJ ([.ref (q 2), .int (nI h), .int x] : List Value).toArray below meth cJ H locs 0 0 (MQ below (va_Qv (fun u : Unit => True) (fun (u : Unit) (t : State) => va_P D zz_cl (xw_C q cA lim kf kg kn (xw_cu af h x 7) (xw_cb bf h x fl 7) rk rv rm rs rn bp bk bv bo bn) t.heap) A) ([.ref (q 2), .int (nI h), .int x] : List Value).toArray s 0 0 A) (F0 mJ 32 ls []) := by
      intro N
      induction N with
      | zero => intro d ls H locs hd7 hl hP hD hS hm; exact absurd hm (Nat.not_lt_zero _)
      | succ N ih32 =>
        intro d ls H locs hd7 hl hP hD hS hm
        refine lv_iload hx hb d_C_countKey_32 (lv_at hl 5 rfl) ?_
        refine lv_bipush (v := nI 6) hx hb d_C_countKey_34 (by decide +kernel) ?_
        refine lv_icmp_gt (tgt := 80) hx hb d_C_countKey_36 (by decide) (fun hc36 => ?_) (fun hc36 => ?_)
        · skip
          rw [nI_ltI (by omega) (by omega)] at hc36
          obtain rfl : d = 7 := by omega
          exact W.vret hx hb hr (fun tJ htJ hWJ => ⟨⟨(), rfl, trivial, by dsimp only; rw [htJ]; exact hP⟩, hS.F htJ⟩) hS.2.2 d_C_countKey_80
        · skip
          rw [nI_ltI (by omega) (by omega)] at hc36
          have hd6 : d ≤ 6 := by omega
          refine lv_iload hx hb d_C_countKey_39 (lv_at hl 5 rfl) ?_
          refine lv_iload_n hx hb d_C_countKey_41 rfl (lv_at hl 1 rfl) ?_
          refine xa_cI (va_runS (As := [.int (nI d), .int (nI h)]) (rest := []) ⟨hx, hb, hml, hown, hts⟩ (c_C_cell l d h (by omega) (by omega)) (cwS 2 hts (zg_S zm_180 zm_181 zm_4 zm_182) rfl rfl rfl (by decide +kernel) ⟨Nat.le_of_ble_eq_true rfl, Nat.le_of_ble_eq_true rfl⟩) xp_preS rfl rfl hl.1 rfl (lv_room (Nat.le_of_ble_eq_true rfl)) d_C_countKey_42 ⟨Nat.zero_le _, Nat.zero_le _⟩) ?_
          refine lv_istore (lv' := [(6, .int (nI (2 ^ d + h % 2 ^ d))), (0, .ref (q 2)), (1, .int (nI h)), (2, .int x), (3, .int (af (2 ^ 6 + h % 2 ^ 6))), (4, .int (xb_i fl)), (5, .int (nI d))]) hx hb d_C_countKey_45 hl (Nat.le_of_ble_eq_true rfl) rfl (fun ls hl => ?_)
          refine lv_aload_n hx hb d_C_countKey_47 rfl (lv_at hl 1 rfl) ?_
          refine va_get (D := D) (ci := 2) (v := .ref (q 7)) (C := R_C) (T := F_C) (N := 2) hx hb hts (zi_C _) hown hK hP 2 rfl rfl 0 (by decide) (hts _ (List.mem_cons_of_mem _ zm_35)) (fun _ h9 => h9) rfl d_C_countKey_48 ?_
          refine lv_iload hx hb d_C_countKey_51 (lv_at hl 0 rfl) ?_
          refine lv_dup2_11 hx hb d_C_countKey_53 rfl rfl ?_
          refine xa_iald hx hb hK hP 7 2 rfl rfl (k := 2 ^ d + h % 2 ^ d) (xw_cell hd6 (Nat.mod_lt _ (Nat.two_pow_pos _))) (by decide) d_C_countKey_54 ?_
          refine xa_top (y := af (2 ^ d + h % 2 ^ d)) (xw_cu_hi af h x d _ (by omega)) ?_
          refine lv_iload_n hx hb d_C_countKey_55 rfl (lv_at hl 3 rfl) ?_
          refine lv_iadd hx hb d_C_countKey_56 ?_
          refine xa_iast (ws' := (xw_C q cA lim kf kg kn (upd (xw_cu af h x d) (2 ^ d + h % 2 ^ d) ((af (2 ^ d + h % 2 ^ d)) + x)) (xw_cb bf h x fl d) rk rv rm rs rn bp bk bv bo bn)) hx hb hK hP hD hS 7 2 rfl rfl (k := 2 ^ d + h % 2 ^ d) (xw_cell hd6 (Nat.mod_lt _ (Nat.two_pow_pos _))) (by decide) rfl d_C_countKey_57 (fun H locs hP hD hS => ?_)
          rw [show upd (xw_cu af h x d) (2 ^ d + h % 2 ^ d) ((af (2 ^ d + h % 2 ^ d)) + x) = xw_cu af h x (d + 1) from rfl] at hP hD
          refine lv_iload hx hb d_C_countKey_58 (lv_at hl 5 rfl) ?_
          refine lv_if_eq (tgt := 74) hx hb d_C_countKey_60 (by decide) (fun hc60 => ?_) (fun hc60 => ?_)
          · skip
            rw [xb_0] at hc60
            rw [show xw_cb bf h x fl d = xw_cb bf h x fl (d + 1) from xw_cb_f d (d + 1) hc60] at hP hD
            refine lv_iinc (k := 6) (v := nI (d + 1)) (lv' := [(5, .int (nI (d + 1))), (6, .int (nI (2 ^ d + h % 2 ^ d))), (0, .ref (q 2)), (1, .int (nI h)), (2, .int x), (3, .int (af (2 ^ 6 + h % 2 ^ 6))), (4, .int (xb_i fl))]) hx hb d_C_countKey_74 hl rfl (xn_inc _) (Nat.le_of_ble_eq_true rfl) rfl (fun ls hl => ?_)
            refine lv_goto (tgt := 32) hx hb d_C_countKey_77 (by decide) ?_
            exact ih32 (d + 1) ls _ _ (by omega) (lv_sub hl [2, 3, 4, 5, 6, 0] rfl) hP hD hS (by omega)
          · skip
            rw [xb_1] at hc60
            rw [show xw_cb bf h x fl d = xw_cu bf h x d from xw_cb_t hc60] at hP hD
            refine lv_aload_n hx hb d_C_countKey_63 rfl (lv_at hl 1 rfl) ?_
            refine va_get (D := D) (ci := 2) (v := .ref (q 8)) (C := R_C) (T := F_C) (N := 2) hx hb hts (zi_C _) hown hK hP 2 rfl rfl 1 (by decide) (hts _ (List.mem_cons_of_mem _ zm_36)) (fun _ h9 => h9) rfl d_C_countKey_64 ?_
            refine lv_iload hx hb d_C_countKey_67 (lv_at hl 0 rfl) ?_
            refine lv_dup2_11 hx hb d_C_countKey_69 rfl rfl ?_
            refine xa_iald hx hb hK hP 8 3 rfl rfl (k := 2 ^ d + h % 2 ^ d) (xw_cell hd6 (Nat.mod_lt _ (Nat.two_pow_pos _))) (by decide) d_C_countKey_70 ?_
            refine xa_top (y := bf (2 ^ d + h % 2 ^ d)) (xw_cu_hi bf h x d _ (by omega)) ?_
            refine lv_iload_n hx hb d_C_countKey_71 rfl (lv_at hl 3 rfl) ?_
            refine lv_iadd hx hb d_C_countKey_72 ?_
            refine xa_iast (ws' := (xw_C q cA lim kf kg kn (xw_cu af h x (d + 1)) (upd (xw_cu bf h x d) (2 ^ d + h % 2 ^ d) ((bf (2 ^ d + h % 2 ^ d)) + x)) rk rv rm rs rn bp bk bv bo bn)) hx hb hK hP hD hS 8 3 rfl rfl (k := 2 ^ d + h % 2 ^ d) (xw_cell hd6 (Nat.mod_lt _ (Nat.two_pow_pos _))) (by decide) rfl d_C_countKey_73 (fun H locs hP hD hS => ?_)
            rw [show upd (xw_cu bf h x d) (2 ^ d + h % 2 ^ d) ((bf (2 ^ d + h % 2 ^ d)) + x) = xw_cb bf h x fl (d + 1) from (xw_cb_t (d := d + 1) hc60).symm] at hP hD
            refine lv_iinc (k := 6) (v := nI (d + 1)) (lv' := [(5, .int (nI (d + 1))), (6, .int (nI (2 ^ d + h % 2 ^ d))), (0, .ref (q 2)), (1, .int (nI h)), (2, .int x), (3, .int (af (2 ^ 6 + h % 2 ^ 6))), (4, .int (xb_i fl))]) hx hb d_C_countKey_74 hl rfl (xn_inc _) (Nat.le_of_ble_eq_true rfl) rfl (fun ls hl => ?_)
            refine lv_goto (tgt := 32) hx hb d_C_countKey_77 (by decide) ?_
            exact ih32 (d + 1) ls _ _ (by omega) (lv_sub hl [2, 3, 4, 5, 6, 0] rfl) hP hD hS (by omega)
    exact lp32 _ 0 ls _ _ (by omega) (lv_sub hl [3, 4, 5, 2, 1, 0] rfl) hP hD hS (Nat.lt_succ_self _)
  · skip
    refine lv_iload_n hx hb d_C_countKey_16 rfl (lv_at hl 0 rfl) ?_
    refine lv_iload_n hx hb d_C_countKey_17 rfl (lv_at hl 3 rfl) ?_
    refine lv_iadd hx hb d_C_countKey_18 ?_
    refine lv_if_ne (tgt := 26) hx hb d_C_countKey_19 (by decide) (fun hc19 => ?_) (fun hc19 => ?_)
    · skip
      refine lv_iconst (v := nI 0) hx hb d_C_countKey_26 (by decide +kernel) ?_
      refine xa_top (y := xb_i fl) (by first | exact xw_fl1 hfl (Or.inl hc13) | exact xw_fl1 hfl (Or.inr hc19) | exact xw_fl0 hfl hc13 hc19) ?_
      refine lv_istore (lv' := [(4, .int (xb_i fl)), (3, .int (af (2 ^ 6 + h % 2 ^ 6))), (0, .ref (q 2)), (1, .int (nI h)), (2, .int x)]) hx hb d_C_countKey_27 hl (Nat.le_of_ble_eq_true rfl) rfl (fun ls hl => ?_)
      rw [show bf = xw_cb bf h x fl 0 from xw_cb_0 bf h x fl] at hP hD
      refine lv_iconst (v := nI 0) hx hb d_C_countKey_29 (by decide +kernel) ?_
      refine lv_istore (lv' := [(5, .int (nI 0)), (4, .int (xb_i fl)), (3, .int (af (2 ^ 6 + h % 2 ^ 6))), (0, .ref (q 2)), (1, .int (nI h)), (2, .int x)]) hx hb d_C_countKey_30 hl (Nat.le_of_ble_eq_true rfl) rfl (fun ls hl => ?_)
      have lp32 : ∀ (N : Nat) (d : Nat) (ls : Array Slot) (H : Heap) (locs : List Loc), (d ≤ 7) → lv_has ls 7 [(0, .ref (q 2)), (1, .int (nI h)), (2, .int x), (3, .int (af (2 ^ 6 + h % 2 ^ 6))), (4, .int (xb_i fl)), (5, .int (nI d))] → va_P D zz_cl (xw_C q cA lim kf kg kn (xw_cu af h x d) (xw_cb bf h x fl d) rk rv rm rs rn bp bk bv bo bn) H → va_D A (xw_C q cA lim kf kg kn (xw_cu af h x d) (xw_cb bf h x fl d) rk rv rm rs rn bp bk bv bo bn) → va_S A s.heap H locs → 7 - d < N → W pJ l eJ (headSpec zw_C_countKey ({ frames := 1, cells := 0, slots := 0, locals := 22 } : Room)).room s mJ ([.ref (q 2), .int (nI h), .int x] : List Value).toArray below meth cJ H locs 0 0 (MQ below (va_Qv (fun u : Unit => True) (fun (u : Unit) (t : State) => va_P D zz_cl (xw_C q cA lim kf kg kn (xw_cu af h x 7) (xw_cb bf h x fl 7) rk rv rm rs rn bp bk bv bo bn) t.heap) A) ([.ref (q 2), .int (nI h), .int x] : List Value).toArray s 0 0 A) (F0 mJ 32 ls []) := by
        intro N
        induction N with
        | zero => intro d ls H locs hd7 hl hP hD hS hm; exact absurd hm (Nat.not_lt_zero _)
        | succ N ih32 =>
          intro d ls H locs hd7 hl hP hD hS hm
          refine lv_iload hx hb d_C_countKey_32 (lv_at hl 5 rfl) ?_
          refine lv_bipush (v := nI 6) hx hb d_C_countKey_34 (by decide +kernel) ?_
          refine lv_icmp_gt (tgt := 80) hx hb d_C_countKey_36 (by decide) (fun hc36 => ?_) (fun hc36 => ?_)
          · skip
            rw [nI_ltI (by omega) (by omega)] at hc36
            obtain rfl : d = 7 := by omega
            exact W.vret hx hb hr (fun tJ htJ hWJ => ⟨⟨(), rfl, trivial, by dsimp only; rw [htJ]; exact hP⟩, hS.F htJ⟩) hS.2.2 d_C_countKey_80
          · skip
            rw [nI_ltI (by omega) (by omega)] at hc36
            have hd6 : d ≤ 6 := by omega
            refine lv_iload hx hb d_C_countKey_39 (lv_at hl 5 rfl) ?_
            refine lv_iload_n hx hb d_C_countKey_41 rfl (lv_at hl 1 rfl) ?_
            refine xa_cI (va_runS (As := [.int (nI d), .int (nI h)]) (rest := []) ⟨hx, hb, hml, hown, hts⟩ (c_C_cell l d h (by omega) (by omega)) (cwS 2 hts (zg_S zm_180 zm_181 zm_4 zm_182) rfl rfl rfl (by decide +kernel) ⟨Nat.le_of_ble_eq_true rfl, Nat.le_of_ble_eq_true rfl⟩) xp_preS rfl rfl hl.1 rfl (lv_room (Nat.le_of_ble_eq_true rfl)) d_C_countKey_42 ⟨Nat.zero_le _, Nat.zero_le _⟩) ?_
            refine lv_istore (lv' := [(6, .int (nI (2 ^ d + h % 2 ^ d))), (0, .ref (q 2)), (1, .int (nI h)), (2, .int x), (3, .int (af (2 ^ 6 + h % 2 ^ 6))), (4, .int (xb_i fl)), (5, .int (nI d))]) hx hb d_C_countKey_45 hl (Nat.le_of_ble_eq_true rfl) rfl (fun ls hl => ?_)
            refine lv_aload_n hx hb d_C_countKey_47 rfl (lv_at hl 1 rfl) ?_
            refine va_get (D := D) (ci := 2) (v := .ref (q 7)) (C := R_C) (T := F_C) (N := 2) hx hb hts (zi_C _) hown hK hP 2 rfl rfl 0 (by decide) (hts _ (List.mem_cons_of_mem _ zm_35)) (fun _ h9 => h9) rfl d_C_countKey_48 ?_
            refine lv_iload hx hb d_C_countKey_51 (lv_at hl 0 rfl) ?_
            refine lv_dup2_11 hx hb d_C_countKey_53 rfl rfl ?_
            refine xa_iald hx hb hK hP 7 2 rfl rfl (k := 2 ^ d + h % 2 ^ d) (xw_cell hd6 (Nat.mod_lt _ (Nat.two_pow_pos _))) (by decide) d_C_countKey_54 ?_
            refine xa_top (y := af (2 ^ d + h % 2 ^ d)) (xw_cu_hi af h x d _ (by omega)) ?_
            refine lv_iload_n hx hb d_C_countKey_55 rfl (lv_at hl 3 rfl) ?_
            refine lv_iadd hx hb d_C_countKey_56 ?_
            refine xa_iast (ws' := (xw_C q cA lim kf kg kn (upd (xw_cu af h x d) (2 ^ d + h % 2 ^ d) ((af (2 ^ d + h % 2 ^ d)) + x)) (xw_cb bf h x fl d) rk rv rm rs rn bp bk bv bo bn)) hx hb hK hP hD hS 7 2 rfl rfl (k := 2 ^ d + h % 2 ^ d) (xw_cell hd6 (Nat.mod_lt _ (Nat.two_pow_pos _))) (by decide) rfl d_C_countKey_57 (fun H locs hP hD hS => ?_)
            rw [show upd (xw_cu af h x d) (2 ^ d + h % 2 ^ d) ((af (2 ^ d + h % 2 ^ d)) + x) = xw_cu af h x (d + 1) from rfl] at hP hD
            refine lv_iload hx hb d_C_countKey_58 (lv_at hl 5 rfl) ?_
            refine lv_if_eq (tgt := 74) hx hb d_C_countKey_60 (by decide) (fun hc60 => ?_) (fun hc60 => ?_)
            · skip
              rw [xb_0] at hc60
              rw [show xw_cb bf h x fl d = xw_cb bf h x fl (d + 1) from xw_cb_f d (d + 1) hc60] at hP hD
              refine lv_iinc (k := 6) (v := nI (d + 1)) (lv' := [(5, .int (nI (d + 1))), (6, .int (nI (2 ^ d + h % 2 ^ d))), (0, .ref (q 2)), (1, .int (nI h)), (2, .int x), (3, .int (af (2 ^ 6 + h % 2 ^ 6))), (4, .int (xb_i fl))]) hx hb d_C_countKey_74 hl rfl (xn_inc _) (Nat.le_of_ble_eq_true rfl) rfl (fun ls hl => ?_)
              refine lv_goto (tgt := 32) hx hb d_C_countKey_77 (by decide) ?_
              exact ih32 (d + 1) ls _ _ (by omega) (lv_sub hl [2, 3, 4, 5, 6, 0] rfl) hP hD hS (by omega)
            · skip
              rw [xb_1] at hc60
              rw [show xw_cb bf h x fl d = xw_cu bf h x d from xw_cb_t hc60] at hP hD
              refine lv_aload_n hx hb d_C_countKey_63 rfl (lv_at hl 1 rfl) ?_
              refine va_get (D := D) (ci := 2) (v := .ref (q 8)) (C := R_C) (T := F_C) (N := 2) hx hb hts (zi_C _) hown hK hP 2 rfl rfl 1 (by decide) (hts _ (List.mem_cons_of_mem _ zm_36)) (fun _ h9 => h9) rfl d_C_countKey_64 ?_
              refine lv_iload hx hb d_C_countKey_67 (lv_at hl 0 rfl) ?_
              refine lv_dup2_11 hx hb d_C_countKey_69 rfl rfl ?_
              refine xa_iald hx hb hK hP 8 3 rfl rfl (k := 2 ^ d + h % 2 ^ d) (xw_cell hd6 (Nat.mod_lt _ (Nat.two_pow_pos _))) (by decide) d_C_countKey_70 ?_
              refine xa_top (y := bf (2 ^ d + h % 2 ^ d)) (xw_cu_hi bf h x d _ (by omega)) ?_
              refine lv_iload_n hx hb d_C_countKey_71 rfl (lv_at hl 3 rfl) ?_
              refine lv_iadd hx hb d_C_countKey_72 ?_
              refine xa_iast (ws' := (xw_C q cA lim kf kg kn (xw_cu af h x (d + 1)) (upd (xw_cu bf h x d) (2 ^ d + h % 2 ^ d) ((bf (2 ^ d + h % 2 ^ d)) + x)) rk rv rm rs rn bp bk bv bo bn)) hx hb hK hP hD hS 8 3 rfl rfl (k := 2 ^ d + h % 2 ^ d) (xw_cell hd6 (Nat.mod_lt _ (Nat.two_pow_pos _))) (by decide) rfl d_C_countKey_73 (fun H locs hP hD hS => ?_)
              rw [show upd (xw_cu bf h x d) (2 ^ d + h % 2 ^ d) ((bf (2 ^ d + h % 2 ^ d)) + x) = xw_cb bf h x fl (d + 1) from (xw_cb_t (d := d + 1) hc60).symm] at hP hD
              refine lv_iinc (k := 6) (v := nI (d + 1)) (lv' := [(5, .int (nI (d + 1))), (6, .int (nI (2 ^ d + h % 2 ^ d))), (0, .ref (q 2)), (1, .int (nI h)), (2, .int x), (3, .int (af (2 ^ 6 + h % 2 ^ 6))), (4, .int (xb_i fl))]) hx hb d_C_countKey_74 hl rfl (xn_inc _) (Nat.le_of_ble_eq_true rfl) rfl (fun ls hl => ?_)
              refine lv_goto (tgt := 32) hx hb d_C_countKey_77 (by decide) ?_
              exact ih32 (d + 1) ls _ _ (by omega) (lv_sub hl [2, 3, 4, 5, 6, 0] rfl) hP hD hS (by omega)
      exact lp32 _ 0 ls _ _ (by omega) (lv_sub hl [3, 4, 5, 2, 1, 0] rfl) hP hD hS (Nat.lt_succ_self _)
    · skip
      refine lv_iconst (v := nI 1) hx hb d_C_countKey_22 (by decide +kernel) ?_
      refine lv_goto (tgt := 27) hx hb d_C_countKey_23 (by decide) ?_
      refine xa_top (y := xb_i fl) (by first | exact xw_fl1 hfl (Or.inl hc13) | exact xw_fl1 hfl (Or.inr hc19) | exact xw_fl0 hfl hc13 hc19) ?_
      refine lv_istore (lv' := [(4, .int (xb_i fl)), (3, .int (af (2 ^ 6 + h % 2 ^ 6))), (0, .ref (q 2)), (1, .int (nI h)), (2, .int x)]) hx hb d_C_countKey_27 hl (Nat.le_of_ble_eq_true rfl) rfl (fun ls hl => ?_)
      rw [show bf = xw_cb bf h x fl 0 from xw_cb_0 bf h x fl] at hP hD
      refine lv_iconst (v := nI 0) hx hb d_C_countKey_29 (by decide +kernel) ?_
      refine lv_istore (lv' := [(5, .int (nI 0)), (4, .int (xb_i fl)), (3, .int (af (2 ^ 6 + h % 2 ^ 6))), (0, .ref (q 2)), (1, .int (nI h)), (2, .int x)]) hx hb d_C_countKey_30 hl (Nat.le_of_ble_eq_true rfl) rfl (fun ls hl => ?_)
      have lp32 : ∀ (N : Nat) (d : Nat) (ls : Array Slot) (H : Heap) (locs : List Loc), (d ≤ 7) → lv_has ls 7 [(0, .ref (q 2)), (1, .int (nI h)), (2, .int x), (3, .int (af (2 ^ 6 + h % 2 ^ 6))), (4, .int (xb_i fl)), (5, .int (nI d))] → va_P D zz_cl (xw_C q cA lim kf kg kn (xw_cu af h x d) (xw_cb bf h x fl d) rk rv rm rs rn bp bk bv bo bn) H → va_D A (xw_C q cA lim kf kg kn (xw_cu af h x d) (xw_cb bf h x fl d) rk rv rm rs rn bp bk bv bo bn) → va_S A s.heap H locs → 7 - d < N → W pJ l eJ (headSpec zw_C_countKey ({ frames := 1, cells := 0, slots := 0, locals := 22 } : Room)).room s mJ ([.ref (q 2), .int (nI h), .int x] : List Value).toArray below meth cJ H locs 0 0 (MQ below (va_Qv (fun u : Unit => True) (fun (u : Unit) (t : State) => va_P D zz_cl (xw_C q cA lim kf kg kn (xw_cu af h x 7) (xw_cb bf h x fl 7) rk rv rm rs rn bp bk bv bo bn) t.heap) A) ([.ref (q 2), .int (nI h), .int x] : List Value).toArray s 0 0 A) (F0 mJ 32 ls []) := by
        intro N
        induction N with
        | zero => intro d ls H locs hd7 hl hP hD hS hm; exact absurd hm (Nat.not_lt_zero _)
        | succ N ih32 =>
          intro d ls H locs hd7 hl hP hD hS hm
          refine lv_iload hx hb d_C_countKey_32 (lv_at hl 5 rfl) ?_
          refine lv_bipush (v := nI 6) hx hb d_C_countKey_34 (by decide +kernel) ?_
          refine lv_icmp_gt (tgt := 80) hx hb d_C_countKey_36 (by decide) (fun hc36 => ?_) (fun hc36 => ?_)
          · skip
            rw [nI_ltI (by omega) (by omega)] at hc36
            obtain rfl : d = 7 := by omega
            exact W.vret hx hb hr (fun tJ htJ hWJ => ⟨⟨(), rfl, trivial, by dsimp only; rw [htJ]; exact hP⟩, hS.F htJ⟩) hS.2.2 d_C_countKey_80
          · skip
            rw [nI_ltI (by omega) (by omega)] at hc36
            have hd6 : d ≤ 6 := by omega
            refine lv_iload hx hb d_C_countKey_39 (lv_at hl 5 rfl) ?_
            refine lv_iload_n hx hb d_C_countKey_41 rfl (lv_at hl 1 rfl) ?_
            refine xa_cI (va_runS (As := [.int (nI d), .int (nI h)]) (rest := []) ⟨hx, hb, hml, hown, hts⟩ (c_C_cell l d h (by omega) (by omega)) (cwS 2 hts (zg_S zm_180 zm_181 zm_4 zm_182) rfl rfl rfl (by decide +kernel) ⟨Nat.le_of_ble_eq_true rfl, Nat.le_of_ble_eq_true rfl⟩) xp_preS rfl rfl hl.1 rfl (lv_room (Nat.le_of_ble_eq_true rfl)) d_C_countKey_42 ⟨Nat.zero_le _, Nat.zero_le _⟩) ?_
            refine lv_istore (lv' := [(6, .int (nI (2 ^ d + h % 2 ^ d))), (0, .ref (q 2)), (1, .int (nI h)), (2, .int x), (3, .int (af (2 ^ 6 + h % 2 ^ 6))), (4, .int (xb_i fl)), (5, .int (nI d))]) hx hb d_C_countKey_45 hl (Nat.le_of_ble_eq_true rfl) rfl (fun ls hl => ?_)
            refine lv_aload_n hx hb d_C_countKey_47 rfl (lv_at hl 1 rfl) ?_
            refine va_get (D := D) (ci := 2) (v := .ref (q 7)) (C := R_C) (T := F_C) (N := 2) hx hb hts (zi_C _) hown hK hP 2 rfl rfl 0 (by decide) (hts _ (List.mem_cons_of_mem _ zm_35)) (fun _ h9 => h9) rfl d_C_countKey_48 ?_
            refine lv_iload hx hb d_C_countKey_51 (lv_at hl 0 rfl) ?_
            refine lv_dup2_11 hx hb d_C_countKey_53 rfl rfl ?_
            refine xa_iald hx hb hK hP 7 2 rfl rfl (k := 2 ^ d + h % 2 ^ d) (xw_cell hd6 (Nat.mod_lt _ (Nat.two_pow_pos _))) (by decide) d_C_countKey_54 ?_
            refine xa_top (y := af (2 ^ d + h % 2 ^ d)) (xw_cu_hi af h x d _ (by omega)) ?_
            refine lv_iload_n hx hb d_C_countKey_55 rfl (lv_at hl 3 rfl) ?_
            refine lv_iadd hx hb d_C_countKey_56 ?_
            refine xa_iast (ws' := (xw_C q cA lim kf kg kn (upd (xw_cu af h x d) (2 ^ d + h % 2 ^ d) ((af (2 ^ d + h % 2 ^ d)) + x)) (xw_cb bf h x fl d) rk rv rm rs rn bp bk bv bo bn)) hx hb hK hP hD hS 7 2 rfl rfl (k := 2 ^ d + h % 2 ^ d) (xw_cell hd6 (Nat.mod_lt _ (Nat.two_pow_pos _))) (by decide) rfl d_C_countKey_57 (fun H locs hP hD hS => ?_)
            rw [show upd (xw_cu af h x d) (2 ^ d + h % 2 ^ d) ((af (2 ^ d + h % 2 ^ d)) + x) = xw_cu af h x (d + 1) from rfl] at hP hD
            refine lv_iload hx hb d_C_countKey_58 (lv_at hl 5 rfl) ?_
            refine lv_if_eq (tgt := 74) hx hb d_C_countKey_60 (by decide) (fun hc60 => ?_) (fun hc60 => ?_)
            · skip
              rw [xb_0] at hc60
              rw [show xw_cb bf h x fl d = xw_cb bf h x fl (d + 1) from xw_cb_f d (d + 1) hc60] at hP hD
              refine lv_iinc (k := 6) (v := nI (d + 1)) (lv' := [(5, .int (nI (d + 1))), (6, .int (nI (2 ^ d + h % 2 ^ d))), (0, .ref (q 2)), (1, .int (nI h)), (2, .int x), (3, .int (af (2 ^ 6 + h % 2 ^ 6))), (4, .int (xb_i fl))]) hx hb d_C_countKey_74 hl rfl (xn_inc _) (Nat.le_of_ble_eq_true rfl) rfl (fun ls hl => ?_)
              refine lv_goto (tgt := 32) hx hb d_C_countKey_77 (by decide) ?_
              exact ih32 (d + 1) ls _ _ (by omega) (lv_sub hl [2, 3, 4, 5, 6, 0] rfl) hP hD hS (by omega)
            · skip
              rw [xb_1] at hc60
              rw [show xw_cb bf h x fl d = xw_cu bf h x d from xw_cb_t hc60] at hP hD
              refine lv_aload_n hx hb d_C_countKey_63 rfl (lv_at hl 1 rfl) ?_
              refine va_get (D := D) (ci := 2) (v := .ref (q 8)) (C := R_C) (T := F_C) (N := 2) hx hb hts (zi_C _) hown hK hP 2 rfl rfl 1 (by decide) (hts _ (List.mem_cons_of_mem _ zm_36)) (fun _ h9 => h9) rfl d_C_countKey_64 ?_
              refine lv_iload hx hb d_C_countKey_67 (lv_at hl 0 rfl) ?_
              refine lv_dup2_11 hx hb d_C_countKey_69 rfl rfl ?_
              refine xa_iald hx hb hK hP 8 3 rfl rfl (k := 2 ^ d + h % 2 ^ d) (xw_cell hd6 (Nat.mod_lt _ (Nat.two_pow_pos _))) (by decide) d_C_countKey_70 ?_
              refine xa_top (y := bf (2 ^ d + h % 2 ^ d)) (xw_cu_hi bf h x d _ (by omega)) ?_
              refine lv_iload_n hx hb d_C_countKey_71 rfl (lv_at hl 3 rfl) ?_
              refine lv_iadd hx hb d_C_countKey_72 ?_
              refine xa_iast (ws' := (xw_C q cA lim kf kg kn (xw_cu af h x (d + 1)) (upd (xw_cu bf h x d) (2 ^ d + h % 2 ^ d) ((bf (2 ^ d + h % 2 ^ d)) + x)) rk rv rm rs rn bp bk bv bo bn)) hx hb hK hP hD hS 8 3 rfl rfl (k := 2 ^ d + h % 2 ^ d) (xw_cell hd6 (Nat.mod_lt _ (Nat.two_pow_pos _))) (by decide) rfl d_C_countKey_73 (fun H locs hP hD hS => ?_)
              rw [show upd (xw_cu bf h x d) (2 ^ d + h % 2 ^ d) ((bf (2 ^ d + h % 2 ^ d)) + x) = xw_cb bf h x fl (d + 1) from (xw_cb_t (d := d + 1) hc60).symm] at hP hD
              refine lv_iinc (k := 6) (v := nI (d + 1)) (lv' := [(5, .int (nI (d + 1))), (6, .int (nI (2 ^ d + h % 2 ^ d))), (0, .ref (q 2)), (1, .int (nI h)), (2, .int x), (3, .int (af (2 ^ 6 + h % 2 ^ 6))), (4, .int (xb_i fl))]) hx hb d_C_countKey_74 hl rfl (xn_inc _) (Nat.le_of_ble_eq_true rfl) rfl (fun ls hl => ?_)
              refine lv_goto (tgt := 32) hx hb d_C_countKey_77 (by decide) ?_
              exact ih32 (d + 1) ls _ _ (by omega) (lv_sub hl [2, 3, 4, 5, 6, 0] rfl) hP hD hS (by omega)
      exact lp32 _ 0 ls _ _ (by omega) (lv_sub hl [3, 4, 5, 2, 1, 0] rfl) hP hD hS (Nat.lt_succ_self _)
set_option maxHeartbeats 4000000 in
set_option maxRecDepth 100000 in
theorem c_K_insert (l : Launch) (D : va_G) (q : Nat → Nat) (cA : Nat → ClassId) (lim : Int32) (kf : Nat → Int32) (kg : Nat → Int64) (af : Nat → Int32) (bf : Nat → Int32) (rk : Nat → Int32) (rv : Nat → Int64) (rm : Nat → Int32) (rs : Nat → Int32) (rn : Int32) (bp : Nat → Int32) (bk : Nat → Int32) (bv : Nat → Int64) (bo : Int32) (bn : Int32) (sz : Nat) (K : List xk_E) (k : Int32) (v : Int64) (hT : xw_KT kf kg af bf K) (hk : xk_has K k = false) (hlt : K.length < 65) : Met l y_K_insert zw_K_insert ({ frames := 2, cells := 0, slots := 0, locals := 60 } : Room) (va_Pc [.ref (q 1), .int (nI (xk_lo K k)), .int k, .long v] (xp_Q D zz_cl (xw_tC cA) sz (xw_C q cA lim kf kg (nI K.length) af bf rk rv rm rs rn bp bk bv bo bn))) (va_Qv (fun u : (Nat → Int32) × (Nat → Int64) × (Nat → Int32) × (Nat → Int32) => xw_KT u.1 u.2.1 u.2.2.1 u.2.2.2 (xk_set K k v)) (fun (u : (Nat → Int32) × (Nat → Int64) × (Nat → Int32) × (Nat → Int32)) (t : State) => va_P D zz_cl (xw_C q cA lim u.1 u.2.1 (nI (xk_set K k v).length) u.2.2.1 u.2.2.2 rk rv rm rs rn bp bk bv bo bn) t.heap) (va_A (xw_C q cA lim kf kg (nI K.length) af bf rk rv rm rs rn bp bk bv bo bn) sz)) 0 0 (va_A (xw_C q cA lim kf kg (nI K.length) af bf rk rv rm rs rn bp bk bv bo bn) sz) := by
  refine Met.ofW (cc := b_K_insert) (maxL := 5) (ret := none) (by decide) rfl ?_
  intro pJ eJ s mJ args below meth cJ s₁ B hml hv
  obtain ⟨rfl, hsz, hP, hK, hD0, hZ⟩ := hv
  have hx := B.exec
  have hb := B.bytes
  have hr := B.returns
  have hts := atoms_spec (ws := zw_K_insert) B.pre
  have hown : s.vm.findClass R_K = some mJ.cls := findClass_of_methodNamed B.named
  have hlocks := B.notSynchronized
  subst hsz
  have hD := hD0.self (sz := s.heap.size)
  generalize hAe : va_A (xw_C q cA lim kf kg (nI K.length) af bf rk rv rm rs rn bp bk bv bo bn) s.heap.size = A at hD ⊢
  have hA : ∀ q : Nat, s.heap.size ≤ q → A q := fun q h => by rw [← hAe]; exact Or.inr h
  have hS : va_S A s.heap s.heap [] := va_S.rf
  have hl := lv_entry ([.ref (q 1), .int (nI (xk_lo K k)), .int k, .long v]) (n := 5) (Nat.le_of_ble_eq_true rfl)
  rw [lg_entry_eq]
  generalize (lg_sl ([.ref (q 1), .int (nI (xk_lo K k)), .int k, .long v]) ++ List.replicate (5 - (lg_sl ([.ref (q 1), .int (nI (xk_lo K k)), .int k, .long v])).length) Slot.unset).toArray = ls at hl ⊢
  have hl : lv_has ls 5 [(0, .ref (q 1)), (1, .int (nI (xk_lo K k))), (2, .int k), (3, .long v)] := hl
  have hlo := xk_lo_le K k
  have hh := xk_h_lt k
  refine lv_aload_n hx hb d_K_insert_0 rfl (lv_at hl 0 rfl) ?_
  refine va_get (D := D) (ci := 1) (v := .ref (q 5)) (C := R_K) (T := F_K) (N := 4) hx hb hts (zi_K _) hown hK hP 1 rfl rfl 0 (by decide) (hts _ (List.mem_cons_of_mem _ zm_44)) (fun _ h9 => h9) rfl d_K_insert_1 ?_
  refine lv_iload_n hx hb d_K_insert_4 rfl (lv_at hl 1 rfl) ?_
  refine lv_aload_n hx hb d_K_insert_5 rfl (lv_at hl 0 rfl) ?_
  refine va_get (D := D) (ci := 1) (v := .ref (q 5)) (C := R_K) (T := F_K) (N := 4) hx hb hts (zi_K _) hown hK hP 1 rfl rfl 0 (by decide) (hts _ (List.mem_cons_of_mem _ zm_44)) (fun _ h9 => h9) rfl d_K_insert_6 ?_
  refine lv_iload_n hx hb d_K_insert_9 rfl (lv_at hl 1 rfl) ?_
  refine lv_iconst (v := nI 1) hx hb d_K_insert_10 (by decide +kernel) ?_
  refine lv_iadd hx hb d_K_insert_11 ?_
  refine xa_top (y := nI (xk_lo K k + 1)) (nI_add _ _) ?_
  refine lv_aload_n hx hb d_K_insert_12 rfl (lv_at hl 0 rfl) ?_
  refine va_get (D := D) (ci := 1) (v := .int (nI K.length)) (C := R_K) (T := F_K) (N := 4) hx hb hts (zi_K _) hown hK hP 1 rfl rfl 3 (by decide) (hts _ (List.mem_cons_of_mem _ zm_48)) (fun _ h9 => h9) rfl d_K_insert_13 ?_
  refine lv_iload_n hx hb d_K_insert_16 rfl (lv_at hl 1 rfl) ?_
  refine lv_isub hx hb d_K_insert_17 ?_
  refine xa_top (y := nI (K.length - (xk_lo K k))) (pk_sub (by omega)) ?_
  refine xa_copyi (ws' := (xw_C q cA lim (va_cpy kf kf (xk_lo K k) (xk_lo K k + 1) (K.length - (xk_lo K k))) kg (nI K.length) af bf rk rv rm rs rn bp bk bv bo bn)) hx hb (hml.trans hl.1.symm) hown (hts _ (List.mem_cons_of_mem _ zm_170)) (hts _ (List.mem_cons_of_mem _ zm_172)) (hts _ (List.mem_cons_of_mem _ zm_171)) (hts _ (List.mem_cons_of_mem _ zm_8)) hK hP hD hS 5 5 0 0 rfl rfl rfl rfl (sp := xk_lo K k) (dp := xk_lo K k + 1) (n := K.length - (xk_lo K k)) (by omega) (by omega) (by decide) (by decide) (Nat.le_of_ble_eq_true rfl) (Nat.le_of_ble_eq_true rfl) rfl d_K_insert_18 (fun H locs hP hD hS => ?_)
  refine lv_aload_n hx hb d_K_insert_21 rfl (lv_at hl 0 rfl) ?_
  refine va_get (D := D) (ci := 1) (v := .ref (q 6)) (C := R_K) (T := F_K) (N := 4) hx hb hts (zi_K _) hown hK hP 1 rfl rfl 1 (by decide) (hts _ (List.mem_cons_of_mem _ zm_45)) (fun _ h9 => h9) rfl d_K_insert_22 ?_
  refine lv_iload_n hx hb d_K_insert_25 rfl (lv_at hl 1 rfl) ?_
  refine lv_aload_n hx hb d_K_insert_26 rfl (lv_at hl 0 rfl) ?_
  refine va_get (D := D) (ci := 1) (v := .ref (q 6)) (C := R_K) (T := F_K) (N := 4) hx hb hts (zi_K _) hown hK hP 1 rfl rfl 1 (by decide) (hts _ (List.mem_cons_of_mem _ zm_45)) (fun _ h9 => h9) rfl d_K_insert_27 ?_
  refine lv_iload_n hx hb d_K_insert_30 rfl (lv_at hl 1 rfl) ?_
  refine lv_iconst (v := nI 1) hx hb d_K_insert_31 (by decide +kernel) ?_
  refine lv_iadd hx hb d_K_insert_32 ?_
  refine xa_top (y := nI (xk_lo K k + 1)) (nI_add _ _) ?_
  refine lv_aload_n hx hb d_K_insert_33 rfl (lv_at hl 0 rfl) ?_
  refine va_get (D := D) (ci := 1) (v := .int (nI K.length)) (C := R_K) (T := F_K) (N := 4) hx hb hts (zi_K _) hown hK hP 1 rfl rfl 3 (by decide) (hts _ (List.mem_cons_of_mem _ zm_48)) (fun _ h9 => h9) rfl d_K_insert_34 ?_
  refine lv_iload_n hx hb d_K_insert_37 rfl (lv_at hl 1 rfl) ?_
  refine lv_isub hx hb d_K_insert_38 ?_
  refine xa_top (y := nI (K.length - (xk_lo K k))) (pk_sub (by omega)) ?_
  refine xa_copyl (ws' := (xw_C q cA lim (va_cpy kf kf (xk_lo K k) (xk_lo K k + 1) (K.length - (xk_lo K k))) (va_cpy kg kg (xk_lo K k) (xk_lo K k + 1) (K.length - (xk_lo K k))) (nI K.length) af bf rk rv rm rs rn bp bk bv bo bn)) hx hb (hml.trans hl.1.symm) hown (hts _ (List.mem_cons_of_mem _ zm_170)) (hts _ (List.mem_cons_of_mem _ zm_172)) (hts _ (List.mem_cons_of_mem _ zm_171)) (hts _ (List.mem_cons_of_mem _ zm_8)) hK hP hD hS 6 6 1 1 rfl rfl rfl rfl (sp := xk_lo K k) (dp := xk_lo K k + 1) (n := K.length - (xk_lo K k)) (by omega) (by omega) (by decide) (by decide) (Nat.le_of_ble_eq_true rfl) (Nat.le_of_ble_eq_true rfl) rfl d_K_insert_39 (fun H locs hP hD hS => ?_)
  refine lv_aload_n hx hb d_K_insert_42 rfl (lv_at hl 0 rfl) ?_
  refine va_get (D := D) (ci := 1) (v := .ref (q 5)) (C := R_K) (T := F_K) (N := 4) hx hb hts (zi_K _) hown hK hP 1 rfl rfl 0 (by decide) (hts _ (List.mem_cons_of_mem _ zm_44)) (fun _ h9 => h9) rfl d_K_insert_43 ?_
  refine lv_iload_n hx hb d_K_insert_46 rfl (lv_at hl 1 rfl) ?_
  refine lv_iload_n hx hb d_K_insert_47 rfl (lv_at hl 2 rfl) ?_
  refine xa_iast (ws' := (xw_C q cA lim (upd (va_cpy kf kf (xk_lo K k) (xk_lo K k + 1) (K.length - (xk_lo K k))) (xk_lo K k) k) (va_cpy kg kg (xk_lo K k) (xk_lo K k + 1) (K.length - (xk_lo K k))) (nI K.length) af bf rk rv rm rs rn bp bk bv bo bn)) hx hb hK hP hD hS 5 0 rfl rfl (k := xk_lo K k) (by omega) (by decide) rfl d_K_insert_48 (fun H locs hP hD hS => ?_)
  refine lv_aload_n hx hb d_K_insert_49 rfl (lv_at hl 0 rfl) ?_
  refine va_get (D := D) (ci := 1) (v := .ref (q 6)) (C := R_K) (T := F_K) (N := 4) hx hb hts (zi_K _) hown hK hP 1 rfl rfl 1 (by decide) (hts _ (List.mem_cons_of_mem _ zm_45)) (fun _ h9 => h9) rfl d_K_insert_50 ?_
  refine lv_iload_n hx hb d_K_insert_53 rfl (lv_at hl 1 rfl) ?_
  refine lv_lload_n hx hb d_K_insert_54 rfl (lv_at hl 3 rfl) ?_
  refine xa_last (ws' := (xw_C q cA lim (upd (va_cpy kf kf (xk_lo K k) (xk_lo K k + 1) (K.length - (xk_lo K k))) (xk_lo K k) k) (vp_updL (va_cpy kg kg (xk_lo K k) (xk_lo K k + 1) (K.length - (xk_lo K k))) (xk_lo K k) v) (nI K.length) af bf rk rv rm rs rn bp bk bv bo bn)) hx hb hK hP hD hS 6 1 rfl rfl (k := xk_lo K k) (by omega) (by decide) rfl d_K_insert_55 (fun H locs hP hD hS => ?_)
  refine lv_aload_n hx hb d_K_insert_56 rfl (lv_at hl 0 rfl) ?_
  refine lv_dup hx hb d_K_insert_57 rfl ?_
  refine va_get (D := D) (ci := 1) (v := .int (nI K.length)) (C := R_K) (T := F_K) (N := 4) hx hb hts (zi_K _) hown hK hP 1 rfl rfl 3 (by decide) (hts _ (List.mem_cons_of_mem _ zm_48)) (fun _ h9 => h9) rfl d_K_insert_58 ?_
  refine lv_iconst (v := nI 1) hx hb d_K_insert_61 (by decide +kernel) ?_
  refine lv_iadd hx hb d_K_insert_62 ?_
  refine xa_top (y := nI (K.length + 1)) (nI_add _ _) ?_
  refine xa_put (ws' := (xw_C q cA lim (upd (va_cpy kf kf (xk_lo K k) (xk_lo K k + 1) (K.length - (xk_lo K k))) (xk_lo K k) k) (vp_updL (va_cpy kg kg (xk_lo K k) (xk_lo K k + 1) (K.length - (xk_lo K k))) (xk_lo K k) v) (nI (K.length + 1)) af bf rk rv rm rs rn bp bk bv bo bn)) (ci := 1) (v := .int (nI (K.length + 1))) (ty := .int) (C := R_K) (T := F_K) (N := 4) hx hb hts (zi_K _) t_K t_K_ok n_K hown hK hP hD hS 1 rfl rfl 3 (by decide) (hts _ (List.mem_cons_of_mem _ zm_48)) (fun _ h9 => h9) rfl (by decide +kernel) (rfl) (rfl) (Nat.le_of_ble_eq_true rfl) rfl d_K_insert_63 (fun H locs hP hD hS => ?_)
  refine lv_aload_n hx hb d_K_insert_66 rfl (lv_at hl 0 rfl) ?_
  refine va_get (D := D) (ci := 1) (v := .ref (q 2)) (C := R_K) (T := F_K) (N := 4) hx hb hts (zi_K _) hown hK hP 1 rfl rfl 2 (by decide) (hts _ (List.mem_cons_of_mem _ zm_46)) (fun _ h9 => h9) rfl d_K_insert_67 ?_
  refine lv_iload_n hx hb d_K_insert_70 rfl (lv_at hl 2 rfl) ?_
  refine xa_cI (va_runSN (As := [.int k]) (rest := [.ref (q 2)]) ⟨hx, hb, hml, hown, hts⟩ (c_E_hash l k) ⟨(va_cnB 1 hts (zg_C zm_175) rfl rfl rfl (hZ _ zn_173) (hts _ (List.mem_cons_of_mem _ zm_1)) (by decide +kernel) ⟨Nat.le_of_ble_eq_true rfl, Nat.le_of_ble_eq_true rfl⟩), (hts _ (List.mem_cons_of_mem _ zm_174)), trivial⟩ xp_preS rfl rfl hl.1 rfl (lv_room (Nat.le_of_ble_eq_true rfl)) d_K_insert_71 ⟨Nat.zero_le _, Nat.zero_le _⟩) ?_
  refine lv_iconst (v := nI 1) hx hb d_K_insert_74 (by decide +kernel) ?_
  refine xa_cMV (va_runV (As := [.int (nI (xk_h k)), .int (nI 1)]) (rest := []) ⟨hx, hb, hml, hown, hts⟩ (c_C_count l D q cA lim (upd (va_cpy kf kf (xk_lo K k) (xk_lo K k + 1) (K.length - (xk_lo K k))) (xk_lo K k) k) (vp_updL (va_cpy kg kg (xk_lo K k) (xk_lo K k + 1) (K.length - (xk_lo K k))) (xk_lo K k) v) (nI (K.length + 1)) af bf rk rv rm rs rn bp bk bv bo bn H.size (xk_h k) (nI 1) (decide (xd_cn K 6 (xk_h k) = 0)) hh (xw_flP hT hh)) (cwV 2 hts (zg_V zm_176 zm_177 zm_178 zm_4 zm_179) rfl rfl rfl (by decide +kernel) ⟨Nat.le_of_ble_eq_true rfl, Nat.le_of_ble_eq_true rfl⟩) (xp_preVQ (ci := 2) (q0 := 2) hK hP hD rfl rfl rfl hZ) rfl rfl hl.1 rfl (lv_room (Nat.le_of_ble_eq_true rfl)) d_K_insert_75 ⟨Nat.zero_le _, Nat.zero_le _⟩) hS (xa_F hD hS hA) (fun u H locs hp75 hP hS => ?_)
  have hP : va_P D zz_cl (xw_C q cA lim (upd (va_cpy kf kf (xk_lo K k) (xk_lo K k + 1) (K.length - (xk_lo K k))) (xk_lo K k) k) (vp_updL (va_cpy kg kg (xk_lo K k) (xk_lo K k + 1) (K.length - (xk_lo K k))) (xk_lo K k) v) (nI (K.length + 1)) (xw_cu af (xk_h k) (nI 1) 7) (xw_cb bf (xk_h k) (nI 1) (decide (xd_cn K 6 (xk_h k) = 0)) 7) rk rv rm rs rn bp bk bv bo bn) H := hP
  have hD : va_D A (xw_C q cA lim (upd (va_cpy kf kf (xk_lo K k) (xk_lo K k + 1) (K.length - (xk_lo K k))) (xk_lo K k) k) (vp_updL (va_cpy kg kg (xk_lo K k) (xk_lo K k + 1) (K.length - (xk_lo K k))) (xk_lo K k) v) (nI (K.length + 1)) (xw_cu af (xk_h k) (nI 1) 7) (xw_cb bf (xk_h k) (nI 1) (decide (xd_cn K 6 (xk_h k) = 0)) 7) rk rv rm rs rn bp bk bv bo bn) := xa_E hD rfl
  exact W.vret hx hb hr (fun tJ htJ hWJ => ⟨⟨(upd (va_cpy kf kf (xk_lo K k) (xk_lo K k + 1) (K.length - (xk_lo K k))) (xk_lo K k) k, vp_updL (va_cpy kg kg (xk_lo K k) (xk_lo K k + 1) (K.length - (xk_lo K k))) (xk_lo K k) v, xw_cu af (xk_h k) (nI 1) 7, xw_cb bf (xk_h k) (nI 1) (decide (xd_cn K 6 (xk_h k) = 0)) 7), rfl, xw_KT_insb hT hk hlt (fun j hj => xm_ins kf hlo k hj) (fun j hj => xm_insL kg hlo v hj) rfl, by dsimp only; rw [htJ]; rw [xk_set_len, hk]; exact hP⟩, hS.F htJ⟩) hS.2.2 d_K_insert_78
set_option maxHeartbeats 4000000 in
set_option maxRecDepth 100000 in
theorem c_K_set (l : Launch) (D : va_G) (q : Nat → Nat) (cA : Nat → ClassId) (lim : Int32) (kf : Nat → Int32) (kg : Nat → Int64) (af : Nat → Int32) (bf : Nat → Int32) (rk : Nat → Int32) (rv : Nat → Int64) (rm : Nat → Int32) (rs : Nat → Int32) (rn : Int32) (bp : Nat → Int32) (bk : Nat → Int32) (bv : Nat → Int64) (bo : Int32) (bn : Int32) (sz : Nat) (K : List xk_E) (k : Int32) (v : Int64) (hT : xw_KT kf kg af bf K) (hro : xk_has K k = true ∨ K.length < 65) : Met l y_K_set zw_K_set ({ frames := 3, cells := 0, slots := 0, locals := 84 } : Room) (va_Pc [.ref (q 1), .int k, .long v] (xp_Q D zz_cl (xw_tC cA) sz (xw_C q cA lim kf kg (nI K.length) af bf rk rv rm rs rn bp bk bv bo bn))) (va_Qv (fun u : (Nat → Int32) × (Nat → Int64) × (Nat → Int32) × (Nat → Int32) => xw_KT u.1 u.2.1 u.2.2.1 u.2.2.2 (xk_set K k v)) (fun (u : (Nat → Int32) × (Nat → Int64) × (Nat → Int32) × (Nat → Int32)) (t : State) => va_P D zz_cl (xw_C q cA lim u.1 u.2.1 (nI (xk_set K k v).length) u.2.2.1 u.2.2.2 rk rv rm rs rn bp bk bv bo bn) t.heap) (va_A (xw_C q cA lim kf kg (nI K.length) af bf rk rv rm rs rn bp bk bv bo bn) sz)) 0 0 (va_A (xw_C q cA lim kf kg (nI K.length) af bf rk rv rm rs rn bp bk bv bo bn) sz) := by
  refine Met.ofW (cc := b_K_set) (maxL := 5) (ret := none) (by decide) rfl ?_
  intro pJ eJ s mJ args below meth cJ s₁ B hml hv
  obtain ⟨rfl, hsz, hP, hK, hD0, hZ⟩ := hv
  have hx := B.exec
  have hb := B.bytes
  have hr := B.returns
  have hts := atoms_spec (ws := zw_K_set) B.pre
  have hown : s.vm.findClass R_K = some mJ.cls := findClass_of_methodNamed B.named
  have hlocks := B.notSynchronized
  subst hsz
  have hD := hD0.self (sz := s.heap.size)
  generalize hAe : va_A (xw_C q cA lim kf kg (nI K.length) af bf rk rv rm rs rn bp bk bv bo bn) s.heap.size = A at hD ⊢
  have hA : ∀ q : Nat, s.heap.size ≤ q → A q := fun q h => by rw [← hAe]; exact Or.inr h
  have hS : va_S A s.heap s.heap [] := va_S.rf
  have hl := lv_entry ([.ref (q 1), .int k, .long v]) (n := 5) (Nat.le_of_ble_eq_true rfl)
  rw [lg_entry_eq]
  generalize (lg_sl ([.ref (q 1), .int k, .long v]) ++ List.replicate (5 - (lg_sl ([.ref (q 1), .int k, .long v])).length) Slot.unset).toArray = ls at hl ⊢
  have hl : lv_has ls 5 [(0, .ref (q 1)), (1, .int k), (2, .long v)] := hl
  have hlen := hT.1
  refine lv_aload_n hx hb d_K_set_0 rfl (lv_at hl 0 rfl) ?_
  refine lv_iload_n hx hb d_K_set_1 rfl (lv_at hl 1 rfl) ?_
  refine xa_cI (va_runV (As := [.int k]) (rest := []) ⟨hx, hb, hml, hown, hts⟩ (c_K_below l D q cA lim kf kg af bf rk rv rm rs rn bp bk bv bo bn K k hT) (cwV 1 hts (zg_V zm_138 zm_140 zs_0 zm_3 zm_141) rfl rfl rfl (by decide +kernel) ⟨Nat.le_of_ble_eq_true rfl, Nat.le_of_ble_eq_true rfl⟩) (xp_preV (ci := 1) (q0 := 1) hK hP rfl rfl rfl hZ) rfl rfl hl.1 rfl (lv_room (Nat.le_of_ble_eq_true rfl)) d_K_set_2 ⟨Nat.zero_le _, Nat.zero_le _⟩) ?_
  refine lv_istore (lv' := [(4, .int (nI (xk_lo K k))), (0, .ref (q 1)), (1, .int k), (2, .long v)]) hx hb d_K_set_5 hl (Nat.le_of_ble_eq_true rfl) rfl (fun ls hl => ?_)
  refine lv_aload_n hx hb d_K_set_7 rfl (lv_at hl 1 rfl) ?_
  refine lv_iload hx hb d_K_set_8 (lv_at hl 0 rfl) ?_
  refine lv_iload_n hx hb d_K_set_10 rfl (lv_at hl 2 rfl) ?_
  refine xa_cI (va_runV (As := [.int (nI (xk_lo K k)), .int k]) (rest := []) ⟨hx, hb, hml, hown, hts⟩ (c_K_isAt l D q cA lim kf kg af bf rk rv rm rs rn bp bk bv bo bn K k hT) (cwV 2 hts (zg_V zm_142 zm_144 zs_1 zm_3 zm_145) rfl rfl rfl (by decide +kernel) ⟨Nat.le_of_ble_eq_true rfl, Nat.le_of_ble_eq_true rfl⟩) (xp_preV (ci := 1) (q0 := 1) hK hP rfl rfl rfl hZ) rfl rfl hl.1 rfl (lv_room (Nat.le_of_ble_eq_true rfl)) d_K_set_11 ⟨Nat.zero_le _, Nat.zero_le _⟩) ?_
  refine lv_if_eq (tgt := 28) hx hb d_K_set_14 (by decide) (fun hc14 => ?_) (fun hc14 => ?_)
  · skip
    rw [xb_0] at hc14
    refine lv_aload_n hx hb d_K_set_28 rfl (lv_at hl 1 rfl) ?_
    refine va_get (D := D) (ci := 1) (v := .int (nI K.length)) (C := R_K) (T := F_K) (N := 4) hx hb hts (zi_K _) hown hK hP 1 rfl rfl 3 (by decide) (hts _ (List.mem_cons_of_mem _ zm_48)) (fun _ h9 => h9) rfl d_K_set_29 ?_
    refine lv_bipush (v := nI 65) hx hb d_K_set_32 (by decide +kernel) ?_
    refine lv_icmp_ge (tgt := 45) hx hb d_K_set_34 (by decide) (fun hc34 => ?_) (fun hc34 => ?_)
    · skip
      rw [nI_leI (by omega) (by omega)] at hc34
      exfalso
      exact hro.elim (fun z => by rw [hc14] at z; cases z) (fun z => by omega)
    · skip
      rw [nI_leI (by omega) (by omega)] at hc34
      refine lv_aload_n hx hb d_K_set_37 rfl (lv_at hl 1 rfl) ?_
      refine lv_iload hx hb d_K_set_38 (lv_at hl 0 rfl) ?_
      refine lv_iload_n hx hb d_K_set_40 rfl (lv_at hl 2 rfl) ?_
      refine lv_lload_n hx hb d_K_set_41 rfl (lv_at hl 3 rfl) ?_
      refine xa_cMV (va_runV (As := [.int (nI (xk_lo K k)), .int k, .long v]) (rest := []) ⟨hx, hb, hml, hown, hts⟩ (c_K_insert l D q cA lim kf kg af bf rk rv rm rs rn bp bk bv bo bn s.heap.size K k v hT hc14 (by omega)) (cwV 3 hts (zg_V zm_166 zm_168 zs_4 zm_3 zm_169) rfl rfl rfl (by decide +kernel) ⟨Nat.le_of_ble_eq_true rfl, Nat.le_of_ble_eq_true rfl⟩) (xp_preVQ (ci := 1) (q0 := 1) hK hP hD rfl rfl rfl hZ) rfl rfl hl.1 rfl (lv_room (Nat.le_of_ble_eq_true rfl)) d_K_set_42 ⟨Nat.zero_le _, Nat.zero_le _⟩) hS (xa_F hD hS hA) (fun u H locs hp42 hP hS => ?_)
      obtain ⟨kf2_42, kg2_42, af2_42, bf2_42⟩ := u
      have hP : va_P D zz_cl (xw_C q cA lim kf2_42 kg2_42 (nI (xk_set K k v).length) af2_42 bf2_42 rk rv rm rs rn bp bk bv bo bn) H := hP
      have hD : va_D A (xw_C q cA lim kf2_42 kg2_42 (nI (xk_set K k v).length) af2_42 bf2_42 rk rv rm rs rn bp bk bv bo bn) := xa_E hD rfl
      have hp42 : xw_KT kf2_42 kg2_42 af2_42 bf2_42 (xk_set K k v) := hp42
      exact W.vret hx hb hr (fun tJ htJ hWJ => ⟨⟨(kf2_42, kg2_42, af2_42, bf2_42), rfl, by first | exact xw_KT_put hT v hc14 | exact hp42, by dsimp only; rw [htJ]; first | (rw [xk_set_len, if_pos hc14]; exact hP) | exact hP⟩, hS.F htJ⟩) hS.2.2 d_K_set_45
  · skip
    rw [xb_1] at hc14
    have hhl := xk_has_lt hc14
    refine lv_aload_n hx hb d_K_set_17 rfl (lv_at hl 1 rfl) ?_
    refine va_get (D := D) (ci := 1) (v := .ref (q 6)) (C := R_K) (T := F_K) (N := 4) hx hb hts (zi_K _) hown hK hP 1 rfl rfl 1 (by decide) (hts _ (List.mem_cons_of_mem _ zm_45)) (fun _ h9 => h9) rfl d_K_set_18 ?_
    refine lv_iload hx hb d_K_set_21 (lv_at hl 0 rfl) ?_
    refine lv_lload_n hx hb d_K_set_23 rfl (lv_at hl 3 rfl) ?_
    refine xa_last (ws' := (xw_C q cA lim kf (vp_updL kg (xk_lo K k) v) (nI K.length) af bf rk rv rm rs rn bp bk bv bo bn)) hx hb hK hP hD hS 6 1 rfl rfl (k := xk_lo K k) (by omega) (by decide) rfl d_K_set_24 (fun H locs hP hD hS => ?_)
    refine lv_goto (tgt := 45) hx hb d_K_set_25 (by decide) ?_
    exact W.vret hx hb hr (fun tJ htJ hWJ => ⟨⟨(kf, vp_updL kg (xk_lo K k) v, af, bf), rfl, by first | exact xw_KT_put hT v hc14 | exact hp42, by dsimp only; rw [htJ]; first | (rw [xk_set_len, if_pos hc14]; exact hP) | exact hP⟩, hS.F htJ⟩) hS.2.2 d_K_set_45
set_option maxHeartbeats 4000000 in
set_option maxRecDepth 100000 in
theorem c_K_remove (l : Launch) (D : va_G) (q : Nat → Nat) (cA : Nat → ClassId) (lim : Int32) (kf : Nat → Int32) (kg : Nat → Int64) (af : Nat → Int32) (bf : Nat → Int32) (rk : Nat → Int32) (rv : Nat → Int64) (rm : Nat → Int32) (rs : Nat → Int32) (rn : Int32) (bp : Nat → Int32) (bk : Nat → Int32) (bv : Nat → Int64) (bo : Int32) (bn : Int32) (sz : Nat) (K : List xk_E) (k : Int32) (hT : xw_KT kf kg af bf K) : Met l y_K_remove zw_K_remove ({ frames := 2, cells := 0, slots := 0, locals := 60 } : Room) (va_Pc [.ref (q 1), .int k] (xp_Q D zz_cl (xw_tC cA) sz (xw_C q cA lim kf kg (nI K.length) af bf rk rv rm rs rn bp bk bv bo bn))) (va_Qv (fun u : (Nat → Int32) × (Nat → Int64) × (Nat → Int32) × (Nat → Int32) => xw_KT u.1 u.2.1 u.2.2.1 u.2.2.2 (xk_rem K k)) (fun (u : (Nat → Int32) × (Nat → Int64) × (Nat → Int32) × (Nat → Int32)) (t : State) => va_P D zz_cl (xw_C q cA lim u.1 u.2.1 (nI (xk_rem K k).length) u.2.2.1 u.2.2.2 rk rv rm rs rn bp bk bv bo bn) t.heap) (va_A (xw_C q cA lim kf kg (nI K.length) af bf rk rv rm rs rn bp bk bv bo bn) sz)) 0 0 (va_A (xw_C q cA lim kf kg (nI K.length) af bf rk rv rm rs rn bp bk bv bo bn) sz) := by
  refine Met.ofW (cc := b_K_remove) (maxL := 3) (ret := none) (by decide) rfl ?_
  intro pJ eJ s mJ args below meth cJ s₁ B hml hv
  obtain ⟨rfl, hsz, hP, hK, hD0, hZ⟩ := hv
  have hx := B.exec
  have hb := B.bytes
  have hr := B.returns
  have hts := atoms_spec (ws := zw_K_remove) B.pre
  have hown : s.vm.findClass R_K = some mJ.cls := findClass_of_methodNamed B.named
  have hlocks := B.notSynchronized
  subst hsz
  have hD := hD0.self (sz := s.heap.size)
  generalize hAe : va_A (xw_C q cA lim kf kg (nI K.length) af bf rk rv rm rs rn bp bk bv bo bn) s.heap.size = A at hD ⊢
  have hA : ∀ q : Nat, s.heap.size ≤ q → A q := fun q h => by rw [← hAe]; exact Or.inr h
  have hS : va_S A s.heap s.heap [] := va_S.rf
  have hl := lv_entry ([.ref (q 1), .int k]) (n := 3) (Nat.le_of_ble_eq_true rfl)
  rw [lg_entry_eq]
  generalize (lg_sl ([.ref (q 1), .int k]) ++ List.replicate (3 - (lg_sl ([.ref (q 1), .int k])).length) Slot.unset).toArray = ls at hl ⊢
  have hl : lv_has ls 3 [(0, .ref (q 1)), (1, .int k)] := hl
  have hlen := hT.1
  have hh := xk_h_lt k
  refine lv_aload_n hx hb d_K_remove_0 rfl (lv_at hl 0 rfl) ?_
  refine lv_iload_n hx hb d_K_remove_1 rfl (lv_at hl 1 rfl) ?_
  refine xa_cI (va_runV (As := [.int k]) (rest := []) ⟨hx, hb, hml, hown, hts⟩ (c_K_below l D q cA lim kf kg af bf rk rv rm rs rn bp bk bv bo bn K k hT) (cwV 1 hts (zg_V zm_138 zm_140 zs_0 zm_3 zm_141) rfl rfl rfl (by decide +kernel) ⟨Nat.le_of_ble_eq_true rfl, Nat.le_of_ble_eq_true rfl⟩) (xp_preV (ci := 1) (q0 := 1) hK hP rfl rfl rfl hZ) rfl rfl hl.1 rfl (lv_room (Nat.le_of_ble_eq_true rfl)) d_K_remove_2 ⟨Nat.zero_le _, Nat.zero_le _⟩) ?_
  refine lv_istore_n (lv' := [(2, .int (nI (xk_lo K k))), (0, .ref (q 1)), (1, .int k)]) hx hb d_K_remove_5 rfl hl (Nat.le_of_ble_eq_true rfl) rfl (fun ls hl => ?_)
  refine lv_aload_n hx hb d_K_remove_6 rfl (lv_at hl 1 rfl) ?_
  refine lv_iload_n hx hb d_K_remove_7 rfl (lv_at hl 0 rfl) ?_
  refine lv_iload_n hx hb d_K_remove_8 rfl (lv_at hl 2 rfl) ?_
  refine xa_cI (va_runV (As := [.int (nI (xk_lo K k)), .int k]) (rest := []) ⟨hx, hb, hml, hown, hts⟩ (c_K_isAt l D q cA lim kf kg af bf rk rv rm rs rn bp bk bv bo bn K k hT) (cwV 2 hts (zg_V zm_142 zm_144 zs_1 zm_3 zm_145) rfl rfl rfl (by decide +kernel) ⟨Nat.le_of_ble_eq_true rfl, Nat.le_of_ble_eq_true rfl⟩) (xp_preV (ci := 1) (q0 := 1) hK hP rfl rfl rfl hZ) rfl rfl hl.1 rfl (lv_room (Nat.le_of_ble_eq_true rfl)) d_K_remove_9 ⟨Nat.zero_le _, Nat.zero_le _⟩) ?_
  refine lv_if_eq (tgt := 79) hx hb d_K_remove_12 (by decide) (fun hc12 => ?_) (fun hc12 => ?_)
  · skip
    rw [xb_0] at hc12
    exact W.vret hx hb hr (fun tJ htJ hWJ => ⟨⟨(kf, kg, af, bf), rfl, by first | exact xw_KT_delb hT hc12 (fun j hj => xm_del kf hhl hj) (fun j hj => xm_del kg hhl hj) rfl | (rw [xk_rem_no hc12]; exact hT), by dsimp only; rw [htJ]; first | (rw [xk_rem_len, if_pos hc12]; exact hP) | (rw [xk_rem_no hc12]; exact hP)⟩, hS.F htJ⟩) hS.2.2 d_K_remove_79
  · skip
    rw [xb_1] at hc12
    have hhl := xk_has_lt hc12
    refine lv_aload_n hx hb d_K_remove_15 rfl (lv_at hl 1 rfl) ?_
    refine lv_dup hx hb d_K_remove_16 rfl ?_
    refine va_get (D := D) (ci := 1) (v := .int (nI K.length)) (C := R_K) (T := F_K) (N := 4) hx hb hts (zi_K _) hown hK hP 1 rfl rfl 3 (by decide) (hts _ (List.mem_cons_of_mem _ zm_48)) (fun _ h9 => h9) rfl d_K_remove_17 ?_
    refine lv_iconst (v := nI 1) hx hb d_K_remove_20 (by decide +kernel) ?_
    refine lv_isub hx hb d_K_remove_21 ?_
    refine xa_top (y := nI (K.length - 1)) (pk_sub (by omega)) ?_
    refine xa_put (ws' := (xw_C q cA lim kf kg (nI (K.length - 1)) af bf rk rv rm rs rn bp bk bv bo bn)) (ci := 1) (v := .int (nI (K.length - 1))) (ty := .int) (C := R_K) (T := F_K) (N := 4) hx hb hts (zi_K _) t_K t_K_ok n_K hown hK hP hD hS 1 rfl rfl 3 (by decide) (hts _ (List.mem_cons_of_mem _ zm_48)) (fun _ h9 => h9) rfl (by decide +kernel) (rfl) (rfl) (Nat.le_of_ble_eq_true rfl) rfl d_K_remove_22 (fun H locs hP hD hS => ?_)
    refine lv_aload_n hx hb d_K_remove_25 rfl (lv_at hl 1 rfl) ?_
    refine va_get (D := D) (ci := 1) (v := .ref (q 5)) (C := R_K) (T := F_K) (N := 4) hx hb hts (zi_K _) hown hK hP 1 rfl rfl 0 (by decide) (hts _ (List.mem_cons_of_mem _ zm_44)) (fun _ h9 => h9) rfl d_K_remove_26 ?_
    refine lv_iload_n hx hb d_K_remove_29 rfl (lv_at hl 0 rfl) ?_
    refine lv_iconst (v := nI 1) hx hb d_K_remove_30 (by decide +kernel) ?_
    refine lv_iadd hx hb d_K_remove_31 ?_
    refine xa_top (y := nI (xk_lo K k + 1)) (nI_add _ _) ?_
    refine lv_aload_n hx hb d_K_remove_32 rfl (lv_at hl 1 rfl) ?_
    refine va_get (D := D) (ci := 1) (v := .ref (q 5)) (C := R_K) (T := F_K) (N := 4) hx hb hts (zi_K _) hown hK hP 1 rfl rfl 0 (by decide) (hts _ (List.mem_cons_of_mem _ zm_44)) (fun _ h9 => h9) rfl d_K_remove_33 ?_
    refine lv_iload_n hx hb d_K_remove_36 rfl (lv_at hl 0 rfl) ?_
    refine lv_aload_n hx hb d_K_remove_37 rfl (lv_at hl 1 rfl) ?_
    refine va_get (D := D) (ci := 1) (v := .int (nI (K.length - 1))) (C := R_K) (T := F_K) (N := 4) hx hb hts (zi_K _) hown hK hP 1 rfl rfl 3 (by decide) (hts _ (List.mem_cons_of_mem _ zm_48)) (fun _ h9 => h9) rfl d_K_remove_38 ?_
    refine lv_iload_n hx hb d_K_remove_41 rfl (lv_at hl 0 rfl) ?_
    refine lv_isub hx hb d_K_remove_42 ?_
    refine xa_top (y := nI ((K.length - 1) - (xk_lo K k))) (pk_sub (by omega)) ?_
    refine xa_copyi (ws' := (xw_C q cA lim (va_cpy kf kf (xk_lo K k + 1) (xk_lo K k) ((K.length - 1) - (xk_lo K k))) kg (nI (K.length - 1)) af bf rk rv rm rs rn bp bk bv bo bn)) hx hb (hml.trans hl.1.symm) hown (hts _ (List.mem_cons_of_mem _ zm_170)) (hts _ (List.mem_cons_of_mem _ zm_172)) (hts _ (List.mem_cons_of_mem _ zm_171)) (hts _ (List.mem_cons_of_mem _ zm_8)) hK hP hD hS 5 5 0 0 rfl rfl rfl rfl (sp := xk_lo K k + 1) (dp := xk_lo K k) (n := (K.length - 1) - (xk_lo K k)) (by omega) (by omega) (by decide) (by decide) (Nat.le_of_ble_eq_true rfl) (Nat.le_of_ble_eq_true rfl) rfl d_K_remove_43 (fun H locs hP hD hS => ?_)
    refine lv_aload_n hx hb d_K_remove_46 rfl (lv_at hl 1 rfl) ?_
    refine va_get (D := D) (ci := 1) (v := .ref (q 6)) (C := R_K) (T := F_K) (N := 4) hx hb hts (zi_K _) hown hK hP 1 rfl rfl 1 (by decide) (hts _ (List.mem_cons_of_mem _ zm_45)) (fun _ h9 => h9) rfl d_K_remove_47 ?_
    refine lv_iload_n hx hb d_K_remove_50 rfl (lv_at hl 0 rfl) ?_
    refine lv_iconst (v := nI 1) hx hb d_K_remove_51 (by decide +kernel) ?_
    refine lv_iadd hx hb d_K_remove_52 ?_
    refine xa_top (y := nI (xk_lo K k + 1)) (nI_add _ _) ?_
    refine lv_aload_n hx hb d_K_remove_53 rfl (lv_at hl 1 rfl) ?_
    refine va_get (D := D) (ci := 1) (v := .ref (q 6)) (C := R_K) (T := F_K) (N := 4) hx hb hts (zi_K _) hown hK hP 1 rfl rfl 1 (by decide) (hts _ (List.mem_cons_of_mem _ zm_45)) (fun _ h9 => h9) rfl d_K_remove_54 ?_
    refine lv_iload_n hx hb d_K_remove_57 rfl (lv_at hl 0 rfl) ?_
    refine lv_aload_n hx hb d_K_remove_58 rfl (lv_at hl 1 rfl) ?_
    refine va_get (D := D) (ci := 1) (v := .int (nI (K.length - 1))) (C := R_K) (T := F_K) (N := 4) hx hb hts (zi_K _) hown hK hP 1 rfl rfl 3 (by decide) (hts _ (List.mem_cons_of_mem _ zm_48)) (fun _ h9 => h9) rfl d_K_remove_59 ?_
    refine lv_iload_n hx hb d_K_remove_62 rfl (lv_at hl 0 rfl) ?_
    refine lv_isub hx hb d_K_remove_63 ?_
    refine xa_top (y := nI ((K.length - 1) - (xk_lo K k))) (pk_sub (by omega)) ?_
    refine xa_copyl (ws' := (xw_C q cA lim (va_cpy kf kf (xk_lo K k + 1) (xk_lo K k) ((K.length - 1) - (xk_lo K k))) (va_cpy kg kg (xk_lo K k + 1) (xk_lo K k) ((K.length - 1) - (xk_lo K k))) (nI (K.length - 1)) af bf rk rv rm rs rn bp bk bv bo bn)) hx hb (hml.trans hl.1.symm) hown (hts _ (List.mem_cons_of_mem _ zm_170)) (hts _ (List.mem_cons_of_mem _ zm_172)) (hts _ (List.mem_cons_of_mem _ zm_171)) (hts _ (List.mem_cons_of_mem _ zm_8)) hK hP hD hS 6 6 1 1 rfl rfl rfl rfl (sp := xk_lo K k + 1) (dp := xk_lo K k) (n := (K.length - 1) - (xk_lo K k)) (by omega) (by omega) (by decide) (by decide) (Nat.le_of_ble_eq_true rfl) (Nat.le_of_ble_eq_true rfl) rfl d_K_remove_64 (fun H locs hP hD hS => ?_)
    refine lv_aload_n hx hb d_K_remove_67 rfl (lv_at hl 1 rfl) ?_
    refine va_get (D := D) (ci := 1) (v := .ref (q 2)) (C := R_K) (T := F_K) (N := 4) hx hb hts (zi_K _) hown hK hP 1 rfl rfl 2 (by decide) (hts _ (List.mem_cons_of_mem _ zm_46)) (fun _ h9 => h9) rfl d_K_remove_68 ?_
    refine lv_iload_n hx hb d_K_remove_71 rfl (lv_at hl 2 rfl) ?_
    refine xa_cI (va_runSN (As := [.int k]) (rest := [.ref (q 2)]) ⟨hx, hb, hml, hown, hts⟩ (c_E_hash l k) ⟨(va_cnB 1 hts (zg_C zm_175) rfl rfl rfl (hZ _ zn_173) (hts _ (List.mem_cons_of_mem _ zm_1)) (by decide +kernel) ⟨Nat.le_of_ble_eq_true rfl, Nat.le_of_ble_eq_true rfl⟩), (hts _ (List.mem_cons_of_mem _ zm_174)), trivial⟩ xp_preS rfl rfl hl.1 rfl (lv_room (Nat.le_of_ble_eq_true rfl)) d_K_remove_72 ⟨Nat.zero_le _, Nat.zero_le _⟩) ?_
    refine lv_iconst (v := (-1)) hx hb d_K_remove_75 (by decide +kernel) ?_
    refine xa_cMV (va_runV (As := [.int (nI (xk_h k)), .int ((-1))]) (rest := []) ⟨hx, hb, hml, hown, hts⟩ (c_C_count l D q cA lim (va_cpy kf kf (xk_lo K k + 1) (xk_lo K k) ((K.length - 1) - (xk_lo K k))) (va_cpy kg kg (xk_lo K k + 1) (xk_lo K k) ((K.length - 1) - (xk_lo K k))) (nI (K.length - 1)) af bf rk rv rm rs rn bp bk bv bo bn H.size (xk_h k) ((-1)) (decide (xd_cn K 6 (xk_h k) = 1)) hh (xw_flM hT hc12)) (cwV 2 hts (zg_V zm_176 zm_177 zm_178 zm_4 zm_179) rfl rfl rfl (by decide +kernel) ⟨Nat.le_of_ble_eq_true rfl, Nat.le_of_ble_eq_true rfl⟩) (xp_preVQ (ci := 2) (q0 := 2) hK hP hD rfl rfl rfl hZ) rfl rfl hl.1 rfl (lv_room (Nat.le_of_ble_eq_true rfl)) d_K_remove_76 ⟨Nat.zero_le _, Nat.zero_le _⟩) hS (xa_F hD hS hA) (fun u H locs hp76 hP hS => ?_)
    have hP : va_P D zz_cl (xw_C q cA lim (va_cpy kf kf (xk_lo K k + 1) (xk_lo K k) ((K.length - 1) - (xk_lo K k))) (va_cpy kg kg (xk_lo K k + 1) (xk_lo K k) ((K.length - 1) - (xk_lo K k))) (nI (K.length - 1)) (xw_cu af (xk_h k) ((-1)) 7) (xw_cb bf (xk_h k) ((-1)) (decide (xd_cn K 6 (xk_h k) = 1)) 7) rk rv rm rs rn bp bk bv bo bn) H := hP
    have hD : va_D A (xw_C q cA lim (va_cpy kf kf (xk_lo K k + 1) (xk_lo K k) ((K.length - 1) - (xk_lo K k))) (va_cpy kg kg (xk_lo K k + 1) (xk_lo K k) ((K.length - 1) - (xk_lo K k))) (nI (K.length - 1)) (xw_cu af (xk_h k) ((-1)) 7) (xw_cb bf (xk_h k) ((-1)) (decide (xd_cn K 6 (xk_h k) = 1)) 7) rk rv rm rs rn bp bk bv bo bn) := xa_E hD rfl
    exact W.vret hx hb hr (fun tJ htJ hWJ => ⟨⟨(va_cpy kf kf (xk_lo K k + 1) (xk_lo K k) ((K.length - 1) - (xk_lo K k)), va_cpy kg kg (xk_lo K k + 1) (xk_lo K k) ((K.length - 1) - (xk_lo K k)), xw_cu af (xk_h k) ((-1)) 7, xw_cb bf (xk_h k) ((-1)) (decide (xd_cn K 6 (xk_h k) = 1)) 7), rfl, by first | exact xw_KT_delb hT hc12 (fun j hj => xm_del kf hhl hj) (fun j hj => xm_del kg hhl hj) rfl | (rw [xk_rem_no hc12]; exact hT), by dsimp only; rw [htJ]; first | (rw [xk_rem_len, if_pos hc12]; exact hP) | (rw [xk_rem_no hc12]; exact hP)⟩, hS.F htJ⟩) hS.2.2 d_K_remove_79
end
section
/-! Walks: specs_c (printed by run.py) -/
set_option maxHeartbeats 4000000 in
set_option maxRecDepth 100000 in
theorem c_R_append (l : Launch) (D : va_G) (q : Nat → Nat) (cA : Nat → ClassId) (lim : Int32) (kf : Nat → Int32) (kg : Nat → Int64) (kn : Int32) (af : Nat → Int32) (bf : Nat → Int32) (rk : Nat → Int32) (rv : Nat → Int64) (rm : Nat → Int32) (rs : Nat → Int32) (bp : Nat → Int32) (bk : Nat → Int32) (bv : Nat → Int64) (bo : Int32) (bn : Int32) (sz : Nat) (n : Nat) (k : Int32) (v : Int64) (fo : Int32) (hn : n < 70) : Met l y_R_append zw_R_append ({ frames := 0, cells := 0, slots := 0, locals := 0 } : Room) (va_Pc [.ref (q 3), .int k, .long v, .int fo] (xp_Q D zz_cl (xw_tC cA) sz (xw_C q cA lim kf kg kn af bf rk rv rm rs (nI n) bp bk bv bo bn))) (va_Qv (fun u : Unit => True) (fun (u : Unit) (t : State) => va_P D zz_cl (xw_C q cA lim kf kg kn af bf (upd rk n k) (vp_updL rv n v) (upd rm n fo) (upd rs n (nI n)) (nI (n + 1)) bp bk bv bo bn) t.heap) (va_A (xw_C q cA lim kf kg kn af bf rk rv rm rs (nI n) bp bk bv bo bn) sz)) 0 0 (va_A (xw_C q cA lim kf kg kn af bf rk rv rm rs (nI n) bp bk bv bo bn) sz) := by
  refine Met.ofW (cc := b_R_append) (maxL := 5) (ret := none) (by decide) rfl ?_
  intro pJ eJ s mJ args below meth cJ s₁ B hml hv
  obtain ⟨rfl, hsz, hP, hK, hD0, hZ⟩ := hv
  have hx := B.exec
  have hb := B.bytes
  have hr := B.returns
  have hts := atoms_spec (ws := zw_R_append) B.pre
  have hown : s.vm.findClass R_R = some mJ.cls := findClass_of_methodNamed B.named
  have hlocks := B.notSynchronized
  subst hsz
  have hD := hD0.self (sz := s.heap.size)
  generalize hAe : va_A (xw_C q cA lim kf kg kn af bf rk rv rm rs (nI n) bp bk bv bo bn) s.heap.size = A at hD ⊢
  have hA : ∀ q : Nat, s.heap.size ≤ q → A q := fun q h => by rw [← hAe]; exact Or.inr h
  have hS : va_S A s.heap s.heap [] := va_S.rf
  have hl := lv_entry ([.ref (q 3), .int k, .long v, .int fo]) (n := 5) (Nat.le_of_ble_eq_true rfl)
  rw [lg_entry_eq]
  generalize (lg_sl ([.ref (q 3), .int k, .long v, .int fo]) ++ List.replicate (5 - (lg_sl ([.ref (q 3), .int k, .long v, .int fo])).length) Slot.unset).toArray = ls at hl ⊢
  have hl : lv_has ls 5 [(0, .ref (q 3)), (1, .int k), (2, .long v), (4, .int fo)] := hl
  refine lv_aload_n hx hb d_R_append_0 rfl (lv_at hl 0 rfl) ?_
  refine va_get (D := D) (ci := 3) (v := .int (nI n)) (C := R_R) (T := F_R) (N := 5) hx hb hts (zi_R _) hown hK hP 3 rfl rfl 4 (by decide) (hts _ (List.mem_cons_of_mem _ zm_73)) (fun _ h9 => h9) rfl d_R_append_1 ?_
  refine lv_bipush (v := nI 70) hx hb d_R_append_4 (by decide +kernel) ?_
  refine lv_icmp_ge (tgt := 63) hx hb d_R_append_6 (by decide) (fun hc6 => ?_) (fun hc6 => ?_)
  · skip
    rw [nI_leI (by omega) (by omega)] at hc6
    exfalso
    omega
  · skip
    rw [nI_leI (by omega) (by omega)] at hc6
    refine lv_aload_n hx hb d_R_append_9 rfl (lv_at hl 0 rfl) ?_
    refine va_get (D := D) (ci := 3) (v := .ref (q 9)) (C := R_R) (T := F_R) (N := 5) hx hb hts (zi_R _) hown hK hP 3 rfl rfl 0 (by decide) (hts _ (List.mem_cons_of_mem _ zm_65)) (fun _ h9 => h9) rfl d_R_append_10 ?_
    refine lv_aload_n hx hb d_R_append_13 rfl (lv_at hl 0 rfl) ?_
    refine va_get (D := D) (ci := 3) (v := .int (nI n)) (C := R_R) (T := F_R) (N := 5) hx hb hts (zi_R _) hown hK hP 3 rfl rfl 4 (by decide) (hts _ (List.mem_cons_of_mem _ zm_73)) (fun _ h9 => h9) rfl d_R_append_14 ?_
    refine lv_iload_n hx hb d_R_append_17 rfl (lv_at hl 1 rfl) ?_
    refine xa_iast (ws' := (xw_C q cA lim kf kg kn af bf (upd rk n k) rv rm rs (nI n) bp bk bv bo bn)) hx hb hK hP hD hS 9 4 rfl rfl (k := n) (by omega) (by decide) rfl d_R_append_18 (fun H locs hP hD hS => ?_)
    refine lv_aload_n hx hb d_R_append_19 rfl (lv_at hl 0 rfl) ?_
    refine va_get (D := D) (ci := 3) (v := .ref (q 10)) (C := R_R) (T := F_R) (N := 5) hx hb hts (zi_R _) hown hK hP 3 rfl rfl 1 (by decide) (hts _ (List.mem_cons_of_mem _ zm_67)) (fun _ h9 => h9) rfl d_R_append_20 ?_
    refine lv_aload_n hx hb d_R_append_23 rfl (lv_at hl 0 rfl) ?_
    refine va_get (D := D) (ci := 3) (v := .int (nI n)) (C := R_R) (T := F_R) (N := 5) hx hb hts (zi_R _) hown hK hP 3 rfl rfl 4 (by decide) (hts _ (List.mem_cons_of_mem _ zm_73)) (fun _ h9 => h9) rfl d_R_append_24 ?_
    refine lv_lload_n hx hb d_R_append_27 rfl (lv_at hl 2 rfl) ?_
    refine xa_last (ws' := (xw_C q cA lim kf kg kn af bf (upd rk n k) (vp_updL rv n v) rm rs (nI n) bp bk bv bo bn)) hx hb hK hP hD hS 10 5 rfl rfl (k := n) (by omega) (by decide) rfl d_R_append_28 (fun H locs hP hD hS => ?_)
    refine lv_aload_n hx hb d_R_append_29 rfl (lv_at hl 0 rfl) ?_
    refine va_get (D := D) (ci := 3) (v := .ref (q 11)) (C := R_R) (T := F_R) (N := 5) hx hb hts (zi_R _) hown hK hP 3 rfl rfl 2 (by decide) (hts _ (List.mem_cons_of_mem _ zm_69)) (fun _ h9 => h9) rfl d_R_append_30 ?_
    refine lv_aload_n hx hb d_R_append_33 rfl (lv_at hl 0 rfl) ?_
    refine va_get (D := D) (ci := 3) (v := .int (nI n)) (C := R_R) (T := F_R) (N := 5) hx hb hts (zi_R _) hown hK hP 3 rfl rfl 4 (by decide) (hts _ (List.mem_cons_of_mem _ zm_73)) (fun _ h9 => h9) rfl d_R_append_34 ?_
    refine lv_iload hx hb d_R_append_37 (lv_at hl 3 rfl) ?_
    refine xa_iast (ws' := (xw_C q cA lim kf kg kn af bf (upd rk n k) (vp_updL rv n v) (upd rm n fo) rs (nI n) bp bk bv bo bn)) hx hb hK hP hD hS 11 6 rfl rfl (k := n) (by omega) (by decide) rfl d_R_append_39 (fun H locs hP hD hS => ?_)
    refine lv_aload_n hx hb d_R_append_40 rfl (lv_at hl 0 rfl) ?_
    refine va_get (D := D) (ci := 3) (v := .ref (q 12)) (C := R_R) (T := F_R) (N := 5) hx hb hts (zi_R _) hown hK hP 3 rfl rfl 3 (by decide) (hts _ (List.mem_cons_of_mem _ zm_71)) (fun _ h9 => h9) rfl d_R_append_41 ?_
    refine lv_aload_n hx hb d_R_append_44 rfl (lv_at hl 0 rfl) ?_
    refine va_get (D := D) (ci := 3) (v := .int (nI n)) (C := R_R) (T := F_R) (N := 5) hx hb hts (zi_R _) hown hK hP 3 rfl rfl 4 (by decide) (hts _ (List.mem_cons_of_mem _ zm_73)) (fun _ h9 => h9) rfl d_R_append_45 ?_
    refine lv_aload_n hx hb d_R_append_48 rfl (lv_at hl 0 rfl) ?_
    refine va_get (D := D) (ci := 3) (v := .int (nI n)) (C := R_R) (T := F_R) (N := 5) hx hb hts (zi_R _) hown hK hP 3 rfl rfl 4 (by decide) (hts _ (List.mem_cons_of_mem _ zm_73)) (fun _ h9 => h9) rfl d_R_append_49 ?_
    refine xa_iast (ws' := (xw_C q cA lim kf kg kn af bf (upd rk n k) (vp_updL rv n v) (upd rm n fo) (upd rs n (nI n)) (nI n) bp bk bv bo bn)) hx hb hK hP hD hS 12 7 rfl rfl (k := n) (by omega) (by decide) rfl d_R_append_52 (fun H locs hP hD hS => ?_)
    refine lv_aload_n hx hb d_R_append_53 rfl (lv_at hl 0 rfl) ?_
    refine lv_dup hx hb d_R_append_54 rfl ?_
    refine va_get (D := D) (ci := 3) (v := .int (nI n)) (C := R_R) (T := F_R) (N := 5) hx hb hts (zi_R _) hown hK hP 3 rfl rfl 4 (by decide) (hts _ (List.mem_cons_of_mem _ zm_73)) (fun _ h9 => h9) rfl d_R_append_55 ?_
    refine lv_iconst (v := nI 1) hx hb d_R_append_58 (by decide +kernel) ?_
    refine lv_iadd hx hb d_R_append_59 ?_
    refine xa_top (y := nI (n + 1)) (nI_add _ _) ?_
    refine xa_put (ws' := (xw_C q cA lim kf kg kn af bf (upd rk n k) (vp_updL rv n v) (upd rm n fo) (upd rs n (nI n)) (nI (n + 1)) bp bk bv bo bn)) (ci := 3) (v := .int (nI (n + 1))) (ty := .int) (C := R_R) (T := F_R) (N := 5) hx hb hts (zi_R _) t_R t_R_ok n_R hown hK hP hD hS 3 rfl rfl 4 (by decide) (hts _ (List.mem_cons_of_mem _ zm_73)) (fun _ h9 => h9) rfl (by decide +kernel) (rfl) (rfl) (Nat.le_of_ble_eq_true rfl) rfl d_R_append_60 (fun H locs hP hD hS => ?_)
    exact W.vret hx hb hr (fun tJ htJ hWJ => ⟨⟨(), rfl, trivial, by dsimp only; rw [htJ]; exact hP⟩, hS.F htJ⟩) hS.2.2 d_R_append_63
set_option maxHeartbeats 4000000 in
set_option maxRecDepth 100000 in
theorem c_R_write (l : Launch) (D : va_G) (q : Nat → Nat) (cA : Nat → ClassId) (lim : Int32) (kf : Nat → Int32) (kg : Nat → Int64) (kn : Int32) (af : Nat → Int32) (bf : Nat → Int32) (rk : Nat → Int32) (rv : Nat → Int64) (rm : Nat → Int32) (rs : Nat → Int32) (bp : Nat → Int32) (bk : Nat → Int32) (bv : Nat → Int64) (bo : Int32) (bn : Int32) (sz : Nat) (n : Nat) (k : Int32) (b : Bool) (v : Int64) (hn : n < 70) : Met l y_R_write zw_R_write ({ frames := 1, cells := 0, slots := 0, locals := 24 } : Room) (va_Pc [.ref (q 3), .int k, .int (xb_i b), .long v] (xp_Q D zz_cl (xw_tC cA) sz (xw_C q cA lim kf kg kn af bf rk rv rm rs (nI n) bp bk bv bo bn))) (va_Qv (fun u : Unit => True) (fun (u : Unit) (t : State) => va_P D zz_cl (xw_C q cA lim kf kg kn af bf (upd rk n k) (vp_updL rv n v) (upd rm n (xw_fo b)) (upd rs n (nI n)) (nI (n + 1)) bp bk bv bo bn) t.heap) (va_A (xw_C q cA lim kf kg kn af bf rk rv rm rs (nI n) bp bk bv bo bn) sz)) 0 0 (va_A (xw_C q cA lim kf kg kn af bf rk rv rm rs (nI n) bp bk bv bo bn) sz) := by
  refine Met.ofW (cc := b_R_write) (maxL := 5) (ret := none) (by decide) rfl ?_
  intro pJ eJ s mJ args below meth cJ s₁ B hml hv
  obtain ⟨rfl, hsz, hP, hK, hD0, hZ⟩ := hv
  have hx := B.exec
  have hb := B.bytes
  have hr := B.returns
  have hts := atoms_spec (ws := zw_R_write) B.pre
  have hown : s.vm.findClass R_R = some mJ.cls := findClass_of_methodNamed B.named
  have hlocks := B.notSynchronized
  subst hsz
  have hD := hD0.self (sz := s.heap.size)
  generalize hAe : va_A (xw_C q cA lim kf kg kn af bf rk rv rm rs (nI n) bp bk bv bo bn) s.heap.size = A at hD ⊢
  have hA : ∀ q : Nat, s.heap.size ≤ q → A q := fun q h => by rw [← hAe]; exact Or.inr h
  have hS : va_S A s.heap s.heap [] := va_S.rf
  have hl := lv_entry ([.ref (q 3), .int k, .int (xb_i b), .long v]) (n := 5) (Nat.le_of_ble_eq_true rfl)
  rw [lg_entry_eq]
  generalize (lg_sl ([.ref (q 3), .int k, .int (xb_i b), .long v]) ++ List.replicate (5 - (lg_sl ([.ref (q 3), .int k, .int (xb_i b), .long v])).length) Slot.unset).toArray = ls at hl ⊢
  have hl : lv_has ls 5 [(0, .ref (q 3)), (1, .int k), (2, .int (xb_i b)), (3, .long v)] := hl
  refine lv_aload_n hx hb d_R_write_0 rfl (lv_at hl 0 rfl) ?_
  refine lv_iload_n hx hb d_R_write_1 rfl (lv_at hl 1 rfl) ?_
  refine lv_lload_n hx hb d_R_write_2 rfl (lv_at hl 3 rfl) ?_
  refine lv_iload_n hx hb d_R_write_3 rfl (lv_at hl 2 rfl) ?_
  refine lv_if_eq (tgt := 11) hx hb d_R_write_4 (by decide) (fun hc4 => ?_) (fun hc4 => ?_)
  · skip
    rw [xb_0] at hc4
    refine lv_iconst (v := nI 1) hx hb d_R_write_11 (by decide +kernel) ?_
    refine xa_top (y := xw_fo b) (by rw [hc4]; rfl) ?_
    refine xa_cMV (va_runV (As := [.int k, .long v, .int (xw_fo b)]) (rest := []) ⟨hx, hb, hml, hown, hts⟩ (c_R_append l D q cA lim kf kg kn af bf rk rv rm rs bp bk bv bo bn s.heap.size n k v (xw_fo b) (by omega)) (cwV 3 hts (zg_V zm_158 zm_160 zs_3 zm_5 zm_161) rfl rfl rfl (by decide +kernel) ⟨Nat.le_of_ble_eq_true rfl, Nat.le_of_ble_eq_true rfl⟩) (xp_preVQ (ci := 3) (q0 := 3) hK hP hD rfl rfl rfl hZ) rfl rfl hl.1 rfl (lv_room (Nat.le_of_ble_eq_true rfl)) d_R_write_12 ⟨Nat.zero_le _, Nat.zero_le _⟩) hS (xa_F hD hS hA) (fun u H locs hp12 hP hS => ?_)
    have hP : va_P D zz_cl (xw_C q cA lim kf kg kn af bf (upd rk n k) (vp_updL rv n v) (upd rm n (xw_fo b)) (upd rs n (nI n)) (nI (n + 1)) bp bk bv bo bn) H := hP
    have hD : va_D A (xw_C q cA lim kf kg kn af bf (upd rk n k) (vp_updL rv n v) (upd rm n (xw_fo b)) (upd rs n (nI n)) (nI (n + 1)) bp bk bv bo bn) := xa_E hD rfl
    exact W.vret hx hb hr (fun tJ htJ hWJ => ⟨⟨(), rfl, trivial, by dsimp only; rw [htJ]; exact hP⟩, hS.F htJ⟩) hS.2.2 d_R_write_15
  · skip
    rw [xb_1] at hc4
    refine lv_iconst (v := nI 2) hx hb d_R_write_7 (by decide +kernel) ?_
    refine lv_goto (tgt := 12) hx hb d_R_write_8 (by decide) ?_
    refine xa_top (y := xw_fo b) (by rw [hc4]; rfl) ?_
    refine xa_cMV (va_runV (As := [.int k, .long v, .int (xw_fo b)]) (rest := []) ⟨hx, hb, hml, hown, hts⟩ (c_R_append l D q cA lim kf kg kn af bf rk rv rm rs bp bk bv bo bn s.heap.size n k v (xw_fo b) (by omega)) (cwV 3 hts (zg_V zm_158 zm_160 zs_3 zm_5 zm_161) rfl rfl rfl (by decide +kernel) ⟨Nat.le_of_ble_eq_true rfl, Nat.le_of_ble_eq_true rfl⟩) (xp_preVQ (ci := 3) (q0 := 3) hK hP hD rfl rfl rfl hZ) rfl rfl hl.1 rfl (lv_room (Nat.le_of_ble_eq_true rfl)) d_R_write_12 ⟨Nat.zero_le _, Nat.zero_le _⟩) hS (xa_F hD hS hA) (fun u H locs hp12 hP hS => ?_)
    have hP : va_P D zz_cl (xw_C q cA lim kf kg kn af bf (upd rk n k) (vp_updL rv n v) (upd rm n (xw_fo b)) (upd rs n (nI n)) (nI (n + 1)) bp bk bv bo bn) H := hP
    have hD : va_D A (xw_C q cA lim kf kg kn af bf (upd rk n k) (vp_updL rv n v) (upd rm n (xw_fo b)) (upd rs n (nI n)) (nI (n + 1)) bp bk bv bo bn) := xa_E hD rfl
    exact W.vret hx hb hr (fun tJ htJ hWJ => ⟨⟨(), rfl, trivial, by dsimp only; rw [htJ]; exact hP⟩, hS.F htJ⟩) hS.2.2 d_R_write_15
set_option maxHeartbeats 4000000 in
set_option maxRecDepth 100000 in
theorem c_R_close (l : Launch) (D : va_G) (q : Nat → Nat) (cA : Nat → ClassId) (lim : Int32) (kf : Nat → Int32) (kg : Nat → Int64) (kn : Int32) (af : Nat → Int32) (bf : Nat → Int32) (rk : Nat → Int32) (rv : Nat → Int64) (rm : Nat → Int32) (rs : Nat → Int32) (bp : Nat → Int32) (bk : Nat → Int32) (bv : Nat → Int64) (bo : Int32) (bn : Int32) (sz : Nat) (n : Nat) (f : Nat) (hn : n < 70) (hf : f ≤ n) : Met l y_R_closeBatch zw_R_closeBatch ({ frames := 1, cells := 0, slots := 0, locals := 24 } : Room) (va_Pc [.ref (q 3), .int (nI f)] (xp_Q D zz_cl (xw_tC cA) sz (xw_C q cA lim kf kg kn af bf rk rv rm rs (nI n) bp bk bv bo bn))) (va_Qv (fun u : Unit => True) (fun (u : Unit) (t : State) => va_P D zz_cl (xw_C q cA lim kf kg kn af bf (upd rk n (nI 0)) (vp_updL rv n 0) (upd rm n (nI 0)) (xw_fi (upd rs n (nI n)) f (n + 1) (nI f)) (nI (n + 1)) bp bk bv bo bn) t.heap) (va_A (xw_C q cA lim kf kg kn af bf rk rv rm rs (nI n) bp bk bv bo bn) sz)) 0 0 (va_A (xw_C q cA lim kf kg kn af bf rk rv rm rs (nI n) bp bk bv bo bn) sz) := by
  refine Met.ofW (cc := b_R_closeBatch) (maxL := 3) (ret := none) (by decide) rfl ?_
  intro pJ eJ s mJ args below meth cJ s₁ B hml hv
  obtain ⟨rfl, hsz, hP, hK, hD0, hZ⟩ := hv
  have hx := B.exec
  have hb := B.bytes
  have hr := B.returns
  have hts := atoms_spec (ws := zw_R_closeBatch) B.pre
  have hown : s.vm.findClass R_R = some mJ.cls := findClass_of_methodNamed B.named
  have hlocks := B.notSynchronized
  subst hsz
  have hD := hD0.self (sz := s.heap.size)
  generalize hAe : va_A (xw_C q cA lim kf kg kn af bf rk rv rm rs (nI n) bp bk bv bo bn) s.heap.size = A at hD ⊢
  have hA : ∀ q : Nat, s.heap.size ≤ q → A q := fun q h => by rw [← hAe]; exact Or.inr h
  have hS : va_S A s.heap s.heap [] := va_S.rf
  have hl := lv_entry ([.ref (q 3), .int (nI f)]) (n := 3) (Nat.le_of_ble_eq_true rfl)
  rw [lg_entry_eq]
  generalize (lg_sl ([.ref (q 3), .int (nI f)]) ++ List.replicate (3 - (lg_sl ([.ref (q 3), .int (nI f)])).length) Slot.unset).toArray = ls at hl ⊢
  have hl : lv_has ls 3 [(0, .ref (q 3)), (1, .int (nI f))] := hl
  refine lv_aload_n hx hb d_R_closeBatch_0 rfl (lv_at hl 0 rfl) ?_
  refine lv_iconst (v := nI 0) hx hb d_R_closeBatch_1 (by decide +kernel) ?_
  refine lv_lconst (v := 0) hx hb d_R_closeBatch_2 (by decide +kernel) ?_
  refine lv_iconst (v := nI 0) hx hb d_R_closeBatch_3 (by decide +kernel) ?_
  refine xa_cMV (va_runV (As := [.int (nI 0), .long 0, .int (nI 0)]) (rest := []) ⟨hx, hb, hml, hown, hts⟩ (c_R_append l D q cA lim kf kg kn af bf rk rv rm rs bp bk bv bo bn s.heap.size n (nI 0) 0 (nI 0) (by omega)) (cwV 3 hts (zg_V zm_158 zm_160 zs_3 zm_5 zm_161) rfl rfl rfl (by decide +kernel) ⟨Nat.le_of_ble_eq_true rfl, Nat.le_of_ble_eq_true rfl⟩) (xp_preVQ (ci := 3) (q0 := 3) hK hP hD rfl rfl rfl hZ) rfl rfl hl.1 rfl (lv_room (Nat.le_of_ble_eq_true rfl)) d_R_closeBatch_4 ⟨Nat.zero_le _, Nat.zero_le _⟩) hS (xa_F hD hS hA) (fun u H locs hp4 hP hS => ?_)
  have hP : va_P D zz_cl (xw_C q cA lim kf kg kn af bf (upd rk n (nI 0)) (vp_updL rv n 0) (upd rm n (nI 0)) (upd rs n (nI n)) (nI (n + 1)) bp bk bv bo bn) H := hP
  have hD : va_D A (xw_C q cA lim kf kg kn af bf (upd rk n (nI 0)) (vp_updL rv n 0) (upd rm n (nI 0)) (upd rs n (nI n)) (nI (n + 1)) bp bk bv bo bn) := xa_E hD rfl
  rw [show upd rs n (nI n) = xw_fi (upd rs n (nI n)) f f (nI f) from xw_fi_0 _ _ _] at hP hD
  refine lv_iload_n hx hb d_R_closeBatch_7 rfl (lv_at hl 1 rfl) ?_
  refine lv_istore_n (lv' := [(2, .int (nI f)), (0, .ref (q 3)), (1, .int (nI f))]) hx hb d_R_closeBatch_8 rfl hl (Nat.le_of_ble_eq_true rfl) rfl (fun ls hl => ?_)
  have lp9 : ∀ (N : Nat) (i : Nat) (ls : Array Slot) (H : Heap) (locs : List Loc), (f ≤ i) → (i ≤ n + 1) → lv_has ls 3 [(0, .ref (q 3)), (1, .int (nI f)), (2, .int (nI i))] → va_P D zz_cl (xw_C q cA lim kf kg kn af bf (upd rk n (nI 0)) (vp_updL rv n 0) (upd rm n (nI 0)) (xw_fi (upd rs n (nI n)) f i (nI f)) (nI (n + 1)) bp bk bv bo bn) H → va_D A (xw_C q cA lim kf kg kn af bf (upd rk n (nI 0)) (vp_updL rv n 0) (upd rm n (nI 0)) (xw_fi (upd rs n (nI n)) f i (nI f)) (nI (n + 1)) bp bk bv bo bn) → va_S A s.heap H locs → n + 1 - i < N → W pJ l eJ (headSpec zw_R_closeBatch ({ frames := 1, cells := 0, slots := 0, locals := 24 } : Room)).room s mJ ([.ref (q 3), .int (nI f)] : List Value).toArray below meth cJ H locs 0 0 (MQ below (va_Qv (fun u : Unit => True) (fun (u : Unit) (t : State) => va_P D zz_cl (xw_C q cA lim kf kg kn af bf (upd rk n (nI 0)) (vp_updL rv n 0) (upd rm n (nI 0)) (xw_fi (upd rs n (nI n)) f (n + 1) (nI f)) (nI (n + 1)) bp bk bv bo bn) t.heap) A) ([.ref (q 3), .int (nI f)] : List Value).toArray s 0 0 A) (F0 mJ 9 ls []) := by
    intro N
    induction N with
    | zero => intro i ls H locs hfi hin hl hP hD hS hm; exact absurd hm (Nat.not_lt_zero _)
    | succ N ih9 =>
      intro i ls H locs hfi hin hl hP hD hS hm
      refine lv_iload_n hx hb d_R_closeBatch_9 rfl (lv_at hl 2 rfl) ?_
      refine lv_aload_n hx hb d_R_closeBatch_10 rfl (lv_at hl 0 rfl) ?_
      refine va_get (D := D) (ci := 3) (v := .int (nI (n + 1))) (C := R_R) (T := F_R) (N := 5) hx hb hts (zi_R _) hown hK hP 3 rfl rfl 4 (by decide) (hts _ (List.mem_cons_of_mem _ zm_73)) (fun _ h9 => h9) rfl d_R_closeBatch_11 ?_
      refine lv_icmp_ge (tgt := 30) hx hb d_R_closeBatch_14 (by decide) (fun hc14 => ?_) (fun hc14 => ?_)
      · skip
        rw [nI_leI (by omega) (by omega)] at hc14
        obtain rfl : i = n + 1 := by omega
        exact W.vret hx hb hr (fun tJ htJ hWJ => ⟨⟨(), rfl, trivial, by dsimp only; rw [htJ]; exact hP⟩, hS.F htJ⟩) hS.2.2 d_R_closeBatch_30
      · skip
        rw [nI_leI (by omega) (by omega)] at hc14
        refine lv_aload_n hx hb d_R_closeBatch_17 rfl (lv_at hl 0 rfl) ?_
        refine va_get (D := D) (ci := 3) (v := .ref (q 12)) (C := R_R) (T := F_R) (N := 5) hx hb hts (zi_R _) hown hK hP 3 rfl rfl 3 (by decide) (hts _ (List.mem_cons_of_mem _ zm_71)) (fun _ h9 => h9) rfl d_R_closeBatch_18 ?_
        refine lv_iload_n hx hb d_R_closeBatch_21 rfl (lv_at hl 2 rfl) ?_
        refine lv_iload_n hx hb d_R_closeBatch_22 rfl (lv_at hl 1 rfl) ?_
        refine xa_iast (ws' := (xw_C q cA lim kf kg kn af bf (upd rk n (nI 0)) (vp_updL rv n 0) (upd rm n (nI 0)) (upd (xw_fi (upd rs n (nI n)) f i (nI f)) i (nI f)) (nI (n + 1)) bp bk bv bo bn)) hx hb hK hP hD hS 12 7 rfl rfl (k := i) (by omega) (by decide) rfl d_R_closeBatch_23 (fun H locs hP hD hS => ?_)
        rw [show upd (xw_fi (upd rs n (nI n)) f i (nI f)) i (nI f) = xw_fi (upd rs n (nI n)) f (i + 1) (nI f) from xw_fi_up _ hfi _] at hP hD
        refine lv_iinc (k := 2) (v := nI (i + 1)) (lv' := [(2, .int (nI (i + 1))), (0, .ref (q 3)), (1, .int (nI f))]) hx hb d_R_closeBatch_24 hl rfl (xn_inc _) (Nat.le_of_ble_eq_true rfl) rfl (fun ls hl => ?_)
        refine lv_goto (tgt := 9) hx hb d_R_closeBatch_27 (by decide) ?_
        exact ih9 (i + 1) ls _ _ (by omega) (by omega) (lv_sub hl [1, 2, 0] rfl) hP hD hS (by omega)
  exact lp9 _ f ls _ _ (Nat.le_refl _) (by omega) (lv_sub hl [1, 2, 0] rfl) hP hD hS (Nat.lt_succ_self _)
set_option maxHeartbeats 4000000 in
set_option maxRecDepth 100000 in
theorem c_R_settle (l : Launch) (D : va_G) (q : Nat → Nat) (cA : Nat → ClassId) (lim : Int32) (kf : Nat → Int32) (kg : Nat → Int64) (kn : Int32) (af : Nat → Int32) (bf : Nat → Int32) (rk : Nat → Int32) (rv : Nat → Int64) (rm : Nat → Int32) (rs : Nat → Int32) (bp : Nat → Int32) (bk : Nat → Int32) (bv : Nat → Int64) (bo : Int32) (bn : Int32) (sz : Nat) (n : Nat) (f : Nat) (hn : n ≤ 70) (hf : f ≤ n) : Met l y_R_settle zw_R_settle ({ frames := 0, cells := 0, slots := 0, locals := 0 } : Room) (va_Pc [.ref (q 3), .int (nI f)] (xp_Q D zz_cl (xw_tC cA) sz (xw_C q cA lim kf kg kn af bf rk rv rm rs (nI n) bp bk bv bo bn))) (va_Qv (fun u : Unit => True) (fun (u : Unit) (t : State) => va_P D zz_cl (xw_C q cA lim kf kg kn af bf (if 64 < n then xw_mv rk f (n - f) else rk) (if 64 < n then xw_mv rv f (n - f) else rv) (if 64 < n then xw_mv rm f (n - f) else rm) (if 64 < n then xm_mb rs f (n - f) else rs) (nI (if 64 < n then (n - f) else n)) bp bk bv bo bn) t.heap) (va_A (xw_C q cA lim kf kg kn af bf rk rv rm rs (nI n) bp bk bv bo bn) sz)) 0 0 (va_A (xw_C q cA lim kf kg kn af bf rk rv rm rs (nI n) bp bk bv bo bn) sz) := by
  refine Met.ofW (cc := b_R_settle) (maxL := 4) (ret := none) (by decide) rfl ?_
  intro pJ eJ s mJ args below meth cJ s₁ B hml hv
  obtain ⟨rfl, hsz, hP, hK, hD0, hZ⟩ := hv
  have hx := B.exec
  have hb := B.bytes
  have hr := B.returns
  have hts := atoms_spec (ws := zw_R_settle) B.pre
  have hown : s.vm.findClass R_R = some mJ.cls := findClass_of_methodNamed B.named
  have hlocks := B.notSynchronized
  subst hsz
  have hD := hD0.self (sz := s.heap.size)
  generalize hAe : va_A (xw_C q cA lim kf kg kn af bf rk rv rm rs (nI n) bp bk bv bo bn) s.heap.size = A at hD ⊢
  have hA : ∀ q : Nat, s.heap.size ≤ q → A q := fun q h => by rw [← hAe]; exact Or.inr h
  have hS : va_S A s.heap s.heap [] := va_S.rf
  have hl := lv_entry ([.ref (q 3), .int (nI f)]) (n := 4) (Nat.le_of_ble_eq_true rfl)
  rw [lg_entry_eq]
  generalize (lg_sl ([.ref (q 3), .int (nI f)]) ++ List.replicate (4 - (lg_sl ([.ref (q 3), .int (nI f)])).length) Slot.unset).toArray = ls at hl ⊢
  have hl : lv_has ls 4 [(0, .ref (q 3)), (1, .int (nI f))] := hl
  refine lv_aload_n hx hb d_R_settle_0 rfl (lv_at hl 0 rfl) ?_
  refine va_get (D := D) (ci := 3) (v := .int (nI n)) (C := R_R) (T := F_R) (N := 5) hx hb hts (zi_R _) hown hK hP 3 rfl rfl 4 (by decide) (hts _ (List.mem_cons_of_mem _ zm_73)) (fun _ h9 => h9) rfl d_R_settle_1 ?_
  refine lv_bipush (v := nI 64) hx hb d_R_settle_4 (by decide +kernel) ?_
  refine lv_icmp_gt (tgt := 10) hx hb d_R_settle_6 (by decide) (fun hc6 => ?_) (fun hc6 => ?_)
  · skip
    rw [nI_ltI (by omega) (by omega)] at hc6
    refine lv_aload_n hx hb d_R_settle_10 rfl (lv_at hl 0 rfl) ?_
    refine va_get (D := D) (ci := 3) (v := .int (nI n)) (C := R_R) (T := F_R) (N := 5) hx hb hts (zi_R _) hown hK hP 3 rfl rfl 4 (by decide) (hts _ (List.mem_cons_of_mem _ zm_73)) (fun _ h9 => h9) rfl d_R_settle_11 ?_
    refine lv_iload_n hx hb d_R_settle_14 rfl (lv_at hl 1 rfl) ?_
    refine lv_isub hx hb d_R_settle_15 ?_
    refine xa_top (y := nI (n - f)) (pk_sub (by omega)) ?_
    refine lv_istore_n (lv' := [(2, .int (nI (n - f))), (0, .ref (q 3)), (1, .int (nI f))]) hx hb d_R_settle_16 rfl hl (Nat.le_of_ble_eq_true rfl) rfl (fun ls hl => ?_)
    rw [show rk = xw_mv rk f 0 from (xw_mv_0 rk f).symm] at hP hD
    rw [show rv = xw_mv rv f 0 from (xw_mv_0 rv f).symm] at hP hD
    rw [show rm = xw_mv rm f 0 from (xw_mv_0 rm f).symm] at hP hD
    rw [show rs = xm_mb rs f 0 from (xm_mb_0 rs f).symm] at hP hD
    refine lv_iconst (v := nI 0) hx hb d_R_settle_17 (by decide +kernel) ?_
    refine lv_istore_n (lv' := [(3, .int (nI 0)), (2, .int (nI (n - f))), (0, .ref (q 3)), (1, .int (nI f))]) hx hb d_R_settle_18 rfl hl (Nat.le_of_ble_eq_true rfl) rfl (fun ls hl => ?_)
    have lp19 : ∀ (N : Nat) (i : Nat) (ls : Array Slot) (H : Heap) (locs : List Loc), (i ≤ n - f) → lv_has ls 4 [(0, .ref (q 3)), (1, .int (nI f)), (2, .int (nI (n - f))), (3, .int (nI i))] → va_P D zz_cl (xw_C q cA lim kf kg kn af bf (xw_mv rk f i) (xw_mv rv f i) (xw_mv rm f i) (xm_mb rs f i) (nI n) bp bk bv bo bn) H → va_D A (xw_C q cA lim kf kg kn af bf (xw_mv rk f i) (xw_mv rv f i) (xw_mv rm f i) (xm_mb rs f i) (nI n) bp bk bv bo bn) → va_S A s.heap H locs → n - f - i < N → W pJ l eJ (headSpec zw_R_settle ({ frames := 0, cells := 0, slots := 0, locals := 0 } : Room)).room s mJ ([.ref (q 3), .int (nI f)] : List Value).toArray below meth cJ H locs 0 0 (MQ below (va_Qv (fun u : Unit => True) (fun (u : Unit) (t : State) => va_P D zz_cl (xw_C q cA lim kf kg kn af bf (if 64 < n then xw_mv rk f (n - f) else rk) (if 64 < n then xw_mv rv f (n - f) else rv) (if 64 < n then xw_mv rm f (n - f) else rm) (if 64 < n then xm_mb rs f (n - f) else rs) (nI (if 64 < n then (n - f) else n)) bp bk bv bo bn) t.heap) A) ([.ref (q 3), .int (nI f)] : List Value).toArray s 0 0 A) (F0 mJ 19 ls []) := by
      intro N
      induction N with
      | zero => intro i ls H locs hi hl hP hD hS hm; exact absurd hm (Nat.not_lt_zero _)
      | succ N ih19 =>
        intro i ls H locs hi hl hP hD hS hm
        refine lv_iload_n hx hb d_R_settle_19 rfl (lv_at hl 3 rfl) ?_
        refine lv_iload_n hx hb d_R_settle_20 rfl (lv_at hl 2 rfl) ?_
        refine lv_icmp_ge (tgt := 88) hx hb d_R_settle_21 (by decide) (fun hc21 => ?_) (fun hc21 => ?_)
        · skip
          rw [nI_leI (by omega) (by omega)] at hc21
          rw [show xw_mv rk f i = xw_mv rk f (n - f) from by rw [show i = n - f from by omega]] at hP hD
          rw [show xw_mv rv f i = xw_mv rv f (n - f) from by rw [show i = n - f from by omega]] at hP hD
          rw [show xw_mv rm f i = xw_mv rm f (n - f) from by rw [show i = n - f from by omega]] at hP hD
          rw [show xm_mb rs f i = xm_mb rs f (n - f) from by rw [show i = n - f from by omega]] at hP hD
          refine lv_aload_n hx hb d_R_settle_88 rfl (lv_at hl 0 rfl) ?_
          refine lv_iload_n hx hb d_R_settle_89 rfl (lv_at hl 2 rfl) ?_
          refine xa_put (ws' := (xw_C q cA lim kf kg kn af bf (xw_mv rk f (n - f)) (xw_mv rv f (n - f)) (xw_mv rm f (n - f)) (xm_mb rs f (n - f)) (nI (n - f)) bp bk bv bo bn)) (ci := 3) (v := .int (nI (n - f))) (ty := .int) (C := R_R) (T := F_R) (N := 5) hx hb hts (zi_R _) t_R t_R_ok n_R hown hK hP hD hS 3 rfl rfl 4 (by decide) (hts _ (List.mem_cons_of_mem _ zm_73)) (fun _ h9 => h9) rfl (by decide +kernel) (rfl) (rfl) (Nat.le_of_ble_eq_true rfl) rfl d_R_settle_90 (fun H locs hP hD hS => ?_)
          exact W.vret hx hb hr (fun tJ htJ hWJ => ⟨⟨(), rfl, trivial, by dsimp only; rw [htJ]; first | (simp only [hc6, if_true]; exact hP) | (simp only [hc6, if_false]; exact hP)⟩, hS.F htJ⟩) hS.2.2 d_R_settle_93
        · skip
          rw [nI_leI (by omega) (by omega)] at hc21
          refine lv_aload_n hx hb d_R_settle_24 rfl (lv_at hl 0 rfl) ?_
          refine va_get (D := D) (ci := 3) (v := .ref (q 9)) (C := R_R) (T := F_R) (N := 5) hx hb hts (zi_R _) hown hK hP 3 rfl rfl 0 (by decide) (hts _ (List.mem_cons_of_mem _ zm_65)) (fun _ h9 => h9) rfl d_R_settle_25 ?_
          refine lv_iload_n hx hb d_R_settle_28 rfl (lv_at hl 3 rfl) ?_
          refine lv_aload_n hx hb d_R_settle_29 rfl (lv_at hl 0 rfl) ?_
          refine va_get (D := D) (ci := 3) (v := .ref (q 9)) (C := R_R) (T := F_R) (N := 5) hx hb hts (zi_R _) hown hK hP 3 rfl rfl 0 (by decide) (hts _ (List.mem_cons_of_mem _ zm_65)) (fun _ h9 => h9) rfl d_R_settle_30 ?_
          refine lv_iload_n hx hb d_R_settle_33 rfl (lv_at hl 1 rfl) ?_
          refine lv_iload_n hx hb d_R_settle_34 rfl (lv_at hl 3 rfl) ?_
          refine lv_iadd hx hb d_R_settle_35 ?_
          refine xa_top (y := nI (f + i)) (nI_add _ _) ?_
          refine xa_iald hx hb hK hP 9 4 rfl rfl (k := f + i) (by omega) (by decide) d_R_settle_36 ?_
          refine xa_top (y := rk (f + i)) (xw_mv_at rk f i) ?_
          refine xa_iast (ws' := (xw_C q cA lim kf kg kn af bf (upd (xw_mv rk f i) i (rk (f + i))) (xw_mv rv f i) (xw_mv rm f i) (xm_mb rs f i) (nI n) bp bk bv bo bn)) hx hb hK hP hD hS 9 4 rfl rfl (k := i) (by omega) (by decide) rfl d_R_settle_37 (fun H locs hP hD hS => ?_)
          rw [show upd (xw_mv rk f i) i (rk (f + i)) = xw_mv rk f (i + 1) from xw_mv_up rk f i] at hP hD
          refine lv_aload_n hx hb d_R_settle_38 rfl (lv_at hl 0 rfl) ?_
          refine va_get (D := D) (ci := 3) (v := .ref (q 10)) (C := R_R) (T := F_R) (N := 5) hx hb hts (zi_R _) hown hK hP 3 rfl rfl 1 (by decide) (hts _ (List.mem_cons_of_mem _ zm_67)) (fun _ h9 => h9) rfl d_R_settle_39 ?_
          refine lv_iload_n hx hb d_R_settle_42 rfl (lv_at hl 3 rfl) ?_
          refine lv_aload_n hx hb d_R_settle_43 rfl (lv_at hl 0 rfl) ?_
          refine va_get (D := D) (ci := 3) (v := .ref (q 10)) (C := R_R) (T := F_R) (N := 5) hx hb hts (zi_R _) hown hK hP 3 rfl rfl 1 (by decide) (hts _ (List.mem_cons_of_mem _ zm_67)) (fun _ h9 => h9) rfl d_R_settle_44 ?_
          refine lv_iload_n hx hb d_R_settle_47 rfl (lv_at hl 1 rfl) ?_
          refine lv_iload_n hx hb d_R_settle_48 rfl (lv_at hl 3 rfl) ?_
          refine lv_iadd hx hb d_R_settle_49 ?_
          refine xa_top (y := nI (f + i)) (nI_add _ _) ?_
          refine xa_lald hx hb hK hP 10 5 rfl rfl (k := f + i) (by omega) (by decide) d_R_settle_50 ?_
          refine xa_topl (y := rv (f + i)) (xw_mv_at rv f i) ?_
          refine xa_last (ws' := (xw_C q cA lim kf kg kn af bf (xw_mv rk f (i + 1)) (vp_updL (xw_mv rv f i) i (rv (f + i))) (xw_mv rm f i) (xm_mb rs f i) (nI n) bp bk bv bo bn)) hx hb hK hP hD hS 10 5 rfl rfl (k := i) (by omega) (by decide) rfl d_R_settle_51 (fun H locs hP hD hS => ?_)
          rw [show vp_updL (xw_mv rv f i) i (rv (f + i)) = xw_mv rv f (i + 1) from xw_mv_upL rv f i] at hP hD
          refine lv_aload_n hx hb d_R_settle_52 rfl (lv_at hl 0 rfl) ?_
          refine va_get (D := D) (ci := 3) (v := .ref (q 11)) (C := R_R) (T := F_R) (N := 5) hx hb hts (zi_R _) hown hK hP 3 rfl rfl 2 (by decide) (hts _ (List.mem_cons_of_mem _ zm_69)) (fun _ h9 => h9) rfl d_R_settle_53 ?_
          refine lv_iload_n hx hb d_R_settle_56 rfl (lv_at hl 3 rfl) ?_
          refine lv_aload_n hx hb d_R_settle_57 rfl (lv_at hl 0 rfl) ?_
          refine va_get (D := D) (ci := 3) (v := .ref (q 11)) (C := R_R) (T := F_R) (N := 5) hx hb hts (zi_R _) hown hK hP 3 rfl rfl 2 (by decide) (hts _ (List.mem_cons_of_mem _ zm_69)) (fun _ h9 => h9) rfl d_R_settle_58 ?_
          refine lv_iload_n hx hb d_R_settle_61 rfl (lv_at hl 1 rfl) ?_
          refine lv_iload_n hx hb d_R_settle_62 rfl (lv_at hl 3 rfl) ?_
          refine lv_iadd hx hb d_R_settle_63 ?_
          refine xa_top (y := nI (f + i)) (nI_add _ _) ?_
          refine xa_iald hx hb hK hP 11 6 rfl rfl (k := f + i) (by omega) (by decide) d_R_settle_64 ?_
          refine xa_top (y := rm (f + i)) (xw_mv_at rm f i) ?_
          refine xa_iast (ws' := (xw_C q cA lim kf kg kn af bf (xw_mv rk f (i + 1)) (xw_mv rv f (i + 1)) (upd (xw_mv rm f i) i (rm (f + i))) (xm_mb rs f i) (nI n) bp bk bv bo bn)) hx hb hK hP hD hS 11 6 rfl rfl (k := i) (by omega) (by decide) rfl d_R_settle_65 (fun H locs hP hD hS => ?_)
          rw [show upd (xw_mv rm f i) i (rm (f + i)) = xw_mv rm f (i + 1) from xw_mv_up rm f i] at hP hD
          refine lv_aload_n hx hb d_R_settle_66 rfl (lv_at hl 0 rfl) ?_
          refine va_get (D := D) (ci := 3) (v := .ref (q 12)) (C := R_R) (T := F_R) (N := 5) hx hb hts (zi_R _) hown hK hP 3 rfl rfl 3 (by decide) (hts _ (List.mem_cons_of_mem _ zm_71)) (fun _ h9 => h9) rfl d_R_settle_67 ?_
          refine lv_iload_n hx hb d_R_settle_70 rfl (lv_at hl 3 rfl) ?_
          refine lv_aload_n hx hb d_R_settle_71 rfl (lv_at hl 0 rfl) ?_
          refine va_get (D := D) (ci := 3) (v := .ref (q 12)) (C := R_R) (T := F_R) (N := 5) hx hb hts (zi_R _) hown hK hP 3 rfl rfl 3 (by decide) (hts _ (List.mem_cons_of_mem _ zm_71)) (fun _ h9 => h9) rfl d_R_settle_72 ?_
          refine lv_iload_n hx hb d_R_settle_75 rfl (lv_at hl 1 rfl) ?_
          refine lv_iload_n hx hb d_R_settle_76 rfl (lv_at hl 3 rfl) ?_
          refine lv_iadd hx hb d_R_settle_77 ?_
          refine xa_top (y := nI (f + i)) (nI_add _ _) ?_
          refine xa_iald hx hb hK hP 12 7 rfl rfl (k := f + i) (by omega) (by decide) d_R_settle_78 ?_
          refine xa_top (y := rs (f + i)) (xm_mb_at rs f i) ?_
          refine lv_iload_n hx hb d_R_settle_79 rfl (lv_at hl 1 rfl) ?_
          refine lv_isub hx hb d_R_settle_80 ?_
          refine xa_iast (ws' := (xw_C q cA lim kf kg kn af bf (xw_mv rk f (i + 1)) (xw_mv rv f (i + 1)) (xw_mv rm f (i + 1)) (upd (xm_mb rs f i) i ((rs (f + i)) - (nI f))) (nI n) bp bk bv bo bn)) hx hb hK hP hD hS 12 7 rfl rfl (k := i) (by omega) (by decide) rfl d_R_settle_81 (fun H locs hP hD hS => ?_)
          rw [show upd (xm_mb rs f i) i ((rs (f + i)) - (nI f)) = xm_mb rs f (i + 1) from xm_mb_up rs f i] at hP hD
          refine lv_iinc (k := 3) (v := nI (i + 1)) (lv' := [(3, .int (nI (i + 1))), (0, .ref (q 3)), (1, .int (nI f)), (2, .int (nI (n - f)))]) hx hb d_R_settle_82 hl rfl (xn_inc _) (Nat.le_of_ble_eq_true rfl) rfl (fun ls hl => ?_)
          refine lv_goto (tgt := 19) hx hb d_R_settle_85 (by decide) ?_
          exact ih19 (i + 1) ls _ _ (by omega) (lv_sub hl [1, 2, 3, 0] rfl) hP hD hS (by omega)
    exact lp19 _ 0 ls _ _ (Nat.zero_le _) (lv_sub hl [2, 3, 1, 0] rfl) hP hD hS (Nat.lt_succ_self _)
  · skip
    rw [nI_ltI (by omega) (by omega)] at hc6
    exact W.vret hx hb hr (fun tJ htJ hWJ => ⟨⟨(), rfl, trivial, by dsimp only; rw [htJ]; first | (simp only [hc6, if_true]; exact hP) | (simp only [hc6, if_false]; exact hP)⟩, hS.F htJ⟩) hS.2.2 d_R_settle_9
set_option maxHeartbeats 4000000 in
set_option maxRecDepth 100000 in
theorem c_R_surv (l : Launch) (D : va_G) (q : Nat → Nat) (cA : Nat → ClassId) (lim : Int32) (kf : Nat → Int32) (kg : Nat → Int64) (kn : Int32) (af : Nat → Int32) (bf : Nat → Int32) (rk : Nat → Int32) (rv : Nat → Int64) (rm : Nat → Int32) (rs : Nat → Int32) (bp : Nat → Int32) (bk : Nat → Int32) (bv : Nat → Int64) (bo : Int32) (bn : Int32) (n : Nat) (x : Int32) (hn : n ≤ 70) : Met l y_R_survivorsAmongFirst zw_R_survivorsAmongFirst ({ frames := 1, cells := 0, slots := 0, locals := 21 } : Room) (va_Pc [.ref (q 3), .int x] (xp_R D zz_cl (xw_tC cA) (xw_C q cA lim kf kg kn af bf rk rv rm rs (nI n) bp bk bv bo bn))) (vp_Si (fun r : Int32 => r = (if xw_cl x n < n then rs (xw_cl x n) else nI n))) 0 0 (fun _ => False) := by
  refine Met.ofW (cc := b_R_survivorsAmongFirst) (maxL := 3) (ret := (some .int)) (by decide) rfl ?_
  intro pJ eJ s mJ args below meth cJ s₁ B hml hv
  obtain ⟨rfl, hP, hK, hZ⟩ := hv
  have hx := B.exec
  have hb := B.bytes
  have hr := B.returns
  have hts := atoms_spec (ws := zw_R_survivorsAmongFirst) B.pre
  have hown : s.vm.findClass R_R = some mJ.cls := findClass_of_methodNamed B.named
  have hlocks := B.notSynchronized
  have hl := lv_entry ([.ref (q 3), .int x]) (n := 3) (Nat.le_of_ble_eq_true rfl)
  rw [lg_entry_eq]
  generalize (lg_sl ([.ref (q 3), .int x]) ++ List.replicate (3 - (lg_sl ([.ref (q 3), .int x])).length) Slot.unset).toArray = ls at hl ⊢
  have hl : lv_has ls 3 [(0, .ref (q 3)), (1, .int x)] := hl
  have hcl := xw_cl_le x n
  refine lv_iconst (v := nI 0) hx hb d_R_survivorsAmongFirst_0 (by decide +kernel) ?_
  refine lv_aload_n hx hb d_R_survivorsAmongFirst_1 rfl (lv_at hl 0 rfl) ?_
  refine va_get (D := D) (ci := 3) (v := .int (nI n)) (C := R_R) (T := F_R) (N := 5) hx hb hts (zi_R _) hown hK hP 3 rfl rfl 4 (by decide) (hts _ (List.mem_cons_of_mem _ zm_73)) (fun _ h9 => h9) rfl d_R_survivorsAmongFirst_2 ?_
  refine lv_iload_n hx hb d_R_survivorsAmongFirst_5 rfl (lv_at hl 1 rfl) ?_
  refine va_mmin hx hb (hml.trans hl.1.symm) hown (hts _ (List.mem_cons_of_mem _ zm_240)) (hts _ (List.mem_cons_of_mem _ zm_18)) (hts _ (List.mem_cons_of_mem _ zm_2)) (hts _ (List.mem_cons_of_mem _ zm_19)) (Nat.le_of_ble_eq_true rfl) (Nat.le_of_ble_eq_true rfl) (Nat.zero_le _) (Nat.zero_le _) d_R_survivorsAmongFirst_6 ?_
  refine va_mmax hx hb (hml.trans hl.1.symm) hown (hts _ (List.mem_cons_of_mem _ zm_313)) (hts _ (List.mem_cons_of_mem _ zm_21)) (hts _ (List.mem_cons_of_mem _ zm_2)) (hts _ (List.mem_cons_of_mem _ zm_22)) (Nat.le_of_ble_eq_true rfl) (Nat.le_of_ble_eq_true rfl) (Nat.zero_le _) (Nat.zero_le _) d_R_survivorsAmongFirst_9 ?_
  refine xa_top (y := nI (xw_cl x n)) (xw_cl_eq (by omega)) ?_
  refine lv_istore_n (lv' := [(2, .int (nI (xw_cl x n))), (0, .ref (q 3)), (1, .int x)]) hx hb d_R_survivorsAmongFirst_12 rfl hl (Nat.le_of_ble_eq_true rfl) rfl (fun ls hl => ?_)
  refine lv_iload_n hx hb d_R_survivorsAmongFirst_13 rfl (lv_at hl 0 rfl) ?_
  refine lv_aload_n hx hb d_R_survivorsAmongFirst_14 rfl (lv_at hl 1 rfl) ?_
  refine va_get (D := D) (ci := 3) (v := .int (nI n)) (C := R_R) (T := F_R) (N := 5) hx hb hts (zi_R _) hown hK hP 3 rfl rfl 4 (by decide) (hts _ (List.mem_cons_of_mem _ zm_73)) (fun _ h9 => h9) rfl d_R_survivorsAmongFirst_15 ?_
  refine lv_icmp_ge (tgt := 30) hx hb d_R_survivorsAmongFirst_18 (by decide) (fun hc18 => ?_) (fun hc18 => ?_)
  · skip
    rw [nI_leI (by omega) (by omega)] at hc18
    refine lv_aload_n hx hb d_R_survivorsAmongFirst_30 rfl (lv_at hl 1 rfl) ?_
    refine va_get (D := D) (ci := 3) (v := .int (nI n)) (C := R_R) (T := F_R) (N := 5) hx hb hts (zi_R _) hown hK hP 3 rfl rfl 4 (by decide) (hts _ (List.mem_cons_of_mem _ zm_73)) (fun _ h9 => h9) rfl d_R_survivorsAmongFirst_31 ?_
    exact W.iret (v := nI n) hx hb hr (fun tJ htJ hWJ => ⟨_, rfl, by first | rw [if_pos (by omega)] | rw [if_neg (by omega)], htJ⟩) (fun _ h => by cases h) d_R_survivorsAmongFirst_34
  · skip
    rw [nI_leI (by omega) (by omega)] at hc18
    refine lv_aload_n hx hb d_R_survivorsAmongFirst_21 rfl (lv_at hl 1 rfl) ?_
    refine va_get (D := D) (ci := 3) (v := .ref (q 12)) (C := R_R) (T := F_R) (N := 5) hx hb hts (zi_R _) hown hK hP 3 rfl rfl 3 (by decide) (hts _ (List.mem_cons_of_mem _ zm_71)) (fun _ h9 => h9) rfl d_R_survivorsAmongFirst_22 ?_
    refine lv_iload_n hx hb d_R_survivorsAmongFirst_25 rfl (lv_at hl 0 rfl) ?_
    refine xa_iald hx hb hK hP 12 7 rfl rfl (k := xw_cl x n) (by omega) (by decide) d_R_survivorsAmongFirst_26 ?_
    refine lv_goto (tgt := 34) hx hb d_R_survivorsAmongFirst_27 (by decide) ?_
    exact W.iret (v := rs (xw_cl x n)) hx hb hr (fun tJ htJ hWJ => ⟨_, rfl, by first | rw [if_pos (by omega)] | rw [if_neg (by omega)], htJ⟩) (fun _ h => by cases h) d_R_survivorsAmongFirst_34
set_option maxHeartbeats 4000000 in
set_option maxRecDepth 100000 in
theorem c_R_forget (l : Launch) (D : va_G) (q : Nat → Nat) (cA : Nat → ClassId) (lim : Int32) (kf : Nat → Int32) (kg : Nat → Int64) (kn : Int32) (af : Nat → Int32) (bf : Nat → Int32) (rk : Nat → Int32) (rv : Nat → Int64) (rm : Nat → Int32) (rs : Nat → Int32) (bp : Nat → Int32) (bk : Nat → Int32) (bv : Nat → Int64) (bo : Int32) (bn : Int32) (sz : Nat) (n : Nat) (f : Nat) (hn : n ≤ 70) (hf : f ≤ 70) : Met l y_R_forgetFrom zw_R_forgetFrom ({ frames := 1, cells := 0, slots := 0, locals := 21 } : Room) (va_Pc [.ref (q 3), .int (nI f)] (xp_Q D zz_cl (xw_tC cA) sz (xw_C q cA lim kf kg kn af bf rk rv rm rs (nI n) bp bk bv bo bn))) (va_Qv (fun u : Unit => True) (fun (u : Unit) (t : State) => va_P D zz_cl (xw_C q cA lim kf kg kn af bf rk rv rm rs (nI (min n f)) bp bk bv bo bn) t.heap) (va_A (xw_C q cA lim kf kg kn af bf rk rv rm rs (nI n) bp bk bv bo bn) sz)) 0 0 (va_A (xw_C q cA lim kf kg kn af bf rk rv rm rs (nI n) bp bk bv bo bn) sz) := by
  refine Met.ofW (cc := b_R_forgetFrom) (maxL := 2) (ret := none) (by decide) rfl ?_
  intro pJ eJ s mJ args below meth cJ s₁ B hml hv
  obtain ⟨rfl, hsz, hP, hK, hD0, hZ⟩ := hv
  have hx := B.exec
  have hb := B.bytes
  have hr := B.returns
  have hts := atoms_spec (ws := zw_R_forgetFrom) B.pre
  have hown : s.vm.findClass R_R = some mJ.cls := findClass_of_methodNamed B.named
  have hlocks := B.notSynchronized
  subst hsz
  have hD := hD0.self (sz := s.heap.size)
  generalize hAe : va_A (xw_C q cA lim kf kg kn af bf rk rv rm rs (nI n) bp bk bv bo bn) s.heap.size = A at hD ⊢
  have hA : ∀ q : Nat, s.heap.size ≤ q → A q := fun q h => by rw [← hAe]; exact Or.inr h
  have hS : va_S A s.heap s.heap [] := va_S.rf
  have hl := lv_entry ([.ref (q 3), .int (nI f)]) (n := 2) (Nat.le_of_ble_eq_true rfl)
  rw [lg_entry_eq]
  generalize (lg_sl ([.ref (q 3), .int (nI f)]) ++ List.replicate (2 - (lg_sl ([.ref (q 3), .int (nI f)])).length) Slot.unset).toArray = ls at hl ⊢
  have hl : lv_has ls 2 [(0, .ref (q 3)), (1, .int (nI f))] := hl
  refine lv_aload_n hx hb d_R_forgetFrom_0 rfl (lv_at hl 0 rfl) ?_
  refine lv_aload_n hx hb d_R_forgetFrom_1 rfl (lv_at hl 0 rfl) ?_
  refine va_get (D := D) (ci := 3) (v := .int (nI n)) (C := R_R) (T := F_R) (N := 5) hx hb hts (zi_R _) hown hK hP 3 rfl rfl 4 (by decide) (hts _ (List.mem_cons_of_mem _ zm_73)) (fun _ h9 => h9) rfl d_R_forgetFrom_2 ?_
  refine lv_iload_n hx hb d_R_forgetFrom_5 rfl (lv_at hl 1 rfl) ?_
  refine va_mmin hx hb (hml.trans hl.1.symm) hown (hts _ (List.mem_cons_of_mem _ zm_240)) (hts _ (List.mem_cons_of_mem _ zm_18)) (hts _ (List.mem_cons_of_mem _ zm_2)) (hts _ (List.mem_cons_of_mem _ zm_19)) (Nat.le_of_ble_eq_true rfl) (Nat.le_of_ble_eq_true rfl) (Nat.zero_le _) (Nat.zero_le _) d_R_forgetFrom_6 ?_
  refine xa_top (y := nI (min n f)) (xn_min (by omega) (by omega)) ?_
  refine xa_put (ws' := (xw_C q cA lim kf kg kn af bf rk rv rm rs (nI (min n f)) bp bk bv bo bn)) (ci := 3) (v := .int (nI (min n f))) (ty := .int) (C := R_R) (T := F_R) (N := 5) hx hb hts (zi_R _) t_R t_R_ok n_R hown hK hP hD hS 3 rfl rfl 4 (by decide) (hts _ (List.mem_cons_of_mem _ zm_73)) (fun _ h9 => h9) rfl (by decide +kernel) (rfl) (rfl) (Nat.le_of_ble_eq_true rfl) rfl d_R_forgetFrom_9 (fun H locs hP hD hS => ?_)
  exact W.vret hx hb hr (fun tJ htJ hWJ => ⟨⟨(), rfl, trivial, by dsimp only; rw [htJ]; exact hP⟩, hS.F htJ⟩) hS.2.2 d_R_forgetFrom_12
set_option maxHeartbeats 4000000 in
set_option maxRecDepth 100000 in
theorem c_B_begin (l : Launch) (D : va_G) (q : Nat → Nat) (cA : Nat → ClassId) (lim : Int32) (kf : Nat → Int32) (kg : Nat → Int64) (kn : Int32) (af : Nat → Int32) (bf : Nat → Int32) (rk : Nat → Int32) (rv : Nat → Int64) (rm : Nat → Int32) (rs : Nat → Int32) (rn : Int32) (bp : Nat → Int32) (bk : Nat → Int32) (bv : Nat → Int64) (bo : Int32) (bn : Int32) (sz : Nat)   : Met l y_B_begin zw_B_begin ({ frames := 0, cells := 0, slots := 0, locals := 0 } : Room) (va_Pc [.ref (q 4)] (xp_Q D zz_cl (xw_tC cA) sz (xw_C q cA lim kf kg kn af bf rk rv rm rs rn bp bk bv bo bn))) (va_Qv (fun u : Unit => True) (fun (u : Unit) (t : State) => va_P D zz_cl (xw_C q cA lim kf kg kn af bf rk rv rm rs rn bp bk bv (xb_i true) (nI 0)) t.heap) (va_A (xw_C q cA lim kf kg kn af bf rk rv rm rs rn bp bk bv bo bn) sz)) 0 0 (va_A (xw_C q cA lim kf kg kn af bf rk rv rm rs rn bp bk bv bo bn) sz) := by
  refine Met.ofW (cc := b_B_begin) (maxL := 1) (ret := none) (by decide) rfl ?_
  intro pJ eJ s mJ args below meth cJ s₁ B hml hv
  obtain ⟨rfl, hsz, hP, hK, hD0, hZ⟩ := hv
  have hx := B.exec
  have hb := B.bytes
  have hr := B.returns
  have hts := atoms_spec (ws := zw_B_begin) B.pre
  have hown : s.vm.findClass R_B = some mJ.cls := findClass_of_methodNamed B.named
  have hlocks := B.notSynchronized
  subst hsz
  have hD := hD0.self (sz := s.heap.size)
  generalize hAe : va_A (xw_C q cA lim kf kg kn af bf rk rv rm rs rn bp bk bv bo bn) s.heap.size = A at hD ⊢
  have hA : ∀ q : Nat, s.heap.size ≤ q → A q := fun q h => by rw [← hAe]; exact Or.inr h
  have hS : va_S A s.heap s.heap [] := va_S.rf
  have hl := lv_entry ([.ref (q 4)]) (n := 1) (Nat.le_of_ble_eq_true rfl)
  rw [lg_entry_eq]
  generalize (lg_sl ([.ref (q 4)]) ++ List.replicate (1 - (lg_sl ([.ref (q 4)])).length) Slot.unset).toArray = ls at hl ⊢
  have hl : lv_has ls 1 [(0, .ref (q 4))] := hl
  refine lv_aload_n hx hb d_B_begin_0 rfl (lv_at hl 0 rfl) ?_
  refine lv_iconst (v := nI 1) hx hb d_B_begin_1 (by decide +kernel) ?_
  refine xa_top (y := xb_i true) xb_t.symm ?_
  refine xa_put (ws' := (xw_C q cA lim kf kg kn af bf rk rv rm rs rn bp bk bv (xb_i true) bn)) (ci := 4) (v := .int (xb_i true)) (ty := .boolean) (C := R_B) (T := F_B) (N := 5) hx hb hts (zi_B _) t_B t_B_ok n_B hown hK hP hD hS 4 rfl rfl 3 (by decide) (hts _ (List.mem_cons_of_mem _ zm_97)) (fun _ h9 => h9) rfl (by decide +kernel) (xb_nar _) (xb_fit _) (Nat.le_of_ble_eq_true rfl) rfl d_B_begin_2 (fun H locs hP hD hS => ?_)
  refine lv_aload_n hx hb d_B_begin_5 rfl (lv_at hl 0 rfl) ?_
  refine lv_iconst (v := nI 0) hx hb d_B_begin_6 (by decide +kernel) ?_
  refine xa_put (ws' := (xw_C q cA lim kf kg kn af bf rk rv rm rs rn bp bk bv (xb_i true) (nI 0))) (ci := 4) (v := .int (nI 0)) (ty := .int) (C := R_B) (T := F_B) (N := 5) hx hb hts (zi_B _) t_B t_B_ok n_B hown hK hP hD hS 4 rfl rfl 4 (by decide) (hts _ (List.mem_cons_of_mem _ zm_99)) (fun _ h9 => h9) rfl (by decide +kernel) (rfl) (rfl) (Nat.le_of_ble_eq_true rfl) rfl d_B_begin_7 (fun H locs hP hD hS => ?_)
  exact W.vret hx hb hr (fun tJ htJ hWJ => ⟨⟨(), rfl, trivial, by dsimp only; rw [htJ]; exact hP⟩, hS.F htJ⟩) hS.2.2 d_B_begin_10
set_option maxHeartbeats 4000000 in
set_option maxRecDepth 100000 in
theorem c_B_end (l : Launch) (D : va_G) (q : Nat → Nat) (cA : Nat → ClassId) (lim : Int32) (kf : Nat → Int32) (kg : Nat → Int64) (kn : Int32) (af : Nat → Int32) (bf : Nat → Int32) (rk : Nat → Int32) (rv : Nat → Int64) (rm : Nat → Int32) (rs : Nat → Int32) (rn : Int32) (bp : Nat → Int32) (bk : Nat → Int32) (bv : Nat → Int64) (bo : Int32) (bn : Int32) (sz : Nat)   : Met l y_B_end zw_B_end ({ frames := 0, cells := 0, slots := 0, locals := 0 } : Room) (va_Pc [.ref (q 4)] (xp_Q D zz_cl (xw_tC cA) sz (xw_C q cA lim kf kg kn af bf rk rv rm rs rn bp bk bv bo bn))) (va_Qv (fun u : Unit => True) (fun (u : Unit) (t : State) => va_P D zz_cl (xw_C q cA lim kf kg kn af bf rk rv rm rs rn bp bk bv (xb_i false) (nI 0)) t.heap) (va_A (xw_C q cA lim kf kg kn af bf rk rv rm rs rn bp bk bv bo bn) sz)) 0 0 (va_A (xw_C q cA lim kf kg kn af bf rk rv rm rs rn bp bk bv bo bn) sz) := by
  refine Met.ofW (cc := b_B_end) (maxL := 1) (ret := none) (by decide) rfl ?_
  intro pJ eJ s mJ args below meth cJ s₁ B hml hv
  obtain ⟨rfl, hsz, hP, hK, hD0, hZ⟩ := hv
  have hx := B.exec
  have hb := B.bytes
  have hr := B.returns
  have hts := atoms_spec (ws := zw_B_end) B.pre
  have hown : s.vm.findClass R_B = some mJ.cls := findClass_of_methodNamed B.named
  have hlocks := B.notSynchronized
  subst hsz
  have hD := hD0.self (sz := s.heap.size)
  generalize hAe : va_A (xw_C q cA lim kf kg kn af bf rk rv rm rs rn bp bk bv bo bn) s.heap.size = A at hD ⊢
  have hA : ∀ q : Nat, s.heap.size ≤ q → A q := fun q h => by rw [← hAe]; exact Or.inr h
  have hS : va_S A s.heap s.heap [] := va_S.rf
  have hl := lv_entry ([.ref (q 4)]) (n := 1) (Nat.le_of_ble_eq_true rfl)
  rw [lg_entry_eq]
  generalize (lg_sl ([.ref (q 4)]) ++ List.replicate (1 - (lg_sl ([.ref (q 4)])).length) Slot.unset).toArray = ls at hl ⊢
  have hl : lv_has ls 1 [(0, .ref (q 4))] := hl
  refine lv_aload_n hx hb d_B_end_0 rfl (lv_at hl 0 rfl) ?_
  refine lv_iconst (v := nI 0) hx hb d_B_end_1 (by decide +kernel) ?_
  refine xa_top (y := xb_i false) xb_f.symm ?_
  refine xa_put (ws' := (xw_C q cA lim kf kg kn af bf rk rv rm rs rn bp bk bv (xb_i false) bn)) (ci := 4) (v := .int (xb_i false)) (ty := .boolean) (C := R_B) (T := F_B) (N := 5) hx hb hts (zi_B _) t_B t_B_ok n_B hown hK hP hD hS 4 rfl rfl 3 (by decide) (hts _ (List.mem_cons_of_mem _ zm_97)) (fun _ h9 => h9) rfl (by decide +kernel) (xb_nar _) (xb_fit _) (Nat.le_of_ble_eq_true rfl) rfl d_B_end_2 (fun H locs hP hD hS => ?_)
  refine lv_aload_n hx hb d_B_end_5 rfl (lv_at hl 0 rfl) ?_
  refine lv_iconst (v := nI 0) hx hb d_B_end_6 (by decide +kernel) ?_
  refine xa_put (ws' := (xw_C q cA lim kf kg kn af bf rk rv rm rs rn bp bk bv (xb_i false) (nI 0))) (ci := 4) (v := .int (nI 0)) (ty := .int) (C := R_B) (T := F_B) (N := 5) hx hb hts (zi_B _) t_B t_B_ok n_B hown hK hP hD hS 4 rfl rfl 4 (by decide) (hts _ (List.mem_cons_of_mem _ zm_99)) (fun _ h9 => h9) rfl (by decide +kernel) (rfl) (rfl) (Nat.le_of_ble_eq_true rfl) rfl d_B_end_7 (fun H locs hP hD hS => ?_)
  exact W.vret hx hb hr (fun tJ htJ hWJ => ⟨⟨(), rfl, trivial, by dsimp only; rw [htJ]; exact hP⟩, hS.F htJ⟩) hS.2.2 d_B_end_10
set_option maxHeartbeats 4000000 in
set_option maxRecDepth 100000 in
theorem c_B_take (l : Launch) (D : va_G) (q : Nat → Nat) (cA : Nat → ClassId) (lim : Int32) (kf : Nat → Int32) (kg : Nat → Int64) (kn : Int32) (af : Nat → Int32) (bf : Nat → Int32) (rk : Nat → Int32) (rv : Nat → Int64) (rm : Nat → Int32) (rs : Nat → Int32) (rn : Int32) (bp : Nat → Int32) (bk : Nat → Int32) (bv : Nat → Int64) (bo : Int32) (sz : Nat) (n : Nat) (b : Bool) (k : Int32) (v : Int64) (hn : n ≤ 5) : Met l y_B_take zw_B_take ({ frames := 0, cells := 0, slots := 0, locals := 0 } : Room) (va_Pc [.ref (q 4), .int (xb_i b), .int k, .long v] (xp_Q D zz_cl (xw_tC cA) sz (xw_C q cA lim kf kg kn af bf rk rv rm rs rn bp bk bv bo (nI n)))) (va_Qi (fun (r : Int32) (u : Unit) => r = (if n < 5 then nI 3 else nI 0) ∧ (True)) (fun (u : Unit) (t : State) => va_P D zz_cl (xw_C q cA lim kf kg kn af bf rk rv rm rs rn (if n < 5 then upd bp n (xb_i b) else bp) (if n < 5 then upd bk n k else bk) (if n < 5 then vp_updL bv n v else bv) bo (nI (if n < 5 then n + 1 else n))) t.heap) (va_A (xw_C q cA lim kf kg kn af bf rk rv rm rs rn bp bk bv bo (nI n)) sz)) 0 0 (va_A (xw_C q cA lim kf kg kn af bf rk rv rm rs rn bp bk bv bo (nI n)) sz) := by
  refine Met.ofW (cc := b_B_take) (maxL := 5) (ret := (some .int)) (by decide) rfl ?_
  intro pJ eJ s mJ args below meth cJ s₁ B hml hv
  obtain ⟨rfl, hsz, hP, hK, hD0, hZ⟩ := hv
  have hx := B.exec
  have hb := B.bytes
  have hr := B.returns
  have hts := atoms_spec (ws := zw_B_take) B.pre
  have hown : s.vm.findClass R_B = some mJ.cls := findClass_of_methodNamed B.named
  have hlocks := B.notSynchronized
  subst hsz
  have hD := hD0.self (sz := s.heap.size)
  generalize hAe : va_A (xw_C q cA lim kf kg kn af bf rk rv rm rs rn bp bk bv bo (nI n)) s.heap.size = A at hD ⊢
  have hA : ∀ q : Nat, s.heap.size ≤ q → A q := fun q h => by rw [← hAe]; exact Or.inr h
  have hS : va_S A s.heap s.heap [] := va_S.rf
  have hl := lv_entry ([.ref (q 4), .int (xb_i b), .int k, .long v]) (n := 5) (Nat.le_of_ble_eq_true rfl)
  rw [lg_entry_eq]
  generalize (lg_sl ([.ref (q 4), .int (xb_i b), .int k, .long v]) ++ List.replicate (5 - (lg_sl ([.ref (q 4), .int (xb_i b), .int k, .long v])).length) Slot.unset).toArray = ls at hl ⊢
  have hl : lv_has ls 5 [(0, .ref (q 4)), (1, .int (xb_i b)), (2, .int k), (3, .long v)] := hl
  refine lv_aload_n hx hb d_B_take_0 rfl (lv_at hl 0 rfl) ?_
  refine va_get (D := D) (ci := 4) (v := .int (nI n)) (C := R_B) (T := F_B) (N := 5) hx hb hts (zi_B _) hown hK hP 4 rfl rfl 4 (by decide) (hts _ (List.mem_cons_of_mem _ zm_99)) (fun _ h9 => h9) rfl d_B_take_1 ?_
  refine lv_iconst (v := nI 5) hx hb d_B_take_4 (by decide +kernel) ?_
  refine lv_icmp_lt (tgt := 10) hx hb d_B_take_5 (by decide) (fun hc5 => ?_) (fun hc5 => ?_)
  · skip
    rw [nI_ltI (by omega) (by omega)] at hc5
    refine lv_aload_n hx hb d_B_take_10 rfl (lv_at hl 0 rfl) ?_
    refine va_get (D := D) (ci := 4) (v := .ref (q 13)) (C := R_B) (T := F_B) (N := 5) hx hb hts (zi_B _) hown hK hP 4 rfl rfl 0 (by decide) (hts _ (List.mem_cons_of_mem _ zm_91)) (fun _ h9 => h9) rfl d_B_take_11 ?_
    refine lv_aload_n hx hb d_B_take_14 rfl (lv_at hl 0 rfl) ?_
    refine va_get (D := D) (ci := 4) (v := .int (nI n)) (C := R_B) (T := F_B) (N := 5) hx hb hts (zi_B _) hown hK hP 4 rfl rfl 4 (by decide) (hts _ (List.mem_cons_of_mem _ zm_99)) (fun _ h9 => h9) rfl d_B_take_15 ?_
    refine lv_iload_n hx hb d_B_take_18 rfl (lv_at hl 1 rfl) ?_
    refine xa_zast (ws' := (xw_C q cA lim kf kg kn af bf rk rv rm rs rn (upd bp n (xb_i b)) bk bv bo (nI n))) hx hb hK hP hD hS 13 8 rfl rfl (k := n) (by omega) (by decide) (xb_vp b) rfl d_B_take_19 (fun H locs hP hD hS => ?_)
    refine lv_aload_n hx hb d_B_take_20 rfl (lv_at hl 0 rfl) ?_
    refine va_get (D := D) (ci := 4) (v := .ref (q 14)) (C := R_B) (T := F_B) (N := 5) hx hb hts (zi_B _) hown hK hP 4 rfl rfl 1 (by decide) (hts _ (List.mem_cons_of_mem _ zm_93)) (fun _ h9 => h9) rfl d_B_take_21 ?_
    refine lv_aload_n hx hb d_B_take_24 rfl (lv_at hl 0 rfl) ?_
    refine va_get (D := D) (ci := 4) (v := .int (nI n)) (C := R_B) (T := F_B) (N := 5) hx hb hts (zi_B _) hown hK hP 4 rfl rfl 4 (by decide) (hts _ (List.mem_cons_of_mem _ zm_99)) (fun _ h9 => h9) rfl d_B_take_25 ?_
    refine lv_iload_n hx hb d_B_take_28 rfl (lv_at hl 2 rfl) ?_
    refine xa_iast (ws' := (xw_C q cA lim kf kg kn af bf rk rv rm rs rn (upd bp n (xb_i b)) (upd bk n k) bv bo (nI n))) hx hb hK hP hD hS 14 9 rfl rfl (k := n) (by omega) (by decide) rfl d_B_take_29 (fun H locs hP hD hS => ?_)
    refine lv_aload_n hx hb d_B_take_30 rfl (lv_at hl 0 rfl) ?_
    refine va_get (D := D) (ci := 4) (v := .ref (q 15)) (C := R_B) (T := F_B) (N := 5) hx hb hts (zi_B _) hown hK hP 4 rfl rfl 2 (by decide) (hts _ (List.mem_cons_of_mem _ zm_95)) (fun _ h9 => h9) rfl d_B_take_31 ?_
    refine lv_aload_n hx hb d_B_take_34 rfl (lv_at hl 0 rfl) ?_
    refine va_get (D := D) (ci := 4) (v := .int (nI n)) (C := R_B) (T := F_B) (N := 5) hx hb hts (zi_B _) hown hK hP 4 rfl rfl 4 (by decide) (hts _ (List.mem_cons_of_mem _ zm_99)) (fun _ h9 => h9) rfl d_B_take_35 ?_
    refine lv_lload_n hx hb d_B_take_38 rfl (lv_at hl 3 rfl) ?_
    refine xa_last (ws' := (xw_C q cA lim kf kg kn af bf rk rv rm rs rn (upd bp n (xb_i b)) (upd bk n k) (vp_updL bv n v) bo (nI n))) hx hb hK hP hD hS 15 10 rfl rfl (k := n) (by omega) (by decide) rfl d_B_take_39 (fun H locs hP hD hS => ?_)
    refine lv_aload_n hx hb d_B_take_40 rfl (lv_at hl 0 rfl) ?_
    refine lv_dup hx hb d_B_take_41 rfl ?_
    refine va_get (D := D) (ci := 4) (v := .int (nI n)) (C := R_B) (T := F_B) (N := 5) hx hb hts (zi_B _) hown hK hP 4 rfl rfl 4 (by decide) (hts _ (List.mem_cons_of_mem _ zm_99)) (fun _ h9 => h9) rfl d_B_take_42 ?_
    refine lv_iconst (v := nI 1) hx hb d_B_take_45 (by decide +kernel) ?_
    refine lv_iadd hx hb d_B_take_46 ?_
    refine xa_top (y := nI (n + 1)) (nI_add _ _) ?_
    refine xa_put (ws' := (xw_C q cA lim kf kg kn af bf rk rv rm rs rn (upd bp n (xb_i b)) (upd bk n k) (vp_updL bv n v) bo (nI (n + 1)))) (ci := 4) (v := .int (nI (n + 1))) (ty := .int) (C := R_B) (T := F_B) (N := 5) hx hb hts (zi_B _) t_B t_B_ok n_B hown hK hP hD hS 4 rfl rfl 4 (by decide) (hts _ (List.mem_cons_of_mem _ zm_99)) (fun _ h9 => h9) rfl (by decide +kernel) (rfl) (rfl) (Nat.le_of_ble_eq_true rfl) rfl d_B_take_47 (fun H locs hP hD hS => ?_)
    refine lv_iconst (v := nI 3) hx hb d_B_take_50 (by decide +kernel) ?_
    exact W.iret (v := nI 3) hx hb hr (fun tJ htJ hWJ => ⟨⟨_, (), rfl, ⟨by rw [if_pos hc5], trivial⟩, by dsimp only; rw [htJ]; first | (simp only [hc5, if_true]; exact hP) | (simp only [hc5, if_false]; exact hP)⟩, hS.F htJ⟩) hS.2.2 d_B_take_51
  · skip
    rw [nI_ltI (by omega) (by omega)] at hc5
    refine lv_iconst (v := nI 0) hx hb d_B_take_8 (by decide +kernel) ?_
    exact W.iret (v := nI 0) hx hb hr (fun tJ htJ hWJ => ⟨⟨_, (), rfl, ⟨by rw [if_neg hc5], trivial⟩, by dsimp only; rw [htJ]; first | (simp only [hc5, if_true]; exact hP) | (simp only [hc5, if_false]; exact hP)⟩, hS.F htJ⟩) hS.2.2 d_B_take_9
set_option maxHeartbeats 4000000 in
set_option maxRecDepth 100000 in
theorem c_E_ras (l : Launch) (D : va_G) (q : Nat → Nat) (cA : Nat → ClassId) (lim : Int32) (kf : Nat → Int32) (kg : Nat → Int64) (af : Nat → Int32) (bf : Nat → Int32) (rk : Nat → Int32) (rv : Nat → Int64) (rm : Nat → Int32) (rs : Nat → Int32) (bp : Nat → Int32) (bk : Nat → Int32) (bv : Nat → Int64) (bo : Int32) (bn : Int32) (sz : Nat) (K : List xk_E) (n : Nat) (k : Int32) (v : Int64) (hT : xw_KT kf kg af bf K) (hn : n < 70) (hro : xk_has K k = true ∨ K.length < 65) : Met l y_E_recordAndSet zw_E_recordAndSet ({ frames := 4, cells := 0, slots := 0, locals := 108 } : Room) (va_Pc [.ref (q 0), .int k, .long v] (xp_Q D zz_cl (xw_tC cA) sz (xw_C q cA lim kf kg (nI K.length) af bf rk rv rm rs (nI n) bp bk bv bo bn))) (va_Qv (fun u : (Nat → Int32) × (Nat → Int64) × (Nat → Int32) × (Nat → Int32) => xw_KT u.1 u.2.1 u.2.2.1 u.2.2.2 (xk_set K k v)) (fun (u : (Nat → Int32) × (Nat → Int64) × (Nat → Int32) × (Nat → Int32)) (t : State) => va_P D zz_cl (xw_C q cA lim u.1 u.2.1 (nI (xk_set K k v).length) u.2.2.1 u.2.2.2 (upd rk n k) (vp_updL rv n (xk_get K k)) (upd rm n (xw_fo (xk_has K k))) (upd rs n (nI n)) (nI (n + 1)) bp bk bv bo bn) t.heap) (va_A (xw_C q cA lim kf kg (nI K.length) af bf rk rv rm rs (nI n) bp bk bv bo bn) sz)) 0 0 (va_A (xw_C q cA lim kf kg (nI K.length) af bf rk rv rm rs (nI n) bp bk bv bo bn) sz) := by
  refine Met.ofW (cc := b_E_recordAndSet) (maxL := 4) (ret := none) (by decide) rfl ?_
  intro pJ eJ s mJ args below meth cJ s₁ B hml hv
  obtain ⟨rfl, hsz, hP, hK, hD0, hZ⟩ := hv
  have hx := B.exec
  have hb := B.bytes
  have hr := B.returns
  have hts := atoms_spec (ws := zw_E_recordAndSet) B.pre
  have hown : s.vm.findClass R_E = some mJ.cls := findClass_of_methodNamed B.named
  have hlocks := B.notSynchronized
  subst hsz
  have hD := hD0.self (sz := s.heap.size)
  generalize hAe : va_A (xw_C q cA lim kf kg (nI K.length) af bf rk rv rm rs (nI n) bp bk bv bo bn) s.heap.size = A at hD ⊢
  have hA : ∀ q : Nat, s.heap.size ≤ q → A q := fun q h => by rw [← hAe]; exact Or.inr h
  have hS : va_S A s.heap s.heap [] := va_S.rf
  have hl := lv_entry ([.ref (q 0), .int k, .long v]) (n := 4) (Nat.le_of_ble_eq_true rfl)
  rw [lg_entry_eq]
  generalize (lg_sl ([.ref (q 0), .int k, .long v]) ++ List.replicate (4 - (lg_sl ([.ref (q 0), .int k, .long v])).length) Slot.unset).toArray = ls at hl ⊢
  have hl : lv_has ls 4 [(0, .ref (q 0)), (1, .int k), (2, .long v)] := hl
  refine lv_aload_n hx hb d_E_recordAndSet_0 rfl (lv_at hl 0 rfl) ?_
  refine va_get (D := D) (ci := 0) (v := .ref (q 3)) (C := R_E) (T := F_E) (N := 4) hx hb hts (zi_E _) hown hK hP 0 rfl rfl 2 (by decide) (hts _ (List.mem_cons_of_mem _ zm_115)) (fun _ h9 => h9) rfl d_E_recordAndSet_1 ?_
  refine lv_iload_n hx hb d_E_recordAndSet_4 rfl (lv_at hl 1 rfl) ?_
  refine lv_aload_n hx hb d_E_recordAndSet_5 rfl (lv_at hl 0 rfl) ?_
  refine va_get (D := D) (ci := 0) (v := .ref (q 1)) (C := R_E) (T := F_E) (N := 4) hx hb hts (zi_E _) hown hK hP 0 rfl rfl 1 (by decide) (hts _ (List.mem_cons_of_mem _ zm_114)) (fun _ h9 => h9) rfl d_E_recordAndSet_6 ?_
  refine lv_iload_n hx hb d_E_recordAndSet_9 rfl (lv_at hl 1 rfl) ?_
  refine xa_cI (va_runV (As := [.int k]) (rest := [.int k, .ref (q 3)]) ⟨hx, hb, hml, hown, hts⟩ (c_K_holds l D q cA lim kf kg af bf rk rv rm rs (nI n) bp bk bv bo bn K k hT) (cwV 1 hts (zg_V zm_134 zm_135 zm_136 zm_3 zm_137) rfl rfl rfl (by decide +kernel) ⟨Nat.le_of_ble_eq_true rfl, Nat.le_of_ble_eq_true rfl⟩) (xp_preV (ci := 1) (q0 := 1) hK hP rfl rfl rfl hZ) rfl rfl hl.1 rfl (lv_room (Nat.le_of_ble_eq_true rfl)) d_E_recordAndSet_10 ⟨Nat.zero_le _, Nat.zero_le _⟩) ?_
  refine lv_aload_n hx hb d_E_recordAndSet_13 rfl (lv_at hl 0 rfl) ?_
  refine va_get (D := D) (ci := 0) (v := .ref (q 1)) (C := R_E) (T := F_E) (N := 4) hx hb hts (zi_E _) hown hK hP 0 rfl rfl 1 (by decide) (hts _ (List.mem_cons_of_mem _ zm_114)) (fun _ h9 => h9) rfl d_E_recordAndSet_14 ?_
  refine lv_iload_n hx hb d_E_recordAndSet_17 rfl (lv_at hl 1 rfl) ?_
  refine xa_cJ (va_runV (As := [.int k]) (rest := [.int (xb_i (xk_has K k)), .int k, .ref (q 3)]) ⟨hx, hb, hml, hown, hts⟩ (c_K_valueOf l D q cA lim kf kg af bf rk rv rm rs (nI n) bp bk bv bo bn K k hT) (cwV 1 hts (zg_V zm_150 zm_151 zm_152 zm_3 zm_153) rfl rfl rfl (by decide +kernel) ⟨Nat.le_of_ble_eq_true rfl, Nat.le_of_ble_eq_true rfl⟩) (xp_preV (ci := 1) (q0 := 1) hK hP rfl rfl rfl hZ) rfl rfl hl.1 rfl (lv_room (Nat.le_of_ble_eq_true rfl)) d_E_recordAndSet_18 ⟨Nat.zero_le _, Nat.zero_le _⟩) ?_
  refine xa_cMV (va_runV (As := [.int k, .int (xb_i (xk_has K k)), .long (xk_get K k)]) (rest := []) ⟨hx, hb, hml, hown, hts⟩ (c_R_write l D q cA lim kf kg (nI K.length) af bf rk rv rm rs bp bk bv bo bn s.heap.size n k (xk_has K k) (xk_get K k) (by omega)) (cwV 3 hts (zg_V zm_154 zm_155 zm_156 zm_5 zm_157) rfl rfl rfl (by decide +kernel) ⟨Nat.le_of_ble_eq_true rfl, Nat.le_of_ble_eq_true rfl⟩) (xp_preVQ (ci := 3) (q0 := 3) hK hP hD rfl rfl rfl hZ) rfl rfl hl.1 rfl (lv_room (Nat.le_of_ble_eq_true rfl)) d_E_recordAndSet_21 ⟨Nat.zero_le _, Nat.zero_le _⟩) hS (xa_F hD hS hA) (fun u H locs hp21 hP hS => ?_)
  have hP : va_P D zz_cl (xw_C q cA lim kf kg (nI K.length) af bf (upd rk n k) (vp_updL rv n (xk_get K k)) (upd rm n (xw_fo (xk_has K k))) (upd rs n (nI n)) (nI (n + 1)) bp bk bv bo bn) H := hP
  have hD : va_D A (xw_C q cA lim kf kg (nI K.length) af bf (upd rk n k) (vp_updL rv n (xk_get K k)) (upd rm n (xw_fo (xk_has K k))) (upd rs n (nI n)) (nI (n + 1)) bp bk bv bo bn) := xa_E hD rfl
  refine lv_aload_n hx hb d_E_recordAndSet_24 rfl (lv_at hl 0 rfl) ?_
  refine va_get (D := D) (ci := 0) (v := .ref (q 1)) (C := R_E) (T := F_E) (N := 4) hx hb hts (zi_E _) hown hK hP 0 rfl rfl 1 (by decide) (hts _ (List.mem_cons_of_mem _ zm_114)) (fun _ h9 => h9) rfl d_E_recordAndSet_25 ?_
  refine lv_iload_n hx hb d_E_recordAndSet_28 rfl (lv_at hl 1 rfl) ?_
  refine lv_lload_n hx hb d_E_recordAndSet_29 rfl (lv_at hl 2 rfl) ?_
  refine xa_cMV (va_runV (As := [.int k, .long v]) (rest := []) ⟨hx, hb, hml, hown, hts⟩ (c_K_set l D q cA lim kf kg af bf (upd rk n k) (vp_updL rv n (xk_get K k)) (upd rm n (xw_fo (xk_has K k))) (upd rs n (nI n)) (nI (n + 1)) bp bk bv bo bn H.size K k v hT hro) (cwV 2 hts (zg_V zm_162 zm_163 zm_164 zm_3 zm_165) rfl rfl rfl (by decide +kernel) ⟨Nat.le_of_ble_eq_true rfl, Nat.le_of_ble_eq_true rfl⟩) (xp_preVQ (ci := 1) (q0 := 1) hK hP hD rfl rfl rfl hZ) rfl rfl hl.1 rfl (lv_room (Nat.le_of_ble_eq_true rfl)) d_E_recordAndSet_30 ⟨Nat.zero_le _, Nat.zero_le _⟩) hS (xa_F hD hS hA) (fun u H locs hp30 hP hS => ?_)
  obtain ⟨kf2_30, kg2_30, af2_30, bf2_30⟩ := u
  have hP : va_P D zz_cl (xw_C q cA lim kf2_30 kg2_30 (nI (xk_set K k v).length) af2_30 bf2_30 (upd rk n k) (vp_updL rv n (xk_get K k)) (upd rm n (xw_fo (xk_has K k))) (upd rs n (nI n)) (nI (n + 1)) bp bk bv bo bn) H := hP
  have hD : va_D A (xw_C q cA lim kf2_30 kg2_30 (nI (xk_set K k v).length) af2_30 bf2_30 (upd rk n k) (vp_updL rv n (xk_get K k)) (upd rm n (xw_fo (xk_has K k))) (upd rs n (nI n)) (nI (n + 1)) bp bk bv bo bn) := xa_E hD rfl
  have hp30 : xw_KT kf2_30 kg2_30 af2_30 bf2_30 (xk_set K k v) := hp30
  exact W.vret hx hb hr (fun tJ htJ hWJ => ⟨⟨(kf2_30, kg2_30, af2_30, bf2_30), rfl, hp30, by dsimp only; rw [htJ]; exact hP⟩, hS.F htJ⟩) hS.2.2 d_E_recordAndSet_33
set_option maxHeartbeats 4000000 in
set_option maxRecDepth 100000 in
theorem c_E_rar (l : Launch) (D : va_G) (q : Nat → Nat) (cA : Nat → ClassId) (lim : Int32) (kf : Nat → Int32) (kg : Nat → Int64) (af : Nat → Int32) (bf : Nat → Int32) (rk : Nat → Int32) (rv : Nat → Int64) (rm : Nat → Int32) (rs : Nat → Int32) (bp : Nat → Int32) (bk : Nat → Int32) (bv : Nat → Int64) (bo : Int32) (bn : Int32) (sz : Nat) (K : List xk_E) (n : Nat) (k : Int32) (hT : xw_KT kf kg af bf K) (hn : n < 70) : Met l y_E_recordAndRemove zw_E_recordAndRemove ({ frames := 3, cells := 0, slots := 0, locals := 82 } : Room) (va_Pc [.ref (q 0), .int k] (xp_Q D zz_cl (xw_tC cA) sz (xw_C q cA lim kf kg (nI K.length) af bf rk rv rm rs (nI n) bp bk bv bo bn))) (va_Qv (fun u : (Nat → Int32) × (Nat → Int64) × (Nat → Int32) × (Nat → Int32) => xw_KT u.1 u.2.1 u.2.2.1 u.2.2.2 (xk_rem K k)) (fun (u : (Nat → Int32) × (Nat → Int64) × (Nat → Int32) × (Nat → Int32)) (t : State) => va_P D zz_cl (xw_C q cA lim u.1 u.2.1 (nI (xk_rem K k).length) u.2.2.1 u.2.2.2 (upd rk n k) (vp_updL rv n (xk_get K k)) (upd rm n (xw_fo (xk_has K k))) (upd rs n (nI n)) (nI (n + 1)) bp bk bv bo bn) t.heap) (va_A (xw_C q cA lim kf kg (nI K.length) af bf rk rv rm rs (nI n) bp bk bv bo bn) sz)) 0 0 (va_A (xw_C q cA lim kf kg (nI K.length) af bf rk rv rm rs (nI n) bp bk bv bo bn) sz) := by
  refine Met.ofW (cc := b_E_recordAndRemove) (maxL := 2) (ret := none) (by decide) rfl ?_
  intro pJ eJ s mJ args below meth cJ s₁ B hml hv
  obtain ⟨rfl, hsz, hP, hK, hD0, hZ⟩ := hv
  have hx := B.exec
  have hb := B.bytes
  have hr := B.returns
  have hts := atoms_spec (ws := zw_E_recordAndRemove) B.pre
  have hown : s.vm.findClass R_E = some mJ.cls := findClass_of_methodNamed B.named
  have hlocks := B.notSynchronized
  subst hsz
  have hD := hD0.self (sz := s.heap.size)
  generalize hAe : va_A (xw_C q cA lim kf kg (nI K.length) af bf rk rv rm rs (nI n) bp bk bv bo bn) s.heap.size = A at hD ⊢
  have hA : ∀ q : Nat, s.heap.size ≤ q → A q := fun q h => by rw [← hAe]; exact Or.inr h
  have hS : va_S A s.heap s.heap [] := va_S.rf
  have hl := lv_entry ([.ref (q 0), .int k]) (n := 2) (Nat.le_of_ble_eq_true rfl)
  rw [lg_entry_eq]
  generalize (lg_sl ([.ref (q 0), .int k]) ++ List.replicate (2 - (lg_sl ([.ref (q 0), .int k])).length) Slot.unset).toArray = ls at hl ⊢
  have hl : lv_has ls 2 [(0, .ref (q 0)), (1, .int k)] := hl
  refine lv_aload_n hx hb d_E_recordAndRemove_0 rfl (lv_at hl 0 rfl) ?_
  refine va_get (D := D) (ci := 0) (v := .ref (q 3)) (C := R_E) (T := F_E) (N := 4) hx hb hts (zi_E _) hown hK hP 0 rfl rfl 2 (by decide) (hts _ (List.mem_cons_of_mem _ zm_115)) (fun _ h9 => h9) rfl d_E_recordAndRemove_1 ?_
  refine lv_iload_n hx hb d_E_recordAndRemove_4 rfl (lv_at hl 1 rfl) ?_
  refine lv_aload_n hx hb d_E_recordAndRemove_5 rfl (lv_at hl 0 rfl) ?_
  refine va_get (D := D) (ci := 0) (v := .ref (q 1)) (C := R_E) (T := F_E) (N := 4) hx hb hts (zi_E _) hown hK hP 0 rfl rfl 1 (by decide) (hts _ (List.mem_cons_of_mem _ zm_114)) (fun _ h9 => h9) rfl d_E_recordAndRemove_6 ?_
  refine lv_iload_n hx hb d_E_recordAndRemove_9 rfl (lv_at hl 1 rfl) ?_
  refine xa_cI (va_runV (As := [.int k]) (rest := [.int k, .ref (q 3)]) ⟨hx, hb, hml, hown, hts⟩ (c_K_holds l D q cA lim kf kg af bf rk rv rm rs (nI n) bp bk bv bo bn K k hT) (cwV 1 hts (zg_V zm_134 zm_135 zm_136 zm_3 zm_137) rfl rfl rfl (by decide +kernel) ⟨Nat.le_of_ble_eq_true rfl, Nat.le_of_ble_eq_true rfl⟩) (xp_preV (ci := 1) (q0 := 1) hK hP rfl rfl rfl hZ) rfl rfl hl.1 rfl (lv_room (Nat.le_of_ble_eq_true rfl)) d_E_recordAndRemove_10 ⟨Nat.zero_le _, Nat.zero_le _⟩) ?_
  refine lv_aload_n hx hb d_E_recordAndRemove_13 rfl (lv_at hl 0 rfl) ?_
  refine va_get (D := D) (ci := 0) (v := .ref (q 1)) (C := R_E) (T := F_E) (N := 4) hx hb hts (zi_E _) hown hK hP 0 rfl rfl 1 (by decide) (hts _ (List.mem_cons_of_mem _ zm_114)) (fun _ h9 => h9) rfl d_E_recordAndRemove_14 ?_
  refine lv_iload_n hx hb d_E_recordAndRemove_17 rfl (lv_at hl 1 rfl) ?_
  refine xa_cJ (va_runV (As := [.int k]) (rest := [.int (xb_i (xk_has K k)), .int k, .ref (q 3)]) ⟨hx, hb, hml, hown, hts⟩ (c_K_valueOf l D q cA lim kf kg af bf rk rv rm rs (nI n) bp bk bv bo bn K k hT) (cwV 1 hts (zg_V zm_150 zm_151 zm_152 zm_3 zm_153) rfl rfl rfl (by decide +kernel) ⟨Nat.le_of_ble_eq_true rfl, Nat.le_of_ble_eq_true rfl⟩) (xp_preV (ci := 1) (q0 := 1) hK hP rfl rfl rfl hZ) rfl rfl hl.1 rfl (lv_room (Nat.le_of_ble_eq_true rfl)) d_E_recordAndRemove_18 ⟨Nat.zero_le _, Nat.zero_le _⟩) ?_
  refine xa_cMV (va_runV (As := [.int k, .int (xb_i (xk_has K k)), .long (xk_get K k)]) (rest := []) ⟨hx, hb, hml, hown, hts⟩ (c_R_write l D q cA lim kf kg (nI K.length) af bf rk rv rm rs bp bk bv bo bn s.heap.size n k (xk_has K k) (xk_get K k) (by omega)) (cwV 3 hts (zg_V zm_154 zm_155 zm_156 zm_5 zm_157) rfl rfl rfl (by decide +kernel) ⟨Nat.le_of_ble_eq_true rfl, Nat.le_of_ble_eq_true rfl⟩) (xp_preVQ (ci := 3) (q0 := 3) hK hP hD rfl rfl rfl hZ) rfl rfl hl.1 rfl (lv_room (Nat.le_of_ble_eq_true rfl)) d_E_recordAndRemove_21 ⟨Nat.zero_le _, Nat.zero_le _⟩) hS (xa_F hD hS hA) (fun u H locs hp21 hP hS => ?_)
  have hP : va_P D zz_cl (xw_C q cA lim kf kg (nI K.length) af bf (upd rk n k) (vp_updL rv n (xk_get K k)) (upd rm n (xw_fo (xk_has K k))) (upd rs n (nI n)) (nI (n + 1)) bp bk bv bo bn) H := hP
  have hD : va_D A (xw_C q cA lim kf kg (nI K.length) af bf (upd rk n k) (vp_updL rv n (xk_get K k)) (upd rm n (xw_fo (xk_has K k))) (upd rs n (nI n)) (nI (n + 1)) bp bk bv bo bn) := xa_E hD rfl
  refine lv_aload_n hx hb d_E_recordAndRemove_24 rfl (lv_at hl 0 rfl) ?_
  refine va_get (D := D) (ci := 0) (v := .ref (q 1)) (C := R_E) (T := F_E) (N := 4) hx hb hts (zi_E _) hown hK hP 0 rfl rfl 1 (by decide) (hts _ (List.mem_cons_of_mem _ zm_114)) (fun _ h9 => h9) rfl d_E_recordAndRemove_25 ?_
  refine lv_iload_n hx hb d_E_recordAndRemove_28 rfl (lv_at hl 1 rfl) ?_
  refine xa_cMV (va_runV (As := [.int k]) (rest := []) ⟨hx, hb, hml, hown, hts⟩ (c_K_remove l D q cA lim kf kg af bf (upd rk n k) (vp_updL rv n (xk_get K k)) (upd rm n (xw_fo (xk_has K k))) (upd rs n (nI n)) (nI (n + 1)) bp bk bv bo bn H.size K k hT) (cwV 1 hts (zg_V zm_232 zm_233 zm_234 zm_3 zm_235) rfl rfl rfl (by decide +kernel) ⟨Nat.le_of_ble_eq_true rfl, Nat.le_of_ble_eq_true rfl⟩) (xp_preVQ (ci := 1) (q0 := 1) hK hP hD rfl rfl rfl hZ) rfl rfl hl.1 rfl (lv_room (Nat.le_of_ble_eq_true rfl)) d_E_recordAndRemove_29 ⟨Nat.zero_le _, Nat.zero_le _⟩) hS (xa_F hD hS hA) (fun u H locs hp29 hP hS => ?_)
  obtain ⟨kf2_29, kg2_29, af2_29, bf2_29⟩ := u
  have hP : va_P D zz_cl (xw_C q cA lim kf2_29 kg2_29 (nI (xk_rem K k).length) af2_29 bf2_29 (upd rk n k) (vp_updL rv n (xk_get K k)) (upd rm n (xw_fo (xk_has K k))) (upd rs n (nI n)) (nI (n + 1)) bp bk bv bo bn) H := hP
  have hD : va_D A (xw_C q cA lim kf2_29 kg2_29 (nI (xk_rem K k).length) af2_29 bf2_29 (upd rk n k) (vp_updL rv n (xk_get K k)) (upd rm n (xw_fo (xk_has K k))) (upd rs n (nI n)) (nI (n + 1)) bp bk bv bo bn) := xa_E hD rfl
  have hp29 : xw_KT kf2_29 kg2_29 af2_29 bf2_29 (xk_rem K k) := hp29
  exact W.vret hx hb hr (fun tJ htJ hWJ => ⟨⟨(kf2_29, kg2_29, af2_29, bf2_29), rfl, hp29, by dsimp only; rw [htJ]; exact hP⟩, hS.F htJ⟩) hS.2.2 d_E_recordAndRemove_32
set_option maxHeartbeats 4000000 in
set_option maxRecDepth 100000 in
theorem c_E_over (l : Launch) (D : va_G) (q : Nat → Nat) (cA : Nat → ClassId) (kf : Nat → Int32) (kg : Nat → Int64) (af : Nat → Int32) (bf : Nat → Int32) (rk : Nat → Int32) (rv : Nat → Int64) (rm : Nat → Int32) (rs : Nat → Int32) (rn : Int32) (bp : Nat → Int32) (bk : Nat → Int32) (bv : Nat → Int64) (bo : Int32) (bn : Int32) (K : List xk_E) (lm : Nat) (hT : xw_KT kf kg af bf K) (hlm : lm ≤ 200) : Met l y_E_isOverfull zw_E_isOverfull ({ frames := 5, cells := 0, slots := 0, locals := 108 } : Room) (va_Pc [.ref (q 0)] (xp_R D zz_cl (xw_tC cA) (xw_C q cA (nI lm) kf kg (nI K.length) af bf rk rv rm rs rn bp bk bv bo bn))) (vp_Si (fun r : Int32 => r = (xb_i (xs_bad lm K)))) 0 0 (fun _ => False) := by
  refine Met.ofW (cc := b_E_isOverfull) (maxL := 1) (ret := (some .boolean)) (by decide) rfl ?_
  intro pJ eJ s mJ args below meth cJ s₁ B hml hv
  obtain ⟨rfl, hP, hK, hZ⟩ := hv
  have hx := B.exec
  have hb := B.bytes
  have hr := B.returns
  have hts := atoms_spec (ws := zw_E_isOverfull) B.pre
  have hown : s.vm.findClass R_E = some mJ.cls := findClass_of_methodNamed B.named
  have hlocks := B.notSynchronized
  have hl := lv_entry ([.ref (q 0)]) (n := 1) (Nat.le_of_ble_eq_true rfl)
  rw [lg_entry_eq]
  generalize (lg_sl ([.ref (q 0)]) ++ List.replicate (1 - (lg_sl ([.ref (q 0)])).length) Slot.unset).toArray = ls at hl ⊢
  have hl : lv_has ls 1 [(0, .ref (q 0))] := hl
  have hlen := hT.1
  have hpg := xd_pg_le hT.1
  refine lv_aload_n hx hb d_E_isOverfull_0 rfl (lv_at hl 0 rfl) ?_
  refine va_get (D := D) (ci := 0) (v := .ref (q 1)) (C := R_E) (T := F_E) (N := 4) hx hb hts (zi_E _) hown hK hP 0 rfl rfl 1 (by decide) (hts _ (List.mem_cons_of_mem _ zm_114)) (fun _ h9 => h9) rfl d_E_isOverfull_1 ?_
  refine va_getN (D := D) (ci := 1) (v := .int (nI K.length)) (C := R_K) (T := F_K) (N := 4) hx hb hts (zi_K _) hown hK hP 1 rfl rfl 3 (by decide) (va_Nw.use rfl (hZ _ zn_49)) (fun _ h9 => h9) rfl d_E_isOverfull_4 ?_
  refine lv_bipush (v := nI 60) hx hb d_E_isOverfull_7 (by decide +kernel) ?_
  refine lv_icmp_gt (tgt := 26) hx hb d_E_isOverfull_9 (by decide) (fun hc9 => ?_) (fun hc9 => ?_)
  · skip
    rw [nI_ltI (by omega) (by omega)] at hc9
    refine lv_iconst (v := nI 1) hx hb d_E_isOverfull_26 (by decide +kernel) ?_
    refine lv_goto (tgt := 31) hx hb d_E_isOverfull_27 (by decide) ?_
    exact W.zret (ty := .boolean) (v := nI 1) hx hb hr (by decide +kernel) (fun tJ htJ hWJ => ⟨_, rfl, by first | exact xw_ov1 (Or.inl hc9) | exact xw_ov1 (Or.inr hc23) | exact xw_ov0 hc9 hc23, htJ⟩) (fun _ h => by cases h) d_E_isOverfull_31
  · skip
    rw [nI_ltI (by omega) (by omega)] at hc9
    refine lv_aload_n hx hb d_E_isOverfull_12 rfl (lv_at hl 0 rfl) ?_
    refine va_get (D := D) (ci := 0) (v := .ref (q 1)) (C := R_E) (T := F_E) (N := 4) hx hb hts (zi_E _) hown hK hP 0 rfl rfl 1 (by decide) (hts _ (List.mem_cons_of_mem _ zm_114)) (fun _ h9 => h9) rfl d_E_isOverfull_13 ?_
    refine xa_cI (va_runV (As := []) (rest := []) ⟨hx, hb, hml, hown, hts⟩ (c_K_pages l D q cA (nI lm) kf kg af bf rk rv rm rs rn bp bk bv bo bn K hT) (cwV 0 hts (zg_V zm_187 zm_188 zm_189 zm_3 zm_190) rfl rfl rfl (by decide +kernel) ⟨Nat.le_of_ble_eq_true rfl, Nat.le_of_ble_eq_true rfl⟩) (xp_preV (ci := 1) (q0 := 1) hK hP rfl rfl rfl hZ) rfl rfl hl.1 rfl (lv_room (Nat.le_of_ble_eq_true rfl)) d_E_isOverfull_16 ⟨Nat.zero_le _, Nat.zero_le _⟩) ?_
    refine lv_aload_n hx hb d_E_isOverfull_19 rfl (lv_at hl 0 rfl) ?_
    refine va_get (D := D) (ci := 0) (v := .int (nI lm)) (C := R_E) (T := F_E) (N := 4) hx hb hts (zi_E _) hown hK hP 0 rfl rfl 0 (by decide) (hts _ (List.mem_cons_of_mem _ zm_113)) (fun _ h9 => h9) rfl d_E_isOverfull_20 ?_
    refine lv_icmp_le (tgt := 30) hx hb d_E_isOverfull_23 (by decide) (fun hc23 => ?_) (fun hc23 => ?_)
    · skip
      rw [nI_leI (by omega) (by omega)] at hc23
      refine lv_iconst (v := nI 0) hx hb d_E_isOverfull_30 (by decide +kernel) ?_
      exact W.zret (ty := .boolean) (v := nI 0) hx hb hr (by decide +kernel) (fun tJ htJ hWJ => ⟨_, rfl, by first | exact xw_ov1 (Or.inl hc9) | exact xw_ov1 (Or.inr hc23) | exact xw_ov0 hc9 hc23, htJ⟩) (fun _ h => by cases h) d_E_isOverfull_31
    · skip
      rw [nI_leI (by omega) (by omega)] at hc23
      refine lv_iconst (v := nI 1) hx hb d_E_isOverfull_26 (by decide +kernel) ?_
      refine lv_goto (tgt := 31) hx hb d_E_isOverfull_27 (by decide) ?_
      exact W.zret (ty := .boolean) (v := nI 1) hx hb hr (by decide +kernel) (fun tJ htJ hWJ => ⟨_, rfl, by first | exact xw_ov1 (Or.inl hc9) | exact xw_ov1 (Or.inr hc23) | exact xw_ov0 hc9 hc23, htJ⟩) (fun _ h => by cases h) d_E_isOverfull_31
set_option maxHeartbeats 4000000 in
set_option maxRecDepth 100000 in
theorem c_E_tbf (l : Launch) (D : va_G) (q : Nat → Nat) (cA : Nat → ClassId) (lim : Int32) (kf : Nat → Int32) (kg : Nat → Int64) (af : Nat → Int32) (bf : Nat → Int32) (rk : Nat → Int32) (rv : Nat → Int64) (rm : Nat → Int32) (rs : Nat → Int32) (bp : Nat → Int32) (bk : Nat → Int32) (bv : Nat → Int64) (bo : Int32) (bn : Int32) (sz : Nat) (S : Nat → List xk_E) (n : Nat) (f : Nat) (hT : xw_KT kf kg af bf (S n)) (hn : n ≤ 70) (hf : f ≤ n) (hU : ∀ i, f ≤ i → i < n → xw_U rk rv rm S i) : Met l y_E_takeBackFrom zw_E_takeBackFrom ({ frames := 4, cells := 0, slots := 0, locals := 108 } : Room) (va_Pc [.ref (q 0), .int (nI f)] (xp_Q D zz_cl (xw_tC cA) sz (xw_C q cA lim kf kg (nI (S n).length) af bf rk rv rm rs (nI n) bp bk bv bo bn))) (va_Qv (fun u : (Nat → Int32) × (Nat → Int64) × (Nat → Int32) × (Nat → Int32) => xw_KT u.1 u.2.1 u.2.2.1 u.2.2.2 (S f)) (fun (u : (Nat → Int32) × (Nat → Int64) × (Nat → Int32) × (Nat → Int32)) (t : State) => va_P D zz_cl (xw_C q cA lim u.1 u.2.1 (nI (S f).length) u.2.2.1 u.2.2.2 rk rv rm rs (nI f) bp bk bv bo bn) t.heap) (va_A (xw_C q cA lim kf kg (nI (S n).length) af bf rk rv rm rs (nI n) bp bk bv bo bn) sz)) 0 0 (va_A (xw_C q cA lim kf kg (nI (S n).length) af bf rk rv rm rs (nI n) bp bk bv bo bn) sz) := by
  refine Met.ofW (cc := b_E_takeBackFrom) (maxL := 3) (ret := none) (by decide) rfl ?_
  intro pJ eJ s mJ args below meth cJ s₁ B hml hv
  obtain ⟨rfl, hsz, hP, hK, hD0, hZ⟩ := hv
  have hx := B.exec
  have hb := B.bytes
  have hr := B.returns
  have hts := atoms_spec (ws := zw_E_takeBackFrom) B.pre
  have hown : s.vm.findClass R_E = some mJ.cls := findClass_of_methodNamed B.named
  have hlocks := B.notSynchronized
  subst hsz
  have hD := hD0.self (sz := s.heap.size)
  generalize hAe : va_A (xw_C q cA lim kf kg (nI (S n).length) af bf rk rv rm rs (nI n) bp bk bv bo bn) s.heap.size = A at hD ⊢
  have hA : ∀ q : Nat, s.heap.size ≤ q → A q := fun q h => by rw [← hAe]; exact Or.inr h
  have hS : va_S A s.heap s.heap [] := va_S.rf
  have hl := lv_entry ([.ref (q 0), .int (nI f)]) (n := 3) (Nat.le_of_ble_eq_true rfl)
  rw [lg_entry_eq]
  generalize (lg_sl ([.ref (q 0), .int (nI f)]) ++ List.replicate (3 - (lg_sl ([.ref (q 0), .int (nI f)])).length) Slot.unset).toArray = ls at hl ⊢
  have hl : lv_has ls 3 [(0, .ref (q 0)), (1, .int (nI f))] := hl
  refine lv_aload_n hx hb d_E_takeBackFrom_0 rfl (lv_at hl 0 rfl) ?_
  refine va_get (D := D) (ci := 0) (v := .ref (q 3)) (C := R_E) (T := F_E) (N := 4) hx hb hts (zi_E _) hown hK hP 0 rfl rfl 2 (by decide) (hts _ (List.mem_cons_of_mem _ zm_115)) (fun _ h9 => h9) rfl d_E_takeBackFrom_1 ?_
  refine va_getN (D := D) (ci := 3) (v := .int (nI n)) (C := R_R) (T := F_R) (N := 5) hx hb hts (zi_R _) hown hK hP 3 rfl rfl 4 (by decide) (va_Nw.use rfl (hZ _ zn_72)) (fun _ h9 => h9) rfl d_E_takeBackFrom_4 ?_
  refine lv_iconst (v := nI 1) hx hb d_E_takeBackFrom_7 (by decide +kernel) ?_
  refine lv_isub hx hb d_E_takeBackFrom_8 ?_
  refine xa_top (y := nI n - nI 1) rfl ?_
  refine lv_istore_n (lv' := [(2, .int (nI n - nI 1)), (0, .ref (q 0)), (1, .int (nI f))]) hx hb d_E_takeBackFrom_9 rfl hl (Nat.le_of_ble_eq_true rfl) rfl (fun ls hl => ?_)
  have lp10 : ∀ (N : Nat) (t : Nat) (kf1 : Nat → Int32) (kg1 : Nat → Int64) (af1 : Nat → Int32) (bf1 : Nat → Int32) (ls : Array Slot) (H : Heap) (locs : List Loc), (f ≤ t) → (t ≤ n) → (xw_KT kf1 kg1 af1 bf1 (S t)) → lv_has ls 3 [(0, .ref (q 0)), (1, .int (nI f)), (2, .int (nI t - nI 1))] → va_P D zz_cl (xw_C q cA lim kf1 kg1 (nI (S t).length) af1 bf1 rk rv rm rs (nI n) bp bk bv bo bn) H → va_D A (xw_C q cA lim kf1 kg1 (nI (S t).length) af1 bf1 rk rv rm rs (nI n) bp bk bv bo bn) → va_S A s.heap H locs → t < N → W pJ l eJ (headSpec zw_E_takeBackFrom ({ frames := 4, cells := 0, slots := 0, locals := 108 } : Room)).room s mJ ([.ref (q 0), .int (nI f)] : List Value).toArray below meth cJ H locs 0 0 (MQ below (va_Qv (fun u : (Nat → Int32) × (Nat → Int64) × (Nat → Int32) × (Nat → Int32) => xw_KT u.1 u.2.1 u.2.2.1 u.2.2.2 (S f)) (fun (u : (Nat → Int32) × (Nat → Int64) × (Nat → Int32) × (Nat → Int32)) (t : State) => va_P D zz_cl (xw_C q cA lim u.1 u.2.1 (nI (S f).length) u.2.2.1 u.2.2.2 rk rv rm rs (nI f) bp bk bv bo bn) t.heap) A) ([.ref (q 0), .int (nI f)] : List Value).toArray s 0 0 A) (F0 mJ 10 ls []) := by
    intro N
    induction N with
    | zero => intro t kf1 kg1 af1 bf1 ls H locs hft htn hT1 hl hP hD hS hm; exact absurd hm (Nat.not_lt_zero _)
    | succ N ih10 =>
      intro t kf1 kg1 af1 bf1 ls H locs hft htn hT1 hl hP hD hS hm
      refine lv_iload_n hx hb d_E_takeBackFrom_10 rfl (lv_at hl 2 rfl) ?_
      refine lv_iload_n hx hb d_E_takeBackFrom_11 rfl (lv_at hl 1 rfl) ?_
      refine lv_icmp_lt (tgt := 91) hx hb d_E_takeBackFrom_12 (by decide) (fun hc12 => ?_) (fun hc12 => ?_)
      · skip
        rw [xw_tm1 (by omega) (by omega)] at hc12
        rw [show nI (S t).length = nI (S f).length from by rw [show t = f from by omega]] at hP hD
        refine lv_aload_n hx hb d_E_takeBackFrom_91 rfl (lv_at hl 0 rfl) ?_
        refine va_get (D := D) (ci := 0) (v := .ref (q 3)) (C := R_E) (T := F_E) (N := 4) hx hb hts (zi_E _) hown hK hP 0 rfl rfl 2 (by decide) (hts _ (List.mem_cons_of_mem _ zm_115)) (fun _ h9 => h9) rfl d_E_takeBackFrom_92 ?_
        refine lv_iload_n hx hb d_E_takeBackFrom_95 rfl (lv_at hl 1 rfl) ?_
        refine xa_cMV (va_runV (As := [.int (nI f)]) (rest := []) ⟨hx, hb, hml, hown, hts⟩ (c_R_forget l D q cA lim kf1 kg1 (nI (S f).length) af1 bf1 rk rv rm rs bp bk bv bo bn H.size n f (by omega) (by omega)) (cwV 1 hts (zg_V zm_236 zm_237 zm_238 zm_5 zm_239) rfl rfl rfl (by decide +kernel) ⟨Nat.le_of_ble_eq_true rfl, Nat.le_of_ble_eq_true rfl⟩) (xp_preVQ (ci := 3) (q0 := 3) hK hP hD rfl rfl rfl hZ) rfl rfl hl.1 rfl (lv_room (Nat.le_of_ble_eq_true rfl)) d_E_takeBackFrom_96 ⟨Nat.zero_le _, Nat.zero_le _⟩) hS (xa_F hD hS hA) (fun u H locs hp96 hP hS => ?_)
        have hP : va_P D zz_cl (xw_C q cA lim kf1 kg1 (nI (S f).length) af1 bf1 rk rv rm rs (nI (min n f)) bp bk bv bo bn) H := hP
        have hD : va_D A (xw_C q cA lim kf1 kg1 (nI (S f).length) af1 bf1 rk rv rm rs (nI (min n f)) bp bk bv bo bn) := xa_E hD rfl
        rw [show nI (min n f) = nI f from by rw [Nat.min_eq_right hf]] at hP hD
        exact W.vret hx hb hr (fun tJ htJ hWJ => ⟨⟨(kf1, kg1, af1, bf1), rfl, by rw [show f = t from by omega]; exact hT1, by dsimp only; rw [htJ]; exact hP⟩, hS.F htJ⟩) hS.2.2 d_E_takeBackFrom_99
      · skip
        rw [xw_tm1 (by omega) (by omega)] at hc12
        have hu := hU (t - 1) (by omega) (by omega)
        refine lv_aload_n hx hb d_E_takeBackFrom_15 rfl (lv_at hl 0 rfl) ?_
        refine va_get (D := D) (ci := 0) (v := .ref (q 3)) (C := R_E) (T := F_E) (N := 4) hx hb hts (zi_E _) hown hK hP 0 rfl rfl 2 (by decide) (hts _ (List.mem_cons_of_mem _ zm_115)) (fun _ h9 => h9) rfl d_E_takeBackFrom_16 ?_
        refine va_getN (D := D) (ci := 3) (v := .ref (q 11)) (C := R_R) (T := F_R) (N := 5) hx hb hts (zi_R _) hown hK hP 3 rfl rfl 2 (by decide) (va_Nw.use rfl (hZ _ zn_70)) (fun _ h9 => h9) rfl d_E_takeBackFrom_19 ?_
        refine lv_iload_n hx hb d_E_takeBackFrom_22 rfl (lv_at hl 2 rfl) ?_
        refine xa_top (y := nI (t - 1)) (pk_sub (by omega)) ?_
        refine xa_iald hx hb hK hP 11 6 rfl rfl (k := t - 1) (by omega) (by decide) d_E_takeBackFrom_23 ?_
        refine lv_iconst (v := nI 2) hx hb d_E_takeBackFrom_24 (by decide +kernel) ?_
        refine lv_icmp_ne (tgt := 56) hx hb d_E_takeBackFrom_25 (by decide) (fun hc25 => ?_) (fun hc25 => ?_)
        · skip
          refine lv_aload_n hx hb d_E_takeBackFrom_56 rfl (lv_at hl 0 rfl) ?_
          refine va_get (D := D) (ci := 0) (v := .ref (q 3)) (C := R_E) (T := F_E) (N := 4) hx hb hts (zi_E _) hown hK hP 0 rfl rfl 2 (by decide) (hts _ (List.mem_cons_of_mem _ zm_115)) (fun _ h9 => h9) rfl d_E_takeBackFrom_57 ?_
          refine va_getN (D := D) (ci := 3) (v := .ref (q 11)) (C := R_R) (T := F_R) (N := 5) hx hb hts (zi_R _) hown hK hP 3 rfl rfl 2 (by decide) (va_Nw.use rfl (hZ _ zn_70)) (fun _ h9 => h9) rfl d_E_takeBackFrom_60 ?_
          refine lv_iload_n hx hb d_E_takeBackFrom_63 rfl (lv_at hl 2 rfl) ?_
          refine xa_top (y := nI (t - 1)) (pk_sub (by omega)) ?_
          refine xa_iald hx hb hK hP 11 6 rfl rfl (k := t - 1) (by omega) (by decide) d_E_takeBackFrom_64 ?_
          refine lv_iconst (v := nI 1) hx hb d_E_takeBackFrom_65 (by decide +kernel) ?_
          refine lv_icmp_ne (tgt := 85) hx hb d_E_takeBackFrom_66 (by decide) (fun hc66 => ?_) (fun hc66 => ?_)
          · skip
            have hs0 := xw_u0 (by omega) hu hc25 hc66
            rw [show nI (S t).length = nI (S (t - 1)).length from by rw [hs0]] at hP hD
            refine lv_iinc (k := 2) (v := nI (t - 1) - nI 1) (lv' := [(2, .int (nI (t - 1) - nI 1)), (0, .ref (q 0)), (1, .int (nI f))]) hx hb d_E_takeBackFrom_85 hl rfl (xw_dec2 (by omega)) (Nat.le_of_ble_eq_true rfl) rfl (fun ls hl => ?_)
            refine lv_goto (tgt := 10) hx hb d_E_takeBackFrom_88 (by decide) ?_
            exact ih10 (t - 1) kf1 kg1 af1 bf1 ls _ _ (by omega) (by omega) (by first | (rw [← hs]; exact hp50) | (rw [← hs]; exact hp82) | (rw [← hs0]; exact hT1)) (lv_sub hl [1, 2, 0] rfl) hP hD hS (by omega)
          · skip
            have hs := xw_u1 (by omega) hu hc66
            refine lv_aload_n hx hb d_E_takeBackFrom_69 rfl (lv_at hl 0 rfl) ?_
            refine va_get (D := D) (ci := 0) (v := .ref (q 1)) (C := R_E) (T := F_E) (N := 4) hx hb hts (zi_E _) hown hK hP 0 rfl rfl 1 (by decide) (hts _ (List.mem_cons_of_mem _ zm_114)) (fun _ h9 => h9) rfl d_E_takeBackFrom_70 ?_
            refine lv_aload_n hx hb d_E_takeBackFrom_73 rfl (lv_at hl 0 rfl) ?_
            refine va_get (D := D) (ci := 0) (v := .ref (q 3)) (C := R_E) (T := F_E) (N := 4) hx hb hts (zi_E _) hown hK hP 0 rfl rfl 2 (by decide) (hts _ (List.mem_cons_of_mem _ zm_115)) (fun _ h9 => h9) rfl d_E_takeBackFrom_74 ?_
            refine va_getN (D := D) (ci := 3) (v := .ref (q 9)) (C := R_R) (T := F_R) (N := 5) hx hb hts (zi_R _) hown hK hP 3 rfl rfl 0 (by decide) (va_Nw.use rfl (hZ _ zn_66)) (fun _ h9 => h9) rfl d_E_takeBackFrom_77 ?_
            refine lv_iload_n hx hb d_E_takeBackFrom_80 rfl (lv_at hl 2 rfl) ?_
            refine xa_top (y := nI (t - 1)) (pk_sub (by omega)) ?_
            refine xa_iald hx hb hK hP 9 4 rfl rfl (k := t - 1) (by omega) (by decide) d_E_takeBackFrom_81 ?_
            refine xa_cMV (va_runV (As := [.int (rk (t - 1))]) (rest := []) ⟨hx, hb, hml, hown, hts⟩ (c_K_remove l D q cA lim kf1 kg1 af1 bf1 rk rv rm rs (nI n) bp bk bv bo bn H.size (S t) (rk (t - 1)) hT1) (cwV 1 hts (zg_V zm_232 zm_233 zm_234 zm_3 zm_235) rfl rfl rfl (by decide +kernel) ⟨Nat.le_of_ble_eq_true rfl, Nat.le_of_ble_eq_true rfl⟩) (xp_preVQ (ci := 1) (q0 := 1) hK hP hD rfl rfl rfl hZ) rfl rfl hl.1 rfl (lv_room (Nat.le_of_ble_eq_true rfl)) d_E_takeBackFrom_82 ⟨Nat.zero_le _, Nat.zero_le _⟩) hS (xa_F hD hS hA) (fun u H locs hp82 hP hS => ?_)
            obtain ⟨kf2_82, kg2_82, af2_82, bf2_82⟩ := u
            have hP : va_P D zz_cl (xw_C q cA lim kf2_82 kg2_82 (nI (xk_rem (S t) (rk (t - 1))).length) af2_82 bf2_82 rk rv rm rs (nI n) bp bk bv bo bn) H := hP
            have hD : va_D A (xw_C q cA lim kf2_82 kg2_82 (nI (xk_rem (S t) (rk (t - 1))).length) af2_82 bf2_82 rk rv rm rs (nI n) bp bk bv bo bn) := xa_E hD rfl
            have hp82 : xw_KT kf2_82 kg2_82 af2_82 bf2_82 (xk_rem (S t) (rk (t - 1))) := hp82
            rw [show nI (xk_rem (S t) (rk (t - 1))).length = nI (S (t - 1)).length from by rw [hs]] at hP hD
            refine lv_iinc (k := 2) (v := nI (t - 1) - nI 1) (lv' := [(2, .int (nI (t - 1) - nI 1)), (0, .ref (q 0)), (1, .int (nI f))]) hx hb d_E_takeBackFrom_85 hl rfl (xw_dec2 (by omega)) (Nat.le_of_ble_eq_true rfl) rfl (fun ls hl => ?_)
            refine lv_goto (tgt := 10) hx hb d_E_takeBackFrom_88 (by decide) ?_
            exact ih10 (t - 1) kf2_82 kg2_82 af2_82 bf2_82 ls _ _ (by omega) (by omega) (by first | (rw [← hs]; exact hp50) | (rw [← hs]; exact hp82) | (rw [← hs0]; exact hT1)) (lv_sub hl [1, 2, 0] rfl) hP hD hS (by omega)
        · skip
          obtain ⟨hs, hsl⟩ := xw_u2 (by omega) hu hc25
          refine lv_aload_n hx hb d_E_takeBackFrom_28 rfl (lv_at hl 0 rfl) ?_
          refine va_get (D := D) (ci := 0) (v := .ref (q 1)) (C := R_E) (T := F_E) (N := 4) hx hb hts (zi_E _) hown hK hP 0 rfl rfl 1 (by decide) (hts _ (List.mem_cons_of_mem _ zm_114)) (fun _ h9 => h9) rfl d_E_takeBackFrom_29 ?_
          refine lv_aload_n hx hb d_E_takeBackFrom_32 rfl (lv_at hl 0 rfl) ?_
          refine va_get (D := D) (ci := 0) (v := .ref (q 3)) (C := R_E) (T := F_E) (N := 4) hx hb hts (zi_E _) hown hK hP 0 rfl rfl 2 (by decide) (hts _ (List.mem_cons_of_mem _ zm_115)) (fun _ h9 => h9) rfl d_E_takeBackFrom_33 ?_
          refine va_getN (D := D) (ci := 3) (v := .ref (q 9)) (C := R_R) (T := F_R) (N := 5) hx hb hts (zi_R _) hown hK hP 3 rfl rfl 0 (by decide) (va_Nw.use rfl (hZ _ zn_66)) (fun _ h9 => h9) rfl d_E_takeBackFrom_36 ?_
          refine lv_iload_n hx hb d_E_takeBackFrom_39 rfl (lv_at hl 2 rfl) ?_
          refine xa_top (y := nI (t - 1)) (pk_sub (by omega)) ?_
          refine xa_iald hx hb hK hP 9 4 rfl rfl (k := t - 1) (by omega) (by decide) d_E_takeBackFrom_40 ?_
          refine lv_aload_n hx hb d_E_takeBackFrom_41 rfl (lv_at hl 0 rfl) ?_
          refine va_get (D := D) (ci := 0) (v := .ref (q 3)) (C := R_E) (T := F_E) (N := 4) hx hb hts (zi_E _) hown hK hP 0 rfl rfl 2 (by decide) (hts _ (List.mem_cons_of_mem _ zm_115)) (fun _ h9 => h9) rfl d_E_takeBackFrom_42 ?_
          refine va_getN (D := D) (ci := 3) (v := .ref (q 10)) (C := R_R) (T := F_R) (N := 5) hx hb hts (zi_R _) hown hK hP 3 rfl rfl 1 (by decide) (va_Nw.use rfl (hZ _ zn_68)) (fun _ h9 => h9) rfl d_E_takeBackFrom_45 ?_
          refine lv_iload_n hx hb d_E_takeBackFrom_48 rfl (lv_at hl 2 rfl) ?_
          refine xa_top (y := nI (t - 1)) (pk_sub (by omega)) ?_
          refine xa_lald hx hb hK hP 10 5 rfl rfl (k := t - 1) (by omega) (by decide) d_E_takeBackFrom_49 ?_
          refine xa_cMV (va_runV (As := [.int (rk (t - 1)), .long (rv (t - 1))]) (rest := []) ⟨hx, hb, hml, hown, hts⟩ (c_K_set l D q cA lim kf1 kg1 af1 bf1 rk rv rm rs (nI n) bp bk bv bo bn H.size (S t) (rk (t - 1)) (rv (t - 1)) hT1 (xw_room (by rw [hs]; exact hsl))) (cwV 2 hts (zg_V zm_162 zm_163 zm_164 zm_3 zm_165) rfl rfl rfl (by decide +kernel) ⟨Nat.le_of_ble_eq_true rfl, Nat.le_of_ble_eq_true rfl⟩) (xp_preVQ (ci := 1) (q0 := 1) hK hP hD rfl rfl rfl hZ) rfl rfl hl.1 rfl (lv_room (Nat.le_of_ble_eq_true rfl)) d_E_takeBackFrom_50 ⟨Nat.zero_le _, Nat.zero_le _⟩) hS (xa_F hD hS hA) (fun u H locs hp50 hP hS => ?_)
          obtain ⟨kf2_50, kg2_50, af2_50, bf2_50⟩ := u
          have hP : va_P D zz_cl (xw_C q cA lim kf2_50 kg2_50 (nI (xk_set (S t) (rk (t - 1)) (rv (t - 1))).length) af2_50 bf2_50 rk rv rm rs (nI n) bp bk bv bo bn) H := hP
          have hD : va_D A (xw_C q cA lim kf2_50 kg2_50 (nI (xk_set (S t) (rk (t - 1)) (rv (t - 1))).length) af2_50 bf2_50 rk rv rm rs (nI n) bp bk bv bo bn) := xa_E hD rfl
          have hp50 : xw_KT kf2_50 kg2_50 af2_50 bf2_50 (xk_set (S t) (rk (t - 1)) (rv (t - 1))) := hp50
          rw [show nI (xk_set (S t) (rk (t - 1)) (rv (t - 1))).length = nI (S (t - 1)).length from by rw [hs]] at hP hD
          refine lv_goto (tgt := 85) hx hb d_E_takeBackFrom_53 (by decide) ?_
          refine lv_iinc (k := 2) (v := nI (t - 1) - nI 1) (lv' := [(2, .int (nI (t - 1) - nI 1)), (0, .ref (q 0)), (1, .int (nI f))]) hx hb d_E_takeBackFrom_85 hl rfl (xw_dec2 (by omega)) (Nat.le_of_ble_eq_true rfl) rfl (fun ls hl => ?_)
          refine lv_goto (tgt := 10) hx hb d_E_takeBackFrom_88 (by decide) ?_
          exact ih10 (t - 1) kf2_50 kg2_50 af2_50 bf2_50 ls _ _ (by omega) (by omega) (by first | (rw [← hs]; exact hp50) | (rw [← hs]; exact hp82) | (rw [← hs0]; exact hT1)) (lv_sub hl [1, 2, 0] rfl) hP hD hS (by omega)
  exact lp10 _ n kf kg af bf ls _ _ hf (Nat.le_refl _) hT (lv_sub hl [1, 2, 0] rfl) hP hD hS (Nat.lt_succ_self _)
end
section
/-! Pure: the class's arrays against base, records and steps. -/
def xs_cn (B : List xk_E) (R : List xs_R) (n : Nat) (rk : Nat → Int32) (rv : Nat → Int64) (rm : Nat → Int32) : Prop := ∀ (i : Nat) (r : xs_R), i < n → R[i]? = some r → rk i = r.2.1 ∧ rm i = xs_fm (xs_S B R i) r ∧ rv i = xs_fv (xs_S B R i) r
theorem xs_cn_ct {B : List xk_E} {R : List xs_R} {rk : Nat → Int32} {rv : Nat → Int64} {rm : Nat → Int32} (h : xs_cn B R R.length rk rv rm) : xs_ct B R rk rv rm := fun i r hr => h i r (List.getElem?_eq_some_iff.mp hr).1 hr
theorem xs_ct_cn {B : List xk_E} {R : List xs_R} {rk : Nat → Int32} {rv : Nat → Int64} {rm : Nat → Int32} (h : xs_ct B R rk rv rm) (n : Nat) : xs_cn B R n rk rv rm := fun i r _ hr => h i r hr
theorem xs_cn_new {B : List xk_E} {R : List xs_R} {rk : Nat → Int32} {rv : Nat → Int64} {rm : Nat → Int32} (h : xs_ct B R rk rv rm) (N : List xs_O) : xs_cn B (xs_new B R N) R.length rk rv rm := by
  intro i r hi hr
  rw [xs_new, xs_S_app B R _ (by omega)]
  rw [xs_new, List.getElem?_append_left hi] at hr
  exact h i r hr
theorem xs_cn_up {B : List xk_E} {R : List xs_R} {n : Nat} {rk : Nat → Int32} {rv : Nat → Int64} {rm : Nat → Int32} (h : xs_cn B R n rk rv rm) {r : xs_R} (hr : R[n]? = some r) {k fm : Int32} {fv : Int64} (h1 : k = r.2.1) (h2 : fm = xs_fm (xs_S B R n) r) (h3 : fv = xs_fv (xs_S B R n) r) : xs_cn B R (n + 1) (upd rk n k) (vp_updL rv n fv) (upd rm n fm) := by
  intro i x hi hx
  by_cases z : i = n
  · subst z
    rw [hr] at hx
    cases hx
    rw [pk_us, pk_us, pk_uLs]
    exact ⟨h1, h2, h3⟩
  · rw [pk_un z, pk_un z, pk_uLn z]
    exact h i x (by omega) hx
theorem xs_cn_U {B : List xk_E} {R : List xs_R} {n : Nat} {rk : Nat → Int32} {rv : Nat → Int64} {rm : Nat → Int32} (h : xs_cn B R n rk rv rm) (hA : xk_asc B) (hl : ∀ i, i ≤ R.length → (xs_S B R i).length ≤ 65) (hw : ∀ r ∈ R, r.1 ≤ 2) (hn : n ≤ R.length) : ∀ i, i < n → xw_U rk rv rm (xs_S B R) i := by
  intro i hi
  have hr : R[i]? = some R[i] := List.getElem?_eq_getElem (by omega)
  obtain ⟨a1, a2, a3⟩ := h i R[i] hi hr
  have hu := xs_undo (xs_S_asc hA R i) R[i] (hw _ (List.getElem_mem _)) (hl i (by omega))
  rw [← xs_S_succ hr] at hu
  unfold xw_U
  rw [a1, a2, a3]
  rcases hu with hu | hu | hu
  · exact Or.inl ⟨hu.1, hu.2, hl i (by omega)⟩
  · exact Or.inr (Or.inl hu)
  · exact Or.inr (Or.inr hu)
theorem xs_S_fresh (B : List xk_E) (R : List xs_R) (N : List xs_O) (i : Nat) : xs_S (xs_now B R) (N.map (xs_rec 0)) i = xs_S B (xs_new B R N) (R.length + i) := by
  have hd : N.map (xs_rec 0) = ((xs_new B R N).drop R.length).map (fun r => (r.1, r.2.1, r.2.2.1, 0)) := by
    simp [xs_new, xs_rec]
  rw [hd, xs_S_st, xs_now]
  have : xs_S B R R.length = xs_S B (xs_new B R N) R.length := by rw [xs_new, xs_S_app B R _ (Nat.le_refl _)]
  rw [this, xs_S_drop]
theorem xs_now_new (B : List xk_E) (R : List xs_R) (N : List xs_O) : xs_S B (xs_new B R N) R.length = xs_now B R := by rw [xs_new, xs_S_app B R _ (Nat.le_refl _)]; rfl
theorem xs_now_add (B : List xk_E) (R : List xs_R) (N : List xs_O) : xs_now (xs_B B R N) (xs_Q B R N) = xs_now B (xs_new B R N) := by
  unfold xs_B xs_Q
  split
  · rw [xs_now, xs_S_fresh, List.length_map, xs_now, xs_new_len]
  · rfl
theorem xs_Q_len (B : List xk_E) (R : List xs_R) (N : List xs_O) : (xs_Q B R N).length = if 64 < R.length + N.length then N.length else R.length + N.length := by
  unfold xs_Q
  split
  · rw [List.length_map]
  · exact xs_new_len B R N
/-- settling: the records of the change alone, or all -/
theorem xs_settle {B : List xk_E} {R : List xs_R} {N : List xs_O} {rk : Nat → Int32} {rv : Nat → Int64} {rm rs : Nat → Int32} {n : Nat} (hn : n = R.length + N.length) (h : xs_cn B (xs_new B R N) n rk rv rm) (hs : xs_st (xs_new B R N) rs) :
    xs_ct (xs_B B R N) (xs_Q B R N) (if 64 < n then xw_mv rk R.length (n - R.length) else rk) (if 64 < n then xw_mv rv R.length (n - R.length) else rv) (if 64 < n then xw_mv rm R.length (n - R.length) else rm) ∧ xs_st (xs_Q B R N) (if 64 < n then xm_mb rs R.length (n - R.length) else rs) := by
  subst hn
  unfold xs_B xs_Q
  by_cases z : 64 < R.length + N.length
  · simp only [z, if_true]
    rw [Nat.add_sub_cancel_left]
    have at' : ∀ (i : Nat) (r : xs_R), (N.map (xs_rec 0))[i]? = some r → i < N.length ∧ ∃ o, N[i]? = some o ∧ r = xs_rec 0 o ∧ (xs_new B R N)[R.length + i]? = some (xs_rec R.length o) := by
      intro i r hr
      rw [List.getElem?_map] at hr
      cases q : N[i]? with
      | none => rw [q] at hr; cases hr
      | some o =>
        rw [q] at hr
        refine ⟨(List.getElem?_eq_some_iff.mp q).1, o, rfl, (Option.some.inj hr).symm, ?_⟩
        rw [xs_new, List.getElem?_append_right (by omega), List.getElem?_map, Nat.add_sub_cancel_left, q]
        rfl
    constructor
    · intro i r hr
      obtain ⟨hi, o, ho, rfl, hx⟩ := at' i r hr
      obtain ⟨a1, a2, a3⟩ := h (R.length + i) _ (by omega) hx
      unfold xw_mv
      rw [if_pos hi, if_pos hi, if_pos hi, xs_S_fresh]
      exact ⟨a1, a2, a3⟩
    · intro i r hr
      obtain ⟨hi, o, ho, rfl, hx⟩ := at' i r hr
      have := hs _ _ hx
      unfold xm_mb
      rw [if_pos hi, this]
      show nI R.length - nI R.length = nI 0
      rw [pk_sub (Nat.le_refl _), Nat.sub_self]
  · simp only [z, if_false]
    refine ⟨?_, hs⟩
    rw [← xs_new_len B] at h
    exact xs_cn_ct h
def xs_bt (ST : List xs_O) (bp bk : Nat → Int32) (bv : Nat → Int64) : Prop := ∀ (i : Nat) (o : xs_O), ST[i]? = some o → o.1 ≤ 1 ∧ bp i = xb_i (decide (o.1 = 0)) ∧ bk i = o.2.1 ∧ bv i = o.2.2
/-- the class's arrays hold base, records and steps -/
def xs_CT (B : List xk_E) (R : List xs_R) (ST : List xs_O) (kf : Nat → Int32) (kg : Nat → Int64) (af bf rk : Nat → Int32) (rv : Nat → Int64) (rm rs bp bk : Nat → Int32) (bv : Nat → Int64) : Prop := xw_KT kf kg af bf (xs_now B R) ∧ xs_ct B R rk rv rm ∧ xs_st R rs ∧ xs_bt ST bp bk bv
theorem xs_bt_up {ST : List xs_O} {bp bk : Nat → Int32} {bv : Nat → Int64} (h : xs_bt ST bp bk bv) {o : xs_O} (ho : o.1 ≤ 1) : xs_bt (ST ++ [o]) (upd bp ST.length (xb_i (decide (o.1 = 0)))) (upd bk ST.length o.2.1) (vp_updL bv ST.length o.2.2) := by
  intro i x hx
  rcases xs_app_at hx with ⟨h1, h2⟩ | ⟨h1, h2⟩
  · rw [pk_un (by omega), pk_un (by omega), pk_uLn (by omega)]
    exact h i x h2
  · subst h1; subst h2
    rw [pk_us, pk_us, pk_uLs]
    exact ⟨ho, rfl, rfl, rfl⟩
theorem xs_st_new {B : List xk_E} {R : List xs_R} {N : List xs_O} {rs : Nat → Int32} (h1 : ∀ i r, i < R.length → R[i]? = some r → rs i = nI r.2.2.2) (h2 : ∀ i, R.length ≤ i → i < R.length + N.length → rs i = nI R.length) : xs_st (xs_new B R N) rs := by
  intro i r hr
  rcases xs_new_st hr with ⟨a, b⟩ | ⟨a, o, b, c⟩
  · exact h1 i r a b
  · subst c
    have := (List.getElem?_eq_some_iff.mp b).1
    exact h2 i a (by omega)
theorem xs_st_keep {R : List xs_R} {rs rs' : Nat → Int32} (h : xs_st R rs) (hk : ∀ j, j < R.length → rs' j = rs j) : xs_st R rs' := fun i r hr => by
  rw [hk i (List.getElem?_eq_some_iff.mp hr).1]; exact h i r hr
theorem xs_ct_keep {B : List xk_E} {R : List xs_R} {rk rk' : Nat → Int32} {rv rv' : Nat → Int64} {rm rm' : Nat → Int32} (h : xs_cn B (xs_new B R []) R.length rk rv rm) : True := trivial
theorem xs_cn_back {B : List xk_E} {R : List xs_R} {N : List xs_O} {n : Nat} {rk : Nat → Int32} {rv : Nat → Int64} {rm : Nat → Int32} (h : xs_cn B (xs_new B R N) n rk rv rm) (hn : R.length ≤ n) : xs_ct B R rk rv rm := by
  intro i r hr
  have hi := (List.getElem?_eq_some_iff.mp hr).1
  have := h i r (by omega) (by rw [xs_new, List.getElem?_append_left hi]; exact hr)
  rw [xs_new, xs_S_app B R _ (by omega)] at this
  exact this
theorem xs_new_w {B : List xk_E} {R : List xs_R} {lim : Nat} (hok : xs_ok lim B R) {N : List xs_O} (hw : ∀ o ∈ N, o.1 ≤ 2) : ∀ r ∈ xs_new B R N, r.1 ≤ 2 := by
  intro r hr
  obtain ⟨i, hi⟩ := List.getElem?_of_mem hr
  rcases xs_new_st hi with ⟨a, b⟩ | ⟨a, o, b, c⟩
  · exact (hok.2.2.2.2.1 i r b).1
  · subst c; exact hw o (List.mem_of_getElem? b)
theorem xs_new_at {B : List xk_E} {R : List xs_R} {N : List xs_O} {i : Nat} {o : xs_O} (h : N[i]? = some o) : (xs_new B R N)[R.length + i]? = some (xs_rec R.length o) := by
  rw [xs_new, List.getElem?_append_right (by omega), List.getElem?_map, Nat.add_sub_cancel_left, h]
  rfl
/-- how many records a crash leaves -/
def xs_cut (R : List xs_R) (x : Int32) : Nat := match R[xw_cl x R.length]? with
  | some r => r.2.2.2
  | none => R.length
theorem xs_cut_eq {R : List xs_R} {rs : Nat → Int32} (h : xs_st R rs) (x : Int32) : (if xw_cl x R.length < R.length then rs (xw_cl x R.length) else nI R.length) = nI (xs_cut R x) := by
  unfold xs_cut
  split
  · rename_i q
    have hr : R[xw_cl x R.length]? = some R[xw_cl x R.length] := List.getElem?_eq_getElem q
    rw [hr, h _ _ hr]
  · rename_i q
    rw [List.getElem?_eq_none (by omega)]
theorem xs_cut_le {lim : Nat} {B : List xk_E} {R : List xs_R} (hok : xs_ok lim B R) (x : Int32) : xs_cut R x ≤ R.length ∧ xs_V lim (xs_S B R (xs_cut R x)) := by
  unfold xs_cut
  cases q : R[xw_cl x R.length]? with
  | none => exact ⟨Nat.le_refl _, hok.2.2.2.2.2⟩
  | some r =>
    have := hok.2.2.2.2.1 _ r q
    have := (List.getElem?_eq_some_iff.mp q).1
    exact ⟨by show r.2.2.2 ≤ R.length; omega, (hok.2.2.2.2.1 _ r q).2.2⟩
theorem xw_atE {K : List xk_E} {j : Nat} (hj : j < 2 ^ 31) (h : (xo_pls K 64).length ≤ j) : (-1) = xo_at K (nI j) := by
  rw [xo_at_miss]
  intro i hi q
  rw [nI_eq hj (by have := xo_pls_le K 64; omega)] at q
  omega
end
section
/-! Walks: specs_d (printed by run.py) -/
set_option maxHeartbeats 4000000 in
set_option maxRecDepth 100000 in
theorem c_E_has (l : Launch) (D : va_G) (q : Nat → Nat) (cA : Nat → ClassId) (lim : Int32) (kf : Nat → Int32) (kg : Nat → Int64) (af : Nat → Int32) (bf : Nat → Int32) (rk : Nat → Int32) (rv : Nat → Int64) (rm : Nat → Int32) (rs : Nat → Int32) (rn : Int32) (bp : Nat → Int32) (bk : Nat → Int32) (bv : Nat → Int64) (bo : Int32) (bn : Int32) (K : List xk_E) (k : Int32) (hT : xw_KT kf kg af bf K) : Met l y_E_has zw_E_has ({ frames := 2, cells := 0, slots := 0, locals := 43 } : Room) (va_Pc [.ref (q 0), .int k] (xp_R D zz_cl (xw_tC cA) (xw_C q cA lim kf kg (nI K.length) af bf rk rv rm rs rn bp bk bv bo bn))) (vp_Si (fun r : Int32 => r = (xb_i (xk_has K k)))) 0 0 (fun _ => False) := by
  refine Met.ofW (cc := b_E_has) (maxL := 2) (ret := (some .boolean)) (by decide) rfl ?_
  intro pJ eJ s mJ args below meth cJ s₁ B hml hv
  obtain ⟨rfl, hP, hK, hZ⟩ := hv
  have hx := B.exec
  have hb := B.bytes
  have hr := B.returns
  have hts := atoms_spec (ws := zw_E_has) B.pre
  have hown : s.vm.findClass R_E = some mJ.cls := findClass_of_methodNamed B.named
  have hlocks := B.notSynchronized
  have hl := lv_entry ([.ref (q 0), .int k]) (n := 2) (Nat.le_of_ble_eq_true rfl)
  rw [lg_entry_eq]
  generalize (lg_sl ([.ref (q 0), .int k]) ++ List.replicate (2 - (lg_sl ([.ref (q 0), .int k])).length) Slot.unset).toArray = ls at hl ⊢
  have hl : lv_has ls 2 [(0, .ref (q 0)), (1, .int k)] := hl
  refine lv_aload_n hx hb d_E_has_0 rfl (lv_at hl 0 rfl) ?_
  refine va_get (D := D) (ci := 0) (v := .ref (q 1)) (C := R_E) (T := F_E) (N := 4) hx hb hts (zi_E _) hown hK hP 0 rfl rfl 1 (by decide) (hts _ (List.mem_cons_of_mem _ zm_114)) (fun _ h9 => h9) rfl d_E_has_1 ?_
  refine lv_iload_n hx hb d_E_has_4 rfl (lv_at hl 1 rfl) ?_
  refine xa_cI (va_runV (As := [.int k]) (rest := []) ⟨hx, hb, hml, hown, hts⟩ (c_K_holds l D q cA lim kf kg af bf rk rv rm rs rn bp bk bv bo bn K k hT) (cwV 1 hts (zg_V zm_134 zm_135 zm_136 zm_3 zm_137) rfl rfl rfl (by decide +kernel) ⟨Nat.le_of_ble_eq_true rfl, Nat.le_of_ble_eq_true rfl⟩) (xp_preV (ci := 1) (q0 := 1) hK hP rfl rfl rfl hZ) rfl rfl hl.1 rfl (lv_room (Nat.le_of_ble_eq_true rfl)) d_E_has_5 ⟨Nat.zero_le _, Nat.zero_le _⟩) ?_
  exact W.zret (ty := .boolean) (v := xb_i (xk_has K k)) hx hb hr (xb_nar _) (fun tJ htJ hWJ => ⟨_, rfl, rfl, htJ⟩) (fun _ h => by cases h) d_E_has_8
set_option maxHeartbeats 4000000 in
set_option maxRecDepth 100000 in
theorem c_E_get (l : Launch) (D : va_G) (q : Nat → Nat) (cA : Nat → ClassId) (lim : Int32) (kf : Nat → Int32) (kg : Nat → Int64) (af : Nat → Int32) (bf : Nat → Int32) (rk : Nat → Int32) (rv : Nat → Int64) (rm : Nat → Int32) (rs : Nat → Int32) (rn : Int32) (bp : Nat → Int32) (bk : Nat → Int32) (bv : Nat → Int64) (bo : Int32) (bn : Int32) (K : List xk_E) (k : Int32) (hT : xw_KT kf kg af bf K) : Met l y_E_get zw_E_get ({ frames := 2, cells := 0, slots := 0, locals := 44 } : Room) (va_Pc [.ref (q 0), .int k] (xp_R D zz_cl (xw_tC cA) (xw_C q cA lim kf kg (nI K.length) af bf rk rv rm rs rn bp bk bv bo bn))) (vp_Sl (fun r : Int64 => r = (xk_get K k))) 0 0 (fun _ => False) := by
  refine Met.ofW (cc := b_E_get) (maxL := 2) (ret := (some .long)) (by decide) rfl ?_
  intro pJ eJ s mJ args below meth cJ s₁ B hml hv
  obtain ⟨rfl, hP, hK, hZ⟩ := hv
  have hx := B.exec
  have hb := B.bytes
  have hr := B.returns
  have hts := atoms_spec (ws := zw_E_get) B.pre
  have hown : s.vm.findClass R_E = some mJ.cls := findClass_of_methodNamed B.named
  have hlocks := B.notSynchronized
  have hl := lv_entry ([.ref (q 0), .int k]) (n := 2) (Nat.le_of_ble_eq_true rfl)
  rw [lg_entry_eq]
  generalize (lg_sl ([.ref (q 0), .int k]) ++ List.replicate (2 - (lg_sl ([.ref (q 0), .int k])).length) Slot.unset).toArray = ls at hl ⊢
  have hl : lv_has ls 2 [(0, .ref (q 0)), (1, .int k)] := hl
  refine lv_aload_n hx hb d_E_get_0 rfl (lv_at hl 0 rfl) ?_
  refine va_get (D := D) (ci := 0) (v := .ref (q 1)) (C := R_E) (T := F_E) (N := 4) hx hb hts (zi_E _) hown hK hP 0 rfl rfl 1 (by decide) (hts _ (List.mem_cons_of_mem _ zm_114)) (fun _ h9 => h9) rfl d_E_get_1 ?_
  refine lv_iload_n hx hb d_E_get_4 rfl (lv_at hl 1 rfl) ?_
  refine xa_cJ (va_runV (As := [.int k]) (rest := []) ⟨hx, hb, hml, hown, hts⟩ (c_K_valueOf l D q cA lim kf kg af bf rk rv rm rs rn bp bk bv bo bn K k hT) (cwV 1 hts (zg_V zm_150 zm_151 zm_152 zm_3 zm_153) rfl rfl rfl (by decide +kernel) ⟨Nat.le_of_ble_eq_true rfl, Nat.le_of_ble_eq_true rfl⟩) (xp_preV (ci := 1) (q0 := 1) hK hP rfl rfl rfl hZ) rfl rfl hl.1 rfl (lv_room (Nat.le_of_ble_eq_true rfl)) d_E_get_5 ⟨Nat.zero_le _, Nat.zero_le _⟩) ?_
  exact W.lret (v := xk_get K k) hx hb hr (fun tJ htJ hWJ => ⟨_, rfl, rfl, htJ⟩) (fun _ h => by cases h) d_E_get_8
set_option maxHeartbeats 4000000 in
set_option maxRecDepth 100000 in
theorem c_E_reads (l : Launch) (D : va_G) (q : Nat → Nat) (cA : Nat → ClassId) (lim : Int32) (kf : Nat → Int32) (kg : Nat → Int64) (af : Nat → Int32) (bf : Nat → Int32) (rk : Nat → Int32) (rv : Nat → Int64) (rm : Nat → Int32) (rs : Nat → Int32) (rn : Int32) (bp : Nat → Int32) (bk : Nat → Int32) (bv : Nat → Int64) (bo : Int32) (bn : Int32) (K : List xk_E) (k : Int32) (hT : xw_KT kf kg af bf K) : Met l y_E_reads zw_E_reads ({ frames := 4, cells := 0, slots := 0, locals := 90 } : Room) (va_Pc [.ref (q 0), .int k] (xp_R D zz_cl (xw_tC cA) (xw_C q cA lim kf kg (nI K.length) af bf rk rv rm rs rn bp bk bv bo bn))) (vp_Si (fun r : Int32 => r = (nI (1 + xo_rd K k + (if xk_has K k = true then xv_vp (xk_get K k) else 0))))) 0 0 (fun _ => False) := by
  refine Met.ofW (cc := b_E_reads) (maxL := 3) (ret := (some .int)) (by decide) rfl ?_
  intro pJ eJ s mJ args below meth cJ s₁ B hml hv
  obtain ⟨rfl, hP, hK, hZ⟩ := hv
  have hx := B.exec
  have hb := B.bytes
  have hr := B.returns
  have hts := atoms_spec (ws := zw_E_reads) B.pre
  have hown : s.vm.findClass R_E = some mJ.cls := findClass_of_methodNamed B.named
  have hlocks := B.notSynchronized
  have hl := lv_entry ([.ref (q 0), .int k]) (n := 3) (Nat.le_of_ble_eq_true rfl)
  rw [lg_entry_eq]
  generalize (lg_sl ([.ref (q 0), .int k]) ++ List.replicate (3 - (lg_sl ([.ref (q 0), .int k])).length) Slot.unset).toArray = ls at hl ⊢
  have hl : lv_has ls 3 [(0, .ref (q 0)), (1, .int k)] := hl
  refine lv_aload_n hx hb d_E_reads_0 rfl (lv_at hl 0 rfl) ?_
  refine va_get (D := D) (ci := 0) (v := .ref (q 1)) (C := R_E) (T := F_E) (N := 4) hx hb hts (zi_E _) hown hK hP 0 rfl rfl 1 (by decide) (hts _ (List.mem_cons_of_mem _ zm_114)) (fun _ h9 => h9) rfl d_E_reads_1 ?_
  refine lv_iload_n hx hb d_E_reads_4 rfl (lv_at hl 1 rfl) ?_
  refine xa_cI (va_runV (As := [.int k]) (rest := []) ⟨hx, hb, hml, hown, hts⟩ (c_K_holds l D q cA lim kf kg af bf rk rv rm rs rn bp bk bv bo bn K k hT) (cwV 1 hts (zg_V zm_134 zm_135 zm_136 zm_3 zm_137) rfl rfl rfl (by decide +kernel) ⟨Nat.le_of_ble_eq_true rfl, Nat.le_of_ble_eq_true rfl⟩) (xp_preV (ci := 1) (q0 := 1) hK hP rfl rfl rfl hZ) rfl rfl hl.1 rfl (lv_room (Nat.le_of_ble_eq_true rfl)) d_E_reads_5 ⟨Nat.zero_le _, Nat.zero_le _⟩) ?_
  refine lv_if_eq (tgt := 25) hx hb d_E_reads_8 (by decide) (fun hc8 => ?_) (fun hc8 => ?_)
  · skip
    rw [xb_0] at hc8
    refine lv_iconst (v := nI 0) hx hb d_E_reads_25 (by decide +kernel) ?_
    refine lv_istore_n (lv' := [(2, .int (nI 0)), (0, .ref (q 0)), (1, .int k)]) hx hb d_E_reads_26 rfl hl (Nat.le_of_ble_eq_true rfl) rfl (fun ls hl => ?_)
    refine lv_iconst (v := nI 1) hx hb d_E_reads_27 (by decide +kernel) ?_
    refine lv_aload_n hx hb d_E_reads_28 rfl (lv_at hl 1 rfl) ?_
    refine va_get (D := D) (ci := 0) (v := .ref (q 1)) (C := R_E) (T := F_E) (N := 4) hx hb hts (zi_E _) hown hK hP 0 rfl rfl 1 (by decide) (hts _ (List.mem_cons_of_mem _ zm_114)) (fun _ h9 => h9) rfl d_E_reads_29 ?_
    refine lv_iload_n hx hb d_E_reads_32 rfl (lv_at hl 2 rfl) ?_
    refine xa_cI (va_runV (As := [.int k]) (rest := [.int (nI 1)]) ⟨hx, hb, hml, hown, hts⟩ (c_K_bpu l D q cA lim kf kg af bf rk rv rm rs rn bp bk bv bo bn K k hT) (cwV 1 hts (zg_V zm_266 zm_267 zm_268 zm_3 zm_269) rfl rfl rfl (by decide +kernel) ⟨Nat.le_of_ble_eq_true rfl, Nat.le_of_ble_eq_true rfl⟩) (xp_preV (ci := 1) (q0 := 1) hK hP rfl rfl rfl hZ) rfl rfl hl.1 rfl (lv_room (Nat.le_of_ble_eq_true rfl)) d_E_reads_33 ⟨Nat.zero_le _, Nat.zero_le _⟩) ?_
    refine lv_iadd hx hb d_E_reads_36 ?_
    refine xa_top (y := nI (1 + xo_rd K k)) (nI_add _ _) ?_
    refine lv_iload_n hx hb d_E_reads_37 rfl (lv_at hl 0 rfl) ?_
    refine lv_iadd hx hb d_E_reads_38 ?_
    refine xa_top (y := nI (1 + xo_rd K k + 0)) (nI_add _ _) ?_
    exact W.iret (v := nI (1 + xo_rd K k + 0)) hx hb hr (fun tJ htJ hWJ => ⟨_, rfl, by first | rw [if_pos hc8] | rw [if_neg (by simp [hc8])], htJ⟩) (fun _ h => by cases h) d_E_reads_39
  · skip
    rw [xb_1] at hc8
    refine lv_aload_n hx hb d_E_reads_11 rfl (lv_at hl 0 rfl) ?_
    refine va_get (D := D) (ci := 0) (v := .ref (q 1)) (C := R_E) (T := F_E) (N := 4) hx hb hts (zi_E _) hown hK hP 0 rfl rfl 1 (by decide) (hts _ (List.mem_cons_of_mem _ zm_114)) (fun _ h9 => h9) rfl d_E_reads_12 ?_
    refine lv_iload_n hx hb d_E_reads_15 rfl (lv_at hl 1 rfl) ?_
    refine xa_cJ (va_runV (As := [.int k]) (rest := []) ⟨hx, hb, hml, hown, hts⟩ (c_K_valueOf l D q cA lim kf kg af bf rk rv rm rs rn bp bk bv bo bn K k hT) (cwV 1 hts (zg_V zm_150 zm_151 zm_152 zm_3 zm_153) rfl rfl rfl (by decide +kernel) ⟨Nat.le_of_ble_eq_true rfl, Nat.le_of_ble_eq_true rfl⟩) (xp_preV (ci := 1) (q0 := 1) hK hP rfl rfl rfl hZ) rfl rfl hl.1 rfl (lv_room (Nat.le_of_ble_eq_true rfl)) d_E_reads_16 ⟨Nat.zero_le _, Nat.zero_le _⟩) ?_
    refine xa_cI (va_runS (As := [.long (xk_get K k)]) (rest := []) ⟨hx, hb, hml, hown, hts⟩ (c_E_valp l (xk_get K k)) (cwS 1 hts (zg_S zm_265 zm_223 zm_1 zm_224) rfl rfl rfl (by decide +kernel) ⟨Nat.le_of_ble_eq_true rfl, Nat.le_of_ble_eq_true rfl⟩) xp_preS rfl rfl hl.1 rfl (lv_room (Nat.le_of_ble_eq_true rfl)) d_E_reads_19 ⟨Nat.zero_le _, Nat.zero_le _⟩) ?_
    refine lv_goto (tgt := 26) hx hb d_E_reads_22 (by decide) ?_
    refine lv_istore_n (lv' := [(2, .int (nI (xv_vp (xk_get K k)))), (0, .ref (q 0)), (1, .int k)]) hx hb d_E_reads_26 rfl hl (Nat.le_of_ble_eq_true rfl) rfl (fun ls hl => ?_)
    refine lv_iconst (v := nI 1) hx hb d_E_reads_27 (by decide +kernel) ?_
    refine lv_aload_n hx hb d_E_reads_28 rfl (lv_at hl 1 rfl) ?_
    refine va_get (D := D) (ci := 0) (v := .ref (q 1)) (C := R_E) (T := F_E) (N := 4) hx hb hts (zi_E _) hown hK hP 0 rfl rfl 1 (by decide) (hts _ (List.mem_cons_of_mem _ zm_114)) (fun _ h9 => h9) rfl d_E_reads_29 ?_
    refine lv_iload_n hx hb d_E_reads_32 rfl (lv_at hl 2 rfl) ?_
    refine xa_cI (va_runV (As := [.int k]) (rest := [.int (nI 1)]) ⟨hx, hb, hml, hown, hts⟩ (c_K_bpu l D q cA lim kf kg af bf rk rv rm rs rn bp bk bv bo bn K k hT) (cwV 1 hts (zg_V zm_266 zm_267 zm_268 zm_3 zm_269) rfl rfl rfl (by decide +kernel) ⟨Nat.le_of_ble_eq_true rfl, Nat.le_of_ble_eq_true rfl⟩) (xp_preV (ci := 1) (q0 := 1) hK hP rfl rfl rfl hZ) rfl rfl hl.1 rfl (lv_room (Nat.le_of_ble_eq_true rfl)) d_E_reads_33 ⟨Nat.zero_le _, Nat.zero_le _⟩) ?_
    refine lv_iadd hx hb d_E_reads_36 ?_
    refine xa_top (y := nI (1 + xo_rd K k)) (nI_add _ _) ?_
    refine lv_iload_n hx hb d_E_reads_37 rfl (lv_at hl 0 rfl) ?_
    refine lv_iadd hx hb d_E_reads_38 ?_
    refine xa_top (y := nI (1 + xo_rd K k + xv_vp (xk_get K k))) (nI_add _ _) ?_
    exact W.iret (v := nI (1 + xo_rd K k + xv_vp (xk_get K k))) hx hb hr (fun tJ htJ hWJ => ⟨_, rfl, by first | rw [if_pos hc8] | rw [if_neg (by simp [hc8])], htJ⟩) (fun _ h => by cases h) d_E_reads_39
set_option maxHeartbeats 4000000 in
set_option maxRecDepth 100000 in
theorem c_E_size (l : Launch) (D : va_G) (q : Nat → Nat) (cA : Nat → ClassId) (lim : Int32) (kf : Nat → Int32) (kg : Nat → Int64) (af : Nat → Int32) (bf : Nat → Int32) (rk : Nat → Int32) (rv : Nat → Int64) (rm : Nat → Int32) (rs : Nat → Int32) (rn : Int32) (bp : Nat → Int32) (bk : Nat → Int32) (bv : Nat → Int64) (bo : Int32) (bn : Int32) (K : List xk_E) (hT : xw_KT kf kg af bf K) : Met l y_E_size zw_E_size ({ frames := 0, cells := 0, slots := 0, locals := 0 } : Room) (va_Pc [.ref (q 0)] (xp_R D zz_cl (xw_tC cA) (xw_C q cA lim kf kg (nI K.length) af bf rk rv rm rs rn bp bk bv bo bn))) (vp_Si (fun r : Int32 => r = (nI K.length))) 0 0 (fun _ => False) := by
  refine Met.ofW (cc := b_E_size) (maxL := 1) (ret := (some .int)) (by decide) rfl ?_
  intro pJ eJ s mJ args below meth cJ s₁ B hml hv
  obtain ⟨rfl, hP, hK, hZ⟩ := hv
  have hx := B.exec
  have hb := B.bytes
  have hr := B.returns
  have hts := atoms_spec (ws := zw_E_size) B.pre
  have hown : s.vm.findClass R_E = some mJ.cls := findClass_of_methodNamed B.named
  have hlocks := B.notSynchronized
  have hl := lv_entry ([.ref (q 0)]) (n := 1) (Nat.le_of_ble_eq_true rfl)
  rw [lg_entry_eq]
  generalize (lg_sl ([.ref (q 0)]) ++ List.replicate (1 - (lg_sl ([.ref (q 0)])).length) Slot.unset).toArray = ls at hl ⊢
  have hl : lv_has ls 1 [(0, .ref (q 0))] := hl
  refine lv_aload_n hx hb d_E_size_0 rfl (lv_at hl 0 rfl) ?_
  refine va_get (D := D) (ci := 0) (v := .ref (q 1)) (C := R_E) (T := F_E) (N := 4) hx hb hts (zi_E _) hown hK hP 0 rfl rfl 1 (by decide) (hts _ (List.mem_cons_of_mem _ zm_114)) (fun _ h9 => h9) rfl d_E_size_1 ?_
  refine va_getN (D := D) (ci := 1) (v := .int (nI K.length)) (C := R_K) (T := F_K) (N := 4) hx hb hts (zi_K _) hown hK hP 1 rfl rfl 3 (by decide) (va_Nw.use rfl (hZ _ zn_49)) (fun _ h9 => h9) rfl d_E_size_4 ?_
  exact W.iret (v := nI K.length) hx hb hr (fun tJ htJ hWJ => ⟨_, rfl, rfl, htJ⟩) (fun _ h => by cases h) d_E_size_7
set_option maxHeartbeats 4000000 in
set_option maxRecDepth 100000 in
theorem c_E_pages (l : Launch) (D : va_G) (q : Nat → Nat) (cA : Nat → ClassId) (lim : Int32) (kf : Nat → Int32) (kg : Nat → Int64) (af : Nat → Int32) (bf : Nat → Int32) (rk : Nat → Int32) (rv : Nat → Int64) (rm : Nat → Int32) (rs : Nat → Int32) (rn : Int32) (bp : Nat → Int32) (bk : Nat → Int32) (bv : Nat → Int64) (bo : Int32) (bn : Int32) (K : List xk_E) (hT : xw_KT kf kg af bf K) : Met l y_E_pages zw_E_pages ({ frames := 5, cells := 0, slots := 0, locals := 108 } : Room) (va_Pc [.ref (q 0)] (xp_R D zz_cl (xw_tC cA) (xw_C q cA lim kf kg (nI K.length) af bf rk rv rm rs rn bp bk bv bo bn))) (vp_Si (fun r : Int32 => r = (nI (xd_pg K)))) 0 0 (fun _ => False) := by
  refine Met.ofW (cc := b_E_pages) (maxL := 1) (ret := (some .int)) (by decide) rfl ?_
  intro pJ eJ s mJ args below meth cJ s₁ B hml hv
  obtain ⟨rfl, hP, hK, hZ⟩ := hv
  have hx := B.exec
  have hb := B.bytes
  have hr := B.returns
  have hts := atoms_spec (ws := zw_E_pages) B.pre
  have hown : s.vm.findClass R_E = some mJ.cls := findClass_of_methodNamed B.named
  have hlocks := B.notSynchronized
  have hl := lv_entry ([.ref (q 0)]) (n := 1) (Nat.le_of_ble_eq_true rfl)
  rw [lg_entry_eq]
  generalize (lg_sl ([.ref (q 0)]) ++ List.replicate (1 - (lg_sl ([.ref (q 0)])).length) Slot.unset).toArray = ls at hl ⊢
  have hl : lv_has ls 1 [(0, .ref (q 0))] := hl
  refine lv_aload_n hx hb d_E_pages_0 rfl (lv_at hl 0 rfl) ?_
  refine va_get (D := D) (ci := 0) (v := .ref (q 1)) (C := R_E) (T := F_E) (N := 4) hx hb hts (zi_E _) hown hK hP 0 rfl rfl 1 (by decide) (hts _ (List.mem_cons_of_mem _ zm_114)) (fun _ h9 => h9) rfl d_E_pages_1 ?_
  refine xa_cI (va_runV (As := []) (rest := []) ⟨hx, hb, hml, hown, hts⟩ (c_K_pages l D q cA lim kf kg af bf rk rv rm rs rn bp bk bv bo bn K hT) (cwV 0 hts (zg_V zm_187 zm_188 zm_189 zm_3 zm_190) rfl rfl rfl (by decide +kernel) ⟨Nat.le_of_ble_eq_true rfl, Nat.le_of_ble_eq_true rfl⟩) (xp_preV (ci := 1) (q0 := 1) hK hP rfl rfl rfl hZ) rfl rfl hl.1 rfl (lv_room (Nat.le_of_ble_eq_true rfl)) d_E_pages_4 ⟨Nat.zero_le _, Nat.zero_le _⟩) ?_
  exact W.iret (v := nI (xd_pg K)) hx hb hr (fun tJ htJ hWJ => ⟨_, rfl, rfl, htJ⟩) (fun _ h => by cases h) d_E_pages_7
set_option maxHeartbeats 4000000 in
set_option maxRecDepth 100000 in
theorem c_E_gdep (l : Launch) (D : va_G) (q : Nat → Nat) (cA : Nat → ClassId) (lim : Int32) (kf : Nat → Int32) (kg : Nat → Int64) (af : Nat → Int32) (bf : Nat → Int32) (rk : Nat → Int32) (rv : Nat → Int64) (rm : Nat → Int32) (rs : Nat → Int32) (rn : Int32) (bp : Nat → Int32) (bk : Nat → Int32) (bv : Nat → Int64) (bo : Int32) (bn : Int32) (K : List xk_E) (hT : xw_KT kf kg af bf K) : Met l y_E_globalDepth zw_E_globalDepth ({ frames := 3, cells := 0, slots := 0, locals := 66 } : Room) (va_Pc [.ref (q 0)] (xp_R D zz_cl (xw_tC cA) (xw_C q cA lim kf kg (nI K.length) af bf rk rv rm rs rn bp bk bv bo bn))) (vp_Si (fun r : Int32 => r = (nI (xd_gm K 64)))) 0 0 (fun _ => False) := by
  refine Met.ofW (cc := b_E_globalDepth) (maxL := 1) (ret := (some .int)) (by decide) rfl ?_
  intro pJ eJ s mJ args below meth cJ s₁ B hml hv
  obtain ⟨rfl, hP, hK, hZ⟩ := hv
  have hx := B.exec
  have hb := B.bytes
  have hr := B.returns
  have hts := atoms_spec (ws := zw_E_globalDepth) B.pre
  have hown : s.vm.findClass R_E = some mJ.cls := findClass_of_methodNamed B.named
  have hlocks := B.notSynchronized
  have hl := lv_entry ([.ref (q 0)]) (n := 1) (Nat.le_of_ble_eq_true rfl)
  rw [lg_entry_eq]
  generalize (lg_sl ([.ref (q 0)]) ++ List.replicate (1 - (lg_sl ([.ref (q 0)])).length) Slot.unset).toArray = ls at hl ⊢
  have hl : lv_has ls 1 [(0, .ref (q 0))] := hl
  refine lv_aload_n hx hb d_E_globalDepth_0 rfl (lv_at hl 0 rfl) ?_
  refine va_get (D := D) (ci := 0) (v := .ref (q 1)) (C := R_E) (T := F_E) (N := 4) hx hb hts (zi_E _) hown hK hP 0 rfl rfl 1 (by decide) (hts _ (List.mem_cons_of_mem _ zm_114)) (fun _ h9 => h9) rfl d_E_globalDepth_1 ?_
  refine va_getN (D := D) (ci := 1) (v := .ref (q 2)) (C := R_K) (T := F_K) (N := 4) hx hb hts (zi_K _) hown hK hP 1 rfl rfl 2 (by decide) (va_Nw.use rfl (hZ _ zn_47)) (fun _ h9 => h9) rfl d_E_globalDepth_4 ?_
  refine xa_cI (va_runV (As := []) (rest := []) ⟨hx, hb, hml, hown, hts⟩ (c_C_deep l D q cA lim kf kg af bf rk rv rm rs rn bp bk bv bo bn K hT) (cwV 0 hts (zg_V zm_334 zm_192 zm_193 zm_4 zm_194) rfl rfl rfl (by decide +kernel) ⟨Nat.le_of_ble_eq_true rfl, Nat.le_of_ble_eq_true rfl⟩) (xp_preV (ci := 2) (q0 := 2) hK hP rfl rfl rfl hZ) rfl rfl hl.1 rfl (lv_room (Nat.le_of_ble_eq_true rfl)) d_E_globalDepth_7 ⟨Nat.zero_le _, Nat.zero_le _⟩) ?_
  exact W.iret (v := nI (xd_gm K 64)) hx hb hr (fun tJ htJ hWJ => ⟨_, rfl, rfl, htJ⟩) (fun _ h => by cases h) d_E_globalDepth_10
set_option maxHeartbeats 4000000 in
set_option maxRecDepth 100000 in
theorem c_E_ldep (l : Launch) (D : va_G) (q : Nat → Nat) (cA : Nat → ClassId) (lim : Int32) (kf : Nat → Int32) (kg : Nat → Int64) (af : Nat → Int32) (bf : Nat → Int32) (rk : Nat → Int32) (rv : Nat → Int64) (rm : Nat → Int32) (rs : Nat → Int32) (rn : Int32) (bp : Nat → Int32) (bk : Nat → Int32) (bv : Nat → Int64) (bo : Int32) (bn : Int32) (K : List xk_E) (k : Int32) (hT : xw_KT kf kg af bf K) : Met l y_E_localDepth zw_E_localDepth ({ frames := 2, cells := 0, slots := 0, locals := 44 } : Room) (va_Pc [.ref (q 0), .int k] (xp_R D zz_cl (xw_tC cA) (xw_C q cA lim kf kg (nI K.length) af bf rk rv rm rs rn bp bk bv bo bn))) (vp_Si (fun r : Int32 => r = (nI (xd_dp K (xk_h k))))) 0 0 (fun _ => False) := by
  refine Met.ofW (cc := b_E_localDepth) (maxL := 2) (ret := (some .int)) (by decide) rfl ?_
  intro pJ eJ s mJ args below meth cJ s₁ B hml hv
  obtain ⟨rfl, hP, hK, hZ⟩ := hv
  have hx := B.exec
  have hb := B.bytes
  have hr := B.returns
  have hts := atoms_spec (ws := zw_E_localDepth) B.pre
  have hown : s.vm.findClass R_E = some mJ.cls := findClass_of_methodNamed B.named
  have hlocks := B.notSynchronized
  have hl := lv_entry ([.ref (q 0), .int k]) (n := 2) (Nat.le_of_ble_eq_true rfl)
  rw [lg_entry_eq]
  generalize (lg_sl ([.ref (q 0), .int k]) ++ List.replicate (2 - (lg_sl ([.ref (q 0), .int k])).length) Slot.unset).toArray = ls at hl ⊢
  have hl : lv_has ls 2 [(0, .ref (q 0)), (1, .int k)] := hl
  have hh := xk_h_lt k
  refine lv_aload_n hx hb d_E_localDepth_0 rfl (lv_at hl 0 rfl) ?_
  refine va_get (D := D) (ci := 0) (v := .ref (q 1)) (C := R_E) (T := F_E) (N := 4) hx hb hts (zi_E _) hown hK hP 0 rfl rfl 1 (by decide) (hts _ (List.mem_cons_of_mem _ zm_114)) (fun _ h9 => h9) rfl d_E_localDepth_1 ?_
  refine va_getN (D := D) (ci := 1) (v := .ref (q 2)) (C := R_K) (T := F_K) (N := 4) hx hb hts (zi_K _) hown hK hP 1 rfl rfl 2 (by decide) (va_Nw.use rfl (hZ _ zn_47)) (fun _ h9 => h9) rfl d_E_localDepth_4 ?_
  refine lv_iload_n hx hb d_E_localDepth_7 rfl (lv_at hl 1 rfl) ?_
  refine xa_cI (va_runS (As := [.int k]) (rest := [.ref (q 2)]) ⟨hx, hb, hml, hown, hts⟩ (c_E_hash l k) (cwS 1 hts (zg_S zm_339 zm_174 zm_1 zm_175) rfl rfl rfl (by decide +kernel) ⟨Nat.le_of_ble_eq_true rfl, Nat.le_of_ble_eq_true rfl⟩) xp_preS rfl rfl hl.1 rfl (lv_room (Nat.le_of_ble_eq_true rfl)) d_E_localDepth_8 ⟨Nat.zero_le _, Nat.zero_le _⟩) ?_
  refine xa_cI (va_runV (As := [.int (nI (xk_h k))]) (rest := []) ⟨hx, hb, hml, hown, hts⟩ (c_C_dep l D q cA lim kf kg af bf rk rv rm rs rn bp bk bv bo bn K (xk_h k) hT (by omega)) (cwV 1 hts (zg_V zm_340 zm_196 zm_197 zm_4 zm_198) rfl rfl rfl (by decide +kernel) ⟨Nat.le_of_ble_eq_true rfl, Nat.le_of_ble_eq_true rfl⟩) (xp_preV (ci := 2) (q0 := 2) hK hP rfl rfl rfl hZ) rfl rfl hl.1 rfl (lv_room (Nat.le_of_ble_eq_true rfl)) d_E_localDepth_11 ⟨Nat.zero_le _, Nat.zero_le _⟩) ?_
  exact W.iret (v := nI (xd_dp K (xk_h k))) hx hb hr (fun tJ htJ hWJ => ⟨_, rfl, rfl, htJ⟩) (fun _ h => by cases h) d_E_localDepth_14
set_option maxHeartbeats 4000000 in
set_option maxRecDepth 100000 in
theorem c_E_bkts (l : Launch) (D : va_G) (q : Nat → Nat) (cA : Nat → ClassId) (lim : Int32) (kf : Nat → Int32) (kg : Nat → Int64) (af : Nat → Int32) (bf : Nat → Int32) (rk : Nat → Int32) (rv : Nat → Int64) (rm : Nat → Int32) (rs : Nat → Int32) (rn : Int32) (bp : Nat → Int32) (bk : Nat → Int32) (bv : Nat → Int64) (bo : Int32) (bn : Int32) (K : List xk_E) (hT : xw_KT kf kg af bf K) : Met l y_E_buckets zw_E_buckets ({ frames := 5, cells := 0, slots := 0, locals := 108 } : Room) (va_Pc [.ref (q 0)] (xp_R D zz_cl (xw_tC cA) (xw_C q cA lim kf kg (nI K.length) af bf rk rv rm rs rn bp bk bv bo bn))) (vp_Si (fun r : Int32 => r = (nI ((xo_pls K 64).length)))) 0 0 (fun _ => False) := by
  refine Met.ofW (cc := b_E_buckets) (maxL := 1) (ret := (some .int)) (by decide) rfl ?_
  intro pJ eJ s mJ args below meth cJ s₁ B hml hv
  obtain ⟨rfl, hP, hK, hZ⟩ := hv
  have hx := B.exec
  have hb := B.bytes
  have hr := B.returns
  have hts := atoms_spec (ws := zw_E_buckets) B.pre
  have hown : s.vm.findClass R_E = some mJ.cls := findClass_of_methodNamed B.named
  have hlocks := B.notSynchronized
  have hl := lv_entry ([.ref (q 0)]) (n := 1) (Nat.le_of_ble_eq_true rfl)
  rw [lg_entry_eq]
  generalize (lg_sl ([.ref (q 0)]) ++ List.replicate (1 - (lg_sl ([.ref (q 0)])).length) Slot.unset).toArray = ls at hl ⊢
  have hl : lv_has ls 1 [(0, .ref (q 0))] := hl
  refine lv_aload_n hx hb d_E_buckets_0 rfl (lv_at hl 0 rfl) ?_
  refine va_get (D := D) (ci := 0) (v := .ref (q 1)) (C := R_E) (T := F_E) (N := 4) hx hb hts (zi_E _) hown hK hP 0 rfl rfl 1 (by decide) (hts _ (List.mem_cons_of_mem _ zm_114)) (fun _ h9 => h9) rfl d_E_buckets_1 ?_
  refine va_getN (D := D) (ci := 1) (v := .ref (q 2)) (C := R_K) (T := F_K) (N := 4) hx hb hts (zi_K _) hown hK hP 1 rfl rfl 2 (by decide) (va_Nw.use rfl (hZ _ zn_47)) (fun _ h9 => h9) rfl d_E_buckets_4 ?_
  refine xa_cI (va_runV (As := []) (rest := []) ⟨hx, hb, hml, hown, hts⟩ (c_C_cntP l D q cA lim kf kg af bf rk rv rm rs rn bp bk bv bo bn K hT) (cwV 0 hts (zg_V zm_345 zm_346 zm_347 zm_4 zm_348) rfl rfl rfl (by decide +kernel) ⟨Nat.le_of_ble_eq_true rfl, Nat.le_of_ble_eq_true rfl⟩) (xp_preV (ci := 2) (q0 := 2) hK hP rfl rfl rfl hZ) rfl rfl hl.1 rfl (lv_room (Nat.le_of_ble_eq_true rfl)) d_E_buckets_7 ⟨Nat.zero_le _, Nat.zero_le _⟩) ?_
  exact W.iret (v := nI ((xo_pls K 64).length)) hx hb hr (fun tJ htJ hWJ => ⟨_, rfl, rfl, htJ⟩) (fun _ h => by cases h) d_E_buckets_10
set_option maxHeartbeats 4000000 in
set_option maxRecDepth 100000 in
theorem c_E_keyAt (l : Launch) (D : va_G) (q : Nat → Nat) (cA : Nat → ClassId) (lim : Int32) (kf : Nat → Int32) (kg : Nat → Int64) (af : Nat → Int32) (bf : Nat → Int32) (rk : Nat → Int32) (rv : Nat → Int64) (rm : Nat → Int32) (rs : Nat → Int32) (rn : Int32) (bp : Nat → Int32) (bk : Nat → Int32) (bv : Nat → Int64) (bo : Int32) (bn : Int32) (K : List xk_E) (x : Int32) (hT : xw_KT kf kg af bf K) : Met l y_E_keyAt zw_E_keyAt ({ frames := 5, cells := 0, slots := 0, locals := 114 } : Room) (va_Pc [.ref (q 0), .int x] (xp_R D zz_cl (xw_tC cA) (xw_C q cA lim kf kg (nI K.length) af bf rk rv rm rs rn bp bk bv bo bn))) (vp_Si (fun r : Int32 => r = (xo_ka K x))) 0 0 (fun _ => False) := by
  refine Met.ofW (cc := b_E_keyAt) (maxL := 2) (ret := (some .int)) (by decide) rfl ?_
  intro pJ eJ s mJ args below meth cJ s₁ B hml hv
  obtain ⟨rfl, hP, hK, hZ⟩ := hv
  have hx := B.exec
  have hb := B.bytes
  have hr := B.returns
  have hts := atoms_spec (ws := zw_E_keyAt) B.pre
  have hown : s.vm.findClass R_E = some mJ.cls := findClass_of_methodNamed B.named
  have hlocks := B.notSynchronized
  have hl := lv_entry ([.ref (q 0), .int x]) (n := 2) (Nat.le_of_ble_eq_true rfl)
  rw [lg_entry_eq]
  generalize (lg_sl ([.ref (q 0), .int x]) ++ List.replicate (2 - (lg_sl ([.ref (q 0), .int x])).length) Slot.unset).toArray = ls at hl ⊢
  have hl : lv_has ls 2 [(0, .ref (q 0)), (1, .int x)] := hl
  refine lv_aload_n hx hb d_E_keyAt_0 rfl (lv_at hl 0 rfl) ?_
  refine va_get (D := D) (ci := 0) (v := .ref (q 1)) (C := R_E) (T := F_E) (N := 4) hx hb hts (zi_E _) hown hK hP 0 rfl rfl 1 (by decide) (hts _ (List.mem_cons_of_mem _ zm_114)) (fun _ h9 => h9) rfl d_E_keyAt_1 ?_
  refine lv_iload_n hx hb d_E_keyAt_4 rfl (lv_at hl 1 rfl) ?_
  refine xa_cI (va_runV (As := [.int x]) (rest := []) ⟨hx, hb, hml, hown, hts⟩ (c_K_kipo l D q cA lim kf kg af bf rk rv rm rs rn bp bk bv bo bn K x hT) (cwV 1 hts (zg_V zm_359 zm_360 zm_361 zm_3 zm_362) rfl rfl rfl (by decide +kernel) ⟨Nat.le_of_ble_eq_true rfl, Nat.le_of_ble_eq_true rfl⟩) (xp_preV (ci := 1) (q0 := 1) hK hP rfl rfl rfl hZ) rfl rfl hl.1 rfl (lv_room (Nat.le_of_ble_eq_true rfl)) d_E_keyAt_5 ⟨Nat.zero_le _, Nat.zero_le _⟩) ?_
  exact W.iret (v := xo_ka K x) hx hb hr (fun tJ htJ hWJ => ⟨_, rfl, rfl, htJ⟩) (fun _ h => by cases h) d_E_keyAt_8
set_option maxHeartbeats 4000000 in
set_option maxRecDepth 100000 in
theorem c_E_bAt (l : Launch) (D : va_G) (q : Nat → Nat) (cA : Nat → ClassId) (lim : Int32) (kf : Nat → Int32) (kg : Nat → Int64) (af : Nat → Int32) (bf : Nat → Int32) (rk : Nat → Int32) (rv : Nat → Int64) (rm : Nat → Int32) (rs : Nat → Int32) (rn : Int32) (bp : Nat → Int32) (bk : Nat → Int32) (bv : Nat → Int64) (bo : Int32) (bn : Int32) (K : List xk_E) (x : Int32) (hT : xw_KT kf kg af bf K) : Met l y_E_bucketAt zw_E_bucketAt ({ frames := 4, cells := 0, slots := 0, locals := 86 } : Room) (va_Pc [.ref (q 0), .int x] (xp_R D zz_cl (xw_tC cA) (xw_C q cA lim kf kg (nI K.length) af bf rk rv rm rs rn bp bk bv bo bn))) (vp_Si (fun r : Int32 => r = (xo_at K x))) 0 0 (fun _ => False) := by
  refine Met.ofW (cc := b_E_bucketAt) (maxL := 4) (ret := (some .int)) (by decide) rfl ?_
  intro pJ eJ s mJ args below meth cJ s₁ B hml hv
  obtain ⟨rfl, hP, hK, hZ⟩ := hv
  have hx := B.exec
  have hb := B.bytes
  have hr := B.returns
  have hts := atoms_spec (ws := zw_E_bucketAt) B.pre
  have hown : s.vm.findClass R_E = some mJ.cls := findClass_of_methodNamed B.named
  have hlocks := B.notSynchronized
  have hl := lv_entry ([.ref (q 0), .int x]) (n := 4) (Nat.le_of_ble_eq_true rfl)
  rw [lg_entry_eq]
  generalize (lg_sl ([.ref (q 0), .int x]) ++ List.replicate (4 - (lg_sl ([.ref (q 0), .int x])).length) Slot.unset).toArray = ls at hl ⊢
  have hl : lv_has ls 4 [(0, .ref (q 0)), (1, .int x)] := hl
  refine lv_iload_n hx hb d_E_bucketAt_0 rfl (lv_at hl 1 rfl) ?_
  refine lv_if_ge (tgt := 6) hx hb d_E_bucketAt_1 (by decide) (fun hc1 => ?_) (fun hc1 => ?_)
  · skip
    obtain ⟨j, hj, hxj⟩ := nI_of (xk_nlt2 hc1)
    refine lv_iload_n hx hb d_E_bucketAt_6 rfl (lv_at hl 1 rfl) ?_
    refine xa_top (y := nI j) hxj ?_
    refine lv_istore_n (lv' := [(2, .int (nI j)), (0, .ref (q 0)), (1, .int x)]) hx hb d_E_bucketAt_7 rfl hl (Nat.le_of_ble_eq_true rfl) rfl (fun ls hl => ?_)
    refine lv_iconst (v := nI 0) hx hb d_E_bucketAt_8 (by decide +kernel) ?_
    refine lv_istore_n (lv' := [(3, .int (nI 0)), (2, .int (nI j)), (0, .ref (q 0)), (1, .int x)]) hx hb d_E_bucketAt_9 rfl hl (Nat.le_of_ble_eq_true rfl) rfl (fun ls hl => ?_)
    have lp10 : ∀ (N : Nat) (p : Nat) (t : Nat) (ls : Array Slot), (p ≤ 64) → (t + (xo_pls K p).length = j) → lv_has ls 4 [(0, .ref (q 0)), (1, .int x), (2, .int (nI t)), (3, .int (nI p))] → 64 - p < N → W pJ l eJ (headSpec zw_E_bucketAt ({ frames := 4, cells := 0, slots := 0, locals := 86 } : Room)).room s mJ ([.ref (q 0), .int x] : List Value).toArray below meth cJ s.heap [] 0 0 (MQ below (vp_Si (fun r : Int32 => r = (xo_at K x))) ([.ref (q 0), .int x] : List Value).toArray s 0 0 (fun _ => False)) (F0 mJ 10 ls []) := by
      intro N
      induction N with
      | zero => intro p t ls hp ht hl hm; exact absurd hm (Nat.not_lt_zero _)
      | succ N ih10 =>
        intro p t ls hp ht hl hm
        refine lv_iload_n hx hb d_E_bucketAt_10 rfl (lv_at hl 3 rfl) ?_
        refine lv_bipush (v := nI 64) hx hb d_E_bucketAt_11 (by decide +kernel) ?_
        refine lv_icmp_ge (tgt := 45) hx hb d_E_bucketAt_13 (by decide) (fun hc13 => ?_) (fun hc13 => ?_)
        · skip
          rw [nI_leI (by omega) (by omega)] at hc13
          refine lv_iconst (v := (-1)) hx hb d_E_bucketAt_45 (by decide +kernel) ?_
          exact W.iret (v := (-1)) hx hb hr (fun tJ htJ hWJ => ⟨_, rfl, by rw [hxj]; exact xw_atE hj (by rw [show p = 64 from by omega] at ht; omega), htJ⟩) (fun _ h => by cases h) d_E_bucketAt_46
        · skip
          rw [nI_leI (by omega) (by omega)] at hc13
          refine lv_aload_n hx hb d_E_bucketAt_16 rfl (lv_at hl 0 rfl) ?_
          refine va_get (D := D) (ci := 0) (v := .ref (q 1)) (C := R_E) (T := F_E) (N := 4) hx hb hts (zi_E _) hown hK hP 0 rfl rfl 1 (by decide) (hts _ (List.mem_cons_of_mem _ zm_114)) (fun _ h9 => h9) rfl d_E_bucketAt_17 ?_
          refine va_getN (D := D) (ci := 1) (v := .ref (q 2)) (C := R_K) (T := F_K) (N := 4) hx hb hts (zi_K _) hown hK hP 1 rfl rfl 2 (by decide) (va_Nw.use rfl (hZ _ zn_47)) (fun _ h9 => h9) rfl d_E_bucketAt_20 ?_
          refine lv_iload_n hx hb d_E_bucketAt_23 rfl (lv_at hl 3 rfl) ?_
          refine xa_cI (va_runV (As := [.int (nI p)]) (rest := []) ⟨hx, hb, hml, hown, hts⟩ (c_C_isP l D q cA lim kf kg af bf rk rv rm rs rn bp bk bv bo bn K p hT (by omega)) (cwV 1 hts (zg_V zm_354 zm_208 zm_209 zm_4 zm_210) rfl rfl rfl (by decide +kernel) ⟨Nat.le_of_ble_eq_true rfl, Nat.le_of_ble_eq_true rfl⟩) (xp_preV (ci := 2) (q0 := 2) hK hP rfl rfl rfl hZ) rfl rfl hl.1 rfl (lv_room (Nat.le_of_ble_eq_true rfl)) d_E_bucketAt_24 ⟨Nat.zero_le _, Nat.zero_le _⟩) ?_
          refine lv_if_eq (tgt := 39) hx hb d_E_bucketAt_27 (by decide) (fun hc27 => ?_) (fun hc27 => ?_)
          · skip
            rw [xb_0] at hc27
            refine lv_iinc (k := 3) (v := nI (p + 1)) (lv' := [(3, .int (nI (p + 1))), (0, .ref (q 0)), (1, .int x), (2, .int (nI t))]) hx hb d_E_bucketAt_39 hl rfl (xn_inc _) (Nat.le_of_ble_eq_true rfl) rfl (fun ls hl => ?_)
            refine lv_goto (tgt := 10) hx hb d_E_bucketAt_42 (by decide) ?_
            exact ih10 (p + 1) t ls (by omega) (by first | (rw [xo_pls_len, if_pos hc27]; omega) | (rw [xo_pls_len, if_neg (by simp [hc27])]; exact ht)) (lv_sub hl [1, 2, 3, 0] rfl) (by omega)
          · skip
            rw [xb_1] at hc27
            refine lv_iload_n hx hb d_E_bucketAt_30 rfl (lv_at hl 2 rfl) ?_
            refine lv_if_ne (tgt := 36) hx hb d_E_bucketAt_31 (by decide) (fun hc31 => ?_) (fun hc31 => ?_)
            · skip
              rw [xn_ne0 (by omega)] at hc31
              refine lv_iinc (k := 2) (v := nI (t - 1)) (lv' := [(2, .int (nI (t - 1))), (0, .ref (q 0)), (1, .int x), (3, .int (nI p))]) hx hb d_E_bucketAt_36 hl rfl (xn_dec (by omega)) (Nat.le_of_ble_eq_true rfl) rfl (fun ls hl => ?_)
              refine lv_iinc (k := 3) (v := nI (p + 1)) (lv' := [(3, .int (nI (p + 1))), (2, .int (nI (t - 1))), (0, .ref (q 0)), (1, .int x)]) hx hb d_E_bucketAt_39 hl rfl (xn_inc _) (Nat.le_of_ble_eq_true rfl) rfl (fun ls hl => ?_)
              refine lv_goto (tgt := 10) hx hb d_E_bucketAt_42 (by decide) ?_
              exact ih10 (p + 1) (t - 1) ls (by omega) (by first | (rw [xo_pls_len, if_pos hc27]; omega) | (rw [xo_pls_len, if_neg (by simp [hc27])]; exact ht)) (lv_sub hl [2, 3, 1, 0] rfl) (by omega)
            · skip
              rw [xn_ne0 (by omega)] at hc31
              refine lv_iload_n hx hb d_E_bucketAt_34 rfl (lv_at hl 3 rfl) ?_
              exact W.iret (v := nI p) hx hb hr (fun tJ htJ hWJ => ⟨_, rfl, by rw [hxj, ← ht, hc31, Nat.zero_add]; exact (xo_at_hit (by omega) hc27).symm, htJ⟩) (fun _ h => by cases h) d_E_bucketAt_35
    exact lp10 _ 0 j ls (by omega) rfl (lv_sub hl [2, 3, 1, 0] rfl) (Nat.lt_succ_self _)
  · skip
    refine lv_iconst (v := (-1)) hx hb d_E_bucketAt_4 (by decide +kernel) ?_
    exact W.iret (v := (-1)) hx hb hr (fun tJ htJ hWJ => ⟨_, rfl, (xo_at_neg (xk_nle hc1)).symm, htJ⟩) (fun _ h => by cases h) d_E_bucketAt_5
set_option maxHeartbeats 4000000 in
set_option maxRecDepth 100000 in
theorem c_E_unfl (l : Launch) (D : va_G) (q : Nat → Nat) (cA : Nat → ClassId) (lim : Int32) (kf : Nat → Int32) (kg : Nat → Int64) (kn : Int32) (af : Nat → Int32) (bf : Nat → Int32) (rk : Nat → Int32) (rv : Nat → Int64) (rm : Nat → Int32) (rs : Nat → Int32) (bp : Nat → Int32) (bk : Nat → Int32) (bv : Nat → Int64) (bo : Int32) (bn : Int32) (n : Nat)  : Met l y_E_unflushed zw_E_unflushed ({ frames := 0, cells := 0, slots := 0, locals := 0 } : Room) (va_Pc [.ref (q 0)] (xp_R D zz_cl (xw_tC cA) (xw_C q cA lim kf kg kn af bf rk rv rm rs (nI n) bp bk bv bo bn))) (vp_Si (fun r : Int32 => r = (nI n))) 0 0 (fun _ => False) := by
  refine Met.ofW (cc := b_E_unflushed) (maxL := 1) (ret := (some .int)) (by decide) rfl ?_
  intro pJ eJ s mJ args below meth cJ s₁ B hml hv
  obtain ⟨rfl, hP, hK, hZ⟩ := hv
  have hx := B.exec
  have hb := B.bytes
  have hr := B.returns
  have hts := atoms_spec (ws := zw_E_unflushed) B.pre
  have hown : s.vm.findClass R_E = some mJ.cls := findClass_of_methodNamed B.named
  have hlocks := B.notSynchronized
  have hl := lv_entry ([.ref (q 0)]) (n := 1) (Nat.le_of_ble_eq_true rfl)
  rw [lg_entry_eq]
  generalize (lg_sl ([.ref (q 0)]) ++ List.replicate (1 - (lg_sl ([.ref (q 0)])).length) Slot.unset).toArray = ls at hl ⊢
  have hl : lv_has ls 1 [(0, .ref (q 0))] := hl
  refine lv_aload_n hx hb d_E_unflushed_0 rfl (lv_at hl 0 rfl) ?_
  refine va_get (D := D) (ci := 0) (v := .ref (q 3)) (C := R_E) (T := F_E) (N := 4) hx hb hts (zi_E _) hown hK hP 0 rfl rfl 2 (by decide) (hts _ (List.mem_cons_of_mem _ zm_115)) (fun _ h9 => h9) rfl d_E_unflushed_1 ?_
  refine va_getN (D := D) (ci := 3) (v := .int (nI n)) (C := R_R) (T := F_R) (N := 5) hx hb hts (zi_R _) hown hK hP 3 rfl rfl 4 (by decide) (va_Nw.use rfl (hZ _ zn_72)) (fun _ h9 => h9) rfl d_E_unflushed_4 ?_
  exact W.iret (v := nI n) hx hb hr (fun tJ htJ hWJ => ⟨_, rfl, rfl, htJ⟩) (fun _ h => by cases h) d_E_unflushed_7
set_option maxHeartbeats 4000000 in
set_option maxRecDepth 100000 in
theorem c_E_steps (l : Launch) (D : va_G) (q : Nat → Nat) (cA : Nat → ClassId) (lim : Int32) (kf : Nat → Int32) (kg : Nat → Int64) (kn : Int32) (af : Nat → Int32) (bf : Nat → Int32) (rk : Nat → Int32) (rv : Nat → Int64) (rm : Nat → Int32) (rs : Nat → Int32) (rn : Int32) (bp : Nat → Int32) (bk : Nat → Int32) (bv : Nat → Int64) (n : Nat) (bt : Bool)  : Met l y_E_steps zw_E_steps ({ frames := 0, cells := 0, slots := 0, locals := 0 } : Room) (va_Pc [.ref (q 0)] (xp_R D zz_cl (xw_tC cA) (xw_C q cA lim kf kg kn af bf rk rv rm rs rn bp bk bv (xb_i bt) (nI n)))) (vp_Si (fun r : Int32 => r = (if bt = true then nI n else (-1)))) 0 0 (fun _ => False) := by
  refine Met.ofW (cc := b_E_steps) (maxL := 1) (ret := (some .int)) (by decide) rfl ?_
  intro pJ eJ s mJ args below meth cJ s₁ B hml hv
  obtain ⟨rfl, hP, hK, hZ⟩ := hv
  have hx := B.exec
  have hb := B.bytes
  have hr := B.returns
  have hts := atoms_spec (ws := zw_E_steps) B.pre
  have hown : s.vm.findClass R_E = some mJ.cls := findClass_of_methodNamed B.named
  have hlocks := B.notSynchronized
  have hl := lv_entry ([.ref (q 0)]) (n := 1) (Nat.le_of_ble_eq_true rfl)
  rw [lg_entry_eq]
  generalize (lg_sl ([.ref (q 0)]) ++ List.replicate (1 - (lg_sl ([.ref (q 0)])).length) Slot.unset).toArray = ls at hl ⊢
  have hl : lv_has ls 1 [(0, .ref (q 0))] := hl
  refine lv_aload_n hx hb d_E_steps_0 rfl (lv_at hl 0 rfl) ?_
  refine va_get (D := D) (ci := 0) (v := .ref (q 4)) (C := R_E) (T := F_E) (N := 4) hx hb hts (zi_E _) hown hK hP 0 rfl rfl 3 (by decide) (hts _ (List.mem_cons_of_mem _ zm_116)) (fun _ h9 => h9) rfl d_E_steps_1 ?_
  refine va_getN (D := D) (ci := 4) (v := .int (xb_i bt)) (C := R_B) (T := F_B) (N := 5) hx hb hts (zi_B _) hown hK hP 4 rfl rfl 3 (by decide) (va_Nw.use rfl (hZ _ zn_98)) (fun _ h9 => h9) rfl d_E_steps_4 ?_
  refine lv_if_eq (tgt := 20) hx hb d_E_steps_7 (by decide) (fun hc7 => ?_) (fun hc7 => ?_)
  · skip
    rw [xb_0] at hc7
    refine lv_iconst (v := (-1)) hx hb d_E_steps_20 (by decide +kernel) ?_
    exact W.iret (v := (-1)) hx hb hr (fun tJ htJ hWJ => ⟨_, rfl, by first | rw [if_pos hc7] | rw [if_neg (by simp [hc7])], htJ⟩) (fun _ h => by cases h) d_E_steps_21
  · skip
    rw [xb_1] at hc7
    refine lv_aload_n hx hb d_E_steps_10 rfl (lv_at hl 0 rfl) ?_
    refine va_get (D := D) (ci := 0) (v := .ref (q 4)) (C := R_E) (T := F_E) (N := 4) hx hb hts (zi_E _) hown hK hP 0 rfl rfl 3 (by decide) (hts _ (List.mem_cons_of_mem _ zm_116)) (fun _ h9 => h9) rfl d_E_steps_11 ?_
    refine va_getN (D := D) (ci := 4) (v := .int (nI n)) (C := R_B) (T := F_B) (N := 5) hx hb hts (zi_B _) hown hK hP 4 rfl rfl 4 (by decide) (va_Nw.use rfl (hZ _ zn_100)) (fun _ h9 => h9) rfl d_E_steps_14 ?_
    refine lv_goto (tgt := 21) hx hb d_E_steps_17 (by decide) ?_
    exact W.iret (v := nI n) hx hb hr (fun tJ htJ hWJ => ⟨_, rfl, by first | rw [if_pos hc7] | rw [if_neg (by simp [hc7])], htJ⟩) (fun _ h => by cases h) d_E_steps_21
set_option maxHeartbeats 4000000 in
set_option maxRecDepth 100000 in
theorem c_E_steps2 (l : Launch) (D : va_G) (q : Nat → Nat) (cA : Nat → ClassId) (lim : Int32) (kf : Nat → Int32) (kg : Nat → Int64) (af : Nat → Int32) (bf : Nat → Int32) (rk : Nat → Int32) (rv : Nat → Int64) (rm : Nat → Int32) (rs : Nat → Int32) (bp : Nat → Int32) (bk : Nat → Int32) (bv : Nat → Int64) (bo : Int32) (sz : Nat) (B0 : List xk_E) (R0 : List xs_R) (ST : List xs_O) (n : Nat) (hT : xw_KT kf kg af bf (xs_S B0 R0 n)) (hcn : xs_cn B0 R0 n rk rv rm) (hbt : xs_bt ST bp bk bv) (hR : ∀ i o, ST[i]? = some o → R0[n + i]? = some (o.1, o.2.1, o.2.2, n)) (hl65 : ∀ i, i ≤ n + ST.length → (xs_S B0 R0 i).length ≤ 65) (hn : n ≤ 64) (hst : ST.length ≤ 5) : Met l y_E_doStepsOfBatch zw_E_doStepsOfBatch ({ frames := 5, cells := 0, slots := 0, locals := 131 } : Room) (va_Pc [.ref (q 0)] (xp_Q D zz_cl (xw_tC cA) sz (xw_C q cA lim kf kg (nI (xs_S B0 R0 n).length) af bf rk rv rm rs (nI n) bp bk bv bo (nI ST.length)))) (va_Qv (fun u : (Nat → Int32) × (Nat → Int64) × (Nat → Int32) × (Nat → Int32) × (Nat → Int32) × (Nat → Int64) × (Nat → Int32) × (Nat → Int32) => xw_KT u.1 u.2.1 u.2.2.1 u.2.2.2.1 (xs_S B0 R0 (n + ST.length)) ∧ xs_cn B0 R0 (n + ST.length) u.2.2.2.2.1 u.2.2.2.2.2.1 u.2.2.2.2.2.2.1 ∧ ∀ j, j < n → u.2.2.2.2.2.2.2 j = rs j) (fun (u : (Nat → Int32) × (Nat → Int64) × (Nat → Int32) × (Nat → Int32) × (Nat → Int32) × (Nat → Int64) × (Nat → Int32) × (Nat → Int32)) (t : State) => va_P D zz_cl (xw_C q cA lim u.1 u.2.1 (nI (xs_S B0 R0 (n + ST.length)).length) u.2.2.1 u.2.2.2.1 u.2.2.2.2.1 u.2.2.2.2.2.1 u.2.2.2.2.2.2.1 u.2.2.2.2.2.2.2 (nI (n + ST.length)) bp bk bv bo (nI ST.length)) t.heap) (va_A (xw_C q cA lim kf kg (nI (xs_S B0 R0 n).length) af bf rk rv rm rs (nI n) bp bk bv bo (nI ST.length)) sz)) 0 0 (va_A (xw_C q cA lim kf kg (nI (xs_S B0 R0 n).length) af bf rk rv rm rs (nI n) bp bk bv bo (nI ST.length)) sz) := by
  refine Met.ofW (cc := b_E_doStepsOfBatch) (maxL := 2) (ret := none) (by decide) rfl ?_
  intro pJ eJ s mJ args below meth cJ s₁ B hml hv
  obtain ⟨rfl, hsz, hP, hK, hD0, hZ⟩ := hv
  have hx := B.exec
  have hb := B.bytes
  have hr := B.returns
  have hts := atoms_spec (ws := zw_E_doStepsOfBatch) B.pre
  have hown : s.vm.findClass R_E = some mJ.cls := findClass_of_methodNamed B.named
  have hlocks := B.notSynchronized
  subst hsz
  have hD := hD0.self (sz := s.heap.size)
  generalize hAe : va_A (xw_C q cA lim kf kg (nI (xs_S B0 R0 n).length) af bf rk rv rm rs (nI n) bp bk bv bo (nI ST.length)) s.heap.size = A at hD ⊢
  have hA : ∀ q : Nat, s.heap.size ≤ q → A q := fun q h => by rw [← hAe]; exact Or.inr h
  have hS : va_S A s.heap s.heap [] := va_S.rf
  have hl := lv_entry ([.ref (q 0)]) (n := 2) (Nat.le_of_ble_eq_true rfl)
  rw [lg_entry_eq]
  generalize (lg_sl ([.ref (q 0)]) ++ List.replicate (2 - (lg_sl ([.ref (q 0)])).length) Slot.unset).toArray = ls at hl ⊢
  have hl : lv_has ls 2 [(0, .ref (q 0))] := hl
  refine lv_iconst (v := nI 0) hx hb d_E_doStepsOfBatch_0 (by decide +kernel) ?_
  refine lv_istore_n (lv' := [(1, .int (nI 0)), (0, .ref (q 0))]) hx hb d_E_doStepsOfBatch_1 rfl hl (Nat.le_of_ble_eq_true rfl) rfl (fun ls hl => ?_)
  have lp2 : ∀ (N : Nat) (i : Nat) (kf1 : Nat → Int32) (kg1 : Nat → Int64) (af1 : Nat → Int32) (bf1 : Nat → Int32) (rk1 : Nat → Int32) (rv1 : Nat → Int64) (rm1 : Nat → Int32) (rs1 : Nat → Int32) (ls : Array Slot) (H : Heap) (locs : List Loc), (i ≤ ST.length) → (xw_KT kf1 kg1 af1 bf1 (xs_S B0 R0 (n + i))) → (xs_cn B0 R0 (n + i) rk1 rv1 rm1) → (∀ j, j < n → rs1 j = rs j) → lv_has ls 2 [(0, .ref (q 0)), (1, .int (nI i))] → va_P D zz_cl (xw_C q cA lim kf1 kg1 (nI (xs_S B0 R0 (n + i)).length) af1 bf1 rk1 rv1 rm1 rs1 (nI (n + i)) bp bk bv bo (nI ST.length)) H → va_D A (xw_C q cA lim kf1 kg1 (nI (xs_S B0 R0 (n + i)).length) af1 bf1 rk1 rv1 rm1 rs1 (nI (n + i)) bp bk bv bo (nI ST.length)) → va_S A s.heap H locs → ST.length - i < N → W pJ l eJ (headSpec zw_E_doStepsOfBatch ({ frames := 5, cells := 0, slots := 0, locals := 131 } : Room)).room s mJ ([.ref (q 0)] : List Value).toArray below meth cJ H locs 0 0 (MQ below (va_Qv (fun u : (Nat → Int32) × (Nat → Int64) × (Nat → Int32) × (Nat → Int32) × (Nat → Int32) × (Nat → Int64) × (Nat → Int32) × (Nat → Int32) => xw_KT u.1 u.2.1 u.2.2.1 u.2.2.2.1 (xs_S B0 R0 (n + ST.length)) ∧ xs_cn B0 R0 (n + ST.length) u.2.2.2.2.1 u.2.2.2.2.2.1 u.2.2.2.2.2.2.1 ∧ ∀ j, j < n → u.2.2.2.2.2.2.2 j = rs j) (fun (u : (Nat → Int32) × (Nat → Int64) × (Nat → Int32) × (Nat → Int32) × (Nat → Int32) × (Nat → Int64) × (Nat → Int32) × (Nat → Int32)) (t : State) => va_P D zz_cl (xw_C q cA lim u.1 u.2.1 (nI (xs_S B0 R0 (n + ST.length)).length) u.2.2.1 u.2.2.2.1 u.2.2.2.2.1 u.2.2.2.2.2.1 u.2.2.2.2.2.2.1 u.2.2.2.2.2.2.2 (nI (n + ST.length)) bp bk bv bo (nI ST.length)) t.heap) A) ([.ref (q 0)] : List Value).toArray s 0 0 A) (F0 mJ 2 ls []) := by
    intro N
    induction N with
    | zero => intro i kf1 kg1 af1 bf1 rk1 rv1 rm1 rs1 ls H locs hi hT1 hcn1 hrs1 hl hP hD hS hm; exact absurd hm (Nat.not_lt_zero _)
    | succ N ih2 =>
      intro i kf1 kg1 af1 bf1 rk1 rv1 rm1 rs1 ls H locs hi hT1 hcn1 hrs1 hl hP hD hS hm
      refine lv_iload_n hx hb d_E_doStepsOfBatch_2 rfl (lv_at hl 1 rfl) ?_
      refine lv_aload_n hx hb d_E_doStepsOfBatch_3 rfl (lv_at hl 0 rfl) ?_
      refine va_get (D := D) (ci := 0) (v := .ref (q 4)) (C := R_E) (T := F_E) (N := 4) hx hb hts (zi_E _) hown hK hP 0 rfl rfl 3 (by decide) (hts _ (List.mem_cons_of_mem _ zm_116)) (fun _ h9 => h9) rfl d_E_doStepsOfBatch_4 ?_
      refine va_getN (D := D) (ci := 4) (v := .int (nI ST.length)) (C := R_B) (T := F_B) (N := 5) hx hb hts (zi_B _) hown hK hP 4 rfl rfl 4 (by decide) (va_Nw.use rfl (hZ _ zn_100)) (fun _ h9 => h9) rfl d_E_doStepsOfBatch_7 ?_
      refine lv_icmp_ge (tgt := 69) hx hb d_E_doStepsOfBatch_10 (by decide) (fun hc10 => ?_) (fun hc10 => ?_)
      · skip
        rw [nI_leI (by omega) (by omega)] at hc10
        have e9 : i = ST.length := by omega
        rw [show nI (xs_S B0 R0 (n + i)).length = nI (xs_S B0 R0 (n + ST.length)).length from by rw [e9]] at hP hD
        rw [show nI (n + i) = nI (n + ST.length) from by rw [e9]] at hP hD
        exact W.vret hx hb hr (fun tJ htJ hWJ => ⟨⟨(kf1, kg1, af1, bf1, rk1, rv1, rm1, rs1), rfl, ⟨by rw [← e9]; exact hT1, by rw [← e9]; exact hcn1, hrs1⟩, by dsimp only; rw [htJ]; exact hP⟩, hS.F htJ⟩) hS.2.2 d_E_doStepsOfBatch_69
      · skip
        rw [nI_leI (by omega) (by omega)] at hc10
        obtain ⟨o, ho⟩ : ∃ o, ST[i]? = some o := ⟨_, List.getElem?_eq_getElem (by omega)⟩
        obtain ⟨ho1, ho2, ho3, ho4⟩ := hbt i o ho
        have hri := hR i o ho
        have hsx := xs_S_succ (B := B0) hri
        refine lv_aload_n hx hb d_E_doStepsOfBatch_13 rfl (lv_at hl 0 rfl) ?_
        refine va_get (D := D) (ci := 0) (v := .ref (q 4)) (C := R_E) (T := F_E) (N := 4) hx hb hts (zi_E _) hown hK hP 0 rfl rfl 3 (by decide) (hts _ (List.mem_cons_of_mem _ zm_116)) (fun _ h9 => h9) rfl d_E_doStepsOfBatch_14 ?_
        refine va_getN (D := D) (ci := 4) (v := .ref (q 13)) (C := R_B) (T := F_B) (N := 5) hx hb hts (zi_B _) hown hK hP 4 rfl rfl 0 (by decide) (va_Nw.use rfl (hZ _ zn_92)) (fun _ h9 => h9) rfl d_E_doStepsOfBatch_17 ?_
        refine lv_iload_n hx hb d_E_doStepsOfBatch_20 rfl (lv_at hl 1 rfl) ?_
        refine xa_zald hx hb hK hP 13 8 rfl rfl (k := i) (by omega) (by decide) d_E_doStepsOfBatch_21 ?_
        refine xa_top (y := xb_i (decide (o.1 = 0))) ho2 ?_
        refine lv_if_eq (tgt := 50) hx hb d_E_doStepsOfBatch_22 (by decide) (fun hc22 => ?_) (fun hc22 => ?_)
        · skip
          rw [xb_0] at hc22
          have hw0 : o.1 = 1 := by (have z : ¬ o.1 = 0 := (by simpa using hc22)); omega
          have hsy : xs_S B0 R0 (n + i + 1) = xk_rem (xs_S B0 R0 (n + i)) o.2.1 := by rw [hsx]; simp [xs_ap, hw0]
          refine lv_aload_n hx hb d_E_doStepsOfBatch_50 rfl (lv_at hl 0 rfl) ?_
          refine lv_aload_n hx hb d_E_doStepsOfBatch_51 rfl (lv_at hl 0 rfl) ?_
          refine va_get (D := D) (ci := 0) (v := .ref (q 4)) (C := R_E) (T := F_E) (N := 4) hx hb hts (zi_E _) hown hK hP 0 rfl rfl 3 (by decide) (hts _ (List.mem_cons_of_mem _ zm_116)) (fun _ h9 => h9) rfl d_E_doStepsOfBatch_52 ?_
          refine va_getN (D := D) (ci := 4) (v := .ref (q 14)) (C := R_B) (T := F_B) (N := 5) hx hb hts (zi_B _) hown hK hP 4 rfl rfl 1 (by decide) (va_Nw.use rfl (hZ _ zn_94)) (fun _ h9 => h9) rfl d_E_doStepsOfBatch_55 ?_
          refine lv_iload_n hx hb d_E_doStepsOfBatch_58 rfl (lv_at hl 1 rfl) ?_
          refine xa_iald hx hb hK hP 14 9 rfl rfl (k := i) (by omega) (by decide) d_E_doStepsOfBatch_59 ?_
          refine xa_top (y := o.2.1) ho3 ?_
          refine xa_cMV (va_runV (As := [.int o.2.1]) (rest := []) ⟨hx, hb, hml, hown, hts⟩ (c_E_rar l D q cA lim kf1 kg1 af1 bf1 rk1 rv1 rm1 rs1 bp bk bv bo (nI ST.length) H.size (xs_S B0 R0 (n + i)) (n + i) o.2.1 hT1 (by omega)) (cwV 1 hts (zg_V zm_249 zm_251 zs_8 zm_1 zm_252) rfl rfl rfl (by decide +kernel) ⟨Nat.le_of_ble_eq_true rfl, Nat.le_of_ble_eq_true rfl⟩) (xp_preVQ (ci := 0) (q0 := 0) hK hP hD rfl rfl rfl hZ) rfl rfl hl.1 rfl (lv_room (Nat.le_of_ble_eq_true rfl)) d_E_doStepsOfBatch_60 ⟨Nat.zero_le _, Nat.zero_le _⟩) hS (xa_F hD hS hA) (fun u H locs hp60 hP hS => ?_)
          obtain ⟨kf2_60, kg2_60, af2_60, bf2_60⟩ := u
          have hP : va_P D zz_cl (xw_C q cA lim kf2_60 kg2_60 (nI (xk_rem (xs_S B0 R0 (n + i)) o.2.1).length) af2_60 bf2_60 (upd rk1 (n + i) o.2.1) (vp_updL rv1 (n + i) (xk_get (xs_S B0 R0 (n + i)) o.2.1)) (upd rm1 (n + i) (xw_fo (xk_has (xs_S B0 R0 (n + i)) o.2.1))) (upd rs1 (n + i) (nI (n + i))) (nI (n + i + 1)) bp bk bv bo (nI ST.length)) H := hP
          have hD : va_D A (xw_C q cA lim kf2_60 kg2_60 (nI (xk_rem (xs_S B0 R0 (n + i)) o.2.1).length) af2_60 bf2_60 (upd rk1 (n + i) o.2.1) (vp_updL rv1 (n + i) (xk_get (xs_S B0 R0 (n + i)) o.2.1)) (upd rm1 (n + i) (xw_fo (xk_has (xs_S B0 R0 (n + i)) o.2.1))) (upd rs1 (n + i) (nI (n + i))) (nI (n + i + 1)) bp bk bv bo (nI ST.length)) := xa_E hD rfl
          have hp60 : xw_KT kf2_60 kg2_60 af2_60 bf2_60 (xk_rem (xs_S B0 R0 (n + i)) o.2.1) := hp60
          rw [show nI (xk_rem (xs_S B0 R0 (n + i)) o.2.1).length = nI (xs_S B0 R0 (n + i + 1)).length from by rw [hsy]] at hP hD
          refine lv_iinc (k := 1) (v := nI (i + 1)) (lv' := [(1, .int (nI (i + 1))), (0, .ref (q 0))]) hx hb d_E_doStepsOfBatch_63 hl rfl (xn_inc _) (Nat.le_of_ble_eq_true rfl) rfl (fun ls hl => ?_)
          refine lv_goto (tgt := 2) hx hb d_E_doStepsOfBatch_66 (by decide) ?_
          exact ih2 (i + 1) kf2_60 kg2_60 af2_60 bf2_60 (upd rk1 (n + i) o.2.1) (vp_updL rv1 (n + i) (xk_get (xs_S B0 R0 (n + i)) o.2.1)) (upd rm1 (n + i) (xw_fo (xk_has (xs_S B0 R0 (n + i)) o.2.1))) (upd rs1 (n + i) (nI (n + i))) ls _ _ (by omega) (by first | (rw [hsy.symm] at hp44; exact hp44) | (rw [hsy.symm] at hp60; exact hp60)) (xs_cn_up hcn1 hri rfl (by simp [xs_fm, xw_fo, hw0]) (by simp [xs_fv, hw0])) (fun j hj => by rw [pk_un (by omega)]; exact hrs1 j hj) (lv_sub hl [1, 0] rfl) hP hD hS (by omega)
        · skip
          rw [xb_1] at hc22
          have hw0 : o.1 = 0 := by simpa using hc22
          have hsy : xs_S B0 R0 (n + i + 1) = xk_set (xs_S B0 R0 (n + i)) o.2.1 o.2.2 := by rw [hsx]; simp [xs_ap, hw0]
          have hro := xw_room (K := xs_S B0 R0 (n + i)) (k := o.2.1) (v := o.2.2) (by rw [← hsy]; exact hl65 _ (by omega))
          refine lv_aload_n hx hb d_E_doStepsOfBatch_25 rfl (lv_at hl 0 rfl) ?_
          refine lv_aload_n hx hb d_E_doStepsOfBatch_26 rfl (lv_at hl 0 rfl) ?_
          refine va_get (D := D) (ci := 0) (v := .ref (q 4)) (C := R_E) (T := F_E) (N := 4) hx hb hts (zi_E _) hown hK hP 0 rfl rfl 3 (by decide) (hts _ (List.mem_cons_of_mem _ zm_116)) (fun _ h9 => h9) rfl d_E_doStepsOfBatch_27 ?_
          refine va_getN (D := D) (ci := 4) (v := .ref (q 14)) (C := R_B) (T := F_B) (N := 5) hx hb hts (zi_B _) hown hK hP 4 rfl rfl 1 (by decide) (va_Nw.use rfl (hZ _ zn_94)) (fun _ h9 => h9) rfl d_E_doStepsOfBatch_30 ?_
          refine lv_iload_n hx hb d_E_doStepsOfBatch_33 rfl (lv_at hl 1 rfl) ?_
          refine xa_iald hx hb hK hP 14 9 rfl rfl (k := i) (by omega) (by decide) d_E_doStepsOfBatch_34 ?_
          refine xa_top (y := o.2.1) ho3 ?_
          refine lv_aload_n hx hb d_E_doStepsOfBatch_35 rfl (lv_at hl 0 rfl) ?_
          refine va_get (D := D) (ci := 0) (v := .ref (q 4)) (C := R_E) (T := F_E) (N := 4) hx hb hts (zi_E _) hown hK hP 0 rfl rfl 3 (by decide) (hts _ (List.mem_cons_of_mem _ zm_116)) (fun _ h9 => h9) rfl d_E_doStepsOfBatch_36 ?_
          refine va_getN (D := D) (ci := 4) (v := .ref (q 15)) (C := R_B) (T := F_B) (N := 5) hx hb hts (zi_B _) hown hK hP 4 rfl rfl 2 (by decide) (va_Nw.use rfl (hZ _ zn_96)) (fun _ h9 => h9) rfl d_E_doStepsOfBatch_39 ?_
          refine lv_iload_n hx hb d_E_doStepsOfBatch_42 rfl (lv_at hl 1 rfl) ?_
          refine xa_lald hx hb hK hP 15 10 rfl rfl (k := i) (by omega) (by decide) d_E_doStepsOfBatch_43 ?_
          refine xa_topl (y := o.2.2) ho4 ?_
          refine xa_cMV (va_runV (As := [.int o.2.1, .long o.2.2]) (rest := []) ⟨hx, hb, hml, hown, hts⟩ (c_E_ras l D q cA lim kf1 kg1 af1 bf1 rk1 rv1 rm1 rs1 bp bk bv bo (nI ST.length) H.size (xs_S B0 R0 (n + i)) (n + i) o.2.1 o.2.2 hT1 (by omega) hro) (cwV 2 hts (zg_V zm_146 zm_148 zs_2 zm_1 zm_149) rfl rfl rfl (by decide +kernel) ⟨Nat.le_of_ble_eq_true rfl, Nat.le_of_ble_eq_true rfl⟩) (xp_preVQ (ci := 0) (q0 := 0) hK hP hD rfl rfl rfl hZ) rfl rfl hl.1 rfl (lv_room (Nat.le_of_ble_eq_true rfl)) d_E_doStepsOfBatch_44 ⟨Nat.zero_le _, Nat.zero_le _⟩) hS (xa_F hD hS hA) (fun u H locs hp44 hP hS => ?_)
          obtain ⟨kf2_44, kg2_44, af2_44, bf2_44⟩ := u
          have hP : va_P D zz_cl (xw_C q cA lim kf2_44 kg2_44 (nI (xk_set (xs_S B0 R0 (n + i)) o.2.1 o.2.2).length) af2_44 bf2_44 (upd rk1 (n + i) o.2.1) (vp_updL rv1 (n + i) (xk_get (xs_S B0 R0 (n + i)) o.2.1)) (upd rm1 (n + i) (xw_fo (xk_has (xs_S B0 R0 (n + i)) o.2.1))) (upd rs1 (n + i) (nI (n + i))) (nI (n + i + 1)) bp bk bv bo (nI ST.length)) H := hP
          have hD : va_D A (xw_C q cA lim kf2_44 kg2_44 (nI (xk_set (xs_S B0 R0 (n + i)) o.2.1 o.2.2).length) af2_44 bf2_44 (upd rk1 (n + i) o.2.1) (vp_updL rv1 (n + i) (xk_get (xs_S B0 R0 (n + i)) o.2.1)) (upd rm1 (n + i) (xw_fo (xk_has (xs_S B0 R0 (n + i)) o.2.1))) (upd rs1 (n + i) (nI (n + i))) (nI (n + i + 1)) bp bk bv bo (nI ST.length)) := xa_E hD rfl
          have hp44 : xw_KT kf2_44 kg2_44 af2_44 bf2_44 (xk_set (xs_S B0 R0 (n + i)) o.2.1 o.2.2) := hp44
          rw [show nI (xk_set (xs_S B0 R0 (n + i)) o.2.1 o.2.2).length = nI (xs_S B0 R0 (n + i + 1)).length from by rw [hsy]] at hP hD
          refine lv_goto (tgt := 63) hx hb d_E_doStepsOfBatch_47 (by decide) ?_
          refine lv_iinc (k := 1) (v := nI (i + 1)) (lv' := [(1, .int (nI (i + 1))), (0, .ref (q 0))]) hx hb d_E_doStepsOfBatch_63 hl rfl (xn_inc _) (Nat.le_of_ble_eq_true rfl) rfl (fun ls hl => ?_)
          refine lv_goto (tgt := 2) hx hb d_E_doStepsOfBatch_66 (by decide) ?_
          exact ih2 (i + 1) kf2_44 kg2_44 af2_44 bf2_44 (upd rk1 (n + i) o.2.1) (vp_updL rv1 (n + i) (xk_get (xs_S B0 R0 (n + i)) o.2.1)) (upd rm1 (n + i) (xw_fo (xk_has (xs_S B0 R0 (n + i)) o.2.1))) (upd rs1 (n + i) (nI (n + i))) ls _ _ (by omega) (by first | (rw [hsy.symm] at hp44; exact hp44) | (rw [hsy.symm] at hp60; exact hp60)) (xs_cn_up hcn1 hri rfl (by simp [xs_fm, xw_fo, hw0]) (by simp [xs_fv, hw0])) (fun j hj => by rw [pk_un (by omega)]; exact hrs1 j hj) (lv_sub hl [1, 0] rfl) hP hD hS (by omega)
  exact lp2 _ 0 kf kg af bf rk rv rm rs ls _ _ (Nat.zero_le _) hT hcn (fun _ _ => rfl) (lv_sub hl [1, 0] rfl) hP hD hS (Nat.lt_succ_self _)
end
section
/-! Pure: what a call leaves of base, records and steps; the class's arrays behind it. -/
def xs_pB (lm : Nat) (B : List xk_E) (R : List xs_R) (bt : Bool) (N : List xs_O) : List xk_E := if bt = true ∨ xs_bad lm (xs_now B (xs_new B R N)) = true then B else xs_B B R N
def xs_pR (lm : Nat) (B : List xk_E) (R : List xs_R) (bt : Bool) (N : List xs_O) : List xs_R := if bt = true ∨ xs_bad lm (xs_now B (xs_new B R N)) = true then R else xs_Q B R N
def xs_pS (bt : Bool) (ST : List xs_O) (o : xs_O) : List xs_O := if bt = true then (if ST.length < 5 then ST ++ [o] else ST) else ST
def xs_dB (B : List xk_E) (R : List xs_R) (bt : Bool) (k : Int32) : List xk_E := if bt = true ∨ xk_has (xs_now B R) k = false then B else xs_B B R [(1, k, 0)]
def xs_dR (B : List xk_E) (R : List xs_R) (bt : Bool) (k : Int32) : List xs_R := if bt = true ∨ xk_has (xs_now B R) k = false then R else xs_Q B R [(1, k, 0)]
theorem xs_pS_len {bt : Bool} (h : bt = true) (ST : List xs_O) (o : xs_O) : (xs_pS bt ST o).length = if ST.length < 5 then ST.length + 1 else ST.length := by
  unfold xs_pS
  rw [if_pos h]
  split <;> simp
theorem xs_pS_no {bt : Bool} (h : bt = false) (ST : List xs_O) (o : xs_O) : xs_pS bt ST o = ST := by
  subst h; rfl
theorem xs_C_take {B : List xk_E} {R : List xs_R} {ST : List xs_O} {kf : Nat → Int32} {kg : Nat → Int64} {af bf rk : Nat → Int32} {rv : Nat → Int64} {rm rs bp bk : Nat → Int32} {bv : Nat → Int64} (h : xs_CT B R ST kf kg af bf rk rv rm rs bp bk bv) {bt : Bool} (hb : bt = true) {o : xs_O} (ho : o.1 ≤ 1) {b : Bool} (hbo : b = decide (o.1 = 0)) {k : Int32} (hk : k = o.2.1) {v : Int64} (hv : v = o.2.2) :
    xs_CT B R (xs_pS bt ST o) kf kg af bf rk rv rm rs (if ST.length < 5 then upd bp ST.length (xb_i b) else bp) (if ST.length < 5 then upd bk ST.length k else bk) (if ST.length < 5 then vp_updL bv ST.length v else bv) := by
  refine ⟨h.1, h.2.1, h.2.2.1, ?_⟩
  unfold xs_pS
  rw [if_pos hb]
  by_cases z : ST.length < 5
  · simp only [z, if_true]
    rw [hbo, hk, hv]
    exact xs_bt_up h.2.2.2 ho
  · simp only [z, if_false]
    exact h.2.2.2
theorem xs_one_S (B : List xk_E) (R : List xs_R) (o : xs_O) : xs_S B (xs_new B R [o]) (R.length + 1) = xs_ap (xs_now B R) (xs_rec R.length o) := by
  rw [xs_S_succ (xs_new_at (i := 0) rfl)]
  show xs_ap (xs_S B (xs_new B R [o]) R.length) _ = _
  rw [xs_now_new]
theorem xs_one_now (B : List xk_E) (R : List xs_R) (o : xs_O) : xs_now B (xs_new B R [o]) = xs_S B (xs_new B R [o]) (R.length + 1) := by
  rw [xs_now, xs_new_len]; rfl
/-- one record written: its key's former value -/
theorem xs_one_cn {B : List xk_E} {R : List xs_R} {rk : Nat → Int32} {rv : Nat → Int64} {rm : Nat → Int32} (h : xs_ct B R rk rv rm) {o : xs_O} (ho : o.1 ≤ 1) {k : Int32} (hk : k = o.2.1) : xs_cn B (xs_new B R [o]) (R.length + 1) (upd rk R.length k) (vp_updL rv R.length (xk_get (xs_now B R) k)) (upd rm R.length (xw_fo (xk_has (xs_now B R) k))) := by
  subst hk
  have hne : ¬ o.1 = 2 := by omega
  refine xs_cn_up (xs_cn_new h [o]) (xs_new_at (i := 0) rfl) rfl ?_ ?_
  · rw [xs_now_new]
    simp only [xs_fm, xs_rec, hne, if_false, xw_fo]
    rfl
  · rw [xs_now_new]
    simp only [xs_fv, xs_rec, hne, if_false]
theorem xs_one_st {B : List xk_E} {R : List xs_R} {rs : Nat → Int32} (h : xs_st R rs) (o : xs_O) : xs_st (xs_new B R [o]) (upd rs R.length (nI R.length)) := by
  refine xs_st_new (fun i r hi hr => ?_) (fun i h1 h2 => ?_)
  · rw [pk_un (by omega)]; exact h i r hr
  · have : i = R.length := by simp at h2; omega
    subst this
    rw [pk_us]
theorem xs_one_U {lm : Nat} {B : List xk_E} {R : List xs_R} (hok : xs_ok lm B R) {o : xs_O} (ho : o.1 ≤ 1) {rk : Nat → Int32} {rv : Nat → Int64} {rm : Nat → Int32} (h : xs_cn B (xs_new B R [o]) (R.length + 1) rk rv rm) : ∀ i, R.length ≤ i → i < R.length + 1 → xw_U rk rv rm (xs_S B (xs_new B R [o])) i := by
  intro i _ hi
  refine xs_cn_U h hok.1 (xs_new_mid hok (by simp) (fun q => by simp at q)) (xs_new_w hok (fun x hx => ?_)) (by rw [xs_new_len]; simp) i hi
  rw [List.mem_singleton.mp hx]; omega
theorem xs_C_back {B : List xk_E} {R : List xs_R} {ST : List xs_O} {kf : Nat → Int32} {kg : Nat → Int64} {af bf rk : Nat → Int32} {rv : Nat → Int64} {rm rs bp bk : Nat → Int32} {bv : Nat → Int64} {N : List xs_O} {n : Nat} (hT : xw_KT kf kg af bf (xs_S B (xs_new B R N) R.length)) (hcn : xs_cn B (xs_new B R N) n rk rv rm) (hn : R.length ≤ n) (hs : xs_st R rs) (hb : xs_bt ST bp bk bv) : xs_CT B R ST kf kg af bf rk rv rm rs bp bk bv := by
  rw [xs_now_new] at hT
  exact ⟨hT, xs_cn_back hcn hn, hs, hb⟩
theorem xs_C_stay {B : List xk_E} {R : List xs_R} {ST : List xs_O} {kf : Nat → Int32} {kg : Nat → Int64} {af bf rk : Nat → Int32} {rv : Nat → Int64} {rm rs bp bk : Nat → Int32} {bv : Nat → Int64} {N : List xs_O} {n : Nat} (hn : n = R.length + N.length) (hT : xw_KT kf kg af bf (xs_now B (xs_new B R N))) (hcn : xs_cn B (xs_new B R N) n rk rv rm) (hs : xs_st (xs_new B R N) rs) (hb : xs_bt ST bp bk bv) :
    xs_CT (xs_B B R N) (xs_Q B R N) ST kf kg af bf (if 64 < n then xw_mv rk R.length (n - R.length) else rk) (if 64 < n then xw_mv rv R.length (n - R.length) else rv) (if 64 < n then xw_mv rm R.length (n - R.length) else rm) (if 64 < n then xm_mb rs R.length (n - R.length) else rs) bp bk bv := by
  obtain ⟨h1, h2⟩ := xs_settle hn hcn hs
  exact ⟨by rw [xs_now_add]; exact hT, h1, h2, hb⟩
theorem xs_rem_ok {lm : Nat} {B : List xk_E} {R : List xs_R} (hok : xs_ok lm B R) (k : Int32) : xs_bad lm (xs_now B (xs_new B R [(1, k, 0)])) = false := by
  have h := hok.2.2.2.2.2
  have e : xs_now B (xs_new B R [(1, k, 0)]) = xk_rem (xs_now B R) k := by
    rw [xs_one_now, xs_one_S]; rfl
  rw [e]
  have h1 := xd_pg_rem (xs_now B R) k
  have h2 := xk_rem_len (xs_now B R) k
  have h3 : (xs_now B R).length ≤ 60 ∧ xd_pg (xs_now B R) ≤ lm := h
  simp only [xs_bad, Bool.or_eq_false_iff, decide_eq_false_iff_not]
  refine ⟨?_, by omega⟩
  rw [h2]
  split <;> omega
theorem xs_bt_nil (bp bk : Nat → Int32) (bv : Nat → Int64) : xs_bt [] bp bk bv := fun i o h => by simp at h
theorem xs_now_nil (B : List xk_E) : xs_now B [] = B := by simp [xs_now, xs_S]
theorem xs_C_cut {B : List xk_E} {R : List xs_R} {kf : Nat → Int32} {kg : Nat → Int64} {af bf rk : Nat → Int32} {rv : Nat → Int64} {rm rs bp bk : Nat → Int32} {bv : Nat → Int64} {n : Nat} {ST : List xs_O} (hT : xw_KT kf kg af bf (xs_S B R n)) (hb : xs_bt ST bp bk bv) : xs_CT (xs_S B R n) [] ST kf kg af bf rk rv rm rs bp bk bv := by
  refine ⟨by rw [xs_now_nil]; exact hT, fun i r h => by simp at h, fun i r h => by simp at h, hb⟩
/-- the records of a batch: its steps and the record that ends it -/
def xs_N (ST : List xs_O) : List xs_O := ST ++ [(2, 0, 0)]
theorem xs_N_len (ST : List xs_O) : (xs_N ST).length = ST.length + 1 := by simp [xs_N]
theorem xs_N_at {ST : List xs_O} {i : Nat} {o : xs_O} (h : ST[i]? = some o) : (xs_N ST)[i]? = some o := by
  unfold xs_N
  rw [List.getElem?_append_left (List.getElem?_eq_some_iff.mp h).1]; exact h
theorem xs_N_last (ST : List xs_O) : (xs_N ST)[ST.length]? = some (2, 0, 0) := by simp [xs_N]
theorem xs_N_six {ST : List xs_O} (h : ST.length ≤ 5) : (xs_N ST).length ≤ 6 ∧ ((xs_N ST).length = 6 → ∃ o, (xs_N ST)[5]? = some o ∧ o.1 = 2) := by
  rw [xs_N_len]
  refine ⟨by omega, fun q => ⟨(2, 0, 0), ?_, rfl⟩⟩
  have := xs_N_last ST
  rwa [show ST.length = 5 from by omega] at this
theorem xs_N_w {ST : List xs_O} {bp bk : Nat → Int32} {bv : Nat → Int64} (hb : xs_bt ST bp bk bv) : ∀ o ∈ xs_N ST, o.1 ≤ 2 := by
  intro o ho
  rcases List.mem_append.mp ho with h | h
  · obtain ⟨i, hi⟩ := List.getElem?_of_mem h
    have := (hb i o hi).1; omega
  · rw [List.mem_singleton.mp h]; decide
theorem xs_N_now (B : List xk_E) (R : List xs_R) (ST : List xs_O) : xs_now B (xs_new B R (xs_N ST)) = xs_S B (xs_new B R (xs_N ST)) (R.length + ST.length) := by
  rw [xs_now, xs_new_len, xs_N_len]
  show xs_S B (xs_new B R (xs_N ST)) (R.length + ST.length + 1) = _
  rw [xs_S_succ (xs_new_at (xs_N_last ST)), xs_ap_mark _ rfl]
theorem xs_N_cn {B : List xk_E} {R : List xs_R} {ST : List xs_O} {rk : Nat → Int32} {rv : Nat → Int64} {rm : Nat → Int32} (h : xs_cn B (xs_new B R (xs_N ST)) (R.length + ST.length) rk rv rm) : xs_cn B (xs_new B R (xs_N ST)) (R.length + ST.length + 1) (upd rk (R.length + ST.length) (nI 0)) (vp_updL rv (R.length + ST.length) 0) (upd rm (R.length + ST.length) (nI 0)) := by
  refine xs_cn_up h (xs_new_at (xs_N_last ST)) ?_ ?_ ?_
  · show nI 0 = 0
    decide
  · simp [xs_fm, xs_rec]
  · simp [xs_fv, xs_rec]
theorem xs_N_st {B : List xk_E} {R : List xs_R} {ST : List xs_O} {rs rs' : Nat → Int32} (h : xs_st R rs) (hk : ∀ j, j < R.length → rs' j = rs j) : xs_st (xs_new B R (xs_N ST)) (xw_fi (upd rs' (R.length + ST.length) (nI (R.length + ST.length))) R.length (R.length + ST.length + 1) (nI R.length)) := by
  refine xs_st_new (fun i r hi hr => ?_) (fun i h1 h2 => ?_)
  · unfold xw_fi
    rw [if_neg (by omega), pk_un (by omega), hk i hi]; exact h i r hr
  · rw [xs_N_len] at h2
    unfold xw_fi
    rw [if_pos (by omega)]
theorem xs_N_U {lm : Nat} {B : List xk_E} {R : List xs_R} (hok : xs_ok lm B R) {ST : List xs_O} (hst : ST.length ≤ 5) {bp bk : Nat → Int32} {bv : Nat → Int64} (hb : xs_bt ST bp bk bv) {rk : Nat → Int32} {rv : Nat → Int64} {rm : Nat → Int32} (h : xs_cn B (xs_new B R (xs_N ST)) (R.length + ST.length) rk rv rm) : ∀ i, R.length ≤ i → i < R.length + ST.length → xw_U rk rv rm (xs_S B (xs_new B R (xs_N ST))) i := by
  intro i _ hi
  refine xs_cn_U h hok.1 (xs_new_mid hok (xs_N_six hst).1 (xs_N_six hst).2) (xs_new_w hok (xs_N_w hb)) (by rw [xs_new_len, xs_N_len]; omega) i hi
theorem xs_Q_one (B : List xk_E) (R : List xs_R) (o : xs_O) : (if 64 < R.length + 1 then (R.length + 1 - R.length) else R.length + 1) = (xs_Q B R [o]).length := by
  rw [xs_Q_len, Nat.add_sub_cancel_left]; rfl
theorem xs_Q_N (B : List xk_E) (R : List xs_R) (ST : List xs_O) : (if 64 < R.length + ST.length + 1 then (R.length + ST.length + 1 - R.length) else R.length + ST.length + 1) = (xs_Q B R (xs_N ST)).length := by
  rw [xs_Q_len, xs_N_len, Nat.add_assoc, Nat.add_sub_cancel_left]
theorem xs_ok_w {lm : Nat} {B : List xk_E} {R : List xs_R} (hok : xs_ok lm B R) : ∀ r ∈ R, r.1 ≤ 2 := by
  intro r hr
  obtain ⟨i, hi⟩ := List.getElem?_of_mem hr
  exact (hok.2.2.2.2.1 i r hi).1
end
section
/-! Walks: specs_e (printed by run.py) -/
set_option maxHeartbeats 4000000 in
set_option maxRecDepth 100000 in
theorem c_E_put (l : Launch) (D : va_G) (q : Nat → Nat) (cA : Nat → ClassId) (kf : Nat → Int32) (kg : Nat → Int64) (af : Nat → Int32) (bf : Nat → Int32) (rk : Nat → Int32) (rv : Nat → Int64) (rm : Nat → Int32) (rs : Nat → Int32) (bp : Nat → Int32) (bk : Nat → Int32) (bv : Nat → Int64) (sz : Nat) (lm : Nat) (B0 : List xk_E) (R0 : List xs_R) (bt : Bool) (ST : List xs_O) (k : Int32) (v : Int64) (hC : xs_CT B0 R0 ST kf kg af bf rk rv rm rs bp bk bv) (hok : xs_ok lm B0 R0) (hlm : lm ≤ 200) (hst : ST.length ≤ 5) : Met l y_E_put zw_E_put ({ frames := 6, cells := 0, slots := 0, locals := 131 } : Room) (va_Pc [.ref (q 0), .int k, .long v] (xp_Q D zz_cl (xw_tC cA) sz (xw_C q cA (nI lm) kf kg (nI (xs_now B0 R0).length) af bf rk rv rm rs (nI R0.length) bp bk bv (xb_i bt) (nI ST.length)))) (va_Qi (fun (r : Int32) (u : (Nat → Int32) × (Nat → Int64) × (Nat → Int32) × (Nat → Int32) × (Nat → Int32) × (Nat → Int64) × (Nat → Int32) × (Nat → Int32) × (Nat → Int32) × (Nat → Int32) × (Nat → Int64)) => r = (if bt = true then (if ST.length < 5 then nI 3 else nI 0) else if xs_bad lm (xs_now B0 (xs_new B0 R0 [((0, k, v) : xs_O)])) = true then nI 0 else if xk_has (xs_now B0 R0) k = true then nI 2 else nI 1) ∧ (xs_CT (xs_pB lm B0 R0 bt [((0, k, v) : xs_O)]) (xs_pR lm B0 R0 bt [((0, k, v) : xs_O)]) (xs_pS bt ST ((0, k, v) : xs_O)) u.1 u.2.1 u.2.2.1 u.2.2.2.1 u.2.2.2.2.1 u.2.2.2.2.2.1 u.2.2.2.2.2.2.1 u.2.2.2.2.2.2.2.1 u.2.2.2.2.2.2.2.2.1 u.2.2.2.2.2.2.2.2.2.1 u.2.2.2.2.2.2.2.2.2.2)) (fun (u : (Nat → Int32) × (Nat → Int64) × (Nat → Int32) × (Nat → Int32) × (Nat → Int32) × (Nat → Int64) × (Nat → Int32) × (Nat → Int32) × (Nat → Int32) × (Nat → Int32) × (Nat → Int64)) (t : State) => va_P D zz_cl (xw_C q cA (nI lm) u.1 u.2.1 (nI (xs_now (xs_pB lm B0 R0 bt [((0, k, v) : xs_O)]) (xs_pR lm B0 R0 bt [((0, k, v) : xs_O)])).length) u.2.2.1 u.2.2.2.1 u.2.2.2.2.1 u.2.2.2.2.2.1 u.2.2.2.2.2.2.1 u.2.2.2.2.2.2.2.1 (nI (xs_pR lm B0 R0 bt [((0, k, v) : xs_O)]).length) u.2.2.2.2.2.2.2.2.1 u.2.2.2.2.2.2.2.2.2.1 u.2.2.2.2.2.2.2.2.2.2 (xb_i bt) (nI (xs_pS bt ST ((0, k, v) : xs_O)).length)) t.heap) (va_A (xw_C q cA (nI lm) kf kg (nI (xs_now B0 R0).length) af bf rk rv rm rs (nI R0.length) bp bk bv (xb_i bt) (nI ST.length)) sz)) 0 0 (va_A (xw_C q cA (nI lm) kf kg (nI (xs_now B0 R0).length) af bf rk rv rm rs (nI R0.length) bp bk bv (xb_i bt) (nI ST.length)) sz) := by
  refine Met.ofW (cc := b_E_put) (maxL := 6) (ret := (some .int)) (by decide) rfl ?_
  intro pJ eJ s mJ args below meth cJ s₁ B hml hv
  obtain ⟨rfl, hsz, hP, hK, hD0, hZ⟩ := hv
  have hx := B.exec
  have hb := B.bytes
  have hr := B.returns
  have hts := atoms_spec (ws := zw_E_put) B.pre
  have hown : s.vm.findClass R_E = some mJ.cls := findClass_of_methodNamed B.named
  have hlocks := B.notSynchronized
  subst hsz
  have hD := hD0.self (sz := s.heap.size)
  generalize hAe : va_A (xw_C q cA (nI lm) kf kg (nI (xs_now B0 R0).length) af bf rk rv rm rs (nI R0.length) bp bk bv (xb_i bt) (nI ST.length)) s.heap.size = A at hD ⊢
  have hA : ∀ q : Nat, s.heap.size ≤ q → A q := fun q h => by rw [← hAe]; exact Or.inr h
  have hS : va_S A s.heap s.heap [] := va_S.rf
  have hl := lv_entry ([.ref (q 0), .int k, .long v]) (n := 6) (Nat.le_of_ble_eq_true rfl)
  rw [lg_entry_eq]
  generalize (lg_sl ([.ref (q 0), .int k, .long v]) ++ List.replicate (6 - (lg_sl ([.ref (q 0), .int k, .long v])).length) Slot.unset).toArray = ls at hl ⊢
  have hl : lv_has ls 6 [(0, .ref (q 0)), (1, .int k), (2, .long v)] := hl
  have h60 : (xs_now B0 R0).length ≤ 60 := hok.2.2.2.2.2.1
  have h64 := hok.2.2.1
  refine lv_aload_n hx hb d_E_put_0 rfl (lv_at hl 0 rfl) ?_
  refine va_get (D := D) (ci := 0) (v := .ref (q 4)) (C := R_E) (T := F_E) (N := 4) hx hb hts (zi_E _) hown hK hP 0 rfl rfl 3 (by decide) (hts _ (List.mem_cons_of_mem _ zm_116)) (fun _ h9 => h9) rfl d_E_put_1 ?_
  refine va_getN (D := D) (ci := 4) (v := .int (xb_i bt)) (C := R_B) (T := F_B) (N := 5) hx hb hts (zi_B _) hown hK hP 4 rfl rfl 3 (by decide) (va_Nw.use rfl (hZ _ zn_98)) (fun _ h9 => h9) rfl d_E_put_4 ?_
  refine lv_if_eq (tgt := 21) hx hb d_E_put_7 (by decide) (fun hc7 => ?_) (fun hc7 => ?_)
  · skip
    rw [xb_0] at hc7
    refine lv_aload_n hx hb d_E_put_21 rfl (lv_at hl 0 rfl) ?_
    refine va_get (D := D) (ci := 0) (v := .ref (q 3)) (C := R_E) (T := F_E) (N := 4) hx hb hts (zi_E _) hown hK hP 0 rfl rfl 2 (by decide) (hts _ (List.mem_cons_of_mem _ zm_115)) (fun _ h9 => h9) rfl d_E_put_22 ?_
    refine va_getN (D := D) (ci := 3) (v := .int (nI R0.length)) (C := R_R) (T := F_R) (N := 5) hx hb hts (zi_R _) hown hK hP 3 rfl rfl 4 (by decide) (va_Nw.use rfl (hZ _ zn_72)) (fun _ h9 => h9) rfl d_E_put_25 ?_
    refine lv_istore (lv' := [(4, .int (nI R0.length)), (0, .ref (q 0)), (1, .int k), (2, .long v)]) hx hb d_E_put_28 hl (Nat.le_of_ble_eq_true rfl) rfl (fun ls hl => ?_)
    refine lv_aload_n hx hb d_E_put_30 rfl (lv_at hl 1 rfl) ?_
    refine va_get (D := D) (ci := 0) (v := .ref (q 1)) (C := R_E) (T := F_E) (N := 4) hx hb hts (zi_E _) hown hK hP 0 rfl rfl 1 (by decide) (hts _ (List.mem_cons_of_mem _ zm_114)) (fun _ h9 => h9) rfl d_E_put_31 ?_
    refine lv_iload_n hx hb d_E_put_34 rfl (lv_at hl 2 rfl) ?_
    refine xa_cI (va_runV (As := [.int k]) (rest := []) ⟨hx, hb, hml, hown, hts⟩ (c_K_holds l D q cA (nI lm) kf kg af bf rk rv rm rs (nI R0.length) bp bk bv (xb_i bt) (nI ST.length) (xs_now B0 R0) k hC.1) (cwV 1 hts (zg_V zm_134 zm_135 zm_136 zm_3 zm_137) rfl rfl rfl (by decide +kernel) ⟨Nat.le_of_ble_eq_true rfl, Nat.le_of_ble_eq_true rfl⟩) (xp_preV (ci := 1) (q0 := 1) hK hP rfl rfl rfl hZ) rfl rfl hl.1 rfl (lv_room (Nat.le_of_ble_eq_true rfl)) d_E_put_35 ⟨Nat.zero_le _, Nat.zero_le _⟩) ?_
    refine lv_istore (lv' := [(5, .int (xb_i (xk_has (xs_now B0 R0) k))), (4, .int (nI R0.length)), (0, .ref (q 0)), (1, .int k), (2, .long v)]) hx hb d_E_put_38 hl (Nat.le_of_ble_eq_true rfl) rfl (fun ls hl => ?_)
    refine lv_aload_n hx hb d_E_put_40 rfl (lv_at hl 2 rfl) ?_
    refine lv_iload_n hx hb d_E_put_41 rfl (lv_at hl 3 rfl) ?_
    refine lv_lload_n hx hb d_E_put_42 rfl (lv_at hl 4 rfl) ?_
    refine xa_cMV (va_runV (As := [.int k, .long v]) (rest := []) ⟨hx, hb, hml, hown, hts⟩ (c_E_ras l D q cA (nI lm) kf kg af bf rk rv rm rs bp bk bv (xb_i bt) (nI ST.length) s.heap.size (xs_now B0 R0) R0.length k v hC.1 (by omega) (Or.inr (by omega))) (cwV 2 hts (zg_V zm_146 zm_148 zs_2 zm_1 zm_149) rfl rfl rfl (by decide +kernel) ⟨Nat.le_of_ble_eq_true rfl, Nat.le_of_ble_eq_true rfl⟩) (xp_preVQ (ci := 0) (q0 := 0) hK hP hD rfl rfl rfl hZ) rfl rfl hl.1 rfl (lv_room (Nat.le_of_ble_eq_true rfl)) d_E_put_43 ⟨Nat.zero_le _, Nat.zero_le _⟩) hS (xa_F hD hS hA) (fun u H locs hp43 hP hS => ?_)
    obtain ⟨kf2_43, kg2_43, af2_43, bf2_43⟩ := u
    have hP : va_P D zz_cl (xw_C q cA (nI lm) kf2_43 kg2_43 (nI (xk_set (xs_now B0 R0) k v).length) af2_43 bf2_43 (upd rk R0.length k) (vp_updL rv R0.length (xk_get (xs_now B0 R0) k)) (upd rm R0.length (xw_fo (xk_has (xs_now B0 R0) k))) (upd rs R0.length (nI R0.length)) (nI (R0.length + 1)) bp bk bv (xb_i bt) (nI ST.length)) H := hP
    have hD : va_D A (xw_C q cA (nI lm) kf2_43 kg2_43 (nI (xk_set (xs_now B0 R0) k v).length) af2_43 bf2_43 (upd rk R0.length k) (vp_updL rv R0.length (xk_get (xs_now B0 R0) k)) (upd rm R0.length (xw_fo (xk_has (xs_now B0 R0) k))) (upd rs R0.length (nI R0.length)) (nI (R0.length + 1)) bp bk bv (xb_i bt) (nI ST.length)) := xa_E hD rfl
    have hp43 : xw_KT kf2_43 kg2_43 af2_43 bf2_43 (xk_set (xs_now B0 R0) k v) := hp43
    have hsn : xs_S B0 (xs_new B0 R0 [((0, k, v) : xs_O)]) (R0.length + 1) = xk_set (xs_now B0 R0) k v := by rw [xs_one_S]; rfl
    rw [← hsn] at hp43
    have hcn := xs_one_cn hC.2.1 (o := ((0, k, v) : xs_O)) (Nat.zero_le _) (k := k) rfl
    have hnw := xs_one_now B0 R0 ((0, k, v) : xs_O)
    rw [show nI (xk_set (xs_now B0 R0) k v).length = nI (xs_S B0 (xs_new B0 R0 [((0, k, v) : xs_O)]) (R0.length + 1)).length from by rw [hsn]] at hP hD
    refine lv_aload_n hx hb d_E_put_46 rfl (lv_at hl 2 rfl) ?_
    refine xa_cI (va_runV (As := []) (rest := []) ⟨hx, hb, hml, hown, hts⟩ (c_E_over l D q cA kf2_43 kg2_43 af2_43 bf2_43 (upd rk R0.length k) (vp_updL rv R0.length (xk_get (xs_now B0 R0) k)) (upd rm R0.length (xw_fo (xk_has (xs_now B0 R0) k))) (upd rs R0.length (nI R0.length)) (nI (R0.length + 1)) bp bk bv (xb_i bt) (nI ST.length) (xs_S B0 (xs_new B0 R0 [((0, k, v) : xs_O)]) (R0.length + 1)) lm hp43 hlm) (cwV 0 hts (zg_V zm_183 zm_185 zs_5 zm_1 zm_186) rfl rfl rfl (by decide +kernel) ⟨Nat.le_of_ble_eq_true rfl, Nat.le_of_ble_eq_true rfl⟩) (xp_preV (ci := 0) (q0 := 0) hK hP rfl rfl rfl hZ) rfl rfl hl.1 rfl (lv_room (Nat.le_of_ble_eq_true rfl)) d_E_put_47 ⟨Nat.zero_le _, Nat.zero_le _⟩) ?_
    refine lv_if_eq (tgt := 61) hx hb d_E_put_50 (by decide) (fun hc50 => ?_) (fun hc50 => ?_)
    · skip
      rw [xb_0] at hc50
      refine lv_aload_n hx hb d_E_put_61 rfl (lv_at hl 2 rfl) ?_
      refine va_get (D := D) (ci := 0) (v := .ref (q 3)) (C := R_E) (T := F_E) (N := 4) hx hb hts (zi_E _) hown hK hP 0 rfl rfl 2 (by decide) (hts _ (List.mem_cons_of_mem _ zm_115)) (fun _ h9 => h9) rfl d_E_put_62 ?_
      refine lv_iload hx hb d_E_put_65 (lv_at hl 1 rfl) ?_
      refine xa_cMV (va_runV (As := [.int (nI R0.length)]) (rest := []) ⟨hx, hb, hml, hown, hts⟩ (c_R_settle l D q cA (nI lm) kf2_43 kg2_43 (nI (xs_S B0 (xs_new B0 R0 [((0, k, v) : xs_O)]) (R0.length + 1)).length) af2_43 bf2_43 (upd rk R0.length k) (vp_updL rv R0.length (xk_get (xs_now B0 R0) k)) (upd rm R0.length (xw_fo (xk_has (xs_now B0 R0) k))) (upd rs R0.length (nI R0.length)) bp bk bv (xb_i bt) (nI ST.length) H.size (R0.length + 1) R0.length (by omega) (by omega)) (cwV 1 hts (zg_V zm_241 zm_242 zm_243 zm_5 zm_244) rfl rfl rfl (by decide +kernel) ⟨Nat.le_of_ble_eq_true rfl, Nat.le_of_ble_eq_true rfl⟩) (xp_preVQ (ci := 3) (q0 := 3) hK hP hD rfl rfl rfl hZ) rfl rfl hl.1 rfl (lv_room (Nat.le_of_ble_eq_true rfl)) d_E_put_67 ⟨Nat.zero_le _, Nat.zero_le _⟩) hS (xa_F hD hS hA) (fun u H locs hp67 hP hS => ?_)
      have hP : va_P D zz_cl (xw_C q cA (nI lm) kf2_43 kg2_43 (nI (xs_S B0 (xs_new B0 R0 [((0, k, v) : xs_O)]) (R0.length + 1)).length) af2_43 bf2_43 (if 64 < R0.length + 1 then xw_mv (upd rk R0.length k) R0.length (R0.length + 1 - R0.length) else upd rk R0.length k) (if 64 < R0.length + 1 then xw_mv (vp_updL rv R0.length (xk_get (xs_now B0 R0) k)) R0.length (R0.length + 1 - R0.length) else vp_updL rv R0.length (xk_get (xs_now B0 R0) k)) (if 64 < R0.length + 1 then xw_mv (upd rm R0.length (xw_fo (xk_has (xs_now B0 R0) k))) R0.length (R0.length + 1 - R0.length) else upd rm R0.length (xw_fo (xk_has (xs_now B0 R0) k))) (if 64 < R0.length + 1 then xm_mb (upd rs R0.length (nI R0.length)) R0.length (R0.length + 1 - R0.length) else upd rs R0.length (nI R0.length)) (nI (if 64 < R0.length + 1 then (R0.length + 1 - R0.length) else R0.length + 1)) bp bk bv (xb_i bt) (nI ST.length)) H := hP
      have hD : va_D A (xw_C q cA (nI lm) kf2_43 kg2_43 (nI (xs_S B0 (xs_new B0 R0 [((0, k, v) : xs_O)]) (R0.length + 1)).length) af2_43 bf2_43 (if 64 < R0.length + 1 then xw_mv (upd rk R0.length k) R0.length (R0.length + 1 - R0.length) else upd rk R0.length k) (if 64 < R0.length + 1 then xw_mv (vp_updL rv R0.length (xk_get (xs_now B0 R0) k)) R0.length (R0.length + 1 - R0.length) else vp_updL rv R0.length (xk_get (xs_now B0 R0) k)) (if 64 < R0.length + 1 then xw_mv (upd rm R0.length (xw_fo (xk_has (xs_now B0 R0) k))) R0.length (R0.length + 1 - R0.length) else upd rm R0.length (xw_fo (xk_has (xs_now B0 R0) k))) (if 64 < R0.length + 1 then xm_mb (upd rs R0.length (nI R0.length)) R0.length (R0.length + 1 - R0.length) else upd rs R0.length (nI R0.length)) (nI (if 64 < R0.length + 1 then (R0.length + 1 - R0.length) else R0.length + 1)) bp bk bv (xb_i bt) (nI ST.length)) := xa_E hD rfl
      have e0 : ¬ (bt = true ∨ xs_bad lm (xs_now B0 (xs_new B0 R0 [((0, k, v) : xs_O)])) = true) := by rw [hc7, hnw, hc50]; decide
      have e1 : xs_pB lm B0 R0 bt [((0, k, v) : xs_O)] = xs_B B0 R0 [((0, k, v) : xs_O)] := by unfold xs_pB; rw [if_neg e0]
      have e2 : xs_pR lm B0 R0 bt [((0, k, v) : xs_O)] = xs_Q B0 R0 [((0, k, v) : xs_O)] := by unfold xs_pR; rw [if_neg e0]
      have e3 : xs_pS bt ST ((0, k, v) : xs_O) = ST := xs_pS_no hc7 _ _
      rw [show nI (if 64 < R0.length + 1 then (R0.length + 1 - R0.length) else R0.length + 1) = nI (xs_Q B0 R0 [((0, k, v) : xs_O)]).length from congrArg nI (xs_Q_one B0 R0 ((0, k, v) : xs_O))] at hP hD
      refine lv_iload hx hb d_E_put_70 (lv_at hl 0 rfl) ?_
      refine lv_if_eq (tgt := 79) hx hb d_E_put_72 (by decide) (fun hc72 => ?_) (fun hc72 => ?_)
      · skip
        rw [xb_0] at hc72
        refine lv_iconst (v := nI 1) hx hb d_E_put_79 (by decide +kernel) ?_
        exact W.iret (v := nI 1) hx hb hr (fun tJ htJ hWJ => ⟨⟨_, (kf2_43, kg2_43, af2_43, bf2_43, if 64 < R0.length + 1 then xw_mv (upd rk R0.length k) R0.length (R0.length + 1 - R0.length) else upd rk R0.length k, if 64 < R0.length + 1 then xw_mv (vp_updL rv R0.length (xk_get (xs_now B0 R0) k)) R0.length (R0.length + 1 - R0.length) else vp_updL rv R0.length (xk_get (xs_now B0 R0) k), if 64 < R0.length + 1 then xw_mv (upd rm R0.length (xw_fo (xk_has (xs_now B0 R0) k))) R0.length (R0.length + 1 - R0.length) else upd rm R0.length (xw_fo (xk_has (xs_now B0 R0) k)), if 64 < R0.length + 1 then xm_mb (upd rs R0.length (nI R0.length)) R0.length (R0.length + 1 - R0.length) else upd rs R0.length (nI R0.length), bp, bk, bv), rfl, ⟨by rw [if_neg (by rw [hc7]; decide), if_neg (by rw [hnw, hc50]; decide)]; first | rw [if_pos hc72] | rw [if_neg (by rw [hc72]; decide)], by rw [e1, e2, e3]; exact xs_C_stay rfl (by rw [hnw]; exact hp43) hcn (xs_one_st hC.2.2.1 _) hC.2.2.2⟩, by dsimp only; rw [htJ]; rw [e1, e2, e3, xs_now_add, hnw]; exact hP⟩, hS.F htJ⟩) hS.2.2 d_E_put_80
      · skip
        rw [xb_1] at hc72
        refine lv_iconst (v := nI 2) hx hb d_E_put_75 (by decide +kernel) ?_
        refine lv_goto (tgt := 80) hx hb d_E_put_76 (by decide) ?_
        exact W.iret (v := nI 2) hx hb hr (fun tJ htJ hWJ => ⟨⟨_, (kf2_43, kg2_43, af2_43, bf2_43, if 64 < R0.length + 1 then xw_mv (upd rk R0.length k) R0.length (R0.length + 1 - R0.length) else upd rk R0.length k, if 64 < R0.length + 1 then xw_mv (vp_updL rv R0.length (xk_get (xs_now B0 R0) k)) R0.length (R0.length + 1 - R0.length) else vp_updL rv R0.length (xk_get (xs_now B0 R0) k), if 64 < R0.length + 1 then xw_mv (upd rm R0.length (xw_fo (xk_has (xs_now B0 R0) k))) R0.length (R0.length + 1 - R0.length) else upd rm R0.length (xw_fo (xk_has (xs_now B0 R0) k)), if 64 < R0.length + 1 then xm_mb (upd rs R0.length (nI R0.length)) R0.length (R0.length + 1 - R0.length) else upd rs R0.length (nI R0.length), bp, bk, bv), rfl, ⟨by rw [if_neg (by rw [hc7]; decide), if_neg (by rw [hnw, hc50]; decide)]; first | rw [if_pos hc72] | rw [if_neg (by rw [hc72]; decide)], by rw [e1, e2, e3]; exact xs_C_stay rfl (by rw [hnw]; exact hp43) hcn (xs_one_st hC.2.2.1 _) hC.2.2.2⟩, by dsimp only; rw [htJ]; rw [e1, e2, e3, xs_now_add, hnw]; exact hP⟩, hS.F htJ⟩) hS.2.2 d_E_put_80
    · skip
      rw [xb_1] at hc50
      refine lv_aload_n hx hb d_E_put_53 rfl (lv_at hl 2 rfl) ?_
      refine lv_iload hx hb d_E_put_54 (lv_at hl 1 rfl) ?_
      refine xa_cMV (va_runV (As := [.int (nI R0.length)]) (rest := []) ⟨hx, hb, hml, hown, hts⟩ (c_E_tbf l D q cA (nI lm) kf2_43 kg2_43 af2_43 bf2_43 (upd rk R0.length k) (vp_updL rv R0.length (xk_get (xs_now B0 R0) k)) (upd rm R0.length (xw_fo (xk_has (xs_now B0 R0) k))) (upd rs R0.length (nI R0.length)) bp bk bv (xb_i bt) (nI ST.length) H.size (xs_S B0 (xs_new B0 R0 [((0, k, v) : xs_O)])) (R0.length + 1) R0.length hp43 (by omega) (by omega) (xs_one_U hok (Nat.zero_le _) hcn)) (cwV 1 hts (zg_V zm_228 zm_230 zs_7 zm_1 zm_231) rfl rfl rfl (by decide +kernel) ⟨Nat.le_of_ble_eq_true rfl, Nat.le_of_ble_eq_true rfl⟩) (xp_preVQ (ci := 0) (q0 := 0) hK hP hD rfl rfl rfl hZ) rfl rfl hl.1 rfl (lv_room (Nat.le_of_ble_eq_true rfl)) d_E_put_56 ⟨Nat.zero_le _, Nat.zero_le _⟩) hS (xa_F hD hS hA) (fun u H locs hp56 hP hS => ?_)
      obtain ⟨kf2_56, kg2_56, af2_56, bf2_56⟩ := u
      have hP : va_P D zz_cl (xw_C q cA (nI lm) kf2_56 kg2_56 (nI (xs_S B0 (xs_new B0 R0 [((0, k, v) : xs_O)]) R0.length).length) af2_56 bf2_56 (upd rk R0.length k) (vp_updL rv R0.length (xk_get (xs_now B0 R0) k)) (upd rm R0.length (xw_fo (xk_has (xs_now B0 R0) k))) (upd rs R0.length (nI R0.length)) (nI R0.length) bp bk bv (xb_i bt) (nI ST.length)) H := hP
      have hD : va_D A (xw_C q cA (nI lm) kf2_56 kg2_56 (nI (xs_S B0 (xs_new B0 R0 [((0, k, v) : xs_O)]) R0.length).length) af2_56 bf2_56 (upd rk R0.length k) (vp_updL rv R0.length (xk_get (xs_now B0 R0) k)) (upd rm R0.length (xw_fo (xk_has (xs_now B0 R0) k))) (upd rs R0.length (nI R0.length)) (nI R0.length) bp bk bv (xb_i bt) (nI ST.length)) := xa_E hD rfl
      have hp56 : xw_KT kf2_56 kg2_56 af2_56 bf2_56 (xs_S B0 (xs_new B0 R0 [((0, k, v) : xs_O)]) R0.length) := hp56
      have e1 : xs_pB lm B0 R0 bt [((0, k, v) : xs_O)] = B0 := by unfold xs_pB; rw [if_pos (Or.inr (by rw [hnw]; exact hc50))]
      have e2 : xs_pR lm B0 R0 bt [((0, k, v) : xs_O)] = R0 := by unfold xs_pR; rw [if_pos (Or.inr (by rw [hnw]; exact hc50))]
      have e3 : xs_pS bt ST ((0, k, v) : xs_O) = ST := xs_pS_no hc7 _ _
      rw [show nI (xs_S B0 (xs_new B0 R0 [((0, k, v) : xs_O)]) R0.length).length = nI (xs_now B0 R0).length from by rw [xs_now_new]] at hP hD
      refine lv_iconst (v := nI 0) hx hb d_E_put_59 (by decide +kernel) ?_
      exact W.iret (v := nI 0) hx hb hr (fun tJ htJ hWJ => ⟨⟨_, (kf2_56, kg2_56, af2_56, bf2_56, upd rk R0.length k, vp_updL rv R0.length (xk_get (xs_now B0 R0) k), upd rm R0.length (xw_fo (xk_has (xs_now B0 R0) k)), upd rs R0.length (nI R0.length), bp, bk, bv), rfl, ⟨by rw [if_neg (by rw [hc7]; decide), if_pos (by rw [hnw]; exact hc50)], by rw [e1, e2, e3]; exact xs_C_back hp56 hcn (by omega) (xs_st_keep hC.2.2.1 (fun j hj => pk_un (by omega))) hC.2.2.2⟩, by dsimp only; rw [htJ]; rw [e1, e2, e3]; exact hP⟩, hS.F htJ⟩) hS.2.2 d_E_put_60
  · skip
    rw [xb_1] at hc7
    refine lv_aload_n hx hb d_E_put_10 rfl (lv_at hl 0 rfl) ?_
    refine va_get (D := D) (ci := 0) (v := .ref (q 4)) (C := R_E) (T := F_E) (N := 4) hx hb hts (zi_E _) hown hK hP 0 rfl rfl 3 (by decide) (hts _ (List.mem_cons_of_mem _ zm_116)) (fun _ h9 => h9) rfl d_E_put_11 ?_
    refine lv_iconst (v := nI 1) hx hb d_E_put_14 (by decide +kernel) ?_
    refine xa_top (y := xb_i true) xb_t.symm ?_
    refine lv_iload_n hx hb d_E_put_15 rfl (lv_at hl 1 rfl) ?_
    refine lv_lload_n hx hb d_E_put_16 rfl (lv_at hl 2 rfl) ?_
    refine xa_cMI (va_runV (As := [.int (xb_i true), .int k, .long v]) (rest := []) ⟨hx, hb, hml, hown, hts⟩ (c_B_take l D q cA (nI lm) kf kg (nI (xs_now B0 R0).length) af bf rk rv rm rs (nI R0.length) bp bk bv (xb_i bt) s.heap.size ST.length true k v (by omega)) (cwV 3 hts (zg_V zm_130 zm_131 zm_132 zm_6 zm_133) rfl rfl rfl (by decide +kernel) ⟨Nat.le_of_ble_eq_true rfl, Nat.le_of_ble_eq_true rfl⟩) (xp_preVQ (ci := 4) (q0 := 4) hK hP hD rfl rfl rfl hZ) rfl rfl hl.1 rfl (lv_room (Nat.le_of_ble_eq_true rfl)) d_E_put_17 ⟨Nat.zero_le _, Nat.zero_le _⟩) hS (xa_F hD hS hA) (fun r u H locs hp17 hP hS => ?_)
    obtain ⟨rfl, hp17⟩ := hp17
    have hP : va_P D zz_cl (xw_C q cA (nI lm) kf kg (nI (xs_now B0 R0).length) af bf rk rv rm rs (nI R0.length) (if ST.length < 5 then upd bp ST.length (xb_i true) else bp) (if ST.length < 5 then upd bk ST.length k else bk) (if ST.length < 5 then vp_updL bv ST.length v else bv) (xb_i bt) (nI (if ST.length < 5 then ST.length + 1 else ST.length))) H := hP
    have hD : va_D A (xw_C q cA (nI lm) kf kg (nI (xs_now B0 R0).length) af bf rk rv rm rs (nI R0.length) (if ST.length < 5 then upd bp ST.length (xb_i true) else bp) (if ST.length < 5 then upd bk ST.length k else bk) (if ST.length < 5 then vp_updL bv ST.length v else bv) (xb_i bt) (nI (if ST.length < 5 then ST.length + 1 else ST.length))) := xa_E hD rfl
    have e1 : xs_pB lm B0 R0 bt [((0, k, v) : xs_O)] = B0 := by unfold xs_pB; rw [if_pos (Or.inl hc7)]
    have e2 : xs_pR lm B0 R0 bt [((0, k, v) : xs_O)] = R0 := by unfold xs_pR; rw [if_pos (Or.inl hc7)]
    exact W.iret (v := if ST.length < 5 then nI 3 else nI 0) hx hb hr (fun tJ htJ hWJ => ⟨⟨_, (kf, kg, af, bf, rk, rv, rm, rs, if ST.length < 5 then upd bp ST.length (xb_i true) else bp, if ST.length < 5 then upd bk ST.length k else bk, if ST.length < 5 then vp_updL bv ST.length v else bv), rfl, ⟨by rw [if_pos hc7], by rw [e1, e2]; exact xs_C_take hC hc7 (Nat.zero_le _) rfl rfl rfl⟩, by dsimp only; rw [htJ]; rw [e1, e2, xs_pS_len hc7]; exact hP⟩, hS.F htJ⟩) hS.2.2 d_E_put_20
set_option maxHeartbeats 4000000 in
set_option maxRecDepth 100000 in
theorem c_E_del (l : Launch) (D : va_G) (q : Nat → Nat) (cA : Nat → ClassId) (kf : Nat → Int32) (kg : Nat → Int64) (af : Nat → Int32) (bf : Nat → Int32) (rk : Nat → Int32) (rv : Nat → Int64) (rm : Nat → Int32) (rs : Nat → Int32) (bp : Nat → Int32) (bk : Nat → Int32) (bv : Nat → Int64) (sz : Nat) (lm : Nat) (B0 : List xk_E) (R0 : List xs_R) (bt : Bool) (ST : List xs_O) (k : Int32) (hC : xs_CT B0 R0 ST kf kg af bf rk rv rm rs bp bk bv) (hok : xs_ok lm B0 R0) (hlm : lm ≤ 200) (hst : ST.length ≤ 5) : Met l y_E_delete zw_E_delete ({ frames := 4, cells := 0, slots := 0, locals := 103 } : Room) (va_Pc [.ref (q 0), .int k] (xp_Q D zz_cl (xw_tC cA) sz (xw_C q cA (nI lm) kf kg (nI (xs_now B0 R0).length) af bf rk rv rm rs (nI R0.length) bp bk bv (xb_i bt) (nI ST.length)))) (va_Qi (fun (r : Int32) (u : (Nat → Int32) × (Nat → Int64) × (Nat → Int32) × (Nat → Int32) × (Nat → Int32) × (Nat → Int64) × (Nat → Int32) × (Nat → Int32) × (Nat → Int32) × (Nat → Int32) × (Nat → Int64)) => r = (if bt = true then (if ST.length < 5 then nI 3 else nI 0) else if xk_has (xs_now B0 R0) k = true then nI 1 else nI 0) ∧ (xs_CT (xs_dB B0 R0 bt k) (xs_dR B0 R0 bt k) (xs_pS bt ST ((1, k, 0) : xs_O)) u.1 u.2.1 u.2.2.1 u.2.2.2.1 u.2.2.2.2.1 u.2.2.2.2.2.1 u.2.2.2.2.2.2.1 u.2.2.2.2.2.2.2.1 u.2.2.2.2.2.2.2.2.1 u.2.2.2.2.2.2.2.2.2.1 u.2.2.2.2.2.2.2.2.2.2)) (fun (u : (Nat → Int32) × (Nat → Int64) × (Nat → Int32) × (Nat → Int32) × (Nat → Int32) × (Nat → Int64) × (Nat → Int32) × (Nat → Int32) × (Nat → Int32) × (Nat → Int32) × (Nat → Int64)) (t : State) => va_P D zz_cl (xw_C q cA (nI lm) u.1 u.2.1 (nI (xs_now (xs_dB B0 R0 bt k) (xs_dR B0 R0 bt k)).length) u.2.2.1 u.2.2.2.1 u.2.2.2.2.1 u.2.2.2.2.2.1 u.2.2.2.2.2.2.1 u.2.2.2.2.2.2.2.1 (nI (xs_dR B0 R0 bt k).length) u.2.2.2.2.2.2.2.2.1 u.2.2.2.2.2.2.2.2.2.1 u.2.2.2.2.2.2.2.2.2.2 (xb_i bt) (nI (xs_pS bt ST ((1, k, 0) : xs_O)).length)) t.heap) (va_A (xw_C q cA (nI lm) kf kg (nI (xs_now B0 R0).length) af bf rk rv rm rs (nI R0.length) bp bk bv (xb_i bt) (nI ST.length)) sz)) 0 0 (va_A (xw_C q cA (nI lm) kf kg (nI (xs_now B0 R0).length) af bf rk rv rm rs (nI R0.length) bp bk bv (xb_i bt) (nI ST.length)) sz) := by
  refine Met.ofW (cc := b_E_delete) (maxL := 3) (ret := (some .int)) (by decide) rfl ?_
  intro pJ eJ s mJ args below meth cJ s₁ B hml hv
  obtain ⟨rfl, hsz, hP, hK, hD0, hZ⟩ := hv
  have hx := B.exec
  have hb := B.bytes
  have hr := B.returns
  have hts := atoms_spec (ws := zw_E_delete) B.pre
  have hown : s.vm.findClass R_E = some mJ.cls := findClass_of_methodNamed B.named
  have hlocks := B.notSynchronized
  subst hsz
  have hD := hD0.self (sz := s.heap.size)
  generalize hAe : va_A (xw_C q cA (nI lm) kf kg (nI (xs_now B0 R0).length) af bf rk rv rm rs (nI R0.length) bp bk bv (xb_i bt) (nI ST.length)) s.heap.size = A at hD ⊢
  have hA : ∀ q : Nat, s.heap.size ≤ q → A q := fun q h => by rw [← hAe]; exact Or.inr h
  have hS : va_S A s.heap s.heap [] := va_S.rf
  have hl := lv_entry ([.ref (q 0), .int k]) (n := 3) (Nat.le_of_ble_eq_true rfl)
  rw [lg_entry_eq]
  generalize (lg_sl ([.ref (q 0), .int k]) ++ List.replicate (3 - (lg_sl ([.ref (q 0), .int k])).length) Slot.unset).toArray = ls at hl ⊢
  have hl : lv_has ls 3 [(0, .ref (q 0)), (1, .int k)] := hl
  have h60 : (xs_now B0 R0).length ≤ 60 := hok.2.2.2.2.2.1
  have h64 := hok.2.2.1
  refine lv_aload_n hx hb d_E_delete_0 rfl (lv_at hl 0 rfl) ?_
  refine va_get (D := D) (ci := 0) (v := .ref (q 4)) (C := R_E) (T := F_E) (N := 4) hx hb hts (zi_E _) hown hK hP 0 rfl rfl 3 (by decide) (hts _ (List.mem_cons_of_mem _ zm_116)) (fun _ h9 => h9) rfl d_E_delete_1 ?_
  refine va_getN (D := D) (ci := 4) (v := .int (xb_i bt)) (C := R_B) (T := F_B) (N := 5) hx hb hts (zi_B _) hown hK hP 4 rfl rfl 3 (by decide) (va_Nw.use rfl (hZ _ zn_98)) (fun _ h9 => h9) rfl d_E_delete_4 ?_
  refine lv_if_eq (tgt := 21) hx hb d_E_delete_7 (by decide) (fun hc7 => ?_) (fun hc7 => ?_)
  · skip
    rw [xb_0] at hc7
    refine lv_aload_n hx hb d_E_delete_21 rfl (lv_at hl 0 rfl) ?_
    refine va_get (D := D) (ci := 0) (v := .ref (q 1)) (C := R_E) (T := F_E) (N := 4) hx hb hts (zi_E _) hown hK hP 0 rfl rfl 1 (by decide) (hts _ (List.mem_cons_of_mem _ zm_114)) (fun _ h9 => h9) rfl d_E_delete_22 ?_
    refine lv_iload_n hx hb d_E_delete_25 rfl (lv_at hl 1 rfl) ?_
    refine xa_cI (va_runV (As := [.int k]) (rest := []) ⟨hx, hb, hml, hown, hts⟩ (c_K_holds l D q cA (nI lm) kf kg af bf rk rv rm rs (nI R0.length) bp bk bv (xb_i bt) (nI ST.length) (xs_now B0 R0) k hC.1) (cwV 1 hts (zg_V zm_134 zm_135 zm_136 zm_3 zm_137) rfl rfl rfl (by decide +kernel) ⟨Nat.le_of_ble_eq_true rfl, Nat.le_of_ble_eq_true rfl⟩) (xp_preV (ci := 1) (q0 := 1) hK hP rfl rfl rfl hZ) rfl rfl hl.1 rfl (lv_room (Nat.le_of_ble_eq_true rfl)) d_E_delete_26 ⟨Nat.zero_le _, Nat.zero_le _⟩) ?_
    refine lv_if_ne (tgt := 34) hx hb d_E_delete_29 (by decide) (fun hc29 => ?_) (fun hc29 => ?_)
    · skip
      rw [xb_1] at hc29
      refine lv_aload_n hx hb d_E_delete_34 rfl (lv_at hl 0 rfl) ?_
      refine va_get (D := D) (ci := 0) (v := .ref (q 3)) (C := R_E) (T := F_E) (N := 4) hx hb hts (zi_E _) hown hK hP 0 rfl rfl 2 (by decide) (hts _ (List.mem_cons_of_mem _ zm_115)) (fun _ h9 => h9) rfl d_E_delete_35 ?_
      refine va_getN (D := D) (ci := 3) (v := .int (nI R0.length)) (C := R_R) (T := F_R) (N := 5) hx hb hts (zi_R _) hown hK hP 3 rfl rfl 4 (by decide) (va_Nw.use rfl (hZ _ zn_72)) (fun _ h9 => h9) rfl d_E_delete_38 ?_
      refine lv_istore_n (lv' := [(2, .int (nI R0.length)), (0, .ref (q 0)), (1, .int k)]) hx hb d_E_delete_41 rfl hl (Nat.le_of_ble_eq_true rfl) rfl (fun ls hl => ?_)
      refine lv_aload_n hx hb d_E_delete_42 rfl (lv_at hl 1 rfl) ?_
      refine lv_iload_n hx hb d_E_delete_43 rfl (lv_at hl 2 rfl) ?_
      refine xa_cMV (va_runV (As := [.int k]) (rest := []) ⟨hx, hb, hml, hown, hts⟩ (c_E_rar l D q cA (nI lm) kf kg af bf rk rv rm rs bp bk bv (xb_i bt) (nI ST.length) s.heap.size (xs_now B0 R0) R0.length k hC.1 (by omega)) (cwV 1 hts (zg_V zm_249 zm_251 zs_8 zm_1 zm_252) rfl rfl rfl (by decide +kernel) ⟨Nat.le_of_ble_eq_true rfl, Nat.le_of_ble_eq_true rfl⟩) (xp_preVQ (ci := 0) (q0 := 0) hK hP hD rfl rfl rfl hZ) rfl rfl hl.1 rfl (lv_room (Nat.le_of_ble_eq_true rfl)) d_E_delete_44 ⟨Nat.zero_le _, Nat.zero_le _⟩) hS (xa_F hD hS hA) (fun u H locs hp44 hP hS => ?_)
      obtain ⟨kf2_44, kg2_44, af2_44, bf2_44⟩ := u
      have hP : va_P D zz_cl (xw_C q cA (nI lm) kf2_44 kg2_44 (nI (xk_rem (xs_now B0 R0) k).length) af2_44 bf2_44 (upd rk R0.length k) (vp_updL rv R0.length (xk_get (xs_now B0 R0) k)) (upd rm R0.length (xw_fo (xk_has (xs_now B0 R0) k))) (upd rs R0.length (nI R0.length)) (nI (R0.length + 1)) bp bk bv (xb_i bt) (nI ST.length)) H := hP
      have hD : va_D A (xw_C q cA (nI lm) kf2_44 kg2_44 (nI (xk_rem (xs_now B0 R0) k).length) af2_44 bf2_44 (upd rk R0.length k) (vp_updL rv R0.length (xk_get (xs_now B0 R0) k)) (upd rm R0.length (xw_fo (xk_has (xs_now B0 R0) k))) (upd rs R0.length (nI R0.length)) (nI (R0.length + 1)) bp bk bv (xb_i bt) (nI ST.length)) := xa_E hD rfl
      have hp44 : xw_KT kf2_44 kg2_44 af2_44 bf2_44 (xk_rem (xs_now B0 R0) k) := hp44
      have hsn : xs_S B0 (xs_new B0 R0 [((1, k, 0) : xs_O)]) (R0.length + 1) = xk_rem (xs_now B0 R0) k := by rw [xs_one_S]; rfl
      rw [← hsn] at hp44
      have hcn := xs_one_cn hC.2.1 (o := ((1, k, 0) : xs_O)) (Nat.le_refl _) (k := k) rfl
      have hnw := xs_one_now B0 R0 ((1, k, 0) : xs_O)
      rw [show nI (xk_rem (xs_now B0 R0) k).length = nI (xs_S B0 (xs_new B0 R0 [((1, k, 0) : xs_O)]) (R0.length + 1)).length from by rw [hsn]] at hP hD
      refine lv_aload_n hx hb d_E_delete_47 rfl (lv_at hl 1 rfl) ?_
      refine va_get (D := D) (ci := 0) (v := .ref (q 3)) (C := R_E) (T := F_E) (N := 4) hx hb hts (zi_E _) hown hK hP 0 rfl rfl 2 (by decide) (hts _ (List.mem_cons_of_mem _ zm_115)) (fun _ h9 => h9) rfl d_E_delete_48 ?_
      refine lv_iload_n hx hb d_E_delete_51 rfl (lv_at hl 0 rfl) ?_
      refine xa_cMV (va_runV (As := [.int (nI R0.length)]) (rest := []) ⟨hx, hb, hml, hown, hts⟩ (c_R_settle l D q cA (nI lm) kf2_44 kg2_44 (nI (xs_S B0 (xs_new B0 R0 [((1, k, 0) : xs_O)]) (R0.length + 1)).length) af2_44 bf2_44 (upd rk R0.length k) (vp_updL rv R0.length (xk_get (xs_now B0 R0) k)) (upd rm R0.length (xw_fo (xk_has (xs_now B0 R0) k))) (upd rs R0.length (nI R0.length)) bp bk bv (xb_i bt) (nI ST.length) H.size (R0.length + 1) R0.length (by omega) (by omega)) (cwV 1 hts (zg_V zm_241 zm_242 zm_243 zm_5 zm_244) rfl rfl rfl (by decide +kernel) ⟨Nat.le_of_ble_eq_true rfl, Nat.le_of_ble_eq_true rfl⟩) (xp_preVQ (ci := 3) (q0 := 3) hK hP hD rfl rfl rfl hZ) rfl rfl hl.1 rfl (lv_room (Nat.le_of_ble_eq_true rfl)) d_E_delete_52 ⟨Nat.zero_le _, Nat.zero_le _⟩) hS (xa_F hD hS hA) (fun u H locs hp52 hP hS => ?_)
      have hP : va_P D zz_cl (xw_C q cA (nI lm) kf2_44 kg2_44 (nI (xs_S B0 (xs_new B0 R0 [((1, k, 0) : xs_O)]) (R0.length + 1)).length) af2_44 bf2_44 (if 64 < R0.length + 1 then xw_mv (upd rk R0.length k) R0.length (R0.length + 1 - R0.length) else upd rk R0.length k) (if 64 < R0.length + 1 then xw_mv (vp_updL rv R0.length (xk_get (xs_now B0 R0) k)) R0.length (R0.length + 1 - R0.length) else vp_updL rv R0.length (xk_get (xs_now B0 R0) k)) (if 64 < R0.length + 1 then xw_mv (upd rm R0.length (xw_fo (xk_has (xs_now B0 R0) k))) R0.length (R0.length + 1 - R0.length) else upd rm R0.length (xw_fo (xk_has (xs_now B0 R0) k))) (if 64 < R0.length + 1 then xm_mb (upd rs R0.length (nI R0.length)) R0.length (R0.length + 1 - R0.length) else upd rs R0.length (nI R0.length)) (nI (if 64 < R0.length + 1 then (R0.length + 1 - R0.length) else R0.length + 1)) bp bk bv (xb_i bt) (nI ST.length)) H := hP
      have hD : va_D A (xw_C q cA (nI lm) kf2_44 kg2_44 (nI (xs_S B0 (xs_new B0 R0 [((1, k, 0) : xs_O)]) (R0.length + 1)).length) af2_44 bf2_44 (if 64 < R0.length + 1 then xw_mv (upd rk R0.length k) R0.length (R0.length + 1 - R0.length) else upd rk R0.length k) (if 64 < R0.length + 1 then xw_mv (vp_updL rv R0.length (xk_get (xs_now B0 R0) k)) R0.length (R0.length + 1 - R0.length) else vp_updL rv R0.length (xk_get (xs_now B0 R0) k)) (if 64 < R0.length + 1 then xw_mv (upd rm R0.length (xw_fo (xk_has (xs_now B0 R0) k))) R0.length (R0.length + 1 - R0.length) else upd rm R0.length (xw_fo (xk_has (xs_now B0 R0) k))) (if 64 < R0.length + 1 then xm_mb (upd rs R0.length (nI R0.length)) R0.length (R0.length + 1 - R0.length) else upd rs R0.length (nI R0.length)) (nI (if 64 < R0.length + 1 then (R0.length + 1 - R0.length) else R0.length + 1)) bp bk bv (xb_i bt) (nI ST.length)) := xa_E hD rfl
      have e0 : ¬ (bt = true ∨ xk_has (xs_now B0 R0) k = false) := by rw [hc7, hc29]; decide
      have e1 : xs_dB B0 R0 bt k = xs_B B0 R0 [((1, k, 0) : xs_O)] := by unfold xs_dB; rw [if_neg e0]
      have e2 : xs_dR B0 R0 bt k = xs_Q B0 R0 [((1, k, 0) : xs_O)] := by unfold xs_dR; rw [if_neg e0]
      have e3 : xs_pS bt ST ((1, k, 0) : xs_O) = ST := xs_pS_no hc7 _ _
      rw [show nI (if 64 < R0.length + 1 then (R0.length + 1 - R0.length) else R0.length + 1) = nI (xs_Q B0 R0 [((1, k, 0) : xs_O)]).length from congrArg nI (xs_Q_one B0 R0 ((1, k, 0) : xs_O))] at hP hD
      refine lv_iconst (v := nI 1) hx hb d_E_delete_55 (by decide +kernel) ?_
      exact W.iret (v := nI 1) hx hb hr (fun tJ htJ hWJ => ⟨⟨_, (kf2_44, kg2_44, af2_44, bf2_44, if 64 < R0.length + 1 then xw_mv (upd rk R0.length k) R0.length (R0.length + 1 - R0.length) else upd rk R0.length k, if 64 < R0.length + 1 then xw_mv (vp_updL rv R0.length (xk_get (xs_now B0 R0) k)) R0.length (R0.length + 1 - R0.length) else vp_updL rv R0.length (xk_get (xs_now B0 R0) k), if 64 < R0.length + 1 then xw_mv (upd rm R0.length (xw_fo (xk_has (xs_now B0 R0) k))) R0.length (R0.length + 1 - R0.length) else upd rm R0.length (xw_fo (xk_has (xs_now B0 R0) k)), if 64 < R0.length + 1 then xm_mb (upd rs R0.length (nI R0.length)) R0.length (R0.length + 1 - R0.length) else upd rs R0.length (nI R0.length), bp, bk, bv), rfl, ⟨by rw [if_neg (by rw [hc7]; decide), if_pos hc29], by rw [e1, e2, e3]; exact xs_C_stay rfl (by rw [hnw]; exact hp44) hcn (xs_one_st hC.2.2.1 _) hC.2.2.2⟩, by dsimp only; rw [htJ]; rw [e1, e2, e3, xs_now_add, hnw]; exact hP⟩, hS.F htJ⟩) hS.2.2 d_E_delete_56
    · skip
      rw [xb_0] at hc29
      have e1 : xs_dB B0 R0 bt k = B0 := by unfold xs_dB; rw [if_pos (Or.inr hc29)]
      have e2 : xs_dR B0 R0 bt k = R0 := by unfold xs_dR; rw [if_pos (Or.inr hc29)]
      have e3 : xs_pS bt ST ((1, k, 0) : xs_O) = ST := xs_pS_no hc7 _ _
      refine lv_iconst (v := nI 0) hx hb d_E_delete_32 (by decide +kernel) ?_
      exact W.iret (v := nI 0) hx hb hr (fun tJ htJ hWJ => ⟨⟨_, (kf, kg, af, bf, rk, rv, rm, rs, bp, bk, bv), rfl, ⟨by rw [if_neg (by rw [hc7]; decide), if_neg (by rw [hc29]; decide)], by rw [e1, e2, e3]; exact hC⟩, by dsimp only; rw [htJ]; rw [e1, e2, e3]; exact hP⟩, hS.F htJ⟩) hS.2.2 d_E_delete_33
  · skip
    rw [xb_1] at hc7
    refine lv_aload_n hx hb d_E_delete_10 rfl (lv_at hl 0 rfl) ?_
    refine va_get (D := D) (ci := 0) (v := .ref (q 4)) (C := R_E) (T := F_E) (N := 4) hx hb hts (zi_E _) hown hK hP 0 rfl rfl 3 (by decide) (hts _ (List.mem_cons_of_mem _ zm_116)) (fun _ h9 => h9) rfl d_E_delete_11 ?_
    refine lv_iconst (v := nI 0) hx hb d_E_delete_14 (by decide +kernel) ?_
    refine xa_top (y := xb_i false) xb_f.symm ?_
    refine lv_iload_n hx hb d_E_delete_15 rfl (lv_at hl 1 rfl) ?_
    refine lv_lconst (v := 0) hx hb d_E_delete_16 (by decide +kernel) ?_
    refine xa_cMI (va_runV (As := [.int (xb_i false), .int k, .long 0]) (rest := []) ⟨hx, hb, hml, hown, hts⟩ (c_B_take l D q cA (nI lm) kf kg (nI (xs_now B0 R0).length) af bf rk rv rm rs (nI R0.length) bp bk bv (xb_i bt) s.heap.size ST.length false k 0 (by omega)) (cwV 3 hts (zg_V zm_130 zm_131 zm_132 zm_6 zm_133) rfl rfl rfl (by decide +kernel) ⟨Nat.le_of_ble_eq_true rfl, Nat.le_of_ble_eq_true rfl⟩) (xp_preVQ (ci := 4) (q0 := 4) hK hP hD rfl rfl rfl hZ) rfl rfl hl.1 rfl (lv_room (Nat.le_of_ble_eq_true rfl)) d_E_delete_17 ⟨Nat.zero_le _, Nat.zero_le _⟩) hS (xa_F hD hS hA) (fun r u H locs hp17 hP hS => ?_)
    obtain ⟨rfl, hp17⟩ := hp17
    have hP : va_P D zz_cl (xw_C q cA (nI lm) kf kg (nI (xs_now B0 R0).length) af bf rk rv rm rs (nI R0.length) (if ST.length < 5 then upd bp ST.length (xb_i false) else bp) (if ST.length < 5 then upd bk ST.length k else bk) (if ST.length < 5 then vp_updL bv ST.length 0 else bv) (xb_i bt) (nI (if ST.length < 5 then ST.length + 1 else ST.length))) H := hP
    have hD : va_D A (xw_C q cA (nI lm) kf kg (nI (xs_now B0 R0).length) af bf rk rv rm rs (nI R0.length) (if ST.length < 5 then upd bp ST.length (xb_i false) else bp) (if ST.length < 5 then upd bk ST.length k else bk) (if ST.length < 5 then vp_updL bv ST.length 0 else bv) (xb_i bt) (nI (if ST.length < 5 then ST.length + 1 else ST.length))) := xa_E hD rfl
    have e1 : xs_dB B0 R0 bt k = B0 := by unfold xs_dB; rw [if_pos (Or.inl hc7)]
    have e2 : xs_dR B0 R0 bt k = R0 := by unfold xs_dR; rw [if_pos (Or.inl hc7)]
    exact W.iret (v := if ST.length < 5 then nI 3 else nI 0) hx hb hr (fun tJ htJ hWJ => ⟨⟨_, (kf, kg, af, bf, rk, rv, rm, rs, if ST.length < 5 then upd bp ST.length (xb_i false) else bp, if ST.length < 5 then upd bk ST.length k else bk, if ST.length < 5 then vp_updL bv ST.length 0 else bv), rfl, ⟨by rw [if_pos hc7], by rw [e1, e2]; exact xs_C_take hC hc7 (Nat.le_refl _) rfl rfl rfl⟩, by dsimp only; rw [htJ]; rw [e1, e2, xs_pS_len hc7]; exact hP⟩, hS.F htJ⟩) hS.2.2 d_E_delete_20
set_option maxHeartbeats 4000000 in
set_option maxRecDepth 100000 in
theorem c_E_open (l : Launch) (D : va_G) (q : Nat → Nat) (cA : Nat → ClassId) (kf : Nat → Int32) (kg : Nat → Int64) (af : Nat → Int32) (bf : Nat → Int32) (rk : Nat → Int32) (rv : Nat → Int64) (rm : Nat → Int32) (rs : Nat → Int32) (bp : Nat → Int32) (bk : Nat → Int32) (bv : Nat → Int64) (sz : Nat) (lm : Nat) (B0 : List xk_E) (R0 : List xs_R) (bt : Bool) (ST : List xs_O) (hC : xs_CT B0 R0 ST kf kg af bf rk rv rm rs bp bk bv) (hok : xs_ok lm B0 R0) (hlm : lm ≤ 200) (hst : ST.length ≤ 5) : Met l y_E_open zw_E_open ({ frames := 1, cells := 0, slots := 0, locals := 20 } : Room) (va_Pc [.ref (q 0)] (xp_Q D zz_cl (xw_tC cA) sz (xw_C q cA (nI lm) kf kg (nI (xs_now B0 R0).length) af bf rk rv rm rs (nI R0.length) bp bk bv (xb_i bt) (nI ST.length)))) (va_Qi (fun (r : Int32) (u : (Nat → Int32) × (Nat → Int64) × (Nat → Int32) × (Nat → Int32) × (Nat → Int32) × (Nat → Int64) × (Nat → Int32) × (Nat → Int32) × (Nat → Int32) × (Nat → Int32) × (Nat → Int64)) => r = (xb_i (!bt)) ∧ (xs_CT B0 R0 (if bt = true then ST else []) u.1 u.2.1 u.2.2.1 u.2.2.2.1 u.2.2.2.2.1 u.2.2.2.2.2.1 u.2.2.2.2.2.2.1 u.2.2.2.2.2.2.2.1 u.2.2.2.2.2.2.2.2.1 u.2.2.2.2.2.2.2.2.2.1 u.2.2.2.2.2.2.2.2.2.2)) (fun (u : (Nat → Int32) × (Nat → Int64) × (Nat → Int32) × (Nat → Int32) × (Nat → Int32) × (Nat → Int64) × (Nat → Int32) × (Nat → Int32) × (Nat → Int32) × (Nat → Int32) × (Nat → Int64)) (t : State) => va_P D zz_cl (xw_C q cA (nI lm) u.1 u.2.1 (nI (xs_now B0 R0).length) u.2.2.1 u.2.2.2.1 u.2.2.2.2.1 u.2.2.2.2.2.1 u.2.2.2.2.2.2.1 u.2.2.2.2.2.2.2.1 (nI (R0).length) u.2.2.2.2.2.2.2.2.1 u.2.2.2.2.2.2.2.2.2.1 u.2.2.2.2.2.2.2.2.2.2 (xb_i true) (nI (if bt = true then ST else []).length)) t.heap) (va_A (xw_C q cA (nI lm) kf kg (nI (xs_now B0 R0).length) af bf rk rv rm rs (nI R0.length) bp bk bv (xb_i bt) (nI ST.length)) sz)) 0 0 (va_A (xw_C q cA (nI lm) kf kg (nI (xs_now B0 R0).length) af bf rk rv rm rs (nI R0.length) bp bk bv (xb_i bt) (nI ST.length)) sz) := by
  refine Met.ofW (cc := b_E_open) (maxL := 1) (ret := (some .boolean)) (by decide) rfl ?_
  intro pJ eJ s mJ args below meth cJ s₁ B hml hv
  obtain ⟨rfl, hsz, hP, hK, hD0, hZ⟩ := hv
  have hx := B.exec
  have hb := B.bytes
  have hr := B.returns
  have hts := atoms_spec (ws := zw_E_open) B.pre
  have hown : s.vm.findClass R_E = some mJ.cls := findClass_of_methodNamed B.named
  have hlocks := B.notSynchronized
  subst hsz
  have hD := hD0.self (sz := s.heap.size)
  generalize hAe : va_A (xw_C q cA (nI lm) kf kg (nI (xs_now B0 R0).length) af bf rk rv rm rs (nI R0.length) bp bk bv (xb_i bt) (nI ST.length)) s.heap.size = A at hD ⊢
  have hA : ∀ q : Nat, s.heap.size ≤ q → A q := fun q h => by rw [← hAe]; exact Or.inr h
  have hS : va_S A s.heap s.heap [] := va_S.rf
  have hl := lv_entry ([.ref (q 0)]) (n := 1) (Nat.le_of_ble_eq_true rfl)
  rw [lg_entry_eq]
  generalize (lg_sl ([.ref (q 0)]) ++ List.replicate (1 - (lg_sl ([.ref (q 0)])).length) Slot.unset).toArray = ls at hl ⊢
  have hl : lv_has ls 1 [(0, .ref (q 0))] := hl
  have h60 : (xs_now B0 R0).length ≤ 60 := hok.2.2.2.2.2.1
  have h64 := hok.2.2.1
  refine lv_aload_n hx hb d_E_open_0 rfl (lv_at hl 0 rfl) ?_
  refine va_get (D := D) (ci := 0) (v := .ref (q 4)) (C := R_E) (T := F_E) (N := 4) hx hb hts (zi_E _) hown hK hP 0 rfl rfl 3 (by decide) (hts _ (List.mem_cons_of_mem _ zm_116)) (fun _ h9 => h9) rfl d_E_open_1 ?_
  refine va_getN (D := D) (ci := 4) (v := .int (xb_i bt)) (C := R_B) (T := F_B) (N := 5) hx hb hts (zi_B _) hown hK hP 4 rfl rfl 3 (by decide) (va_Nw.use rfl (hZ _ zn_98)) (fun _ h9 => h9) rfl d_E_open_4 ?_
  refine lv_if_eq (tgt := 12) hx hb d_E_open_7 (by decide) (fun hc7 => ?_) (fun hc7 => ?_)
  · skip
    rw [xb_0] at hc7
    refine lv_aload_n hx hb d_E_open_12 rfl (lv_at hl 0 rfl) ?_
    refine va_get (D := D) (ci := 0) (v := .ref (q 4)) (C := R_E) (T := F_E) (N := 4) hx hb hts (zi_E _) hown hK hP 0 rfl rfl 3 (by decide) (hts _ (List.mem_cons_of_mem _ zm_116)) (fun _ h9 => h9) rfl d_E_open_13 ?_
    refine xa_cMV (va_runV (As := []) (rest := []) ⟨hx, hb, hml, hown, hts⟩ (c_B_begin l D q cA (nI lm) kf kg (nI (xs_now B0 R0).length) af bf rk rv rm rs (nI R0.length) bp bk bv (xb_i bt) (nI ST.length) s.heap.size) (cwV 0 hts (zg_V zm_277 zm_278 zm_279 zm_6 zm_280) rfl rfl rfl (by decide +kernel) ⟨Nat.le_of_ble_eq_true rfl, Nat.le_of_ble_eq_true rfl⟩) (xp_preVQ (ci := 4) (q0 := 4) hK hP hD rfl rfl rfl hZ) rfl rfl hl.1 rfl (lv_room (Nat.le_of_ble_eq_true rfl)) d_E_open_16 ⟨Nat.zero_le _, Nat.zero_le _⟩) hS (xa_F hD hS hA) (fun u H locs hp16 hP hS => ?_)
    have hP : va_P D zz_cl (xw_C q cA (nI lm) kf kg (nI (xs_now B0 R0).length) af bf rk rv rm rs (nI R0.length) bp bk bv (xb_i true) (nI 0)) H := hP
    have hD : va_D A (xw_C q cA (nI lm) kf kg (nI (xs_now B0 R0).length) af bf rk rv rm rs (nI R0.length) bp bk bv (xb_i true) (nI 0)) := xa_E hD rfl
    refine lv_iconst (v := nI 1) hx hb d_E_open_19 (by decide +kernel) ?_
    exact W.zret (ty := .boolean) (v := nI 1) hx hb hr (by decide +kernel) (fun tJ htJ hWJ => ⟨⟨_, (kf, kg, af, bf, rk, rv, rm, rs, bp, bk, bv), rfl, ⟨by rw [hc7]; rfl, by rw [if_neg (by rw [hc7]; decide)]; exact ⟨hC.1, hC.2.1, hC.2.2.1, xs_bt_nil _ _ _⟩⟩, by dsimp only; rw [htJ]; rw [if_neg (by rw [hc7]; decide)]; exact hP⟩, hS.F htJ⟩) hS.2.2 d_E_open_20
  · skip
    rw [xb_1] at hc7
    refine lv_iconst (v := nI 0) hx hb d_E_open_10 (by decide +kernel) ?_
    exact W.zret (ty := .boolean) (v := nI 0) hx hb hr (by decide +kernel) (fun tJ htJ hWJ => ⟨⟨_, (kf, kg, af, bf, rk, rv, rm, rs, bp, bk, bv), rfl, ⟨by rw [hc7]; rfl, by rw [if_pos hc7]; exact hC⟩, by dsimp only; rw [htJ]; rw [if_pos hc7, ← hc7]; exact hP⟩, hS.F htJ⟩) hS.2.2 d_E_open_11
set_option maxHeartbeats 4000000 in
set_option maxRecDepth 100000 in
theorem c_E_aban (l : Launch) (D : va_G) (q : Nat → Nat) (cA : Nat → ClassId) (kf : Nat → Int32) (kg : Nat → Int64) (af : Nat → Int32) (bf : Nat → Int32) (rk : Nat → Int32) (rv : Nat → Int64) (rm : Nat → Int32) (rs : Nat → Int32) (bp : Nat → Int32) (bk : Nat → Int32) (bv : Nat → Int64) (sz : Nat) (lm : Nat) (B0 : List xk_E) (R0 : List xs_R) (bt : Bool) (ST : List xs_O) (hC : xs_CT B0 R0 ST kf kg af bf rk rv rm rs bp bk bv) (hok : xs_ok lm B0 R0) (hlm : lm ≤ 200) (hst : ST.length ≤ 5) : Met l y_E_abandon zw_E_abandon ({ frames := 1, cells := 0, slots := 0, locals := 20 } : Room) (va_Pc [.ref (q 0)] (xp_Q D zz_cl (xw_tC cA) sz (xw_C q cA (nI lm) kf kg (nI (xs_now B0 R0).length) af bf rk rv rm rs (nI R0.length) bp bk bv (xb_i bt) (nI ST.length)))) (va_Qi (fun (r : Int32) (u : (Nat → Int32) × (Nat → Int64) × (Nat → Int32) × (Nat → Int32) × (Nat → Int32) × (Nat → Int64) × (Nat → Int32) × (Nat → Int32) × (Nat → Int32) × (Nat → Int32) × (Nat → Int64)) => r = (if bt = true then nI ST.length else (-1)) ∧ (xs_CT B0 R0 (if bt = true then [] else ST) u.1 u.2.1 u.2.2.1 u.2.2.2.1 u.2.2.2.2.1 u.2.2.2.2.2.1 u.2.2.2.2.2.2.1 u.2.2.2.2.2.2.2.1 u.2.2.2.2.2.2.2.2.1 u.2.2.2.2.2.2.2.2.2.1 u.2.2.2.2.2.2.2.2.2.2)) (fun (u : (Nat → Int32) × (Nat → Int64) × (Nat → Int32) × (Nat → Int32) × (Nat → Int32) × (Nat → Int64) × (Nat → Int32) × (Nat → Int32) × (Nat → Int32) × (Nat → Int32) × (Nat → Int64)) (t : State) => va_P D zz_cl (xw_C q cA (nI lm) u.1 u.2.1 (nI (xs_now B0 R0).length) u.2.2.1 u.2.2.2.1 u.2.2.2.2.1 u.2.2.2.2.2.1 u.2.2.2.2.2.2.1 u.2.2.2.2.2.2.2.1 (nI (R0).length) u.2.2.2.2.2.2.2.2.1 u.2.2.2.2.2.2.2.2.2.1 u.2.2.2.2.2.2.2.2.2.2 (xb_i false) (nI (if bt = true then [] else ST).length)) t.heap) (va_A (xw_C q cA (nI lm) kf kg (nI (xs_now B0 R0).length) af bf rk rv rm rs (nI R0.length) bp bk bv (xb_i bt) (nI ST.length)) sz)) 0 0 (va_A (xw_C q cA (nI lm) kf kg (nI (xs_now B0 R0).length) af bf rk rv rm rs (nI R0.length) bp bk bv (xb_i bt) (nI ST.length)) sz) := by
  refine Met.ofW (cc := b_E_abandon) (maxL := 2) (ret := (some .int)) (by decide) rfl ?_
  intro pJ eJ s mJ args below meth cJ s₁ B hml hv
  obtain ⟨rfl, hsz, hP, hK, hD0, hZ⟩ := hv
  have hx := B.exec
  have hb := B.bytes
  have hr := B.returns
  have hts := atoms_spec (ws := zw_E_abandon) B.pre
  have hown : s.vm.findClass R_E = some mJ.cls := findClass_of_methodNamed B.named
  have hlocks := B.notSynchronized
  subst hsz
  have hD := hD0.self (sz := s.heap.size)
  generalize hAe : va_A (xw_C q cA (nI lm) kf kg (nI (xs_now B0 R0).length) af bf rk rv rm rs (nI R0.length) bp bk bv (xb_i bt) (nI ST.length)) s.heap.size = A at hD ⊢
  have hA : ∀ q : Nat, s.heap.size ≤ q → A q := fun q h => by rw [← hAe]; exact Or.inr h
  have hS : va_S A s.heap s.heap [] := va_S.rf
  have hl := lv_entry ([.ref (q 0)]) (n := 2) (Nat.le_of_ble_eq_true rfl)
  rw [lg_entry_eq]
  generalize (lg_sl ([.ref (q 0)]) ++ List.replicate (2 - (lg_sl ([.ref (q 0)])).length) Slot.unset).toArray = ls at hl ⊢
  have hl : lv_has ls 2 [(0, .ref (q 0))] := hl
  have h60 : (xs_now B0 R0).length ≤ 60 := hok.2.2.2.2.2.1
  have h64 := hok.2.2.1
  refine lv_aload_n hx hb d_E_abandon_0 rfl (lv_at hl 0 rfl) ?_
  refine va_get (D := D) (ci := 0) (v := .ref (q 4)) (C := R_E) (T := F_E) (N := 4) hx hb hts (zi_E _) hown hK hP 0 rfl rfl 3 (by decide) (hts _ (List.mem_cons_of_mem _ zm_116)) (fun _ h9 => h9) rfl d_E_abandon_1 ?_
  refine va_getN (D := D) (ci := 4) (v := .int (xb_i bt)) (C := R_B) (T := F_B) (N := 5) hx hb hts (zi_B _) hown hK hP 4 rfl rfl 3 (by decide) (va_Nw.use rfl (hZ _ zn_98)) (fun _ h9 => h9) rfl d_E_abandon_4 ?_
  refine lv_if_ne (tgt := 12) hx hb d_E_abandon_7 (by decide) (fun hc7 => ?_) (fun hc7 => ?_)
  · skip
    rw [xb_1] at hc7
    refine lv_aload_n hx hb d_E_abandon_12 rfl (lv_at hl 0 rfl) ?_
    refine va_get (D := D) (ci := 0) (v := .ref (q 4)) (C := R_E) (T := F_E) (N := 4) hx hb hts (zi_E _) hown hK hP 0 rfl rfl 3 (by decide) (hts _ (List.mem_cons_of_mem _ zm_116)) (fun _ h9 => h9) rfl d_E_abandon_13 ?_
    refine va_getN (D := D) (ci := 4) (v := .int (nI ST.length)) (C := R_B) (T := F_B) (N := 5) hx hb hts (zi_B _) hown hK hP 4 rfl rfl 4 (by decide) (va_Nw.use rfl (hZ _ zn_100)) (fun _ h9 => h9) rfl d_E_abandon_16 ?_
    refine lv_istore_n (lv' := [(1, .int (nI ST.length)), (0, .ref (q 0))]) hx hb d_E_abandon_19 rfl hl (Nat.le_of_ble_eq_true rfl) rfl (fun ls hl => ?_)
    refine lv_aload_n hx hb d_E_abandon_20 rfl (lv_at hl 1 rfl) ?_
    refine va_get (D := D) (ci := 0) (v := .ref (q 4)) (C := R_E) (T := F_E) (N := 4) hx hb hts (zi_E _) hown hK hP 0 rfl rfl 3 (by decide) (hts _ (List.mem_cons_of_mem _ zm_116)) (fun _ h9 => h9) rfl d_E_abandon_21 ?_
    refine xa_cMV (va_runV (As := []) (rest := []) ⟨hx, hb, hml, hown, hts⟩ (c_B_end l D q cA (nI lm) kf kg (nI (xs_now B0 R0).length) af bf rk rv rm rs (nI R0.length) bp bk bv (xb_i bt) (nI ST.length) s.heap.size) (cwV 0 hts (zg_V zm_289 zm_290 zm_291 zm_6 zm_292) rfl rfl rfl (by decide +kernel) ⟨Nat.le_of_ble_eq_true rfl, Nat.le_of_ble_eq_true rfl⟩) (xp_preVQ (ci := 4) (q0 := 4) hK hP hD rfl rfl rfl hZ) rfl rfl hl.1 rfl (lv_room (Nat.le_of_ble_eq_true rfl)) d_E_abandon_24 ⟨Nat.zero_le _, Nat.zero_le _⟩) hS (xa_F hD hS hA) (fun u H locs hp24 hP hS => ?_)
    have hP : va_P D zz_cl (xw_C q cA (nI lm) kf kg (nI (xs_now B0 R0).length) af bf rk rv rm rs (nI R0.length) bp bk bv (xb_i false) (nI 0)) H := hP
    have hD : va_D A (xw_C q cA (nI lm) kf kg (nI (xs_now B0 R0).length) af bf rk rv rm rs (nI R0.length) bp bk bv (xb_i false) (nI 0)) := xa_E hD rfl
    refine lv_iload_n hx hb d_E_abandon_27 rfl (lv_at hl 0 rfl) ?_
    exact W.iret (v := nI ST.length) hx hb hr (fun tJ htJ hWJ => ⟨⟨_, (kf, kg, af, bf, rk, rv, rm, rs, bp, bk, bv), rfl, ⟨by rw [if_pos hc7], by rw [if_pos hc7]; exact ⟨hC.1, hC.2.1, hC.2.2.1, xs_bt_nil _ _ _⟩⟩, by dsimp only; rw [htJ]; rw [if_pos hc7]; exact hP⟩, hS.F htJ⟩) hS.2.2 d_E_abandon_28
  · skip
    rw [xb_0] at hc7
    refine lv_iconst (v := (-1)) hx hb d_E_abandon_10 (by decide +kernel) ?_
    exact W.iret (v := (-1)) hx hb hr (fun tJ htJ hWJ => ⟨⟨_, (kf, kg, af, bf, rk, rv, rm, rs, bp, bk, bv), rfl, ⟨by rw [if_neg (by rw [hc7]; decide)], by rw [if_neg (by rw [hc7]; decide)]; exact hC⟩, by dsimp only; rw [htJ]; rw [if_neg (by rw [hc7]; decide), ← hc7]; exact hP⟩, hS.F htJ⟩) hS.2.2 d_E_abandon_11
set_option maxHeartbeats 4000000 in
set_option maxRecDepth 100000 in
theorem c_E_flush (l : Launch) (D : va_G) (q : Nat → Nat) (cA : Nat → ClassId) (kf : Nat → Int32) (kg : Nat → Int64) (af : Nat → Int32) (bf : Nat → Int32) (rk : Nat → Int32) (rv : Nat → Int64) (rm : Nat → Int32) (rs : Nat → Int32) (bp : Nat → Int32) (bk : Nat → Int32) (bv : Nat → Int64) (sz : Nat) (lm : Nat) (B0 : List xk_E) (R0 : List xs_R) (bt : Bool) (ST : List xs_O) (hC : xs_CT B0 R0 ST kf kg af bf rk rv rm rs bp bk bv) (hok : xs_ok lm B0 R0) (hlm : lm ≤ 200) (hst : ST.length ≤ 5) : Met l y_E_flush zw_E_flush ({ frames := 2, cells := 0, slots := 0, locals := 42 } : Room) (va_Pc [.ref (q 0)] (xp_Q D zz_cl (xw_tC cA) sz (xw_C q cA (nI lm) kf kg (nI (xs_now B0 R0).length) af bf rk rv rm rs (nI R0.length) bp bk bv (xb_i bt) (nI ST.length)))) (va_Qi (fun (r : Int32) (u : (Nat → Int32) × (Nat → Int64) × (Nat → Int32) × (Nat → Int32) × (Nat → Int32) × (Nat → Int64) × (Nat → Int32) × (Nat → Int32) × (Nat → Int32) × (Nat → Int32) × (Nat → Int64)) => r = (nI R0.length) ∧ (xs_CT (xs_now B0 R0) (([] : List xs_R)) ST u.1 u.2.1 u.2.2.1 u.2.2.2.1 u.2.2.2.2.1 u.2.2.2.2.2.1 u.2.2.2.2.2.2.1 u.2.2.2.2.2.2.2.1 u.2.2.2.2.2.2.2.2.1 u.2.2.2.2.2.2.2.2.2.1 u.2.2.2.2.2.2.2.2.2.2)) (fun (u : (Nat → Int32) × (Nat → Int64) × (Nat → Int32) × (Nat → Int32) × (Nat → Int32) × (Nat → Int64) × (Nat → Int32) × (Nat → Int32) × (Nat → Int32) × (Nat → Int32) × (Nat → Int64)) (t : State) => va_P D zz_cl (xw_C q cA (nI lm) u.1 u.2.1 (nI (xs_now (xs_now B0 R0) (([] : List xs_R))).length) u.2.2.1 u.2.2.2.1 u.2.2.2.2.1 u.2.2.2.2.2.1 u.2.2.2.2.2.2.1 u.2.2.2.2.2.2.2.1 (nI (([] : List xs_R)).length) u.2.2.2.2.2.2.2.2.1 u.2.2.2.2.2.2.2.2.2.1 u.2.2.2.2.2.2.2.2.2.2 (xb_i bt) (nI (ST).length)) t.heap) (va_A (xw_C q cA (nI lm) kf kg (nI (xs_now B0 R0).length) af bf rk rv rm rs (nI R0.length) bp bk bv (xb_i bt) (nI ST.length)) sz)) 0 0 (va_A (xw_C q cA (nI lm) kf kg (nI (xs_now B0 R0).length) af bf rk rv rm rs (nI R0.length) bp bk bv (xb_i bt) (nI ST.length)) sz) := by
  refine Met.ofW (cc := b_E_flush) (maxL := 2) (ret := (some .int)) (by decide) rfl ?_
  intro pJ eJ s mJ args below meth cJ s₁ B hml hv
  obtain ⟨rfl, hsz, hP, hK, hD0, hZ⟩ := hv
  have hx := B.exec
  have hb := B.bytes
  have hr := B.returns
  have hts := atoms_spec (ws := zw_E_flush) B.pre
  have hown : s.vm.findClass R_E = some mJ.cls := findClass_of_methodNamed B.named
  have hlocks := B.notSynchronized
  subst hsz
  have hD := hD0.self (sz := s.heap.size)
  generalize hAe : va_A (xw_C q cA (nI lm) kf kg (nI (xs_now B0 R0).length) af bf rk rv rm rs (nI R0.length) bp bk bv (xb_i bt) (nI ST.length)) s.heap.size = A at hD ⊢
  have hA : ∀ q : Nat, s.heap.size ≤ q → A q := fun q h => by rw [← hAe]; exact Or.inr h
  have hS : va_S A s.heap s.heap [] := va_S.rf
  have hl := lv_entry ([.ref (q 0)]) (n := 2) (Nat.le_of_ble_eq_true rfl)
  rw [lg_entry_eq]
  generalize (lg_sl ([.ref (q 0)]) ++ List.replicate (2 - (lg_sl ([.ref (q 0)])).length) Slot.unset).toArray = ls at hl ⊢
  have hl : lv_has ls 2 [(0, .ref (q 0))] := hl
  have h60 : (xs_now B0 R0).length ≤ 60 := hok.2.2.2.2.2.1
  have h64 := hok.2.2.1
  refine lv_aload_n hx hb d_E_flush_0 rfl (lv_at hl 0 rfl) ?_
  refine va_get (D := D) (ci := 0) (v := .ref (q 3)) (C := R_E) (T := F_E) (N := 4) hx hb hts (zi_E _) hown hK hP 0 rfl rfl 2 (by decide) (hts _ (List.mem_cons_of_mem _ zm_115)) (fun _ h9 => h9) rfl d_E_flush_1 ?_
  refine va_getN (D := D) (ci := 3) (v := .int (nI R0.length)) (C := R_R) (T := F_R) (N := 5) hx hb hts (zi_R _) hown hK hP 3 rfl rfl 4 (by decide) (va_Nw.use rfl (hZ _ zn_72)) (fun _ h9 => h9) rfl d_E_flush_4 ?_
  refine lv_istore_n (lv' := [(1, .int (nI R0.length)), (0, .ref (q 0))]) hx hb d_E_flush_7 rfl hl (Nat.le_of_ble_eq_true rfl) rfl (fun ls hl => ?_)
  refine lv_aload_n hx hb d_E_flush_8 rfl (lv_at hl 1 rfl) ?_
  refine va_get (D := D) (ci := 0) (v := .ref (q 3)) (C := R_E) (T := F_E) (N := 4) hx hb hts (zi_E _) hown hK hP 0 rfl rfl 2 (by decide) (hts _ (List.mem_cons_of_mem _ zm_115)) (fun _ h9 => h9) rfl d_E_flush_9 ?_
  refine lv_iconst (v := nI 0) hx hb d_E_flush_12 (by decide +kernel) ?_
  refine xa_cMV (va_runV (As := [.int (nI 0)]) (rest := []) ⟨hx, hb, hml, hown, hts⟩ (c_R_forget l D q cA (nI lm) kf kg (nI (xs_now B0 R0).length) af bf rk rv rm rs bp bk bv (xb_i bt) (nI ST.length) s.heap.size R0.length 0 (by omega) (by omega)) (cwV 1 hts (zg_V zm_236 zm_237 zm_238 zm_5 zm_239) rfl rfl rfl (by decide +kernel) ⟨Nat.le_of_ble_eq_true rfl, Nat.le_of_ble_eq_true rfl⟩) (xp_preVQ (ci := 3) (q0 := 3) hK hP hD rfl rfl rfl hZ) rfl rfl hl.1 rfl (lv_room (Nat.le_of_ble_eq_true rfl)) d_E_flush_13 ⟨Nat.zero_le _, Nat.zero_le _⟩) hS (xa_F hD hS hA) (fun u H locs hp13 hP hS => ?_)
  have hP : va_P D zz_cl (xw_C q cA (nI lm) kf kg (nI (xs_now B0 R0).length) af bf rk rv rm rs (nI (min R0.length 0)) bp bk bv (xb_i bt) (nI ST.length)) H := hP
  have hD : va_D A (xw_C q cA (nI lm) kf kg (nI (xs_now B0 R0).length) af bf rk rv rm rs (nI (min R0.length 0)) bp bk bv (xb_i bt) (nI ST.length)) := xa_E hD rfl
  rw [show nI (min R0.length 0) = nI 0 from by rw [Nat.min_zero]] at hP hD
  refine lv_iload_n hx hb d_E_flush_16 rfl (lv_at hl 0 rfl) ?_
  exact W.iret (v := nI R0.length) hx hb hr (fun tJ htJ hWJ => ⟨⟨_, (kf, kg, af, bf, rk, rv, rm, rs, bp, bk, bv), rfl, ⟨rfl, xs_C_cut hC.1 hC.2.2.2⟩, by dsimp only; rw [htJ]; rw [xs_now_nil]; exact hP⟩, hS.F htJ⟩) hS.2.2 d_E_flush_17
set_option maxHeartbeats 4000000 in
set_option maxRecDepth 100000 in
theorem c_E_crash (l : Launch) (D : va_G) (q : Nat → Nat) (cA : Nat → ClassId) (kf : Nat → Int32) (kg : Nat → Int64) (af : Nat → Int32) (bf : Nat → Int32) (rk : Nat → Int32) (rv : Nat → Int64) (rm : Nat → Int32) (rs : Nat → Int32) (bp : Nat → Int32) (bk : Nat → Int32) (bv : Nat → Int64) (sz : Nat) (lm : Nat) (B0 : List xk_E) (R0 : List xs_R) (bt : Bool) (ST : List xs_O) (x : Int32) (hC : xs_CT B0 R0 ST kf kg af bf rk rv rm rs bp bk bv) (hok : xs_ok lm B0 R0) (hlm : lm ≤ 200) (hst : ST.length ≤ 5) : Met l y_E_crash zw_E_crash ({ frames := 5, cells := 0, slots := 0, locals := 130 } : Room) (va_Pc [.ref (q 0), .int x] (xp_Q D zz_cl (xw_tC cA) sz (xw_C q cA (nI lm) kf kg (nI (xs_now B0 R0).length) af bf rk rv rm rs (nI R0.length) bp bk bv (xb_i bt) (nI ST.length)))) (va_Qi (fun (r : Int32) (u : (Nat → Int32) × (Nat → Int64) × (Nat → Int32) × (Nat → Int32) × (Nat → Int32) × (Nat → Int64) × (Nat → Int32) × (Nat → Int32) × (Nat → Int32) × (Nat → Int32) × (Nat → Int64)) => r = (nI (R0.length - xs_cut R0 x)) ∧ (xs_CT (xs_S B0 R0 (xs_cut R0 x)) (([] : List xs_R)) (([] : List xs_O)) u.1 u.2.1 u.2.2.1 u.2.2.2.1 u.2.2.2.2.1 u.2.2.2.2.2.1 u.2.2.2.2.2.2.1 u.2.2.2.2.2.2.2.1 u.2.2.2.2.2.2.2.2.1 u.2.2.2.2.2.2.2.2.2.1 u.2.2.2.2.2.2.2.2.2.2)) (fun (u : (Nat → Int32) × (Nat → Int64) × (Nat → Int32) × (Nat → Int32) × (Nat → Int32) × (Nat → Int64) × (Nat → Int32) × (Nat → Int32) × (Nat → Int32) × (Nat → Int32) × (Nat → Int64)) (t : State) => va_P D zz_cl (xw_C q cA (nI lm) u.1 u.2.1 (nI (xs_now (xs_S B0 R0 (xs_cut R0 x)) (([] : List xs_R))).length) u.2.2.1 u.2.2.2.1 u.2.2.2.2.1 u.2.2.2.2.2.1 u.2.2.2.2.2.2.1 u.2.2.2.2.2.2.2.1 (nI (([] : List xs_R)).length) u.2.2.2.2.2.2.2.2.1 u.2.2.2.2.2.2.2.2.2.1 u.2.2.2.2.2.2.2.2.2.2 (xb_i false) (nI (([] : List xs_O)).length)) t.heap) (va_A (xw_C q cA (nI lm) kf kg (nI (xs_now B0 R0).length) af bf rk rv rm rs (nI R0.length) bp bk bv (xb_i bt) (nI ST.length)) sz)) 0 0 (va_A (xw_C q cA (nI lm) kf kg (nI (xs_now B0 R0).length) af bf rk rv rm rs (nI R0.length) bp bk bv (xb_i bt) (nI ST.length)) sz) := by
  refine Met.ofW (cc := b_E_crash) (maxL := 4) (ret := (some .int)) (by decide) rfl ?_
  intro pJ eJ s mJ args below meth cJ s₁ B hml hv
  obtain ⟨rfl, hsz, hP, hK, hD0, hZ⟩ := hv
  have hx := B.exec
  have hb := B.bytes
  have hr := B.returns
  have hts := atoms_spec (ws := zw_E_crash) B.pre
  have hown : s.vm.findClass R_E = some mJ.cls := findClass_of_methodNamed B.named
  have hlocks := B.notSynchronized
  subst hsz
  have hD := hD0.self (sz := s.heap.size)
  generalize hAe : va_A (xw_C q cA (nI lm) kf kg (nI (xs_now B0 R0).length) af bf rk rv rm rs (nI R0.length) bp bk bv (xb_i bt) (nI ST.length)) s.heap.size = A at hD ⊢
  have hA : ∀ q : Nat, s.heap.size ≤ q → A q := fun q h => by rw [← hAe]; exact Or.inr h
  have hS : va_S A s.heap s.heap [] := va_S.rf
  have hl := lv_entry ([.ref (q 0), .int x]) (n := 4) (Nat.le_of_ble_eq_true rfl)
  rw [lg_entry_eq]
  generalize (lg_sl ([.ref (q 0), .int x]) ++ List.replicate (4 - (lg_sl ([.ref (q 0), .int x])).length) Slot.unset).toArray = ls at hl ⊢
  have hl : lv_has ls 4 [(0, .ref (q 0)), (1, .int x)] := hl
  have h60 : (xs_now B0 R0).length ≤ 60 := hok.2.2.2.2.2.1
  have h64 := hok.2.2.1
  have hcut := (xs_cut_le hok x).1
  refine lv_aload_n hx hb d_E_crash_0 rfl (lv_at hl 0 rfl) ?_
  refine va_get (D := D) (ci := 0) (v := .ref (q 3)) (C := R_E) (T := F_E) (N := 4) hx hb hts (zi_E _) hown hK hP 0 rfl rfl 2 (by decide) (hts _ (List.mem_cons_of_mem _ zm_115)) (fun _ h9 => h9) rfl d_E_crash_1 ?_
  refine lv_iload_n hx hb d_E_crash_4 rfl (lv_at hl 1 rfl) ?_
  refine xa_cI (va_runV (As := [.int x]) (rest := []) ⟨hx, hb, hml, hown, hts⟩ (c_R_surv l D q cA (nI lm) kf kg (nI (xs_now B0 R0).length) af bf rk rv rm rs bp bk bv (xb_i bt) (nI ST.length) R0.length x (by omega)) (cwV 1 hts (zg_V zm_309 zm_310 zm_311 zm_5 zm_312) rfl rfl rfl (by decide +kernel) ⟨Nat.le_of_ble_eq_true rfl, Nat.le_of_ble_eq_true rfl⟩) (xp_preV (ci := 3) (q0 := 3) hK hP rfl rfl rfl hZ) rfl rfl hl.1 rfl (lv_room (Nat.le_of_ble_eq_true rfl)) d_E_crash_5 ⟨Nat.zero_le _, Nat.zero_le _⟩) ?_
  refine xa_top (y := nI (xs_cut R0 x)) (xs_cut_eq hC.2.2.1 x) ?_
  refine lv_istore_n (lv' := [(2, .int (nI (xs_cut R0 x))), (0, .ref (q 0)), (1, .int x)]) hx hb d_E_crash_8 rfl hl (Nat.le_of_ble_eq_true rfl) rfl (fun ls hl => ?_)
  refine lv_aload_n hx hb d_E_crash_9 rfl (lv_at hl 1 rfl) ?_
  refine va_get (D := D) (ci := 0) (v := .ref (q 3)) (C := R_E) (T := F_E) (N := 4) hx hb hts (zi_E _) hown hK hP 0 rfl rfl 2 (by decide) (hts _ (List.mem_cons_of_mem _ zm_115)) (fun _ h9 => h9) rfl d_E_crash_10 ?_
  refine va_getN (D := D) (ci := 3) (v := .int (nI R0.length)) (C := R_R) (T := F_R) (N := 5) hx hb hts (zi_R _) hown hK hP 3 rfl rfl 4 (by decide) (va_Nw.use rfl (hZ _ zn_72)) (fun _ h9 => h9) rfl d_E_crash_13 ?_
  refine lv_iload_n hx hb d_E_crash_16 rfl (lv_at hl 0 rfl) ?_
  refine lv_isub hx hb d_E_crash_17 ?_
  refine xa_top (y := nI (R0.length - (xs_cut R0 x))) (pk_sub (by omega)) ?_
  refine lv_istore_n (lv' := [(3, .int (nI (R0.length - (xs_cut R0 x)))), (2, .int (nI (xs_cut R0 x))), (0, .ref (q 0)), (1, .int x)]) hx hb d_E_crash_18 rfl hl (Nat.le_of_ble_eq_true rfl) rfl (fun ls hl => ?_)
  refine lv_aload_n hx hb d_E_crash_19 rfl (lv_at hl 2 rfl) ?_
  refine lv_iload_n hx hb d_E_crash_20 rfl (lv_at hl 1 rfl) ?_
  refine xa_cMV (va_runV (As := [.int (nI (xs_cut R0 x))]) (rest := []) ⟨hx, hb, hml, hown, hts⟩ (c_E_tbf l D q cA (nI lm) kf kg af bf rk rv rm rs bp bk bv (xb_i bt) (nI ST.length) s.heap.size (xs_S B0 R0) R0.length (xs_cut R0 x) hC.1 (by omega) (by omega) (fun i _ hi => xs_cn_U (xs_ct_cn hC.2.1 _) hok.1 hok.2.2.2.1 (xs_ok_w hok) (Nat.le_refl _) i hi)) (cwV 1 hts (zg_V zm_228 zm_230 zs_7 zm_1 zm_231) rfl rfl rfl (by decide +kernel) ⟨Nat.le_of_ble_eq_true rfl, Nat.le_of_ble_eq_true rfl⟩) (xp_preVQ (ci := 0) (q0 := 0) hK hP hD rfl rfl rfl hZ) rfl rfl hl.1 rfl (lv_room (Nat.le_of_ble_eq_true rfl)) d_E_crash_21 ⟨Nat.zero_le _, Nat.zero_le _⟩) hS (xa_F hD hS hA) (fun u H locs hp21 hP hS => ?_)
  obtain ⟨kf2_21, kg2_21, af2_21, bf2_21⟩ := u
  have hP : va_P D zz_cl (xw_C q cA (nI lm) kf2_21 kg2_21 (nI (xs_S B0 R0 (xs_cut R0 x)).length) af2_21 bf2_21 rk rv rm rs (nI (xs_cut R0 x)) bp bk bv (xb_i bt) (nI ST.length)) H := hP
  have hD : va_D A (xw_C q cA (nI lm) kf2_21 kg2_21 (nI (xs_S B0 R0 (xs_cut R0 x)).length) af2_21 bf2_21 rk rv rm rs (nI (xs_cut R0 x)) bp bk bv (xb_i bt) (nI ST.length)) := xa_E hD rfl
  have hp21 : xw_KT kf2_21 kg2_21 af2_21 bf2_21 (xs_S B0 R0 (xs_cut R0 x)) := hp21
  refine lv_aload_n hx hb d_E_crash_24 rfl (lv_at hl 2 rfl) ?_
  refine va_get (D := D) (ci := 0) (v := .ref (q 3)) (C := R_E) (T := F_E) (N := 4) hx hb hts (zi_E _) hown hK hP 0 rfl rfl 2 (by decide) (hts _ (List.mem_cons_of_mem _ zm_115)) (fun _ h9 => h9) rfl d_E_crash_25 ?_
  refine lv_iconst (v := nI 0) hx hb d_E_crash_28 (by decide +kernel) ?_
  refine xa_cMV (va_runV (As := [.int (nI 0)]) (rest := []) ⟨hx, hb, hml, hown, hts⟩ (c_R_forget l D q cA (nI lm) kf2_21 kg2_21 (nI (xs_S B0 R0 (xs_cut R0 x)).length) af2_21 bf2_21 rk rv rm rs bp bk bv (xb_i bt) (nI ST.length) H.size (xs_cut R0 x) 0 (by omega) (by omega)) (cwV 1 hts (zg_V zm_236 zm_237 zm_238 zm_5 zm_239) rfl rfl rfl (by decide +kernel) ⟨Nat.le_of_ble_eq_true rfl, Nat.le_of_ble_eq_true rfl⟩) (xp_preVQ (ci := 3) (q0 := 3) hK hP hD rfl rfl rfl hZ) rfl rfl hl.1 rfl (lv_room (Nat.le_of_ble_eq_true rfl)) d_E_crash_29 ⟨Nat.zero_le _, Nat.zero_le _⟩) hS (xa_F hD hS hA) (fun u H locs hp29 hP hS => ?_)
  have hP : va_P D zz_cl (xw_C q cA (nI lm) kf2_21 kg2_21 (nI (xs_S B0 R0 (xs_cut R0 x)).length) af2_21 bf2_21 rk rv rm rs (nI (min (xs_cut R0 x) 0)) bp bk bv (xb_i bt) (nI ST.length)) H := hP
  have hD : va_D A (xw_C q cA (nI lm) kf2_21 kg2_21 (nI (xs_S B0 R0 (xs_cut R0 x)).length) af2_21 bf2_21 rk rv rm rs (nI (min (xs_cut R0 x) 0)) bp bk bv (xb_i bt) (nI ST.length)) := xa_E hD rfl
  rw [show nI (min (xs_cut R0 x) 0) = nI 0 from by rw [Nat.min_zero]] at hP hD
  refine lv_aload_n hx hb d_E_crash_32 rfl (lv_at hl 2 rfl) ?_
  refine va_get (D := D) (ci := 0) (v := .ref (q 4)) (C := R_E) (T := F_E) (N := 4) hx hb hts (zi_E _) hown hK hP 0 rfl rfl 3 (by decide) (hts _ (List.mem_cons_of_mem _ zm_116)) (fun _ h9 => h9) rfl d_E_crash_33 ?_
  refine xa_cMV (va_runV (As := []) (rest := []) ⟨hx, hb, hml, hown, hts⟩ (c_B_end l D q cA (nI lm) kf2_21 kg2_21 (nI (xs_S B0 R0 (xs_cut R0 x)).length) af2_21 bf2_21 rk rv rm rs (nI 0) bp bk bv (xb_i bt) (nI ST.length) H.size) (cwV 0 hts (zg_V zm_289 zm_290 zm_291 zm_6 zm_292) rfl rfl rfl (by decide +kernel) ⟨Nat.le_of_ble_eq_true rfl, Nat.le_of_ble_eq_true rfl⟩) (xp_preVQ (ci := 4) (q0 := 4) hK hP hD rfl rfl rfl hZ) rfl rfl hl.1 rfl (lv_room (Nat.le_of_ble_eq_true rfl)) d_E_crash_36 ⟨Nat.zero_le _, Nat.zero_le _⟩) hS (xa_F hD hS hA) (fun u H locs hp36 hP hS => ?_)
  have hP : va_P D zz_cl (xw_C q cA (nI lm) kf2_21 kg2_21 (nI (xs_S B0 R0 (xs_cut R0 x)).length) af2_21 bf2_21 rk rv rm rs (nI 0) bp bk bv (xb_i false) (nI 0)) H := hP
  have hD : va_D A (xw_C q cA (nI lm) kf2_21 kg2_21 (nI (xs_S B0 R0 (xs_cut R0 x)).length) af2_21 bf2_21 rk rv rm rs (nI 0) bp bk bv (xb_i false) (nI 0)) := xa_E hD rfl
  refine lv_iload_n hx hb d_E_crash_39 rfl (lv_at hl 0 rfl) ?_
  exact W.iret (v := nI (R0.length - (xs_cut R0 x))) hx hb hr (fun tJ htJ hWJ => ⟨⟨_, (kf2_21, kg2_21, af2_21, bf2_21, rk, rv, rm, rs, bp, bk, bv), rfl, ⟨rfl, xs_C_cut hp21 (xs_bt_nil _ _ _)⟩, by dsimp only; rw [htJ]; rw [xs_now_nil]; exact hP⟩, hS.F htJ⟩) hS.2.2 d_E_crash_40
set_option maxHeartbeats 4000000 in
set_option maxRecDepth 100000 in
theorem c_E_commit (l : Launch) (D : va_G) (q : Nat → Nat) (cA : Nat → ClassId) (kf : Nat → Int32) (kg : Nat → Int64) (af : Nat → Int32) (bf : Nat → Int32) (rk : Nat → Int32) (rv : Nat → Int64) (rm : Nat → Int32) (rs : Nat → Int32) (bp : Nat → Int32) (bk : Nat → Int32) (bv : Nat → Int64) (sz : Nat) (lm : Nat) (B0 : List xk_E) (R0 : List xs_R) (bt : Bool) (ST : List xs_O) (hC : xs_CT B0 R0 ST kf kg af bf rk rv rm rs bp bk bv) (hok : xs_ok lm B0 R0) (hlm : lm ≤ 200) (hst : ST.length ≤ 5) : Met l y_E_commit zw_E_commit ({ frames := 6, cells := 0, slots := 0, locals := 152 } : Room) (va_Pc [.ref (q 0)] (xp_Q D zz_cl (xw_tC cA) sz (xw_C q cA (nI lm) kf kg (nI (xs_now B0 R0).length) af bf rk rv rm rs (nI R0.length) bp bk bv (xb_i bt) (nI ST.length)))) (va_Qi (fun (r : Int32) (u : (Nat → Int32) × (Nat → Int64) × (Nat → Int32) × (Nat → Int32) × (Nat → Int32) × (Nat → Int64) × (Nat → Int32) × (Nat → Int32) × (Nat → Int32) × (Nat → Int32) × (Nat → Int64)) => r = (if bt = true then (if xs_bad lm (xs_now B0 (xs_new B0 R0 (xs_N ST))) = true then nI 0 else nI (ST.length + 1)) else (-1)) ∧ (xs_CT (if bt = true then xs_pB lm B0 R0 false (xs_N ST) else B0) (if bt = true then xs_pR lm B0 R0 false (xs_N ST) else R0) (if bt = true then [] else ST) u.1 u.2.1 u.2.2.1 u.2.2.2.1 u.2.2.2.2.1 u.2.2.2.2.2.1 u.2.2.2.2.2.2.1 u.2.2.2.2.2.2.2.1 u.2.2.2.2.2.2.2.2.1 u.2.2.2.2.2.2.2.2.2.1 u.2.2.2.2.2.2.2.2.2.2)) (fun (u : (Nat → Int32) × (Nat → Int64) × (Nat → Int32) × (Nat → Int32) × (Nat → Int32) × (Nat → Int64) × (Nat → Int32) × (Nat → Int32) × (Nat → Int32) × (Nat → Int32) × (Nat → Int64)) (t : State) => va_P D zz_cl (xw_C q cA (nI lm) u.1 u.2.1 (nI (xs_now (if bt = true then xs_pB lm B0 R0 false (xs_N ST) else B0) (if bt = true then xs_pR lm B0 R0 false (xs_N ST) else R0)).length) u.2.2.1 u.2.2.2.1 u.2.2.2.2.1 u.2.2.2.2.2.1 u.2.2.2.2.2.2.1 u.2.2.2.2.2.2.2.1 (nI (if bt = true then xs_pR lm B0 R0 false (xs_N ST) else R0).length) u.2.2.2.2.2.2.2.2.1 u.2.2.2.2.2.2.2.2.2.1 u.2.2.2.2.2.2.2.2.2.2 (xb_i false) (nI (if bt = true then [] else ST).length)) t.heap) (va_A (xw_C q cA (nI lm) kf kg (nI (xs_now B0 R0).length) af bf rk rv rm rs (nI R0.length) bp bk bv (xb_i bt) (nI ST.length)) sz)) 0 0 (va_A (xw_C q cA (nI lm) kf kg (nI (xs_now B0 R0).length) af bf rk rv rm rs (nI R0.length) bp bk bv (xb_i bt) (nI ST.length)) sz) := by
  refine Met.ofW (cc := b_E_commit) (maxL := 3) (ret := (some .int)) (by decide) rfl ?_
  intro pJ eJ s mJ args below meth cJ s₁ B hml hv
  obtain ⟨rfl, hsz, hP, hK, hD0, hZ⟩ := hv
  have hx := B.exec
  have hb := B.bytes
  have hr := B.returns
  have hts := atoms_spec (ws := zw_E_commit) B.pre
  have hown : s.vm.findClass R_E = some mJ.cls := findClass_of_methodNamed B.named
  have hlocks := B.notSynchronized
  subst hsz
  have hD := hD0.self (sz := s.heap.size)
  generalize hAe : va_A (xw_C q cA (nI lm) kf kg (nI (xs_now B0 R0).length) af bf rk rv rm rs (nI R0.length) bp bk bv (xb_i bt) (nI ST.length)) s.heap.size = A at hD ⊢
  have hA : ∀ q : Nat, s.heap.size ≤ q → A q := fun q h => by rw [← hAe]; exact Or.inr h
  have hS : va_S A s.heap s.heap [] := va_S.rf
  have hl := lv_entry ([.ref (q 0)]) (n := 3) (Nat.le_of_ble_eq_true rfl)
  rw [lg_entry_eq]
  generalize (lg_sl ([.ref (q 0)]) ++ List.replicate (3 - (lg_sl ([.ref (q 0)])).length) Slot.unset).toArray = ls at hl ⊢
  have hl : lv_has ls 3 [(0, .ref (q 0))] := hl
  have h60 : (xs_now B0 R0).length ≤ 60 := hok.2.2.2.2.2.1
  have h64 := hok.2.2.1
  have hnw := xs_N_now B0 R0 ST
  refine lv_aload_n hx hb d_E_commit_0 rfl (lv_at hl 0 rfl) ?_
  refine va_get (D := D) (ci := 0) (v := .ref (q 4)) (C := R_E) (T := F_E) (N := 4) hx hb hts (zi_E _) hown hK hP 0 rfl rfl 3 (by decide) (hts _ (List.mem_cons_of_mem _ zm_116)) (fun _ h9 => h9) rfl d_E_commit_1 ?_
  refine va_getN (D := D) (ci := 4) (v := .int (xb_i bt)) (C := R_B) (T := F_B) (N := 5) hx hb hts (zi_B _) hown hK hP 4 rfl rfl 3 (by decide) (va_Nw.use rfl (hZ _ zn_98)) (fun _ h9 => h9) rfl d_E_commit_4 ?_
  refine lv_if_ne (tgt := 12) hx hb d_E_commit_7 (by decide) (fun hc7 => ?_) (fun hc7 => ?_)
  · skip
    rw [xb_1] at hc7
    refine lv_aload_n hx hb d_E_commit_12 rfl (lv_at hl 0 rfl) ?_
    refine va_get (D := D) (ci := 0) (v := .ref (q 3)) (C := R_E) (T := F_E) (N := 4) hx hb hts (zi_E _) hown hK hP 0 rfl rfl 2 (by decide) (hts _ (List.mem_cons_of_mem _ zm_115)) (fun _ h9 => h9) rfl d_E_commit_13 ?_
    refine va_getN (D := D) (ci := 3) (v := .int (nI R0.length)) (C := R_R) (T := F_R) (N := 5) hx hb hts (zi_R _) hown hK hP 3 rfl rfl 4 (by decide) (va_Nw.use rfl (hZ _ zn_72)) (fun _ h9 => h9) rfl d_E_commit_16 ?_
    refine lv_istore_n (lv' := [(1, .int (nI R0.length)), (0, .ref (q 0))]) hx hb d_E_commit_19 rfl hl (Nat.le_of_ble_eq_true rfl) rfl (fun ls hl => ?_)
    rw [show nI (xs_now B0 R0).length = nI (xs_S B0 (xs_new B0 R0 (xs_N ST)) R0.length).length from by rw [xs_now_new]] at hP hD
    refine lv_aload_n hx hb d_E_commit_20 rfl (lv_at hl 1 rfl) ?_
    refine xa_cMV (va_runV (As := []) (rest := []) ⟨hx, hb, hml, hown, hts⟩ (c_E_steps2 l D q cA (nI lm) kf kg af bf rk rv rm rs bp bk bv (xb_i bt) s.heap.size B0 (xs_new B0 R0 (xs_N ST)) ST R0.length (by rw [xs_now_new]; exact hC.1) (xs_cn_new hC.2.1 _) hC.2.2.2 (fun i o ho => xs_new_at (xs_N_at ho)) (fun i hi => xs_new_mid hok (xs_N_six hst).1 (xs_N_six hst).2 i (by rw [xs_new_len, xs_N_len]; omega)) h64 hst) (cwV 0 hts (zg_V zm_285 zm_287 zs_9 zm_1 zm_288) rfl rfl rfl (by decide +kernel) ⟨Nat.le_of_ble_eq_true rfl, Nat.le_of_ble_eq_true rfl⟩) (xp_preVQ (ci := 0) (q0 := 0) hK hP hD rfl rfl rfl hZ) rfl rfl hl.1 rfl (lv_room (Nat.le_of_ble_eq_true rfl)) d_E_commit_21 ⟨Nat.zero_le _, Nat.zero_le _⟩) hS (xa_F hD hS hA) (fun u H locs hp21 hP hS => ?_)
    obtain ⟨kf2_21, kg2_21, af2_21, bf2_21, rk2_21, rv2_21, rm2_21, rs2_21⟩ := u
    have hP : va_P D zz_cl (xw_C q cA (nI lm) kf2_21 kg2_21 (nI (xs_S B0 (xs_new B0 R0 (xs_N ST)) (R0.length + ST.length)).length) af2_21 bf2_21 rk2_21 rv2_21 rm2_21 rs2_21 (nI (R0.length + ST.length)) bp bk bv (xb_i bt) (nI ST.length)) H := hP
    have hD : va_D A (xw_C q cA (nI lm) kf2_21 kg2_21 (nI (xs_S B0 (xs_new B0 R0 (xs_N ST)) (R0.length + ST.length)).length) af2_21 bf2_21 rk2_21 rv2_21 rm2_21 rs2_21 (nI (R0.length + ST.length)) bp bk bv (xb_i bt) (nI ST.length)) := xa_E hD rfl
    have hp21 : xw_KT kf2_21 kg2_21 af2_21 bf2_21 (xs_S B0 (xs_new B0 R0 (xs_N ST)) (R0.length + ST.length)) ∧ xs_cn B0 (xs_new B0 R0 (xs_N ST)) (R0.length + ST.length) rk2_21 rv2_21 rm2_21 ∧ ∀ j, j < R0.length → rs2_21 j = rs j := hp21
    obtain ⟨hT2, hcn2, hrs2⟩ := hp21
    refine lv_aload_n hx hb d_E_commit_24 rfl (lv_at hl 1 rfl) ?_
    refine va_get (D := D) (ci := 0) (v := .ref (q 4)) (C := R_E) (T := F_E) (N := 4) hx hb hts (zi_E _) hown hK hP 0 rfl rfl 3 (by decide) (hts _ (List.mem_cons_of_mem _ zm_116)) (fun _ h9 => h9) rfl d_E_commit_25 ?_
    refine xa_cMV (va_runV (As := []) (rest := []) ⟨hx, hb, hml, hown, hts⟩ (c_B_end l D q cA (nI lm) kf2_21 kg2_21 (nI (xs_S B0 (xs_new B0 R0 (xs_N ST)) (R0.length + ST.length)).length) af2_21 bf2_21 rk2_21 rv2_21 rm2_21 rs2_21 (nI (R0.length + ST.length)) bp bk bv (xb_i bt) (nI ST.length) H.size) (cwV 0 hts (zg_V zm_289 zm_290 zm_291 zm_6 zm_292) rfl rfl rfl (by decide +kernel) ⟨Nat.le_of_ble_eq_true rfl, Nat.le_of_ble_eq_true rfl⟩) (xp_preVQ (ci := 4) (q0 := 4) hK hP hD rfl rfl rfl hZ) rfl rfl hl.1 rfl (lv_room (Nat.le_of_ble_eq_true rfl)) d_E_commit_28 ⟨Nat.zero_le _, Nat.zero_le _⟩) hS (xa_F hD hS hA) (fun u H locs hp28 hP hS => ?_)
    have hP : va_P D zz_cl (xw_C q cA (nI lm) kf2_21 kg2_21 (nI (xs_S B0 (xs_new B0 R0 (xs_N ST)) (R0.length + ST.length)).length) af2_21 bf2_21 rk2_21 rv2_21 rm2_21 rs2_21 (nI (R0.length + ST.length)) bp bk bv (xb_i false) (nI 0)) H := hP
    have hD : va_D A (xw_C q cA (nI lm) kf2_21 kg2_21 (nI (xs_S B0 (xs_new B0 R0 (xs_N ST)) (R0.length + ST.length)).length) af2_21 bf2_21 rk2_21 rv2_21 rm2_21 rs2_21 (nI (R0.length + ST.length)) bp bk bv (xb_i false) (nI 0)) := xa_E hD rfl
    refine lv_aload_n hx hb d_E_commit_31 rfl (lv_at hl 1 rfl) ?_
    refine xa_cI (va_runV (As := []) (rest := []) ⟨hx, hb, hml, hown, hts⟩ (c_E_over l D q cA kf2_21 kg2_21 af2_21 bf2_21 rk2_21 rv2_21 rm2_21 rs2_21 (nI (R0.length + ST.length)) bp bk bv (xb_i false) (nI 0) (xs_S B0 (xs_new B0 R0 (xs_N ST)) (R0.length + ST.length)) lm hT2 hlm) (cwV 0 hts (zg_V zm_183 zm_185 zs_5 zm_1 zm_186) rfl rfl rfl (by decide +kernel) ⟨Nat.le_of_ble_eq_true rfl, Nat.le_of_ble_eq_true rfl⟩) (xp_preV (ci := 0) (q0 := 0) hK hP rfl rfl rfl hZ) rfl rfl hl.1 rfl (lv_room (Nat.le_of_ble_eq_true rfl)) d_E_commit_32 ⟨Nat.zero_le _, Nat.zero_le _⟩) ?_
    refine lv_if_eq (tgt := 45) hx hb d_E_commit_35 (by decide) (fun hc35 => ?_) (fun hc35 => ?_)
    · skip
      rw [xb_0] at hc35
      refine lv_aload_n hx hb d_E_commit_45 rfl (lv_at hl 1 rfl) ?_
      refine va_get (D := D) (ci := 0) (v := .ref (q 3)) (C := R_E) (T := F_E) (N := 4) hx hb hts (zi_E _) hown hK hP 0 rfl rfl 2 (by decide) (hts _ (List.mem_cons_of_mem _ zm_115)) (fun _ h9 => h9) rfl d_E_commit_46 ?_
      refine lv_iload_n hx hb d_E_commit_49 rfl (lv_at hl 0 rfl) ?_
      refine xa_cMV (va_runV (As := [.int (nI R0.length)]) (rest := []) ⟨hx, hb, hml, hown, hts⟩ (c_R_close l D q cA (nI lm) kf2_21 kg2_21 (nI (xs_S B0 (xs_new B0 R0 (xs_N ST)) (R0.length + ST.length)).length) af2_21 bf2_21 rk2_21 rv2_21 rm2_21 rs2_21 bp bk bv (xb_i false) (nI 0) H.size (R0.length + ST.length) R0.length (by omega) (by omega)) (cwV 1 hts (zg_V zm_293 zm_294 zm_295 zm_5 zm_296) rfl rfl rfl (by decide +kernel) ⟨Nat.le_of_ble_eq_true rfl, Nat.le_of_ble_eq_true rfl⟩) (xp_preVQ (ci := 3) (q0 := 3) hK hP hD rfl rfl rfl hZ) rfl rfl hl.1 rfl (lv_room (Nat.le_of_ble_eq_true rfl)) d_E_commit_50 ⟨Nat.zero_le _, Nat.zero_le _⟩) hS (xa_F hD hS hA) (fun u H locs hp50 hP hS => ?_)
      have hP : va_P D zz_cl (xw_C q cA (nI lm) kf2_21 kg2_21 (nI (xs_S B0 (xs_new B0 R0 (xs_N ST)) (R0.length + ST.length)).length) af2_21 bf2_21 (upd rk2_21 (R0.length + ST.length) (nI 0)) (vp_updL rv2_21 (R0.length + ST.length) 0) (upd rm2_21 (R0.length + ST.length) (nI 0)) (xw_fi (upd rs2_21 (R0.length + ST.length) (nI (R0.length + ST.length))) R0.length (R0.length + ST.length + 1) (nI R0.length)) (nI (R0.length + ST.length + 1)) bp bk bv (xb_i false) (nI 0)) H := hP
      have hD : va_D A (xw_C q cA (nI lm) kf2_21 kg2_21 (nI (xs_S B0 (xs_new B0 R0 (xs_N ST)) (R0.length + ST.length)).length) af2_21 bf2_21 (upd rk2_21 (R0.length + ST.length) (nI 0)) (vp_updL rv2_21 (R0.length + ST.length) 0) (upd rm2_21 (R0.length + ST.length) (nI 0)) (xw_fi (upd rs2_21 (R0.length + ST.length) (nI (R0.length + ST.length))) R0.length (R0.length + ST.length + 1) (nI R0.length)) (nI (R0.length + ST.length + 1)) bp bk bv (xb_i false) (nI 0)) := xa_E hD rfl
      refine lv_aload_n hx hb d_E_commit_53 rfl (lv_at hl 1 rfl) ?_
      refine va_get (D := D) (ci := 0) (v := .ref (q 3)) (C := R_E) (T := F_E) (N := 4) hx hb hts (zi_E _) hown hK hP 0 rfl rfl 2 (by decide) (hts _ (List.mem_cons_of_mem _ zm_115)) (fun _ h9 => h9) rfl d_E_commit_54 ?_
      refine va_getN (D := D) (ci := 3) (v := .int (nI (R0.length + ST.length + 1))) (C := R_R) (T := F_R) (N := 5) hx hb hts (zi_R _) hown hK hP 3 rfl rfl 4 (by decide) (va_Nw.use rfl (hZ _ zn_72)) (fun _ h9 => h9) rfl d_E_commit_57 ?_
      refine lv_iload_n hx hb d_E_commit_60 rfl (lv_at hl 0 rfl) ?_
      refine lv_isub hx hb d_E_commit_61 ?_
      refine xa_top (y := nI ((R0.length + ST.length + 1) - R0.length)) (pk_sub (by omega)) ?_
      refine lv_istore_n (lv' := [(2, .int (nI ((R0.length + ST.length + 1) - R0.length))), (1, .int (nI R0.length)), (0, .ref (q 0))]) hx hb d_E_commit_62 rfl hl (Nat.le_of_ble_eq_true rfl) rfl (fun ls hl => ?_)
      refine lv_aload_n hx hb d_E_commit_63 rfl (lv_at hl 2 rfl) ?_
      refine va_get (D := D) (ci := 0) (v := .ref (q 3)) (C := R_E) (T := F_E) (N := 4) hx hb hts (zi_E _) hown hK hP 0 rfl rfl 2 (by decide) (hts _ (List.mem_cons_of_mem _ zm_115)) (fun _ h9 => h9) rfl d_E_commit_64 ?_
      refine lv_iload_n hx hb d_E_commit_67 rfl (lv_at hl 1 rfl) ?_
      refine xa_cMV (va_runV (As := [.int (nI R0.length)]) (rest := []) ⟨hx, hb, hml, hown, hts⟩ (c_R_settle l D q cA (nI lm) kf2_21 kg2_21 (nI (xs_S B0 (xs_new B0 R0 (xs_N ST)) (R0.length + ST.length)).length) af2_21 bf2_21 (upd rk2_21 (R0.length + ST.length) (nI 0)) (vp_updL rv2_21 (R0.length + ST.length) 0) (upd rm2_21 (R0.length + ST.length) (nI 0)) (xw_fi (upd rs2_21 (R0.length + ST.length) (nI (R0.length + ST.length))) R0.length (R0.length + ST.length + 1) (nI R0.length)) bp bk bv (xb_i false) (nI 0) H.size (R0.length + ST.length + 1) R0.length (by omega) (by omega)) (cwV 1 hts (zg_V zm_241 zm_242 zm_243 zm_5 zm_244) rfl rfl rfl (by decide +kernel) ⟨Nat.le_of_ble_eq_true rfl, Nat.le_of_ble_eq_true rfl⟩) (xp_preVQ (ci := 3) (q0 := 3) hK hP hD rfl rfl rfl hZ) rfl rfl hl.1 rfl (lv_room (Nat.le_of_ble_eq_true rfl)) d_E_commit_68 ⟨Nat.zero_le _, Nat.zero_le _⟩) hS (xa_F hD hS hA) (fun u H locs hp68 hP hS => ?_)
      have hP : va_P D zz_cl (xw_C q cA (nI lm) kf2_21 kg2_21 (nI (xs_S B0 (xs_new B0 R0 (xs_N ST)) (R0.length + ST.length)).length) af2_21 bf2_21 (if 64 < R0.length + ST.length + 1 then xw_mv (upd rk2_21 (R0.length + ST.length) (nI 0)) R0.length (R0.length + ST.length + 1 - R0.length) else upd rk2_21 (R0.length + ST.length) (nI 0)) (if 64 < R0.length + ST.length + 1 then xw_mv (vp_updL rv2_21 (R0.length + ST.length) 0) R0.length (R0.length + ST.length + 1 - R0.length) else vp_updL rv2_21 (R0.length + ST.length) 0) (if 64 < R0.length + ST.length + 1 then xw_mv (upd rm2_21 (R0.length + ST.length) (nI 0)) R0.length (R0.length + ST.length + 1 - R0.length) else upd rm2_21 (R0.length + ST.length) (nI 0)) (if 64 < R0.length + ST.length + 1 then xm_mb (xw_fi (upd rs2_21 (R0.length + ST.length) (nI (R0.length + ST.length))) R0.length (R0.length + ST.length + 1) (nI R0.length)) R0.length (R0.length + ST.length + 1 - R0.length) else xw_fi (upd rs2_21 (R0.length + ST.length) (nI (R0.length + ST.length))) R0.length (R0.length + ST.length + 1) (nI R0.length)) (nI (if 64 < R0.length + ST.length + 1 then (R0.length + ST.length + 1 - R0.length) else R0.length + ST.length + 1)) bp bk bv (xb_i false) (nI 0)) H := hP
      have hD : va_D A (xw_C q cA (nI lm) kf2_21 kg2_21 (nI (xs_S B0 (xs_new B0 R0 (xs_N ST)) (R0.length + ST.length)).length) af2_21 bf2_21 (if 64 < R0.length + ST.length + 1 then xw_mv (upd rk2_21 (R0.length + ST.length) (nI 0)) R0.length (R0.length + ST.length + 1 - R0.length) else upd rk2_21 (R0.length + ST.length) (nI 0)) (if 64 < R0.length + ST.length + 1 then xw_mv (vp_updL rv2_21 (R0.length + ST.length) 0) R0.length (R0.length + ST.length + 1 - R0.length) else vp_updL rv2_21 (R0.length + ST.length) 0) (if 64 < R0.length + ST.length + 1 then xw_mv (upd rm2_21 (R0.length + ST.length) (nI 0)) R0.length (R0.length + ST.length + 1 - R0.length) else upd rm2_21 (R0.length + ST.length) (nI 0)) (if 64 < R0.length + ST.length + 1 then xm_mb (xw_fi (upd rs2_21 (R0.length + ST.length) (nI (R0.length + ST.length))) R0.length (R0.length + ST.length + 1) (nI R0.length)) R0.length (R0.length + ST.length + 1 - R0.length) else xw_fi (upd rs2_21 (R0.length + ST.length) (nI (R0.length + ST.length))) R0.length (R0.length + ST.length + 1) (nI R0.length)) (nI (if 64 < R0.length + ST.length + 1 then (R0.length + ST.length + 1 - R0.length) else R0.length + ST.length + 1)) bp bk bv (xb_i false) (nI 0)) := xa_E hD rfl
      have eb : xs_bad lm (xs_now B0 (xs_new B0 R0 (xs_N ST))) = false := by rw [hnw]; exact hc35
      have e0 : ¬ (false = true ∨ xs_bad lm (xs_now B0 (xs_new B0 R0 (xs_N ST))) = true) := by rw [eb]; decide
      have e1 : (if bt = true then xs_pB lm B0 R0 false (xs_N ST) else B0) = xs_B B0 R0 (xs_N ST) := by rw [if_pos hc7]; unfold xs_pB; rw [if_neg e0]
      have e2 : (if bt = true then xs_pR lm B0 R0 false (xs_N ST) else R0) = xs_Q B0 R0 (xs_N ST) := by rw [if_pos hc7]; unfold xs_pR; rw [if_neg e0]
      rw [show nI (if 64 < R0.length + ST.length + 1 then (R0.length + ST.length + 1 - R0.length) else R0.length + ST.length + 1) = nI (xs_Q B0 R0 (xs_N ST)).length from congrArg nI (xs_Q_N B0 R0 ST)] at hP hD
      refine lv_iload_n hx hb d_E_commit_71 rfl (lv_at hl 0 rfl) ?_
      exact W.iret (v := nI ((R0.length + ST.length + 1) - R0.length)) hx hb hr (fun tJ htJ hWJ => ⟨⟨_, (kf2_21, kg2_21, af2_21, bf2_21, if 64 < R0.length + ST.length + 1 then xw_mv (upd rk2_21 (R0.length + ST.length) (nI 0)) R0.length (R0.length + ST.length + 1 - R0.length) else upd rk2_21 (R0.length + ST.length) (nI 0), if 64 < R0.length + ST.length + 1 then xw_mv (vp_updL rv2_21 (R0.length + ST.length) 0) R0.length (R0.length + ST.length + 1 - R0.length) else vp_updL rv2_21 (R0.length + ST.length) 0, if 64 < R0.length + ST.length + 1 then xw_mv (upd rm2_21 (R0.length + ST.length) (nI 0)) R0.length (R0.length + ST.length + 1 - R0.length) else upd rm2_21 (R0.length + ST.length) (nI 0), if 64 < R0.length + ST.length + 1 then xm_mb (xw_fi (upd rs2_21 (R0.length + ST.length) (nI (R0.length + ST.length))) R0.length (R0.length + ST.length + 1) (nI R0.length)) R0.length (R0.length + ST.length + 1 - R0.length) else xw_fi (upd rs2_21 (R0.length + ST.length) (nI (R0.length + ST.length))) R0.length (R0.length + ST.length + 1) (nI R0.length), bp, bk, bv), rfl, ⟨by rw [if_pos hc7, if_neg (by rw [eb]; decide)]; exact congrArg nI (by omega), by rw [e1, e2, if_pos hc7]; exact xs_C_stay (by rw [xs_N_len]; rfl) (by rw [hnw]; exact hT2) (xs_N_cn hcn2) (xs_N_st hC.2.2.1 hrs2) (xs_bt_nil _ _ _)⟩, by dsimp only; rw [htJ]; rw [e1, e2, if_pos hc7, xs_now_add, hnw]; exact hP⟩, hS.F htJ⟩) hS.2.2 d_E_commit_72
    · skip
      rw [xb_1] at hc35
      refine lv_aload_n hx hb d_E_commit_38 rfl (lv_at hl 1 rfl) ?_
      refine lv_iload_n hx hb d_E_commit_39 rfl (lv_at hl 0 rfl) ?_
      refine xa_cMV (va_runV (As := [.int (nI R0.length)]) (rest := []) ⟨hx, hb, hml, hown, hts⟩ (c_E_tbf l D q cA (nI lm) kf2_21 kg2_21 af2_21 bf2_21 rk2_21 rv2_21 rm2_21 rs2_21 bp bk bv (xb_i false) (nI 0) H.size (xs_S B0 (xs_new B0 R0 (xs_N ST))) (R0.length + ST.length) R0.length hT2 (by omega) (by omega) (xs_N_U hok hst hC.2.2.2 hcn2)) (cwV 1 hts (zg_V zm_228 zm_230 zs_7 zm_1 zm_231) rfl rfl rfl (by decide +kernel) ⟨Nat.le_of_ble_eq_true rfl, Nat.le_of_ble_eq_true rfl⟩) (xp_preVQ (ci := 0) (q0 := 0) hK hP hD rfl rfl rfl hZ) rfl rfl hl.1 rfl (lv_room (Nat.le_of_ble_eq_true rfl)) d_E_commit_40 ⟨Nat.zero_le _, Nat.zero_le _⟩) hS (xa_F hD hS hA) (fun u H locs hp40 hP hS => ?_)
      obtain ⟨kf2_40, kg2_40, af2_40, bf2_40⟩ := u
      have hP : va_P D zz_cl (xw_C q cA (nI lm) kf2_40 kg2_40 (nI (xs_S B0 (xs_new B0 R0 (xs_N ST)) R0.length).length) af2_40 bf2_40 rk2_21 rv2_21 rm2_21 rs2_21 (nI R0.length) bp bk bv (xb_i false) (nI 0)) H := hP
      have hD : va_D A (xw_C q cA (nI lm) kf2_40 kg2_40 (nI (xs_S B0 (xs_new B0 R0 (xs_N ST)) R0.length).length) af2_40 bf2_40 rk2_21 rv2_21 rm2_21 rs2_21 (nI R0.length) bp bk bv (xb_i false) (nI 0)) := xa_E hD rfl
      have hp40 : xw_KT kf2_40 kg2_40 af2_40 bf2_40 (xs_S B0 (xs_new B0 R0 (xs_N ST)) R0.length) := hp40
      have eb : xs_bad lm (xs_now B0 (xs_new B0 R0 (xs_N ST))) = true := by rw [hnw]; exact hc35
      have e1 : (if bt = true then xs_pB lm B0 R0 false (xs_N ST) else B0) = B0 := by rw [if_pos hc7]; unfold xs_pB; rw [if_pos (Or.inr eb)]
      have e2 : (if bt = true then xs_pR lm B0 R0 false (xs_N ST) else R0) = R0 := by rw [if_pos hc7]; unfold xs_pR; rw [if_pos (Or.inr eb)]
      rw [show nI (xs_S B0 (xs_new B0 R0 (xs_N ST)) R0.length).length = nI (xs_now B0 R0).length from by rw [xs_now_new]] at hP hD
      refine lv_iconst (v := nI 0) hx hb d_E_commit_43 (by decide +kernel) ?_
      exact W.iret (v := nI 0) hx hb hr (fun tJ htJ hWJ => ⟨⟨_, (kf2_40, kg2_40, af2_40, bf2_40, rk2_21, rv2_21, rm2_21, rs2_21, bp, bk, bv), rfl, ⟨by rw [if_pos hc7, if_pos eb], by rw [e1, e2, if_pos hc7]; exact xs_C_back hp40 hcn2 (by omega) (xs_st_keep hC.2.2.1 hrs2) (xs_bt_nil _ _ _)⟩, by dsimp only; rw [htJ]; rw [e1, e2, if_pos hc7]; exact hP⟩, hS.F htJ⟩) hS.2.2 d_E_commit_44
  · skip
    rw [xb_0] at hc7
    refine lv_iconst (v := (-1)) hx hb d_E_commit_10 (by decide +kernel) ?_
    exact W.iret (v := (-1)) hx hb hr (fun tJ htJ hWJ => ⟨⟨_, (kf, kg, af, bf, rk, rv, rm, rs, bp, bk, bv), rfl, ⟨by rw [if_neg (by rw [hc7]; decide)], by rw [if_neg (by rw [hc7]; decide), if_neg (by rw [hc7]; decide), if_neg (by rw [hc7]; decide)]; exact hC⟩, by dsimp only; rw [htJ]; rw [if_neg (by rw [hc7]; decide), if_neg (by rw [hc7]; decide), if_neg (by rw [hc7]; decide), ← hc7]; exact hP⟩, hS.F htJ⟩) hS.2.2 d_E_commit_11
end
section
/-! Pure: the reference's arrays and its searches. -/
def xm_T (ky : Nat → Int32) (vl : Nat → Int64) (K : List xk_E) : Prop := K.length ≤ 65 ∧ xk_asc K ∧ xk_tie ky vl K
theorem xm_T_put {ky : Nat → Int32} {vl : Nat → Int64} {K : List xk_E} (h : xm_T ky vl K) {k : Int32} (v : Int64) (hk : xk_has K k = true) : xm_T ky (vp_updL vl (xk_lo K k) v) (xk_set K k v) := ⟨by rw [xk_set_len, if_pos hk]; exact h.1, xk_asc_set h.2.1 k v, xk_tie_put h.2.2 v hk⟩
theorem xm_T_ins {ky ky' : Nat → Int32} {vl vl' : Nat → Int64} {K : List xk_E} (h : xm_T ky vl K) {k : Int32} {v : Int64} (hk : xk_has K k = false) (hl : (xk_set K k v).length ≤ 65) (hf : ∀ j, j < K.length + 1 → ky' j = xk_ins ky (xk_lo K k) k j) (hg : ∀ j, j < K.length + 1 → vl' j = xk_ins vl (xk_lo K k) v j) : xm_T ky' vl' (xk_set K k v) := ⟨hl, xk_asc_set h.2.1 k v, xk_tie_ins h.2.2 hk hf hg⟩
theorem xm_T_del {ky ky' : Nat → Int32} {vl vl' : Nat → Int64} {K : List xk_E} (h : xm_T ky vl K) {k : Int32} (hk : xk_has K k = true) (hf : ∀ j, j + 1 < K.length → ky' j = xk_del ky (xk_lo K k) j) (hg : ∀ j, j + 1 < K.length → vl' j = xk_del vl (xk_lo K k) j) : xm_T ky' vl' (xk_rem K k) := ⟨by rw [xk_rem_len, if_pos hk]; have := h.1; omega, xk_asc_rem h.2.1 k, xk_tie_del h.2.2 hk hf hg⟩
def xm_fd (K : List xk_E) (k : Int32) : Int32 := if xk_has K k = true then nI (xk_lo K k) else -1
theorem xm_fd_f {K : List xk_E} {k : Int32} (hl : K.length ≤ 65) (h : xm_fd K k < 0) : xk_has K k = false := by
  rw [← Bool.not_eq_true]
  intro q
  have := xk_lo_le K k
  rw [xm_fd, if_pos q] at h
  exact nI_pos (by omega) h
theorem xm_fd_t {K : List xk_E} {k : Int32} (h : ¬ xm_fd K k < 0) : xk_has K k = true := by
  refine Classical.byContradiction fun q => ?_
  rw [xm_fd, if_neg q] at h
  exact h (by decide)
theorem xm_fd_eq {K : List xk_E} {k : Int32} (h : xk_has K k = true) : xm_fd K k = nI (xk_lo K k) := by rw [xm_fd, if_pos h]
theorem xm_f1 {K : List xk_E} (hA : xk_asc K) {k : Int32} {i : Nat} {e : xk_E} (he : K[i]? = some e) (h : e.1 = k) : nI i = if xk_lo K k < i + 1 ∧ xk_has K k = true then nI (xk_lo K k) else (-1) := by
  obtain ⟨h1, h2⟩ := (xk_there hA he).mp h
  rw [if_pos ⟨by omega, h2⟩, h1]
theorem xm_f2 {K : List xk_E} (hA : xk_asc K) {k : Int32} {i : Nat} {e : xk_E} {a : Int32} (ha : a = if xk_lo K k < i ∧ xk_has K k = true then nI (xk_lo K k) else (-1)) (he : K[i]? = some e) (h : ¬ e.1 = k) : a = if xk_lo K k < i + 1 ∧ xk_has K k = true then nI (xk_lo K k) else (-1) := by
  rw [ha]
  by_cases z : xk_lo K k < i ∧ xk_has K k = true
  · rw [if_pos z, if_pos ⟨by omega, z.2⟩]
  · rw [if_neg z, if_neg]
    rintro ⟨y1, y2⟩
    by_cases w : xk_lo K k = i
    · exact h ((xk_there hA he).mpr ⟨w.symm, y2⟩)
    · exact z ⟨by omega, y2⟩
theorem xm_f3 {K : List xk_E} {k : Int32} {i : Nat} {a : Int32} (ha : a = if xk_lo K k < i ∧ xk_has K k = true then nI (xk_lo K k) else (-1)) (h : i = K.length) : a = xm_fd K k := by
  rw [ha, xm_fd]
  by_cases z : xk_has K k = true
  · have := xk_has_lt z
    rw [if_pos z, if_pos ⟨by omega, z⟩]
  · rw [if_neg z, if_neg (fun q => z q.2)]
theorem xg_s0 {same a : Bool} (h : same = false) : nI 0 = xb_i (same && a) := by subst h; exact xb_f.symm
theorem xg_s1 {same : Bool} {a b : Prop} {da : Decidable a} {db : Decidable b} (h : same = true) (g : a ∨ b) : nI 1 = xb_i (same && (decide a || decide b)) := by
  subst h
  have : (true && (decide a || decide b)) = true := by simpa using g
  rw [this]; exact xb_t.symm
theorem xg_s2 {same : Bool} {a b : Prop} {da : Decidable a} {db : Decidable b} (h : ¬ a) (g : ¬ b) : nI 0 = xb_i (same && (decide a || decide b)) := by
  have : (same && (decide a || decide b)) = false := by simp [h, g]
  rw [this]; exact xb_f.symm
/-- the depth at a place, or -1 -/
def xm_rd (K : List xk_E) (p : Nat) : Int32 := if xd_pl K p = true then nI (xd_dp K p) else -1
def xm_wh (K : List xk_E) (p d : Nat) : Bool := decide (d = 0) || !xd_gd K (d - 1) (p % 2 ^ (d - 1))
theorem xm_w1 {K : List xk_E} {p d : Nat} (h : d = 0 ∨ xd_gd K (d - 1) (p % 2 ^ (d - 1)) = false) : nI 1 = xb_i (xm_wh K p d) := by
  have : xm_wh K p d = true := by simpa [xm_wh] using h
  rw [this]; exact xb_t.symm
theorem xm_w0 {K : List xk_E} {p d : Nat} (h1 : ¬ d = 0) (h2 : xd_gd K (d - 1) (p % 2 ^ (d - 1)) = true) : nI 0 = xb_i (xm_wh K p d) := by
  have : xm_wh K p d = false := by simp [xm_wh, h1, h2]
  rw [this]; exact xb_f.symm
theorem xm_wh_iff {K : List xk_E} {p d : Nat} : xm_wh K p d = true ↔ (d = 0 ∨ xd_gd K (d - 1) (p % 2 ^ (d - 1)) = false) := by simp [xm_wh]
theorem xm_rd_y {K : List xk_E} {p d : Nat} (hd : d ≤ 6) (h : p < 2 ^ d) (g : xd_gd K d p = true) (w : xm_wh K p d = true) : nI d = if xd_dp K p < d + 1 ∧ xd_pl K p = true then nI (xd_dp K p) else (-1) := by
  obtain ⟨h1, h2⟩ := (xd_ref_iff hd).mp ⟨h, g, xm_wh_iff.mp w⟩
  rw [if_pos ⟨by omega, h2⟩, h1]
theorem xm_rd_n {K : List xk_E} {p d : Nat} {fo : Int32} (hf : fo = if xd_dp K p < d ∧ xd_pl K p = true then nI (xd_dp K p) else (-1)) (hd : d ≤ 6) (h : ¬ (p < 2 ^ d ∧ xd_gd K d p = true ∧ xm_wh K p d = true)) : fo = if xd_dp K p < d + 1 ∧ xd_pl K p = true then nI (xd_dp K p) else (-1) := by
  rw [hf]
  by_cases z : xd_dp K p < d ∧ xd_pl K p = true
  · rw [if_pos z, if_pos ⟨by omega, z.2⟩]
  · rw [if_neg z, if_neg]
    rintro ⟨y1, y2⟩
    by_cases w : d = xd_dp K p
    · obtain ⟨a, b, c⟩ := (xd_ref_iff hd).mpr ⟨w, y2⟩
      exact h ⟨a, b, xm_wh_iff.mpr c⟩
    · exact z ⟨by omega, y2⟩
theorem xm_rd_e {K : List xk_E} {p d : Nat} {fo : Int32} (hf : fo = if xd_dp K p < d ∧ xd_pl K p = true then nI (xd_dp K p) else (-1)) (h : 6 < d) : fo = xm_rd K p := by
  have := xd_dp_le K p
  rw [hf, xm_rd]
  by_cases z : xd_pl K p = true
  · rw [if_pos z, if_pos ⟨by omega, z⟩]
  · rw [if_neg z, if_neg (fun q => z q.2)]
theorem xm_rd_pl {K : List xk_E} {p : Nat} (h : ¬ xm_rd K p < 0) : xd_pl K p = true := by
  refine Classical.byContradiction fun q => ?_
  rw [xm_rd, if_neg q] at h
  exact h (by decide)
theorem xm_rd_np {K : List xk_E} {p : Nat} (h : xm_rd K p < 0) : xd_pl K p = false := by
  rw [← Bool.not_eq_true]
  intro q
  have := xd_dp_le K p
  rw [xm_rd, if_pos q] at h
  exact nI_pos (by omega) h
theorem xm_rd_eq {K : List xk_E} {p : Nat} (h : xd_pl K p = true) : xm_rd K p = nI (xd_dp K p) := by rw [xm_rd, if_pos h]
theorem xm_g1 {K : List xk_E} {p : Nat} (h : xm_rd K p ≤ nI (xd_gm K p)) : nI (xd_gm K p) = nI (xd_gm K (p + 1)) := by
  cases q : xd_pl K p with
  | false => rw [xd_gm_no q]
  | true =>
    have h1 := xd_dp_le K p
    have h2 := xd_gm_le K p
    rw [xm_rd_eq q, nI_leI (by omega) (by omega)] at h
    simp only [xd_gm]
    rw [Nat.max_eq_left h]
theorem xm_g2 {K : List xk_E} {p : Nat} (h : ¬ xm_rd K p ≤ nI (xd_gm K p)) : xm_rd K p = nI (xd_gm K (p + 1)) := by
  have h1 := xd_dp_le K p
  have h2 := xd_gm_le K p
  cases q : xd_pl K p with
  | false =>
    rw [xm_rd, if_neg (by rw [q]; decide)] at h
    refine absurd ?_ h
    rw [Int32.le_iff_toInt_le, nI_toInt (by omega)]
    have e : (-1 : Int32).toInt = -1 := by decide
    omega
  | true =>
    rw [xm_rd_eq q, nI_leI (by omega) (by omega)] at h
    rw [xm_rd_eq q]
    simp only [xd_gm]
    rw [Nat.max_eq_right (by omega)]
theorem xm_b1 {K : List xk_E} {h p : Nat} (hp : xd_pl K p = true) (g : h % 2 ^ xd_dp K p = p) : p = h % 2 ^ xd_dp K h := xo_uniq hp g
theorem xm_b2 {K : List xk_E} {h : Nat} : xd_pl K (h % 2 ^ xd_dp K h) = true ∧ h % 2 ^ xd_dp K (h % 2 ^ xd_dp K h) = h % 2 ^ xd_dp K h := ⟨xd_pl_place K h, by rw [xd_dp_place]⟩
theorem xm_bn {K : List xk_E} {h p pl : Nat} (hf : pl = if h % 2 ^ xd_dp K h < p then h % 2 ^ xd_dp K h else 0) (hn : ¬ (xd_pl K p = true ∧ h % 2 ^ xd_dp K p = p)) : pl = if h % 2 ^ xd_dp K h < p + 1 then h % 2 ^ xd_dp K h else 0 := by
  have hne : h % 2 ^ xd_dp K h ≠ p := fun q => by
    have := xm_b2 (K := K) (h := h)
    rw [q] at this
    exact hn this
  rw [hf]
  by_cases z : h % 2 ^ xd_dp K h < p
  · rw [if_pos z, if_pos (by omega)]
  · rw [if_neg z, if_neg (by omega)]
theorem xm_by {K : List xk_E} {h p : Nat} (hp : xd_pl K p = true) (g : h % 2 ^ xd_dp K p = p) : p = if h % 2 ^ xd_dp K h < p + 1 then h % 2 ^ xd_dp K h else 0 := by
  have e := xm_b1 hp g
  rw [if_pos (by omega)]
  exact e
end
section
/-! Walks: specs_m (printed by run.py) -/
set_option maxHeartbeats 4000000 in
set_option maxRecDepth 100000 in
theorem c_M_hash (l : Launch) (D : va_G) (q : Nat → Nat) (cA : Nat → ClassId) (lim : Int32) (bs : Int32) (bk : Nat → Int32) (bv : Nat → Int64) (rn : Int32) (wh : Nat → Int32) (rk : Nat → Int32) (rv : Nat → Int64) (bg : Nat → Int32) (bt : Int32) (sc : Int32) (sw : Nat → Int32) (sk : Nat → Int32) (sv : Nat → Int64) (kp : Int32) (ky : Nat → Int32) (vl : Nat → Int64) (k : Int32)  : Met l y_M_hash zw_M_hash ({ frames := 0, cells := 0, slots := 0, locals := 0 } : Room) (va_Pc [.ref (q 0), .int k] (xp_R D zz_cl (xw_tM cA) (xw_M q cA lim bs bk bv rn wh rk rv bg bt sc sw sk sv kp ky vl))) (vp_Si (fun r : Int32 => r = (nI (xk_h k)))) 0 0 (fun _ => False) := by
  refine Met.ofW (cc := b_M_hash) (maxL := 2) (ret := (some .int)) (by decide) rfl ?_
  intro pJ eJ s mJ args below meth cJ s₁ B hml hv
  obtain ⟨rfl, hP, hK, hZ⟩ := hv
  have hx := B.exec
  have hb := B.bytes
  have hr := B.returns
  have hts := atoms_spec (ws := zw_M_hash) B.pre
  have hown : s.vm.findClass R_M = some mJ.cls := findClass_of_methodNamed B.named
  have hlocks := B.notSynchronized
  have hl := lv_entry ([.ref (q 0), .int k]) (n := 2) (Nat.le_of_ble_eq_true rfl)
  rw [lg_entry_eq]
  generalize (lg_sl ([.ref (q 0), .int k]) ++ List.replicate (2 - (lg_sl ([.ref (q 0), .int k])).length) Slot.unset).toArray = ls at hl ⊢
  have hl : lv_has ls 2 [(0, .ref (q 0)), (1, .int k)] := hl
  refine lv_iload_n hx hb d_M_hash_0 rfl (lv_at hl 1 rfl) ?_
  refine lv_iload_n hx hb d_M_hash_1 rfl (lv_at hl 1 rfl) ?_
  refine lv_bipush (v := nI 6) hx hb d_M_hash_2 (by decide +kernel) ?_
  refine lv_iushr (v := xk_u k (nI 6)) hx hb d_M_hash_4 rfl ?_
  refine lv_ixor hx hb d_M_hash_5 ?_
  refine lv_iload_n hx hb d_M_hash_6 rfl (lv_at hl 1 rfl) ?_
  refine lv_bipush (v := nI 12) hx hb d_M_hash_7 (by decide +kernel) ?_
  refine lv_iushr (v := xk_u k (nI 12)) hx hb d_M_hash_9 rfl ?_
  refine lv_ixor hx hb d_M_hash_10 ?_
  refine lv_iload_n hx hb d_M_hash_11 rfl (lv_at hl 1 rfl) ?_
  refine lv_bipush (v := nI 18) hx hb d_M_hash_12 (by decide +kernel) ?_
  refine lv_iushr (v := xk_u k (nI 18)) hx hb d_M_hash_14 rfl ?_
  refine lv_ixor hx hb d_M_hash_15 ?_
  refine lv_iload_n hx hb d_M_hash_16 rfl (lv_at hl 1 rfl) ?_
  refine lv_bipush (v := nI 24) hx hb d_M_hash_17 (by decide +kernel) ?_
  refine lv_iushr (v := xk_u k (nI 24)) hx hb d_M_hash_19 rfl ?_
  refine lv_ixor hx hb d_M_hash_20 ?_
  refine lv_iload_n hx hb d_M_hash_21 rfl (lv_at hl 1 rfl) ?_
  refine lv_bipush (v := nI 30) hx hb d_M_hash_22 (by decide +kernel) ?_
  refine lv_iushr (v := xk_u k (nI 30)) hx hb d_M_hash_24 rfl ?_
  refine lv_ixor hx hb d_M_hash_25 ?_
  refine lv_bipush (v := nI 63) hx hb d_M_hash_26 (by decide +kernel) ?_
  refine lv_iand hx hb d_M_hash_28 ?_
  refine xa_top (y := nI (xk_h k)) (xk_h_eq k) ?_
  exact W.iret (v := nI (xk_h k)) hx hb hr (fun tJ htJ hWJ => ⟨_, rfl, rfl, htJ⟩) (fun _ h => by cases h) d_M_hash_29
set_option maxHeartbeats 4000000 in
set_option maxRecDepth 100000 in
theorem c_M_inC (l : Launch) (D : va_G) (q : Nat → Nat) (cA : Nat → ClassId) (lim : Int32) (bs : Int32) (bk : Nat → Int32) (bv : Nat → Int64) (rn : Int32) (wh : Nat → Int32) (rk : Nat → Int32) (rv : Nat → Int64) (bg : Nat → Int32) (bt : Int32) (sc : Int32) (sw : Nat → Int32) (sk : Nat → Int32) (sv : Nat → Int64) (kp : Int32) (ky : Nat → Int32) (vl : Nat → Int64) (h : Nat) (d : Nat) (p : Nat) (hh : h < 64) (hd : d ≤ 6) (hp : p < 64) : Met l y_M_inClass zw_M_inClass ({ frames := 0, cells := 0, slots := 0, locals := 0 } : Room) (va_Pc [.ref (q 0), .int (nI h), .int (nI d), .int (nI p)] (xp_R D zz_cl (xw_tM cA) (xw_M q cA lim bs bk bv rn wh rk rv bg bt sc sw sk sv kp ky vl))) (vp_Si (fun r : Int32 => r = (xb_i (decide (h % 2 ^ d = p))))) 0 0 (fun _ => False) := by
  refine Met.ofW (cc := b_M_inClass) (maxL := 4) (ret := (some .boolean)) (by decide) rfl ?_
  intro pJ eJ s mJ args below meth cJ s₁ B hml hv
  obtain ⟨rfl, hP, hK, hZ⟩ := hv
  have hx := B.exec
  have hb := B.bytes
  have hr := B.returns
  have hts := atoms_spec (ws := zw_M_inClass) B.pre
  have hown : s.vm.findClass R_M = some mJ.cls := findClass_of_methodNamed B.named
  have hlocks := B.notSynchronized
  have hl := lv_entry ([.ref (q 0), .int (nI h), .int (nI d), .int (nI p)]) (n := 4) (Nat.le_of_ble_eq_true rfl)
  rw [lg_entry_eq]
  generalize (lg_sl ([.ref (q 0), .int (nI h), .int (nI d), .int (nI p)]) ++ List.replicate (4 - (lg_sl ([.ref (q 0), .int (nI h), .int (nI d), .int (nI p)])).length) Slot.unset).toArray = ls at hl ⊢
  have hl : lv_has ls 4 [(0, .ref (q 0)), (1, .int (nI h)), (2, .int (nI d)), (3, .int (nI p))] := hl
  have hpos := Nat.two_pow_pos d
  have hm := Nat.mod_le h (2 ^ d)
  refine lv_iload_n hx hb d_M_inClass_0 rfl (lv_at hl 1 rfl) ?_
  refine lv_iconst (v := nI 1) hx hb d_M_inClass_1 (by decide +kernel) ?_
  refine lv_iload_n hx hb d_M_inClass_2 rfl (lv_at hl 2 rfl) ?_
  refine lv_ishl hx hb d_M_inClass_3 ?_
  refine xa_top (y := nI (2 ^ d)) (xw_shl hd) ?_
  refine lv_iconst (v := nI 1) hx hb d_M_inClass_4 (by decide +kernel) ?_
  refine lv_isub hx hb d_M_inClass_5 ?_
  refine xa_top (y := nI ((2 ^ d) - 1)) (pk_sub (by omega)) ?_
  refine lv_iand hx hb d_M_inClass_6 ?_
  refine xa_top (y := nI (h % 2 ^ d)) (xw_and (by omega) hd) ?_
  refine lv_iload_n hx hb d_M_inClass_7 rfl (lv_at hl 3 rfl) ?_
  refine lv_icmp_ne (tgt := 15) hx hb d_M_inClass_8 (by decide) (fun hc8 => ?_) (fun hc8 => ?_)
  · skip
    rw [nI_eq (by omega) (by omega)] at hc8
    refine lv_iconst (v := nI 0) hx hb d_M_inClass_15 (by decide +kernel) ?_
    exact W.zret (ty := .boolean) (v := nI 0) hx hb hr (by decide +kernel) (fun tJ htJ hWJ => ⟨_, rfl, by first | (rw [decide_eq_true hc8]; exact xb_t.symm) | (rw [decide_eq_false hc8]; exact xb_f.symm), htJ⟩) (fun _ h => by cases h) d_M_inClass_16
  · skip
    rw [nI_eq (by omega) (by omega)] at hc8
    refine lv_iconst (v := nI 1) hx hb d_M_inClass_11 (by decide +kernel) ?_
    refine lv_goto (tgt := 16) hx hb d_M_inClass_12 (by decide) ?_
    exact W.zret (ty := .boolean) (v := nI 1) hx hb hr (by decide +kernel) (fun tJ htJ hWJ => ⟨_, rfl, by first | (rw [decide_eq_true hc8]; exact xb_t.symm) | (rw [decide_eq_false hc8]; exact xb_f.symm), htJ⟩) (fun _ h => by cases h) d_M_inClass_16
set_option maxHeartbeats 4000000 in
set_option maxRecDepth 100000 in
theorem c_M_count (l : Launch) (D : va_G) (q : Nat → Nat) (cA : Nat → ClassId) (lim : Int32) (bs : Int32) (bk : Nat → Int32) (bv : Nat → Int64) (rn : Int32) (wh : Nat → Int32) (rk : Nat → Int32) (rv : Nat → Int64) (bg : Nat → Int32) (bt : Int32) (sc : Int32) (sw : Nat → Int32) (sk : Nat → Int32) (sv : Nat → Int64) (ky : Nat → Int32) (vl : Nat → Int64) (K : List xk_E) (d : Nat) (p : Nat) (hM : xm_T ky vl K) (hd : d ≤ 6) (hp : p < 64) : Met l y_M_count zw_M_count ({ frames := 1, cells := 0, slots := 0, locals := 23 } : Room) (va_Pc [.ref (q 0), .int (nI d), .int (nI p)] (xp_R D zz_cl (xw_tM cA) (xw_M q cA lim bs bk bv rn wh rk rv bg bt sc sw sk sv (nI K.length) ky vl))) (vp_Si (fun r : Int32 => r = (nI (xd_cn K d p)))) 0 0 (fun _ => False) := by
  refine Met.ofW (cc := b_M_count) (maxL := 5) (ret := (some .int)) (by decide) rfl ?_
  intro pJ eJ s mJ args below meth cJ s₁ B hml hv
  obtain ⟨rfl, hP, hK, hZ⟩ := hv
  have hx := B.exec
  have hb := B.bytes
  have hr := B.returns
  have hts := atoms_spec (ws := zw_M_count) B.pre
  have hown : s.vm.findClass R_M = some mJ.cls := findClass_of_methodNamed B.named
  have hlocks := B.notSynchronized
  have hl := lv_entry ([.ref (q 0), .int (nI d), .int (nI p)]) (n := 5) (Nat.le_of_ble_eq_true rfl)
  rw [lg_entry_eq]
  generalize (lg_sl ([.ref (q 0), .int (nI d), .int (nI p)]) ++ List.replicate (5 - (lg_sl ([.ref (q 0), .int (nI d), .int (nI p)])).length) Slot.unset).toArray = ls at hl ⊢
  have hl : lv_has ls 5 [(0, .ref (q 0)), (1, .int (nI d)), (2, .int (nI p))] := hl
  have hlen := hM.1
  refine lv_iconst (v := nI 0) hx hb d_M_count_0 (by decide +kernel) ?_
  refine lv_istore_n (lv' := [(3, .int (nI 0)), (0, .ref (q 0)), (1, .int (nI d)), (2, .int (nI p))]) hx hb d_M_count_1 rfl hl (Nat.le_of_ble_eq_true rfl) rfl (fun ls hl => ?_)
  refine lv_iconst (v := nI 0) hx hb d_M_count_2 (by decide +kernel) ?_
  refine lv_istore (lv' := [(4, .int (nI 0)), (3, .int (nI 0)), (0, .ref (q 0)), (1, .int (nI d)), (2, .int (nI p))]) hx hb d_M_count_3 hl (Nat.le_of_ble_eq_true rfl) rfl (fun ls hl => ?_)
  have lp5 : ∀ (N : Nat) (i : Nat) (n : Nat) (ls : Array Slot), (i ≤ K.length) → (n = xd_cn (K.take i) d p) → lv_has ls 5 [(0, .ref (q 0)), (1, .int (nI d)), (2, .int (nI p)), (3, .int (nI n)), (4, .int (nI i))] → K.length - i < N → W pJ l eJ (headSpec zw_M_count ({ frames := 1, cells := 0, slots := 0, locals := 23 } : Room)).room s mJ ([.ref (q 0), .int (nI d), .int (nI p)] : List Value).toArray below meth cJ s.heap [] 0 0 (MQ below (vp_Si (fun r : Int32 => r = (nI (xd_cn K d p)))) ([.ref (q 0), .int (nI d), .int (nI p)] : List Value).toArray s 0 0 (fun _ => False)) (F0 mJ 5 ls []) := by
    intro N
    induction N with
    | zero => intro i n ls hi hn hl hm; exact absurd hm (Nat.not_lt_zero _)
    | succ N ih5 =>
      intro i n ls hi hn hl hm
      refine lv_iload hx hb d_M_count_5 (lv_at hl 4 rfl) ?_
      refine lv_aload_n hx hb d_M_count_7 rfl (lv_at hl 0 rfl) ?_
      refine va_get (D := D) (ci := 5) (v := .int (nI K.length)) (C := R_M) (T := F_M) (N := 17) hx hb hts (zi_M _) hown hK hP 0 rfl rfl 14 (by decide) (hts _ (List.mem_cons_of_mem _ zm_390)) (fun _ h9 => h9) rfl d_M_count_8 ?_
      refine lv_icmp_ge (tgt := 48) hx hb d_M_count_11 (by decide) (fun hc11 => ?_) (fun hc11 => ?_)
      · skip
        rw [nI_leI (by omega) (by omega)] at hc11
        refine lv_iload_n hx hb d_M_count_48 rfl (lv_at hl 3 rfl) ?_
        exact W.iret (v := nI n) hx hb hr (fun tJ htJ hWJ => ⟨_, rfl, by rw [hn, show i = K.length from by omega, List.take_length], htJ⟩) (fun _ h => by cases h) d_M_count_49
      · skip
        rw [nI_leI (by omega) (by omega)] at hc11
        obtain ⟨e, he⟩ : ∃ e, K[i]? = some e := ⟨_, List.getElem?_eq_getElem (by omega)⟩
        have hfe := (xk_tie_f hM.2.2 he).1
        refine lv_aload_n hx hb d_M_count_14 rfl (lv_at hl 0 rfl) ?_
        refine lv_aload_n hx hb d_M_count_15 rfl (lv_at hl 0 rfl) ?_
        refine lv_aload_n hx hb d_M_count_16 rfl (lv_at hl 0 rfl) ?_
        refine va_get (D := D) (ci := 5) (v := .ref (q 10)) (C := R_M) (T := F_M) (N := 17) hx hb hts (zi_M _) hown hK hP 0 rfl rfl 15 (by decide) (hts _ (List.mem_cons_of_mem _ zm_391)) (fun _ h9 => h9) rfl d_M_count_17 ?_
        refine lv_iload hx hb d_M_count_20 (lv_at hl 4 rfl) ?_
        refine xa_iald hx hb hK hP 10 9 rfl rfl (k := i) (by omega) (by decide) d_M_count_22 ?_
        refine xa_top (y := e.1) hfe ?_
        refine xa_cI (va_runV (As := [.int e.1]) (rest := [.ref (q 0)]) ⟨hx, hb, hml, hown, hts⟩ (c_M_hash l D q cA lim bs bk bv rn wh rk rv bg bt sc sw sk sv (nI K.length) ky vl e.1) (cwV 1 hts (zg_V zm_484 zm_486 zs_23 zm_7 zm_487) rfl rfl rfl (by decide +kernel) ⟨Nat.le_of_ble_eq_true rfl, Nat.le_of_ble_eq_true rfl⟩) (xp_preV (ci := 5) (q0 := 0) hK hP rfl rfl rfl hZ) rfl rfl hl.1 rfl (lv_room (Nat.le_of_ble_eq_true rfl)) d_M_count_23 ⟨Nat.zero_le _, Nat.zero_le _⟩) ?_
        refine lv_iload_n hx hb d_M_count_26 rfl (lv_at hl 1 rfl) ?_
        refine lv_iload_n hx hb d_M_count_27 rfl (lv_at hl 2 rfl) ?_
        refine xa_cI (va_runV (As := [.int (nI (xk_h e.1)), .int (nI d), .int (nI p)]) (rest := []) ⟨hx, hb, hml, hown, hts⟩ (c_M_inC l D q cA lim bs bk bv rn wh rk rv bg bt sc sw sk sv (nI K.length) ky vl (xk_h e.1) d p (by first | exact xk_h_lt _ | omega) (by first | exact xd_dp_le _ _ | omega) (by omega)) (cwV 3 hts (zg_V zm_488 zm_490 zs_24 zm_7 zm_491) rfl rfl rfl (by decide +kernel) ⟨Nat.le_of_ble_eq_true rfl, Nat.le_of_ble_eq_true rfl⟩) (xp_preV (ci := 5) (q0 := 0) hK hP rfl rfl rfl hZ) rfl rfl hl.1 rfl (lv_room (Nat.le_of_ble_eq_true rfl)) d_M_count_28 ⟨Nat.zero_le _, Nat.zero_le _⟩) ?_
        refine lv_if_eq (tgt := 40) hx hb d_M_count_31 (by decide) (fun hc31 => ?_) (fun hc31 => ?_)
        · skip
          rw [xb_0] at hc31
          refine lv_iload_n hx hb d_M_count_40 rfl (lv_at hl 3 rfl) ?_
          refine lv_istore_n (lv' := [(3, .int (nI n)), (0, .ref (q 0)), (1, .int (nI d)), (2, .int (nI p)), (4, .int (nI i))]) hx hb d_M_count_41 rfl hl (Nat.le_of_ble_eq_true rfl) rfl (fun ls hl => ?_)
          refine lv_iinc (k := 4) (v := nI (i + 1)) (lv' := [(4, .int (nI (i + 1))), (3, .int (nI n)), (0, .ref (q 0)), (1, .int (nI d)), (2, .int (nI p))]) hx hb d_M_count_42 hl rfl (xn_inc _) (Nat.le_of_ble_eq_true rfl) rfl (fun ls hl => ?_)
          refine lv_goto (tgt := 5) hx hb d_M_count_45 (by decide) ?_
          exact ih5 (i + 1) n ls (by omega) (by first | rw [xd_cn_take he, if_pos (by simpa using hc31), hn] | rw [xd_cn_take he, if_neg (by simpa using hc31), hn]) (lv_sub hl [2, 3, 4, 1, 0] rfl) (by omega)
        · skip
          rw [xb_1] at hc31
          refine lv_iload_n hx hb d_M_count_34 rfl (lv_at hl 3 rfl) ?_
          refine lv_iconst (v := nI 1) hx hb d_M_count_35 (by decide +kernel) ?_
          refine lv_iadd hx hb d_M_count_36 ?_
          refine xa_top (y := nI (n + 1)) (nI_add _ _) ?_
          refine lv_goto (tgt := 41) hx hb d_M_count_37 (by decide) ?_
          refine lv_istore_n (lv' := [(3, .int (nI (n + 1))), (0, .ref (q 0)), (1, .int (nI d)), (2, .int (nI p)), (4, .int (nI i))]) hx hb d_M_count_41 rfl hl (Nat.le_of_ble_eq_true rfl) rfl (fun ls hl => ?_)
          refine lv_iinc (k := 4) (v := nI (i + 1)) (lv' := [(4, .int (nI (i + 1))), (3, .int (nI (n + 1))), (0, .ref (q 0)), (1, .int (nI d)), (2, .int (nI p))]) hx hb d_M_count_42 hl rfl (xn_inc _) (Nat.le_of_ble_eq_true rfl) rfl (fun ls hl => ?_)
          refine lv_goto (tgt := 5) hx hb d_M_count_45 (by decide) ?_
          exact ih5 (i + 1) (n + 1) ls (by omega) (by first | rw [xd_cn_take he, if_pos (by simpa using hc31), hn] | rw [xd_cn_take he, if_neg (by simpa using hc31), hn]) (lv_sub hl [2, 3, 4, 1, 0] rfl) (by omega)
  exact lp5 _ 0 0 ls (Nat.zero_le _) (by simp [xd_cn]) (lv_sub hl [2, 3, 4, 1, 0] rfl) (Nat.lt_succ_self _)
set_option maxHeartbeats 4000000 in
set_option maxRecDepth 100000 in
theorem c_M_good (l : Launch) (D : va_G) (q : Nat → Nat) (cA : Nat → ClassId) (lim : Int32) (bs : Int32) (bk : Nat → Int32) (bv : Nat → Int64) (rn : Int32) (wh : Nat → Int32) (rk : Nat → Int32) (rv : Nat → Int64) (bg : Nat → Int32) (bt : Int32) (sc : Int32) (sw : Nat → Int32) (sk : Nat → Int32) (sv : Nat → Int64) (ky : Nat → Int32) (vl : Nat → Int64) (K : List xk_E) (d : Nat) (p : Nat) (hM : xm_T ky vl K) (hd : d ≤ 6) (hp : p < 64) : Met l y_M_good zw_M_good ({ frames := 1, cells := 0, slots := 0, locals := 23 } : Room) (va_Pc [.ref (q 0), .int (nI d), .int (nI p)] (xp_R D zz_cl (xw_tM cA) (xw_M q cA lim bs bk bv rn wh rk rv bg bt sc sw sk sv (nI K.length) ky vl))) (vp_Si (fun r : Int32 => r = (xb_i (xd_gd K d p)))) 0 0 (fun _ => False) := by
  refine Met.ofW (cc := b_M_good) (maxL := 8) (ret := (some .boolean)) (by decide) rfl ?_
  intro pJ eJ s mJ args below meth cJ s₁ B hml hv
  obtain ⟨rfl, hP, hK, hZ⟩ := hv
  have hx := B.exec
  have hb := B.bytes
  have hr := B.returns
  have hts := atoms_spec (ws := zw_M_good) B.pre
  have hown : s.vm.findClass R_M = some mJ.cls := findClass_of_methodNamed B.named
  have hlocks := B.notSynchronized
  have hl := lv_entry ([.ref (q 0), .int (nI d), .int (nI p)]) (n := 8) (Nat.le_of_ble_eq_true rfl)
  rw [lg_entry_eq]
  generalize (lg_sl ([.ref (q 0), .int (nI d), .int (nI p)]) ++ List.replicate (8 - (lg_sl ([.ref (q 0), .int (nI d), .int (nI p)])).length) Slot.unset).toArray = ls at hl ⊢
  have hl : lv_has ls 8 [(0, .ref (q 0)), (1, .int (nI d)), (2, .int (nI p))] := hl
  have hlen := hM.1
  have hcn0 := xd_cn_le K d p
  refine lv_iconst (v := nI 0) hx hb d_M_good_0 (by decide +kernel) ?_
  refine lv_istore_n (lv' := [(3, .int (nI 0)), (0, .ref (q 0)), (1, .int (nI d)), (2, .int (nI p))]) hx hb d_M_good_1 rfl hl (Nat.le_of_ble_eq_true rfl) rfl (fun ls hl => ?_)
  refine lv_iconst (v := (-1)) hx hb d_M_good_2 (by decide +kernel) ?_
  refine lv_istore (lv' := [(4, .int ((-1))), (3, .int (nI 0)), (0, .ref (q 0)), (1, .int (nI d)), (2, .int (nI p))]) hx hb d_M_good_3 hl (Nat.le_of_ble_eq_true rfl) rfl (fun ls hl => ?_)
  refine lv_iconst (v := nI 1) hx hb d_M_good_5 (by decide +kernel) ?_
  refine xa_top (y := xb_i true) xb_t.symm ?_
  refine lv_istore (lv' := [(5, .int (xb_i true)), (4, .int ((-1))), (3, .int (nI 0)), (0, .ref (q 0)), (1, .int (nI d)), (2, .int (nI p))]) hx hb d_M_good_6 hl (Nat.le_of_ble_eq_true rfl) rfl (fun ls hl => ?_)
  refine lv_iconst (v := nI 0) hx hb d_M_good_8 (by decide +kernel) ?_
  refine lv_istore (lv' := [(6, .int (nI 0)), (5, .int (xb_i true)), (4, .int ((-1))), (3, .int (nI 0)), (0, .ref (q 0)), (1, .int (nI d)), (2, .int (nI p))]) hx hb d_M_good_9 hl (Nat.le_of_ble_eq_true rfl) rfl (fun ls hl => ?_)
  have lp11 : ∀ (N : Nat) (i : Nat) (n : Nat) (one : Int32) (same : Bool) (ls : Array Slot), (i ≤ K.length) → (n = xd_cn (K.take i) d p) → (xg_J K d p i one same) → lv_has ls 8 [(0, .ref (q 0)), (1, .int (nI d)), (2, .int (nI p)), (3, .int (nI n)), (4, .int one), (5, .int (xb_i same)), (6, .int (nI i))] → K.length - i < N → W pJ l eJ (headSpec zw_M_good ({ frames := 1, cells := 0, slots := 0, locals := 23 } : Room)).room s mJ ([.ref (q 0), .int (nI d), .int (nI p)] : List Value).toArray below meth cJ s.heap [] 0 0 (MQ below (vp_Si (fun r : Int32 => r = (xb_i (xd_gd K d p)))) ([.ref (q 0), .int (nI d), .int (nI p)] : List Value).toArray s 0 0 (fun _ => False)) (F0 mJ 11 ls []) := by
    intro N
    induction N with
    | zero => intro i n one same ls hi hn hJ hl hm; exact absurd hm (Nat.not_lt_zero _)
    | succ N ih11 =>
      intro i n one same ls hi hn hJ hl hm
      refine lv_iload hx hb d_M_good_11 (lv_at hl 6 rfl) ?_
      refine lv_aload_n hx hb d_M_good_13 rfl (lv_at hl 0 rfl) ?_
      refine va_get (D := D) (ci := 5) (v := .int (nI K.length)) (C := R_M) (T := F_M) (N := 17) hx hb hts (zi_M _) hown hK hP 0 rfl rfl 14 (by decide) (hts _ (List.mem_cons_of_mem _ zm_390)) (fun _ h9 => h9) rfl d_M_good_14 ?_
      refine lv_icmp_ge (tgt := 82) hx hb d_M_good_17 (by decide) (fun hc17 => ?_) (fun hc17 => ?_)
      · skip
        rw [nI_leI (by omega) (by omega)] at hc17
        have hi9 : i = K.length := by omega
        rw [hi9] at hJ
        have hg := xg_J_end hJ
        rw [hi9, List.take_length] at hn
        refine lv_iload_n hx hb d_M_good_82 rfl (lv_at hl 3 rfl) ?_
        refine lv_iconst (v := nI 4) hx hb d_M_good_83 (by decide +kernel) ?_
        refine lv_icmp_le (tgt := 92) hx hb d_M_good_84 (by decide) (fun hc84 => ?_) (fun hc84 => ?_)
        · skip
          rw [nI_leI (by omega) (by omega)] at hc84
          refine lv_iconst (v := nI 1) hx hb d_M_good_92 (by decide +kernel) ?_
          refine lv_goto (tgt := 97) hx hb d_M_good_93 (by decide) ?_
          exact W.zret (ty := .boolean) (v := nI 1) hx hb hr (by decide +kernel) (fun tJ htJ hWJ => ⟨_, rfl, by rw [hg, ← hn]; first | (rw [decide_eq_true hc84]; exact xb_t.symm) | (rw [hc89, decide_eq_false hc84]; exact xb_f.symm) | (rw [hc89, Bool.or_true]; exact xb_t.symm), htJ⟩) (fun _ h => by cases h) d_M_good_97
        · skip
          rw [nI_leI (by omega) (by omega)] at hc84
          refine lv_iload hx hb d_M_good_87 (lv_at hl 5 rfl) ?_
          refine lv_if_eq (tgt := 96) hx hb d_M_good_89 (by decide) (fun hc89 => ?_) (fun hc89 => ?_)
          · skip
            rw [xb_0] at hc89
            refine lv_iconst (v := nI 0) hx hb d_M_good_96 (by decide +kernel) ?_
            exact W.zret (ty := .boolean) (v := nI 0) hx hb hr (by decide +kernel) (fun tJ htJ hWJ => ⟨_, rfl, by rw [hg, ← hn]; first | (rw [decide_eq_true hc84]; exact xb_t.symm) | (rw [hc89, decide_eq_false hc84]; exact xb_f.symm) | (rw [hc89, Bool.or_true]; exact xb_t.symm), htJ⟩) (fun _ h => by cases h) d_M_good_97
          · skip
            rw [xb_1] at hc89
            refine lv_iconst (v := nI 1) hx hb d_M_good_92 (by decide +kernel) ?_
            refine lv_goto (tgt := 97) hx hb d_M_good_93 (by decide) ?_
            exact W.zret (ty := .boolean) (v := nI 1) hx hb hr (by decide +kernel) (fun tJ htJ hWJ => ⟨_, rfl, by rw [hg, ← hn]; first | (rw [decide_eq_true hc84]; exact xb_t.symm) | (rw [hc89, decide_eq_false hc84]; exact xb_f.symm) | (rw [hc89, Bool.or_true]; exact xb_t.symm), htJ⟩) (fun _ h => by cases h) d_M_good_97
      · skip
        rw [nI_leI (by omega) (by omega)] at hc17
        obtain ⟨e, he⟩ : ∃ e, K[i]? = some e := ⟨_, List.getElem?_eq_getElem (by omega)⟩
        have hfe := (xk_tie_f hM.2.2 he).1
        refine lv_aload_n hx hb d_M_good_20 rfl (lv_at hl 0 rfl) ?_
        refine lv_aload_n hx hb d_M_good_21 rfl (lv_at hl 0 rfl) ?_
        refine va_get (D := D) (ci := 5) (v := .ref (q 10)) (C := R_M) (T := F_M) (N := 17) hx hb hts (zi_M _) hown hK hP 0 rfl rfl 15 (by decide) (hts _ (List.mem_cons_of_mem _ zm_391)) (fun _ h9 => h9) rfl d_M_good_22 ?_
        refine lv_iload hx hb d_M_good_25 (lv_at hl 6 rfl) ?_
        refine xa_iald hx hb hK hP 10 9 rfl rfl (k := i) (by omega) (by decide) d_M_good_27 ?_
        refine xa_top (y := e.1) hfe ?_
        refine xa_cI (va_runV (As := [.int e.1]) (rest := []) ⟨hx, hb, hml, hown, hts⟩ (c_M_hash l D q cA lim bs bk bv rn wh rk rv bg bt sc sw sk sv (nI K.length) ky vl e.1) (cwV 1 hts (zg_V zm_484 zm_486 zs_23 zm_7 zm_487) rfl rfl rfl (by decide +kernel) ⟨Nat.le_of_ble_eq_true rfl, Nat.le_of_ble_eq_true rfl⟩) (xp_preV (ci := 5) (q0 := 0) hK hP rfl rfl rfl hZ) rfl rfl hl.1 rfl (lv_room (Nat.le_of_ble_eq_true rfl)) d_M_good_28 ⟨Nat.zero_le _, Nat.zero_le _⟩) ?_
        refine lv_istore (lv' := [(7, .int (nI (xk_h e.1))), (0, .ref (q 0)), (1, .int (nI d)), (2, .int (nI p)), (3, .int (nI n)), (4, .int one), (5, .int (xb_i same)), (6, .int (nI i))]) hx hb d_M_good_31 hl (Nat.le_of_ble_eq_true rfl) rfl (fun ls hl => ?_)
        refine lv_aload_n hx hb d_M_good_33 rfl (lv_at hl 1 rfl) ?_
        refine lv_iload hx hb d_M_good_34 (lv_at hl 0 rfl) ?_
        refine lv_iload_n hx hb d_M_good_36 rfl (lv_at hl 2 rfl) ?_
        refine lv_iload_n hx hb d_M_good_37 rfl (lv_at hl 3 rfl) ?_
        refine xa_cI (va_runV (As := [.int (nI (xk_h e.1)), .int (nI d), .int (nI p)]) (rest := []) ⟨hx, hb, hml, hown, hts⟩ (c_M_inC l D q cA lim bs bk bv rn wh rk rv bg bt sc sw sk sv (nI K.length) ky vl (xk_h e.1) d p (by first | exact xk_h_lt _ | omega) (by first | exact xd_dp_le _ _ | omega) (by omega)) (cwV 3 hts (zg_V zm_488 zm_490 zs_24 zm_7 zm_491) rfl rfl rfl (by decide +kernel) ⟨Nat.le_of_ble_eq_true rfl, Nat.le_of_ble_eq_true rfl⟩) (xp_preV (ci := 5) (q0 := 0) hK hP rfl rfl rfl hZ) rfl rfl hl.1 rfl (lv_room (Nat.le_of_ble_eq_true rfl)) d_M_good_38 ⟨Nat.zero_le _, Nat.zero_le _⟩) ?_
        refine lv_if_eq (tgt := 76) hx hb d_M_good_41 (by decide) (fun hc41 => ?_) (fun hc41 => ?_)
        · skip
          rw [xb_0] at hc41
          refine lv_iinc (k := 7) (v := nI (i + 1)) (lv' := [(6, .int (nI (i + 1))), (7, .int (nI (xk_h e.1))), (0, .ref (q 0)), (1, .int (nI d)), (2, .int (nI p)), (3, .int (nI n)), (4, .int one), (5, .int (xb_i same))]) hx hb d_M_good_76 hl rfl (xn_inc _) (Nat.le_of_ble_eq_true rfl) rfl (fun ls hl => ?_)
          refine lv_goto (tgt := 11) hx hb d_M_good_79 (by decide) ?_
          exact ih11 (i + 1) n one same ls (by omega) (by first | rw [xd_cn_take he, if_pos (by simpa using hc41), hn] | rw [xd_cn_take he, if_neg (by simpa using hc41), hn]) (by first | exact xg_J_in hJ he (by simpa using hc41) rfl | exact xg_J_skip hJ he (by simpa using hc41)) (lv_sub hl [2, 3, 4, 5, 6, 7, 0] rfl) (by omega)
        · skip
          rw [xb_1] at hc41
          refine lv_iload_n hx hb d_M_good_44 rfl (lv_at hl 4 rfl) ?_
          refine lv_iconst (v := nI 1) hx hb d_M_good_45 (by decide +kernel) ?_
          refine lv_iadd hx hb d_M_good_46 ?_
          refine xa_top (y := nI (n + 1)) (nI_add _ _) ?_
          refine lv_istore_n (lv' := [(3, .int (nI (n + 1))), (7, .int (nI (xk_h e.1))), (0, .ref (q 0)), (1, .int (nI d)), (2, .int (nI p)), (4, .int one), (5, .int (xb_i same)), (6, .int (nI i))]) hx hb d_M_good_47 rfl hl (Nat.le_of_ble_eq_true rfl) rfl (fun ls hl => ?_)
          refine lv_iload hx hb d_M_good_48 (lv_at hl 6 rfl) ?_
          refine lv_if_eq (tgt := 69) hx hb d_M_good_50 (by decide) (fun hc50 => ?_) (fun hc50 => ?_)
          · skip
            rw [xb_0] at hc50
            refine lv_iconst (v := nI 0) hx hb d_M_good_69 (by decide +kernel) ?_
            refine xa_top (y := xb_i (same && (decide (one < 0) || decide (one = nI (xk_h e.1))))) (by first | exact xg_s0 hc50 | exact xg_s1 hc50 (Or.inl hc55) | exact xg_s1 hc50 (Or.inr hc62) | exact xg_s2 hc55 hc62) ?_
            refine lv_istore (lv' := [(5, .int (xb_i (same && (decide (one < 0) || decide (one = nI (xk_h e.1)))))), (3, .int (nI (n + 1))), (7, .int (nI (xk_h e.1))), (0, .ref (q 0)), (1, .int (nI d)), (2, .int (nI p)), (4, .int one), (6, .int (nI i))]) hx hb d_M_good_70 hl (Nat.le_of_ble_eq_true rfl) rfl (fun ls hl => ?_)
            refine lv_iload hx hb d_M_good_72 (lv_at hl 2 rfl) ?_
            refine lv_istore (lv' := [(4, .int (nI (xk_h e.1))), (5, .int (xb_i (same && (decide (one < 0) || decide (one = nI (xk_h e.1)))))), (3, .int (nI (n + 1))), (7, .int (nI (xk_h e.1))), (0, .ref (q 0)), (1, .int (nI d)), (2, .int (nI p)), (6, .int (nI i))]) hx hb d_M_good_74 hl (Nat.le_of_ble_eq_true rfl) rfl (fun ls hl => ?_)
            refine lv_iinc (k := 7) (v := nI (i + 1)) (lv' := [(6, .int (nI (i + 1))), (4, .int (nI (xk_h e.1))), (5, .int (xb_i (same && (decide (one < 0) || decide (one = nI (xk_h e.1)))))), (3, .int (nI (n + 1))), (7, .int (nI (xk_h e.1))), (0, .ref (q 0)), (1, .int (nI d)), (2, .int (nI p))]) hx hb d_M_good_76 hl rfl (xn_inc _) (Nat.le_of_ble_eq_true rfl) rfl (fun ls hl => ?_)
            refine lv_goto (tgt := 11) hx hb d_M_good_79 (by decide) ?_
            exact ih11 (i + 1) (n + 1) (nI (xk_h e.1)) (same && (decide (one < 0) || decide (one = nI (xk_h e.1)))) ls (by omega) (by first | rw [xd_cn_take he, if_pos (by simpa using hc41), hn] | rw [xd_cn_take he, if_neg (by simpa using hc41), hn]) (by first | exact xg_J_in hJ he (by simpa using hc41) rfl | exact xg_J_skip hJ he (by simpa using hc41)) (lv_sub hl [5, 6, 7, 3, 1, 2, 0] rfl) (by omega)
          · skip
            rw [xb_1] at hc50
            refine lv_iload hx hb d_M_good_53 (lv_at hl 5 rfl) ?_
            refine lv_if_lt (tgt := 65) hx hb d_M_good_55 (by decide) (fun hc55 => ?_) (fun hc55 => ?_)
            · skip
              refine lv_iconst (v := nI 1) hx hb d_M_good_65 (by decide +kernel) ?_
              refine lv_goto (tgt := 70) hx hb d_M_good_66 (by decide) ?_
              refine xa_top (y := xb_i (same && (decide (one < 0) || decide (one = nI (xk_h e.1))))) (by first | exact xg_s0 hc50 | exact xg_s1 hc50 (Or.inl hc55) | exact xg_s1 hc50 (Or.inr hc62) | exact xg_s2 hc55 hc62) ?_
              refine lv_istore (lv' := [(5, .int (xb_i (same && (decide (one < 0) || decide (one = nI (xk_h e.1)))))), (3, .int (nI (n + 1))), (7, .int (nI (xk_h e.1))), (0, .ref (q 0)), (1, .int (nI d)), (2, .int (nI p)), (4, .int one), (6, .int (nI i))]) hx hb d_M_good_70 hl (Nat.le_of_ble_eq_true rfl) rfl (fun ls hl => ?_)
              refine lv_iload hx hb d_M_good_72 (lv_at hl 2 rfl) ?_
              refine lv_istore (lv' := [(4, .int (nI (xk_h e.1))), (5, .int (xb_i (same && (decide (one < 0) || decide (one = nI (xk_h e.1)))))), (3, .int (nI (n + 1))), (7, .int (nI (xk_h e.1))), (0, .ref (q 0)), (1, .int (nI d)), (2, .int (nI p)), (6, .int (nI i))]) hx hb d_M_good_74 hl (Nat.le_of_ble_eq_true rfl) rfl (fun ls hl => ?_)
              refine lv_iinc (k := 7) (v := nI (i + 1)) (lv' := [(6, .int (nI (i + 1))), (4, .int (nI (xk_h e.1))), (5, .int (xb_i (same && (decide (one < 0) || decide (one = nI (xk_h e.1)))))), (3, .int (nI (n + 1))), (7, .int (nI (xk_h e.1))), (0, .ref (q 0)), (1, .int (nI d)), (2, .int (nI p))]) hx hb d_M_good_76 hl rfl (xn_inc _) (Nat.le_of_ble_eq_true rfl) rfl (fun ls hl => ?_)
              refine lv_goto (tgt := 11) hx hb d_M_good_79 (by decide) ?_
              exact ih11 (i + 1) (n + 1) (nI (xk_h e.1)) (same && (decide (one < 0) || decide (one = nI (xk_h e.1)))) ls (by omega) (by first | rw [xd_cn_take he, if_pos (by simpa using hc41), hn] | rw [xd_cn_take he, if_neg (by simpa using hc41), hn]) (by first | exact xg_J_in hJ he (by simpa using hc41) rfl | exact xg_J_skip hJ he (by simpa using hc41)) (lv_sub hl [5, 6, 7, 3, 1, 2, 0] rfl) (by omega)
            · skip
              refine lv_iload hx hb d_M_good_58 (lv_at hl 5 rfl) ?_
              refine lv_iload hx hb d_M_good_60 (lv_at hl 1 rfl) ?_
              refine lv_icmp_ne (tgt := 69) hx hb d_M_good_62 (by decide) (fun hc62 => ?_) (fun hc62 => ?_)
              · skip
                refine lv_iconst (v := nI 0) hx hb d_M_good_69 (by decide +kernel) ?_
                refine xa_top (y := xb_i (same && (decide (one < 0) || decide (one = nI (xk_h e.1))))) (by first | exact xg_s0 hc50 | exact xg_s1 hc50 (Or.inl hc55) | exact xg_s1 hc50 (Or.inr hc62) | exact xg_s2 hc55 hc62) ?_
                refine lv_istore (lv' := [(5, .int (xb_i (same && (decide (one < 0) || decide (one = nI (xk_h e.1)))))), (3, .int (nI (n + 1))), (7, .int (nI (xk_h e.1))), (0, .ref (q 0)), (1, .int (nI d)), (2, .int (nI p)), (4, .int one), (6, .int (nI i))]) hx hb d_M_good_70 hl (Nat.le_of_ble_eq_true rfl) rfl (fun ls hl => ?_)
                refine lv_iload hx hb d_M_good_72 (lv_at hl 2 rfl) ?_
                refine lv_istore (lv' := [(4, .int (nI (xk_h e.1))), (5, .int (xb_i (same && (decide (one < 0) || decide (one = nI (xk_h e.1)))))), (3, .int (nI (n + 1))), (7, .int (nI (xk_h e.1))), (0, .ref (q 0)), (1, .int (nI d)), (2, .int (nI p)), (6, .int (nI i))]) hx hb d_M_good_74 hl (Nat.le_of_ble_eq_true rfl) rfl (fun ls hl => ?_)
                refine lv_iinc (k := 7) (v := nI (i + 1)) (lv' := [(6, .int (nI (i + 1))), (4, .int (nI (xk_h e.1))), (5, .int (xb_i (same && (decide (one < 0) || decide (one = nI (xk_h e.1)))))), (3, .int (nI (n + 1))), (7, .int (nI (xk_h e.1))), (0, .ref (q 0)), (1, .int (nI d)), (2, .int (nI p))]) hx hb d_M_good_76 hl rfl (xn_inc _) (Nat.le_of_ble_eq_true rfl) rfl (fun ls hl => ?_)
                refine lv_goto (tgt := 11) hx hb d_M_good_79 (by decide) ?_
                exact ih11 (i + 1) (n + 1) (nI (xk_h e.1)) (same && (decide (one < 0) || decide (one = nI (xk_h e.1)))) ls (by omega) (by first | rw [xd_cn_take he, if_pos (by simpa using hc41), hn] | rw [xd_cn_take he, if_neg (by simpa using hc41), hn]) (by first | exact xg_J_in hJ he (by simpa using hc41) rfl | exact xg_J_skip hJ he (by simpa using hc41)) (lv_sub hl [5, 6, 7, 3, 1, 2, 0] rfl) (by omega)
              · skip
                refine lv_iconst (v := nI 1) hx hb d_M_good_65 (by decide +kernel) ?_
                refine lv_goto (tgt := 70) hx hb d_M_good_66 (by decide) ?_
                refine xa_top (y := xb_i (same && (decide (one < 0) || decide (one = nI (xk_h e.1))))) (by first | exact xg_s0 hc50 | exact xg_s1 hc50 (Or.inl hc55) | exact xg_s1 hc50 (Or.inr hc62) | exact xg_s2 hc55 hc62) ?_
                refine lv_istore (lv' := [(5, .int (xb_i (same && (decide (one < 0) || decide (one = nI (xk_h e.1)))))), (3, .int (nI (n + 1))), (7, .int (nI (xk_h e.1))), (0, .ref (q 0)), (1, .int (nI d)), (2, .int (nI p)), (4, .int one), (6, .int (nI i))]) hx hb d_M_good_70 hl (Nat.le_of_ble_eq_true rfl) rfl (fun ls hl => ?_)
                refine lv_iload hx hb d_M_good_72 (lv_at hl 2 rfl) ?_
                refine lv_istore (lv' := [(4, .int (nI (xk_h e.1))), (5, .int (xb_i (same && (decide (one < 0) || decide (one = nI (xk_h e.1)))))), (3, .int (nI (n + 1))), (7, .int (nI (xk_h e.1))), (0, .ref (q 0)), (1, .int (nI d)), (2, .int (nI p)), (6, .int (nI i))]) hx hb d_M_good_74 hl (Nat.le_of_ble_eq_true rfl) rfl (fun ls hl => ?_)
                refine lv_iinc (k := 7) (v := nI (i + 1)) (lv' := [(6, .int (nI (i + 1))), (4, .int (nI (xk_h e.1))), (5, .int (xb_i (same && (decide (one < 0) || decide (one = nI (xk_h e.1)))))), (3, .int (nI (n + 1))), (7, .int (nI (xk_h e.1))), (0, .ref (q 0)), (1, .int (nI d)), (2, .int (nI p))]) hx hb d_M_good_76 hl rfl (xn_inc _) (Nat.le_of_ble_eq_true rfl) rfl (fun ls hl => ?_)
                refine lv_goto (tgt := 11) hx hb d_M_good_79 (by decide) ?_
                exact ih11 (i + 1) (n + 1) (nI (xk_h e.1)) (same && (decide (one < 0) || decide (one = nI (xk_h e.1)))) ls (by omega) (by first | rw [xd_cn_take he, if_pos (by simpa using hc41), hn] | rw [xd_cn_take he, if_neg (by simpa using hc41), hn]) (by first | exact xg_J_in hJ he (by simpa using hc41) rfl | exact xg_J_skip hJ he (by simpa using hc41)) (lv_sub hl [5, 6, 7, 3, 1, 2, 0] rfl) (by omega)
  exact lp11 _ 0 0 ((-1)) true ls (Nat.zero_le _) (by simp [xd_cn]) (xg_J_0 K d p) (lv_sub hl [4, 5, 6, 3, 2, 1, 0] rfl) (Nat.lt_succ_self _)
set_option maxHeartbeats 4000000 in
set_option maxRecDepth 100000 in
theorem c_M_dep (l : Launch) (D : va_G) (q : Nat → Nat) (cA : Nat → ClassId) (lim : Int32) (bs : Int32) (bk : Nat → Int32) (bv : Nat → Int64) (rn : Int32) (wh : Nat → Int32) (rk : Nat → Int32) (rv : Nat → Int64) (bg : Nat → Int32) (bt : Int32) (sc : Int32) (sw : Nat → Int32) (sk : Nat → Int32) (sv : Nat → Int64) (ky : Nat → Int32) (vl : Nat → Int64) (K : List xk_E) (p : Nat) (hM : xm_T ky vl K) (hp : p < 64) : Met l y_M_depthOf zw_M_depthOf ({ frames := 2, cells := 0, slots := 0, locals := 50 } : Room) (va_Pc [.ref (q 0), .int (nI p)] (xp_R D zz_cl (xw_tM cA) (xw_M q cA lim bs bk bv rn wh rk rv bg bt sc sw sk sv (nI K.length) ky vl))) (vp_Si (fun r : Int32 => r = (xm_rd K p))) 0 0 (fun _ => False) := by
  refine Met.ofW (cc := b_M_depthOf) (maxL := 5) (ret := (some .int)) (by decide) rfl ?_
  intro pJ eJ s mJ args below meth cJ s₁ B hml hv
  obtain ⟨rfl, hP, hK, hZ⟩ := hv
  have hx := B.exec
  have hb := B.bytes
  have hr := B.returns
  have hts := atoms_spec (ws := zw_M_depthOf) B.pre
  have hown : s.vm.findClass R_M = some mJ.cls := findClass_of_methodNamed B.named
  have hlocks := B.notSynchronized
  have hl := lv_entry ([.ref (q 0), .int (nI p)]) (n := 5) (Nat.le_of_ble_eq_true rfl)
  rw [lg_entry_eq]
  generalize (lg_sl ([.ref (q 0), .int (nI p)]) ++ List.replicate (5 - (lg_sl ([.ref (q 0), .int (nI p)])).length) Slot.unset).toArray = ls at hl ⊢
  have hl : lv_has ls 5 [(0, .ref (q 0)), (1, .int (nI p))] := hl
  refine lv_iconst (v := (-1)) hx hb d_M_depthOf_0 (by decide +kernel) ?_
  refine lv_istore_n (lv' := [(2, .int ((-1))), (0, .ref (q 0)), (1, .int (nI p))]) hx hb d_M_depthOf_1 rfl hl (Nat.le_of_ble_eq_true rfl) rfl (fun ls hl => ?_)
  refine lv_iconst (v := nI 0) hx hb d_M_depthOf_2 (by decide +kernel) ?_
  refine lv_istore_n (lv' := [(3, .int (nI 0)), (2, .int ((-1))), (0, .ref (q 0)), (1, .int (nI p))]) hx hb d_M_depthOf_3 rfl hl (Nat.le_of_ble_eq_true rfl) rfl (fun ls hl => ?_)
  have lp4 : ∀ (N : Nat) (d : Nat) (fo : Int32) (ls : Array Slot), (d ≤ 7) → (fo = if xd_dp K p < d ∧ xd_pl K p = true then nI (xd_dp K p) else (-1)) → lv_has ls 5 [(0, .ref (q 0)), (1, .int (nI p)), (2, .int fo), (3, .int (nI d))] → 7 - d < N → W pJ l eJ (headSpec zw_M_depthOf ({ frames := 2, cells := 0, slots := 0, locals := 50 } : Room)).room s mJ ([.ref (q 0), .int (nI p)] : List Value).toArray below meth cJ s.heap [] 0 0 (MQ below (vp_Si (fun r : Int32 => r = (xm_rd K p))) ([.ref (q 0), .int (nI p)] : List Value).toArray s 0 0 (fun _ => False)) (F0 mJ 4 ls []) := by
    intro N
    induction N with
    | zero => intro d fo ls hd7 hf hl hm; exact absurd hm (Nat.not_lt_zero _)
    | succ N ih4 =>
      intro d fo ls hd7 hf hl hm
      refine lv_iload_n hx hb d_M_depthOf_4 rfl (lv_at hl 3 rfl) ?_
      refine lv_bipush (v := nI 6) hx hb d_M_depthOf_5 (by decide +kernel) ?_
      refine lv_icmp_gt (tgt := 73) hx hb d_M_depthOf_7 (by decide) (fun hc7 => ?_) (fun hc7 => ?_)
      · skip
        rw [nI_ltI (by omega) (by omega)] at hc7
        refine lv_iload_n hx hb d_M_depthOf_73 rfl (lv_at hl 2 rfl) ?_
        exact W.iret (v := fo) hx hb hr (fun tJ htJ hWJ => ⟨_, rfl, xm_rd_e hf hc7, htJ⟩) (fun _ h => by cases h) d_M_depthOf_74
      · skip
        rw [nI_ltI (by omega) (by omega)] at hc7
        refine lv_iload_n hx hb d_M_depthOf_10 rfl (lv_at hl 1 rfl) ?_
        refine lv_iconst (v := nI 1) hx hb d_M_depthOf_11 (by decide +kernel) ?_
        refine lv_iload_n hx hb d_M_depthOf_12 rfl (lv_at hl 3 rfl) ?_
        refine lv_ishl hx hb d_M_depthOf_13 ?_
        refine xa_top (y := nI (2 ^ d)) (xw_shl (by omega)) ?_
        have hpw := xw_pow (d := d) (by omega)
        refine lv_icmp_ge (tgt := 67) hx hb d_M_depthOf_14 (by decide) (fun hc14 => ?_) (fun hc14 => ?_)
        · skip
          rw [nI_leI (by omega) (by omega)] at hc14
          refine lv_iinc (k := 3) (v := nI (d + 1)) (lv' := [(3, .int (nI (d + 1))), (0, .ref (q 0)), (1, .int (nI p)), (2, .int fo)]) hx hb d_M_depthOf_67 hl rfl (xn_inc _) (Nat.le_of_ble_eq_true rfl) rfl (fun ls hl => ?_)
          refine lv_goto (tgt := 4) hx hb d_M_depthOf_70 (by decide) ?_
          exact ih4 (d + 1) fo ls (by omega) (by first | exact xm_rd_y (by omega) (by omega) hc23 hc58 | exact xm_rd_n hf (by omega) (fun q => absurd q.1 (by omega)) | exact xm_rd_n hf (by omega) (fun q => by rw [hc23] at q; exact absurd q.2.1 (by decide)) | exact xm_rd_n hf (by omega) (fun q => by rw [hc58] at q; exact absurd q.2.2 (by decide))) (lv_sub hl [1, 2, 3, 0] rfl) (by omega)
        · skip
          rw [nI_leI (by omega) (by omega)] at hc14
          refine lv_aload_n hx hb d_M_depthOf_17 rfl (lv_at hl 0 rfl) ?_
          refine lv_iload_n hx hb d_M_depthOf_18 rfl (lv_at hl 3 rfl) ?_
          refine lv_iload_n hx hb d_M_depthOf_19 rfl (lv_at hl 1 rfl) ?_
          refine xa_cI (va_runV (As := [.int (nI d), .int (nI p)]) (rest := []) ⟨hx, hb, hml, hown, hts⟩ (c_M_good l D q cA lim bs bk bv rn wh rk rv bg bt sc sw sk sv ky vl K d p hM (by omega) (by omega)) (cwV 2 hts (zg_V zm_480 zm_482 zs_22 zm_7 zm_483) rfl rfl rfl (by decide +kernel) ⟨Nat.le_of_ble_eq_true rfl, Nat.le_of_ble_eq_true rfl⟩) (xp_preV (ci := 5) (q0 := 0) hK hP rfl rfl rfl hZ) rfl rfl hl.1 rfl (lv_room (Nat.le_of_ble_eq_true rfl)) d_M_depthOf_20 ⟨Nat.zero_le _, Nat.zero_le _⟩) ?_
          refine lv_if_eq (tgt := 67) hx hb d_M_depthOf_23 (by decide) (fun hc23 => ?_) (fun hc23 => ?_)
          · skip
            rw [xb_0] at hc23
            refine lv_iinc (k := 3) (v := nI (d + 1)) (lv' := [(3, .int (nI (d + 1))), (0, .ref (q 0)), (1, .int (nI p)), (2, .int fo)]) hx hb d_M_depthOf_67 hl rfl (xn_inc _) (Nat.le_of_ble_eq_true rfl) rfl (fun ls hl => ?_)
            refine lv_goto (tgt := 4) hx hb d_M_depthOf_70 (by decide) ?_
            exact ih4 (d + 1) fo ls (by omega) (by first | exact xm_rd_y (by omega) (by omega) hc23 hc58 | exact xm_rd_n hf (by omega) (fun q => absurd q.1 (by omega)) | exact xm_rd_n hf (by omega) (fun q => by rw [hc23] at q; exact absurd q.2.1 (by decide)) | exact xm_rd_n hf (by omega) (fun q => by rw [hc58] at q; exact absurd q.2.2 (by decide))) (lv_sub hl [1, 2, 3, 0] rfl) (by omega)
          · skip
            rw [xb_1] at hc23
            refine lv_iload_n hx hb d_M_depthOf_26 rfl (lv_at hl 3 rfl) ?_
            refine lv_if_eq (tgt := 49) hx hb d_M_depthOf_27 (by decide) (fun hc27 => ?_) (fun hc27 => ?_)
            · skip
              rw [xn_eq0 (by omega)] at hc27
              refine lv_iconst (v := nI 1) hx hb d_M_depthOf_49 (by decide +kernel) ?_
              refine lv_goto (tgt := 54) hx hb d_M_depthOf_50 (by decide) ?_
              refine xa_top (y := xb_i (xm_wh K p d)) (by first | exact xm_w1 (Or.inl hc27) | exact xm_w1 (Or.inr hc46) | exact xm_w0 hc27 hc46) ?_
              refine lv_istore (lv' := [(4, .int (xb_i (xm_wh K p d))), (0, .ref (q 0)), (1, .int (nI p)), (2, .int fo), (3, .int (nI d))]) hx hb d_M_depthOf_54 hl (Nat.le_of_ble_eq_true rfl) rfl (fun ls hl => ?_)
              refine lv_iload hx hb d_M_depthOf_56 (lv_at hl 0 rfl) ?_
              refine lv_if_eq (tgt := 65) hx hb d_M_depthOf_58 (by decide) (fun hc58 => ?_) (fun hc58 => ?_)
              · skip
                rw [xb_0] at hc58
                refine lv_iload_n hx hb d_M_depthOf_65 rfl (lv_at hl 3 rfl) ?_
                refine lv_istore_n (lv' := [(2, .int fo), (4, .int (xb_i (xm_wh K p d))), (0, .ref (q 0)), (1, .int (nI p)), (3, .int (nI d))]) hx hb d_M_depthOf_66 rfl hl (Nat.le_of_ble_eq_true rfl) rfl (fun ls hl => ?_)
                refine lv_iinc (k := 4) (v := nI (d + 1)) (lv' := [(3, .int (nI (d + 1))), (2, .int fo), (4, .int (xb_i (xm_wh K p d))), (0, .ref (q 0)), (1, .int (nI p))]) hx hb d_M_depthOf_67 hl rfl (xn_inc _) (Nat.le_of_ble_eq_true rfl) rfl (fun ls hl => ?_)
                refine lv_goto (tgt := 4) hx hb d_M_depthOf_70 (by decide) ?_
                exact ih4 (d + 1) fo ls (by omega) (by first | exact xm_rd_y (by omega) (by omega) hc23 hc58 | exact xm_rd_n hf (by omega) (fun q => absurd q.1 (by omega)) | exact xm_rd_n hf (by omega) (fun q => by rw [hc23] at q; exact absurd q.2.1 (by decide)) | exact xm_rd_n hf (by omega) (fun q => by rw [hc58] at q; exact absurd q.2.2 (by decide))) (lv_sub hl [3, 4, 1, 0] rfl) (by omega)
              · skip
                rw [xb_1] at hc58
                refine lv_iload_n hx hb d_M_depthOf_61 rfl (lv_at hl 4 rfl) ?_
                refine lv_goto (tgt := 66) hx hb d_M_depthOf_62 (by decide) ?_
                refine lv_istore_n (lv' := [(2, .int (nI d)), (4, .int (xb_i (xm_wh K p d))), (0, .ref (q 0)), (1, .int (nI p)), (3, .int (nI d))]) hx hb d_M_depthOf_66 rfl hl (Nat.le_of_ble_eq_true rfl) rfl (fun ls hl => ?_)
                refine lv_iinc (k := 4) (v := nI (d + 1)) (lv' := [(3, .int (nI (d + 1))), (2, .int (nI d)), (4, .int (xb_i (xm_wh K p d))), (0, .ref (q 0)), (1, .int (nI p))]) hx hb d_M_depthOf_67 hl rfl (xn_inc _) (Nat.le_of_ble_eq_true rfl) rfl (fun ls hl => ?_)
                refine lv_goto (tgt := 4) hx hb d_M_depthOf_70 (by decide) ?_
                exact ih4 (d + 1) (nI d) ls (by omega) (by first | exact xm_rd_y (by omega) (by omega) hc23 hc58 | exact xm_rd_n hf (by omega) (fun q => absurd q.1 (by omega)) | exact xm_rd_n hf (by omega) (fun q => by rw [hc23] at q; exact absurd q.2.1 (by decide)) | exact xm_rd_n hf (by omega) (fun q => by rw [hc58] at q; exact absurd q.2.2 (by decide))) (lv_sub hl [3, 4, 1, 0] rfl) (by omega)
            · skip
              rw [xn_eq0 (by omega)] at hc27
              refine lv_aload_n hx hb d_M_depthOf_30 rfl (lv_at hl 0 rfl) ?_
              refine lv_iload_n hx hb d_M_depthOf_31 rfl (lv_at hl 3 rfl) ?_
              refine lv_iconst (v := nI 1) hx hb d_M_depthOf_32 (by decide +kernel) ?_
              refine lv_isub hx hb d_M_depthOf_33 ?_
              refine xa_top (y := nI (d - 1)) (pk_sub (by omega)) ?_
              refine lv_iload_n hx hb d_M_depthOf_34 rfl (lv_at hl 1 rfl) ?_
              refine lv_iconst (v := nI 1) hx hb d_M_depthOf_35 (by decide +kernel) ?_
              refine lv_iload_n hx hb d_M_depthOf_36 rfl (lv_at hl 3 rfl) ?_
              refine lv_iconst (v := nI 1) hx hb d_M_depthOf_37 (by decide +kernel) ?_
              refine lv_isub hx hb d_M_depthOf_38 ?_
              refine xa_top (y := nI (d - 1)) (pk_sub (by omega)) ?_
              refine lv_ishl hx hb d_M_depthOf_39 ?_
              refine xa_top (y := nI (2 ^ (d - 1))) (xw_shl (by omega)) ?_
              have hpos := Nat.two_pow_pos (d - 1)
              refine lv_iconst (v := nI 1) hx hb d_M_depthOf_40 (by decide +kernel) ?_
              refine lv_isub hx hb d_M_depthOf_41 ?_
              refine xa_top (y := nI ((2 ^ (d - 1)) - 1)) (pk_sub (by omega)) ?_
              refine lv_iand hx hb d_M_depthOf_42 ?_
              refine xa_top (y := nI (p % 2 ^ (d - 1))) (xw_and (by omega) (by omega)) ?_
              have hm := Nat.mod_le p (2 ^ (d - 1))
              refine xa_cI (va_runV (As := [.int (nI (d - 1)), .int (nI (p % 2 ^ (d - 1)))]) (rest := []) ⟨hx, hb, hml, hown, hts⟩ (c_M_good l D q cA lim bs bk bv rn wh rk rv bg bt sc sw sk sv ky vl K (d - 1) (p % 2 ^ (d - 1)) hM (by omega) (by omega)) (cwV 2 hts (zg_V zm_480 zm_482 zs_22 zm_7 zm_483) rfl rfl rfl (by decide +kernel) ⟨Nat.le_of_ble_eq_true rfl, Nat.le_of_ble_eq_true rfl⟩) (xp_preV (ci := 5) (q0 := 0) hK hP rfl rfl rfl hZ) rfl rfl hl.1 rfl (lv_room (Nat.le_of_ble_eq_true rfl)) d_M_depthOf_43 ⟨Nat.zero_le _, Nat.zero_le _⟩) ?_
              refine lv_if_ne (tgt := 53) hx hb d_M_depthOf_46 (by decide) (fun hc46 => ?_) (fun hc46 => ?_)
              · skip
                rw [xb_1] at hc46
                refine lv_iconst (v := nI 0) hx hb d_M_depthOf_53 (by decide +kernel) ?_
                refine xa_top (y := xb_i (xm_wh K p d)) (by first | exact xm_w1 (Or.inl hc27) | exact xm_w1 (Or.inr hc46) | exact xm_w0 hc27 hc46) ?_
                refine lv_istore (lv' := [(4, .int (xb_i (xm_wh K p d))), (0, .ref (q 0)), (1, .int (nI p)), (2, .int fo), (3, .int (nI d))]) hx hb d_M_depthOf_54 hl (Nat.le_of_ble_eq_true rfl) rfl (fun ls hl => ?_)
                refine lv_iload hx hb d_M_depthOf_56 (lv_at hl 0 rfl) ?_
                refine lv_if_eq (tgt := 65) hx hb d_M_depthOf_58 (by decide) (fun hc58 => ?_) (fun hc58 => ?_)
                · skip
                  rw [xb_0] at hc58
                  refine lv_iload_n hx hb d_M_depthOf_65 rfl (lv_at hl 3 rfl) ?_
                  refine lv_istore_n (lv' := [(2, .int fo), (4, .int (xb_i (xm_wh K p d))), (0, .ref (q 0)), (1, .int (nI p)), (3, .int (nI d))]) hx hb d_M_depthOf_66 rfl hl (Nat.le_of_ble_eq_true rfl) rfl (fun ls hl => ?_)
                  refine lv_iinc (k := 4) (v := nI (d + 1)) (lv' := [(3, .int (nI (d + 1))), (2, .int fo), (4, .int (xb_i (xm_wh K p d))), (0, .ref (q 0)), (1, .int (nI p))]) hx hb d_M_depthOf_67 hl rfl (xn_inc _) (Nat.le_of_ble_eq_true rfl) rfl (fun ls hl => ?_)
                  refine lv_goto (tgt := 4) hx hb d_M_depthOf_70 (by decide) ?_
                  exact ih4 (d + 1) fo ls (by omega) (by first | exact xm_rd_y (by omega) (by omega) hc23 hc58 | exact xm_rd_n hf (by omega) (fun q => absurd q.1 (by omega)) | exact xm_rd_n hf (by omega) (fun q => by rw [hc23] at q; exact absurd q.2.1 (by decide)) | exact xm_rd_n hf (by omega) (fun q => by rw [hc58] at q; exact absurd q.2.2 (by decide))) (lv_sub hl [3, 4, 1, 0] rfl) (by omega)
                · skip
                  rw [xb_1] at hc58
                  refine lv_iload_n hx hb d_M_depthOf_61 rfl (lv_at hl 4 rfl) ?_
                  refine lv_goto (tgt := 66) hx hb d_M_depthOf_62 (by decide) ?_
                  refine lv_istore_n (lv' := [(2, .int (nI d)), (4, .int (xb_i (xm_wh K p d))), (0, .ref (q 0)), (1, .int (nI p)), (3, .int (nI d))]) hx hb d_M_depthOf_66 rfl hl (Nat.le_of_ble_eq_true rfl) rfl (fun ls hl => ?_)
                  refine lv_iinc (k := 4) (v := nI (d + 1)) (lv' := [(3, .int (nI (d + 1))), (2, .int (nI d)), (4, .int (xb_i (xm_wh K p d))), (0, .ref (q 0)), (1, .int (nI p))]) hx hb d_M_depthOf_67 hl rfl (xn_inc _) (Nat.le_of_ble_eq_true rfl) rfl (fun ls hl => ?_)
                  refine lv_goto (tgt := 4) hx hb d_M_depthOf_70 (by decide) ?_
                  exact ih4 (d + 1) (nI d) ls (by omega) (by first | exact xm_rd_y (by omega) (by omega) hc23 hc58 | exact xm_rd_n hf (by omega) (fun q => absurd q.1 (by omega)) | exact xm_rd_n hf (by omega) (fun q => by rw [hc23] at q; exact absurd q.2.1 (by decide)) | exact xm_rd_n hf (by omega) (fun q => by rw [hc58] at q; exact absurd q.2.2 (by decide))) (lv_sub hl [3, 4, 1, 0] rfl) (by omega)
              · skip
                rw [xb_0] at hc46
                refine lv_iconst (v := nI 1) hx hb d_M_depthOf_49 (by decide +kernel) ?_
                refine lv_goto (tgt := 54) hx hb d_M_depthOf_50 (by decide) ?_
                refine xa_top (y := xb_i (xm_wh K p d)) (by first | exact xm_w1 (Or.inl hc27) | exact xm_w1 (Or.inr hc46) | exact xm_w0 hc27 hc46) ?_
                refine lv_istore (lv' := [(4, .int (xb_i (xm_wh K p d))), (0, .ref (q 0)), (1, .int (nI p)), (2, .int fo), (3, .int (nI d))]) hx hb d_M_depthOf_54 hl (Nat.le_of_ble_eq_true rfl) rfl (fun ls hl => ?_)
                refine lv_iload hx hb d_M_depthOf_56 (lv_at hl 0 rfl) ?_
                refine lv_if_eq (tgt := 65) hx hb d_M_depthOf_58 (by decide) (fun hc58 => ?_) (fun hc58 => ?_)
                · skip
                  rw [xb_0] at hc58
                  refine lv_iload_n hx hb d_M_depthOf_65 rfl (lv_at hl 3 rfl) ?_
                  refine lv_istore_n (lv' := [(2, .int fo), (4, .int (xb_i (xm_wh K p d))), (0, .ref (q 0)), (1, .int (nI p)), (3, .int (nI d))]) hx hb d_M_depthOf_66 rfl hl (Nat.le_of_ble_eq_true rfl) rfl (fun ls hl => ?_)
                  refine lv_iinc (k := 4) (v := nI (d + 1)) (lv' := [(3, .int (nI (d + 1))), (2, .int fo), (4, .int (xb_i (xm_wh K p d))), (0, .ref (q 0)), (1, .int (nI p))]) hx hb d_M_depthOf_67 hl rfl (xn_inc _) (Nat.le_of_ble_eq_true rfl) rfl (fun ls hl => ?_)
                  refine lv_goto (tgt := 4) hx hb d_M_depthOf_70 (by decide) ?_
                  exact ih4 (d + 1) fo ls (by omega) (by first | exact xm_rd_y (by omega) (by omega) hc23 hc58 | exact xm_rd_n hf (by omega) (fun q => absurd q.1 (by omega)) | exact xm_rd_n hf (by omega) (fun q => by rw [hc23] at q; exact absurd q.2.1 (by decide)) | exact xm_rd_n hf (by omega) (fun q => by rw [hc58] at q; exact absurd q.2.2 (by decide))) (lv_sub hl [3, 4, 1, 0] rfl) (by omega)
                · skip
                  rw [xb_1] at hc58
                  refine lv_iload_n hx hb d_M_depthOf_61 rfl (lv_at hl 4 rfl) ?_
                  refine lv_goto (tgt := 66) hx hb d_M_depthOf_62 (by decide) ?_
                  refine lv_istore_n (lv' := [(2, .int (nI d)), (4, .int (xb_i (xm_wh K p d))), (0, .ref (q 0)), (1, .int (nI p)), (3, .int (nI d))]) hx hb d_M_depthOf_66 rfl hl (Nat.le_of_ble_eq_true rfl) rfl (fun ls hl => ?_)
                  refine lv_iinc (k := 4) (v := nI (d + 1)) (lv' := [(3, .int (nI (d + 1))), (2, .int (nI d)), (4, .int (xb_i (xm_wh K p d))), (0, .ref (q 0)), (1, .int (nI p))]) hx hb d_M_depthOf_67 hl rfl (xn_inc _) (Nat.le_of_ble_eq_true rfl) rfl (fun ls hl => ?_)
                  refine lv_goto (tgt := 4) hx hb d_M_depthOf_70 (by decide) ?_
                  exact ih4 (d + 1) (nI d) ls (by omega) (by first | exact xm_rd_y (by omega) (by omega) hc23 hc58 | exact xm_rd_n hf (by omega) (fun q => absurd q.1 (by omega)) | exact xm_rd_n hf (by omega) (fun q => by rw [hc23] at q; exact absurd q.2.1 (by decide)) | exact xm_rd_n hf (by omega) (fun q => by rw [hc58] at q; exact absurd q.2.2 (by decide))) (lv_sub hl [3, 4, 1, 0] rfl) (by omega)
  exact lp4 _ 0 ((-1)) ls (by omega) (by rw [if_neg (fun q => absurd q.1 (Nat.not_lt_zero _))]) (lv_sub hl [2, 3, 1, 0] rfl) (Nat.lt_succ_self _)
set_option maxHeartbeats 4000000 in
set_option maxRecDepth 100000 in
theorem c_M_bytes (l : Launch) (D : va_G) (q : Nat → Nat) (cA : Nat → ClassId) (lim : Int32) (bs : Int32) (bk : Nat → Int32) (bv : Nat → Int64) (rn : Int32) (wh : Nat → Int32) (rk : Nat → Int32) (rv : Nat → Int64) (bg : Nat → Int32) (bt : Int32) (sc : Int32) (sw : Nat → Int32) (sk : Nat → Int32) (sv : Nat → Int64) (kp : Int32) (ky : Nat → Int32) (vl : Nat → Int64) (v : Int64)  : Met l y_M_bytes zw_M_bytes ({ frames := 0, cells := 0, slots := 0, locals := 0 } : Room) (va_Pc [.ref (q 0), .long v] (xp_R D zz_cl (xw_tM cA) (xw_M q cA lim bs bk bv rn wh rk rv bg bt sc sw sk sv kp ky vl))) (vp_Si (fun r : Int32 => r = (nI (xv_by v)))) 0 0 (fun _ => False) := by
  refine Met.ofW (cc := b_M_bytes) (maxL := 7) (ret := (some .int)) (by decide) rfl ?_
  intro pJ eJ s mJ args below meth cJ s₁ B hml hv
  obtain ⟨rfl, hP, hK, hZ⟩ := hv
  have hx := B.exec
  have hb := B.bytes
  have hr := B.returns
  have hts := atoms_spec (ws := zw_M_bytes) B.pre
  have hown : s.vm.findClass R_M = some mJ.cls := findClass_of_methodNamed B.named
  have hlocks := B.notSynchronized
  have hl := lv_entry ([.ref (q 0), .long v]) (n := 7) (Nat.le_of_ble_eq_true rfl)
  rw [lg_entry_eq]
  generalize (lg_sl ([.ref (q 0), .long v]) ++ List.replicate (7 - (lg_sl ([.ref (q 0), .long v])).length) Slot.unset).toArray = ls at hl ⊢
  have hl : lv_has ls 7 [(0, .ref (q 0)), (1, .long v)] := hl
  refine lv_iconst (v := nI 1) hx hb d_M_bytes_0 (by decide +kernel) ?_
  refine lv_istore_n (lv' := [(3, .int (nI 1)), (0, .ref (q 0)), (1, .long v)]) hx hb d_M_bytes_1 rfl hl (Nat.le_of_ble_eq_true rfl) rfl (fun ls hl => ?_)
  refine lv_lload_n hx hb d_M_bytes_2 rfl (lv_at hl 2 rfl) ?_
  refine lv_bipush (v := nI 8) hx hb d_M_bytes_3 (by decide +kernel) ?_
  refine lv_lshr (v := v >>> ((nI 8).toInt64 &&& 63)) hx hb d_M_bytes_5 rfl ?_
  refine xa_topl (y := xv_r v 0) rfl ?_
  refine lv_lstore (lv' := [(4, .long (xv_r v 0)), (3, .int (nI 1)), (0, .ref (q 0)), (1, .long v)]) hx hb d_M_bytes_6 hl (Nat.le_of_ble_eq_true rfl) rfl (fun ls hl => ?_)
  refine lv_iconst (v := nI 0) hx hb d_M_bytes_8 (by decide +kernel) ?_
  refine lv_istore (lv' := [(6, .int (nI 0)), (4, .long (xv_r v 0)), (3, .int (nI 1)), (0, .ref (q 0)), (1, .long v)]) hx hb d_M_bytes_9 hl (Nat.le_of_ble_eq_true rfl) rfl (fun ls hl => ?_)
  have lp11 : ∀ (N : Nat) (j : Nat) (n : Nat) (ls : Array Slot), (j ≤ 7) → (n = xv_n v j) → lv_has ls 7 [(0, .ref (q 0)), (1, .long v), (3, .int (nI n)), (4, .long (xv_r v j)), (6, .int (nI j))] → 7 - j < N → W pJ l eJ (headSpec zw_M_bytes ({ frames := 0, cells := 0, slots := 0, locals := 0 } : Room)).room s mJ ([.ref (q 0), .long v] : List Value).toArray below meth cJ s.heap [] 0 0 (MQ below (vp_Si (fun r : Int32 => r = (nI (xv_by v)))) ([.ref (q 0), .long v] : List Value).toArray s 0 0 (fun _ => False)) (F0 mJ 11 ls []) := by
    intro N
    induction N with
    | zero => intro j n ls hj hn hl hm; exact absurd hm (Nat.not_lt_zero _)
    | succ N ih11 =>
      intro j n ls hj hn hl hm
      refine lv_iload hx hb d_M_bytes_11 (lv_at hl 4 rfl) ?_
      refine lv_bipush (v := nI 7) hx hb d_M_bytes_13 (by decide +kernel) ?_
      refine lv_icmp_ge (tgt := 52) hx hb d_M_bytes_15 (by decide) (fun hc15 => ?_) (fun hc15 => ?_)
      · skip
        rw [nI_leI (by omega) (by omega)] at hc15
        refine lv_lload_n hx hb d_M_bytes_52 rfl (lv_at hl 1 rfl) ?_
        refine lv_lconst (v := 0) hx hb d_M_bytes_53 (by decide +kernel) ?_
        refine W.lcmp hx hb d_M_bytes_54 ?_
        refine lv_if_ge (tgt := 63) hx hb d_M_bytes_55 (by decide) (fun hc55 => ?_) (fun hc55 => ?_)
        · skip
          rw [xl_ge] at hc55
          refine lv_iload_n hx hb d_M_bytes_63 rfl (lv_at hl 2 rfl) ?_
          exact W.iret (v := nI n) hx hb hr (fun tJ htJ hWJ => ⟨_, rfl, by first | rw [xv_neg (Classical.not_not.mp hc55)] | rw [hn, show j = 7 from by omega, xv_same hc55] | exact absurd hc21 hc55, htJ⟩) (fun _ h => by cases h) d_M_bytes_64
        · skip
          rw [xl_ge] at hc55
          refine lv_bipush (v := nI 8) hx hb d_M_bytes_58 (by decide +kernel) ?_
          refine lv_goto (tgt := 64) hx hb d_M_bytes_60 (by decide) ?_
          exact W.iret (v := nI 8) hx hb hr (fun tJ htJ hWJ => ⟨_, rfl, by first | rw [xv_neg (Classical.not_not.mp hc55)] | rw [hn, show j = 7 from by omega, xv_same hc55] | exact absurd hc21 hc55, htJ⟩) (fun _ h => by cases h) d_M_bytes_64
      · skip
        rw [nI_leI (by omega) (by omega)] at hc15
        refine lv_lload_n hx hb d_M_bytes_18 rfl (lv_at hl 1 rfl) ?_
        refine lv_lconst (v := 0) hx hb d_M_bytes_19 (by decide +kernel) ?_
        refine W.lcmp hx hb d_M_bytes_20 ?_
        refine lv_if_lt (tgt := 52) hx hb d_M_bytes_21 (by decide) (fun hc21 => ?_) (fun hc21 => ?_)
        · skip
          rw [xl_lt] at hc21
          refine lv_lload_n hx hb d_M_bytes_52 rfl (lv_at hl 1 rfl) ?_
          refine lv_lconst (v := 0) hx hb d_M_bytes_53 (by decide +kernel) ?_
          refine W.lcmp hx hb d_M_bytes_54 ?_
          refine lv_if_ge (tgt := 63) hx hb d_M_bytes_55 (by decide) (fun hc55 => ?_) (fun hc55 => ?_)
          · skip
            rw [xl_ge] at hc55
            refine lv_iload_n hx hb d_M_bytes_63 rfl (lv_at hl 2 rfl) ?_
            exact W.iret (v := nI n) hx hb hr (fun tJ htJ hWJ => ⟨_, rfl, by first | rw [xv_neg (Classical.not_not.mp hc55)] | rw [hn, show j = 7 from by omega, xv_same hc55] | exact absurd hc21 hc55, htJ⟩) (fun _ h => by cases h) d_M_bytes_64
          · skip
            rw [xl_ge] at hc55
            refine lv_bipush (v := nI 8) hx hb d_M_bytes_58 (by decide +kernel) ?_
            refine lv_goto (tgt := 64) hx hb d_M_bytes_60 (by decide) ?_
            exact W.iret (v := nI 8) hx hb hr (fun tJ htJ hWJ => ⟨_, rfl, by first | rw [xv_neg (Classical.not_not.mp hc55)] | rw [hn, show j = 7 from by omega, xv_same hc55] | exact absurd hc21 hc55, htJ⟩) (fun _ h => by cases h) d_M_bytes_64
        · skip
          rw [xl_lt] at hc21
          refine lv_lload hx hb d_M_bytes_24 (lv_at hl 3 rfl) ?_
          refine lv_lconst (v := 0) hx hb d_M_bytes_26 (by decide +kernel) ?_
          refine W.lcmp hx hb d_M_bytes_27 ?_
          refine lv_if_le (tgt := 37) hx hb d_M_bytes_28 (by decide) (fun hc28 => ?_) (fun hc28 => ?_)
          · skip
            rw [xl_le] at hc28
            refine lv_iload_n hx hb d_M_bytes_37 rfl (lv_at hl 2 rfl) ?_
            refine lv_istore_n (lv' := [(3, .int (nI n)), (0, .ref (q 0)), (1, .long v), (4, .long (xv_r v j)), (6, .int (nI j))]) hx hb d_M_bytes_38 rfl hl (Nat.le_of_ble_eq_true rfl) rfl (fun ls hl => ?_)
            refine lv_lload hx hb d_M_bytes_39 (lv_at hl 3 rfl) ?_
            refine lv_bipush (v := nI 8) hx hb d_M_bytes_41 (by decide +kernel) ?_
            refine lv_lshr (v := (xv_r v j) >>> ((nI 8).toInt64 &&& 63)) hx hb d_M_bytes_43 rfl ?_
            refine xa_topl (y := xv_r v (j + 1)) rfl ?_
            refine lv_lstore (lv' := [(4, .long (xv_r v (j + 1))), (3, .int (nI n)), (0, .ref (q 0)), (1, .long v), (6, .int (nI j))]) hx hb d_M_bytes_44 hl (Nat.le_of_ble_eq_true rfl) rfl (fun ls hl => ?_)
            refine lv_iinc (k := 4) (v := nI (j + 1)) (lv' := [(6, .int (nI (j + 1))), (4, .long (xv_r v (j + 1))), (3, .int (nI n)), (0, .ref (q 0)), (1, .long v)]) hx hb d_M_bytes_46 hl rfl (xn_inc _) (Nat.le_of_ble_eq_true rfl) rfl (fun ls hl => ?_)
            refine lv_goto (tgt := 11) hx hb d_M_bytes_49 (by decide) ?_
            exact ih11 (j + 1) n ls (by omega) (by first | rw [xv_n, if_pos (Classical.not_not.mp hc28), hn] | rw [xv_n, if_neg hc28, hn]) (lv_sub hl [3, 4, 2, 1, 0] rfl) (by omega)
          · skip
            rw [xl_le] at hc28
            refine lv_iload_n hx hb d_M_bytes_31 rfl (lv_at hl 2 rfl) ?_
            refine lv_iconst (v := nI 1) hx hb d_M_bytes_32 (by decide +kernel) ?_
            refine lv_iadd hx hb d_M_bytes_33 ?_
            refine xa_top (y := nI (n + 1)) (nI_add _ _) ?_
            refine lv_goto (tgt := 38) hx hb d_M_bytes_34 (by decide) ?_
            refine lv_istore_n (lv' := [(3, .int (nI (n + 1))), (0, .ref (q 0)), (1, .long v), (4, .long (xv_r v j)), (6, .int (nI j))]) hx hb d_M_bytes_38 rfl hl (Nat.le_of_ble_eq_true rfl) rfl (fun ls hl => ?_)
            refine lv_lload hx hb d_M_bytes_39 (lv_at hl 3 rfl) ?_
            refine lv_bipush (v := nI 8) hx hb d_M_bytes_41 (by decide +kernel) ?_
            refine lv_lshr (v := (xv_r v j) >>> ((nI 8).toInt64 &&& 63)) hx hb d_M_bytes_43 rfl ?_
            refine xa_topl (y := xv_r v (j + 1)) rfl ?_
            refine lv_lstore (lv' := [(4, .long (xv_r v (j + 1))), (3, .int (nI (n + 1))), (0, .ref (q 0)), (1, .long v), (6, .int (nI j))]) hx hb d_M_bytes_44 hl (Nat.le_of_ble_eq_true rfl) rfl (fun ls hl => ?_)
            refine lv_iinc (k := 4) (v := nI (j + 1)) (lv' := [(6, .int (nI (j + 1))), (4, .long (xv_r v (j + 1))), (3, .int (nI (n + 1))), (0, .ref (q 0)), (1, .long v)]) hx hb d_M_bytes_46 hl rfl (xn_inc _) (Nat.le_of_ble_eq_true rfl) rfl (fun ls hl => ?_)
            refine lv_goto (tgt := 11) hx hb d_M_bytes_49 (by decide) ?_
            exact ih11 (j + 1) (n + 1) ls (by omega) (by first | rw [xv_n, if_pos (Classical.not_not.mp hc28), hn] | rw [xv_n, if_neg hc28, hn]) (lv_sub hl [3, 4, 2, 1, 0] rfl) (by omega)
  exact lp11 _ 0 1 ls (by omega) rfl (lv_sub hl [3, 4, 2, 1, 0] rfl) (Nat.lt_succ_self _)
set_option maxHeartbeats 4000000 in
set_option maxRecDepth 100000 in
theorem c_M_valp (l : Launch) (D : va_G) (q : Nat → Nat) (cA : Nat → ClassId) (lim : Int32) (bs : Int32) (bk : Nat → Int32) (bv : Nat → Int64) (rn : Int32) (wh : Nat → Int32) (rk : Nat → Int32) (rv : Nat → Int64) (bg : Nat → Int32) (bt : Int32) (sc : Int32) (sw : Nat → Int32) (sk : Nat → Int32) (sv : Nat → Int64) (kp : Int32) (ky : Nat → Int32) (vl : Nat → Int64) (v : Int64)  : Met l y_M_valuePages zw_M_valuePages ({ frames := 1, cells := 0, slots := 0, locals := 26 } : Room) (va_Pc [.ref (q 0), .long v] (xp_R D zz_cl (xw_tM cA) (xw_M q cA lim bs bk bv rn wh rk rv bg bt sc sw sk sv kp ky vl))) (vp_Si (fun r : Int32 => r = (nI (xv_vp v)))) 0 0 (fun _ => False) := by
  refine Met.ofW (cc := b_M_valuePages) (maxL := 4) (ret := (some .int)) (by decide) rfl ?_
  intro pJ eJ s mJ args below meth cJ s₁ B hml hv
  obtain ⟨rfl, hP, hK, hZ⟩ := hv
  have hx := B.exec
  have hb := B.bytes
  have hr := B.returns
  have hts := atoms_spec (ws := zw_M_valuePages) B.pre
  have hown : s.vm.findClass R_M = some mJ.cls := findClass_of_methodNamed B.named
  have hlocks := B.notSynchronized
  have hl := lv_entry ([.ref (q 0), .long v]) (n := 4) (Nat.le_of_ble_eq_true rfl)
  rw [lg_entry_eq]
  generalize (lg_sl ([.ref (q 0), .long v]) ++ List.replicate (4 - (lg_sl ([.ref (q 0), .long v])).length) Slot.unset).toArray = ls at hl ⊢
  have hl : lv_has ls 4 [(0, .ref (q 0)), (1, .long v)] := hl
  have hby := xv_by_le v
  refine lv_aload_n hx hb d_M_valuePages_0 rfl (lv_at hl 0 rfl) ?_
  refine lv_lload_n hx hb d_M_valuePages_1 rfl (lv_at hl 1 rfl) ?_
  refine xa_cI (va_runV (As := [.long v]) (rest := []) ⟨hx, hb, hml, hown, hts⟩ (c_M_bytes l D q cA lim bs bk bv rn wh rk rv bg bt sc sw sk sv kp ky vl v) (cwV 1 hts (zg_V zm_500 zm_502 zs_27 zm_7 zm_503) rfl rfl rfl (by decide +kernel) ⟨Nat.le_of_ble_eq_true rfl, Nat.le_of_ble_eq_true rfl⟩) (xp_preV (ci := 5) (q0 := 0) hK hP rfl rfl rfl hZ) rfl rfl hl.1 rfl (lv_room (Nat.le_of_ble_eq_true rfl)) d_M_valuePages_2 ⟨Nat.zero_le _, Nat.zero_le _⟩) ?_
  refine lv_istore_n (lv' := [(3, .int (nI (xv_by v))), (0, .ref (q 0)), (1, .long v)]) hx hb d_M_valuePages_5 rfl hl (Nat.le_of_ble_eq_true rfl) rfl (fun ls hl => ?_)
  refine lv_iload_n hx hb d_M_valuePages_6 rfl (lv_at hl 0 rfl) ?_
  refine lv_iconst (v := nI 2) hx hb d_M_valuePages_7 (by decide +kernel) ?_
  refine lv_icmp_le (tgt := 19) hx hb d_M_valuePages_8 (by decide) (fun hc8 => ?_) (fun hc8 => ?_)
  · skip
    rw [nI_leI (by omega) (by omega)] at hc8
    refine lv_iconst (v := nI 0) hx hb d_M_valuePages_19 (by decide +kernel) ?_
    exact W.iret (v := nI 0) hx hb hr (fun tJ htJ hWJ => ⟨_, rfl, congrArg nI (by unfold xv_vp; split <;> omega), htJ⟩) (fun _ h => by cases h) d_M_valuePages_20
  · skip
    rw [nI_leI (by omega) (by omega)] at hc8
    refine lv_iload_n hx hb d_M_valuePages_11 rfl (lv_at hl 0 rfl) ?_
    refine lv_iconst (v := nI 1) hx hb d_M_valuePages_12 (by decide +kernel) ?_
    refine lv_iadd hx hb d_M_valuePages_13 ?_
    refine xa_top (y := nI (xv_by v + 1)) (nI_add _ _) ?_
    refine lv_iconst (v := nI 2) hx hb d_M_valuePages_14 (by decide +kernel) ?_
    refine lv_idiv hx hb d_M_valuePages_15 (by decide +kernel) ?_
    refine xa_top (y := nI ((xv_by v + 1) / 2)) (pk_div (by omega) (by omega) (by omega)) ?_
    refine lv_goto (tgt := 20) hx hb d_M_valuePages_16 (by decide) ?_
    exact W.iret (v := nI ((xv_by v + 1) / 2)) hx hb hr (fun tJ htJ hWJ => ⟨_, rfl, congrArg nI (by unfold xv_vp; split <;> omega), htJ⟩) (fun _ h => by cases h) d_M_valuePages_20
set_option maxHeartbeats 4000000 in
set_option maxRecDepth 100000 in
theorem c_M_great (l : Launch) (D : va_G) (q : Nat → Nat) (cA : Nat → ClassId) (lim : Int32) (bs : Int32) (bk : Nat → Int32) (bv : Nat → Int64) (rn : Int32) (wh : Nat → Int32) (rk : Nat → Int32) (rv : Nat → Int64) (bg : Nat → Int32) (bt : Int32) (sc : Int32) (sw : Nat → Int32) (sk : Nat → Int32) (sv : Nat → Int64) (ky : Nat → Int32) (vl : Nat → Int64) (K : List xk_E) (hM : xm_T ky vl K) : Met l y_M_greatest zw_M_greatest ({ frames := 3, cells := 0, slots := 0, locals := 74 } : Room) (va_Pc [.ref (q 0)] (xp_R D zz_cl (xw_tM cA) (xw_M q cA lim bs bk bv rn wh rk rv bg bt sc sw sk sv (nI K.length) ky vl))) (vp_Si (fun r : Int32 => r = (nI (xd_gm K 64)))) 0 0 (fun _ => False) := by
  refine Met.ofW (cc := b_M_greatest) (maxL := 4) (ret := (some .int)) (by decide) rfl ?_
  intro pJ eJ s mJ args below meth cJ s₁ B hml hv
  obtain ⟨rfl, hP, hK, hZ⟩ := hv
  have hx := B.exec
  have hb := B.bytes
  have hr := B.returns
  have hts := atoms_spec (ws := zw_M_greatest) B.pre
  have hown : s.vm.findClass R_M = some mJ.cls := findClass_of_methodNamed B.named
  have hlocks := B.notSynchronized
  have hl := lv_entry ([.ref (q 0)]) (n := 4) (Nat.le_of_ble_eq_true rfl)
  rw [lg_entry_eq]
  generalize (lg_sl ([.ref (q 0)]) ++ List.replicate (4 - (lg_sl ([.ref (q 0)])).length) Slot.unset).toArray = ls at hl ⊢
  have hl : lv_has ls 4 [(0, .ref (q 0))] := hl
  refine lv_iconst (v := nI 0) hx hb d_M_greatest_0 (by decide +kernel) ?_
  refine lv_istore_n (lv' := [(1, .int (nI 0)), (0, .ref (q 0))]) hx hb d_M_greatest_1 rfl hl (Nat.le_of_ble_eq_true rfl) rfl (fun ls hl => ?_)
  refine lv_iconst (v := nI 0) hx hb d_M_greatest_2 (by decide +kernel) ?_
  refine lv_istore_n (lv' := [(2, .int (nI 0)), (1, .int (nI 0)), (0, .ref (q 0))]) hx hb d_M_greatest_3 rfl hl (Nat.le_of_ble_eq_true rfl) rfl (fun ls hl => ?_)
  have lp4 : ∀ (N : Nat) (p : Nat) (ls : Array Slot), (p ≤ 64) → lv_has ls 4 [(0, .ref (q 0)), (1, .int (nI (xd_gm K p))), (2, .int (nI p))] → 64 - p < N → W pJ l eJ (headSpec zw_M_greatest ({ frames := 3, cells := 0, slots := 0, locals := 74 } : Room)).room s mJ ([.ref (q 0)] : List Value).toArray below meth cJ s.heap [] 0 0 (MQ below (vp_Si (fun r : Int32 => r = (nI (xd_gm K 64)))) ([.ref (q 0)] : List Value).toArray s 0 0 (fun _ => False)) (F0 mJ 4 ls []) := by
    intro N
    induction N with
    | zero => intro p ls hp hl hm; exact absurd hm (Nat.not_lt_zero _)
    | succ N ih4 =>
      intro p ls hp hl hm
      refine lv_iload_n hx hb d_M_greatest_4 rfl (lv_at hl 2 rfl) ?_
      refine lv_bipush (v := nI 64) hx hb d_M_greatest_5 (by decide +kernel) ?_
      refine lv_icmp_ge (tgt := 33) hx hb d_M_greatest_7 (by decide) (fun hc7 => ?_) (fun hc7 => ?_)
      · skip
        rw [nI_leI (by omega) (by omega)] at hc7
        refine lv_iload_n hx hb d_M_greatest_33 rfl (lv_at hl 1 rfl) ?_
        exact W.iret (v := nI (xd_gm K p)) hx hb hr (fun tJ htJ hWJ => ⟨_, rfl, by rw [show p = 64 from by omega], htJ⟩) (fun _ h => by cases h) d_M_greatest_34
      · skip
        rw [nI_leI (by omega) (by omega)] at hc7
        refine lv_aload_n hx hb d_M_greatest_10 rfl (lv_at hl 0 rfl) ?_
        refine lv_iload_n hx hb d_M_greatest_11 rfl (lv_at hl 2 rfl) ?_
        refine xa_cI (va_runV (As := [.int (nI p)]) (rest := []) ⟨hx, hb, hml, hown, hts⟩ (c_M_dep l D q cA lim bs bk bv rn wh rk rv bg bt sc sw sk sv ky vl K p hM (by omega)) (cwV 1 hts (zg_V zm_476 zm_478 zs_21 zm_7 zm_479) rfl rfl rfl (by decide +kernel) ⟨Nat.le_of_ble_eq_true rfl, Nat.le_of_ble_eq_true rfl⟩) (xp_preV (ci := 5) (q0 := 0) hK hP rfl rfl rfl hZ) rfl rfl hl.1 rfl (lv_room (Nat.le_of_ble_eq_true rfl)) d_M_greatest_12 ⟨Nat.zero_le _, Nat.zero_le _⟩) ?_
        refine lv_istore_n (lv' := [(3, .int (xm_rd K p)), (0, .ref (q 0)), (1, .int (nI (xd_gm K p))), (2, .int (nI p))]) hx hb d_M_greatest_15 rfl hl (Nat.le_of_ble_eq_true rfl) rfl (fun ls hl => ?_)
        refine lv_iload_n hx hb d_M_greatest_16 rfl (lv_at hl 0 rfl) ?_
        refine lv_iload_n hx hb d_M_greatest_17 rfl (lv_at hl 2 rfl) ?_
        refine lv_icmp_le (tgt := 25) hx hb d_M_greatest_18 (by decide) (fun hc18 => ?_) (fun hc18 => ?_)
        · skip
          refine lv_iload_n hx hb d_M_greatest_25 rfl (lv_at hl 2 rfl) ?_
          refine xa_top (y := nI (xd_gm K (p + 1))) (by first | exact xm_g1 hc18 | exact xm_g2 hc18) ?_
          refine lv_istore_n (lv' := [(1, .int (nI (xd_gm K (p + 1)))), (3, .int (xm_rd K p)), (0, .ref (q 0)), (2, .int (nI p))]) hx hb d_M_greatest_26 rfl hl (Nat.le_of_ble_eq_true rfl) rfl (fun ls hl => ?_)
          refine lv_iinc (k := 3) (v := nI (p + 1)) (lv' := [(2, .int (nI (p + 1))), (1, .int (nI (xd_gm K (p + 1)))), (3, .int (xm_rd K p)), (0, .ref (q 0))]) hx hb d_M_greatest_27 hl rfl (xn_inc _) (Nat.le_of_ble_eq_true rfl) rfl (fun ls hl => ?_)
          refine lv_goto (tgt := 4) hx hb d_M_greatest_30 (by decide) ?_
          exact ih4 (p + 1) ls (by omega) (lv_sub hl [3, 1, 0] rfl) (by omega)
        · skip
          refine lv_iload_n hx hb d_M_greatest_21 rfl (lv_at hl 0 rfl) ?_
          refine lv_goto (tgt := 26) hx hb d_M_greatest_22 (by decide) ?_
          refine xa_top (y := nI (xd_gm K (p + 1))) (by first | exact xm_g1 hc18 | exact xm_g2 hc18) ?_
          refine lv_istore_n (lv' := [(1, .int (nI (xd_gm K (p + 1)))), (3, .int (xm_rd K p)), (0, .ref (q 0)), (2, .int (nI p))]) hx hb d_M_greatest_26 rfl hl (Nat.le_of_ble_eq_true rfl) rfl (fun ls hl => ?_)
          refine lv_iinc (k := 3) (v := nI (p + 1)) (lv' := [(2, .int (nI (p + 1))), (1, .int (nI (xd_gm K (p + 1)))), (3, .int (xm_rd K p)), (0, .ref (q 0))]) hx hb d_M_greatest_27 hl rfl (xn_inc _) (Nat.le_of_ble_eq_true rfl) rfl (fun ls hl => ?_)
          refine lv_goto (tgt := 4) hx hb d_M_greatest_30 (by decide) ?_
          exact ih4 (p + 1) ls (by omega) (lv_sub hl [3, 1, 0] rfl) (by omega)
  exact lp4 _ 0 ls (by omega) (lv_sub hl [2, 1, 0] rfl) (Nat.lt_succ_self _)
set_option maxHeartbeats 4000000 in
set_option maxRecDepth 100000 in
theorem c_M_inUse (l : Launch) (D : va_G) (q : Nat → Nat) (cA : Nat → ClassId) (lim : Int32) (bs : Int32) (bk : Nat → Int32) (bv : Nat → Int64) (rn : Int32) (wh : Nat → Int32) (rk : Nat → Int32) (rv : Nat → Int64) (bg : Nat → Int32) (bt : Int32) (sc : Int32) (sw : Nat → Int32) (sk : Nat → Int32) (sv : Nat → Int64) (ky : Nat → Int32) (vl : Nat → Int64) (K : List xk_E) (hM : xm_T ky vl K) : Met l y_M_inUse zw_M_inUse ({ frames := 4, cells := 0, slots := 0, locals := 97 } : Room) (va_Pc [.ref (q 0)] (xp_R D zz_cl (xw_tM cA) (xw_M q cA lim bs bk bv rn wh rk rv bg bt sc sw sk sv (nI K.length) ky vl))) (vp_Si (fun r : Int32 => r = (nI (xd_pg K)))) 0 0 (fun _ => False) := by
  refine Met.ofW (cc := b_M_inUse) (maxL := 6) (ret := (some .int)) (by decide) rfl ?_
  intro pJ eJ s mJ args below meth cJ s₁ B hml hv
  obtain ⟨rfl, hP, hK, hZ⟩ := hv
  have hx := B.exec
  have hb := B.bytes
  have hr := B.returns
  have hts := atoms_spec (ws := zw_M_inUse) B.pre
  have hown : s.vm.findClass R_M = some mJ.cls := findClass_of_methodNamed B.named
  have hlocks := B.notSynchronized
  have hl := lv_entry ([.ref (q 0)]) (n := 6) (Nat.le_of_ble_eq_true rfl)
  rw [lg_entry_eq]
  generalize (lg_sl ([.ref (q 0)]) ++ List.replicate (6 - (lg_sl ([.ref (q 0)])).length) Slot.unset).toArray = ls at hl ⊢
  have hl : lv_has ls 6 [(0, .ref (q 0))] := hl
  have hlen := hM.1
  refine lv_iconst (v := nI 1) hx hb d_M_inUse_0 (by decide +kernel) ?_
  refine lv_aload_n hx hb d_M_inUse_1 rfl (lv_at hl 0 rfl) ?_
  refine xa_cI (va_runV (As := []) (rest := [.int (nI 1)]) ⟨hx, hb, hml, hown, hts⟩ (c_M_great l D q cA lim bs bk bv rn wh rk rv bg bt sc sw sk sv ky vl K hM) (cwV 0 hts (zg_V zm_472 zm_474 zs_20 zm_7 zm_475) rfl rfl rfl (by decide +kernel) ⟨Nat.le_of_ble_eq_true rfl, Nat.le_of_ble_eq_true rfl⟩) (xp_preV (ci := 5) (q0 := 0) hK hP rfl rfl rfl hZ) rfl rfl hl.1 rfl (lv_room (Nat.le_of_ble_eq_true rfl)) d_M_inUse_2 ⟨Nat.zero_le _, Nat.zero_le _⟩) ?_
  refine lv_ishl hx hb d_M_inUse_5 ?_
  refine xa_top (y := nI (2 ^ xd_gm K 64)) (xw_shl (xd_gm_le K 64)) ?_
  have hpw := xw_pow (xd_gm_le K 64)
  refine lv_istore_n (lv' := [(1, .int (nI (2 ^ xd_gm K 64))), (0, .ref (q 0))]) hx hb d_M_inUse_6 rfl hl (Nat.le_of_ble_eq_true rfl) rfl (fun ls hl => ?_)
  refine lv_iconst (v := nI 1) hx hb d_M_inUse_7 (by decide +kernel) ?_
  refine lv_iload_n hx hb d_M_inUse_8 rfl (lv_at hl 0 rfl) ?_
  refine lv_bipush (v := nI 15) hx hb d_M_inUse_9 (by decide +kernel) ?_
  refine lv_iadd hx hb d_M_inUse_11 ?_
  refine xa_top (y := nI (2 ^ xd_gm K 64 + 15)) (nI_add _ _) ?_
  refine lv_bipush (v := nI 16) hx hb d_M_inUse_12 (by decide +kernel) ?_
  refine lv_idiv hx hb d_M_inUse_14 (by decide +kernel) ?_
  refine xa_top (y := nI ((2 ^ xd_gm K 64 + 15) / 16)) (pk_div (by omega) (by omega) (by omega)) ?_
  refine lv_iadd hx hb d_M_inUse_15 ?_
  refine xa_top (y := nI (1 + (2 ^ xd_gm K 64 + 15) / 16)) (nI_add _ _) ?_
  refine lv_istore_n (lv' := [(2, .int (nI (1 + (2 ^ xd_gm K 64 + 15) / 16))), (1, .int (nI (2 ^ xd_gm K 64))), (0, .ref (q 0))]) hx hb d_M_inUse_16 rfl hl (Nat.le_of_ble_eq_true rfl) rfl (fun ls hl => ?_)
  refine lv_iconst (v := nI 0) hx hb d_M_inUse_17 (by decide +kernel) ?_
  refine lv_istore_n (lv' := [(3, .int (nI 0)), (2, .int (nI (1 + (2 ^ xd_gm K 64 + 15) / 16))), (1, .int (nI (2 ^ xd_gm K 64))), (0, .ref (q 0))]) hx hb d_M_inUse_18 rfl hl (Nat.le_of_ble_eq_true rfl) rfl (fun ls hl => ?_)
  have lp19 : ∀ (N : Nat) (p : Nat) (n : Nat) (ls : Array Slot), (p ≤ 64) → (n = 1 + (2 ^ xd_gm K 64 + 15) / 16 + xd_sp K p) → lv_has ls 6 [(0, .ref (q 0)), (1, .int (nI (2 ^ xd_gm K 64))), (2, .int (nI n)), (3, .int (nI p))] → 64 - p < N → W pJ l eJ (headSpec zw_M_inUse ({ frames := 4, cells := 0, slots := 0, locals := 97 } : Room)).room s mJ ([.ref (q 0)] : List Value).toArray below meth cJ s.heap [] 0 0 (MQ below (vp_Si (fun r : Int32 => r = (nI (xd_pg K)))) ([.ref (q 0)] : List Value).toArray s 0 0 (fun _ => False)) (F0 mJ 19 ls []) := by
    intro N
    induction N with
    | zero => intro p n ls hp hn hl hm; exact absurd hm (Nat.not_lt_zero _)
    | succ N ih19 =>
      intro p n ls hp hn hl hm
      refine lv_iload_n hx hb d_M_inUse_19 rfl (lv_at hl 3 rfl) ?_
      refine lv_bipush (v := nI 64) hx hb d_M_inUse_20 (by decide +kernel) ?_
      refine lv_icmp_ge (tgt := 70) hx hb d_M_inUse_22 (by decide) (fun hc22 => ?_) (fun hc22 => ?_)
      · skip
        rw [nI_leI (by omega) (by omega)] at hc22
        refine lv_iconst (v := nI 0) hx hb d_M_inUse_70 (by decide +kernel) ?_
        refine lv_istore_n (lv' := [(3, .int (nI 0)), (0, .ref (q 0)), (1, .int (nI (2 ^ xd_gm K 64))), (2, .int (nI n))]) hx hb d_M_inUse_71 rfl hl (Nat.le_of_ble_eq_true rfl) rfl (fun ls hl => ?_)
        have lp72 : ∀ (N : Nat) (i : Nat) (n : Nat) (ls : Array Slot), (i ≤ K.length) → (n = 1 + (2 ^ xd_gm K 64 + 15) / 16 + xd_sp K 64 + xd_vs (K.take i)) → lv_has ls 6 [(0, .ref (q 0)), (1, .int (nI (2 ^ xd_gm K 64))), (2, .int (nI n)), (3, .int (nI i))] → K.length - i < N → W pJ l eJ (headSpec zw_M_inUse ({ frames := 4, cells := 0, slots := 0, locals := 97 } : Room)).room s mJ ([.ref (q 0)] : List Value).toArray below meth cJ s.heap [] 0 0 (MQ below (vp_Si (fun r : Int32 => r = (nI (xd_pg K)))) ([.ref (q 0)] : List Value).toArray s 0 0 (fun _ => False)) (F0 mJ 72 ls []) := by
          intro N
          induction N with
          | zero => intro i n ls hi hn hl hm; exact absurd hm (Nat.not_lt_zero _)
          | succ N ih72 =>
            intro i n ls hi hn hl hm
            refine lv_iload_n hx hb d_M_inUse_72 rfl (lv_at hl 3 rfl) ?_
            refine lv_aload_n hx hb d_M_inUse_73 rfl (lv_at hl 0 rfl) ?_
            refine va_get (D := D) (ci := 5) (v := .int (nI K.length)) (C := R_M) (T := F_M) (N := 17) hx hb hts (zi_M _) hown hK hP 0 rfl rfl 14 (by decide) (hts _ (List.mem_cons_of_mem _ zm_390)) (fun _ h9 => h9) rfl d_M_inUse_74 ?_
            refine lv_icmp_ge (tgt := 99) hx hb d_M_inUse_77 (by decide) (fun hc77 => ?_) (fun hc77 => ?_)
            · skip
              rw [nI_leI (by omega) (by omega)] at hc77
              refine lv_iload_n hx hb d_M_inUse_99 rfl (lv_at hl 2 rfl) ?_
              exact W.iret (v := nI n) hx hb hr (fun tJ htJ hWJ => ⟨_, rfl, by rw [hn, show i = K.length from by omega, List.take_length]; rfl, htJ⟩) (fun _ h => by cases h) d_M_inUse_100
            · skip
              rw [nI_leI (by omega) (by omega)] at hc77
              obtain ⟨e, he⟩ : ∃ e, K[i]? = some e := ⟨_, List.getElem?_eq_getElem (by omega)⟩
              have hge := (xk_tie_f hM.2.2 he).2
              refine lv_iload_n hx hb d_M_inUse_80 rfl (lv_at hl 2 rfl) ?_
              refine lv_aload_n hx hb d_M_inUse_81 rfl (lv_at hl 0 rfl) ?_
              refine lv_aload_n hx hb d_M_inUse_82 rfl (lv_at hl 0 rfl) ?_
              refine va_get (D := D) (ci := 5) (v := .ref (q 11)) (C := R_M) (T := F_M) (N := 17) hx hb hts (zi_M _) hown hK hP 0 rfl rfl 16 (by decide) (hts _ (List.mem_cons_of_mem _ zm_392)) (fun _ h9 => h9) rfl d_M_inUse_83 ?_
              refine lv_iload_n hx hb d_M_inUse_86 rfl (lv_at hl 3 rfl) ?_
              refine xa_lald hx hb hK hP 11 10 rfl rfl (k := i) (by omega) (by decide) d_M_inUse_87 ?_
              refine xa_topl (y := e.2) hge ?_
              refine xa_cI (va_runV (As := [.long e.2]) (rest := [.int (nI n)]) ⟨hx, hb, hml, hown, hts⟩ (c_M_valp l D q cA lim bs bk bv rn wh rk rv bg bt sc sw sk sv (nI K.length) ky vl e.2) (cwV 1 hts (zg_V zm_496 zm_498 zs_26 zm_7 zm_499) rfl rfl rfl (by decide +kernel) ⟨Nat.le_of_ble_eq_true rfl, Nat.le_of_ble_eq_true rfl⟩) (xp_preV (ci := 5) (q0 := 0) hK hP rfl rfl rfl hZ) rfl rfl hl.1 rfl (lv_room (Nat.le_of_ble_eq_true rfl)) d_M_inUse_88 ⟨Nat.zero_le _, Nat.zero_le _⟩) ?_
              refine lv_iadd hx hb d_M_inUse_91 ?_
              refine xa_top (y := nI (n + xv_vp e.2)) (nI_add _ _) ?_
              refine lv_istore_n (lv' := [(2, .int (nI (n + xv_vp e.2))), (0, .ref (q 0)), (1, .int (nI (2 ^ xd_gm K 64))), (3, .int (nI i))]) hx hb d_M_inUse_92 rfl hl (Nat.le_of_ble_eq_true rfl) rfl (fun ls hl => ?_)
              refine lv_iinc (k := 3) (v := nI (i + 1)) (lv' := [(3, .int (nI (i + 1))), (2, .int (nI (n + xv_vp e.2))), (0, .ref (q 0)), (1, .int (nI (2 ^ xd_gm K 64)))]) hx hb d_M_inUse_93 hl rfl (xn_inc _) (Nat.le_of_ble_eq_true rfl) rfl (fun ls hl => ?_)
              refine lv_goto (tgt := 72) hx hb d_M_inUse_96 (by decide) ?_
              exact ih72 (i + 1) (n + xv_vp e.2) ls (by omega) (by rw [xd_vs_take he, hn]; omega) (lv_sub hl [2, 3, 1, 0] rfl) (by omega)
        exact lp72 _ 0 n ls (by omega) (by rw [hn, show p = 64 from by omega]; rfl) (lv_sub hl [1, 2, 3, 0] rfl) (Nat.lt_succ_self _)
      · skip
        rw [nI_leI (by omega) (by omega)] at hc22
        refine lv_aload_n hx hb d_M_inUse_25 rfl (lv_at hl 0 rfl) ?_
        refine lv_iload_n hx hb d_M_inUse_26 rfl (lv_at hl 3 rfl) ?_
        refine xa_cI (va_runV (As := [.int (nI p)]) (rest := []) ⟨hx, hb, hml, hown, hts⟩ (c_M_dep l D q cA lim bs bk bv rn wh rk rv bg bt sc sw sk sv ky vl K p hM (by omega)) (cwV 1 hts (zg_V zm_476 zm_478 zs_21 zm_7 zm_479) rfl rfl rfl (by decide +kernel) ⟨Nat.le_of_ble_eq_true rfl, Nat.le_of_ble_eq_true rfl⟩) (xp_preV (ci := 5) (q0 := 0) hK hP rfl rfl rfl hZ) rfl rfl hl.1 rfl (lv_room (Nat.le_of_ble_eq_true rfl)) d_M_inUse_27 ⟨Nat.zero_le _, Nat.zero_le _⟩) ?_
        refine lv_istore (lv' := [(4, .int (xm_rd K p)), (0, .ref (q 0)), (1, .int (nI (2 ^ xd_gm K 64))), (2, .int (nI n)), (3, .int (nI p))]) hx hb d_M_inUse_30 hl (Nat.le_of_ble_eq_true rfl) rfl (fun ls hl => ?_)
        refine lv_iload hx hb d_M_inUse_32 (lv_at hl 0 rfl) ?_
        refine lv_if_lt (tgt := 64) hx hb d_M_inUse_34 (by decide) (fun hc34 => ?_) (fun hc34 => ?_)
        · skip
          refine lv_iinc (k := 4) (v := nI (p + 1)) (lv' := [(3, .int (nI (p + 1))), (4, .int (xm_rd K p)), (0, .ref (q 0)), (1, .int (nI (2 ^ xd_gm K 64))), (2, .int (nI n))]) hx hb d_M_inUse_64 hl rfl (xn_inc _) (Nat.le_of_ble_eq_true rfl) rfl (fun ls hl => ?_)
          refine lv_goto (tgt := 19) hx hb d_M_inUse_67 (by decide) ?_
          exact ih19 (p + 1) n ls (by omega) (by first | (rw [hn, xd_sp, if_pos hpl]; omega) | rw [hn, xd_sp, if_neg (by rw [xm_rd_np hc34]; decide)]) (lv_sub hl [2, 3, 4, 0] rfl) (by omega)
        · skip
          have hpl := xm_rd_pl hc34
          have hrd := xm_rd_eq hpl
          refine lv_aload_n hx hb d_M_inUse_37 rfl (lv_at hl 1 rfl) ?_
          refine lv_iload hx hb d_M_inUse_38 (lv_at hl 0 rfl) ?_
          refine xa_top (y := nI (xd_dp K p)) hrd ?_
          refine lv_iload_n hx hb d_M_inUse_40 rfl (lv_at hl 4 rfl) ?_
          refine xa_cI (va_runV (As := [.int (nI (xd_dp K p)), .int (nI p)]) (rest := []) ⟨hx, hb, hml, hown, hts⟩ (c_M_count l D q cA lim bs bk bv rn wh rk rv bg bt sc sw sk sv ky vl K (xd_dp K p) p hM (by first | exact xd_dp_le _ _ | omega) (by omega)) (cwV 2 hts (zg_V zm_492 zm_494 zs_25 zm_7 zm_495) rfl rfl rfl (by decide +kernel) ⟨Nat.le_of_ble_eq_true rfl, Nat.le_of_ble_eq_true rfl⟩) (xp_preV (ci := 5) (q0 := 0) hK hP rfl rfl rfl hZ) rfl rfl hl.1 rfl (lv_room (Nat.le_of_ble_eq_true rfl)) d_M_inUse_41 ⟨Nat.zero_le _, Nat.zero_le _⟩) ?_
          refine lv_istore (lv' := [(5, .int (nI (xd_cn K (xd_dp K p) p))), (4, .int (xm_rd K p)), (0, .ref (q 0)), (1, .int (nI (2 ^ xd_gm K 64))), (2, .int (nI n)), (3, .int (nI p))]) hx hb d_M_inUse_44 hl (Nat.le_of_ble_eq_true rfl) rfl (fun ls hl => ?_)
          have hcn := xd_cn_le K (xd_dp K p) p
          refine lv_iload_n hx hb d_M_inUse_46 rfl (lv_at hl 4 rfl) ?_
          refine lv_iload hx hb d_M_inUse_47 (lv_at hl 0 rfl) ?_
          refine lv_if_ne (tgt := 56) hx hb d_M_inUse_49 (by decide) (fun hc49 => ?_) (fun hc49 => ?_)
          · skip
            rw [xn_ne0 (by omega)] at hc49
            refine lv_iload hx hb d_M_inUse_56 (lv_at hl 0 rfl) ?_
            refine lv_iconst (v := nI 3) hx hb d_M_inUse_58 (by decide +kernel) ?_
            refine lv_iadd hx hb d_M_inUse_59 ?_
            refine xa_top (y := nI (xd_cn K (xd_dp K p) p + 3)) (nI_add _ _) ?_
            refine lv_iconst (v := nI 4) hx hb d_M_inUse_60 (by decide +kernel) ?_
            refine lv_idiv hx hb d_M_inUse_61 (by decide +kernel) ?_
            refine xa_top (y := nI ((xd_cn K (xd_dp K p) p + 3) / 4)) (pk_div (by omega) (by omega) (by omega)) ?_
            refine xa_top (y := nI (xd_bp (xd_cn K (xd_dp K p) p))) (congrArg nI (by unfold xd_bp; omega)) ?_
            refine lv_iadd hx hb d_M_inUse_62 ?_
            refine xa_top (y := nI (n + xd_bp (xd_cn K (xd_dp K p) p))) (nI_add _ _) ?_
            refine lv_istore_n (lv' := [(2, .int (nI (n + xd_bp (xd_cn K (xd_dp K p) p)))), (5, .int (nI (xd_cn K (xd_dp K p) p))), (4, .int (xm_rd K p)), (0, .ref (q 0)), (1, .int (nI (2 ^ xd_gm K 64))), (3, .int (nI p))]) hx hb d_M_inUse_63 rfl hl (Nat.le_of_ble_eq_true rfl) rfl (fun ls hl => ?_)
            refine lv_iinc (k := 5) (v := nI (p + 1)) (lv' := [(3, .int (nI (p + 1))), (2, .int (nI (n + xd_bp (xd_cn K (xd_dp K p) p)))), (5, .int (nI (xd_cn K (xd_dp K p) p))), (4, .int (xm_rd K p)), (0, .ref (q 0)), (1, .int (nI (2 ^ xd_gm K 64)))]) hx hb d_M_inUse_64 hl rfl (xn_inc _) (Nat.le_of_ble_eq_true rfl) rfl (fun ls hl => ?_)
            refine lv_goto (tgt := 19) hx hb d_M_inUse_67 (by decide) ?_
            exact ih19 (p + 1) (n + xd_bp (xd_cn K (xd_dp K p) p)) ls (by omega) (by first | (rw [hn, xd_sp, if_pos hpl]; omega) | rw [hn, xd_sp, if_neg (by rw [xm_rd_np hc34]; decide)]) (lv_sub hl [4, 5, 1, 0] rfl) (by omega)
          · skip
            rw [xn_ne0 (by omega)] at hc49
            refine lv_iconst (v := nI 1) hx hb d_M_inUse_52 (by decide +kernel) ?_
            refine lv_goto (tgt := 62) hx hb d_M_inUse_53 (by decide) ?_
            refine xa_top (y := nI (xd_bp (xd_cn K (xd_dp K p) p))) (congrArg nI (by unfold xd_bp; omega)) ?_
            refine lv_iadd hx hb d_M_inUse_62 ?_
            refine xa_top (y := nI (n + xd_bp (xd_cn K (xd_dp K p) p))) (nI_add _ _) ?_
            refine lv_istore_n (lv' := [(2, .int (nI (n + xd_bp (xd_cn K (xd_dp K p) p)))), (5, .int (nI (xd_cn K (xd_dp K p) p))), (4, .int (xm_rd K p)), (0, .ref (q 0)), (1, .int (nI (2 ^ xd_gm K 64))), (3, .int (nI p))]) hx hb d_M_inUse_63 rfl hl (Nat.le_of_ble_eq_true rfl) rfl (fun ls hl => ?_)
            refine lv_iinc (k := 5) (v := nI (p + 1)) (lv' := [(3, .int (nI (p + 1))), (2, .int (nI (n + xd_bp (xd_cn K (xd_dp K p) p)))), (5, .int (nI (xd_cn K (xd_dp K p) p))), (4, .int (xm_rd K p)), (0, .ref (q 0)), (1, .int (nI (2 ^ xd_gm K 64)))]) hx hb d_M_inUse_64 hl rfl (xn_inc _) (Nat.le_of_ble_eq_true rfl) rfl (fun ls hl => ?_)
            refine lv_goto (tgt := 19) hx hb d_M_inUse_67 (by decide) ?_
            exact ih19 (p + 1) (n + xd_bp (xd_cn K (xd_dp K p) p)) ls (by omega) (by first | (rw [hn, xd_sp, if_pos hpl]; omega) | rw [hn, xd_sp, if_neg (by rw [xm_rd_np hc34]; decide)]) (lv_sub hl [4, 5, 1, 0] rfl) (by omega)
  exact lp19 _ 0 (1 + (2 ^ xd_gm K 64 + 15) / 16) ls (by omega) rfl (lv_sub hl [3, 2, 1, 0] rfl) (Nat.lt_succ_self _)
set_option maxHeartbeats 4000000 in
set_option maxRecDepth 100000 in
theorem c_M_find (l : Launch) (D : va_G) (q : Nat → Nat) (cA : Nat → ClassId) (lim : Int32) (bs : Int32) (bk : Nat → Int32) (bv : Nat → Int64) (rn : Int32) (wh : Nat → Int32) (rk : Nat → Int32) (rv : Nat → Int64) (bg : Nat → Int32) (bt : Int32) (sc : Int32) (sw : Nat → Int32) (sk : Nat → Int32) (sv : Nat → Int64) (ky : Nat → Int32) (vl : Nat → Int64) (K : List xk_E) (k : Int32) (hM : xm_T ky vl K) : Met l y_M_find zw_M_find ({ frames := 0, cells := 0, slots := 0, locals := 0 } : Room) (va_Pc [.ref (q 0), .int k] (xp_R D zz_cl (xw_tM cA) (xw_M q cA lim bs bk bv rn wh rk rv bg bt sc sw sk sv (nI K.length) ky vl))) (vp_Si (fun r : Int32 => r = (xm_fd K k))) 0 0 (fun _ => False) := by
  refine Met.ofW (cc := b_M_find) (maxL := 4) (ret := (some .int)) (by decide) rfl ?_
  intro pJ eJ s mJ args below meth cJ s₁ B hml hv
  obtain ⟨rfl, hP, hK, hZ⟩ := hv
  have hx := B.exec
  have hb := B.bytes
  have hr := B.returns
  have hts := atoms_spec (ws := zw_M_find) B.pre
  have hown : s.vm.findClass R_M = some mJ.cls := findClass_of_methodNamed B.named
  have hlocks := B.notSynchronized
  have hl := lv_entry ([.ref (q 0), .int k]) (n := 4) (Nat.le_of_ble_eq_true rfl)
  rw [lg_entry_eq]
  generalize (lg_sl ([.ref (q 0), .int k]) ++ List.replicate (4 - (lg_sl ([.ref (q 0), .int k])).length) Slot.unset).toArray = ls at hl ⊢
  have hl : lv_has ls 4 [(0, .ref (q 0)), (1, .int k)] := hl
  have hlen := hM.1
  refine lv_iconst (v := (-1)) hx hb d_M_find_0 (by decide +kernel) ?_
  refine lv_istore_n (lv' := [(2, .int ((-1))), (0, .ref (q 0)), (1, .int k)]) hx hb d_M_find_1 rfl hl (Nat.le_of_ble_eq_true rfl) rfl (fun ls hl => ?_)
  refine lv_iconst (v := nI 0) hx hb d_M_find_2 (by decide +kernel) ?_
  refine lv_istore_n (lv' := [(3, .int (nI 0)), (2, .int ((-1))), (0, .ref (q 0)), (1, .int k)]) hx hb d_M_find_3 rfl hl (Nat.le_of_ble_eq_true rfl) rfl (fun ls hl => ?_)
  have lp4 : ∀ (N : Nat) (i : Nat) (a_ : Int32) (ls : Array Slot), (i ≤ K.length) → (a_ = if xk_lo K k < i ∧ xk_has K k = true then nI (xk_lo K k) else (-1)) → lv_has ls 4 [(0, .ref (q 0)), (1, .int k), (2, .int a_), (3, .int (nI i))] → K.length - i < N → W pJ l eJ (headSpec zw_M_find ({ frames := 0, cells := 0, slots := 0, locals := 0 } : Room)).room s mJ ([.ref (q 0), .int k] : List Value).toArray below meth cJ s.heap [] 0 0 (MQ below (vp_Si (fun r : Int32 => r = (xm_fd K k))) ([.ref (q 0), .int k] : List Value).toArray s 0 0 (fun _ => False)) (F0 mJ 4 ls []) := by
    intro N
    induction N with
    | zero => intro i a_ ls hi ha hl hm; exact absurd hm (Nat.not_lt_zero _)
    | succ N ih4 =>
      intro i a_ ls hi ha hl hm
      refine lv_iload_n hx hb d_M_find_4 rfl (lv_at hl 3 rfl) ?_
      refine lv_aload_n hx hb d_M_find_5 rfl (lv_at hl 0 rfl) ?_
      refine va_get (D := D) (ci := 5) (v := .int (nI K.length)) (C := R_M) (T := F_M) (N := 17) hx hb hts (zi_M _) hown hK hP 0 rfl rfl 14 (by decide) (hts _ (List.mem_cons_of_mem _ zm_390)) (fun _ h9 => h9) rfl d_M_find_6 ?_
      refine lv_icmp_ge (tgt := 34) hx hb d_M_find_9 (by decide) (fun hc9 => ?_) (fun hc9 => ?_)
      · skip
        rw [nI_leI (by omega) (by omega)] at hc9
        refine lv_iload_n hx hb d_M_find_34 rfl (lv_at hl 2 rfl) ?_
        exact W.iret (v := a_) hx hb hr (fun tJ htJ hWJ => ⟨_, rfl, xm_f3 ha (by omega), htJ⟩) (fun _ h => by cases h) d_M_find_35
      · skip
        rw [nI_leI (by omega) (by omega)] at hc9
        obtain ⟨e, he⟩ : ∃ e, K[i]? = some e := ⟨_, List.getElem?_eq_getElem (by omega)⟩
        have hfe := (xk_tie_f hM.2.2 he).1
        refine lv_aload_n hx hb d_M_find_12 rfl (lv_at hl 0 rfl) ?_
        refine va_get (D := D) (ci := 5) (v := .ref (q 10)) (C := R_M) (T := F_M) (N := 17) hx hb hts (zi_M _) hown hK hP 0 rfl rfl 15 (by decide) (hts _ (List.mem_cons_of_mem _ zm_391)) (fun _ h9 => h9) rfl d_M_find_13 ?_
        refine lv_iload_n hx hb d_M_find_16 rfl (lv_at hl 3 rfl) ?_
        refine xa_iald hx hb hK hP 10 9 rfl rfl (k := i) (by omega) (by decide) d_M_find_17 ?_
        refine xa_top (y := e.1) hfe ?_
        refine lv_iload_n hx hb d_M_find_18 rfl (lv_at hl 1 rfl) ?_
        refine lv_icmp_ne (tgt := 26) hx hb d_M_find_19 (by decide) (fun hc19 => ?_) (fun hc19 => ?_)
        · skip
          refine lv_iload_n hx hb d_M_find_26 rfl (lv_at hl 2 rfl) ?_
          refine lv_istore_n (lv' := [(2, .int a_), (0, .ref (q 0)), (1, .int k), (3, .int (nI i))]) hx hb d_M_find_27 rfl hl (Nat.le_of_ble_eq_true rfl) rfl (fun ls hl => ?_)
          refine lv_iinc (k := 3) (v := nI (i + 1)) (lv' := [(3, .int (nI (i + 1))), (2, .int a_), (0, .ref (q 0)), (1, .int k)]) hx hb d_M_find_28 hl rfl (xn_inc _) (Nat.le_of_ble_eq_true rfl) rfl (fun ls hl => ?_)
          refine lv_goto (tgt := 4) hx hb d_M_find_31 (by decide) ?_
          exact ih4 (i + 1) a_ ls (by omega) (by first | exact xm_f1 hM.2.1 he hc19 | exact xm_f2 hM.2.1 ha he hc19) (lv_sub hl [2, 3, 1, 0] rfl) (by omega)
        · skip
          refine lv_iload_n hx hb d_M_find_22 rfl (lv_at hl 3 rfl) ?_
          refine lv_goto (tgt := 27) hx hb d_M_find_23 (by decide) ?_
          refine lv_istore_n (lv' := [(2, .int (nI i)), (0, .ref (q 0)), (1, .int k), (3, .int (nI i))]) hx hb d_M_find_27 rfl hl (Nat.le_of_ble_eq_true rfl) rfl (fun ls hl => ?_)
          refine lv_iinc (k := 3) (v := nI (i + 1)) (lv' := [(3, .int (nI (i + 1))), (2, .int (nI i)), (0, .ref (q 0)), (1, .int k)]) hx hb d_M_find_28 hl rfl (xn_inc _) (Nat.le_of_ble_eq_true rfl) rfl (fun ls hl => ?_)
          refine lv_goto (tgt := 4) hx hb d_M_find_31 (by decide) ?_
          exact ih4 (i + 1) (nI i) ls (by omega) (by first | exact xm_f1 hM.2.1 he hc19 | exact xm_f2 hM.2.1 ha he hc19) (lv_sub hl [2, 3, 1, 0] rfl) (by omega)
  exact lp4 _ 0 ((-1)) ls (Nat.zero_le _) (by rw [if_neg (fun q => absurd q.1 (Nat.not_lt_zero _))]) (lv_sub hl [2, 3, 1, 0] rfl) (Nat.lt_succ_self _)
set_option maxHeartbeats 4000000 in
set_option maxRecDepth 100000 in
theorem c_M_bktOf (l : Launch) (D : va_G) (q : Nat → Nat) (cA : Nat → ClassId) (lim : Int32) (bs : Int32) (bk : Nat → Int32) (bv : Nat → Int64) (rn : Int32) (wh : Nat → Int32) (rk : Nat → Int32) (rv : Nat → Int64) (bg : Nat → Int32) (bt : Int32) (sc : Int32) (sw : Nat → Int32) (sk : Nat → Int32) (sv : Nat → Int64) (ky : Nat → Int32) (vl : Nat → Int64) (K : List xk_E) (k : Int32) (hM : xm_T ky vl K) : Met l y_M_bucketOf zw_M_bucketOf ({ frames := 3, cells := 0, slots := 0, locals := 74 } : Room) (va_Pc [.ref (q 0), .int k] (xp_R D zz_cl (xw_tM cA) (xw_M q cA lim bs bk bv rn wh rk rv bg bt sc sw sk sv (nI K.length) ky vl))) (vp_Si (fun r : Int32 => r = (nI (xk_h k % 2 ^ xd_dp K (xk_h k))))) 0 0 (fun _ => False) := by
  refine Met.ofW (cc := b_M_bucketOf) (maxL := 6) (ret := (some .int)) (by decide) rfl ?_
  intro pJ eJ s mJ args below meth cJ s₁ B hml hv
  obtain ⟨rfl, hP, hK, hZ⟩ := hv
  have hx := B.exec
  have hb := B.bytes
  have hr := B.returns
  have hts := atoms_spec (ws := zw_M_bucketOf) B.pre
  have hown : s.vm.findClass R_M = some mJ.cls := findClass_of_methodNamed B.named
  have hlocks := B.notSynchronized
  have hl := lv_entry ([.ref (q 0), .int k]) (n := 6) (Nat.le_of_ble_eq_true rfl)
  rw [lg_entry_eq]
  generalize (lg_sl ([.ref (q 0), .int k]) ++ List.replicate (6 - (lg_sl ([.ref (q 0), .int k])).length) Slot.unset).toArray = ls at hl ⊢
  have hl : lv_has ls 6 [(0, .ref (q 0)), (1, .int k)] := hl
  have hh := xk_h_lt k
  have hm0 := Nat.mod_le (xk_h k) (2 ^ xd_dp K (xk_h k))
  refine lv_aload_n hx hb d_M_bucketOf_0 rfl (lv_at hl 0 rfl) ?_
  refine lv_iload_n hx hb d_M_bucketOf_1 rfl (lv_at hl 1 rfl) ?_
  refine xa_cI (va_runV (As := [.int k]) (rest := []) ⟨hx, hb, hml, hown, hts⟩ (c_M_hash l D q cA lim bs bk bv rn wh rk rv bg bt sc sw sk sv (nI K.length) ky vl k) (cwV 1 hts (zg_V zm_484 zm_486 zs_23 zm_7 zm_487) rfl rfl rfl (by decide +kernel) ⟨Nat.le_of_ble_eq_true rfl, Nat.le_of_ble_eq_true rfl⟩) (xp_preV (ci := 5) (q0 := 0) hK hP rfl rfl rfl hZ) rfl rfl hl.1 rfl (lv_room (Nat.le_of_ble_eq_true rfl)) d_M_bucketOf_2 ⟨Nat.zero_le _, Nat.zero_le _⟩) ?_
  refine lv_istore_n (lv' := [(2, .int (nI (xk_h k))), (0, .ref (q 0)), (1, .int k)]) hx hb d_M_bucketOf_5 rfl hl (Nat.le_of_ble_eq_true rfl) rfl (fun ls hl => ?_)
  refine lv_iconst (v := nI 0) hx hb d_M_bucketOf_6 (by decide +kernel) ?_
  refine lv_istore_n (lv' := [(3, .int (nI 0)), (2, .int (nI (xk_h k))), (0, .ref (q 0)), (1, .int k)]) hx hb d_M_bucketOf_7 rfl hl (Nat.le_of_ble_eq_true rfl) rfl (fun ls hl => ?_)
  refine lv_iconst (v := nI 0) hx hb d_M_bucketOf_8 (by decide +kernel) ?_
  refine lv_istore (lv' := [(4, .int (nI 0)), (3, .int (nI 0)), (2, .int (nI (xk_h k))), (0, .ref (q 0)), (1, .int k)]) hx hb d_M_bucketOf_9 hl (Nat.le_of_ble_eq_true rfl) rfl (fun ls hl => ?_)
  have lp11 : ∀ (N : Nat) (p : Nat) (pl : Nat) (ls : Array Slot), (p ≤ 64) → (pl = if xk_h k % 2 ^ xd_dp K (xk_h k) < p then xk_h k % 2 ^ xd_dp K (xk_h k) else 0) → lv_has ls 6 [(0, .ref (q 0)), (1, .int k), (2, .int (nI (xk_h k))), (3, .int (nI pl)), (4, .int (nI p))] → 64 - p < N → W pJ l eJ (headSpec zw_M_bucketOf ({ frames := 3, cells := 0, slots := 0, locals := 74 } : Room)).room s mJ ([.ref (q 0), .int k] : List Value).toArray below meth cJ s.heap [] 0 0 (MQ below (vp_Si (fun r : Int32 => r = (nI (xk_h k % 2 ^ xd_dp K (xk_h k))))) ([.ref (q 0), .int k] : List Value).toArray s 0 0 (fun _ => False)) (F0 mJ 11 ls []) := by
    intro N
    induction N with
    | zero => intro p pl ls hp hf hl hm; exact absurd hm (Nat.not_lt_zero _)
    | succ N ih11 =>
      intro p pl ls hp hf hl hm
      refine lv_iload hx hb d_M_bucketOf_11 (lv_at hl 4 rfl) ?_
      refine lv_bipush (v := nI 64) hx hb d_M_bucketOf_13 (by decide +kernel) ?_
      refine lv_icmp_ge (tgt := 56) hx hb d_M_bucketOf_15 (by decide) (fun hc15 => ?_) (fun hc15 => ?_)
      · skip
        rw [nI_leI (by omega) (by omega)] at hc15
        refine lv_iload_n hx hb d_M_bucketOf_56 rfl (lv_at hl 3 rfl) ?_
        exact W.iret (v := nI pl) hx hb hr (fun tJ htJ hWJ => ⟨_, rfl, by rw [hf, if_pos (by omega)], htJ⟩) (fun _ h => by cases h) d_M_bucketOf_57
      · skip
        rw [nI_leI (by omega) (by omega)] at hc15
        refine lv_aload_n hx hb d_M_bucketOf_18 rfl (lv_at hl 0 rfl) ?_
        refine lv_iload hx hb d_M_bucketOf_19 (lv_at hl 4 rfl) ?_
        refine xa_cI (va_runV (As := [.int (nI p)]) (rest := []) ⟨hx, hb, hml, hown, hts⟩ (c_M_dep l D q cA lim bs bk bv rn wh rk rv bg bt sc sw sk sv ky vl K p hM (by omega)) (cwV 1 hts (zg_V zm_476 zm_478 zs_21 zm_7 zm_479) rfl rfl rfl (by decide +kernel) ⟨Nat.le_of_ble_eq_true rfl, Nat.le_of_ble_eq_true rfl⟩) (xp_preV (ci := 5) (q0 := 0) hK hP rfl rfl rfl hZ) rfl rfl hl.1 rfl (lv_room (Nat.le_of_ble_eq_true rfl)) d_M_bucketOf_21 ⟨Nat.zero_le _, Nat.zero_le _⟩) ?_
        refine lv_istore (lv' := [(5, .int (xm_rd K p)), (0, .ref (q 0)), (1, .int k), (2, .int (nI (xk_h k))), (3, .int (nI pl)), (4, .int (nI p))]) hx hb d_M_bucketOf_24 hl (Nat.le_of_ble_eq_true rfl) rfl (fun ls hl => ?_)
        refine lv_iload hx hb d_M_bucketOf_26 (lv_at hl 0 rfl) ?_
        refine lv_if_lt (tgt := 48) hx hb d_M_bucketOf_28 (by decide) (fun hc28 => ?_) (fun hc28 => ?_)
        · skip
          refine lv_iload_n hx hb d_M_bucketOf_48 rfl (lv_at hl 4 rfl) ?_
          refine lv_istore_n (lv' := [(3, .int (nI pl)), (5, .int (xm_rd K p)), (0, .ref (q 0)), (1, .int k), (2, .int (nI (xk_h k))), (4, .int (nI p))]) hx hb d_M_bucketOf_49 rfl hl (Nat.le_of_ble_eq_true rfl) rfl (fun ls hl => ?_)
          refine lv_iinc (k := 5) (v := nI (p + 1)) (lv' := [(4, .int (nI (p + 1))), (3, .int (nI pl)), (5, .int (xm_rd K p)), (0, .ref (q 0)), (1, .int k), (2, .int (nI (xk_h k)))]) hx hb d_M_bucketOf_50 hl rfl (xn_inc _) (Nat.le_of_ble_eq_true rfl) rfl (fun ls hl => ?_)
          refine lv_goto (tgt := 11) hx hb d_M_bucketOf_53 (by decide) ?_
          exact ih11 (p + 1) pl ls (by omega) (by first | exact xm_by hpl (by simpa using hc40) | exact xm_bn hf (fun q => by rw [xm_rd_np hc28] at q; exact absurd q.1 (by decide)) | exact xm_bn hf (fun q => absurd q.2 (by simpa using hc40))) (lv_sub hl [3, 4, 5, 1, 0] rfl) (by omega)
        · skip
          have hpl := xm_rd_pl hc28
          have hrd := xm_rd_eq hpl
          refine lv_aload_n hx hb d_M_bucketOf_31 rfl (lv_at hl 1 rfl) ?_
          refine lv_iload_n hx hb d_M_bucketOf_32 rfl (lv_at hl 3 rfl) ?_
          refine lv_iload hx hb d_M_bucketOf_33 (lv_at hl 0 rfl) ?_
          refine xa_top (y := nI (xd_dp K p)) hrd ?_
          refine lv_iload hx hb d_M_bucketOf_35 (lv_at hl 5 rfl) ?_
          refine xa_cI (va_runV (As := [.int (nI (xk_h k)), .int (nI (xd_dp K p)), .int (nI p)]) (rest := []) ⟨hx, hb, hml, hown, hts⟩ (c_M_inC l D q cA lim bs bk bv rn wh rk rv bg bt sc sw sk sv (nI K.length) ky vl (xk_h k) (xd_dp K p) p (by first | exact xk_h_lt _ | omega) (by first | exact xd_dp_le _ _ | omega) (by omega)) (cwV 3 hts (zg_V zm_488 zm_490 zs_24 zm_7 zm_491) rfl rfl rfl (by decide +kernel) ⟨Nat.le_of_ble_eq_true rfl, Nat.le_of_ble_eq_true rfl⟩) (xp_preV (ci := 5) (q0 := 0) hK hP rfl rfl rfl hZ) rfl rfl hl.1 rfl (lv_room (Nat.le_of_ble_eq_true rfl)) d_M_bucketOf_37 ⟨Nat.zero_le _, Nat.zero_le _⟩) ?_
          refine lv_if_eq (tgt := 48) hx hb d_M_bucketOf_40 (by decide) (fun hc40 => ?_) (fun hc40 => ?_)
          · skip
            rw [xb_0] at hc40
            refine lv_iload_n hx hb d_M_bucketOf_48 rfl (lv_at hl 4 rfl) ?_
            refine lv_istore_n (lv' := [(3, .int (nI pl)), (5, .int (xm_rd K p)), (0, .ref (q 0)), (1, .int k), (2, .int (nI (xk_h k))), (4, .int (nI p))]) hx hb d_M_bucketOf_49 rfl hl (Nat.le_of_ble_eq_true rfl) rfl (fun ls hl => ?_)
            refine lv_iinc (k := 5) (v := nI (p + 1)) (lv' := [(4, .int (nI (p + 1))), (3, .int (nI pl)), (5, .int (xm_rd K p)), (0, .ref (q 0)), (1, .int k), (2, .int (nI (xk_h k)))]) hx hb d_M_bucketOf_50 hl rfl (xn_inc _) (Nat.le_of_ble_eq_true rfl) rfl (fun ls hl => ?_)
            refine lv_goto (tgt := 11) hx hb d_M_bucketOf_53 (by decide) ?_
            exact ih11 (p + 1) pl ls (by omega) (by first | exact xm_by hpl (by simpa using hc40) | exact xm_bn hf (fun q => by rw [xm_rd_np hc28] at q; exact absurd q.1 (by decide)) | exact xm_bn hf (fun q => absurd q.2 (by simpa using hc40))) (lv_sub hl [3, 4, 5, 1, 0] rfl) (by omega)
          · skip
            rw [xb_1] at hc40
            refine lv_iload hx hb d_M_bucketOf_43 (lv_at hl 5 rfl) ?_
            refine lv_goto (tgt := 49) hx hb d_M_bucketOf_45 (by decide) ?_
            refine lv_istore_n (lv' := [(3, .int (nI p)), (5, .int (xm_rd K p)), (0, .ref (q 0)), (1, .int k), (2, .int (nI (xk_h k))), (4, .int (nI p))]) hx hb d_M_bucketOf_49 rfl hl (Nat.le_of_ble_eq_true rfl) rfl (fun ls hl => ?_)
            refine lv_iinc (k := 5) (v := nI (p + 1)) (lv' := [(4, .int (nI (p + 1))), (3, .int (nI p)), (5, .int (xm_rd K p)), (0, .ref (q 0)), (1, .int k), (2, .int (nI (xk_h k)))]) hx hb d_M_bucketOf_50 hl rfl (xn_inc _) (Nat.le_of_ble_eq_true rfl) rfl (fun ls hl => ?_)
            refine lv_goto (tgt := 11) hx hb d_M_bucketOf_53 (by decide) ?_
            exact ih11 (p + 1) p ls (by omega) (by first | exact xm_by hpl (by simpa using hc40) | exact xm_bn hf (fun q => by rw [xm_rd_np hc28] at q; exact absurd q.1 (by decide)) | exact xm_bn hf (fun q => absurd q.2 (by simpa using hc40))) (lv_sub hl [3, 4, 5, 1, 0] rfl) (by omega)
  exact lp11 _ 0 0 ls (by omega) (by rw [if_neg (Nat.not_lt_zero _)]) (lv_sub hl [3, 4, 2, 1, 0] rfl) (Nat.lt_succ_self _)
set_option maxHeartbeats 4000000 in
set_option maxRecDepth 100000 in
theorem c_M_set (l : Launch) (D : va_G) (q : Nat → Nat) (cA : Nat → ClassId) (lim : Int32) (bs : Int32) (bk : Nat → Int32) (bv : Nat → Int64) (rn : Int32) (wh : Nat → Int32) (rk : Nat → Int32) (rv : Nat → Int64) (bg : Nat → Int32) (bt : Int32) (sc : Int32) (sw : Nat → Int32) (sk : Nat → Int32) (sv : Nat → Int64) (ky : Nat → Int32) (vl : Nat → Int64) (sz : Nat) (K : List xk_E) (k : Int32) (v : Int64) (hM : xm_T ky vl K) (hl65 : (xk_set K k v).length ≤ 65) : Met l y_M_set zw_M_set ({ frames := 1, cells := 0, slots := 0, locals := 23 } : Room) (va_Pc [.ref (q 0), .int k, .long v] (xp_Q D zz_cl (xw_tM cA) sz (xw_M q cA lim bs bk bv rn wh rk rv bg bt sc sw sk sv (nI K.length) ky vl))) (va_Qv (fun u : (Nat → Int32) × (Nat → Int64) => xm_T u.1 u.2 (xk_set K k v)) (fun (u : (Nat → Int32) × (Nat → Int64)) (t : State) => va_P D zz_cl (xw_M q cA lim bs bk bv rn wh rk rv bg bt sc sw sk sv (nI (xk_set K k v).length) u.1 u.2) t.heap) (va_A (xw_M q cA lim bs bk bv rn wh rk rv bg bt sc sw sk sv (nI K.length) ky vl) sz)) 0 0 (va_A (xw_M q cA lim bs bk bv rn wh rk rv bg bt sc sw sk sv (nI K.length) ky vl) sz) := by
  refine Met.ofW (cc := b_M_set) (maxL := 7) (ret := none) (by decide) rfl ?_
  intro pJ eJ s mJ args below meth cJ s₁ B hml hv
  obtain ⟨rfl, hsz, hP, hK, hD0, hZ⟩ := hv
  have hx := B.exec
  have hb := B.bytes
  have hr := B.returns
  have hts := atoms_spec (ws := zw_M_set) B.pre
  have hown : s.vm.findClass R_M = some mJ.cls := findClass_of_methodNamed B.named
  have hlocks := B.notSynchronized
  subst hsz
  have hD := hD0.self (sz := s.heap.size)
  generalize hAe : va_A (xw_M q cA lim bs bk bv rn wh rk rv bg bt sc sw sk sv (nI K.length) ky vl) s.heap.size = A at hD ⊢
  have hA : ∀ q : Nat, s.heap.size ≤ q → A q := fun q h => by rw [← hAe]; exact Or.inr h
  have hS : va_S A s.heap s.heap [] := va_S.rf
  have hl := lv_entry ([.ref (q 0), .int k, .long v]) (n := 7) (Nat.le_of_ble_eq_true rfl)
  rw [lg_entry_eq]
  generalize (lg_sl ([.ref (q 0), .int k, .long v]) ++ List.replicate (7 - (lg_sl ([.ref (q 0), .int k, .long v])).length) Slot.unset).toArray = ls at hl ⊢
  have hl : lv_has ls 7 [(0, .ref (q 0)), (1, .int k), (2, .long v)] := hl
  have hlen := hM.1
  have hlo := xk_lo_le K k
  refine lv_aload_n hx hb d_M_set_0 rfl (lv_at hl 0 rfl) ?_
  refine lv_iload_n hx hb d_M_set_1 rfl (lv_at hl 1 rfl) ?_
  refine xa_cI (va_runV (As := [.int k]) (rest := []) ⟨hx, hb, hml, hown, hts⟩ (c_M_find l D q cA lim bs bk bv rn wh rk rv bg bt sc sw sk sv ky vl K k hM) (cwV 1 hts (zg_V zm_452 zm_454 zs_15 zm_7 zm_455) rfl rfl rfl (by decide +kernel) ⟨Nat.le_of_ble_eq_true rfl, Nat.le_of_ble_eq_true rfl⟩) (xp_preV (ci := 5) (q0 := 0) hK hP rfl rfl rfl hZ) rfl rfl hl.1 rfl (lv_room (Nat.le_of_ble_eq_true rfl)) d_M_set_2 ⟨Nat.zero_le _, Nat.zero_le _⟩) ?_
  refine lv_istore (lv' := [(4, .int (xm_fd K k)), (0, .ref (q 0)), (1, .int k), (2, .long v)]) hx hb d_M_set_5 hl (Nat.le_of_ble_eq_true rfl) rfl (fun ls hl => ?_)
  refine lv_iload hx hb d_M_set_7 (lv_at hl 0 rfl) ?_
  refine lv_if_lt (tgt := 21) hx hb d_M_set_9 (by decide) (fun hc9 => ?_) (fun hc9 => ?_)
  · skip
    have hk := xm_fd_f hM.1 hc9
    refine lv_iconst (v := nI 0) hx hb d_M_set_21 (by decide +kernel) ?_
    refine lv_istore (lv' := [(5, .int (nI 0)), (4, .int (xm_fd K k)), (0, .ref (q 0)), (1, .int k), (2, .long v)]) hx hb d_M_set_22 hl (Nat.le_of_ble_eq_true rfl) rfl (fun ls hl => ?_)
    refine lv_iconst (v := nI 0) hx hb d_M_set_24 (by decide +kernel) ?_
    refine lv_istore (lv' := [(6, .int (nI 0)), (5, .int (nI 0)), (4, .int (xm_fd K k)), (0, .ref (q 0)), (1, .int k), (2, .long v)]) hx hb d_M_set_25 hl (Nat.le_of_ble_eq_true rfl) rfl (fun ls hl => ?_)
    have lp27 : ∀ (N : Nat) (i : Nat) (t : Nat) (ls : Array Slot), (i ≤ K.length) → (t = min i (xk_lo K k)) → lv_has ls 7 [(0, .ref (q 0)), (1, .int k), (2, .long v), (4, .int (xm_fd K k)), (5, .int (nI t)), (6, .int (nI i))] → K.length - i < N → W pJ l eJ (headSpec zw_M_set ({ frames := 1, cells := 0, slots := 0, locals := 23 } : Room)).room s mJ ([.ref (q 0), .int k, .long v] : List Value).toArray below meth cJ s.heap [] 0 0 (MQ below (va_Qv (fun u : (Nat → Int32) × (Nat → Int64) => xm_T u.1 u.2 (xk_set K k v)) (fun (u : (Nat → Int32) × (Nat → Int64)) (t : State) => va_P D zz_cl (xw_M q cA lim bs bk bv rn wh rk rv bg bt sc sw sk sv (nI (xk_set K k v).length) u.1 u.2) t.heap) A) ([.ref (q 0), .int k, .long v] : List Value).toArray s 0 0 A) (F0 mJ 27 ls []) := by
      intro N
      induction N with
      | zero => intro i t ls hi ht hl hm; exact absurd hm (Nat.not_lt_zero _)
      | succ N ih27 =>
        intro i t ls hi ht hl hm
        refine lv_iload hx hb d_M_set_27 (lv_at hl 5 rfl) ?_
        refine lv_aload_n hx hb d_M_set_29 rfl (lv_at hl 0 rfl) ?_
        refine va_get (D := D) (ci := 5) (v := .int (nI K.length)) (C := R_M) (T := F_M) (N := 17) hx hb hts (zi_M _) hown hK hP 0 rfl rfl 14 (by decide) (hts _ (List.mem_cons_of_mem _ zm_390)) (fun _ h9 => h9) rfl d_M_set_30 ?_
        refine lv_icmp_ge (tgt := 64) hx hb d_M_set_33 (by decide) (fun hc33 => ?_) (fun hc33 => ?_)
        · skip
          rw [nI_leI (by omega) (by omega)] at hc33
          have htl : t = xk_lo K k := by omega
          rw [show ky = xm_sh ky K.length K.length from (xm_sh_0 ky _).symm] at hP hD
          rw [show vl = xm_sh vl K.length K.length from (xm_sh_0 vl _).symm] at hP hD
          refine lv_aload_n hx hb d_M_set_64 rfl (lv_at hl 0 rfl) ?_
          refine va_get (D := D) (ci := 5) (v := .int (nI K.length)) (C := R_M) (T := F_M) (N := 17) hx hb hts (zi_M _) hown hK hP 0 rfl rfl 14 (by decide) (hts _ (List.mem_cons_of_mem _ zm_390)) (fun _ h9 => h9) rfl d_M_set_65 ?_
          refine lv_istore (lv' := [(6, .int (nI K.length)), (0, .ref (q 0)), (1, .int k), (2, .long v), (4, .int (xm_fd K k)), (5, .int (nI t))]) hx hb d_M_set_68 hl (Nat.le_of_ble_eq_true rfl) rfl (fun ls hl => ?_)
          have lp70 : ∀ (N : Nat) (i : Nat) (ls : Array Slot) (H : Heap) (locs : List Loc), (t ≤ i) → (i ≤ K.length) → lv_has ls 7 [(0, .ref (q 0)), (1, .int k), (2, .long v), (4, .int (xm_fd K k)), (5, .int (nI t)), (6, .int (nI i))] → va_P D zz_cl (xw_M q cA lim bs bk bv rn wh rk rv bg bt sc sw sk sv (nI K.length) (xm_sh ky K.length i) (xm_sh vl K.length i)) H → va_D A (xw_M q cA lim bs bk bv rn wh rk rv bg bt sc sw sk sv (nI K.length) (xm_sh ky K.length i) (xm_sh vl K.length i)) → va_S A s.heap H locs → i < N → W pJ l eJ (headSpec zw_M_set ({ frames := 1, cells := 0, slots := 0, locals := 23 } : Room)).room s mJ ([.ref (q 0), .int k, .long v] : List Value).toArray below meth cJ H locs 0 0 (MQ below (va_Qv (fun u : (Nat → Int32) × (Nat → Int64) => xm_T u.1 u.2 (xk_set K k v)) (fun (u : (Nat → Int32) × (Nat → Int64)) (t : State) => va_P D zz_cl (xw_M q cA lim bs bk bv rn wh rk rv bg bt sc sw sk sv (nI (xk_set K k v).length) u.1 u.2) t.heap) A) ([.ref (q 0), .int k, .long v] : List Value).toArray s 0 0 A) (F0 mJ 70 ls []) := by
            intro N
            induction N with
            | zero => intro i ls H locs hti hin hl hP hD hS hm; exact absurd hm (Nat.not_lt_zero _)
            | succ N ih70 =>
              intro i ls H locs hti hin hl hP hD hS hm
              refine lv_iload hx hb d_M_set_70 (lv_at hl 5 rfl) ?_
              refine lv_iload hx hb d_M_set_72 (lv_at hl 4 rfl) ?_
              refine lv_icmp_le (tgt := 115) hx hb d_M_set_74 (by decide) (fun hc74 => ?_) (fun hc74 => ?_)
              · skip
                rw [nI_leI (by omega) (by omega)] at hc74
                rw [show xm_sh ky K.length i = xm_sh ky K.length t from by rw [show i = t from by omega]] at hP hD
                rw [show xm_sh vl K.length i = xm_sh vl K.length t from by rw [show i = t from by omega]] at hP hD
                refine lv_aload_n hx hb d_M_set_115 rfl (lv_at hl 0 rfl) ?_
                refine va_get (D := D) (ci := 5) (v := .ref (q 10)) (C := R_M) (T := F_M) (N := 17) hx hb hts (zi_M _) hown hK hP 0 rfl rfl 15 (by decide) (hts _ (List.mem_cons_of_mem _ zm_391)) (fun _ h9 => h9) rfl d_M_set_116 ?_
                refine lv_iload hx hb d_M_set_119 (lv_at hl 4 rfl) ?_
                refine lv_iload_n hx hb d_M_set_121 rfl (lv_at hl 1 rfl) ?_
                refine xa_iast (ws' := (xw_M q cA lim bs bk bv rn wh rk rv bg bt sc sw sk sv (nI K.length) (upd (xm_sh ky K.length t) t k) (xm_sh vl K.length t))) hx hb hK hP hD hS 10 9 rfl rfl (k := t) (by omega) (by decide) rfl d_M_set_122 (fun H locs hP hD hS => ?_)
                refine lv_aload_n hx hb d_M_set_123 rfl (lv_at hl 0 rfl) ?_
                refine va_get (D := D) (ci := 5) (v := .ref (q 11)) (C := R_M) (T := F_M) (N := 17) hx hb hts (zi_M _) hown hK hP 0 rfl rfl 16 (by decide) (hts _ (List.mem_cons_of_mem _ zm_392)) (fun _ h9 => h9) rfl d_M_set_124 ?_
                refine lv_iload hx hb d_M_set_127 (lv_at hl 4 rfl) ?_
                refine lv_lload_n hx hb d_M_set_129 rfl (lv_at hl 2 rfl) ?_
                refine xa_last (ws' := (xw_M q cA lim bs bk bv rn wh rk rv bg bt sc sw sk sv (nI K.length) (upd (xm_sh ky K.length t) t k) (vp_updL (xm_sh vl K.length t) t v))) hx hb hK hP hD hS 11 10 rfl rfl (k := t) (by omega) (by decide) rfl d_M_set_130 (fun H locs hP hD hS => ?_)
                refine lv_aload_n hx hb d_M_set_131 rfl (lv_at hl 0 rfl) ?_
                refine lv_aload_n hx hb d_M_set_132 rfl (lv_at hl 0 rfl) ?_
                refine va_get (D := D) (ci := 5) (v := .int (nI K.length)) (C := R_M) (T := F_M) (N := 17) hx hb hts (zi_M _) hown hK hP 0 rfl rfl 14 (by decide) (hts _ (List.mem_cons_of_mem _ zm_390)) (fun _ h9 => h9) rfl d_M_set_133 ?_
                refine lv_iconst (v := nI 1) hx hb d_M_set_136 (by decide +kernel) ?_
                refine lv_iadd hx hb d_M_set_137 ?_
                refine xa_top (y := nI (K.length + 1)) (nI_add _ _) ?_
                refine xa_put (ws' := (xw_M q cA lim bs bk bv rn wh rk rv bg bt sc sw sk sv (nI (K.length + 1)) (upd (xm_sh ky K.length t) t k) (vp_updL (xm_sh vl K.length t) t v))) (ci := 5) (v := .int (nI (K.length + 1))) (ty := .int) (C := R_M) (T := F_M) (N := 17) hx hb hts (zi_M _) t_M t_M_ok n_M hown hK hP hD hS 0 rfl rfl 14 (by decide) (hts _ (List.mem_cons_of_mem _ zm_390)) (fun _ h9 => h9) rfl (by decide +kernel) (rfl) (rfl) (Nat.le_of_ble_eq_true rfl) rfl d_M_set_138 (fun H locs hP hD hS => ?_)
                exact W.vret hx hb hr (fun tJ htJ hWJ => ⟨⟨(upd (xm_sh ky K.length t) t k, vp_updL (xm_sh vl K.length t) t v), rfl, xm_T_ins hM hk hl65 (fun j hj => by rw [htl]; exact xm_sh_ins ky _ _ _ hj) (fun j hj => by rw [htl]; exact xm_sh_insL vl _ _ _ hj), by dsimp only; rw [htJ]; rw [xk_set_len, hk]; exact hP⟩, hS.F htJ⟩) hS.2.2 d_M_set_141
              · skip
                rw [nI_leI (by omega) (by omega)] at hc74
                refine lv_aload_n hx hb d_M_set_77 rfl (lv_at hl 0 rfl) ?_
                refine va_get (D := D) (ci := 5) (v := .ref (q 10)) (C := R_M) (T := F_M) (N := 17) hx hb hts (zi_M _) hown hK hP 0 rfl rfl 15 (by decide) (hts _ (List.mem_cons_of_mem _ zm_391)) (fun _ h9 => h9) rfl d_M_set_78 ?_
                refine lv_iload hx hb d_M_set_81 (lv_at hl 5 rfl) ?_
                refine lv_aload_n hx hb d_M_set_83 rfl (lv_at hl 0 rfl) ?_
                refine va_get (D := D) (ci := 5) (v := .ref (q 10)) (C := R_M) (T := F_M) (N := 17) hx hb hts (zi_M _) hown hK hP 0 rfl rfl 15 (by decide) (hts _ (List.mem_cons_of_mem _ zm_391)) (fun _ h9 => h9) rfl d_M_set_84 ?_
                refine lv_iload hx hb d_M_set_87 (lv_at hl 5 rfl) ?_
                refine lv_iconst (v := nI 1) hx hb d_M_set_89 (by decide +kernel) ?_
                refine lv_isub hx hb d_M_set_90 ?_
                refine xa_top (y := nI (i - 1)) (pk_sub (by omega)) ?_
                refine xa_iald hx hb hK hP 10 9 rfl rfl (k := i - 1) (by omega) (by decide) d_M_set_91 ?_
                refine xa_top (y := ky (i - 1)) (xm_sh_at ky (by omega)) ?_
                refine xa_iast (ws' := (xw_M q cA lim bs bk bv rn wh rk rv bg bt sc sw sk sv (nI K.length) (upd (xm_sh ky K.length i) i (ky (i - 1))) (xm_sh vl K.length i))) hx hb hK hP hD hS 10 9 rfl rfl (k := i) (by omega) (by decide) rfl d_M_set_92 (fun H locs hP hD hS => ?_)
                rw [show upd (xm_sh ky K.length i) i (ky (i - 1)) = xm_sh ky K.length (i - 1) from xm_sh_up ky (by omega) (by omega)] at hP hD
                refine lv_aload_n hx hb d_M_set_93 rfl (lv_at hl 0 rfl) ?_
                refine va_get (D := D) (ci := 5) (v := .ref (q 11)) (C := R_M) (T := F_M) (N := 17) hx hb hts (zi_M _) hown hK hP 0 rfl rfl 16 (by decide) (hts _ (List.mem_cons_of_mem _ zm_392)) (fun _ h9 => h9) rfl d_M_set_94 ?_
                refine lv_iload hx hb d_M_set_97 (lv_at hl 5 rfl) ?_
                refine lv_aload_n hx hb d_M_set_99 rfl (lv_at hl 0 rfl) ?_
                refine va_get (D := D) (ci := 5) (v := .ref (q 11)) (C := R_M) (T := F_M) (N := 17) hx hb hts (zi_M _) hown hK hP 0 rfl rfl 16 (by decide) (hts _ (List.mem_cons_of_mem _ zm_392)) (fun _ h9 => h9) rfl d_M_set_100 ?_
                refine lv_iload hx hb d_M_set_103 (lv_at hl 5 rfl) ?_
                refine lv_iconst (v := nI 1) hx hb d_M_set_105 (by decide +kernel) ?_
                refine lv_isub hx hb d_M_set_106 ?_
                refine xa_top (y := nI (i - 1)) (pk_sub (by omega)) ?_
                refine xa_lald hx hb hK hP 11 10 rfl rfl (k := i - 1) (by omega) (by decide) d_M_set_107 ?_
                refine xa_topl (y := vl (i - 1)) (xm_sh_at vl (by omega)) ?_
                refine xa_last (ws' := (xw_M q cA lim bs bk bv rn wh rk rv bg bt sc sw sk sv (nI K.length) (xm_sh ky K.length (i - 1)) (vp_updL (xm_sh vl K.length i) i (vl (i - 1))))) hx hb hK hP hD hS 11 10 rfl rfl (k := i) (by omega) (by decide) rfl d_M_set_108 (fun H locs hP hD hS => ?_)
                rw [show vp_updL (xm_sh vl K.length i) i (vl (i - 1)) = xm_sh vl K.length (i - 1) from xm_sh_upL vl (by omega) (by omega)] at hP hD
                refine lv_iinc (k := 5) (v := nI (i - 1)) (lv' := [(6, .int (nI (i - 1))), (0, .ref (q 0)), (1, .int k), (2, .long v), (4, .int (xm_fd K k)), (5, .int (nI t))]) hx hb d_M_set_109 hl rfl (xn_dec (by omega)) (Nat.le_of_ble_eq_true rfl) rfl (fun ls hl => ?_)
                refine lv_goto (tgt := 70) hx hb d_M_set_112 (by decide) ?_
                exact ih70 (i - 1) ls _ _ (by omega) (by omega) (lv_sub hl [1, 2, 3, 4, 5, 0] rfl) hP hD hS (by omega)
          exact lp70 _ K.length ls _ _ (by omega) (Nat.le_refl _) (lv_sub hl [1, 2, 3, 4, 5, 0] rfl) hP hD hS (Nat.lt_succ_self _)
        · skip
          rw [nI_leI (by omega) (by omega)] at hc33
          obtain ⟨e, he⟩ : ∃ e, K[i]? = some e := ⟨_, List.getElem?_eq_getElem (by omega)⟩
          have hfe := (xk_tie_f hM.2.2 he).1
          refine lv_aload_n hx hb d_M_set_36 rfl (lv_at hl 0 rfl) ?_
          refine va_get (D := D) (ci := 5) (v := .ref (q 10)) (C := R_M) (T := F_M) (N := 17) hx hb hts (zi_M _) hown hK hP 0 rfl rfl 15 (by decide) (hts _ (List.mem_cons_of_mem _ zm_391)) (fun _ h9 => h9) rfl d_M_set_37 ?_
          refine lv_iload hx hb d_M_set_40 (lv_at hl 5 rfl) ?_
          refine xa_iald hx hb hK hP 10 9 rfl rfl (k := i) (by omega) (by decide) d_M_set_42 ?_
          refine xa_top (y := e.1) hfe ?_
          refine lv_iload_n hx hb d_M_set_43 rfl (lv_at hl 1 rfl) ?_
          refine lv_icmp_ge (tgt := 54) hx hb d_M_set_44 (by decide) (fun hc44 => ?_) (fun hc44 => ?_)
          · skip
            refine lv_iload hx hb d_M_set_54 (lv_at hl 4 rfl) ?_
            refine xa_top (y := nI (min (i + 1) (xk_lo K k))) (congrArg nI (by first | (have z9 := (xk_below hM.2.1 he).mp (xk_nle hc44); omega) | (have z9 : ¬ i < xk_lo K k := fun z => xk_nlt2 hc44 ((xk_below hM.2.1 he).mpr z); omega))) ?_
            refine lv_istore (lv' := [(5, .int (nI (min (i + 1) (xk_lo K k)))), (0, .ref (q 0)), (1, .int k), (2, .long v), (4, .int (xm_fd K k)), (6, .int (nI i))]) hx hb d_M_set_56 hl (Nat.le_of_ble_eq_true rfl) rfl (fun ls hl => ?_)
            refine lv_iinc (k := 5) (v := nI (i + 1)) (lv' := [(6, .int (nI (i + 1))), (5, .int (nI (min (i + 1) (xk_lo K k)))), (0, .ref (q 0)), (1, .int k), (2, .long v), (4, .int (xm_fd K k))]) hx hb d_M_set_58 hl rfl (xn_inc _) (Nat.le_of_ble_eq_true rfl) rfl (fun ls hl => ?_)
            refine lv_goto (tgt := 27) hx hb d_M_set_61 (by decide) ?_
            exact ih27 (i + 1) (min (i + 1) (xk_lo K k)) ls (by omega) rfl (lv_sub hl [2, 3, 4, 5, 1, 0] rfl) (by omega)
          · skip
            refine lv_iload hx hb d_M_set_47 (lv_at hl 5 rfl) ?_
            refine lv_iconst (v := nI 1) hx hb d_M_set_49 (by decide +kernel) ?_
            refine lv_iadd hx hb d_M_set_50 ?_
            refine xa_top (y := nI (i + 1)) (nI_add _ _) ?_
            refine lv_goto (tgt := 56) hx hb d_M_set_51 (by decide) ?_
            refine xa_top (y := nI (min (i + 1) (xk_lo K k))) (congrArg nI (by first | (have z9 := (xk_below hM.2.1 he).mp (xk_nle hc44); omega) | (have z9 : ¬ i < xk_lo K k := fun z => xk_nlt2 hc44 ((xk_below hM.2.1 he).mpr z); omega))) ?_
            refine lv_istore (lv' := [(5, .int (nI (min (i + 1) (xk_lo K k)))), (0, .ref (q 0)), (1, .int k), (2, .long v), (4, .int (xm_fd K k)), (6, .int (nI i))]) hx hb d_M_set_56 hl (Nat.le_of_ble_eq_true rfl) rfl (fun ls hl => ?_)
            refine lv_iinc (k := 5) (v := nI (i + 1)) (lv' := [(6, .int (nI (i + 1))), (5, .int (nI (min (i + 1) (xk_lo K k)))), (0, .ref (q 0)), (1, .int k), (2, .long v), (4, .int (xm_fd K k))]) hx hb d_M_set_58 hl rfl (xn_inc _) (Nat.le_of_ble_eq_true rfl) rfl (fun ls hl => ?_)
            refine lv_goto (tgt := 27) hx hb d_M_set_61 (by decide) ?_
            exact ih27 (i + 1) (min (i + 1) (xk_lo K k)) ls (by omega) rfl (lv_sub hl [2, 3, 4, 5, 1, 0] rfl) (by omega)
    exact lp27 _ 0 0 ls (Nat.zero_le _) (by omega) (lv_sub hl [3, 4, 5, 2, 1, 0] rfl) (Nat.lt_succ_self _)
  · skip
    have hk := xm_fd_t hc9
    have hfd := xm_fd_eq hk
    have hhl := xk_has_lt hk
    refine lv_aload_n hx hb d_M_set_12 rfl (lv_at hl 1 rfl) ?_
    refine va_get (D := D) (ci := 5) (v := .ref (q 11)) (C := R_M) (T := F_M) (N := 17) hx hb hts (zi_M _) hown hK hP 0 rfl rfl 16 (by decide) (hts _ (List.mem_cons_of_mem _ zm_392)) (fun _ h9 => h9) rfl d_M_set_13 ?_
    refine lv_iload hx hb d_M_set_16 (lv_at hl 0 rfl) ?_
    refine xa_top (y := nI (xk_lo K k)) hfd ?_
    refine lv_lload_n hx hb d_M_set_18 rfl (lv_at hl 3 rfl) ?_
    refine xa_last (ws' := (xw_M q cA lim bs bk bv rn wh rk rv bg bt sc sw sk sv (nI K.length) ky (vp_updL vl (xk_lo K k) v))) hx hb hK hP hD hS 11 10 rfl rfl (k := xk_lo K k) (by omega) (by decide) rfl d_M_set_19 (fun H locs hP hD hS => ?_)
    exact W.vret hx hb hr (fun tJ htJ hWJ => ⟨⟨(ky, vp_updL vl (xk_lo K k) v), rfl, xm_T_put hM v hk, by dsimp only; rw [htJ]; rw [xk_set_len, if_pos hk]; exact hP⟩, hS.F htJ⟩) hS.2.2 d_M_set_20
set_option maxHeartbeats 4000000 in
set_option maxRecDepth 100000 in
theorem c_M_remove (l : Launch) (D : va_G) (q : Nat → Nat) (cA : Nat → ClassId) (lim : Int32) (bs : Int32) (bk : Nat → Int32) (bv : Nat → Int64) (rn : Int32) (wh : Nat → Int32) (rk : Nat → Int32) (rv : Nat → Int64) (bg : Nat → Int32) (bt : Int32) (sc : Int32) (sw : Nat → Int32) (sk : Nat → Int32) (sv : Nat → Int64) (ky : Nat → Int32) (vl : Nat → Int64) (sz : Nat) (K : List xk_E) (k : Int32) (hM : xm_T ky vl K) : Met l y_M_remove zw_M_remove ({ frames := 1, cells := 0, slots := 0, locals := 23 } : Room) (va_Pc [.ref (q 0), .int k] (xp_Q D zz_cl (xw_tM cA) sz (xw_M q cA lim bs bk bv rn wh rk rv bg bt sc sw sk sv (nI K.length) ky vl))) (va_Qv (fun u : (Nat → Int32) × (Nat → Int64) => xm_T u.1 u.2 (xk_rem K k)) (fun (u : (Nat → Int32) × (Nat → Int64)) (t : State) => va_P D zz_cl (xw_M q cA lim bs bk bv rn wh rk rv bg bt sc sw sk sv (nI (xk_rem K k).length) u.1 u.2) t.heap) (va_A (xw_M q cA lim bs bk bv rn wh rk rv bg bt sc sw sk sv (nI K.length) ky vl) sz)) 0 0 (va_A (xw_M q cA lim bs bk bv rn wh rk rv bg bt sc sw sk sv (nI K.length) ky vl) sz) := by
  refine Met.ofW (cc := b_M_remove) (maxL := 4) (ret := none) (by decide) rfl ?_
  intro pJ eJ s mJ args below meth cJ s₁ B hml hv
  obtain ⟨rfl, hsz, hP, hK, hD0, hZ⟩ := hv
  have hx := B.exec
  have hb := B.bytes
  have hr := B.returns
  have hts := atoms_spec (ws := zw_M_remove) B.pre
  have hown : s.vm.findClass R_M = some mJ.cls := findClass_of_methodNamed B.named
  have hlocks := B.notSynchronized
  subst hsz
  have hD := hD0.self (sz := s.heap.size)
  generalize hAe : va_A (xw_M q cA lim bs bk bv rn wh rk rv bg bt sc sw sk sv (nI K.length) ky vl) s.heap.size = A at hD ⊢
  have hA : ∀ q : Nat, s.heap.size ≤ q → A q := fun q h => by rw [← hAe]; exact Or.inr h
  have hS : va_S A s.heap s.heap [] := va_S.rf
  have hl := lv_entry ([.ref (q 0), .int k]) (n := 4) (Nat.le_of_ble_eq_true rfl)
  rw [lg_entry_eq]
  generalize (lg_sl ([.ref (q 0), .int k]) ++ List.replicate (4 - (lg_sl ([.ref (q 0), .int k])).length) Slot.unset).toArray = ls at hl ⊢
  have hl : lv_has ls 4 [(0, .ref (q 0)), (1, .int k)] := hl
  have hlen := hM.1
  refine lv_aload_n hx hb d_M_remove_0 rfl (lv_at hl 0 rfl) ?_
  refine lv_iload_n hx hb d_M_remove_1 rfl (lv_at hl 1 rfl) ?_
  refine xa_cI (va_runV (As := [.int k]) (rest := []) ⟨hx, hb, hml, hown, hts⟩ (c_M_find l D q cA lim bs bk bv rn wh rk rv bg bt sc sw sk sv ky vl K k hM) (cwV 1 hts (zg_V zm_452 zm_454 zs_15 zm_7 zm_455) rfl rfl rfl (by decide +kernel) ⟨Nat.le_of_ble_eq_true rfl, Nat.le_of_ble_eq_true rfl⟩) (xp_preV (ci := 5) (q0 := 0) hK hP rfl rfl rfl hZ) rfl rfl hl.1 rfl (lv_room (Nat.le_of_ble_eq_true rfl)) d_M_remove_2 ⟨Nat.zero_le _, Nat.zero_le _⟩) ?_
  refine lv_istore_n (lv' := [(2, .int (xm_fd K k)), (0, .ref (q 0)), (1, .int k)]) hx hb d_M_remove_5 rfl hl (Nat.le_of_ble_eq_true rfl) rfl (fun ls hl => ?_)
  refine lv_iload_n hx hb d_M_remove_6 rfl (lv_at hl 0 rfl) ?_
  refine lv_if_ge (tgt := 11) hx hb d_M_remove_7 (by decide) (fun hc7 => ?_) (fun hc7 => ?_)
  · skip
    have hk := xm_fd_t (xk_nlt2 hc7)
    have hfd := xm_fd_eq hk
    have hhl := xk_has_lt hk
    refine lv_aload_n hx hb d_M_remove_11 rfl (lv_at hl 1 rfl) ?_
    refine lv_aload_n hx hb d_M_remove_12 rfl (lv_at hl 1 rfl) ?_
    refine va_get (D := D) (ci := 5) (v := .int (nI K.length)) (C := R_M) (T := F_M) (N := 17) hx hb hts (zi_M _) hown hK hP 0 rfl rfl 14 (by decide) (hts _ (List.mem_cons_of_mem _ zm_390)) (fun _ h9 => h9) rfl d_M_remove_13 ?_
    refine lv_iconst (v := nI 1) hx hb d_M_remove_16 (by decide +kernel) ?_
    refine lv_isub hx hb d_M_remove_17 ?_
    refine xa_top (y := nI (K.length - 1)) (pk_sub (by omega)) ?_
    refine xa_put (ws' := (xw_M q cA lim bs bk bv rn wh rk rv bg bt sc sw sk sv (nI (K.length - 1)) ky vl)) (ci := 5) (v := .int (nI (K.length - 1))) (ty := .int) (C := R_M) (T := F_M) (N := 17) hx hb hts (zi_M _) t_M t_M_ok n_M hown hK hP hD hS 0 rfl rfl 14 (by decide) (hts _ (List.mem_cons_of_mem _ zm_390)) (fun _ h9 => h9) rfl (by decide +kernel) (rfl) (rfl) (Nat.le_of_ble_eq_true rfl) rfl d_M_remove_18 (fun H locs hP hD hS => ?_)
    rw [show ky = xm_dn ky (xk_lo K k) (xk_lo K k) from (xm_dn_0 ky _).symm] at hP hD
    rw [show vl = xm_dn vl (xk_lo K k) (xk_lo K k) from (xm_dn_0 vl _).symm] at hP hD
    refine lv_iload_n hx hb d_M_remove_21 rfl (lv_at hl 0 rfl) ?_
    refine xa_top (y := nI (xk_lo K k)) hfd ?_
    refine lv_istore_n (lv' := [(3, .int (nI (xk_lo K k))), (2, .int (xm_fd K k)), (0, .ref (q 0)), (1, .int k)]) hx hb d_M_remove_22 rfl hl (Nat.le_of_ble_eq_true rfl) rfl (fun ls hl => ?_)
    have lp23 : ∀ (N : Nat) (i : Nat) (ls : Array Slot) (H : Heap) (locs : List Loc), (xk_lo K k ≤ i) → (i ≤ K.length - 1) → lv_has ls 4 [(0, .ref (q 0)), (1, .int k), (2, .int (xm_fd K k)), (3, .int (nI i))] → va_P D zz_cl (xw_M q cA lim bs bk bv rn wh rk rv bg bt sc sw sk sv (nI (K.length - 1)) (xm_dn ky (xk_lo K k) i) (xm_dn vl (xk_lo K k) i)) H → va_D A (xw_M q cA lim bs bk bv rn wh rk rv bg bt sc sw sk sv (nI (K.length - 1)) (xm_dn ky (xk_lo K k) i) (xm_dn vl (xk_lo K k) i)) → va_S A s.heap H locs → K.length - 1 - i < N → W pJ l eJ (headSpec zw_M_remove ({ frames := 1, cells := 0, slots := 0, locals := 23 } : Room)).room s mJ ([.ref (q 0), .int k] : List Value).toArray below meth cJ H locs 0 0 (MQ below (va_Qv (fun u : (Nat → Int32) × (Nat → Int64) => xm_T u.1 u.2 (xk_rem K k)) (fun (u : (Nat → Int32) × (Nat → Int64)) (t : State) => va_P D zz_cl (xw_M q cA lim bs bk bv rn wh rk rv bg bt sc sw sk sv (nI (xk_rem K k).length) u.1 u.2) t.heap) A) ([.ref (q 0), .int k] : List Value).toArray s 0 0 A) (F0 mJ 23 ls []) := by
      intro N
      induction N with
      | zero => intro i ls H locs hli hin hl hP hD hS hm; exact absurd hm (Nat.not_lt_zero _)
      | succ N ih23 =>
        intro i ls H locs hli hin hl hP hD hS hm
        refine lv_iload_n hx hb d_M_remove_23 rfl (lv_at hl 3 rfl) ?_
        refine lv_aload_n hx hb d_M_remove_24 rfl (lv_at hl 0 rfl) ?_
        refine va_get (D := D) (ci := 5) (v := .int (nI (K.length - 1))) (C := R_M) (T := F_M) (N := 17) hx hb hts (zi_M _) hown hK hP 0 rfl rfl 14 (by decide) (hts _ (List.mem_cons_of_mem _ zm_390)) (fun _ h9 => h9) rfl d_M_remove_25 ?_
        refine lv_icmp_ge (tgt := 65) hx hb d_M_remove_28 (by decide) (fun hc28 => ?_) (fun hc28 => ?_)
        · skip
          rw [nI_leI (by omega) (by omega)] at hc28
          rw [show xm_dn ky (xk_lo K k) i = xm_dn ky (xk_lo K k) (K.length - 1) from by rw [show i = K.length - 1 from by omega]] at hP hD
          rw [show xm_dn vl (xk_lo K k) i = xm_dn vl (xk_lo K k) (K.length - 1) from by rw [show i = K.length - 1 from by omega]] at hP hD
          exact W.vret hx hb hr (fun tJ htJ hWJ => ⟨⟨(xm_dn ky (xk_lo K k) (K.length - 1), xm_dn vl (xk_lo K k) (K.length - 1)), rfl, xm_T_del hM hk (fun j hj => xm_dn_del ky _ _ hj) (fun j hj => xm_dn_del vl _ _ hj), by dsimp only; rw [htJ]; rw [xk_rem_len, if_pos hk]; exact hP⟩, hS.F htJ⟩) hS.2.2 d_M_remove_65
        · skip
          rw [nI_leI (by omega) (by omega)] at hc28
          refine lv_aload_n hx hb d_M_remove_31 rfl (lv_at hl 0 rfl) ?_
          refine va_get (D := D) (ci := 5) (v := .ref (q 10)) (C := R_M) (T := F_M) (N := 17) hx hb hts (zi_M _) hown hK hP 0 rfl rfl 15 (by decide) (hts _ (List.mem_cons_of_mem _ zm_391)) (fun _ h9 => h9) rfl d_M_remove_32 ?_
          refine lv_iload_n hx hb d_M_remove_35 rfl (lv_at hl 3 rfl) ?_
          refine lv_aload_n hx hb d_M_remove_36 rfl (lv_at hl 0 rfl) ?_
          refine va_get (D := D) (ci := 5) (v := .ref (q 10)) (C := R_M) (T := F_M) (N := 17) hx hb hts (zi_M _) hown hK hP 0 rfl rfl 15 (by decide) (hts _ (List.mem_cons_of_mem _ zm_391)) (fun _ h9 => h9) rfl d_M_remove_37 ?_
          refine lv_iload_n hx hb d_M_remove_40 rfl (lv_at hl 3 rfl) ?_
          refine lv_iconst (v := nI 1) hx hb d_M_remove_41 (by decide +kernel) ?_
          refine lv_iadd hx hb d_M_remove_42 ?_
          refine xa_top (y := nI (i + 1)) (nI_add _ _) ?_
          refine xa_iald hx hb hK hP 10 9 rfl rfl (k := i + 1) (by omega) (by decide) d_M_remove_43 ?_
          refine xa_top (y := ky (i + 1)) (xm_dn_at ky _ i) ?_
          refine xa_iast (ws' := (xw_M q cA lim bs bk bv rn wh rk rv bg bt sc sw sk sv (nI (K.length - 1)) (upd (xm_dn ky (xk_lo K k) i) i (ky (i + 1))) (xm_dn vl (xk_lo K k) i))) hx hb hK hP hD hS 10 9 rfl rfl (k := i) (by omega) (by decide) rfl d_M_remove_44 (fun H locs hP hD hS => ?_)
          rw [show upd (xm_dn ky (xk_lo K k) i) i (ky (i + 1)) = xm_dn ky (xk_lo K k) (i + 1) from xm_dn_up ky hli] at hP hD
          refine lv_aload_n hx hb d_M_remove_45 rfl (lv_at hl 0 rfl) ?_
          refine va_get (D := D) (ci := 5) (v := .ref (q 11)) (C := R_M) (T := F_M) (N := 17) hx hb hts (zi_M _) hown hK hP 0 rfl rfl 16 (by decide) (hts _ (List.mem_cons_of_mem _ zm_392)) (fun _ h9 => h9) rfl d_M_remove_46 ?_
          refine lv_iload_n hx hb d_M_remove_49 rfl (lv_at hl 3 rfl) ?_
          refine lv_aload_n hx hb d_M_remove_50 rfl (lv_at hl 0 rfl) ?_
          refine va_get (D := D) (ci := 5) (v := .ref (q 11)) (C := R_M) (T := F_M) (N := 17) hx hb hts (zi_M _) hown hK hP 0 rfl rfl 16 (by decide) (hts _ (List.mem_cons_of_mem _ zm_392)) (fun _ h9 => h9) rfl d_M_remove_51 ?_
          refine lv_iload_n hx hb d_M_remove_54 rfl (lv_at hl 3 rfl) ?_
          refine lv_iconst (v := nI 1) hx hb d_M_remove_55 (by decide +kernel) ?_
          refine lv_iadd hx hb d_M_remove_56 ?_
          refine xa_top (y := nI (i + 1)) (nI_add _ _) ?_
          refine xa_lald hx hb hK hP 11 10 rfl rfl (k := i + 1) (by omega) (by decide) d_M_remove_57 ?_
          refine xa_topl (y := vl (i + 1)) (xm_dn_at vl _ i) ?_
          refine xa_last (ws' := (xw_M q cA lim bs bk bv rn wh rk rv bg bt sc sw sk sv (nI (K.length - 1)) (xm_dn ky (xk_lo K k) (i + 1)) (vp_updL (xm_dn vl (xk_lo K k) i) i (vl (i + 1))))) hx hb hK hP hD hS 11 10 rfl rfl (k := i) (by omega) (by decide) rfl d_M_remove_58 (fun H locs hP hD hS => ?_)
          rw [show vp_updL (xm_dn vl (xk_lo K k) i) i (vl (i + 1)) = xm_dn vl (xk_lo K k) (i + 1) from xm_dn_upL vl hli] at hP hD
          refine lv_iinc (k := 3) (v := nI (i + 1)) (lv' := [(3, .int (nI (i + 1))), (0, .ref (q 0)), (1, .int k), (2, .int (xm_fd K k))]) hx hb d_M_remove_59 hl rfl (xn_inc _) (Nat.le_of_ble_eq_true rfl) rfl (fun ls hl => ?_)
          refine lv_goto (tgt := 23) hx hb d_M_remove_62 (by decide) ?_
          exact ih23 (i + 1) ls _ _ (by omega) (by omega) (lv_sub hl [1, 2, 3, 0] rfl) hP hD hS (by omega)
    exact lp23 _ (xk_lo K k) ls _ _ (Nat.le_refl _) (by omega) (lv_sub hl [2, 3, 1, 0] rfl) hP hD hS (Nat.lt_succ_self _)
  · skip
    have hk := xm_fd_f hM.1 (xk_nle hc7)
    exact W.vret hx hb hr (fun tJ htJ hWJ => ⟨⟨(ky, vl), rfl, by rw [xk_rem_no hk]; exact hM, by dsimp only; rw [htJ]; rw [xk_rem_no hk]; exact hP⟩, hS.F htJ⟩) hS.2.2 d_M_remove_10
end
