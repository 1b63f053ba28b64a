section
-- ===== PART A: goes FIRST, ahead of the names: the tables' words, and 'selects' of the private methods out of them =====
/-- a private method of a class that the tables say can be made, by its rows of tables_1 -/
def lw_okq (q : MethodName × Nat) : Prop := (q.1.cls ≠ "java/lang/invoke/MethodHandle" ∧ q.1.cls ≠ "java/lang/invoke/VarHandle") ∧ Cond.instantiable q.1.cls q.2 ∈ tables_1 ∧ Cond.privateMethod q.1 ∈ tables_1 ∧ Cond.instanceMethod q.1 ∈ tables_1
theorem lw_p0 : lw_okq (⟨"ExtendiblePages$Kept", "keysBelow", "(I)I"⟩, 4) := ⟨⟨by decide +kernel, by decide +kernel⟩, List.mem_of_getElem? (i := 24) (by decide +kernel), List.mem_of_getElem? (i := 139) (by decide +kernel), List.mem_of_getElem? (i := 140) (by decide +kernel)⟩
theorem lw_p1 : lw_okq (⟨"ExtendiblePages$Kept", "isAt", "(II)Z"⟩, 4) := ⟨⟨by decide +kernel, by decide +kernel⟩, List.mem_of_getElem? (i := 24) (by decide +kernel), List.mem_of_getElem? (i := 143) (by decide +kernel), List.mem_of_getElem? (i := 144) (by decide +kernel)⟩
theorem lw_p2 : lw_okq (⟨"ExtendiblePages", "recordAndSet", "(IJ)V"⟩, 4) := ⟨⟨by decide +kernel, by decide +kernel⟩, List.mem_of_getElem? (i := 10) (by decide +kernel), List.mem_of_getElem? (i := 147) (by decide +kernel), List.mem_of_getElem? (i := 148) (by decide +kernel)⟩
theorem lw_p3 : lw_okq (⟨"ExtendiblePages$Records", "append", "(IJI)V"⟩, 5) := ⟨⟨by decide +kernel, by decide +kernel⟩, List.mem_of_getElem? (i := 60) (by decide +kernel), List.mem_of_getElem? (i := 159) (by decide +kernel), List.mem_of_getElem? (i := 160) (by decide +kernel)⟩
theorem lw_p4 : lw_okq (⟨"ExtendiblePages$Kept", "insert", "(IIJ)V"⟩, 4) := ⟨⟨by decide +kernel, by decide +kernel⟩, List.mem_of_getElem? (i := 24) (by decide +kernel), List.mem_of_getElem? (i := 167) (by decide +kernel), List.mem_of_getElem? (i := 168) (by decide +kernel)⟩
theorem lw_p5 : lw_okq (⟨"ExtendiblePages", "isOverfull", "()Z"⟩, 4) := ⟨⟨by decide +kernel, by decide +kernel⟩, List.mem_of_getElem? (i := 10) (by decide +kernel), List.mem_of_getElem? (i := 184) (by decide +kernel), List.mem_of_getElem? (i := 185) (by decide +kernel)⟩
theorem lw_p6 : lw_okq (⟨"ExtendiblePages$Classes", "isGood", "(I)Z"⟩, 2) := ⟨⟨by decide +kernel, by decide +kernel⟩, List.mem_of_getElem? (i := 30) (by decide +kernel), List.mem_of_getElem? (i := 200) (by decide +kernel), List.mem_of_getElem? (i := 201) (by decide +kernel)⟩
theorem lw_p7 : lw_okq (⟨"ExtendiblePages", "takeBackFrom", "(I)V"⟩, 4) := ⟨⟨by decide +kernel, by decide +kernel⟩, List.mem_of_getElem? (i := 10) (by decide +kernel), List.mem_of_getElem? (i := 229) (by decide +kernel), List.mem_of_getElem? (i := 230) (by decide +kernel)⟩
theorem lw_p8 : lw_okq (⟨"ExtendiblePages", "recordAndRemove", "(I)V"⟩, 4) := ⟨⟨by decide +kernel, by decide +kernel⟩, List.mem_of_getElem? (i := 10) (by decide +kernel), List.mem_of_getElem? (i := 250) (by decide +kernel), List.mem_of_getElem? (i := 251) (by decide +kernel)⟩
theorem lw_p9 : lw_okq (⟨"ExtendiblePages", "doStepsOfBatch", "()V"⟩, 4) := ⟨⟨by decide +kernel, by decide +kernel⟩, List.mem_of_getElem? (i := 10) (by decide +kernel), List.mem_of_getElem? (i := 286) (by decide +kernel), List.mem_of_getElem? (i := 287) (by decide +kernel)⟩
theorem lw_p10 : lw_okq (⟨"ExtendiblePages$Kept", "keyInBucket", "(II)I"⟩, 4) := ⟨⟨by decide +kernel, by decide +kernel⟩, List.mem_of_getElem? (i := 24) (by decide +kernel), List.mem_of_getElem? (i := 364) (by decide +kernel), List.mem_of_getElem? (i := 365) (by decide +kernel)⟩
theorem lw_p11 : lw_okq (⟨"ExtendiblePagesModel", "step", "(IIJ)I"⟩, 17) := ⟨⟨by decide +kernel, by decide +kernel⟩, List.mem_of_getElem? (i := 371) (by decide +kernel), List.mem_of_getElem? (i := 433) (by decide +kernel), List.mem_of_getElem? (i := 434) (by decide +kernel)⟩
theorem lw_p12 : lw_okq (⟨"ExtendiblePagesModel", "now", "()V"⟩, 17) := ⟨⟨by decide +kernel, by decide +kernel⟩, List.mem_of_getElem? (i := 371) (by decide +kernel), List.mem_of_getElem? (i := 441) (by decide +kernel), List.mem_of_getElem? (i := 442) (by decide +kernel)⟩
theorem lw_p13 : lw_okq (⟨"ExtendiblePagesModel", "replay", "(I)V"⟩, 17) := ⟨⟨by decide +kernel, by decide +kernel⟩, List.mem_of_getElem? (i := 371) (by decide +kernel), List.mem_of_getElem? (i := 445) (by decide +kernel), List.mem_of_getElem? (i := 446) (by decide +kernel)⟩
theorem lw_p14 : lw_okq (⟨"ExtendiblePagesModel", "set", "(IJ)V"⟩, 17) := ⟨⟨by decide +kernel, by decide +kernel⟩, List.mem_of_getElem? (i := 371) (by decide +kernel), List.mem_of_getElem? (i := 449) (by decide +kernel), List.mem_of_getElem? (i := 450) (by decide +kernel)⟩
theorem lw_p15 : lw_okq (⟨"ExtendiblePagesModel", "find", "(I)I"⟩, 17) := ⟨⟨by decide +kernel, by decide +kernel⟩, List.mem_of_getElem? (i := 371) (by decide +kernel), List.mem_of_getElem? (i := 453) (by decide +kernel), List.mem_of_getElem? (i := 454) (by decide +kernel)⟩
def lw_privs_1 : List (MethodName × Nat) := [(⟨"ExtendiblePages$Kept", "keysBelow", "(I)I"⟩, 4), (⟨"ExtendiblePages$Kept", "isAt", "(II)Z"⟩, 4), (⟨"ExtendiblePages", "recordAndSet", "(IJ)V"⟩, 4), (⟨"ExtendiblePages$Records", "append", "(IJI)V"⟩, 5), (⟨"ExtendiblePages$Kept", "insert", "(IIJ)V"⟩, 4), (⟨"ExtendiblePages", "isOverfull", "()Z"⟩, 4), (⟨"ExtendiblePages$Classes", "isGood", "(I)Z"⟩, 2), (⟨"ExtendiblePages", "takeBackFrom", "(I)V"⟩, 4), (⟨"ExtendiblePages", "recordAndRemove", "(I)V"⟩, 4), (⟨"ExtendiblePages", "doStepsOfBatch", "()V"⟩, 4), (⟨"ExtendiblePages$Kept", "keyInBucket", "(II)I"⟩, 4), (⟨"ExtendiblePagesModel", "step", "(IIJ)I"⟩, 17), (⟨"ExtendiblePagesModel", "now", "()V"⟩, 17), (⟨"ExtendiblePagesModel", "replay", "(I)V"⟩, 17), (⟨"ExtendiblePagesModel", "set", "(IJ)V"⟩, 17), (⟨"ExtendiblePagesModel", "find", "(I)I"⟩, 17)]
theorem lw_r1 : ∀ q ∈ lw_privs_1, lw_okq q := List.forall_mem_cons.mpr ⟨lw_p0, List.forall_mem_cons.mpr ⟨lw_p1, List.forall_mem_cons.mpr ⟨lw_p2, List.forall_mem_cons.mpr ⟨lw_p3, List.forall_mem_cons.mpr ⟨lw_p4, List.forall_mem_cons.mpr ⟨lw_p5, List.forall_mem_cons.mpr ⟨lw_p6, List.forall_mem_cons.mpr ⟨lw_p7, List.forall_mem_cons.mpr ⟨lw_p8, List.forall_mem_cons.mpr ⟨lw_p9, List.forall_mem_cons.mpr ⟨lw_p10, List.forall_mem_cons.mpr ⟨lw_p11, List.forall_mem_cons.mpr ⟨lw_p12, List.forall_mem_cons.mpr ⟨lw_p13, List.forall_mem_cons.mpr ⟨lw_p14, List.forall_mem_cons.mpr ⟨lw_p15, fun _ h => absurd h List.not_mem_nil⟩⟩⟩⟩⟩⟩⟩⟩⟩⟩⟩⟩⟩⟩⟩⟩
theorem lw_p16 : lw_okq (⟨"ExtendiblePagesModel", "remove", "(I)V"⟩, 17) := ⟨⟨by decide +kernel, by decide +kernel⟩, List.mem_of_getElem? (i := 371) (by decide +kernel), List.mem_of_getElem? (i := 457) (by decide +kernel), List.mem_of_getElem? (i := 458) (by decide +kernel)⟩
theorem lw_p17 : lw_okq (⟨"ExtendiblePagesModel", "write", "(IIJI)V"⟩, 17) := ⟨⟨by decide +kernel, by decide +kernel⟩, List.mem_of_getElem? (i := 371) (by decide +kernel), List.mem_of_getElem? (i := 461) (by decide +kernel), List.mem_of_getElem? (i := 462) (by decide +kernel)⟩
theorem lw_p18 : lw_okq (⟨"ExtendiblePagesModel", "stays", "(I)Z"⟩, 17) := ⟨⟨by decide +kernel, by decide +kernel⟩, List.mem_of_getElem? (i := 371) (by decide +kernel), List.mem_of_getElem? (i := 465) (by decide +kernel), List.mem_of_getElem? (i := 466) (by decide +kernel)⟩
theorem lw_p19 : lw_okq (⟨"ExtendiblePagesModel", "inUse", "()I"⟩, 17) := ⟨⟨by decide +kernel, by decide +kernel⟩, List.mem_of_getElem? (i := 371) (by decide +kernel), List.mem_of_getElem? (i := 469) (by decide +kernel), List.mem_of_getElem? (i := 470) (by decide +kernel)⟩
theorem lw_p20 : lw_okq (⟨"ExtendiblePagesModel", "greatest", "()I"⟩, 17) := ⟨⟨by decide +kernel, by decide +kernel⟩, List.mem_of_getElem? (i := 371) (by decide +kernel), List.mem_of_getElem? (i := 473) (by decide +kernel), List.mem_of_getElem? (i := 474) (by decide +kernel)⟩
theorem lw_p21 : lw_okq (⟨"ExtendiblePagesModel", "depthOf", "(I)I"⟩, 17) := ⟨⟨by decide +kernel, by decide +kernel⟩, List.mem_of_getElem? (i := 371) (by decide +kernel), List.mem_of_getElem? (i := 477) (by decide +kernel), List.mem_of_getElem? (i := 478) (by decide +kernel)⟩
theorem lw_p22 : lw_okq (⟨"ExtendiblePagesModel", "good", "(II)Z"⟩, 17) := ⟨⟨by decide +kernel, by decide +kernel⟩, List.mem_of_getElem? (i := 371) (by decide +kernel), List.mem_of_getElem? (i := 481) (by decide +kernel), List.mem_of_getElem? (i := 482) (by decide +kernel)⟩
theorem lw_p23 : lw_okq (⟨"ExtendiblePagesModel", "hash", "(I)I"⟩, 17) := ⟨⟨by decide +kernel, by decide +kernel⟩, List.mem_of_getElem? (i := 371) (by decide +kernel), List.mem_of_getElem? (i := 485) (by decide +kernel), List.mem_of_getElem? (i := 486) (by decide +kernel)⟩
theorem lw_p24 : lw_okq (⟨"ExtendiblePagesModel", "inClass", "(III)Z"⟩, 17) := ⟨⟨by decide +kernel, by decide +kernel⟩, List.mem_of_getElem? (i := 371) (by decide +kernel), List.mem_of_getElem? (i := 489) (by decide +kernel), List.mem_of_getElem? (i := 490) (by decide +kernel)⟩
theorem lw_p25 : lw_okq (⟨"ExtendiblePagesModel", "count", "(II)I"⟩, 17) := ⟨⟨by decide +kernel, by decide +kernel⟩, List.mem_of_getElem? (i := 371) (by decide +kernel), List.mem_of_getElem? (i := 493) (by decide +kernel), List.mem_of_getElem? (i := 494) (by decide +kernel)⟩
theorem lw_p26 : lw_okq (⟨"ExtendiblePagesModel", "valuePages", "(J)I"⟩, 17) := ⟨⟨by decide +kernel, by decide +kernel⟩, List.mem_of_getElem? (i := 371) (by decide +kernel), List.mem_of_getElem? (i := 497) (by decide +kernel), List.mem_of_getElem? (i := 498) (by decide +kernel)⟩
theorem lw_p27 : lw_okq (⟨"ExtendiblePagesModel", "bytes", "(J)I"⟩, 17) := ⟨⟨by decide +kernel, by decide +kernel⟩, List.mem_of_getElem? (i := 371) (by decide +kernel), List.mem_of_getElem? (i := 501) (by decide +kernel), List.mem_of_getElem? (i := 502) (by decide +kernel)⟩
theorem lw_p28 : lw_okq (⟨"ExtendiblePagesModel", "settle", "(I)V"⟩, 17) := ⟨⟨by decide +kernel, by decide +kernel⟩, List.mem_of_getElem? (i := 371) (by decide +kernel), List.mem_of_getElem? (i := 505) (by decide +kernel), List.mem_of_getElem? (i := 506) (by decide +kernel)⟩
theorem lw_p29 : lw_okq (⟨"ExtendiblePagesModel", "bucketOf", "(I)I"⟩, 17) := ⟨⟨by decide +kernel, by decide +kernel⟩, List.mem_of_getElem? (i := 371) (by decide +kernel), List.mem_of_getElem? (i := 542) (by decide +kernel), List.mem_of_getElem? (i := 543) (by decide +kernel)⟩
def lw_privs_2 : List (MethodName × Nat) := [(⟨"ExtendiblePagesModel", "remove", "(I)V"⟩, 17), (⟨"ExtendiblePagesModel", "write", "(IIJI)V"⟩, 17), (⟨"ExtendiblePagesModel", "stays", "(I)Z"⟩, 17), (⟨"ExtendiblePagesModel", "inUse", "()I"⟩, 17), (⟨"ExtendiblePagesModel", "greatest", "()I"⟩, 17), (⟨"ExtendiblePagesModel", "depthOf", "(I)I"⟩, 17), (⟨"ExtendiblePagesModel", "good", "(II)Z"⟩, 17), (⟨"ExtendiblePagesModel", "hash", "(I)I"⟩, 17), (⟨"ExtendiblePagesModel", "inClass", "(III)Z"⟩, 17), (⟨"ExtendiblePagesModel", "count", "(II)I"⟩, 17), (⟨"ExtendiblePagesModel", "valuePages", "(J)I"⟩, 17), (⟨"ExtendiblePagesModel", "bytes", "(J)I"⟩, 17), (⟨"ExtendiblePagesModel", "settle", "(I)V"⟩, 17), (⟨"ExtendiblePagesModel", "bucketOf", "(I)I"⟩, 17)]
theorem lw_r2 : ∀ q ∈ lw_privs_2, lw_okq q := List.forall_mem_cons.mpr ⟨lw_p16, List.forall_mem_cons.mpr ⟨lw_p17, List.forall_mem_cons.mpr ⟨lw_p18, List.forall_mem_cons.mpr ⟨lw_p19, List.forall_mem_cons.mpr ⟨lw_p20, List.forall_mem_cons.mpr ⟨lw_p21, List.forall_mem_cons.mpr ⟨lw_p22, List.forall_mem_cons.mpr ⟨lw_p23, List.forall_mem_cons.mpr ⟨lw_p24, List.forall_mem_cons.mpr ⟨lw_p25, List.forall_mem_cons.mpr ⟨lw_p26, List.forall_mem_cons.mpr ⟨lw_p27, List.forall_mem_cons.mpr ⟨lw_p28, List.forall_mem_cons.mpr ⟨lw_p29, fun _ h => absurd h List.not_mem_nil⟩⟩⟩⟩⟩⟩⟩⟩⟩⟩⟩⟩⟩⟩
def lw_privs : List (MethodName × Nat) := lw_privs_1 ++ (lw_privs_2)
def lw_tbl : List Cond := k2_sels lw_privs ++ tables_1
theorem lw_privs_ok : ∀ q ∈ lw_privs, lw_okq q := by
  show ∀ q ∈ lw_privs_1 ++ (lw_privs_2), lw_okq q
  exact List.forall_mem_append.mpr ⟨lw_r1, lw_r2⟩
end
section
/-! Names: classes, fields, methods; the words of the tables. -/
abbrev R_E : String := "ExtendiblePages"
def F_E : u_T := fun k => match k with
  | 0 => ("ExtendiblePages", "pagesOfStore", "I", true)
  | 1 => ("ExtendiblePages", "kept", "LExtendiblePages$Kept;", true)
  | 2 => ("ExtendiblePages", "records", "LExtendiblePages$Records;", true)
  | _ => ("ExtendiblePages", "batch", "LExtendiblePages$Batch;", true)
def t_E : Nat → FieldType := fun k => match k with
  | 0 => .int
  | 1 => .object "ExtendiblePages$Kept"
  | 2 => .object "ExtendiblePages$Records"
  | _ => .object "ExtendiblePages$Batch"
theorem n_E : ∀ a, a < 4 → ∀ b, b < 4 → a ≠ b → (F_E a).2.1 ≠ (F_E b).2.1 := by decide +kernel
theorem t_E_ok : ∀ k, k < 4 → parseFieldDescriptor (F_E k).2.2.1 = some (t_E k) := by decide +kernel
abbrev R_K : String := "ExtendiblePages$Kept"
def F_K : u_T := fun k => match k with
  | 0 => ("ExtendiblePages$Kept", "keys", "[I", true)
  | 1 => ("ExtendiblePages$Kept", "values", "[J", true)
  | 2 => ("ExtendiblePages$Kept", "classes", "LExtendiblePages$Classes;", true)
  | _ => ("ExtendiblePages$Kept", "count", "I", false)
def t_K : Nat → FieldType := fun k => match k with
  | 0 => .array .int
  | 1 => .array .long
  | 2 => .object "ExtendiblePages$Classes"
  | _ => .int
theorem n_K : ∀ a, a < 4 → ∀ b, b < 4 → a ≠ b → (F_K a).2.1 ≠ (F_K b).2.1 := by decide +kernel
theorem t_K_ok : ∀ k, k < 4 → parseFieldDescriptor (F_K k).2.2.1 = some (t_K k) := by decide +kernel
abbrev R_C : String := "ExtendiblePages$Classes"
def F_C : u_T := fun k => match k with
  | 0 => ("ExtendiblePages$Classes", "keysIn", "[I", true)
  | _ => ("ExtendiblePages$Classes", "hashesIn", "[I", true)
def t_C : Nat → FieldType := fun k => match k with
  | 0 => .array .int
  | _ => .array .int
theorem n_C : ∀ a, a < 2 → ∀ b, b < 2 → a ≠ b → (F_C a).2.1 ≠ (F_C b).2.1 := by decide +kernel
theorem t_C_ok : ∀ k, k < 2 → parseFieldDescriptor (F_C k).2.2.1 = some (t_C k) := by decide +kernel
abbrev R_R : String := "ExtendiblePages$Records"
def F_R : u_T := fun k => match k with
  | 0 => ("ExtendiblePages$Records", "keys", "[I", true)
  | 1 => ("ExtendiblePages$Records", "values", "[J", true)
  | 2 => ("ExtendiblePages$Records", "formers", "[I", true)
  | 3 => ("ExtendiblePages$Records", "starts", "[I", true)
  | _ => ("ExtendiblePages$Records", "count", "I", false)
def t_R : Nat → FieldType := fun k => match k with
  | 0 => .array .int
  | 1 => .array .long
  | 2 => .array .int
  | 3 => .array .int
  | _ => .int
theorem n_R : ∀ a, a < 5 → ∀ b, b < 5 → a ≠ b → (F_R a).2.1 ≠ (F_R b).2.1 := by decide +kernel
theorem t_R_ok : ∀ k, k < 5 → parseFieldDescriptor (F_R k).2.2.1 = some (t_R k) := by decide +kernel
abbrev R_B : String := "ExtendiblePages$Batch"
def F_B : u_T := fun k => match k with
  | 0 => ("ExtendiblePages$Batch", "isPut", "[Z", true)
  | 1 => ("ExtendiblePages$Batch", "keys", "[I", true)
  | 2 => ("ExtendiblePages$Batch", "values", "[J", true)
  | 3 => ("ExtendiblePages$Batch", "isOpen", "Z", false)
  | _ => ("ExtendiblePages$Batch", "count", "I", false)
def t_B : Nat → FieldType := fun k => match k with
  | 0 => .array .boolean
  | 1 => .array .int
  | 2 => .array .long
  | 3 => .boolean
  | _ => .int
theorem n_B : ∀ a, a < 5 → ∀ b, b < 5 → a ≠ b → (F_B a).2.1 ≠ (F_B b).2.1 := by decide +kernel
theorem t_B_ok : ∀ k, k < 5 → parseFieldDescriptor (F_B k).2.2.1 = some (t_B k) := by decide +kernel
abbrev R_M : String := "ExtendiblePagesModel"
def F_M : u_T := fun k => match k with
  | 0 => ("ExtendiblePagesModel", "limit", "I", true)
  | 1 => ("ExtendiblePagesModel", "baseSize", "I", false)
  | 2 => ("ExtendiblePagesModel", "baseKey", "[I", true)
  | 3 => ("ExtendiblePagesModel", "baseValue", "[J", true)
  | 4 => ("ExtendiblePagesModel", "records", "I", false)
  | 5 => ("ExtendiblePagesModel", "what", "[I", true)
  | 6 => ("ExtendiblePagesModel", "recordKey", "[I", true)
  | 7 => ("ExtendiblePagesModel", "recordValue", "[J", true)
  | 8 => ("ExtendiblePagesModel", "begins", "[I", true)
  | 9 => ("ExtendiblePagesModel", "batch", "Z", false)
  | 10 => ("ExtendiblePagesModel", "stepCount", "I", false)
  | 11 => ("ExtendiblePagesModel", "stepWhat", "[I", true)
  | 12 => ("ExtendiblePagesModel", "stepKey", "[I", true)
  | 13 => ("ExtendiblePagesModel", "stepValue", "[J", true)
  | 14 => ("ExtendiblePagesModel", "kept", "I", false)
  | 15 => ("ExtendiblePagesModel", "key", "[I", true)
  | _ => ("ExtendiblePagesModel", "value", "[J", true)
def t_M : Nat → FieldType := fun k => match k with
  | 0 => .int
  | 1 => .int
  | 2 => .array .int
  | 3 => .array .long
  | 4 => .int
  | 5 => .array .int
  | 6 => .array .int
  | 7 => .array .long
  | 8 => .array .int
  | 9 => .boolean
  | 10 => .int
  | 11 => .array .int
  | 12 => .array .int
  | 13 => .array .long
  | 14 => .int
  | 15 => .array .int
  | _ => .array .long
theorem n_M : ∀ a, a < 17 → ∀ b, b < 17 → a ≠ b → (F_M a).2.1 ≠ (F_M b).2.1 := by decide +kernel
theorem t_M_ok : ∀ k, k < 17 → parseFieldDescriptor (F_M k).2.2.1 = some (t_M k) := by decide +kernel
abbrev R_L : String := "ExtendiblePagesLaw"
abbrev zz_cl : List vw_C := [(R_E, F_E, 4), (R_K, F_K, 4), (R_C, F_C, 2), (R_R, F_R, 5), (R_B, F_B, 5), (R_M, F_M, 17)]
abbrev b_E_init : ByteArray := prog_1_method_1_code
def y_E_init : MethodName := ⟨R_E, "<init>", "(I)V"⟩
abbrev b_K_init : ByteArray := prog_4_method_1_code
def y_K_init : MethodName := ⟨R_K, "<init>", "()V"⟩
abbrev b_C_init : ByteArray := prog_3_method_1_code
def y_C_init : MethodName := ⟨R_C, "<init>", "()V"⟩
abbrev b_R_init : ByteArray := prog_5_method_1_code
def y_R_init : MethodName := ⟨R_R, "<init>", "()V"⟩
abbrev b_B_init : ByteArray := prog_2_method_1_code
def y_B_init : MethodName := ⟨R_B, "<init>", "()V"⟩
abbrev b_E_put : ByteArray := prog_1_method_2_code
def y_E_put : MethodName := ⟨R_E, "put", "(IJ)I"⟩
abbrev b_B_take : ByteArray := prog_2_method_4_code
def y_B_take : MethodName := ⟨R_B, "take", "(ZIJ)I"⟩
abbrev b_K_holds : ByteArray := prog_4_method_2_code
def y_K_holds : MethodName := ⟨R_K, "holds", "(I)Z"⟩
abbrev b_K_keysBelow : ByteArray := prog_4_method_11_code
def y_K_keysBelow : MethodName := ⟨R_K, "keysBelow", "(I)I"⟩
abbrev b_K_isAt : ByteArray := prog_4_method_10_code
def y_K_isAt : MethodName := ⟨R_K, "isAt", "(II)Z"⟩
abbrev b_E_recordAndSet : ByteArray := prog_1_method_21_code
def y_E_recordAndSet : MethodName := ⟨R_E, "recordAndSet", "(IJ)V"⟩
abbrev b_K_valueOf : ByteArray := prog_4_method_3_code
def y_K_valueOf : MethodName := ⟨R_K, "valueOf", "(I)J"⟩
abbrev b_R_write : ByteArray := prog_5_method_2_code
def y_R_write : MethodName := ⟨R_R, "write", "(IZJ)V"⟩
abbrev b_R_append : ByteArray := prog_5_method_7_code
def y_R_append : MethodName := ⟨R_R, "append", "(IJI)V"⟩
abbrev b_K_set : ByteArray := prog_4_method_4_code
def y_K_set : MethodName := ⟨R_K, "set", "(IJ)V"⟩
abbrev b_K_insert : ByteArray := prog_4_method_12_code
def y_K_insert : MethodName := ⟨R_K, "insert", "(IIJ)V"⟩
abbrev b_E_hash : ByteArray := prog_1_method_26_code
def y_E_hash : MethodName := ⟨R_E, "hash", "(I)I"⟩
abbrev b_C_countKey : ByteArray := prog_3_method_2_code
def y_C_countKey : MethodName := ⟨R_C, "countKey", "(II)V"⟩
abbrev b_C_cell : ByteArray := prog_3_method_10_code
def y_C_cell : MethodName := ⟨R_C, "cell", "(II)I"⟩
abbrev b_E_isOverfull : ByteArray := prog_1_method_24_code
def y_E_isOverfull : MethodName := ⟨R_E, "isOverfull", "()Z"⟩
abbrev b_K_pagesInUse : ByteArray := prog_4_method_6_code
def y_K_pagesInUse : MethodName := ⟨R_K, "pagesInUse", "()I"⟩
abbrev b_C_deepest : ByteArray := prog_3_method_4_code
def y_C_deepest : MethodName := ⟨R_C, "deepest", "()I"⟩
abbrev b_C_depthOf : ByteArray := prog_3_method_3_code
def y_C_depthOf : MethodName := ⟨R_C, "depthOf", "(I)I"⟩
abbrev b_C_isGood : ByteArray := prog_3_method_9_code
def y_C_isGood : MethodName := ⟨R_C, "isGood", "(I)Z"⟩
abbrev b_E_directoryPages : ByteArray := prog_1_method_27_code
def y_E_directoryPages : MethodName := ⟨R_E, "directoryPages", "(I)I"⟩
abbrev b_C_isPlace : ByteArray := prog_3_method_6_code
def y_C_isPlace : MethodName := ⟨R_C, "isPlace", "(I)Z"⟩
abbrev b_C_maskOf : ByteArray := prog_3_method_5_code
def y_C_maskOf : MethodName := ⟨R_C, "maskOf", "(I)I"⟩
abbrev b_C_keysOfBucket : ByteArray := prog_3_method_8_code
def y_C_keysOfBucket : MethodName := ⟨R_C, "keysOfBucket", "(I)I"⟩
abbrev b_E_bucketPages : ByteArray := prog_1_method_28_code
def y_E_bucketPages : MethodName := ⟨R_E, "bucketPages", "(I)I"⟩
abbrev b_E_valuePages : ByteArray := prog_1_method_29_code
def y_E_valuePages : MethodName := ⟨R_E, "valuePages", "(J)I"⟩
abbrev b_E_bytesOf : ByteArray := prog_1_method_30_code
def y_E_bytesOf : MethodName := ⟨R_E, "bytesOf", "(J)I"⟩
abbrev b_E_takeBackFrom : ByteArray := prog_1_method_25_code
def y_E_takeBackFrom : MethodName := ⟨R_E, "takeBackFrom", "(I)V"⟩
abbrev b_K_remove : ByteArray := prog_4_method_5_code
def y_K_remove : MethodName := ⟨R_K, "remove", "(I)V"⟩
abbrev b_R_forgetFrom : ByteArray := prog_5_method_6_code
def y_R_forgetFrom : MethodName := ⟨R_R, "forgetFrom", "(I)V"⟩
abbrev b_R_settle : ByteArray := prog_5_method_4_code
def y_R_settle : MethodName := ⟨R_R, "settle", "(I)V"⟩
abbrev b_E_delete : ByteArray := prog_1_method_3_code
def y_E_delete : MethodName := ⟨R_E, "delete", "(I)I"⟩
abbrev b_E_recordAndRemove : ByteArray := prog_1_method_22_code
def y_E_recordAndRemove : MethodName := ⟨R_E, "recordAndRemove", "(I)V"⟩
abbrev b_E_has : ByteArray := prog_1_method_4_code
def y_E_has : MethodName := ⟨R_E, "has", "(I)Z"⟩
abbrev b_E_get : ByteArray := prog_1_method_5_code
def y_E_get : MethodName := ⟨R_E, "get", "(I)J"⟩
abbrev b_E_reads : ByteArray := prog_1_method_6_code
def y_E_reads : MethodName := ⟨R_E, "reads", "(I)I"⟩
abbrev b_K_bucketPagesUpTo : ByteArray := prog_4_method_7_code
def y_K_bucketPagesUpTo : MethodName := ⟨R_K, "bucketPagesUpTo", "(I)I"⟩
abbrev b_E_open : ByteArray := prog_1_method_7_code
def y_E_open : MethodName := ⟨R_E, "open", "()Z"⟩
abbrev b_B_begin : ByteArray := prog_2_method_2_code
def y_B_begin : MethodName := ⟨R_B, "begin", "()V"⟩
abbrev b_E_commit : ByteArray := prog_1_method_8_code
def y_E_commit : MethodName := ⟨R_E, "commit", "()I"⟩
abbrev b_E_doStepsOfBatch : ByteArray := prog_1_method_23_code
def y_E_doStepsOfBatch : MethodName := ⟨R_E, "doStepsOfBatch", "()V"⟩
abbrev b_B_end : ByteArray := prog_2_method_3_code
def y_B_end : MethodName := ⟨R_B, "end", "()V"⟩
abbrev b_R_closeBatch : ByteArray := prog_5_method_3_code
def y_R_closeBatch : MethodName := ⟨R_R, "closeBatch", "(I)V"⟩
abbrev b_E_abandon : ByteArray := prog_1_method_9_code
def y_E_abandon : MethodName := ⟨R_E, "abandon", "()I"⟩
abbrev b_E_flush : ByteArray := prog_1_method_10_code
def y_E_flush : MethodName := ⟨R_E, "flush", "()I"⟩
abbrev b_E_crash : ByteArray := prog_1_method_11_code
def y_E_crash : MethodName := ⟨R_E, "crash", "(I)I"⟩
abbrev b_R_survivorsAmongFirst : ByteArray := prog_5_method_5_code
def y_R_survivorsAmongFirst : MethodName := ⟨R_R, "survivorsAmongFirst", "(I)I"⟩
abbrev b_E_unflushed : ByteArray := prog_1_method_12_code
def y_E_unflushed : MethodName := ⟨R_E, "unflushed", "()I"⟩
abbrev b_E_steps : ByteArray := prog_1_method_13_code
def y_E_steps : MethodName := ⟨R_E, "steps", "()I"⟩
abbrev b_E_size : ByteArray := prog_1_method_14_code
def y_E_size : MethodName := ⟨R_E, "size", "()I"⟩
abbrev b_E_pages : ByteArray := prog_1_method_15_code
def y_E_pages : MethodName := ⟨R_E, "pages", "()I"⟩
abbrev b_E_globalDepth : ByteArray := prog_1_method_16_code
def y_E_globalDepth : MethodName := ⟨R_E, "globalDepth", "()I"⟩
abbrev b_E_localDepth : ByteArray := prog_1_method_17_code
def y_E_localDepth : MethodName := ⟨R_E, "localDepth", "(I)I"⟩
abbrev b_E_buckets : ByteArray := prog_1_method_18_code
def y_E_buckets : MethodName := ⟨R_E, "buckets", "()I"⟩
abbrev b_C_countPlaces : ByteArray := prog_3_method_7_code
def y_C_countPlaces : MethodName := ⟨R_C, "countPlaces", "()I"⟩
abbrev b_E_bucketAt : ByteArray := prog_1_method_19_code
def y_E_bucketAt : MethodName := ⟨R_E, "bucketAt", "(I)I"⟩
abbrev b_E_keyAt : ByteArray := prog_1_method_20_code
def y_E_keyAt : MethodName := ⟨R_E, "keyAt", "(I)I"⟩
abbrev b_K_keyInPlaceOrder : ByteArray := prog_4_method_8_code
def y_K_keyInPlaceOrder : MethodName := ⟨R_K, "keyInPlaceOrder", "(I)I"⟩
abbrev b_K_keyInBucket : ByteArray := prog_4_method_9_code
def y_K_keyInBucket : MethodName := ⟨R_K, "keyInBucket", "(II)I"⟩
abbrev b_L_cell : ByteArray := method_2_code
def y_L_cell : MethodName := ⟨R_L, "cell", "([II)I"⟩
abbrev b_M_init : ByteArray := prog_7_method_1_code
def y_M_init : MethodName := ⟨R_M, "<init>", "(I)V"⟩
abbrev b_M_put : ByteArray := prog_7_method_20_code
def y_M_put : MethodName := ⟨R_M, "put", "(IJ)I"⟩
abbrev b_M_step : ByteArray := prog_7_method_19_code
def y_M_step : MethodName := ⟨R_M, "step", "(IIJ)I"⟩
abbrev b_M_has : ByteArray := prog_7_method_27_code
def y_M_has : MethodName := ⟨R_M, "has", "(I)Z"⟩
abbrev b_M_now : ByteArray := prog_7_method_6_code
def y_M_now : MethodName := ⟨R_M, "now", "()V"⟩
abbrev b_M_replay : ByteArray := prog_7_method_5_code
def y_M_replay : MethodName := ⟨R_M, "replay", "(I)V"⟩
abbrev b_M_set : ByteArray := prog_7_method_3_code
def y_M_set : MethodName := ⟨R_M, "set", "(IJ)V"⟩
abbrev b_M_find : ByteArray := prog_7_method_2_code
def y_M_find : MethodName := ⟨R_M, "find", "(I)I"⟩
abbrev b_M_remove : ByteArray := prog_7_method_4_code
def y_M_remove : MethodName := ⟨R_M, "remove", "(I)V"⟩
abbrev b_M_write : ByteArray := prog_7_method_8_code
def y_M_write : MethodName := ⟨R_M, "write", "(IIJI)V"⟩
abbrev b_M_stays : ByteArray := prog_7_method_9_code
def y_M_stays : MethodName := ⟨R_M, "stays", "(I)Z"⟩
abbrev b_M_inUse : ByteArray := prog_7_method_18_code
def y_M_inUse : MethodName := ⟨R_M, "inUse", "()I"⟩
abbrev b_M_greatest : ByteArray := prog_7_method_17_code
def y_M_greatest : MethodName := ⟨R_M, "greatest", "()I"⟩
abbrev b_M_depthOf : ByteArray := prog_7_method_14_code
def y_M_depthOf : MethodName := ⟨R_M, "depthOf", "(I)I"⟩
abbrev b_M_good : ByteArray := prog_7_method_13_code
def y_M_good : MethodName := ⟨R_M, "good", "(II)Z"⟩
abbrev b_M_hash : ByteArray := prog_7_method_10_code
def y_M_hash : MethodName := ⟨R_M, "hash", "(I)I"⟩
abbrev b_M_inClass : ByteArray := prog_7_method_11_code
def y_M_inClass : MethodName := ⟨R_M, "inClass", "(III)Z"⟩
abbrev b_M_count : ByteArray := prog_7_method_12_code
def y_M_count : MethodName := ⟨R_M, "count", "(II)I"⟩
abbrev b_M_valuePages : ByteArray := prog_7_method_16_code
def y_M_valuePages : MethodName := ⟨R_M, "valuePages", "(J)I"⟩
abbrev b_M_bytes : ByteArray := prog_7_method_15_code
def y_M_bytes : MethodName := ⟨R_M, "bytes", "(J)I"⟩
abbrev b_M_settle : ByteArray := prog_7_method_7_code
def y_M_settle : MethodName := ⟨R_M, "settle", "(I)V"⟩
abbrev b_M_delete : ByteArray := prog_7_method_21_code
def y_M_delete : MethodName := ⟨R_M, "delete", "(I)I"⟩
abbrev b_M_open : ByteArray := prog_7_method_22_code
def y_M_open : MethodName := ⟨R_M, "open", "()Z"⟩
abbrev b_M_commit : ByteArray := prog_7_method_23_code
def y_M_commit : MethodName := ⟨R_M, "commit", "()I"⟩
abbrev b_M_abandon : ByteArray := prog_7_method_24_code
def y_M_abandon : MethodName := ⟨R_M, "abandon", "()I"⟩
abbrev b_M_flush : ByteArray := prog_7_method_25_code
def y_M_flush : MethodName := ⟨R_M, "flush", "()I"⟩
abbrev b_M_crash : ByteArray := prog_7_method_26_code
def y_M_crash : MethodName := ⟨R_M, "crash", "(I)I"⟩
abbrev b_M_get : ByteArray := prog_7_method_28_code
def y_M_get : MethodName := ⟨R_M, "get", "(I)J"⟩
abbrev b_M_reads : ByteArray := prog_7_method_30_code
def y_M_reads : MethodName := ⟨R_M, "reads", "(I)I"⟩
abbrev b_M_bucketOf : ByteArray := prog_7_method_29_code
def y_M_bucketOf : MethodName := ⟨R_M, "bucketOf", "(I)I"⟩
abbrev b_M_unflushed : ByteArray := prog_7_method_31_code
def y_M_unflushed : MethodName := ⟨R_M, "unflushed", "()I"⟩
abbrev b_M_steps : ByteArray := prog_7_method_32_code
def y_M_steps : MethodName := ⟨R_M, "steps", "()I"⟩
abbrev b_M_size : ByteArray := prog_7_method_33_code
def y_M_size : MethodName := ⟨R_M, "size", "()I"⟩
abbrev b_M_pages : ByteArray := prog_7_method_34_code
def y_M_pages : MethodName := ⟨R_M, "pages", "()I"⟩
abbrev b_M_globalDepth : ByteArray := prog_7_method_35_code
def y_M_globalDepth : MethodName := ⟨R_M, "globalDepth", "()I"⟩
abbrev b_M_localDepth : ByteArray := prog_7_method_36_code
def y_M_localDepth : MethodName := ⟨R_M, "localDepth", "(I)I"⟩
abbrev b_M_buckets : ByteArray := prog_7_method_37_code
def y_M_buckets : MethodName := ⟨R_M, "buckets", "()I"⟩
abbrev b_M_bucketAt : ByteArray := prog_7_method_38_code
def y_M_bucketAt : MethodName := ⟨R_M, "bucketAt", "(I)I"⟩
abbrev b_M_keyAt : ByteArray := prog_7_method_39_code
def y_M_keyAt : MethodName := ⟨R_M, "keyAt", "(I)I"⟩
def zt : List Cond := lw_tbl.filter goodWord
def zb_n : Cond → Bool
  | .fieldLinkNest .. => true
  | .methodLinkNest .. => true
  | _ => false
def zn_L : List Cond := tables_1.filter zb_n
abbrev zw_E_init : List Cond := Cond.code y_E_init b_E_init 2 none :: zt
abbrev zw_K_init : List Cond := Cond.code y_K_init b_K_init 1 none :: zt
abbrev zw_C_init : List Cond := Cond.code y_C_init b_C_init 1 none :: zt
abbrev zw_R_init : List Cond := Cond.code y_R_init b_R_init 1 none :: zt
abbrev zw_B_init : List Cond := Cond.code y_B_init b_B_init 1 none :: zt
abbrev zw_E_put : List Cond := Cond.code y_E_put b_E_put 6 (some .int) :: zt
abbrev zw_B_take : List Cond := Cond.code y_B_take b_B_take 5 (some .int) :: zt
abbrev zw_K_holds : List Cond := Cond.code y_K_holds b_K_holds 2 (some .boolean) :: zt
abbrev zw_K_keysBelow : List Cond := Cond.code y_K_keysBelow b_K_keysBelow 3 (some .int) :: zt
abbrev zw_K_isAt : List Cond := Cond.code y_K_isAt b_K_isAt 3 (some .boolean) :: zt
abbrev zw_E_recordAndSet : List Cond := Cond.code y_E_recordAndSet b_E_recordAndSet 4 none :: zt
abbrev zw_K_valueOf : List Cond := Cond.code y_K_valueOf b_K_valueOf 3 (some .long) :: zt
abbrev zw_R_write : List Cond := Cond.code y_R_write b_R_write 5 none :: zt
abbrev zw_R_append : List Cond := Cond.code y_R_append b_R_append 5 none :: zt
abbrev zw_K_set : List Cond := Cond.code y_K_set b_K_set 5 none :: zt
abbrev zw_K_insert : List Cond := Cond.code y_K_insert b_K_insert 5 none :: zt
abbrev zw_E_hash : List Cond := Cond.code y_E_hash b_E_hash 1 (some .int) :: zt
abbrev zw_C_countKey : List Cond := Cond.code y_C_countKey b_C_countKey 7 none :: zt
abbrev zw_C_cell : List Cond := Cond.code y_C_cell b_C_cell 3 (some .int) :: zt
abbrev zw_E_isOverfull : List Cond := Cond.code y_E_isOverfull b_E_isOverfull 1 (some .boolean) :: zt
abbrev zw_K_pagesInUse : List Cond := Cond.code y_K_pagesInUse b_K_pagesInUse 3 (some .int) :: zt
abbrev zw_C_deepest : List Cond := Cond.code y_C_deepest b_C_deepest 3 (some .int) :: zt
abbrev zw_C_depthOf : List Cond := Cond.code y_C_depthOf b_C_depthOf 3 (some .int) :: zt
abbrev zw_C_isGood : List Cond := Cond.code y_C_isGood b_C_isGood 2 (some .boolean) :: zt
abbrev zw_E_directoryPages : List Cond := Cond.code y_E_directoryPages b_E_directoryPages 1 (some .int) :: zt
abbrev zw_C_isPlace : List Cond := Cond.code y_C_isPlace b_C_isPlace 2 (some .boolean) :: zt
abbrev zw_C_maskOf : List Cond := Cond.code y_C_maskOf b_C_maskOf 2 (some .int) :: zt
abbrev zw_C_keysOfBucket : List Cond := Cond.code y_C_keysOfBucket b_C_keysOfBucket 2 (some .int) :: zt
abbrev zw_E_bucketPages : List Cond := Cond.code y_E_bucketPages b_E_bucketPages 1 (some .int) :: zt
abbrev zw_E_valuePages : List Cond := Cond.code y_E_valuePages b_E_valuePages 3 (some .int) :: zt
abbrev zw_E_bytesOf : List Cond := Cond.code y_E_bytesOf b_E_bytesOf 3 (some .int) :: zt
abbrev zw_E_takeBackFrom : List Cond := Cond.code y_E_takeBackFrom b_E_takeBackFrom 3 none :: zt
abbrev zw_K_remove : List Cond := Cond.code y_K_remove b_K_remove 3 none :: zt
abbrev zw_R_forgetFrom : List Cond := Cond.code y_R_forgetFrom b_R_forgetFrom 2 none :: zt
abbrev zw_R_settle : List Cond := Cond.code y_R_settle b_R_settle 4 none :: zt
abbrev zw_E_delete : List Cond := Cond.code y_E_delete b_E_delete 3 (some .int) :: zt
abbrev zw_E_recordAndRemove : List Cond := Cond.code y_E_recordAndRemove b_E_recordAndRemove 2 none :: zt
abbrev zw_E_has : List Cond := Cond.code y_E_has b_E_has 2 (some .boolean) :: zt
abbrev zw_E_get : List Cond := Cond.code y_E_get b_E_get 2 (some .long) :: zt
abbrev zw_E_reads : List Cond := Cond.code y_E_reads b_E_reads 3 (some .int) :: zt
abbrev zw_K_bucketPagesUpTo : List Cond := Cond.code y_K_bucketPagesUpTo b_K_bucketPagesUpTo 6 (some .int) :: zt
abbrev zw_E_open : List Cond := Cond.code y_E_open b_E_open 1 (some .boolean) :: zt
abbrev zw_B_begin : List Cond := Cond.code y_B_begin b_B_begin 1 none :: zt
abbrev zw_E_commit : List Cond := Cond.code y_E_commit b_E_commit 3 (some .int) :: zt
abbrev zw_E_doStepsOfBatch : List Cond := Cond.code y_E_doStepsOfBatch b_E_doStepsOfBatch 2 none :: zt
abbrev zw_B_end : List Cond := Cond.code y_B_end b_B_end 1 none :: zt
abbrev zw_R_closeBatch : List Cond := Cond.code y_R_closeBatch b_R_closeBatch 3 none :: zt
abbrev zw_E_abandon : List Cond := Cond.code y_E_abandon b_E_abandon 2 (some .int) :: zt
abbrev zw_E_flush : List Cond := Cond.code y_E_flush b_E_flush 2 (some .int) :: zt
abbrev zw_E_crash : List Cond := Cond.code y_E_crash b_E_crash 4 (some .int) :: zt
abbrev zw_R_survivorsAmongFirst : List Cond := Cond.code y_R_survivorsAmongFirst b_R_survivorsAmongFirst 3 (some .int) :: zt
abbrev zw_E_unflushed : List Cond := Cond.code y_E_unflushed b_E_unflushed 1 (some .int) :: zt
abbrev zw_E_steps : List Cond := Cond.code y_E_steps b_E_steps 1 (some .int) :: zt
abbrev zw_E_size : List Cond := Cond.code y_E_size b_E_size 1 (some .int) :: zt
abbrev zw_E_pages : List Cond := Cond.code y_E_pages b_E_pages 1 (some .int) :: zt
abbrev zw_E_globalDepth : List Cond := Cond.code y_E_globalDepth b_E_globalDepth 1 (some .int) :: zt
abbrev zw_E_localDepth : List Cond := Cond.code y_E_localDepth b_E_localDepth 2 (some .int) :: zt
abbrev zw_E_buckets : List Cond := Cond.code y_E_buckets b_E_buckets 1 (some .int) :: zt
abbrev zw_C_countPlaces : List Cond := Cond.code y_C_countPlaces b_C_countPlaces 3 (some .int) :: zt
abbrev zw_E_bucketAt : List Cond := Cond.code y_E_bucketAt b_E_bucketAt 4 (some .int) :: zt
abbrev zw_E_keyAt : List Cond := Cond.code y_E_keyAt b_E_keyAt 2 (some .int) :: zt
abbrev zw_K_keyInPlaceOrder : List Cond := Cond.code y_K_keyInPlaceOrder b_K_keyInPlaceOrder 5 (some .int) :: zt
abbrev zw_K_keyInBucket : List Cond := Cond.code y_K_keyInBucket b_K_keyInBucket 6 (some .int) :: zt
abbrev zw_L_cell : List Cond := Cond.code y_L_cell b_L_cell 2 (some .int) :: zt
abbrev zw_M_init : List Cond := Cond.code y_M_init b_M_init 2 none :: zt
abbrev zw_M_put : List Cond := Cond.code y_M_put b_M_put 5 (some .int) :: zt
abbrev zw_M_step : List Cond := Cond.code y_M_step b_M_step 5 (some .int) :: zt
abbrev zw_M_has : List Cond := Cond.code y_M_has b_M_has 2 (some .boolean) :: zt
abbrev zw_M_now : List Cond := Cond.code y_M_now b_M_now 1 none :: zt
abbrev zw_M_replay : List Cond := Cond.code y_M_replay b_M_replay 3 none :: zt
abbrev zw_M_set : List Cond := Cond.code y_M_set b_M_set 7 none :: zt
abbrev zw_M_find : List Cond := Cond.code y_M_find b_M_find 4 (some .int) :: zt
abbrev zw_M_remove : List Cond := Cond.code y_M_remove b_M_remove 4 none :: zt
abbrev zw_M_write : List Cond := Cond.code y_M_write b_M_write 6 none :: zt
abbrev zw_M_stays : List Cond := Cond.code y_M_stays b_M_stays 2 (some .boolean) :: zt
abbrev zw_M_inUse : List Cond := Cond.code y_M_inUse b_M_inUse 6 (some .int) :: zt
abbrev zw_M_greatest : List Cond := Cond.code y_M_greatest b_M_greatest 4 (some .int) :: zt
abbrev zw_M_depthOf : List Cond := Cond.code y_M_depthOf b_M_depthOf 5 (some .int) :: zt
abbrev zw_M_good : List Cond := Cond.code y_M_good b_M_good 8 (some .boolean) :: zt
abbrev zw_M_hash : List Cond := Cond.code y_M_hash b_M_hash 2 (some .int) :: zt
abbrev zw_M_inClass : List Cond := Cond.code y_M_inClass b_M_inClass 4 (some .boolean) :: zt
abbrev zw_M_count : List Cond := Cond.code y_M_count b_M_count 5 (some .int) :: zt
abbrev zw_M_valuePages : List Cond := Cond.code y_M_valuePages b_M_valuePages 4 (some .int) :: zt
abbrev zw_M_bytes : List Cond := Cond.code y_M_bytes b_M_bytes 7 (some .int) :: zt
abbrev zw_M_settle : List Cond := Cond.code y_M_settle b_M_settle 3 none :: zt
abbrev zw_M_delete : List Cond := Cond.code y_M_delete b_M_delete 2 (some .int) :: zt
abbrev zw_M_open : List Cond := Cond.code y_M_open b_M_open 1 (some .boolean) :: zt
abbrev zw_M_commit : List Cond := Cond.code y_M_commit b_M_commit 3 (some .int) :: zt
abbrev zw_M_abandon : List Cond := Cond.code y_M_abandon b_M_abandon 1 (some .int) :: zt
abbrev zw_M_flush : List Cond := Cond.code y_M_flush b_M_flush 2 (some .int) :: zt
abbrev zw_M_crash : List Cond := Cond.code y_M_crash b_M_crash 5 (some .int) :: zt
abbrev zw_M_get : List Cond := Cond.code y_M_get b_M_get 3 (some .long) :: zt
abbrev zw_M_reads : List Cond := Cond.code y_M_reads b_M_reads 10 (some .int) :: zt
abbrev zw_M_bucketOf : List Cond := Cond.code y_M_bucketOf b_M_bucketOf 6 (some .int) :: zt
abbrev zw_M_unflushed : List Cond := Cond.code y_M_unflushed b_M_unflushed 1 (some .int) :: zt
abbrev zw_M_steps : List Cond := Cond.code y_M_steps b_M_steps 1 (some .int) :: zt
abbrev zw_M_size : List Cond := Cond.code y_M_size b_M_size 1 (some .int) :: zt
abbrev zw_M_pages : List Cond := Cond.code y_M_pages b_M_pages 1 (some .int) :: zt
abbrev zw_M_globalDepth : List Cond := Cond.code y_M_globalDepth b_M_globalDepth 1 (some .int) :: zt
abbrev zw_M_localDepth : List Cond := Cond.code y_M_localDepth b_M_localDepth 2 (some .int) :: zt
abbrev zw_M_buckets : List Cond := Cond.code y_M_buckets b_M_buckets 3 (some .int) :: zt
abbrev zw_M_bucketAt : List Cond := Cond.code y_M_bucketAt b_M_bucketAt 4 (some .int) :: zt
abbrev zw_M_keyAt : List Cond := Cond.code y_M_keyAt b_M_keyAt 6 (some .int) :: zt
theorem zt_good {w : Cond} (h : w ∈ zt) : (w.onTables && w.keeps) = true ∨ ∃ ty, w = .arrayClass ty := good_of_word (List.mem_filter.mp h).2
theorem zt_of {w : Cond} (i : Nat) (h : tables_1[i]? = some w) (g : goodWord w = true) : w ∈ zt := List.mem_filter.mpr ⟨List.mem_append_right _ (List.mem_of_getElem? h), g⟩
theorem zt_sel {w : Cond} (i : Nat) (h : (k2_sels lw_privs)[i]? = some w) (g : goodWord w = true) : w ∈ zt := List.mem_filter.mpr ⟨List.mem_append_left _ (List.mem_of_getElem? h), g⟩
theorem zn_of {w : Cond} (i : Nat) (h : tables_1[i]? = some w) (g : zb_n w = true) : w ∈ zn_L := List.mem_filter.mpr ⟨List.mem_of_getElem? h, g⟩
theorem zg_C {z c : Cond} (h5 : c ∈ zt) : GoodIn (z :: zt) (c :: zt) := by
  intro w hw
  have h : w ∈ zt := by
    rcases List.mem_cons.mp hw with rfl | hw
    · exact h5
    · exact hw
  exact ⟨List.mem_cons_of_mem _ h, zt_good h⟩
theorem zg_V {z c : Cond} {own C : String} {idx : Nat} {y : MethodName} (h1 : Cond.methodLink own idx y ∈ zt) (h2 : Cond.instanceMethod y ∈ zt) (h3 : Cond.selects C y y ∈ zt) (h4 : Cond.initialized C ∈ zt) (h5 : c ∈ zt) : GoodIn (z :: zt) (wsV own idx C y (c :: zt)) := by
  intro w hw
  have h : w ∈ zt := by
    rcases List.mem_append.mp hw with hw | hw
    · simp only [List.mem_cons, List.not_mem_nil, or_false] at hw
      rcases hw with rfl | rfl | rfl | rfl <;> assumption
    · rcases List.mem_cons.mp hw with rfl | hw
      · exact h5
      · exact hw
  exact ⟨List.mem_cons_of_mem _ h, zt_good h⟩
theorem zg_S {z c : Cond} {own : String} {idx : Nat} {y : MethodName} (h1 : Cond.methodLink own idx y ∈ zt) (h2 : Cond.static y ∈ zt) (h4 : Cond.initialized own ∈ zt) (h5 : c ∈ zt) : GoodIn (z :: zt) (wsS own idx y (c :: zt)) := by
  intro w hw
  have h : w ∈ zt := by
    rcases List.mem_append.mp hw with hw | hw
    · simp only [List.mem_cons, List.not_mem_nil, or_false] at hw
      rcases hw with rfl | rfl | rfl <;> assumption
    · rcases List.mem_cons.mp hw with rfl | hw
      · exact h5
      · exact hw
  exact ⟨List.mem_cons_of_mem _ h, zt_good h⟩
theorem zj_E : ∀ w ∈ u_ws R_E F_E 4, w ∈ zt := by decide +kernel
theorem zi_E (z : Cond) : ∀ w ∈ u_ws R_E F_E 4, w ∈ z :: zt := fun w h => List.mem_cons_of_mem _ (zj_E w h)
theorem zj_K : ∀ w ∈ u_ws R_K F_K 4, w ∈ zt := by decide +kernel
theorem zi_K (z : Cond) : ∀ w ∈ u_ws R_K F_K 4, w ∈ z :: zt := fun w h => List.mem_cons_of_mem _ (zj_K w h)
theorem zj_C : ∀ w ∈ u_ws R_C F_C 2, w ∈ zt := by decide +kernel
theorem zi_C (z : Cond) : ∀ w ∈ u_ws R_C F_C 2, w ∈ z :: zt := fun w h => List.mem_cons_of_mem _ (zj_C w h)
theorem zj_R : ∀ w ∈ u_ws R_R F_R 5, w ∈ zt := by decide +kernel
theorem zi_R (z : Cond) : ∀ w ∈ u_ws R_R F_R 5, w ∈ z :: zt := fun w h => List.mem_cons_of_mem _ (zj_R w h)
theorem zj_B : ∀ w ∈ u_ws R_B F_B 5, w ∈ zt := by decide +kernel
theorem zi_B (z : Cond) : ∀ w ∈ u_ws R_B F_B 5, w ∈ z :: zt := fun w h => List.mem_cons_of_mem _ (zj_B w h)
theorem zj_M : ∀ w ∈ u_ws R_M F_M 17, w ∈ zt := by decide +kernel
theorem zi_M (z : Cond) : ∀ w ∈ u_ws R_M F_M 17, w ∈ z :: zt := fun w h => List.mem_cons_of_mem _ (zj_M w h)
/-- what is known of the links to private members of nest mates -/
def zN (U : State) : Prop := ∀ w ∈ zn_L, va_Nw w U
theorem zN_warm {s U : State} (hW : s.WarmedH U.vm) (h : zN s) : zN U := by
  intro w hw
  have h1 := h w hw
  have h2 : zb_n w = true := (List.mem_filter.mp hw).2
  cases w <;> first | exact h1.warmF hW | exact h1.warmM hW | cases h2
theorem zN_same {u U : State} (hv : u.vm = U.vm) (h : zN u) : zN U := by
  intro w hw
  have h1 := h w hw
  have h2 : zb_n w = true := (List.mem_filter.mp hw).2
  cases w <;> first | exact va_Nw.same rfl hv h1 | cases h2
theorem zN_of {A : Array Value} {U : State} (h : ∀ w ∈ lw_tbl, w.before A U = true) : zN U := by
  intro w hw
  have h1 := h w (List.mem_append_right _ (List.mem_filter.mp hw).1)
  have h2 : zb_n w = true := (List.mem_filter.mp hw).2
  cases w <;> first | exact va_Nw.of rfl h1 | cases h2
end
section
/-! My own rows over the kit's: numbers, booleans, arrays at natural places, calls. -/
def xb_i (b : Bool) : Int32 := if b then 1 else 0
theorem xb_0 {b : Bool} : xb_i b = 0 ↔ b = false := by cases b <;> decide
theorem xb_1 {b : Bool} : ¬ xb_i b = 0 ↔ b = true := by cases b <;> decide
theorem xb_nar (b : Bool) : narrow .boolean (.int (xb_i b)) = .int (xb_i b) := by cases b <;> rfl
theorem xb_fit (b : Bool) : fits .boolean (.int (xb_i b)) = true := by cases b <;> rfl
theorem xb_vp (b : Bool) : vp_nar .boolean (xb_i b) = xb_i b := by cases b <;> rfl
theorem xb_t : xb_i true = nI 1 := by decide
theorem xb_f : xb_i false = nI 0 := by decide
theorem xn_inc (a : Nat) : nI a + Int32.ofInt 1 = nI (a + 1) := by rw [show Int32.ofInt 1 = 1 from by decide]; exact nI_1 a
theorem xn_dec {a : Nat} (h : 0 < a) : nI a + Int32.ofInt (-1) = nI (a - 1) := by rw [show Int32.ofInt (-1) = -1 from by decide]; exact sb_m1 h
theorem xn_eq0 {n : Nat} (h : n < 2 ^ 31) : nI n = 0 ↔ n = 0 := by rw [← nI_0, nI_eq h (by decide)]
theorem xn_ne0 {n : Nat} (h : n < 2 ^ 31) : nI n = 0 ↔ n = 0 := xn_eq0 h
theorem xn_lt0 {n : Nat} (h : n < 2 ^ 31) : nI n < 0 ↔ n < 0 := by rw [← nI_0, nI_ltI h (by decide)]
theorem xn_ge0 {n : Nat} (h : n < 2 ^ 31) : 0 ≤ nI n ↔ 0 ≤ n := by rw [← nI_0, nI_leI (by decide) h]
theorem xn_gt0 {n : Nat} (h : n < 2 ^ 31) : 0 < nI n ↔ 0 < n := by rw [← nI_0, nI_ltI (by decide) h]
theorem xn_le0 {n : Nat} (h : n < 2 ^ 31) : nI n ≤ 0 ↔ n ≤ 0 := by rw [← nI_0, nI_leI h (by decide)]
theorem xn_max {a b : Nat} (ha : a < 2 ^ 31) (hb : b < 2 ^ 31) : (if nI a < nI b then nI b else nI a) = nI (max a b) := by
  simp only [nI_ltI ha hb]
  split
  · rw [Nat.max_eq_right (by omega)]
  · rw [Nat.max_eq_left (by omega)]
theorem xn_min {a b : Nat} (ha : a < 2 ^ 31) (hb : b < 2 ^ 31) : (if nI b < nI a then nI b else nI a) = nI (min a b) := by
  simp only [nI_ltI hb ha]
  split
  · rw [Nat.min_eq_right (by omega)]
  · rw [Nat.min_eq_left (by omega)]
theorem xa_D {A : Nat → Prop} {ws ws' : va_W} (h : ws'.map Prod.fst = ws.map Prod.fst) (hD : va_D A ws) : va_D A ws' := by
  have key : ∀ (i : Nat) (p : Nat × va_E), ws'[i]? = some p → ∃ p', ws[i]? = some p' ∧ p'.1 = p.1 := by
    intro i p hp
    have h1 : (ws'.map Prod.fst)[i]? = some p.1 := by rw [List.getElem?_map, hp]; rfl
    rw [h, List.getElem?_map] at h1
    cases hq : ws[i]? with
    | none => rw [hq] at h1; cases h1
    | some p' => rw [hq] at h1; exact ⟨p', rfl, Option.some.inj h1⟩
  refine ⟨fun i j p q hp hq e => ?_, fun k q hq => ?_⟩
  · obtain ⟨p', a1, b1⟩ := key i p hp
    obtain ⟨q', a2, b2⟩ := key j q hq
    exact hD.1 i j p' q' a1 a2 (by rw [b1, b2, e])
  · obtain ⟨q', a2, b2⟩ := key k q hq
    rw [← b2]
    exact hD.2 k q' a2
theorem xa_F {A : Nat → Prop} {w : va_W} {H0 H : Heap} {locs : List Loc} (hD : va_D A w) (hS : va_S A H0 H locs) (hA : ∀ q, H0.size ≤ q → A q) : ∀ q, va_A w H.size q → A q := fun q h => by
  rcases h with ⟨k, e, h⟩ | h
  · exact hD.2 k (q, e) h
  · exact hA q (Nat.le_trans hS.1 h)
section XA
variable {p : Program} {l : Launch} {e : Env} {R : Room} {s : State} {m : MethodId} {args : Array Value} {below : List Frame} {meth : Method} {c : Code} {H : Heap} {locs : List Loc} {cells slots : Nat} {Q : State → Prop}
variable {cc : ByteArray} {pc : Nat} {ls : Array Slot} {rest : List Value} {D : va_G} {cl : List vw_C} {A : Nat → Prop} {a : Nat} {tys : List (ClassId × FieldType)} {ws ws' : va_W} {H0 : Heap}
theorem xa_top {x y : Int32} (h : x = y) (k : W p l e R s m args below meth c H locs cells slots Q (F0 m pc ls (.int y :: rest))) : W p l e R s m args below meth c H locs cells slots Q (F0 m pc ls (.int x :: rest)) := by rw [h]; exact k
theorem xa_topl {x y : Int64} (h : x = y) (k : W p l e R s m args below meth c H locs cells slots Q (F0 m pc ls (.long y :: rest))) : W p l e R s m args below meth c H locs cells slots Q (F0 m pc ls (.long x :: rest)) := by rw [h]; exact k
theorem xa_iald (hexec : p.tables.exec = Jvm.exec) (hb : c.code = cc) (hK : va_K D cl tys s) (hP : va_P D cl ws H) (q0 t0 : Nat) {cA : ClassId} {n : Nat} {f : Nat → Int32} (ha : ws[q0]? = some (a, .inl (cA, n, .inl f))) (ht : tys[t0]? = some (cA, .int)) {k : Nat} (hk : k < n) (hn : n < 2 ^ 31) (hdg : decode cc pc = .ok (.iaload, 1))
    (kk : W p l e R s m args below meth c H locs cells slots Q (F0 m (pc + 1) ls (.int (f k) :: rest))) : W p l e R s m args below meth c H locs cells slots Q (F0 m pc ls (.int (nI k) :: .ref a :: rest)) := by
  refine va_iald hexec hb hK hP q0 t0 ha ht (vp_in_nI hk hn) hdg ?_
  rw [nI_clamp (by omega)]
  exact kk
theorem xa_zald (hexec : p.tables.exec = Jvm.exec) (hb : c.code = cc) (hK : va_K D cl tys s) (hP : va_P D cl ws H) (q0 t0 : Nat) {cA : ClassId} {n : Nat} {f : Nat → Int32} (ha : ws[q0]? = some (a, .inl (cA, n, .inl f))) (ht : tys[t0]? = some (cA, .boolean)) {k : Nat} (hk : k < n) (hn : n < 2 ^ 31) (hdg : decode cc pc = .ok (.baload, 1))
    (kk : W p l e R s m args below meth c H locs cells slots Q (F0 m (pc + 1) ls (.int (f k) :: rest))) : W p l e R s m args below meth c H locs cells slots Q (F0 m pc ls (.int (nI k) :: .ref a :: rest)) := by
  refine va_zald hexec hb hK hP q0 t0 ha ht (vp_in_nI hk hn) hdg ?_
  rw [nI_clamp (by omega)]
  exact kk
theorem xa_lald (hexec : p.tables.exec = Jvm.exec) (hb : c.code = cc) (hK : va_K D cl tys s) (hP : va_P D cl ws H) (q0 t0 : Nat) {cA : ClassId} {n : Nat} {f : Nat → Int64} (ha : ws[q0]? = some (a, .inl (cA, n, .inr (.inl f)))) (ht : tys[t0]? = some (cA, .long)) {k : Nat} (hk : k < n) (hn : n < 2 ^ 31) (hdg : decode cc pc = .ok (.laload, 1))
    (kk : W p l e R s m args below meth c H locs cells slots Q (F0 m (pc + 1) ls (.long (f k) :: rest))) : W p l e R s m args below meth c H locs cells slots Q (F0 m pc ls (.int (nI k) :: .ref a :: rest)) := by
  refine va_lald hexec hb hK hP q0 t0 ha ht (vp_in_nI hk hn) hdg ?_
  rw [nI_clamp (by omega)]
  exact kk
theorem xa_iast (hexec : p.tables.exec = Jvm.exec) (hb : c.code = cc) (hK : va_K D cl tys s) (hP : va_P D cl ws H) (hD : va_D A ws) (hS : va_S A H0 H locs) (q0 t0 : Nat) {cA : ClassId} {n : Nat} {f : Nat → Int32} (ha : ws[q0]? = some (a, .inl (cA, n, .inl f))) (ht : tys[t0]? = some (cA, .int)) {k : Nat} {x : Int32} (hk : k < n) (hn : n < 2 ^ 31) (hw : ws.set q0 (a, .inl (cA, n, .inl (upd f k x))) = ws') (hdg : decode cc pc = .ok (.iastore, 1))
    (kk : ∀ (H1 : Heap) (locs1 : List Loc), va_P D cl ws' H1 → va_D A ws' → va_S A H0 H1 locs1 → W p l e R s m args below meth c H1 locs1 cells slots Q (F0 m (pc + 1) ls rest)) : W p l e R s m args below meth c H locs cells slots Q (F0 m pc ls (.int x :: .int (nI k) :: .ref a :: rest)) := by
  refine va_iast hexec hb hK hP hD hS q0 t0 ha ht (vp_in_nI hk hn) hdg (fun H1 locs1 h1 h2 h3 => ?_)
  rw [nI_clamp (by omega), hw] at h1 h2
  exact kk H1 locs1 h1 h2 h3
theorem xa_zast (hexec : p.tables.exec = Jvm.exec) (hb : c.code = cc) (hK : va_K D cl tys s) (hP : va_P D cl ws H) (hD : va_D A ws) (hS : va_S A H0 H locs) (q0 t0 : Nat) {cA : ClassId} {n : Nat} {f : Nat → Int32} (ha : ws[q0]? = some (a, .inl (cA, n, .inl f))) (ht : tys[t0]? = some (cA, .boolean)) {k : Nat} {x : Int32} (hk : k < n) (hn : n < 2 ^ 31) (hx : vp_nar .boolean x = x) (hw : ws.set q0 (a, .inl (cA, n, .inl (upd f k x))) = ws') (hdg : decode cc pc = .ok (.bastore, 1))
    (kk : ∀ (H1 : Heap) (locs1 : List Loc), va_P D cl ws' H1 → va_D A ws' → va_S A H0 H1 locs1 → W p l e R s m args below meth c H1 locs1 cells slots Q (F0 m (pc + 1) ls rest)) : W p l e R s m args below meth c H locs cells slots Q (F0 m pc ls (.int x :: .int (nI k) :: .ref a :: rest)) := by
  refine va_zast hexec hb hK hP hD hS q0 t0 ha ht (vp_in_nI hk hn) hdg (fun H1 locs1 h1 h2 h3 => ?_)
  rw [nI_clamp (by omega), hx, hw] at h1 h2
  exact kk H1 locs1 h1 h2 h3
theorem xa_last (hexec : p.tables.exec = Jvm.exec) (hb : c.code = cc) (hK : va_K D cl tys s) (hP : va_P D cl ws H) (hD : va_D A ws) (hS : va_S A H0 H locs) (q0 t0 : Nat) {cA : ClassId} {n : Nat} {f : Nat → Int64} (ha : ws[q0]? = some (a, .inl (cA, n, .inr (.inl f)))) (ht : tys[t0]? = some (cA, .long)) {k : Nat} {x : Int64} (hk : k < n) (hn : n < 2 ^ 31) (hw : ws.set q0 (a, .inl (cA, n, .inr (.inl (vp_updL f k x)))) = ws') (hdg : decode cc pc = .ok (.lastore, 1))
    (kk : ∀ (H1 : Heap) (locs1 : List Loc), va_P D cl ws' H1 → va_D A ws' → va_S A H0 H1 locs1 → W p l e R s m args below meth c H1 locs1 cells slots Q (F0 m (pc + 1) ls rest)) : W p l e R s m args below meth c H locs cells slots Q (F0 m pc ls (.long x :: .int (nI k) :: .ref a :: rest)) := by
  refine va_last hexec hb hK hP hD hS q0 t0 ha ht (vp_in_nI hk hn) hdg (fun H1 locs1 h1 h2 h3 => ?_)
  rw [nI_clamp (by omega), hw] at h1 h2
  exact kk H1 locs1 h1 h2 h3
theorem xa_put (hexec : p.tables.exec = Jvm.exec) (hb : c.code = cc) {own ref C : String} {T : u_T} {N ci index : Nat} {Ts : List Cond} (hts : ∀ w ∈ Ts, w.before args s = true) (hin : ∀ w ∈ u_ws C T N, w ∈ Ts) (ty0 : Nat → FieldType) (hty : ∀ k, k < N → parseFieldDescriptor (T k).2.2.1 = some (ty0 k)) (hnm : ∀ a, a < N → ∀ b, b < N → a ≠ b → (T a).2.1 ≠ (T b).2.1) (hown : s.vm.findClass own = some m.cls) (hK : va_K D cl tys s) (hP : va_P D cl ws H) (hD : va_D A ws) (hS0 : va_S A H0 H locs) (q0 : Nat) {fs : List Value} (he : ws[q0]? = some (a, .inr (ci, fs))) (hc : cl[ci]? = some (C, T, N)) (k : Nat) (hk : k < N) (hlink : (Cond.fieldLink own index ref (T k).2.1 (T k).2.2.1).before args s = true) (hsame : ∀ x, s.fieldFound? (T k).1 (T k).2.1 (T k).2.2.1 = some x → s.fieldFound? ref (T k).2.1 (T k).2.2.1 = some x) (hfin : (T k).2.2.2 = false) {ty : FieldType} {v : Value} (hd : parseFieldDescriptor (T k).2.2.1 = some ty) (hn : narrow ty v = v) (hfit : fits ty v = true) (hl : k < fs.length) (hw : ws.set q0 (a, .inr (ci, fs.set k v)) = ws')
    (hdg : decode cc pc = .ok (.putfield index, 3)) (kk : ∀ (H1 : Heap) (locs1 : List Loc), va_P D cl ws' H1 → va_D A ws' → va_S A H0 H1 locs1 → W p l e R s m args below meth c H1 locs1 cells slots Q (F0 m (pc + 3) ls rest)) : W p l e R s m args below meth c H locs cells slots Q (F0 m pc ls (v :: .ref a :: rest)) := by
  refine va_put hexec hb hts hin ty0 hty hnm hown hK hP hD hS0 q0 he hc k hk hlink hsame hfin hd hn hfit hl hdg (fun H1 locs1 h1 h2 h3 => ?_)
  rw [hw] at h1 h2
  exact kk H1 locs1 h1 h2 h3
theorem xa_putN (hexec : p.tables.exec = Jvm.exec) (hb : c.code = cc) {own ref C host : String} {T : u_T} {N ci index : Nat} {Ts : List Cond} (hts : ∀ w ∈ Ts, w.before args s = true) (hin : ∀ w ∈ u_ws C T N, w ∈ Ts) (ty0 : Nat → FieldType) (hty : ∀ k, k < N → parseFieldDescriptor (T k).2.2.1 = some (ty0 k)) (hnm : ∀ a, a < N → ∀ b, b < N → a ≠ b → (T a).2.1 ≠ (T b).2.1) (hown : s.vm.findClass own = some m.cls) (hK : va_K D cl tys s) (hP : va_P D cl ws H) (hD : va_D A ws) (hS0 : va_S A H0 H locs) (q0 : Nat) {fs : List Value} (he : ws[q0]? = some (a, .inr (ci, fs))) (hc : cl[ci]? = some (C, T, N)) (k : Nat) (hk : k < N) (hlink : (Cond.fieldLinkNest own index ref (T k).2.1 (T k).2.2.1 host).before args s = true) (hsame : ∀ x, s.fieldFound? (T k).1 (T k).2.1 (T k).2.2.1 = some x → s.fieldFound? ref (T k).2.1 (T k).2.2.1 = some x) (hfin : (T k).2.2.2 = false) {ty : FieldType} {v : Value} (hd : parseFieldDescriptor (T k).2.2.1 = some ty) (hn : narrow ty v = v) (hfit : fits ty v = true) (hl : k < fs.length) (hw : ws.set q0 (a, .inr (ci, fs.set k v)) = ws')
    (hdg : decode cc pc = .ok (.putfield index, 3)) (kk : ∀ (H1 : Heap) (locs1 : List Loc), va_P D cl ws' H1 → va_D A ws' → va_S A H0 H1 locs1 → W p l e R s m args below meth c H1 locs1 cells slots Q (F0 m (pc + 3) ls rest)) : W p l e R s m args below meth c H locs cells slots Q (F0 m pc ls (v :: .ref a :: rest)) := by
  refine va_putN hexec hb hts hin ty0 hty hnm hown hK hP hD hS0 q0 he hc k hk hlink hsame hfin hd hn hfit hl hdg (fun H1 locs1 h1 h2 h3 => ?_)
  rw [hw] at h1 h2
  exact kk H1 locs1 h1 h2 h3
theorem xa_copyi (hexec : p.tables.exec = Jvm.exec) (hb : c.code = cc) (hml : c.maxLocals = ls.size) {own : String} {index : Nat} (hown : s.vm.findClass own = some m.cls) (hlink : (Cond.methodLink own index arraycopyName).before args s = true) (hnat : (Cond.native arraycopyName).before args s = true) (hstat : (Cond.static arraycopyName).before args s = true) (hini : (Cond.initialized "java/lang/System").before args s = true)
    (hK : va_K D cl tys s) (hP : va_P D cl ws H) (hD : va_D A ws) (hS : va_S A H0 H locs) (q0 q1 t0 t1 : Nat) {a0 : Nat} {c0 c1 : ClassId} {n0 n1 : Nat} {f g : Nat → Int32} (ha0 : ws[q0]? = some (a0, .inl (c0, n0, .inl f))) (ha1 : ws[q1]? = some (a, .inl (c1, n1, .inl g))) (ht0 : tys[t0]? = some (c0, .int)) (ht1 : tys[t1]? = some (c1, .int))
    {sp dp n : Nat} (h4 : sp + n ≤ n0) (h5 : dp + n ≤ n1) (hn0 : n0 < 2 ^ 31) (hn1 : n1 < 2 ^ 31)
    (hframes : 1 ≤ R.frames) (hlocals : (rest.map fun v => v.category).sum + (nativeFrameWords "java/lang/System" "arraycopy" 5 + 11) ≤ R.locals) (hw : ws.set q1 (a, .inl (c1, n1, .inl (va_cpy f g sp dp n))) = ws') (hdg : decode cc pc = .ok (.invokestatic index, 3))
    (kk : ∀ (H1 : Heap) (locs1 : List Loc), va_P D cl ws' H1 → va_D A ws' → va_S A H0 H1 locs1 → W p l e R s m args below meth c H1 locs1 cells slots Q (F0 m (pc + 3) ls rest)) : W p l e R s m args below meth c H locs cells slots Q (F0 m pc ls (.int (nI n) :: .int (nI dp) :: .ref a :: .int (nI sp) :: .ref a0 :: rest)) := by
  have e1 := nI_clamp (n := sp) (by omega)
  have e2 := nI_clamp (n := dp) (by omega)
  have e3 := nI_clamp (n := n) (by omega)
  refine va_copyi hexec hb hml hown hlink hnat hstat hini hK hP hD hS q0 q1 t0 t1 ha0 ha1 ht0 ht1 rfl (nI_pos (by omega)) (nI_pos (by omega)) (nI_pos (by omega)) (by rw [e1, e3]; exact h4) (by rw [e2, e3]; exact h5) (fun i _ => rfl) hframes hlocals hdg (fun H1 locs1 h1 h2 h3 => ?_)
  rw [e1, e2, e3, hw] at h1 h2
  exact kk H1 locs1 h1 h2 h3
theorem xa_copyl (hexec : p.tables.exec = Jvm.exec) (hb : c.code = cc) (hml : c.maxLocals = ls.size) {own : String} {index : Nat} (hown : s.vm.findClass own = some m.cls) (hlink : (Cond.methodLink own index arraycopyName).before args s = true) (hnat : (Cond.native arraycopyName).before args s = true) (hstat : (Cond.static arraycopyName).before args s = true) (hini : (Cond.initialized "java/lang/System").before args s = true)
    (hK : va_K D cl tys s) (hP : va_P D cl ws H) (hD : va_D A ws) (hS : va_S A H0 H locs) (q0 q1 t0 t1 : Nat) {a0 : Nat} {c0 c1 : ClassId} {n0 n1 : Nat} {f g : Nat → Int64} (ha0 : ws[q0]? = some (a0, .inl (c0, n0, .inr (.inl f)))) (ha1 : ws[q1]? = some (a, .inl (c1, n1, .inr (.inl g)))) (ht0 : tys[t0]? = some (c0, .long)) (ht1 : tys[t1]? = some (c1, .long))
    {sp dp n : Nat} (h4 : sp + n ≤ n0) (h5 : dp + n ≤ n1) (hn0 : n0 < 2 ^ 31) (hn1 : n1 < 2 ^ 31)
    (hframes : 1 ≤ R.frames) (hlocals : (rest.map fun v => v.category).sum + (nativeFrameWords "java/lang/System" "arraycopy" 5 + 11) ≤ R.locals) (hw : ws.set q1 (a, .inl (c1, n1, .inr (.inl (va_cpy f g sp dp n)))) = ws') (hdg : decode cc pc = .ok (.invokestatic index, 3))
    (kk : ∀ (H1 : Heap) (locs1 : List Loc), va_P D cl ws' H1 → va_D A ws' → va_S A H0 H1 locs1 → W p l e R s m args below meth c H1 locs1 cells slots Q (F0 m (pc + 3) ls rest)) : W p l e R s m args below meth c H locs cells slots Q (F0 m pc ls (.int (nI n) :: .int (nI dp) :: .ref a :: .int (nI sp) :: .ref a0 :: rest)) := by
  have e1 := nI_clamp (n := sp) (by omega)
  have e2 := nI_clamp (n := dp) (by omega)
  have e3 := nI_clamp (n := n) (by omega)
  refine va_copyl hexec hb hml hown hlink hnat hstat hini hK hP hD hS q0 q1 t0 t1 ha0 ha1 ht0 ht1 rfl (nI_pos (by omega)) (nI_pos (by omega)) (nI_pos (by omega)) (by rw [e1, e3]; exact h4) (by rw [e2, e3]; exact h5) (fun i _ => rfl) hframes hlocals hdg (fun H1 locs1 h1 h2 h3 => ?_)
  rw [e1, e2, e3, hw] at h1 h2
  exact kk H1 locs1 h1 h2 h3
variable {st0 : List Value} {av : Array Value}
theorem xa_cI {v : Int32} (hr : va_Run p l e R s m args below meth c H locs cells slots 0 0 (F0 m pc ls st0) rest (vp_Si (fun r : Int32 => r = v) av) (fun _ => False))
    (kk : W p l e R s m args below meth c H locs cells slots Q (F0 m (pc + 3) ls (.int v :: rest))) : W p l e R s m args below meth c H locs cells slots Q (F0 m pc ls st0) := by
  intro T hT X
  obtain ⟨v', st₀, t, T', L, h0, X', hL, e1, e2, ⟨r, hv, hp, hh⟩, st⟩ := hr T hT X
  cases hv
  subst hp
  obtain ⟨t2, a1, b1⟩ := kk T' (by rw [e1, hh, h0]) (Stand.forget X' (fun q h => (hL q h).elim))
  exact ⟨t2, st t2 a1, b1⟩
theorem xa_cJ {v : Int64} (hr : va_Run p l e R s m args below meth c H locs cells slots 0 0 (F0 m pc ls st0) rest (vp_Sl (fun r : Int64 => r = v) av) (fun _ => False))
    (kk : W p l e R s m args below meth c H locs cells slots Q (F0 m (pc + 3) ls (.long v :: rest))) : W p l e R s m args below meth c H locs cells slots Q (F0 m pc ls st0) := by
  intro T hT X
  obtain ⟨v', st₀, t, T', L, h0, X', hL, e1, e2, ⟨r, hv, hp, hh⟩, st⟩ := hr T hT X
  cases hv
  subst hp
  obtain ⟨t2, a1, b1⟩ := kk T' (by rw [e1, hh, h0]) (Stand.forget X' (fun q h => (hL q h).elim))
  exact ⟨t2, st t2 a1, b1⟩
theorem xa_cMV {S : Type} {post : S → Prop} {w : S → va_W} {w0 : va_W} (hr : va_Run p l e R s m args below meth c H locs cells slots 0 0 (F0 m pc ls st0) rest (va_Qv post (fun (u : S) (t : State) => va_P D cl (w u) t.heap) (va_A w0 H.size) av) (va_A w0 H.size)) (hS : va_S A H0 H locs) (hF : ∀ q, va_A w0 H.size q → A q)
    (kk : ∀ (u : S) (H1 : Heap) (locs1 : List Loc), post u → va_P D cl (w u) H1 → va_S A H0 H1 locs1 → W p l e R s m args below meth c H1 locs1 cells slots Q (F0 m (pc + 3) ls rest)) : W p l e R s m args below meth c H locs cells slots Q (F0 m pc ls st0) :=
  va_callv hr hS (fun q _ h => hF q h) hF (fun u t H1 locs1 ht _ hp hB _ _ hS => kk u H1 locs1 hp (by rw [← ht]; exact hB) hS)
theorem xa_cMI {S : Type} {post : Int32 → S → Prop} {w : S → va_W} {w0 : va_W} (hr : va_Run p l e R s m args below meth c H locs cells slots 0 0 (F0 m pc ls st0) rest (va_Qi post (fun (u : S) (t : State) => va_P D cl (w u) t.heap) (va_A w0 H.size) av) (va_A w0 H.size)) (hS : va_S A H0 H locs) (hF : ∀ q, va_A w0 H.size q → A q)
    (kk : ∀ (r : Int32) (u : S) (H1 : Heap) (locs1 : List Loc), post r u → va_P D cl (w u) H1 → va_S A H0 H1 locs1 → W p l e R s m args below meth c H1 locs1 cells slots Q (F0 m (pc + 3) ls (.int r :: rest))) : W p l e R s m args below meth c H locs cells slots Q (F0 m pc ls st0) :=
  va_calli hr hS (fun q _ h => hF q h) hF (fun r u t H1 locs1 ht _ hp hB _ _ hS => kk r u H1 locs1 hp (by rw [← ht]; exact hB) hS)
theorem xa_cMJ {S : Type} {post : Int64 → S → Prop} {w : S → va_W} {w0 : va_W} (hr : va_Run p l e R s m args below meth c H locs cells slots 0 0 (F0 m pc ls st0) rest (va_Ql post (fun (u : S) (t : State) => va_P D cl (w u) t.heap) (va_A w0 H.size) av) (va_A w0 H.size)) (hS : va_S A H0 H locs) (hF : ∀ q, va_A w0 H.size q → A q)
    (kk : ∀ (r : Int64) (u : S) (H1 : Heap) (locs1 : List Loc), post r u → va_P D cl (w u) H1 → va_S A H0 H1 locs1 → W p l e R s m args below meth c H1 locs1 cells slots Q (F0 m (pc + 3) ls (.long r :: rest))) : W p l e R s m args below meth c H locs cells slots Q (F0 m pc ls st0) :=
  va_calll hr hS (fun q _ h => hF q h) hF (fun r u t H1 locs1 ht _ hp hB _ _ hS => kk r u H1 locs1 hp (by rw [← ht]; exact hB) hS)
end XA
/-! a method's start, and its worlds at a call -/
def xp_R (D : va_G) (cl : List vw_C) (tys : List (ClassId × FieldType)) (w : va_W) (U : State) : Prop := va_P D cl w U.heap ∧ va_K D cl tys U ∧ zN U
def xp_Q (D : va_G) (cl : List vw_C) (tys : List (ClassId × FieldType)) (sz : Nat) (w : va_W) (U : State) : Prop := U.heap.size = sz ∧ va_P D cl w U.heap ∧ va_K D cl tys U ∧ va_D (fun _ => True) w ∧ zN U
theorem xp_preS {s : State} {H : Heap} {As : List Value} : PreS s H (va_Pc As (fun _ => True)) As := ⟨fun _ _ _ _ q => q, fun _ _ _ => ⟨rfl, trivial⟩⟩
theorem xp_preV {s : State} {H : Heap} {D : va_G} {cl : List vw_C} {b q0 ci : Nat} {q : vw_C} {C : String} {fs : List Value} {w : va_W} {tys : List (ClassId × FieldType)} {As : List Value} (hK : va_K D cl tys s) (hP : va_P D cl w H) (hc : cl[ci]? = some q) (hC : q.1 = C) (he : w[q0]? = some (b, .inr (ci, fs))) (hZ : zN s) : PreV s H C b (va_Pc (.ref b :: As) (xp_R D cl tys w)) As := by
  refine ⟨fun a U g mk h => ?_, ?_, fun U hU hW => ⟨rfl, by rw [hU]; exact hP, va_K.moved hW.alike hK, zN_warm hW hZ⟩⟩
  · obtain ⟨q0, qP, qK, qZ⟩ := h
    exact ⟨q0, qP, va_K.moved (u := U) (U := U.calling g mk a) (Vm.Alike.refl U.vm) qK, zN_same (u := U) (U := U.calling g mk a) rfl qZ⟩
  · have := va_recv hK hP hc he
    rw [hC] at this
    exact this
theorem xp_preVQ {s : State} {H : Heap} {D : va_G} {cl : List vw_C} {b q0 ci : Nat} {q : vw_C} {C : String} {fs : List Value} {A : Nat → Prop} {w : va_W} {tys : List (ClassId × FieldType)} {As : List Value} (hK : va_K D cl tys s) (hP : va_P D cl w H) (hD : va_D A w) (hc : cl[ci]? = some q) (hC : q.1 = C) (he : w[q0]? = some (b, .inr (ci, fs))) (hZ : zN s) : PreV s H C b (va_Pc (.ref b :: As) (xp_Q D cl tys H.size w)) As := by
  refine ⟨fun a U g mk h => ?_, ?_, fun U hU hW => ⟨rfl, by rw [hU], by rw [hU]; exact hP, va_K.moved hW.alike hK, hD.weaken (fun _ _ _ _ => trivial), zN_warm hW hZ⟩⟩
  · obtain ⟨q0, q1, qP, qK, qD, qZ⟩ := h
    exact ⟨q0, q1, qP, va_K.moved (u := U) (U := U.calling g mk a) (Vm.Alike.refl U.vm) qK, qD, zN_same (u := U) (U := U.calling g mk a) rfl qZ⟩
  · have := va_recv hK hP hc he
    rw [hC] at this
    exact this
/-! the two worlds -/
def xw_C (q : Nat → Nat) (cA : Nat → ClassId) (lim : Int32) (kf : Nat → Int32) (kg : Nat → Int64) (kn : Int32) (af : Nat → Int32) (bf : Nat → Int32) (rk : Nat → Int32) (rv : Nat → Int64) (rm : Nat → Int32) (rs : Nat → Int32) (rn : Int32) (bp : Nat → Int32) (bk : Nat → Int32) (bv : Nat → Int64) (bo : Int32) (bn : Int32) : va_W := [(q 0, .inr (0, [.int lim, .ref (q 1), .ref (q 3), .ref (q 4)])), (q 1, .inr (1, [.ref (q 5), .ref (q 6), .ref (q 2), .int kn])), (q 2, .inr (2, [.ref (q 7), .ref (q 8)])), (q 3, .inr (3, [.ref (q 9), .ref (q 10), .ref (q 11), .ref (q 12), .int rn])), (q 4, .inr (4, [.ref (q 13), .ref (q 14), .ref (q 15), .int bo, .int bn])), (q 5, .inl (cA 5, 65, .inl kf)), (q 6, .inl (cA 6, 65, .inr (.inl kg))), (q 7, .inl (cA 7, 128, .inl af)), (q 8, .inl (cA 8, 128, .inl bf)), (q 9, .inl (cA 9, 70, .inl rk)), (q 10, .inl (cA 10, 70, .inr (.inl rv))), (q 11, .inl (cA 11, 70, .inl rm)), (q 12, .inl (cA 12, 70, .inl rs)), (q 13, .inl (cA 13, 5, .inl bp)), (q 14, .inl (cA 14, 5, .inl bk)), (q 15, .inl (cA 15, 5, .inr (.inl bv)))]
def xw_tC (cA : Nat → ClassId) : List (ClassId × FieldType) := [(cA 5, .int), (cA 6, .long), (cA 7, .int), (cA 8, .int), (cA 9, .int), (cA 10, .long), (cA 11, .int), (cA 12, .int), (cA 13, .boolean), (cA 14, .int), (cA 15, .long)]
def xw_M (q : Nat → Nat) (cA : Nat → ClassId) (lim : Int32) (bs : Int32) (bk : Nat → Int32) (bv : Nat → Int64) (rn : Int32) (wh : Nat → Int32) (rk : Nat → Int32) (rv : Nat → Int64) (bg : Nat → Int32) (bt : Int32) (sc : Int32) (sw : Nat → Int32) (sk : Nat → Int32) (sv : Nat → Int64) (kp : Int32) (ky : Nat → Int32) (vl : Nat → Int64) : va_W := [(q 0, .inr (5, [.int lim, .int bs, .ref (q 1), .ref (q 2), .int rn, .ref (q 3), .ref (q 4), .ref (q 5), .ref (q 6), .int bt, .int sc, .ref (q 7), .ref (q 8), .ref (q 9), .int kp, .ref (q 10), .ref (q 11)])), (q 1, .inl (cA 1, 60, .inl bk)), (q 2, .inl (cA 2, 60, .inr (.inl bv))), (q 3, .inl (cA 3, 70, .inl wh)), (q 4, .inl (cA 4, 70, .inl rk)), (q 5, .inl (cA 5, 70, .inr (.inl rv))), (q 6, .inl (cA 6, 70, .inl bg)), (q 7, .inl (cA 7, 5, .inl sw)), (q 8, .inl (cA 8, 5, .inl sk)), (q 9, .inl (cA 9, 5, .inr (.inl sv))), (q 10, .inl (cA 10, 66, .inl ky)), (q 11, .inl (cA 11, 66, .inr (.inl vl)))]
def xw_tM (cA : Nat → ClassId) : List (ClassId × FieldType) := [(cA 1, .int), (cA 2, .long), (cA 3, .int), (cA 4, .int), (cA 5, .long), (cA 6, .int), (cA 7, .int), (cA 8, .int), (cA 9, .long), (cA 10, .int), (cA 11, .long)]
end
section
/-! Pure: the keys with their values, ascending, as a list; what set and remove do to it. -/
abbrev xk_E : Type := Int32 × Int64
def xk_u (k n : Int32) : Int32 := (k.toUInt32 >>> (n.toUInt32 &&& Int32.toUInt32 31)).toInt32
def xk_x (k : Int32) : Int32 := ((((k ^^^ xk_u k (nI 6)) ^^^ xk_u k (nI 12)) ^^^ xk_u k (nI 18)) ^^^ xk_u k (nI 24)) ^^^ xk_u k (nI 30)
def xk_h (k : Int32) : Nat := (xk_x k).toBitVec.toNat % 64
theorem xk_h_lt (k : Int32) : xk_h k < 64 := Nat.mod_lt _ (by decide)
theorem xk_h_eq (k : Int32) : xk_x k &&& nI 63 = nI (xk_h k) := pk_and (xk_x k) 6 (by decide +kernel)
def xk_lo : List xk_E → Int32 → Nat
  | [], _ => 0
  | e :: t, k => if e.1 < k then xk_lo t k + 1 else 0
def xk_has : List xk_E → Int32 → Bool
  | [], _ => false
  | e :: t, k => if e.1 < k then xk_has t k else e.1 == k
def xk_get : List xk_E → Int32 → Int64
  | [], _ => 0
  | e :: t, k => if e.1 < k then xk_get t k else if e.1 = k then e.2 else 0
def xk_set : List xk_E → Int32 → Int64 → List xk_E
  | [], k, v => [(k, v)]
  | e :: t, k, v => if e.1 < k then e :: xk_set t k v else if e.1 = k then (k, v) :: t else (k, v) :: e :: t
def xk_rem : List xk_E → Int32 → List xk_E
  | [], _ => []
  | e :: t, k => if e.1 < k then e :: xk_rem t k else if e.1 = k then t else e :: t
def xk_asc (K : List xk_E) : Prop := K.Pairwise (fun a b => a.1 < b.1)
theorem xk_irr (k : Int32) : ¬ k < k := by rw [Int32.lt_iff_toInt_lt]; omega
theorem xk_tr {a b c : Int32} (h : a < b) (g : b < c) : a < c := by rw [Int32.lt_iff_toInt_lt] at *; omega
theorem xk_tri {a b : Int32} (h : ¬ a < b) (g : ¬ a = b) : b < a := by
  rw [Int32.lt_iff_toInt_lt] at *
  have : a.toInt ≠ b.toInt := fun q => g (Int32.toInt_inj.mp q)
  omega
theorem xk_nlt {a b : Int32} (h : a < b) : ¬ b < a := by rw [Int32.lt_iff_toInt_lt] at *; omega
theorem xk_lo_le (K : List xk_E) (k : Int32) : xk_lo K k ≤ K.length := by
  induction K with
  | nil => simp [xk_lo]
  | cons e t ih => simp only [xk_lo, List.length_cons]; split <;> omega
theorem xk_lo_lt {K : List xk_E} {k : Int32} {j : Nat} {e : xk_E} (h : j < xk_lo K k) (he : K[j]? = some e) : e.1 < k := by
  induction K generalizing j with
  | nil => simp at he
  | cons a t ih =>
    simp only [xk_lo] at h
    split at h
    · cases j with
      | zero => simp at he; subst he; assumption
      | succ j => exact ih (j := j) (by omega) (by simpa using he)
    · omega
theorem xk_lo_ge {K : List xk_E} {k : Int32} {e : xk_E} (he : K[xk_lo K k]? = some e) : ¬ e.1 < k := by
  induction K with
  | nil => simp at he
  | cons a t ih =>
    simp only [xk_lo] at he
    split at he
    · exact ih (by simpa using he)
    · simp at he; subst he; assumption
theorem xk_lo_eq {K : List xk_E} {k : Int32} {b : Nat} (hb : b ≤ K.length) (h1 : ∀ (j : Nat) (e : xk_E), j < b → K[j]? = some e → e.1 < k) (h2 : ∀ e : xk_E, K[b]? = some e → ¬ e.1 < k) : b = xk_lo K k := by
  induction K generalizing b with
  | nil => simp at hb; simp [xk_lo, hb]
  | cons a t ih =>
    cases b with
    | zero =>
      have := h2 a (by simp)
      simp [xk_lo, this]
    | succ b =>
      have ha := h1 0 a (by omega) (by simp)
      simp only [xk_lo, ha, if_true]
      have := ih (b := b) (by simpa using hb) (fun j e hj he => h1 (j + 1) e (by omega) (by simpa using he)) (fun e he => h2 e (by simpa using he))
      omega
theorem xk_has_iff (K : List xk_E) (k : Int32) : xk_has K k = true ↔ ∃ e, K[xk_lo K k]? = some e ∧ e.1 = k := by
  induction K with
  | nil => simp [xk_has]
  | cons a t ih =>
    simp only [xk_has, xk_lo]
    split
    · simpa using ih
    · simp
theorem xk_has_at {K : List xk_E} {k : Int32} (h : xk_has K k = true) : K[xk_lo K k]? = some (k, xk_get K k) := by
  induction K with
  | nil => simp [xk_has] at h
  | cons a t ih =>
    simp only [xk_has, xk_lo, xk_get] at *
    split
    · rename_i q
      simp only [q, if_true] at h
      simpa using ih h
    · rename_i q
      simp only [q, if_false] at h
      have : a.1 = k := by simpa using h
      subst this
      simp
theorem xk_has_lt {K : List xk_E} {k : Int32} (h : xk_has K k = true) : xk_lo K k < K.length := by
  have := xk_has_at h
  exact (List.getElem?_eq_some_iff.mp this).1
theorem xk_get_0 {K : List xk_E} {k : Int32} (h : xk_has K k = false) : xk_get K k = 0 := by
  induction K with
  | nil => simp [xk_get]
  | cons a t ih =>
    simp only [xk_has, xk_get] at *
    split
    · rename_i q
      simp only [q, if_true] at h
      exact ih h
    · rename_i q
      simp only [q, if_false] at h
      have : ¬ a.1 = k := by simpa using h
      simp [this]
theorem xk_set_len (K : List xk_E) (k : Int32) (v : Int64) : (xk_set K k v).length = if xk_has K k then K.length else K.length + 1 := by
  induction K with
  | nil => simp [xk_set, xk_has]
  | cons a t ih =>
    simp only [xk_set, xk_has]
    by_cases q : a.1 < k
    · simp only [q, if_true, List.length_cons, ih]; split <;> rfl
    · by_cases r : a.1 = k
      · subst r; simp [q]
      · simp [q, r]
theorem xk_rem_len (K : List xk_E) (k : Int32) : (xk_rem K k).length = if xk_has K k then K.length - 1 else K.length := by
  induction K with
  | nil => simp [xk_rem, xk_has]
  | cons a t ih =>
    simp only [xk_rem, xk_has]
    by_cases q : a.1 < k
    · simp only [q, if_true, List.length_cons, ih]
      by_cases w : xk_has t k = true
      · have := xk_has_lt w
        simp only [w, if_true]; omega
      · simp [w]
    · by_cases r : a.1 = k
      · subst r; simp [q]
      · simp [q, r]
theorem xk_set_at (K : List xk_E) (k : Int32) (v : Int64) (i : Nat) : (xk_set K k v)[i]? = if i < xk_lo K k then K[i]? else if i = xk_lo K k then some (k, v) else if xk_has K k then K[i]? else K[i - 1]? := by
  induction K generalizing i with
  | nil => cases i <;> simp [xk_set, xk_has, xk_lo]
  | cons a t ih =>
    simp only [xk_set, xk_has, xk_lo]
    by_cases q : a.1 < k
    · simp only [q, if_true]
      cases i with
      | zero => simp
      | succ i =>
        simp only [List.getElem?_cons_succ, ih, Nat.add_lt_add_iff_right, Nat.add_right_cancel_iff, Nat.add_sub_cancel]
        split
        · rfl
        · split
          · rfl
          · split
            · rfl
            · have : 0 < i := by omega
              obtain ⟨j, rfl⟩ : ∃ j, i = j + 1 := ⟨i - 1, by omega⟩
              simp
    · by_cases r : a.1 = k
      · subst r
        cases i <;> simp [q]
      · cases i with
        | zero => simp [q, r]
        | succ i => simp [q, r]
theorem xk_rem_at (K : List xk_E) (k : Int32) (i : Nat) : (xk_rem K k)[i]? = if i < xk_lo K k ∨ xk_has K k = false then K[i]? else K[i + 1]? := by
  induction K generalizing i with
  | nil => simp [xk_rem]
  | cons a t ih =>
    simp only [xk_rem, xk_has, xk_lo]
    by_cases q : a.1 < k
    · simp only [q, if_true]
      cases i with
      | zero => simp
      | succ i => simp only [List.getElem?_cons_succ, ih, Nat.add_lt_add_iff_right]
    · by_cases r : a.1 = k
      · subst r
        simp [q]
      · simp [q, r]
theorem xk_set_mem {K : List xk_E} {k : Int32} {v : Int64} {e : xk_E} (h : e ∈ xk_set K k v) : e = (k, v) ∨ e ∈ K := by
  induction K with
  | nil => simp only [xk_set, List.mem_singleton] at h; exact Or.inl h
  | cons a t ih =>
    simp only [xk_set] at h
    split at h
    · rcases List.mem_cons.mp h with h | h
      · exact Or.inr (by simp [h])
      · rcases ih h with h | h
        · exact Or.inl h
        · exact Or.inr (List.mem_cons_of_mem _ h)
    · split at h
      · rcases List.mem_cons.mp h with h | h
        · exact Or.inl h
        · exact Or.inr (List.mem_cons_of_mem _ h)
      · rcases List.mem_cons.mp h with h | h
        · exact Or.inl h
        · exact Or.inr h
theorem xk_rem_mem {K : List xk_E} {k : Int32} {e : xk_E} (h : e ∈ xk_rem K k) : e ∈ K := by
  induction K with
  | nil => simp [xk_rem] at h
  | cons a t ih =>
    simp only [xk_rem] at h
    split at h
    · rcases List.mem_cons.mp h with h | h
      · simp [h]
      · exact List.mem_cons_of_mem _ (ih h)
    · split at h
      · exact List.mem_cons_of_mem _ h
      · exact h
theorem xk_asc_set {K : List xk_E} (h : xk_asc K) (k : Int32) (v : Int64) : xk_asc (xk_set K k v) := by
  unfold xk_asc at *
  induction K with
  | nil => simp [xk_set]
  | cons a t ih =>
    have h2 := List.pairwise_cons.mp h
    simp only [xk_set]
    split
    · rename_i q
      refine List.pairwise_cons.mpr ⟨fun e he => ?_, ih h2.2⟩
      rcases xk_set_mem he with rfl | he
      · exact q
      · exact h2.1 e he
    · rename_i q
      split
      · rename_i r
        exact List.pairwise_cons.mpr ⟨fun e he => by rw [← r]; exact h2.1 e he, h2.2⟩
      · rename_i r
        have z := xk_tri q r
        refine List.pairwise_cons.mpr ⟨fun e he => ?_, h⟩
        rcases List.mem_cons.mp he with rfl | he
        · exact z
        · exact xk_tr z (h2.1 e he)
theorem xk_asc_rem {K : List xk_E} (h : xk_asc K) (k : Int32) : xk_asc (xk_rem K k) := by
  unfold xk_asc at *
  induction K with
  | nil => simp [xk_rem]
  | cons a t ih =>
    have h2 := List.pairwise_cons.mp h
    simp only [xk_rem]
    split
    · exact List.pairwise_cons.mpr ⟨fun e he => h2.1 e (xk_rem_mem he), ih h2.2⟩
    · split
      · exact h2.2
      · exact h
theorem xk_un_ss {K : List xk_E} {k : Int32} (v : Int64) (h : xk_has K k = true) : xk_set (xk_set K k v) k (xk_get K k) = K := by
  induction K with
  | nil => simp [xk_has] at h
  | cons a t ih =>
    simp only [xk_has] at h
    simp only [xk_set, xk_get]
    by_cases q : a.1 < k
    · simp only [q, if_true] at h ⊢
      simp only [xk_set, q, if_true, ih h]
    · simp only [q, if_false] at h ⊢
      have r : a.1 = k := by simpa using h
      simp [r, xk_set, xk_irr]
      rw [← r]
theorem xk_un_rs {K : List xk_E} {k : Int32} (v : Int64) (h : xk_has K k = false) : xk_rem (xk_set K k v) k = K := by
  induction K with
  | nil => simp [xk_set, xk_rem, xk_irr]
  | cons a t ih =>
    simp only [xk_has] at h
    simp only [xk_set]
    by_cases q : a.1 < k
    · simp only [q, if_true] at h ⊢
      simp only [xk_rem, q, if_true, ih h]
    · simp only [q, if_false] at h ⊢
      have r : ¬ a.1 = k := by simpa using h
      simp [r, xk_rem, xk_irr]
theorem xk_rem_no {K : List xk_E} {k : Int32} (h : xk_has K k = false) : xk_rem K k = K := by
  induction K with
  | nil => simp [xk_rem]
  | cons a t ih =>
    simp only [xk_has] at h
    simp only [xk_rem]
    by_cases q : a.1 < k
    · simp only [q, if_true] at h ⊢
      rw [ih h]
    · simp only [q, if_false] at h ⊢
      have r : ¬ a.1 = k := by simpa using h
      simp [r]
theorem xk_un_sr {K : List xk_E} (hA : xk_asc K) {k : Int32} (h : xk_has K k = true) : xk_set (xk_rem K k) k (xk_get K k) = K := by
  unfold xk_asc at hA
  induction K with
  | nil => simp [xk_has] at h
  | cons a t ih =>
    have h2 := List.pairwise_cons.mp hA
    simp only [xk_has] at h
    simp only [xk_rem, xk_get]
    by_cases q : a.1 < k
    · simp only [q, if_true] at h ⊢
      simp only [xk_set, q, if_true, ih h2.2 h]
    · simp only [q, if_false] at h ⊢
      have r : a.1 = k := by simpa using h
      simp only [r, if_true]
      have e1 : (k, a.2) = a := by rw [← r]
      cases t with
      | nil => simp [xk_set, e1]
      | cons b u =>
        have hb := h2.1 b (by simp)
        rw [r] at hb
        have n1 : ¬ b.1 < k := xk_nlt hb
        have n2 : ¬ b.1 = k := fun z => by rw [z] at hb; exact xk_irr _ hb
        simp [xk_set, n1, n2, e1]
/-- in an ascending list: which places lie below a key, and which one holds it -/
theorem xk_asc_lt {K : List xk_E} (hA : xk_asc K) {i j : Nat} {a b : xk_E} (h : i < j) (ha : K[i]? = some a) (hb : K[j]? = some b) : a.1 < b.1 := by
  obtain ⟨hi, rfl⟩ := List.getElem?_eq_some_iff.mp ha
  obtain ⟨hj, rfl⟩ := List.getElem?_eq_some_iff.mp hb
  exact (List.pairwise_iff_getElem.mp hA) i j hi hj h
theorem xk_below {K : List xk_E} (hA : xk_asc K) {k : Int32} {i : Nat} {e : xk_E} (he : K[i]? = some e) : e.1 < k ↔ i < xk_lo K k := by
  constructor
  · intro h
    refine Classical.byContradiction fun q => ?_
    have hl : xk_lo K k ≤ i := by omega
    have hi := (List.getElem?_eq_some_iff.mp he).1
    have hlt : xk_lo K k < K.length := by omega
    obtain ⟨e0, ho⟩ : ∃ e0, K[xk_lo K k]? = some e0 := ⟨_, List.getElem?_eq_getElem hlt⟩
    have hn := xk_lo_ge ho
    by_cases z : xk_lo K k = i
    · rw [z, he] at ho
      cases ho
      exact hn h
    · exact hn (xk_tr (xk_asc_lt hA (by omega) ho he) h)
  · intro h
    exact xk_lo_lt h he
theorem xk_there {K : List xk_E} (hA : xk_asc K) {k : Int32} {i : Nat} {e : xk_E} (he : K[i]? = some e) : e.1 = k ↔ i = xk_lo K k ∧ xk_has K k = true := by
  constructor
  · intro h
    have n1 : ¬ i < xk_lo K k := fun q => by
      have := xk_lo_lt q he
      rw [h] at this
      exact xk_irr _ this
    have n2 : ¬ xk_lo K k < i := fun q => by
      have hi := (List.getElem?_eq_some_iff.mp he).1
      obtain ⟨e0, ho⟩ : ∃ e0, K[xk_lo K k]? = some e0 := ⟨_, List.getElem?_eq_getElem (by omega)⟩
      have h3 := xk_asc_lt hA q ho he
      rw [h] at h3
      exact xk_lo_ge ho h3
    have n3 : i = xk_lo K k := by omega
    exact ⟨n3, (xk_has_iff K k).mpr ⟨e, by rw [← n3]; exact he, h⟩⟩
  · rintro ⟨h1, h2⟩
    have := xk_has_at h2
    rw [← h1, he] at this
    cases this
    rfl
/-- arrays hold a list -/
def xk_tie (f : Nat → Int32) (g : Nat → Int64) (K : List xk_E) : Prop := ∀ i : Nat, i < K.length → K[i]? = some (f i, g i)
theorem xk_tie_put {f : Nat → Int32} {g : Nat → Int64} {K : List xk_E} (h : xk_tie f g K) {k : Int32} (v : Int64) (hk : xk_has K k = true) : xk_tie f (vp_updL g (xk_lo K k) v) (xk_set K k v) := by
  intro i hi
  rw [xk_set_len, if_pos hk] at hi
  rw [xk_set_at]
  have ho := h (xk_lo K k) (xk_has_lt hk)
  rw [xk_has_at hk] at ho
  by_cases q : i < xk_lo K k
  · rw [if_pos q, h i hi, pk_uLn (by omega)]
  · rw [if_neg q]
    by_cases r : i = xk_lo K k
    · subst r
      rw [if_pos rfl, pk_uLs]
      have e1 : k = f (xk_lo K k) := by simpa using congrArg Prod.fst (Option.some.inj ho)
      rw [← e1]
    · rw [if_neg r, if_pos hk, h i hi, pk_uLn r]
/-- the arrays with a place opened at b -/
def xk_ins {α : Type} (f : Nat → α) (b : Nat) (x : α) : Nat → α := fun j => if j < b then f j else if j = b then x else f (j - 1)
def xk_del {α : Type} (f : Nat → α) (b : Nat) : Nat → α := fun j => if j < b then f j else f (j + 1)
theorem xk_tie_ins {f f' : Nat → Int32} {g g' : Nat → Int64} {K : List xk_E} (h : xk_tie f g K) {k : Int32} {v : Int64} (hk : xk_has K k = false) (hf : ∀ j, j < K.length + 1 → f' j = xk_ins f (xk_lo K k) k j) (hg : ∀ j, j < K.length + 1 → g' j = xk_ins g (xk_lo K k) v j) : xk_tie f' g' (xk_set K k v) := by
  intro i hi
  rw [xk_set_len, hk] at hi
  have hi : i < K.length + 1 := hi
  rw [xk_set_at, hf i hi, hg i hi]
  have hl := xk_lo_le K k
  unfold xk_ins
  by_cases q : i < xk_lo K k
  · rw [if_pos q, if_pos q, if_pos q, h i (by omega)]
  · rw [if_neg q, if_neg q, if_neg q]
    by_cases r : i = xk_lo K k
    · rw [if_pos r, if_pos r, if_pos r]
    · rw [if_neg r, if_neg r, if_neg r, hk]
      exact h (i - 1) (by omega)
theorem xk_tie_del {f f' : Nat → Int32} {g g' : Nat → Int64} {K : List xk_E} (h : xk_tie f g K) {k : Int32} (hk : xk_has K k = true) (hf : ∀ j, j + 1 < K.length → f' j = xk_del f (xk_lo K k) j) (hg : ∀ j, j + 1 < K.length → g' j = xk_del g (xk_lo K k) j) : xk_tie f' g' (xk_rem K k) := by
  intro i hi
  rw [xk_rem_len, if_pos hk] at hi
  rw [xk_rem_at, hf i (by omega), hg i (by omega)]
  unfold xk_del
  by_cases q : i < xk_lo K k
  · rw [if_pos (Or.inl q), if_pos q, if_pos q]
    exact h i (by omega)
  · rw [if_neg, if_neg q, if_neg q]
    · exact h (i + 1) (by omega)
    · rintro (z | z)
      · exact q z
      · rw [hk] at z; cases z
theorem xk_tie_f {f : Nat → Int32} {g : Nat → Int64} {K : List xk_E} (h : xk_tie f g K) {i : Nat} {e : xk_E} (he : K[i]? = some e) : f i = e.1 ∧ g i = e.2 := by
  have hi := (List.getElem?_eq_some_iff.mp he).1
  have := h i hi
  rw [he] at this
  cases this
  exact ⟨rfl, rfl⟩
end
section
/-! Pure: classes of hashes, good ones, depths, places. -/
def xd_in (d p : Nat) (e : xk_E) : Bool := xk_h e.1 % 2 ^ d == p
def xd_cn (K : List xk_E) (d p : Nat) : Nat := K.countP (xd_in d p)
def xd_sm (K : List xk_E) (d p : Nat) : Bool := K.all fun a => K.all fun b => !(xd_in d p a && xd_in d p b) || xk_h a.1 == xk_h b.1
def xd_gd (K : List xk_E) (d p : Nat) : Bool := decide (xd_cn K d p ≤ 4) || xd_sm K d p
def xd_dR (K : List xk_E) (h : Nat) : Nat → Nat → Nat
  | d, 0 => d
  | d, n + 1 => if xd_gd K d (h % 2 ^ d) then d else xd_dR K h (d + 1) n
def xd_dp (K : List xk_E) (h : Nat) : Nat := xd_dR K h 0 6
def xd_pl (K : List xk_E) (p : Nat) : Bool := decide (p < 2 ^ xd_dp K p)
theorem xd_in_iff {d p : Nat} {e : xk_E} : xd_in d p e = true ↔ xk_h e.1 % 2 ^ d = p := by simp [xd_in]
theorem xd_mod {a b i j : Nat} (h : i ≤ j) (e : a % 2 ^ j = b % 2 ^ j) : a % 2 ^ i = b % 2 ^ i := by
  have hd : 2 ^ i ∣ 2 ^ j := Nat.pow_dvd_pow 2 h
  rw [← Nat.mod_mod_of_dvd a hd, ← Nat.mod_mod_of_dvd b hd, e]
theorem xd_in_up {d h : Nat} {e : xk_E} (i : xd_in (d + 1) (h % 2 ^ (d + 1)) e = true) : xd_in d (h % 2 ^ d) e = true := by
  rw [xd_in_iff] at *
  exact xd_mod (Nat.le_succ d) i
theorem xd_sm_iff {K : List xk_E} {d p : Nat} : xd_sm K d p = true ↔ ∀ a ∈ K, ∀ b ∈ K, xd_in d p a = true → xd_in d p b = true → xk_h a.1 = xk_h b.1 := by
  simp only [xd_sm, List.all_eq_true, Bool.or_eq_true, Bool.not_eq_true', beq_iff_eq]
  constructor
  · intro h a ha b hb i j
    rcases h a ha b hb with q | q
    · rw [i, j] at q; cases q
    · exact q
  · intro h a ha b hb
    cases i : xd_in d p a
    · exact Or.inl rfl
    · cases j : xd_in d p b
      · exact Or.inl rfl
      · exact Or.inr (h a ha b hb i j)
theorem xd_gd_mono {K : List xk_E} {d h : Nat} (g : xd_gd K d (h % 2 ^ d) = true) : xd_gd K (d + 1) (h % 2 ^ (d + 1)) = true := by
  simp only [xd_gd, Bool.or_eq_true, decide_eq_true_eq] at *
  rcases g with g | g
  · exact Or.inl (Nat.le_trans (List.countP_mono_left (fun e _ i => xd_in_up i)) g)
  · rw [xd_sm_iff] at *
    exact Or.inr fun a ha b hb i j => g a ha b hb (xd_in_up i) (xd_in_up j)
theorem xd_gd_6 (K : List xk_E) (p : Nat) : xd_gd K 6 p = true := by
  simp only [xd_gd, Bool.or_eq_true]
  refine Or.inr (xd_sm_iff.mpr fun a _ b _ i j => ?_)
  rw [xd_in_iff] at i j
  have h1 := xk_h_lt a.1
  have h2 := xk_h_lt b.1
  have e1 : (2 : Nat) ^ 6 = 64 := rfl
  rw [e1] at i j
  omega
theorem xd_dR_spec (K : List xk_E) (h : Nat) : ∀ n d : Nat, d ≤ xd_dR K h d n ∧ xd_dR K h d n ≤ d + n ∧ (∀ j, d ≤ j → j < xd_dR K h d n → xd_gd K j (h % 2 ^ j) = false) ∧ (xd_dR K h d n < d + n → xd_gd K (xd_dR K h d n) (h % 2 ^ xd_dR K h d n) = true) := by
  intro n
  induction n with
  | zero => intro d; simp only [xd_dR]; exact ⟨Nat.le_refl _, Nat.le_refl _, fun j a b => by omega, fun a => by omega⟩
  | succ n ih =>
    intro d
    simp only [xd_dR]
    by_cases g : xd_gd K d (h % 2 ^ d) = true
    · simp only [g, if_true]
      exact ⟨Nat.le_refl _, by omega, fun j a b => by omega, fun _ => trivial⟩
    · simp only [g]
      obtain ⟨a, b, c, e⟩ := ih (d + 1)
      refine ⟨by simp only [Bool.false_eq_true, if_false]; omega, by simp only [Bool.false_eq_true, if_false]; omega, ?_, ?_⟩
      · simp only [Bool.false_eq_true, if_false]
        intro j h1 h2
        by_cases z : j = d
        · subst z; simpa using g
        · exact c j (by omega) h2
      · simp only [Bool.false_eq_true, if_false]
        intro q
        exact e (by omega)
theorem xd_dp_le (K : List xk_E) (h : Nat) : xd_dp K h ≤ 6 := by
  have := (xd_dR_spec K h 6 0).2.1
  unfold xd_dp; omega
theorem xd_dp_min {K : List xk_E} {h j : Nat} (g : j < xd_dp K h) : xd_gd K j (h % 2 ^ j) = false := (xd_dR_spec K h 6 0).2.2.1 j (Nat.zero_le _) g
theorem xd_dp_gd (K : List xk_E) (h : Nat) : xd_gd K (xd_dp K h) (h % 2 ^ xd_dp K h) = true := by
  have a := (xd_dR_spec K h 6 0).2.2.2
  by_cases q : xd_dp K h < 6
  · exact a (by unfold xd_dp at q; omega)
  · have e : xd_dp K h = 6 := by have := xd_dp_le K h; omega
    rw [e]; exact xd_gd_6 K _
theorem xd_gd_up {K : List xk_E} {h d : Nat} (g : xd_gd K d (h % 2 ^ d) = true) : ∀ n, xd_gd K (d + n) (h % 2 ^ (d + n)) = true := by
  intro n
  induction n with
  | zero => exact g
  | succ n ih => exact xd_gd_mono ih
theorem xd_dp_up {K : List xk_E} {h j : Nat} (g : xd_dp K h ≤ j) : xd_gd K j (h % 2 ^ j) = true := by
  have := xd_gd_up (xd_dp_gd K h) (j - xd_dp K h)
  rwa [show xd_dp K h + (j - xd_dp K h) = j from by omega] at this
theorem xd_dp_uniq {K : List xk_E} {h d : Nat} (g : xd_gd K d (h % 2 ^ d) = true) (b : d = 0 ∨ xd_gd K (d - 1) (h % 2 ^ (d - 1)) = false) : d = xd_dp K h := by
  have n1 : ¬ d < xd_dp K h := fun q => by have := xd_dp_min q; rw [g] at this; cases this
  have n2 : ¬ xd_dp K h < d := fun q => by
    rcases b with b | b
    · omega
    · have := xd_dp_up (K := K) (h := h) (j := d - 1) (by omega)
      rw [b] at this; cases this
  omega
theorem xd_dp_cong {K : List xk_E} {a b : Nat} (e : b % 2 ^ xd_dp K a = a % 2 ^ xd_dp K a) : xd_dp K b = xd_dp K a := by
  refine (xd_dp_uniq (by rw [e]; exact xd_dp_gd K a) ?_).symm
  by_cases z : xd_dp K a = 0
  · exact Or.inl z
  · refine Or.inr ?_
    rw [xd_mod (Nat.sub_le _ 1) e]
    exact xd_dp_min (by omega)
theorem xd_dp_place (K : List xk_E) (h : Nat) : xd_dp K (h % 2 ^ xd_dp K h) = xd_dp K h := xd_dp_cong (Nat.mod_mod _ _)
theorem xd_pl_iff {K : List xk_E} {p : Nat} : xd_pl K p = true ↔ p % 2 ^ xd_dp K p = p := by
  simp only [xd_pl, decide_eq_true_eq]
  constructor
  · exact Nat.mod_eq_of_lt
  · intro h
    have := Nat.mod_lt p (Nat.two_pow_pos (xd_dp K p))
    omega
theorem xd_pl_place (K : List xk_E) (h : Nat) : xd_pl K (h % 2 ^ xd_dp K h) = true := by
  rw [xd_pl_iff, xd_dp_place, Nat.mod_mod]
/-- the depth that the reference's search finds at p -/
theorem xd_ref_iff {K : List xk_E} {p d : Nat} (hd : d ≤ 6) : (p < 2 ^ d ∧ xd_gd K d p = true ∧ (d = 0 ∨ xd_gd K (d - 1) (p % 2 ^ (d - 1)) = false)) ↔ (d = xd_dp K p ∧ xd_pl K p = true) := by
  constructor
  · rintro ⟨h1, h2, h3⟩
    have e : d = xd_dp K p := xd_dp_uniq (by rw [Nat.mod_eq_of_lt h1]; exact h2) h3
    exact ⟨e, by simp only [xd_pl, decide_eq_true_eq]; rw [← e]; exact h1⟩
  · rintro ⟨h1, h2⟩
    simp only [xd_pl, decide_eq_true_eq] at h2
    rw [← h1] at h2
    refine ⟨h2, ?_, ?_⟩
    · have := xd_dp_gd K p
      rw [← h1, Nat.mod_eq_of_lt h2] at this
      exact this
    · by_cases z : d = 0
      · exact Or.inl z
      · exact Or.inr (xd_dp_min (by omega))
/-- the deepest, the pages -/
def xd_gm (K : List xk_E) : Nat → Nat
  | 0 => 0
  | p + 1 => max (xd_gm K p) (xd_dp K p)
theorem xd_gm_ge {K : List xk_E} {p q : Nat} (h : q < p) : xd_dp K q ≤ xd_gm K p := by
  induction p with
  | zero => omega
  | succ p ih =>
    simp only [xd_gm]
    by_cases z : q = p
    · subst z; omega
    · have := ih (by omega); omega
theorem xd_gm_le (K : List xk_E) (p : Nat) : xd_gm K p ≤ 6 := by
  induction p with
  | zero => simp [xd_gm]
  | succ p ih =>
    have := xd_dp_le K p
    simp only [xd_gm]; omega
theorem xd_gm_no {K : List xk_E} {p : Nat} (h : xd_pl K p = false) : xd_gm K (p + 1) = xd_gm K p := by
  have n1 : ¬ p % 2 ^ xd_dp K p = p := fun q => by rw [xd_pl_iff.mpr q] at h; cases h
  have n2 : p % 2 ^ xd_dp K p < p := by have := Nat.mod_le p (2 ^ xd_dp K p); omega
  have := xd_gm_ge (K := K) n2
  rw [xd_dp_place] at this
  simp only [xd_gm]; omega
def xd_bp (n : Nat) : Nat := max 1 ((n + 3) / 4)
def xd_sp (K : List xk_E) : Nat → Nat
  | 0 => 0
  | p + 1 => if xd_pl K p then xd_sp K p + xd_bp (xd_cn K (xd_dp K p) p) else xd_sp K p
theorem xk_take {α : Type} {K : List α} {i : Nat} {e : α} (he : K[i]? = some e) : K.take (i + 1) = K.take i ++ [e] := by
  rw [List.take_add_one, he]; rfl
/-- counting along the list -/
theorem xd_cn_take {K : List xk_E} {d p i : Nat} {e : xk_E} (he : K[i]? = some e) : xd_cn (K.take (i + 1)) d p = if xk_h e.1 % 2 ^ d = p then xd_cn (K.take i) d p + 1 else xd_cn (K.take i) d p := by
  rw [xk_take he]
  simp only [xd_cn, List.countP_append, List.countP_cons, List.countP_nil, xd_in, beq_iff_eq]
  split <;> simp
theorem xd_cn_all (K : List xk_E) (d p : Nat) : xd_cn (K.take K.length) d p = xd_cn K d p := by rw [List.take_length]
theorem xd_cn_le (K : List xk_E) (d p : Nat) : xd_cn K d p ≤ K.length := List.countP_le_length
theorem xd_cn_set (K : List xk_E) (k : Int32) (v : Int64) (d p : Nat) : xd_cn (xk_set K k v) d p = if xk_has K k = false ∧ xk_h k % 2 ^ d = p then xd_cn K d p + 1 else xd_cn K d p := by
  induction K with
  | nil => simp [xk_set, xk_has, xd_cn, xd_in, List.countP_cons]
  | cons a t ih =>
    simp only [xd_cn] at ih
    simp only [xk_set, xk_has, xd_cn]
    by_cases q : a.1 < k
    · simp only [q, if_true, List.countP_cons, ih]
      split <;> omega
    · by_cases r : a.1 = k
      · subst r
        simp [q, List.countP_cons, xd_in]
      · simp only [q, r, if_false, List.countP_cons, xd_in, beq_iff_eq]
        have : (a.1 == k) = false := by simpa using r
        simp only [this, true_and]
        by_cases z1 : xk_h k % 2 ^ d = p <;> by_cases z2 : xk_h a.1 % 2 ^ d = p <;> simp [z1, z2]
theorem xd_cn_rem (K : List xk_E) (k : Int32) (d p : Nat) : xd_cn K d p = if xk_has K k = true ∧ xk_h k % 2 ^ d = p then xd_cn (xk_rem K k) d p + 1 else xd_cn (xk_rem K k) d p := by
  induction K with
  | nil => simp [xk_rem, xk_has, xd_cn]
  | cons a t ih =>
    simp only [xd_cn] at ih
    simp only [xk_rem, xk_has, xd_cn]
    by_cases q : a.1 < k
    · simp only [q, if_true, List.countP_cons, ih]
      split <;> omega
    · by_cases r : a.1 = k
      · subst r
        simp only [q, if_false, if_true, List.countP_cons, xd_in, beq_iff_eq, beq_self_eq_true, true_and]
        split <;> omega
      · have : (a.1 == k) = false := by simpa using r
        simp [q, r, this]
end
section
/-! Pure: how many different hashes a class has. -/
def xd_hc (K : List xk_E) (d p : Nat) : Nat := (List.range 64).countP (fun h => h % 2 ^ d == p && decide (0 < xd_cn K 6 h))
theorem xd_cn6 {K : List xk_E} {h : Nat} (hh : h < 64) : 0 < xd_cn K 6 h ↔ ∃ e ∈ K, xk_h e.1 = h := by
  rw [xd_cn, List.countP_pos_iff]
  have e1 : (2 : Nat) ^ 6 = 64 := rfl
  constructor
  · rintro ⟨e, he, i⟩
    rw [xd_in_iff, e1] at i
    have := xk_h_lt e.1
    exact ⟨e, he, by omega⟩
  · rintro ⟨e, he, i⟩
    refine ⟨e, he, ?_⟩
    rw [xd_in_iff, e1]
    omega
/-- a count over a range with one place changed -/
theorem xd_count1 {P Q : Nat → Bool} {h : Nat} (hd : ∀ j, j ≠ h → P j = Q j) (hP : P h = false) (hQ : Q h = true) : ∀ n, h < n → (List.range n).countP Q = (List.range n).countP P + 1 := by
  intro n hn
  induction n with
  | zero => omega
  | succ n ih =>
    rw [List.range_succ, List.countP_append, List.countP_append]
    simp only [List.countP_cons, List.countP_nil]
    by_cases z : h = n
    · subst z
      have : (List.range h).countP Q = (List.range h).countP P := by
        refine List.countP_congr (fun j hj => ?_)
        have := List.mem_range.mp hj
        rw [hd j (by omega)]
      simp [hP, hQ, this]
    · have := ih (by omega)
      rw [hd n (fun q => z q.symm)]
      omega
theorem xd_count0 {P Q : Nat → Bool} (n : Nat) (hd : ∀ j, j < n → P j = Q j) : (List.range n).countP Q = (List.range n).countP P := by
  refine List.countP_congr (fun j hj => ?_)
  rw [hd j (List.mem_range.mp hj)]
theorem xd_hc_set (K : List xk_E) (k : Int32) (v : Int64) (d p : Nat) (hk : xk_has K k = false) : xd_hc (xk_set K k v) d p = if xk_h k % 2 ^ d = p ∧ xd_cn K 6 (xk_h k) = 0 then xd_hc K d p + 1 else xd_hc K d p := by
  have hlt := xk_h_lt k
  have e1 : (2 : Nat) ^ 6 = 64 := rfl
  have hm : xk_h k % 2 ^ 6 = xk_h k := by rw [e1]; omega
  have hne : ∀ j, j ≠ xk_h k → xd_cn (xk_set K k v) 6 j = xd_cn K 6 j := fun j hj => by
    rw [xd_cn_set, if_neg]; rw [hm]; exact fun q => hj q.2.symm
  have heq : xd_cn (xk_set K k v) 6 (xk_h k) = xd_cn K 6 (xk_h k) + 1 := by
    rw [xd_cn_set, if_pos ⟨hk, hm⟩]
  unfold xd_hc
  by_cases z : xk_h k % 2 ^ d = p ∧ xd_cn K 6 (xk_h k) = 0
  · rw [if_pos z]
    refine xd_count1 (h := xk_h k) (fun j hj => by rw [hne j hj]) ?_ ?_ 64 hlt
    · simp [z.2]
    · simp [z.1, heq]
  · rw [if_neg z]
    refine xd_count0 64 (fun j _ => ?_)
    by_cases q : j = xk_h k
    · subst q
      by_cases w : xk_h k % 2 ^ d = p
      · have : 0 < xd_cn K 6 (xk_h k) := by
          rcases Nat.eq_zero_or_pos (xd_cn K 6 (xk_h k)) with y | y
          · exact absurd ⟨w, y⟩ z
          · exact y
        simp [w, heq, this]
      · have w2 : (xk_h k % 2 ^ d == p) = false := by simpa using w
        simp only [w2, Bool.false_and]
    · rw [hne j q]
theorem xd_hc_rem (K : List xk_E) (k : Int32) (d p : Nat) (hk : xk_has K k = true) : xd_hc K d p = if xk_h k % 2 ^ d = p ∧ xd_cn K 6 (xk_h k) = 1 then xd_hc (xk_rem K k) d p + 1 else xd_hc (xk_rem K k) d p := by
  have hlt := xk_h_lt k
  have e1 : (2 : Nat) ^ 6 = 64 := rfl
  have hm : xk_h k % 2 ^ 6 = xk_h k := by rw [e1]; omega
  have hne : ∀ j, j ≠ xk_h k → xd_cn K 6 j = xd_cn (xk_rem K k) 6 j := fun j hj => by
    rw [xd_cn_rem K k, if_neg]; rw [hm]; exact fun q => hj q.2.symm
  have heq : xd_cn K 6 (xk_h k) = xd_cn (xk_rem K k) 6 (xk_h k) + 1 := by
    rw [xd_cn_rem K k, if_pos ⟨hk, hm⟩]
  unfold xd_hc
  by_cases z : xk_h k % 2 ^ d = p ∧ xd_cn K 6 (xk_h k) = 1
  · rw [if_pos z]
    refine xd_count1 (h := xk_h k) (fun j hj => by rw [hne j hj]) ?_ ?_ 64 hlt
    · have : xd_cn (xk_rem K k) 6 (xk_h k) = 0 := by omega
      simp [this]
    · simp [z.1, z.2]
  · rw [if_neg z]
    refine xd_count0 64 (fun j _ => ?_)
    by_cases q : j = xk_h k
    · subst q
      by_cases w : xk_h k % 2 ^ d = p
      · have h1 : ¬ xd_cn K 6 (xk_h k) = 1 := fun y => z ⟨w, y⟩
        have h2 : 0 < xd_cn (xk_rem K k) 6 (xk_h k) := by omega
        have h3 : 0 < xd_cn K 6 (xk_h k) := by omega
        simp [w, h2, h3]
      · have w2 : (xk_h k % 2 ^ d == p) = false := by simpa using w
        simp only [w2, Bool.false_and]
    · rw [hne j q]
/-- one hash or no more than four keys: good -/
theorem xd_good (K : List xk_E) (d p : Nat) : xd_gd K d p = true ↔ xd_cn K d p ≤ 4 ∨ xd_hc K d p = 1 := by
  simp only [xd_gd, Bool.or_eq_true, decide_eq_true_eq]
  by_cases hc : xd_cn K d p ≤ 4
  · simp [hc]
  · simp only [hc, false_or]
    have hpos : 0 < K.countP (xd_in d p) := by unfold xd_cn at hc; omega
    obtain ⟨e, he, ie⟩ := List.countP_pos_iff.mp hpos
    have hie := xd_in_iff.mp ie
    constructor
    · intro hs
      rw [xd_sm_iff] at hs
      unfold xd_hc
      have : (List.range 64).countP (fun h => h % 2 ^ d == p && decide (0 < xd_cn K 6 h)) = (List.range 64).countP (fun h => h == xk_h e.1) := by
        refine xd_count0 64 (fun j hj => ?_)
        rw [Bool.eq_iff_iff]
        simp only [Bool.and_eq_true, beq_iff_eq, decide_eq_true_eq, xd_cn6 hj]
        constructor
        · intro q
          rw [q]
          exact ⟨hie, e, he, rfl⟩
        · rintro ⟨h1, a, ha, h2⟩
          rw [← h2]
          exact hs a ha e he (xd_in_iff.mpr (by rw [h2]; exact h1)) ie
      rw [this]
      have := xd_count1 (P := fun _ => false) (Q := fun h => h == xk_h e.1) (h := xk_h e.1) (fun j hj => by simp [hj]) rfl (by simp) 64 (xk_h_lt _)
      rw [this]
      simp
    · intro h1
      rw [xd_sm_iff]
      intro a ha b hb ia ib
      refine Classical.byContradiction fun hne => ?_
      have q1 : (fun h => h % 2 ^ d == p && decide (0 < xd_cn K 6 h)) (xk_h a.1) = true := by
        simp only [Bool.and_eq_true, beq_iff_eq, decide_eq_true_eq, xd_cn6 (xk_h_lt a.1)]
        exact ⟨xd_in_iff.mp ia, a, ha, rfl⟩
      have q2 : (fun h => h % 2 ^ d == p && decide (0 < xd_cn K 6 h)) (xk_h b.1) = true := by
        simp only [Bool.and_eq_true, beq_iff_eq, decide_eq_true_eq, xd_cn6 (xk_h_lt b.1)]
        exact ⟨xd_in_iff.mp ib, b, hb, rfl⟩
      unfold xd_hc at h1
      have s1 := xd_count1 (P := fun h => (h % 2 ^ d == p && decide (0 < xd_cn K 6 h)) && !(h == xk_h a.1)) (Q := fun h => h % 2 ^ d == p && decide (0 < xd_cn K 6 h)) (h := xk_h a.1) (fun j hj => by simp [hj]) (by simp) q1 64 (xk_h_lt _)
      rw [h1] at s1
      have s2 : 0 < (List.range 64).countP (fun h => (h % 2 ^ d == p && decide (0 < xd_cn K 6 h)) && !(h == xk_h a.1)) := by
        rw [List.countP_pos_iff]
        refine ⟨xk_h b.1, List.mem_range.mpr (xk_h_lt _), ?_⟩
        have q3 : (xk_h b.1 % 2 ^ d == p && decide (0 < xd_cn K 6 (xk_h b.1))) = true := q2
        rw [q3]
        simp
        exact fun z => hne z.symm
      omega
end
section
/-! Pure: how many bytes a value has: the class's way and the reference's. -/
def xk_lu (v : Int64) (y : Int32) : Int64 := (v.toUInt64 >>> (y.toInt64.toUInt64 &&& Int64.toUInt64 63)).toInt64
def xv_R (v : Int64) : Nat → Nat → Nat
  | b, 0 => b
  | b, n + 1 => if xk_lu v (nI (8 * b)) = 0 then b else xv_R v (b + 1) n
def xv_by (v : Int64) : Nat := xv_R v 1 7
def xv_vp (v : Int64) : Nat := if 2 < xv_by v then (xv_by v + 1) / 2 else 0
def xv_r (v : Int64) : Nat → Int64
  | 0 => v >>> ((nI 8).toInt64 &&& 63)
  | k + 1 => xv_r v k >>> ((nI 8).toInt64 &&& 63)
def xv_n (v : Int64) : Nat → Nat
  | 0 => 1
  | k + 1 => if 0 < xv_r v k then xv_n v k + 1 else xv_n v k
theorem xv_lu (v : Int64) (y : Int32) (k : Nat) (hs : ((y.toInt64.toUInt64 &&& Int64.toUInt64 63).toBitVec % 64).toNat = k) : (xk_lu v y).toBitVec.toNat = v.toBitVec.toNat / 2 ^ k := by
  have e : (xk_lu v y).toBitVec = v.toBitVec >>> k := by
    rw [← hs]
    exact UInt64.toBitVec_shiftRight _ _
  rw [e, BitVec.toNat_ushiftRight, Nat.shiftRight_eq_div_pow]
theorem xv_lu0 (v : Int64) (y : Int32) (k : Nat) (hs : ((y.toInt64.toUInt64 &&& Int64.toUInt64 63).toBitVec % 64).toNat = k) : xk_lu v y = 0 ↔ v.toBitVec.toNat < 2 ^ k := by
  have h := xv_lu v y k hs
  constructor
  · intro z
    rw [z] at h
    have h0 : (0 : Int64).toBitVec.toNat = 0 := by decide
    rw [h0] at h
    exact (Nat.div_eq_zero_iff_lt (Nat.two_pow_pos k)).mp h.symm
  · intro z
    apply Int64.toBitVec_inj.mp
    apply BitVec.eq_of_toNat_eq
    rw [h, Nat.div_eq_of_lt z]
    decide
theorem xv_shr {n : Nat} (h : n < 2 ^ 63) : lN n >>> ((nI 8).toInt64 &&& 63) = lN (n / 256) := by
  apply Int64.toInt_inj.mp
  have h2 : n / 256 ≤ n := Nat.div_le_self _ _
  rw [pk_lT (by omega)]
  show ((lN n).toBitVec.sshiftRight (((nI 8).toInt64 &&& 63).toBitVec.smod 64).toNat).toInt = _
  have e : (((nI 8).toInt64 &&& 63).toBitVec.smod 64).toNat = 8 := by decide
  rw [e, BitVec.toInt_sshiftRight]
  show (lN n).toInt >>> 8 = _
  rw [pk_lT h, Int.shiftRight_eq_div_pow]
  rfl
theorem xv_tn {n : Nat} (h : n < 2 ^ 63) : (lN n).toBitVec.toNat = n := by
  show (BitVec.ofNat 64 n).toNat = n
  rw [BitVec.toNat_ofNat]
  omega
theorem xv_r_eq {n : Nat} (h : n < 2 ^ 63) (k : Nat) : xv_r (lN n) k = lN (n / 256 ^ (k + 1)) := by
  induction k with
  | zero => exact xv_shr h
  | succ k ih =>
    have h2 : n / 256 ^ (k + 1) ≤ n := Nat.div_le_self _ _
    rw [xv_r, ih, xv_shr (by omega), Nat.div_div_eq_div_mul, ← Nat.pow_succ]
theorem xv_r_pos {n : Nat} (h : n < 2 ^ 63) (k : Nat) : 0 < xv_r (lN n) k ↔ ¬ n < 256 ^ (k + 1) := by
  have h2 : n / 256 ^ (k + 1) ≤ n := Nat.div_le_self _ _
  rw [xv_r_eq h, show (0 : Int64) = lN 0 from by decide, pk_lLT (by decide) (by omega)]
  have h3 : 0 < 256 ^ (k + 1) := Nat.pow_pos (by decide)
  rw [← Nat.div_eq_zero_iff_lt h3]
  generalize n / 256 ^ (k + 1) = m
  omega
theorem xv_same {v : Int64} (hv : ¬ v < 0) : xv_n v 7 = xv_by v := by
  obtain ⟨n, hn, rfl⟩ := pk_lOf hv
  have t := xv_tn hn
  have a1 := xv_lu0 (lN n) (nI (8 * 1)) 8 (by decide)
  have a2 := xv_lu0 (lN n) (nI (8 * 2)) 16 (by decide)
  have a3 := xv_lu0 (lN n) (nI (8 * 3)) 24 (by decide)
  have a4 := xv_lu0 (lN n) (nI (8 * 4)) 32 (by decide)
  have a5 := xv_lu0 (lN n) (nI (8 * 5)) 40 (by decide)
  have a6 := xv_lu0 (lN n) (nI (8 * 6)) 48 (by decide)
  have a7 := xv_lu0 (lN n) (nI (8 * 7)) 56 (by decide)
  rw [t] at a1 a2 a3 a4 a5 a6 a7
  simp only [xv_by, xv_R, xv_n, a1, a2, a3, a4, a5, a6, a7, xv_r_pos hn]
  simp only [Nat.reducePow, Nat.reduceAdd]
  by_cases c1 : n < 256
  · simp only [c1, if_true, show n < 65536 from by omega, show n < 16777216 from by omega, show n < 4294967296 from by omega, show n < 1099511627776 from by omega, show n < 281474976710656 from by omega, show n < 72057594037927936 from by omega, not_true, if_false]
  by_cases c2 : n < 65536
  · simp only [c1, c2, if_true, show n < 16777216 from by omega, show n < 4294967296 from by omega, show n < 1099511627776 from by omega, show n < 281474976710656 from by omega, show n < 72057594037927936 from by omega, not_true, not_false_iff, if_false]
  by_cases c3 : n < 16777216
  · simp only [c1, c2, c3, if_true, show n < 4294967296 from by omega, show n < 1099511627776 from by omega, show n < 281474976710656 from by omega, show n < 72057594037927936 from by omega, not_true, not_false_iff, if_false]
  by_cases c4 : n < 4294967296
  · simp only [c1, c2, c3, c4, if_true, show n < 1099511627776 from by omega, show n < 281474976710656 from by omega, show n < 72057594037927936 from by omega, not_true, not_false_iff, if_false]
  by_cases c5 : n < 1099511627776
  · simp only [c1, c2, c3, c4, c5, if_true, show n < 281474976710656 from by omega, show n < 72057594037927936 from by omega, not_true, not_false_iff, if_false]
  by_cases c6 : n < 281474976710656
  · simp only [c1, c2, c3, c4, c5, c6, if_true, show n < 72057594037927936 from by omega, not_true, not_false_iff, if_false]
  by_cases c7 : n < 72057594037927936
  · simp only [c1, c2, c3, c4, c5, c6, c7, if_true, not_true, not_false_iff, if_false]
  · simp only [c1, c2, c3, c4, c5, c6, c7, if_true, not_false_iff, if_false]
theorem xv_neg {v : Int64} (hv : v < 0) : xv_by v = 8 := by
  have t : ¬ v.toBitVec.toNat < 2 ^ 63 := by
    intro z
    rw [Int64.lt_iff_toInt_lt] at hv
    have h0 : (0 : Int64).toInt = 0 := by decide
    have e : v.toInt = v.toBitVec.toNat := by
      show v.toBitVec.toInt = _
      rw [BitVec.toInt_eq_toNat_of_lt (by omega)]
    omega
  have a1 := xv_lu0 v (nI (8 * 1)) 8 (by decide)
  have a2 := xv_lu0 v (nI (8 * 2)) 16 (by decide)
  have a3 := xv_lu0 v (nI (8 * 3)) 24 (by decide)
  have a4 := xv_lu0 v (nI (8 * 4)) 32 (by decide)
  have a5 := xv_lu0 v (nI (8 * 5)) 40 (by decide)
  have a6 := xv_lu0 v (nI (8 * 6)) 48 (by decide)
  have a7 := xv_lu0 v (nI (8 * 7)) 56 (by decide)
  simp only [Nat.reducePow] at *
  simp only [xv_by, xv_R]
  rw [if_neg (by rw [a1]; omega), if_neg (by rw [a2]; omega), if_neg (by rw [a3]; omega), if_neg (by rw [a4]; omega), if_neg (by rw [a5]; omega), if_neg (by rw [a6]; omega), if_neg (by rw [a7]; omega)]
theorem xv_R_le (v : Int64) : ∀ n b, b ≤ xv_R v b n ∧ xv_R v b n ≤ b + n := by
  intro n
  induction n with
  | zero => intro b; simp [xv_R]
  | succ n ih =>
    intro b
    simp only [xv_R]
    split
    · omega
    · have := ih (b + 1); omega
theorem xv_by_le (v : Int64) : 1 ≤ xv_by v ∧ xv_by v ≤ 8 := by
  have := xv_R_le v 7 1
  unfold xv_by; omega
theorem xv_vp_le (v : Int64) : xv_vp v ≤ 4 := by
  have := xv_by_le v
  unfold xv_vp
  split <;> omega
end
section
/-! Pure: the pages in use; taking a key away never needs more of them. -/
def xd_vs (K : List xk_E) : Nat := (K.map (fun e => xv_vp e.2)).sum
def xd_pg (K : List xk_E) : Nat := 1 + (2 ^ xd_gm K 64 + 15) / 16 + xd_sp K 64 + xd_vs K
theorem xd_vs_take {K : List xk_E} {i : Nat} {e : xk_E} (he : K[i]? = some e) : xd_vs (K.take (i + 1)) = xd_vs (K.take i) + xv_vp e.2 := by
  rw [xk_take he]
  simp [xd_vs]
def xt_S (f : Nat → Nat) : Nat → Nat
  | 0 => 0
  | n + 1 => xt_S f n + f n
theorem xt_S_congr {f g : Nat → Nat} : ∀ n, (∀ j, j < n → f j = g j) → xt_S f n = xt_S g n := by
  intro n
  induction n with
  | zero => intro _; rfl
  | succ n ih =>
    intro h
    simp only [xt_S]
    rw [ih (fun j hj => h j (by omega)), h n (by omega)]
theorem xt_S_add (f g : Nat → Nat) : ∀ n, xt_S (fun j => f j + g j) n = xt_S f n + xt_S g n := by
  intro n
  induction n with
  | zero => rfl
  | succ n ih => simp only [xt_S, ih]; omega
theorem xt_S_zero {f : Nat → Nat} : ∀ n, (∀ j, j < n → f j = 0) → xt_S f n = 0 := by
  intro n
  induction n with
  | zero => intro _; rfl
  | succ n ih =>
    intro h
    simp only [xt_S]
    rw [ih (fun j hj => h j (by omega)), h n (by omega)]
theorem xt_S_one {f : Nat → Nat} {p : Nat} : ∀ n, p < n → (∀ j, j < n → j ≠ p → f j = 0) → xt_S f n = f p := by
  intro n
  induction n with
  | zero => intro h; omega
  | succ n ih =>
    intro hp h
    simp only [xt_S]
    by_cases z : p = n
    · subst z
      rw [xt_S_zero p (fun j hj => h j (by omega) (by omega))]
      omega
    · rw [ih (by omega) (fun j hj hne => h j (by omega) hne), h n (by omega) (fun q => z q.symm)]
      rfl
/-- the pages of the buckets below a class -/
def xt_F (K : List xk_E) : Nat → Nat → Nat → Nat
  | 0, d, p => xd_bp (xd_cn K d p)
  | n + 1, d, p => if xd_gd K d p then xd_bp (xd_cn K d p) else xt_F K n (d + 1) p + xt_F K n (d + 1) (p + 2 ^ d)
def xt_g (K : List xk_E) (h : Nat) : Nat := if xd_pl K h then xd_bp (xd_cn K (xd_dp K h) h) else 0
theorem xt_sp (K : List xk_E) : ∀ n, xd_sp K n = xt_S (xt_g K) n := by
  intro n
  induction n with
  | zero => rfl
  | succ n ih =>
    simp only [xd_sp, xt_S, xt_g, ih]
    split <;> rfl
theorem xt_half (x d p : Nat) (hp : p < 2 ^ d) : x % 2 ^ d = p ↔ (x % 2 ^ (d + 1) = p ∨ x % 2 ^ (d + 1) = p + 2 ^ d) := by
  have h1 : x % 2 ^ (d + 1) = x % 2 ^ d + 2 ^ d * (x / 2 ^ d % 2) := by rw [Nat.pow_succ, Nat.mod_mul]
  have h2 : x % 2 ^ d < 2 ^ d := Nat.mod_lt _ (Nat.two_pow_pos d)
  rcases Nat.mod_two_eq_zero_or_one (x / 2 ^ d) with h3 | h3
  · rw [h3] at h1; omega
  · rw [h3] at h1; omega
/-- a class with no good one above it: its buckets' pages -/
theorem xt_tree (K : List xk_E) : ∀ n d p, d + n = 6 → p < 2 ^ d → (∀ j, j < d → xd_gd K j (p % 2 ^ j) = false) → xt_S (fun h => if h % 2 ^ d = p then xt_g K h else 0) 64 = xt_F K n d p := by
  intro n
  induction n with
  | zero =>
    intro d p hd hp hb
    have e : d = 6 := by omega
    subst e
    have e1 : (2 : Nat) ^ 6 = 64 := rfl
    rw [e1] at hp
    have hdp : xd_dp K p = 6 := by
      refine (xd_dp_uniq (xd_gd_6 K _) (Or.inr (hb 5 (by omega)))).symm
    rw [xt_S_one (p := p) 64 hp]
    · have e2 : p % 2 ^ 6 = p := by rw [e1]; omega
      simp only [e2, if_true, xt_g, xd_pl, hdp, xt_F]
      rw [if_pos (by simpa using hp)]
    · intro j hj hne
      have e2 : j % 2 ^ 6 = j := by rw [e1]; omega
      simp only [e2, hne, if_false]
  | succ n ih =>
    intro d p hd hp hb
    simp only [xt_F]
    by_cases g : xd_gd K d p = true
    · rw [if_pos g]
      have key : ∀ h, h % 2 ^ d = p → xd_dp K h = d := by
        intro h hh
        refine (xd_dp_uniq (by rw [hh]; exact g) ?_).symm
        by_cases z : d = 0
        · exact Or.inl z
        · refine Or.inr ?_
          have := hb (d - 1) (by omega)
          rw [← hh, Nat.mod_mod_of_dvd _ (Nat.pow_dvd_pow 2 (Nat.sub_le d 1))] at this
          exact this
      have h64 : p < 64 := Nat.lt_of_lt_of_le hp (by have : (2 : Nat) ^ d ≤ 2 ^ 6 := Nat.pow_le_pow_right (by decide) (by omega); exact this)
      rw [xt_S_one (p := p) 64 h64]
      · have hm := Nat.mod_eq_of_lt hp
        have hk := key p hm
        simp only [hm, if_true, xt_g, xd_pl, hk]
        rw [if_pos (by simpa using hp)]
      · intro j hj hne
        by_cases z : j % 2 ^ d = p
        · have hk := key j z
          simp only [z, if_true, xt_g, xd_pl, hk]
          rw [if_neg]
          simp only [decide_eq_true_eq]
          intro w
          rw [Nat.mod_eq_of_lt w] at z
          exact hne z
        · simp only [z, if_false]
    · rw [if_neg g]
      have gf : xd_gd K d p = false := by simpa using g
      have hm := Nat.mod_eq_of_lt hp
      have hpow : (2 : Nat) ^ (d + 1) = 2 ^ d + 2 ^ d := by rw [Nat.pow_succ]; omega
      have b1 : ∀ j, j < d + 1 → xd_gd K j (p % 2 ^ j) = false := by
        intro j hj
        by_cases z : j = d
        · subst z; rw [hm]; exact gf
        · exact hb j (by omega)
      have b2 : ∀ j, j < d + 1 → xd_gd K j ((p + 2 ^ d) % 2 ^ j) = false := by
        intro j hj
        have hd2 : 2 ^ j ∣ 2 ^ d := Nat.pow_dvd_pow 2 (by omega)
        have : (p + 2 ^ d) % 2 ^ j = p % 2 ^ j := by
          rw [Nat.add_mod, Nat.mod_eq_zero_of_dvd hd2, Nat.add_zero, Nat.mod_mod]
        rw [this]
        exact b1 j hj
      rw [← ih (d + 1) p (by omega) (by omega) b1, ← ih (d + 1) (p + 2 ^ d) (by omega) (by omega) b2, ← xt_S_add]
      refine xt_S_congr 64 (fun h _ => ?_)
      have hh := xt_half h d p hp
      have hpos := Nat.two_pow_pos d
      by_cases z1 : h % 2 ^ (d + 1) = p
      · have z2 : ¬ h % 2 ^ (d + 1) = p + 2 ^ d := by omega
        have z3 : h % 2 ^ d = p := hh.mpr (Or.inl z1)
        simp only [z1, z3, if_true]
        rw [if_neg (by omega)]
        omega
      · by_cases z2 : h % 2 ^ (d + 1) = p + 2 ^ d
        · have z3 : h % 2 ^ d = p := hh.mpr (Or.inr z2)
          simp only [z2, z3, if_true]
          rw [if_neg (by omega)]
          omega
        · have z3 : ¬ h % 2 ^ d = p := fun q => by rcases hh.mp q with q | q; exact z1 q; exact z2 q
          simp only [z1, z2, z3, if_false]
theorem xt_sp_F (K : List xk_E) : xd_sp K 64 = xt_F K 6 0 0 := by
  rw [xt_sp, ← xt_tree K 6 0 0 rfl (by decide) (fun j hj => by omega)]
  refine xt_S_congr 64 (fun h _ => ?_)
  have : h % 2 ^ 0 = 0 := by rw [Nat.pow_zero]; omega
  simp only [this, if_true]
theorem xt_cn_half (K : List xk_E) (d p : Nat) (hp : p < 2 ^ d) : xd_cn K d p = xd_cn K (d + 1) p + xd_cn K (d + 1) (p + 2 ^ d) := by
  have hpos := Nat.two_pow_pos d
  induction K with
  | nil => rfl
  | cons a t ih =>
    simp only [xd_cn] at ih
    simp only [xd_cn, List.countP_cons, ih, xd_in, beq_iff_eq]
    have hh := xt_half (xk_h a.1) d p hp
    by_cases z1 : xk_h a.1 % 2 ^ (d + 1) = p
    · have z3 : xk_h a.1 % 2 ^ d = p := hh.mpr (Or.inl z1)
      simp only [z1, z3, if_true]
      rw [if_neg (by omega)]
      omega
    · by_cases z2 : xk_h a.1 % 2 ^ (d + 1) = p + 2 ^ d
      · have z3 : xk_h a.1 % 2 ^ d = p := hh.mpr (Or.inr z2)
        simp only [z2, z3, if_true]
        rw [if_neg (by omega)]
        omega
      · have z3 : ¬ xk_h a.1 % 2 ^ d = p := fun q => by rcases hh.mp q with q | q; exact z1 q; exact z2 q
        simp only [z1, z2, z3, if_false]
        omega
theorem xt_F_ge (K : List xk_E) : ∀ n d p, p < 2 ^ d → xd_bp (xd_cn K d p) ≤ xt_F K n d p := by
  intro n
  induction n with
  | zero => intro d p _; exact Nat.le_refl _
  | succ n ih =>
    intro d p hp
    simp only [xt_F]
    split
    · exact Nat.le_refl _
    · have hpow : (2 : Nat) ^ (d + 1) = 2 ^ d + 2 ^ d := by rw [Nat.pow_succ]; omega
      have h1 := ih (d + 1) p (by omega)
      have h2 := ih (d + 1) (p + 2 ^ d) (by omega)
      rw [xt_cn_half K d p hp]
      refine Nat.le_trans ?_ (Nat.add_le_add h1 h2)
      unfold xd_bp
      omega
theorem xt_cn_rem (K : List xk_E) (k : Int32) (d p : Nat) : xd_cn (xk_rem K k) d p ≤ xd_cn K d p := by
  rw [xd_cn_rem K k d p]
  split <;> omega
theorem xt_gd_rem {K : List xk_E} (k : Int32) {d p : Nat} (g : xd_gd K d p = true) : xd_gd (xk_rem K k) d p = true := by
  simp only [xd_gd, Bool.or_eq_true, decide_eq_true_eq] at *
  rcases g with g | g
  · exact Or.inl (Nat.le_trans (xt_cn_rem K k d p) g)
  · rw [xd_sm_iff] at *
    exact Or.inr fun a ha b hb => g a (xk_rem_mem ha) b (xk_rem_mem hb)
theorem xt_bp_mono {a b : Nat} (h : a ≤ b) : xd_bp a ≤ xd_bp b := by unfold xd_bp; omega
theorem xt_F_rem (K : List xk_E) (k : Int32) : ∀ n d p, p < 2 ^ d → xt_F (xk_rem K k) n d p ≤ xt_F K n d p := by
  intro n
  induction n with
  | zero => intro d p _; exact xt_bp_mono (xt_cn_rem K k d p)
  | succ n ih =>
    intro d p hp
    have hpow : (2 : Nat) ^ (d + 1) = 2 ^ d + 2 ^ d := by rw [Nat.pow_succ]; omega
    by_cases g : xd_gd K d p = true
    · simp only [xt_F, g, xt_gd_rem k g, if_true]
      exact xt_bp_mono (xt_cn_rem K k d p)
    · by_cases g2 : xd_gd (xk_rem K k) d p = true
      · have h0 : xt_F (xk_rem K k) (n + 1) d p = xd_bp (xd_cn (xk_rem K k) d p) := by simp only [xt_F, g2, if_true]
        rw [h0]
        exact Nat.le_trans (xt_bp_mono (xt_cn_rem K k d p)) (xt_F_ge K (n + 1) d p hp)
      · simp only [xt_F]
        rw [if_neg g, if_neg g2]
        exact Nat.add_le_add (ih (d + 1) p (by omega)) (ih (d + 1) (p + 2 ^ d) (by omega))
theorem xt_dp_rem (K : List xk_E) (k : Int32) (h : Nat) : xd_dp (xk_rem K k) h ≤ xd_dp K h := by
  refine Classical.byContradiction fun q => ?_
  have h1 := xd_dp_min (K := xk_rem K k) (h := h) (j := xd_dp K h) (by omega)
  rw [xt_gd_rem k (xd_dp_gd K h)] at h1
  cases h1
theorem xt_gm_rem (K : List xk_E) (k : Int32) : ∀ n, xd_gm (xk_rem K k) n ≤ xd_gm K n := by
  intro n
  induction n with
  | zero => exact Nat.le_refl _
  | succ n ih =>
    have := xt_dp_rem K k n
    simp only [xd_gm]; omega
theorem xt_vs_rem (K : List xk_E) (k : Int32) : xd_vs (xk_rem K k) ≤ xd_vs K := by
  induction K with
  | nil => simp [xk_rem]
  | cons a t ih =>
    simp only [xd_vs] at ih
    simp only [xk_rem, xd_vs]
    split
    · simp only [List.map_cons, List.sum_cons]; omega
    · split
      · simp only [List.map_cons, List.sum_cons]; omega
      · exact Nat.le_refl _
theorem xd_pg_rem (K : List xk_E) (k : Int32) : xd_pg (xk_rem K k) ≤ xd_pg K := by
  have h1 : 2 ^ xd_gm (xk_rem K k) 64 ≤ 2 ^ xd_gm K 64 := Nat.pow_le_pow_right (by decide) (xt_gm_rem K k 64)
  have h2 := xt_F_rem K k 6 0 0 (by decide)
  have h3 := xt_vs_rem K k
  have h4 : (2 ^ xd_gm (xk_rem K k) 64 + 15) / 16 ≤ (2 ^ xd_gm K 64 + 15) / 16 := Nat.div_le_div_right (by omega)
  unfold xd_pg
  rw [xt_sp_F, xt_sp_F]
  omega
theorem xd_sp_le {K : List xk_E} (hK : K.length ≤ 65) : ∀ n, xd_sp K n ≤ n * 17 := by
  intro n
  induction n with
  | zero => exact Nat.le_refl _
  | succ n ih =>
    have := xd_cn_le K (xd_dp K n) n
    simp only [xd_sp]
    split
    · have : xd_bp (xd_cn K (xd_dp K n) n) ≤ 17 := by unfold xd_bp; omega
      omega
    · omega
theorem xd_vs_le (K : List xk_E) : xd_vs K ≤ K.length * 4 := by
  induction K with
  | nil => simp [xd_vs]
  | cons a t ih =>
    have := xv_vp_le a.2
    simp only [xd_vs] at ih
    simp only [xd_vs, List.map_cons, List.sum_cons, List.length_cons]
    omega
theorem xd_pg_le {K : List xk_E} (hK : K.length ≤ 65) : xd_pg K ≤ 2000 := by
  have h1 := xd_sp_le hK 64
  have h2 := xd_vs_le K
  have h3 : 2 ^ xd_gm K 64 ≤ 2 ^ 6 := Nat.pow_le_pow_right (by decide) (xd_gm_le K 64)
  have e1 : (2 : Nat) ^ 6 = 64 := rfl
  unfold xd_pg
  omega
end
section
/-! Pure: places in order, keys in the order of places, how many pages a look reads. -/
def xo_pls (K : List xk_E) : Nat → List Nat
  | 0 => []
  | p + 1 => if xd_pl K p then xo_pls K p ++ [p] else xo_pls K p
def xo_at (K : List xk_E) (i : Int32) : Int32 := if i < 0 then -1 else match (xo_pls K 64)[i.toNatClampNeg]? with
  | some p => nI p
  | none => -1
theorem xo_pls_more {K : List xk_E} {p j x : Nat} (h : (xo_pls K p)[j]? = some x) : ∀ n, (xo_pls K (p + n))[j]? = some x := by
  intro n
  induction n with
  | zero => exact h
  | succ n ih =>
    have hj := (List.getElem?_eq_some_iff.mp ih).1
    rw [show p + (n + 1) = (p + n) + 1 from rfl]
    simp only [xo_pls]
    split
    · rw [List.getElem?_append_left hj]; exact ih
    · exact ih
theorem xo_pls_last {K : List xk_E} {p : Nat} (h : xd_pl K p = true) : (xo_pls K (p + 1))[(xo_pls K p).length]? = some p := by
  simp [xo_pls, h]
theorem xo_pls_le (K : List xk_E) (p : Nat) : (xo_pls K p).length ≤ p := by
  induction p with
  | zero => simp [xo_pls]
  | succ p ih =>
    simp only [xo_pls]
    split
    · simp only [List.length_append, List.length_cons, List.length_nil]; omega
    · omega
theorem xo_pls_len (K : List xk_E) (p : Nat) : (xo_pls K (p + 1)).length = if xd_pl K p then (xo_pls K p).length + 1 else (xo_pls K p).length := by
  simp only [xo_pls]
  split <;> simp
theorem xo_at_hit {K : List xk_E} {p : Nat} (hp : p < 64) (h : xd_pl K p = true) : xo_at K (nI (xo_pls K p).length) = nI p := by
  have hl := xo_pls_le K p
  have h1 := xo_pls_more (xo_pls_last h) (63 - p)
  rw [show p + 1 + (63 - p) = 64 from by omega] at h1
  unfold xo_at
  rw [if_neg (nI_pos (by omega)), nI_clamp (by omega), h1]
theorem xo_at_miss {K : List xk_E} {i : Int32} (h : ∀ j, j < (xo_pls K 64).length → ¬ i = nI j) : xo_at K i = -1 := by
  unfold xo_at
  split
  · rfl
  · rename_i q
    obtain ⟨j, hj, rfl⟩ := nI_of q
    rw [nI_clamp hj]
    have : (xo_pls K 64)[j]? = none := by
      rw [List.getElem?_eq_none_iff]
      refine Classical.byContradiction fun z => ?_
      exact h j (by omega) rfl
    rw [this]
theorem xo_at_neg {K : List xk_E} {i : Int32} (h : i < 0) : xo_at K i = -1 := by unfold xo_at; rw [if_pos h]
def xo_ko (K : List xk_E) : Nat → List xk_E
  | 0 => []
  | p + 1 => if xd_pl K p then xo_ko K p ++ K.filter (xd_in (xd_dp K p) p) else xo_ko K p
def xo_ka (K : List xk_E) (i : Int32) : Int32 := if i < 0 then 0 else match (xo_ko K 64)[i.toNatClampNeg]? with
  | some e => e.1
  | none => 0
theorem xo_ko_more {K : List xk_E} {p j : Nat} {x : xk_E} (h : (xo_ko K p)[j]? = some x) : ∀ n, (xo_ko K (p + n))[j]? = some x := by
  intro n
  induction n with
  | zero => exact h
  | succ n ih =>
    have hj := (List.getElem?_eq_some_iff.mp ih).1
    rw [show p + (n + 1) = (p + n) + 1 from rfl]
    simp only [xo_ko]
    split
    · rw [List.getElem?_append_left hj]; exact ih
    · exact ih
theorem xo_uniq {K : List xk_E} {h j : Nat} (hp : xd_pl K j = true) (e : h % 2 ^ xd_dp K j = j) : j = h % 2 ^ xd_dp K h := by
  have h1 : xd_dp K h = xd_dp K j := xd_dp_cong (by rw [e]; exact (xd_pl_iff.mp hp).symm)
  rw [h1, e]
theorem xo_sum (K L : List xk_E) : xt_S (fun p => if xd_pl K p then L.countP (xd_in (xd_dp K p) p) else 0) 64 = L.length := by
  induction L with
  | nil => exact xt_S_zero 64 (fun j _ => by simp)
  | cons a t ih =>
    rw [List.length_cons, ← ih]
    have hp0 : xk_h a.1 % 2 ^ xd_dp K (xk_h a.1) < 64 := Nat.lt_of_le_of_lt (Nat.mod_le _ _) (xk_h_lt _)
    have h1 : xt_S (fun p => if xd_pl K p then (if xd_in (xd_dp K p) p a then 1 else 0) else 0) 64 = 1 := by
      rw [xt_S_one (p := xk_h a.1 % 2 ^ xd_dp K (xk_h a.1)) 64 hp0]
      · rw [xd_pl_place, if_pos rfl, xd_dp_place]
        simp [xd_in]
      · intro j _ hne
        split
        · rename_i q
          rw [if_neg]
          intro z
          exact hne (xo_uniq q (xd_in_iff.mp z))
        · rfl
    have h2 : xt_S (fun p => if xd_pl K p then (a :: t).countP (xd_in (xd_dp K p) p) else 0) 64 = xt_S (fun p => (if xd_pl K p then t.countP (xd_in (xd_dp K p) p) else 0) + (if xd_pl K p then (if xd_in (xd_dp K p) p a then 1 else 0) else 0)) 64 := by
      refine xt_S_congr 64 (fun j _ => ?_)
      split
      · rw [List.countP_cons]
      · rfl
    rw [h2, xt_S_add, h1]
theorem xo_ko_len (K : List xk_E) : ∀ n, (xo_ko K n).length = xt_S (fun p => if xd_pl K p then K.countP (xd_in (xd_dp K p) p) else 0) n := by
  intro n
  induction n with
  | zero => rfl
  | succ n ih =>
    simp only [xo_ko, xt_S]
    split
    · rw [List.length_append, ih, List.countP_eq_length_filter]
    · rw [ih]; rfl
theorem xo_ko_all (K : List xk_E) : (xo_ko K 64).length = K.length := by rw [xo_ko_len, xo_sum]
theorem xo_ko_le (K : List xk_E) {n : Nat} (h : n ≤ 64) : (xo_ko K n).length ≤ K.length := by
  have key : ∀ m, (xo_ko K n).length ≤ (xo_ko K (n + m)).length := by
    intro m
    induction m with
    | zero => exact Nat.le_refl _
    | succ m ih =>
      rw [show n + (m + 1) = (n + m) + 1 from rfl]
      simp only [xo_ko]
      split
      · rw [List.length_append]; omega
      · exact ih
  have := key (64 - n)
  rw [show n + (64 - n) = 64 from by omega, xo_ko_all] at this
  exact this
theorem xo_ko_step (K : List xk_E) (p : Nat) : (xo_ko K (p + 1)).length = if xd_pl K p then (xo_ko K p).length + xd_cn K (xd_dp K p) p else (xo_ko K p).length := by
  simp only [xo_ko]
  split
  · rw [List.length_append, xd_cn, List.countP_eq_length_filter]
  · rfl
/-- the n-th key of a class, n counted along the list -/
theorem xo_fil_at {K : List xk_E} {d p i : Nat} {e : xk_E} (he : K[i]? = some e) (hi : xk_h e.1 % 2 ^ d = p) : (K.filter (xd_in d p))[xd_cn (K.take i) d p]? = some e := by
  have hlt := (List.getElem?_eq_some_iff.mp he).1
  have h1 : K = K.take i ++ (e :: K.drop (i + 1)) := by
    obtain ⟨h2, h3⟩ := List.getElem?_eq_some_iff.mp he
    rw [← h3, ← List.drop_eq_getElem_cons h2, List.take_append_drop]
  rw [xd_cn, List.countP_eq_length_filter]
  have h4 : K.filter (xd_in d p) = (K.take i).filter (xd_in d p) ++ (e :: (K.drop (i + 1)).filter (xd_in d p)) := by
    conv => lhs; rw [h1]
    rw [List.filter_append, List.filter_cons, if_pos (xd_in_iff.mpr hi)]
  rw [h4, List.getElem?_append_right (Nat.le_refl _)]
  simp
theorem xo_ka_hit {K : List xk_E} {p i : Nat} {e : xk_E} (hK : K.length ≤ 65) (hp : p < 64) (h : xd_pl K p = true) (he : K[i]? = some e) (hi : xk_h e.1 % 2 ^ xd_dp K p = p) : xo_ka K (nI ((xo_ko K p).length + xd_cn (K.take i) (xd_dp K p) p)) = e.1 := by
  have h0 : (xo_ko K (p + 1))[(xo_ko K p).length + xd_cn (K.take i) (xd_dp K p) p]? = some e := by
    simp only [xo_ko, h, if_true]
    rw [List.getElem?_append_right (by omega), Nat.add_sub_cancel_left]
    exact xo_fil_at he hi
  have h1 := xo_ko_more h0 (63 - p)
  rw [show p + 1 + (63 - p) = 64 from by omega] at h1
  have h2 := (List.getElem?_eq_some_iff.mp h1).1
  rw [xo_ko_all] at h2
  unfold xo_ka
  rw [if_neg (nI_pos (by omega)), nI_clamp (by omega), h1]
theorem xo_ka_miss {K : List xk_E} {i : Int32} (h : ∀ j, j < (xo_ko K 64).length → ¬ i = nI j) : xo_ka K i = 0 := by
  unfold xo_ka
  split
  · rfl
  · rename_i q
    obtain ⟨j, hj, rfl⟩ := nI_of q
    rw [nI_clamp hj]
    have : (xo_ko K 64)[j]? = none := by
      rw [List.getElem?_eq_none_iff]
      refine Classical.byContradiction fun z => ?_
      exact h j (by omega) rfl
    rw [this]
/-- a look's pages -/
def xo_bl (K : List xk_E) (k : Int32) (d p : Nat) : Nat := xd_cn (K.take (xk_lo K k)) d p
def xo_rp (K : List xk_E) (k : Int32) (d p : Nat) : Nat := min (xo_bl K k d p) (xd_cn K d p - 1) / 4 + 1
def xo_rd (K : List xk_E) (k : Int32) : Nat := xo_rp K k (xd_dp K (xk_h k)) (xk_h k % 2 ^ xd_dp K (xk_h k))
theorem xd_cn_mono {K : List xk_E} {d p i j : Nat} (h : i ≤ j) : xd_cn (K.take i) d p ≤ xd_cn (K.take j) d p := by
  obtain ⟨n, rfl⟩ : ∃ n, j = i + n := ⟨j - i, by omega⟩
  rw [List.take_add, xd_cn, xd_cn, List.countP_append]
  omega
theorem xd_cn_sub (K : List xk_E) (d p i : Nat) : xd_cn (K.take i) d p ≤ xd_cn K d p := by
  by_cases z : i ≤ K.length
  · have := xd_cn_mono (K := K) (d := d) (p := p) z
    rwa [List.take_length] at this
  · rw [List.take_of_length_le (by omega)]; exact Nat.le_refl _
def xo_J (K : List xk_E) (k : Int32) (d p i g : Nat) (more : Bool) : Prop :=
  (more = true → g = (xd_cn (K.take i) d p + 3) / 4 ∧ 4 * (xd_cn (K.take i) d p / 4) ≤ xo_bl K k d p ∧ (xd_cn (K.take i) d p = xd_cn K d p → xd_cn K d p = 0 ∨ xo_bl K k d p = xd_cn K d p)) ∧
  (more = false → g = xo_rp K k d p ∧ 0 < xd_cn K d p)
theorem xo_J_0 (K : List xk_E) (k : Int32) (d p : Nat) : xo_J K k d p 0 0 true := by
  have h0 : xd_cn (K.take 0) d p = 0 := by simp [xd_cn]
  refine ⟨fun _ => ⟨by rw [h0], by rw [h0]; omega, fun h => Or.inl (by rw [← h, h0])⟩, fun h => by cases h⟩
theorem xo_J_skip {K : List xk_E} {k : Int32} {d p i g : Nat} {e : xk_E} (h : xo_J K k d p i g true) (he : K[i]? = some e) (hn : ¬ xk_h e.1 % 2 ^ d = p) : xo_J K k d p (i + 1) g true := by
  unfold xo_J at *
  rw [xd_cn_take he, if_neg hn]
  exact h
theorem xo_J_in {K : List xk_E} (hA : xk_asc K) {k : Int32} {d p i g g' : Nat} {e : xk_E} {more : Bool} (h : xo_J K k d p i g true) (he : K[i]? = some e) (hn : xk_h e.1 % 2 ^ d = p) (hg : g' = if xd_cn (K.take i) d p % 4 = 0 then g + 1 else g)
    (hm : more = (decide (e.1 ≠ k) && !((decide ((xd_cn (K.take i) d p + 1) % 4 = 0) || decide (xd_cn (K.take i) d p + 1 = xd_cn K d p)) && decide (k < e.1)))) : xo_J K k d p (i + 1) g' more := by
  obtain ⟨h1, h2, h3⟩ := h.1 rfl
  have ht : xd_cn (K.take (i + 1)) d p = xd_cn (K.take i) d p + 1 := by rw [xd_cn_take he, if_pos hn]
  have hle := xd_cn_sub K d p (i + 1)
  have hbl : xo_bl K k d p ≤ xd_cn K d p := xd_cn_sub K d p _
  have hg' : g' = (xd_cn (K.take i) d p + 1 + 3) / 4 := by rw [hg]; split <;> omega
  have hlt : e.1 < k → xd_cn (K.take i) d p + 1 ≤ xo_bl K k d p := fun q => by
    have := xd_cn_mono (K := K) (d := d) (p := p) (i := i + 1) (j := xk_lo K k) ((xk_below hA he).mp q)
    rw [ht] at this
    exact this
  have hge : ¬ e.1 < k → xo_bl K k d p ≤ xd_cn (K.take i) d p := fun q => by
    have : ¬ i < xk_lo K k := fun z => q ((xk_below hA he).mpr z)
    exact xd_cn_mono (by omega)
  unfold xo_J
  rw [ht] at hle ⊢
  constructor
  · intro q
    rw [q] at hm
    have hm := hm.symm
    simp only [Bool.and_eq_true, Bool.not_eq_true', decide_eq_true_eq, Bool.and_eq_false_iff, Bool.or_eq_false_iff, decide_eq_false_iff_not] at hm
    obtain ⟨m1, m2⟩ := hm
    have end' : (xd_cn (K.take i) d p + 1) % 4 = 0 ∨ xd_cn (K.take i) d p + 1 = xd_cn K d p → e.1 < k := by
      intro z
      rcases m2 with m2 | m2
      · rcases z with z | z
        · exact absurd z m2.1
        · exact absurd z m2.2
      · refine Classical.byContradiction fun w => ?_
        exact m2 (xk_tri w m1)
    refine ⟨hg', ?_, ?_⟩
    · by_cases z : (xd_cn (K.take i) d p + 1) % 4 = 0
      · have := hlt (end' (Or.inl z)); omega
      · omega
    · intro z
      have := hlt (end' (Or.inr z)); omega
  · intro q
    rw [q] at hm
    have hm := hm.symm
    simp only [Bool.and_eq_false_iff, Bool.not_eq_false', decide_eq_false_iff_not, Bool.and_eq_true, Bool.or_eq_true, decide_eq_true_eq] at hm
    refine ⟨?_, by omega⟩
    rw [hg', xo_rp]
    by_cases m1 : e.1 = k
    · obtain ⟨a1, a2⟩ := (xk_there hA he).mp m1
      have : xo_bl K k d p = xd_cn (K.take i) d p := by rw [xo_bl, ← a1]
      rw [this]
      omega
    · rcases hm with hm | hm
      · exact absurd m1 hm
      · have := hge (xk_nlt hm.2)
        omega
theorem xo_J_end {K : List xk_E} {k : Int32} {d p i g : Nat} {more : Bool} (h : xo_J K k d p i g more) (hi : more = true → i = K.length) : (if xd_cn K d p = 0 then 1 else g) = xo_rp K k d p := by
  cases more with
  | false =>
    obtain ⟨h1, h2⟩ := h.2 rfl
    rw [if_neg (by omega), h1]
  | true =>
    have e := hi rfl
    subst e
    obtain ⟨h1, h2, h3⟩ := h.1 rfl
    rw [List.take_length] at h1 h2 h3
    have h4 := h3 rfl
    have hbl : xo_bl K k d p ≤ xd_cn K d p := xd_cn_sub K d p _
    rw [h1, xo_rp]
    split
    · omega
    · rcases h4 with h4 | h4
      · omega
      · rw [h4]; omega
end
section
/-! Pure: base, records, the state behind each record; what a change adds. -/
abbrev xs_O : Type := Nat × Int32 × Int64
abbrev xs_R : Type := Nat × Int32 × Int64 × Nat
def xs_ap (S : List xk_E) (r : xs_R) : List xk_E := if r.1 = 0 then xk_set S r.2.1 r.2.2.1 else if r.1 = 1 then xk_rem S r.2.1 else S
def xs_S (B : List xk_E) (R : List xs_R) (i : Nat) : List xk_E := (R.take i).foldl xs_ap B
def xs_V (lim : Nat) (K : List xk_E) : Prop := K.length ≤ 60 ∧ xd_pg K ≤ lim
def xs_rec (st : Nat) (o : xs_O) : xs_R := (o.1, o.2.1, o.2.2, st)
theorem xs_S_0 (B : List xk_E) (R : List xs_R) : xs_S B R 0 = B := by simp [xs_S]
theorem xs_S_succ {B : List xk_E} {R : List xs_R} {i : Nat} {r : xs_R} (h : R[i]? = some r) : xs_S B R (i + 1) = xs_ap (xs_S B R i) r := by
  unfold xs_S
  rw [xk_take h, List.foldl_append]
  rfl
theorem xs_S_app (B : List xk_E) (R N : List xs_R) {i : Nat} (h : i ≤ R.length) : xs_S B (R ++ N) i = xs_S B R i := by
  unfold xs_S
  rw [List.take_append_of_le_length h]
theorem xs_S_drop (B : List xk_E) (R : List xs_R) (n i : Nat) : xs_S (xs_S B R n) (R.drop n) i = xs_S B R (n + i) := by
  unfold xs_S
  rw [← List.foldl_append]
  congr 1
  rw [List.take_add]
/-- the numbers where a batch began play no part -/
theorem xs_S_st (B : List xk_E) (R : List xs_R) (n i : Nat) : xs_S B (R.map (fun r => (r.1, r.2.1, r.2.2.1, n))) i = xs_S B R i := by
  unfold xs_S
  rw [← List.map_take, List.foldl_map]
  rfl
theorem xs_ap_asc {S : List xk_E} (h : xk_asc S) (r : xs_R) : xk_asc (xs_ap S r) := by
  unfold xs_ap
  split
  · exact xk_asc_set h _ _
  · split
    · exact xk_asc_rem h _
    · exact h
theorem xs_S_asc {B : List xk_E} (h : xk_asc B) (R : List xs_R) (i : Nat) : xk_asc (xs_S B R i) := by
  unfold xs_S
  generalize R.take i = L
  induction L generalizing B with
  | nil => exact h
  | cons r t ih => exact ih (xs_ap_asc h r)
theorem xs_ap_len (S : List xk_E) (r : xs_R) : (xs_ap S r).length ≤ S.length + 1 := by
  unfold xs_ap
  split
  · rw [xk_set_len]; split <;> omega
  · split
    · rw [xk_rem_len]; split <;> omega
    · omega
theorem xs_ap_mark (S : List xk_E) {r : xs_R} (h : r.1 = 2) : xs_ap S r = S := by
  unfold xs_ap
  rw [if_neg (by omega), if_neg (by omega)]
/-- what the class keeps of a record: what its key had before -/
def xs_fm (S : List xk_E) (r : xs_R) : Int32 := if r.1 = 2 then nI 0 else if xk_has S r.2.1 then nI 2 else nI 1
def xs_fv (S : List xk_E) (r : xs_R) : Int64 := if r.1 = 2 then 0 else xk_get S r.2.1
def xs_ct (B : List xk_E) (R : List xs_R) (rk : Nat → Int32) (rv : Nat → Int64) (rm : Nat → Int32) : Prop := ∀ (i : Nat) (r : xs_R), R[i]? = some r → rk i = r.2.1 ∧ rm i = xs_fm (xs_S B R i) r ∧ rv i = xs_fv (xs_S B R i) r
def xs_st (R : List xs_R) (rs : Nat → Int32) : Prop := ∀ (i : Nat) (r : xs_R), R[i]? = some r → rs i = nI r.2.2.2
theorem xs_app_at {α : Type} {R : List α} {r x : α} {i : Nat} (h : (R ++ [r])[i]? = some x) : (i < R.length ∧ R[i]? = some x) ∨ (i = R.length ∧ x = r) := by
  by_cases z : i < R.length
  · rw [List.getElem?_append_left z] at h
    exact Or.inl ⟨z, h⟩
  · rw [List.getElem?_append_right (by omega)] at h
    have hi := (List.getElem?_eq_some_iff.mp h).1
    simp only [List.length_cons, List.length_nil] at hi
    have e : i - R.length = 0 := by omega
    rw [e] at h
    simp at h
    exact Or.inr ⟨by omega, h.symm⟩
theorem xs_ct_app {B : List xk_E} {R : List xs_R} {rk : Nat → Int32} {rv : Nat → Int64} {rm : Nat → Int32} (h : xs_ct B R rk rv rm) (r : xs_R) : xs_ct B (R ++ [r]) (upd rk R.length r.2.1) (vp_updL rv R.length (xs_fv (xs_S B R R.length) r)) (upd rm R.length (xs_fm (xs_S B R R.length) r)) := by
  intro i x hx
  rcases xs_app_at hx with ⟨h1, h2⟩ | ⟨h1, h2⟩
  · rw [pk_un (by omega), pk_un (by omega), pk_uLn (by omega), xs_S_app B R [r] (by omega)]
    exact h i x h2
  · subst h1; subst h2
    rw [pk_us, pk_us, pk_uLs, xs_S_app B R [x] (Nat.le_refl _)]
    exact ⟨rfl, rfl, rfl⟩
/-- taking a record back -/
theorem xs_undo {S : List xk_E} (hA : xk_asc S) (r : xs_R) (hr : r.1 ≤ 2) (hl : S.length ≤ 65) :
    (xs_fm S r = nI 2 ∧ xk_set (xs_ap S r) r.2.1 (xs_fv S r) = S) ∨ (xs_fm S r = nI 1 ∧ xk_rem (xs_ap S r) r.2.1 = S) ∨ (xs_fm S r = nI 0 ∧ xs_ap S r = S) := by
  unfold xs_fm xs_fv xs_ap
  by_cases c2 : r.1 = 2
  · refine Or.inr (Or.inr ⟨by rw [if_pos c2], ?_⟩)
    rw [if_neg (by omega), if_neg (by omega)]
  · rw [if_neg c2, if_neg c2]
    by_cases hk : xk_has S r.2.1 = true
    · refine Or.inl ⟨by rw [if_pos hk], ?_⟩
      by_cases c0 : r.1 = 0
      · rw [if_pos c0]; exact xk_un_ss _ hk
      · rw [if_neg c0, if_pos (by omega)]; exact xk_un_sr hA hk
    · have hk : xk_has S r.2.1 = false := by simpa using hk
      refine Or.inr (Or.inl ⟨by rw [hk]; rfl, ?_⟩)
      by_cases c0 : r.1 = 0
      · rw [if_pos c0]; exact xk_un_rs _ hk
      · rw [if_neg c0, if_pos (by omega), xk_rem_no hk, xk_rem_no hk]
/-- between calls -/
def xs_ok (lim : Nat) (B : List xk_E) (R : List xs_R) : Prop := xk_asc B ∧ B.length ≤ 60 ∧ R.length ≤ 64 ∧ (∀ i, i ≤ R.length → (xs_S B R i).length ≤ 65) ∧ (∀ (i : Nat) (r : xs_R), R[i]? = some r → r.1 ≤ 2 ∧ r.2.2.2 ≤ i ∧ xs_V lim (xs_S B R r.2.2.2)) ∧ xs_V lim (xs_S B R R.length)
def xs_new (B : List xk_E) (R : List xs_R) (N : List xs_O) : List xs_R := R ++ N.map (xs_rec R.length)
def xs_now (B : List xk_E) (R : List xs_R) : List xk_E := xs_S B R R.length
def xs_bad (lim : Nat) (K : List xk_E) : Bool := decide (60 < K.length) || decide (lim < xd_pg K)
/-- base and records behind a change that stays -/
def xs_B (B : List xk_E) (R : List xs_R) (N : List xs_O) : List xk_E := if 64 < R.length + N.length then xs_now B R else B
def xs_Q (B : List xk_E) (R : List xs_R) (N : List xs_O) : List xs_R := if 64 < R.length + N.length then N.map (xs_rec 0) else xs_new B R N
theorem xs_S_len {B : List xk_E} {R : List xs_R} {n : Nat} (h : (xs_S B R n).length ≤ 60) : ∀ m, m ≤ 5 → n + m ≤ R.length → (xs_S B R (n + m)).length ≤ 60 + m := by
  intro m
  induction m with
  | zero => intro _ _; exact h
  | succ m ih =>
    intro hm hn
    have hr : R[n + m]? = some R[n + m] := List.getElem?_eq_getElem (by omega)
    rw [show n + (m + 1) = (n + m) + 1 from rfl, xs_S_succ hr]
    have := xs_ap_len (xs_S B R (n + m)) R[n + m]
    have := ih (by omega) (by omega)
    omega
theorem xs_new_len (B : List xk_E) (R : List xs_R) (N : List xs_O) : (xs_new B R N).length = R.length + N.length := by simp [xs_new]
theorem xs_new_st {B : List xk_E} {R : List xs_R} {N : List xs_O} {i : Nat} {r : xs_R} (h : (xs_new B R N)[i]? = some r) : (i < R.length ∧ R[i]? = some r) ∨ (R.length ≤ i ∧ ∃ o, N[i - R.length]? = some o ∧ r = xs_rec R.length o) := by
  unfold xs_new at h
  by_cases z : i < R.length
  · rw [List.getElem?_append_left z] at h
    exact Or.inl ⟨z, h⟩
  · rw [List.getElem?_append_right (by omega), List.getElem?_map] at h
    cases q : N[i - R.length]? with
    | none => rw [q] at h; cases h
    | some o => rw [q] at h; exact Or.inr ⟨by omega, o, rfl, (Option.some.inj h).symm⟩
theorem xs_new_mid {lim : Nat} {B : List xk_E} {R : List xs_R} (h : xs_ok lim B R) {N : List xs_O} (hN : N.length ≤ 6) (hm : N.length = 6 → ∃ o, N[5]? = some o ∧ o.1 = 2) : ∀ i, i ≤ (xs_new B R N).length → (xs_S B (xs_new B R N) i).length ≤ 65 := by
  intro i hi
  rw [xs_new_len] at hi
  by_cases z : i ≤ R.length
  · rw [xs_new, xs_S_app B R _ z]
    exact h.2.2.2.1 i z
  · have h60 : (xs_S B (xs_new B R N) R.length).length ≤ 60 := by
      rw [xs_new, xs_S_app B R _ (Nat.le_refl _)]
      exact h.2.2.2.2.2.1
    by_cases z5 : i ≤ R.length + 5
    · have := xs_S_len h60 (i - R.length) (by omega) (by rw [xs_new_len]; omega)
      rw [show R.length + (i - R.length) = i from by omega] at this
      omega
    · have e : i = (R.length + 5) + 1 := by omega
      obtain ⟨o, ho, h2⟩ := hm (by omega)
      have hr : (xs_new B R N)[R.length + 5]? = some (xs_rec R.length o) := by
        rw [xs_new, List.getElem?_append_right (by omega), List.getElem?_map, show R.length + 5 - R.length = 5 from by omega, ho]
        rfl
      rw [e, xs_S_succ hr, xs_ap_mark _ (by exact h2)]
      have := xs_S_len h60 5 (by omega) (by rw [xs_new_len]; omega)
      omega
theorem xs_ok_add {lim : Nat} {B : List xk_E} {R : List xs_R} (h : xs_ok lim B R) {N : List xs_O} (hN : N.length ≤ 6) (hm : N.length = 6 → ∃ o, N[5]? = some o ∧ o.1 = 2) (hw : ∀ o ∈ N, o.1 ≤ 2) (hg : xs_bad lim (xs_now B (xs_new B R N)) = false) : xs_ok lim (xs_B B R N) (xs_Q B R N) := by
  have hmid := xs_new_mid h hN hm
  have hV : xs_V lim (xs_S B (xs_new B R N) (xs_new B R N).length) := by
    simp only [xs_bad, Bool.or_eq_false_iff, decide_eq_false_iff_not] at hg
    exact ⟨by have := hg.1; unfold xs_now at this; omega, by have := hg.2; unfold xs_now at this; omega⟩
  obtain ⟨h1, h2, h3, h4, h5, h6⟩ := h
  unfold xs_B xs_Q
  by_cases z : 64 < R.length + N.length
  · rw [if_pos z, if_pos z]
    have hd : N.map (xs_rec 0) = ((xs_new B R N).drop R.length).map (fun r => (r.1, r.2.1, r.2.2.1, 0)) := by
      simp [xs_new, xs_rec]
    have hS : ∀ i, xs_S (xs_now B R) (N.map (xs_rec 0)) i = xs_S B (xs_new B R N) (R.length + i) := by
      intro i
      rw [hd, xs_S_st, xs_now]
      have : xs_S B R R.length = xs_S B (xs_new B R N) R.length := by rw [xs_new, xs_S_app B R _ (Nat.le_refl _)]
      rw [this, xs_S_drop]
    have hlen : (N.map (xs_rec 0)).length = N.length := by simp
    refine ⟨xs_S_asc h1 R _, h6.1, by rw [hlen]; omega, ?_, ?_, ?_⟩
    · intro i hi
      rw [hlen] at hi
      rw [hS]
      exact hmid _ (by rw [xs_new_len]; omega)
    · intro i r hr
      rw [List.getElem?_map] at hr
      cases q : N[i]? with
      | none => rw [q] at hr; cases hr
      | some o =>
        rw [q] at hr
        have hr := Option.some.inj hr
        subst hr
        refine ⟨hw o (List.mem_of_getElem? q), Nat.zero_le _, ?_⟩
        show xs_V lim (xs_S (xs_now B R) (N.map (xs_rec 0)) 0)
        rw [xs_S_0]
        exact h6
    · rw [hS, hlen, ← xs_new_len B]
      exact hV
  · rw [if_neg z, if_neg z]
    refine ⟨h1, h2, by rw [xs_new_len]; omega, hmid, ?_, hV⟩
    intro i r hr
    rcases xs_new_st hr with ⟨a, b⟩ | ⟨a, o, b, c⟩
    · obtain ⟨c1, c2, c3⟩ := h5 i r b
      refine ⟨c1, c2, ?_⟩
      rw [xs_new, xs_S_app B R _ (by omega)]
      exact c3
    · subst c
      refine ⟨hw o (List.mem_of_getElem? b), a, ?_⟩
      show xs_V lim (xs_S B (xs_new B R N) R.length)
      rw [xs_new, xs_S_app B R _ (Nat.le_refl _)]
      exact h6
theorem xs_ok_flush {lim : Nat} {B : List xk_E} {R : List xs_R} (h : xs_ok lim B R) {n : Nat} (hV : xs_V lim (xs_S B R n)) : xs_ok lim (xs_S B R n) [] := by
  refine ⟨xs_S_asc h.1 R n, hV.1, Nat.zero_le _, ?_, fun i r hr => by simp at hr, ?_⟩
  · intro i hi
    have e : i = 0 := by simpa using hi
    subst e
    rw [xs_S_0]
    have := hV.1; omega
  · show xs_V lim (xs_S (xs_S B R n) [] 0)
    rw [xs_S_0]
    exact hV
end
section
/-! Pure: what the class's arrays hold of a list. -/
def xw_KT (kf : Nat → Int32) (kg : Nat → Int64) (af bf : Nat → Int32) (K : List xk_E) : Prop := K.length ≤ 65 ∧ xk_asc K ∧ xk_tie kf kg K ∧ ∀ d p, d ≤ 6 → p < 2 ^ d → af (2 ^ d + p) = nI (xd_cn K d p) ∧ bf (2 ^ d + p) = nI (xd_hc K d p)
theorem xd_hc_le (K : List xk_E) (d p : Nat) : xd_hc K d p ≤ 64 := by
  have := List.countP_le_length (p := fun h => h % 2 ^ d == p && decide (0 < xd_cn K 6 h)) (l := List.range 64)
  rw [List.length_range] at this
  exact this
theorem xw_pow {d : Nat} (hd : d ≤ 6) : 2 ^ d ≤ 64 := by
  have : (2 : Nat) ^ d ≤ 2 ^ 6 := Nat.pow_le_pow_right (by decide) hd
  exact this
theorem xw_cell {d p : Nat} (hd : d ≤ 6) (hp : p < 2 ^ d) : 2 ^ d + p < 128 := by
  have := xw_pow hd; omega
theorem xw_shl {d : Nat} (hd : d ≤ 6) : nI 1 <<< (nI d &&& 31) = nI (2 ^ d) := by
  have key : ∀ d, d < 7 → nI 1 <<< (nI d &&& 31) = nI (2 ^ d) := by decide +kernel
  exact key d (by omega)
theorem xw_and {a d : Nat} (ha : a < 2 ^ 31) (hd : d ≤ 6) : nI a &&& nI (2 ^ d - 1) = nI (a % 2 ^ d) := by
  have := xw_pow hd
  exact pk_andN (by omega) d (pk_tn (by omega))
def xw_cu (f : Nat → Int32) (h : Nat) (x : Int32) : Nat → Nat → Int32
  | 0 => f
  | d + 1 => upd (xw_cu f h x d) (2 ^ d + h % 2 ^ d) (f (2 ^ d + h % 2 ^ d) + x)
theorem xw_cu_hi (f : Nat → Int32) (h : Nat) (x : Int32) : ∀ (d j : Nat), 2 ^ d ≤ j → xw_cu f h x d j = f j := by
  intro d
  induction d with
  | zero => intro j _; rfl
  | succ d ih =>
    intro j hj
    have h1 : h % 2 ^ d < 2 ^ d := Nat.mod_lt _ (Nat.two_pow_pos d)
    have h2 : (2 : Nat) ^ (d + 1) = 2 ^ d + 2 ^ d := by rw [Nat.pow_succ]; omega
    simp only [xw_cu]
    rw [pk_un (by omega), ih j (by omega)]
theorem xw_cu_at (f : Nat → Int32) (h : Nat) (x : Int32) {d p : Nat} (hp : p < 2 ^ d) : ∀ n, d < n → xw_cu f h x n (2 ^ d + p) = if h % 2 ^ d = p then f (2 ^ d + p) + x else f (2 ^ d + p) := by
  intro n
  induction n with
  | zero => intro hn; omega
  | succ n ih =>
    intro hn
    simp only [xw_cu]
    by_cases z : d = n
    · subst z
      by_cases w : h % 2 ^ d = p
      · rw [if_pos w, w, pk_us]
      · rw [if_neg w, pk_un (by omega), xw_cu_hi f h x d _ (by omega)]
    · have h2 : (2 : Nat) ^ (d + 1) = 2 ^ d + 2 ^ d := by rw [Nat.pow_succ]; omega
      have h3 : (2 : Nat) ^ (d + 1) ≤ 2 ^ n := Nat.pow_le_pow_right (by decide) (by omega)
      rw [pk_un (by omega), ih (by omega)]
theorem xw_mod6 {h : Nat} (hh : h < 64) : h % 2 ^ 6 = h := by
  have e1 : (2 : Nat) ^ 6 = 64 := rfl
  rw [e1]; omega
theorem xw_before {kf : Nat → Int32} {kg : Nat → Int64} {af bf : Nat → Int32} {K : List xk_E} (hT : xw_KT kf kg af bf K) {h : Nat} (hh : h < 64) : af (2 ^ 6 + h % 2 ^ 6) = nI (xd_cn K 6 h) := by
  rw [xw_mod6 hh]
  exact (hT.2.2.2 6 h (Nat.le_refl _) (by have e1 : (2 : Nat) ^ 6 = 64 := rfl; rw [e1]; exact hh)).1
theorem xw_KT_put {kf : Nat → Int32} {kg : Nat → Int64} {af bf : Nat → Int32} {K : List xk_E} (hT : xw_KT kf kg af bf K) {k : Int32} (v : Int64) (hk : xk_has K k = true) : xw_KT kf (vp_updL kg (xk_lo K k) v) af bf (xk_set K k v) := by
  obtain ⟨h1, h2, h3, h4⟩ := hT
  refine ⟨by rw [xk_set_len, if_pos hk]; exact h1, xk_asc_set h2 k v, xk_tie_put h3 v hk, fun d p hd hp => ?_⟩
  have hc : ∀ d p, xd_cn (xk_set K k v) d p = xd_cn K d p := fun d p => by rw [xd_cn_set, if_neg]; rw [hk]; exact fun q => by cases q.1
  have hh : xd_hc (xk_set K k v) d p = xd_hc K d p := by
    unfold xd_hc
    exact xd_count0 64 (fun j _ => by rw [hc])
  rw [hc, hh]
  exact h4 d p hd hp
theorem xw_KT_ins {kf kf' : Nat → Int32} {kg kg' : Nat → Int64} {af bf : Nat → Int32} {K : List xk_E} (hT : xw_KT kf kg af bf K) {k : Int32} {v : Int64} (hk : xk_has K k = false) (hl : K.length < 65) (hf : ∀ j, j < K.length + 1 → kf' j = xk_ins kf (xk_lo K k) k j) (hg : ∀ j, j < K.length + 1 → kg' j = xk_ins kg (xk_lo K k) v j) {fl : Bool} (hfl : fl = decide (xd_cn K 6 (xk_h k) = 0)) :
    xw_KT kf' kg' (xw_cu af (xk_h k) (nI 1) 7) (if fl = true then xw_cu bf (xk_h k) (nI 1) 7 else bf) (xk_set K k v) := by
  obtain ⟨h1, h2, h3, h4⟩ := hT
  refine ⟨by rw [xk_set_len, hk]; exact hl, xk_asc_set h2 k v, xk_tie_ins h3 hk hf hg, fun d p hd hp => ?_⟩
  obtain ⟨a1, a2⟩ := h4 d p hd hp
  rw [xd_cn_set, xd_hc_set K k v d p hk, xw_cu_at af _ _ hp 7 (by omega)]
  constructor
  · by_cases z : xk_h k % 2 ^ d = p
    · rw [if_pos z, if_pos ⟨hk, z⟩, a1, nI_add]
    · rw [if_neg z, if_neg (fun q => z q.2), a1]
  · by_cases w : xd_cn K 6 (xk_h k) = 0
    · have hf1 : fl = true := by rw [hfl, decide_eq_true_eq]; exact w
      rw [if_pos hf1, xw_cu_at bf _ _ hp 7 (by omega)]
      by_cases z : xk_h k % 2 ^ d = p
      · rw [if_pos z, if_pos ⟨z, w⟩, a2, nI_add]
      · rw [if_neg z, if_neg (fun q => z q.1), a2]
    · have hf1 : ¬ fl = true := by rw [hfl, decide_eq_true_eq]; exact w
      rw [if_neg hf1, if_neg (fun q => w q.2), a2]
theorem xw_has_cn {K : List xk_E} {k : Int32} (hk : xk_has K k = true) : 0 < xd_cn K 6 (xk_h k) := by
  rw [xd_cn_rem K k 6 (xk_h k), if_pos ⟨hk, xw_mod6 (xk_h_lt k)⟩]
  omega
theorem xw_dec (n : Nat) (h : 0 < n) : nI n + (-1) = nI (n - 1) := sb_m1 h
theorem xw_KT_del {kf kf' : Nat → Int32} {kg kg' : Nat → Int64} {af bf : Nat → Int32} {K : List xk_E} (hT : xw_KT kf kg af bf K) {k : Int32} (hk : xk_has K k = true) (hf : ∀ j, j + 1 < K.length → kf' j = xk_del kf (xk_lo K k) j) (hg : ∀ j, j + 1 < K.length → kg' j = xk_del kg (xk_lo K k) j) {fl : Bool} (hfl : fl = decide (xd_cn K 6 (xk_h k) = 1)) :
    xw_KT kf' kg' (xw_cu af (xk_h k) (-1) 7) (if fl = true then xw_cu bf (xk_h k) (-1) 7 else bf) (xk_rem K k) := by
  obtain ⟨h1, h2, h3, h4⟩ := hT
  refine ⟨by rw [xk_rem_len, if_pos hk]; omega, xk_asc_rem h2 k, xk_tie_del h3 hk hf hg, fun d p hd hp => ?_⟩
  obtain ⟨a1, a2⟩ := h4 d p hd hp
  have c1 := xd_cn_rem K k d p
  have c2 := xd_hc_rem K k d p hk
  rw [xw_cu_at af _ _ hp 7 (by omega)]
  constructor
  · by_cases z : xk_h k % 2 ^ d = p
    · rw [if_pos ⟨hk, z⟩] at c1
      rw [if_pos z, a1, xw_dec _ (by omega), c1]
      rfl
    · rw [if_neg (fun q => z q.2)] at c1
      rw [if_neg z, a1, c1]
  · by_cases w : xd_cn K 6 (xk_h k) = 1
    · have hf1 : fl = true := by rw [hfl, decide_eq_true_eq]; exact w
      rw [if_pos hf1, xw_cu_at bf _ _ hp 7 (by omega)]
      by_cases z : xk_h k % 2 ^ d = p
      · rw [if_pos ⟨z, w⟩] at c2
        rw [if_pos z, a2, xw_dec _ (by omega), c2]
        rfl
      · rw [if_neg (fun q => z q.1)] at c2
        rw [if_neg z, a2, c2]
    · have hf1 : ¬ fl = true := by rw [hfl, decide_eq_true_eq]; exact w
      rw [if_neg (fun q => w q.2)] at c2
      rw [if_neg hf1, a2, c2]
/-- moving the records from n on to the front -/
def xw_mv {α : Type} (f : Nat → α) (n w : Nat) : Nat → α := fun j => if j < w then f (n + j) else f j
theorem xw_mv_0 {α : Type} (f : Nat → α) (n : Nat) : xw_mv f n 0 = f := by funext j; simp [xw_mv]
theorem xw_mv_at {α : Type} (f : Nat → α) (n w : Nat) : xw_mv f n w (n + w) = f (n + w) := by
  unfold xw_mv
  rw [if_neg (by omega)]
theorem xw_mv_up (f : Nat → Int32) (n w : Nat) : upd (xw_mv f n w) w (f (n + w)) = xw_mv f n (w + 1) := by
  funext j
  by_cases z : j = w
  · subst z; rw [pk_us]; unfold xw_mv; rw [if_pos (by omega)]
  · rw [pk_un z]; unfold xw_mv
    by_cases y : j < w
    · rw [if_pos y, if_pos (by omega)]
    · rw [if_neg y, if_neg (by omega)]
theorem xw_mv_upL (f : Nat → Int64) (n w : Nat) : vp_updL (xw_mv f n w) w (f (n + w)) = xw_mv f n (w + 1) := by
  funext j
  by_cases z : j = w
  · subst z; rw [pk_uLs]; unfold xw_mv; rw [if_pos (by omega)]
  · rw [pk_uLn z]; unfold xw_mv
    by_cases y : j < w
    · rw [if_pos y, if_pos (by omega)]
    · rw [if_neg y, if_neg (by omega)]
/-- the reference's look whether a class is good -/
def xg_J (K : List xk_E) (d p i : Nat) (one : Int32) (same : Bool) : Prop :=
  (xd_cn (K.take i) d p = 0 → one = -1 ∧ same = true) ∧ (0 < xd_cn (K.take i) d p → ∃ a, a ∈ K.take i ∧ xd_in d p a = true ∧ one = nI (xk_h a.1) ∧ same = xd_sm (K.take i) d p)
theorem xg_J_0 (K : List xk_E) (d p : Nat) : xg_J K d p 0 (-1) true := by
  have h0 : xd_cn (K.take 0) d p = 0 := by simp [xd_cn]
  exact ⟨fun _ => ⟨rfl, rfl⟩, fun h => by omega⟩
theorem xg_J_skip {K : List xk_E} {d p i : Nat} {one : Int32} {same : Bool} {e : xk_E} (h : xg_J K d p i one same) (he : K[i]? = some e) (hn : ¬ xk_h e.1 % 2 ^ d = p) : xg_J K d p (i + 1) one same := by
  unfold xg_J at *
  rw [xd_cn_take he, if_neg hn]
  refine ⟨h.1, fun q => ?_⟩
  obtain ⟨a, h1, h2, h3, h4⟩ := h.2 q
  refine ⟨a, ?_, h2, h3, ?_⟩
  · rw [xk_take he]; exact List.mem_append_left _ h1
  · rw [h4, Bool.eq_iff_iff, xd_sm_iff, xd_sm_iff, xk_take he]
    constructor
    · intro g x hx y hy ix iy
      rcases List.mem_append.mp hx with hx | hx
      · rcases List.mem_append.mp hy with hy | hy
        · exact g x hx y hy ix iy
        · rw [List.mem_singleton.mp hy, xd_in_iff] at iy; exact absurd iy hn
      · rw [List.mem_singleton.mp hx, xd_in_iff] at ix; exact absurd ix hn
    · intro g x hx y hy ix iy
      exact g x (List.mem_append_left _ hx) y (List.mem_append_left _ hy) ix iy
theorem xg_J_in {K : List xk_E} {d p i : Nat} {one : Int32} {same same' : Bool} {e : xk_E} (h : xg_J K d p i one same) (he : K[i]? = some e) (hn : xk_h e.1 % 2 ^ d = p) (hs : same' = (same && (decide (one < 0) || decide (one = nI (xk_h e.1))))) : xg_J K d p (i + 1) (nI (xk_h e.1)) same' := by
  have hie : xd_in d p e = true := xd_in_iff.mpr hn
  have hmem : e ∈ K.take (i + 1) := by rw [xk_take he]; simp
  have hlt := xk_h_lt e.1
  refine ⟨fun q => ?_, fun _ => ⟨e, hmem, hie, rfl, ?_⟩⟩
  · rw [xd_cn_take he, if_pos hn] at q; omega
  · rw [hs]
    by_cases z : xd_cn (K.take i) d p = 0
    · obtain ⟨a1, a2⟩ := h.1 z
      rw [a1, a2]
      have e1 : decide ((-1 : Int32) < 0) = true := by decide
      rw [e1, Bool.eq_iff_iff, xd_sm_iff, xk_take he]
      simp only [Bool.true_or, Bool.and_self, true_iff]
      have no : ∀ x ∈ K.take i, ¬ xd_in d p x = true := fun x hx ix => by
        have : 0 < (K.take i).countP (xd_in d p) := List.countP_pos_iff.mpr ⟨x, hx, ix⟩
        unfold xd_cn at z; omega
      intro x hx y hy ix iy
      rcases List.mem_append.mp hx with hx | hx
      · exact absurd ix (no x hx)
      · rcases List.mem_append.mp hy with hy | hy
        · exact absurd iy (no y hy)
        · rw [List.mem_singleton.mp hx, List.mem_singleton.mp hy]
    · obtain ⟨a, h1, h2, h3, h4⟩ := h.2 (by omega)
      have hla := xk_h_lt a.1
      have e1 : decide (one < 0) = false := by rw [h3, decide_eq_false_iff_not]; exact nI_pos (by omega)
      have e2 : decide (one = nI (xk_h e.1)) = decide (xk_h a.1 = xk_h e.1) := by rw [h3, decide_eq_decide]; exact nI_eq (by omega) (by omega)
      rw [e1, e2, h4, Bool.eq_iff_iff, xd_sm_iff, xk_take he]
      simp only [Bool.false_or, Bool.and_eq_true, decide_eq_true_eq, xd_sm_iff]
      constructor
      · rintro ⟨g1, g2⟩ x hx y hy ix iy
        rcases List.mem_append.mp hx with hx | hx
        · rcases List.mem_append.mp hy with hy | hy
          · exact g1 x hx y hy ix iy
          · rw [List.mem_singleton.mp hy, ← g2]; exact g1 x hx a h1 ix h2
        · rcases List.mem_append.mp hy with hy | hy
          · rw [List.mem_singleton.mp hx, ← g2]; exact g1 a h1 y hy h2 iy
          · rw [List.mem_singleton.mp hx, List.mem_singleton.mp hy]
      · intro g
        refine ⟨fun x hx y hy ix iy => g x (List.mem_append_left _ hx) y (List.mem_append_left _ hy) ix iy, ?_⟩
        exact g a (List.mem_append_left _ h1) e (List.mem_append_right _ (by simp)) h2 hie
theorem xg_J_end {K : List xk_E} {d p : Nat} {one : Int32} {same : Bool} (h : xg_J K d p K.length one same) : xd_gd K d p = (decide (xd_cn K d p ≤ 4) || same) := by
  unfold xg_J at h
  rw [List.take_length] at h
  by_cases z : xd_cn K d p = 0
  · simp [xd_gd, z]
  · obtain ⟨a, _, _, _, h4⟩ := h.2 (by omega)
    rw [h4]
    rfl
end
section
/-! Pure: what the loops that move cells leave behind. -/
def xm_sh {α : Type} (f : Nat → α) (n i : Nat) : Nat → α := fun j => if i < j ∧ j ≤ n then f (j - 1) else f j
theorem xm_sh_0 {α : Type} (f : Nat → α) (n : Nat) : xm_sh f n n = f := by
  funext j; unfold xm_sh; rw [if_neg (by omega)]
theorem xm_sh_at {α : Type} (f : Nat → α) {n i : Nat} (h : 0 < i) : xm_sh f n i (i - 1) = f (i - 1) := by
  unfold xm_sh; rw [if_neg (by omega)]
theorem xm_sh_up (f : Nat → Int32) {n i : Nat} (h : 0 < i) (hn : i ≤ n) : upd (xm_sh f n i) i (f (i - 1)) = xm_sh f n (i - 1) := by
  funext j
  by_cases z : j = i
  · subst z; rw [pk_us]; unfold xm_sh; rw [if_pos (by omega)]
  · rw [pk_un z]; unfold xm_sh
    by_cases y : i < j ∧ j ≤ n
    · rw [if_pos y, if_pos (by omega)]
    · rw [if_neg y, if_neg (by omega)]
theorem xm_sh_upL (f : Nat → Int64) {n i : Nat} (h : 0 < i) (hn : i ≤ n) : vp_updL (xm_sh f n i) i (f (i - 1)) = xm_sh f n (i - 1) := by
  funext j
  by_cases z : j = i
  · subst z; rw [pk_uLs]; unfold xm_sh; rw [if_pos (by omega)]
  · rw [pk_uLn z]; unfold xm_sh
    by_cases y : i < j ∧ j ≤ n
    · rw [if_pos y, if_pos (by omega)]
    · rw [if_neg y, if_neg (by omega)]
theorem xm_sh_ins (f : Nat → Int32) (n b : Nat) (x : Int32) {j : Nat} (hj : j < n + 1) : upd (xm_sh f n b) b x j = xk_ins f b x j := by
  unfold xk_ins
  by_cases z : j = b
  · subst z; rw [pk_us, if_neg (by omega), if_pos rfl]
  · rw [pk_un z]; unfold xm_sh
    by_cases y : j < b
    · rw [if_pos y, if_neg (by omega)]
    · rw [if_neg y, if_neg z, if_pos (by omega)]
theorem xm_sh_insL (f : Nat → Int64) (n b : Nat) (x : Int64) {j : Nat} (hj : j < n + 1) : vp_updL (xm_sh f n b) b x j = xk_ins f b x j := by
  unfold xk_ins
  by_cases z : j = b
  · subst z; rw [pk_uLs, if_neg (by omega), if_pos rfl]
  · rw [pk_uLn z]; unfold xm_sh
    by_cases y : j < b
    · rw [if_pos y, if_neg (by omega)]
    · rw [if_neg y, if_neg z, if_pos (by omega)]
def xm_dn {α : Type} (f : Nat → α) (a i : Nat) : Nat → α := fun j => if a ≤ j ∧ j < i then f (j + 1) else f j
theorem xm_dn_0 {α : Type} (f : Nat → α) (a : Nat) : xm_dn f a a = f := by
  funext j; unfold xm_dn; rw [if_neg (by omega)]
theorem xm_dn_at {α : Type} (f : Nat → α) (a i : Nat) : xm_dn f a i (i + 1) = f (i + 1) := by
  unfold xm_dn; rw [if_neg (by omega)]
theorem xm_dn_up (f : Nat → Int32) {a i : Nat} (h : a ≤ i) : upd (xm_dn f a i) i (f (i + 1)) = xm_dn f a (i + 1) := by
  funext j
  by_cases z : j = i
  · subst z; rw [pk_us]; unfold xm_dn; rw [if_pos (by omega)]
  · rw [pk_un z]; unfold xm_dn
    by_cases y : a ≤ j ∧ j < i
    · rw [if_pos y, if_pos (by omega)]
    · rw [if_neg y, if_neg (by omega)]
theorem xm_dn_upL (f : Nat → Int64) {a i : Nat} (h : a ≤ i) : vp_updL (xm_dn f a i) i (f (i + 1)) = xm_dn f a (i + 1) := by
  funext j
  by_cases z : j = i
  · subst z; rw [pk_uLs]; unfold xm_dn; rw [if_pos (by omega)]
  · rw [pk_uLn z]; unfold xm_dn
    by_cases y : a ≤ j ∧ j < i
    · rw [if_pos y, if_pos (by omega)]
    · rw [if_neg y, if_neg (by omega)]
theorem xm_dn_del {α : Type} (f : Nat → α) (a n : Nat) {j : Nat} (hj : j + 1 < n) : xm_dn f a (n - 1) j = xk_del f a j := by
  unfold xm_dn xk_del
  by_cases y : j < a
  · rw [if_pos y, if_neg (by omega)]
  · rw [if_neg y, if_pos (by omega)]
def xm_cp {α : Type} (f g : Nat → α) (i : Nat) : Nat → α := fun j => if j < i then g j else f j
theorem xm_cp_0 {α : Type} (f g : Nat → α) : xm_cp f g 0 = f := by
  funext j; unfold xm_cp; rw [if_neg (by omega)]
theorem xm_cp_up (f g : Nat → Int32) (i : Nat) : upd (xm_cp f g i) i (g i) = xm_cp f g (i + 1) := by
  funext j
  by_cases z : j = i
  · subst z; rw [pk_us]; unfold xm_cp; rw [if_pos (by omega)]
  · rw [pk_un z]; unfold xm_cp
    by_cases y : j < i
    · rw [if_pos y, if_pos (by omega)]
    · rw [if_neg y, if_neg (by omega)]
theorem xm_cp_upL (f g : Nat → Int64) (i : Nat) : vp_updL (xm_cp f g i) i (g i) = xm_cp f g (i + 1) := by
  funext j
  by_cases z : j = i
  · subst z; rw [pk_uLs]; unfold xm_cp; rw [if_pos (by omega)]
  · rw [pk_uLn z]; unfold xm_cp
    by_cases y : j < i
    · rw [if_pos y, if_pos (by omega)]
    · rw [if_neg y, if_neg (by omega)]
theorem xm_cp_in {α : Type} (f g : Nat → α) {i j : Nat} (h : j < i) : xm_cp f g i j = g j := by unfold xm_cp; rw [if_pos h]
theorem xm_cp_tie {f fb : Nat → Int32} {g gb : Nat → Int64} {K : List xk_E} (h : xk_tie fb gb K) {n : Nat} (hn : n = K.length) : xk_tie (xm_cp f fb n) (xm_cp g gb n) K := by
  intro i hi
  rw [xm_cp_in _ _ (by omega), xm_cp_in _ _ (by omega)]
  exact h i hi
/-- the beginnings of batches, moved and counted anew -/
def xm_mb (f : Nat → Int32) (n w : Nat) : Nat → Int32 := fun j => if j < w then f (n + j) - nI n else f j
theorem xm_mb_0 (f : Nat → Int32) (n : Nat) : xm_mb f n 0 = f := by funext j; simp [xm_mb]
theorem xm_mb_at (f : Nat → Int32) (n w : Nat) : xm_mb f n w (n + w) = f (n + w) := by
  unfold xm_mb
  rw [if_neg (by omega)]
theorem xm_mb_up (f : Nat → Int32) (n w : Nat) : upd (xm_mb f n w) w (f (n + w) - nI n) = xm_mb f n (w + 1) := by
  funext j
  by_cases z : j = w
  · subst z; rw [pk_us]; unfold xm_mb; rw [if_pos (by omega)]
  · rw [pk_un z]; unfold xm_mb
    by_cases y : j < w
    · rw [if_pos y, if_pos (by omega)]
    · rw [if_neg y, if_neg (by omega)]
/-- System.arraycopy within the class's rows -/
theorem xm_ins (f : Nat → Int32) {n b : Nat} (hb : b ≤ n) (x : Int32) {j : Nat} (hj : j < n + 1) : upd (va_cpy f f b (b + 1) (n - b)) b x j = xk_ins f b x j := by
  unfold xk_ins
  by_cases z : j = b
  · subst z; rw [pk_us, if_neg (by omega), if_pos rfl]
  · rw [pk_un z]
    by_cases y : j < b
    · rw [if_pos y, pk_cpy_out (by omega)]
    · rw [if_neg y, if_neg z, pk_cpy_in (by omega) (by omega)]
      congr 1
      omega
theorem xm_insL (f : Nat → Int64) {n b : Nat} (hb : b ≤ n) (x : Int64) {j : Nat} (hj : j < n + 1) : vp_updL (va_cpy f f b (b + 1) (n - b)) b x j = xk_ins f b x j := by
  unfold xk_ins
  by_cases z : j = b
  · subst z; rw [pk_uLs, if_neg (by omega), if_pos rfl]
  · rw [pk_uLn z]
    by_cases y : j < b
    · rw [if_pos y, pk_cpy_out (by omega)]
    · rw [if_neg y, if_neg z, pk_cpy_in (by omega) (by omega)]
      congr 1
      omega
theorem xm_del {α : Type} (f : Nat → α) {n b : Nat} (hb : b < n) {j : Nat} (hj : j + 1 < n) : va_cpy f f (b + 1) b (n - 1 - b) j = xk_del f b j := by
  unfold xk_del
  by_cases y : j < b
  · rw [if_pos y, pk_cpy_out (by omega)]
  · rw [if_neg y, pk_cpy_in (by omega) (by omega)]
    congr 1
    omega
end
section
/-! Small rows that the walks use. -/
theorem xk_nle {a b : Int32} (h : ¬ a ≤ b) : b < a := by
  rw [Int32.le_iff_toInt_le] at h; rw [Int32.lt_iff_toInt_lt]; omega
theorem xk_nlt2 {a b : Int32} (h : a ≤ b) : ¬ b < a := by
  rw [Int32.le_iff_toInt_le] at h; rw [Int32.lt_iff_toInt_lt]; omega
theorem xk_le {a b : Int32} (h : ¬ a < b) : b ≤ a := by
  rw [Int32.lt_iff_toInt_lt] at h; rw [Int32.le_iff_toInt_le]; omega
theorem xl_eq {x y : Int64} : lg_cmp x y = 0 ↔ x = y := lg_cmp_eq x y
theorem xl_ne {x y : Int64} : lg_cmp x y = 0 ↔ x = y := lg_cmp_eq x y
theorem xl_lt {x y : Int64} : lg_cmp x y < 0 ↔ x < y := lg_cmp_lt x y
theorem xl_gt {x y : Int64} : 0 < lg_cmp x y ↔ y < x := lg_cmp_gt x y
theorem xl_ge {x y : Int64} : 0 ≤ lg_cmp x y ↔ ¬ x < y := by
  rw [lg_cmp_ge, Int64.lt_iff_toInt_lt, Int64.le_iff_toInt_le]; omega
theorem xl_le {x y : Int64} : lg_cmp x y ≤ 0 ↔ ¬ y < x := by
  rw [lg_cmp_le, Int64.lt_iff_toInt_lt, Int64.le_iff_toInt_le]; omega
theorem xw_g1 {K : List xk_E} {d p : Nat} (h : xd_cn K d p ≤ 4 ∨ xd_hc K d p = 1) : nI 1 = xb_i (xd_gd K d p) := by
  rw [(xd_good K d p).mpr h]; exact xb_t.symm
theorem xw_g0 {K : List xk_E} {d p : Nat} (h1 : ¬ xd_cn K d p ≤ 4) (h2 : ¬ xd_hc K d p = 1) : nI 0 = xb_i (xd_gd K d p) := by
  have : xd_gd K d p = false := by
    rw [← Bool.not_eq_true]
    intro q
    rcases (xd_good K d p).mp q with q | q
    · exact h1 q
    · exact h2 q
  rw [this]; exact xb_f.symm
theorem xw_pl0 {K : List xk_E} {p : Nat} (h : ¬ p % 2 ^ xd_dp K p = p) : xd_pl K p = false := by
  rw [← Bool.not_eq_true]
  exact fun q => h (xd_pl_iff.mp q)
theorem xw_lts {K : List xk_E} {b : Nat} {k : Int32} {e : xk_E} (h : ∀ (j : Nat) (e : xk_E), j < b → K[j]? = some e → e.1 < k) (he : K[b]? = some e) (hk : e.1 < k) : ∀ (j : Nat) (x : xk_E), j < b + 1 → K[j]? = some x → x.1 < k := by
  intro j x hj hx
  by_cases z : j = b
  · subst z
    rw [he] at hx
    cases hx
    exact hk
  · exact h j x (by omega) hx
theorem xw_none {α : Type} {K : List α} {b : Nat} {x : α} {P : Prop} (h : K.length ≤ b) (hx : K[b]? = some x) : P := by
  rw [List.getElem?_eq_none h] at hx; cases hx
theorem xw_nlt {K : List xk_E} {b : Nat} {k : Int32} {e x : xk_E} (he : K[b]? = some e) (hk : k ≤ e.1) (hx : K[b]? = some x) : ¬ x.1 < k := by
  rw [he] at hx
  cases hx
  exact xk_nlt2 hk
theorem xw_hT {K : List xk_E} {k : Int32} {e : xk_E} (he : K[xk_lo K k]? = some e) (h : e.1 = k) : xk_has K k = true := (xk_has_iff K k).mpr ⟨e, he, h⟩
theorem xw_hF {K : List xk_E} {k : Int32} {e : xk_E} (he : K[xk_lo K k]? = some e) (h : ¬ e.1 = k) : xk_has K k = false := by
  rw [← Bool.not_eq_true, xk_has_iff]
  rintro ⟨x, hx, q⟩
  rw [he] at hx
  cases hx
  exact h q
theorem xw_hL {K : List xk_E} {k : Int32} (h : K.length ≤ xk_lo K k) : xk_has K k = false := by
  rw [← Bool.not_eq_true]
  intro q
  have := xk_has_lt q
  omega
end
