section
-- ===== PART A: goes FIRST, ahead of the names: the tables' words, and 'selects' of the private methods out of them =====
/-- a private method of a class that the tables say can be made, by its rows of tables_1 -/
def lw_okq (q : MethodName × Nat) : Prop := (q.1.cls ≠ "java/lang/invoke/MethodHandle" ∧ q.1.cls ≠ "java/lang/invoke/VarHandle") ∧ Cond.instantiable q.1.cls q.2 ∈ tables_1 ∧ Cond.privateMethod q.1 ∈ tables_1 ∧ Cond.instanceMethod q.1 ∈ tables_1
theorem lw_p0 : lw_okq (⟨"java/util/ArrayList", "add", "(Ljava/lang/Object;[Ljava/lang/Object;I)V"⟩, 3) := ⟨⟨by decide +kernel, by decide +kernel⟩, List.mem_of_getElem? (i := 31) (by decide +kernel), List.mem_of_getElem? (i := 109) (by decide +kernel), List.mem_of_getElem? (i := 110) (by decide +kernel)⟩
theorem lw_p1 : lw_okq (⟨"java/util/ArrayList", "grow", "()[Ljava/lang/Object;"⟩, 3) := ⟨⟨by decide +kernel, by decide +kernel⟩, List.mem_of_getElem? (i := 31) (by decide +kernel), List.mem_of_getElem? (i := 113) (by decide +kernel), List.mem_of_getElem? (i := 114) (by decide +kernel)⟩
theorem lw_p2 : lw_okq (⟨"java/util/ArrayList", "grow", "(I)[Ljava/lang/Object;"⟩, 3) := ⟨⟨by decide +kernel, by decide +kernel⟩, List.mem_of_getElem? (i := 31) (by decide +kernel), List.mem_of_getElem? (i := 117) (by decide +kernel), List.mem_of_getElem? (i := 118) (by decide +kernel)⟩
theorem lw_p3 : lw_okq (⟨"PostLedger", "isClosed", "(J)Z"⟩, 4) := ⟨⟨by decide +kernel, by decide +kernel⟩, List.mem_of_getElem? (i := 23) (by decide +kernel), List.mem_of_getElem? (i := 172) (by decide +kernel), List.mem_of_getElem? (i := 173) (by decide +kernel)⟩
theorem lw_p4 : lw_okq (⟨"PostLedger", "hasRoomForBatch", "()Z"⟩, 4) := ⟨⟨by decide +kernel, by decide +kernel⟩, List.mem_of_getElem? (i := 23) (by decide +kernel), List.mem_of_getElem? (i := 177) (by decide +kernel), List.mem_of_getElem? (i := 178) (by decide +kernel)⟩
theorem lw_p5 : lw_okq (⟨"PostLedger", "findBatch", "(I)LPostLedger$Batch;"⟩, 4) := ⟨⟨by decide +kernel, by decide +kernel⟩, List.mem_of_getElem? (i := 23) (by decide +kernel), List.mem_of_getElem? (i := 218) (by decide +kernel), List.mem_of_getElem? (i := 219) (by decide +kernel)⟩
theorem lw_p6 : lw_okq (⟨"PostLedger", "findAccount", "(I)LPostLedger$Account;"⟩, 4) := ⟨⟨by decide +kernel, by decide +kernel⟩, List.mem_of_getElem? (i := 23) (by decide +kernel), List.mem_of_getElem? (i := 236) (by decide +kernel), List.mem_of_getElem? (i := 237) (by decide +kernel)⟩
theorem lw_p7 : lw_okq (⟨"PostLedger", "findBatchOfRow", "(I)LPostLedger$Batch;"⟩, 4) := ⟨⟨by decide +kernel, by decide +kernel⟩, List.mem_of_getElem? (i := 23) (by decide +kernel), List.mem_of_getElem? (i := 295) (by decide +kernel), List.mem_of_getElem? (i := 296) (by decide +kernel)⟩
theorem lw_p8 : lw_okq (⟨"PostLedger", "enterIntoBooks", "(LPostLedger$Batch;)V"⟩, 4) := ⟨⟨by decide +kernel, by decide +kernel⟩, List.mem_of_getElem? (i := 23) (by decide +kernel), List.mem_of_getElem? (i := 309) (by decide +kernel), List.mem_of_getElem? (i := 310) (by decide +kernel)⟩
theorem lw_p9 : lw_okq (⟨"PostLedger", "totalOfKind", "(II)J"⟩, 4) := ⟨⟨by decide +kernel, by decide +kernel⟩, List.mem_of_getElem? (i := 23) (by decide +kernel), List.mem_of_getElem? (i := 321) (by decide +kernel), List.mem_of_getElem? (i := 322) (by decide +kernel)⟩
theorem lw_p10 : lw_okq (⟨"PostLedger", "firstOfKind", "(II)LPostLedger$Account;"⟩, 4) := ⟨⟨by decide +kernel, by decide +kernel⟩, List.mem_of_getElem? (i := 23) (by decide +kernel), List.mem_of_getElem? (i := 329) (by decide +kernel), List.mem_of_getElem? (i := 330) (by decide +kernel)⟩
theorem lw_p11 : lw_okq (⟨"PostLedger$Batch", "sumOfRows", "()J"⟩, 6) := ⟨⟨by decide +kernel, by decide +kernel⟩, List.mem_of_getElem? (i := 181) (by decide +kernel), List.mem_of_getElem? (i := 376) (by decide +kernel), List.mem_of_getElem? (i := 377) (by decide +kernel)⟩
theorem lw_p12 : lw_okq (⟨"PostLedger$Batch", "breaksLimit", "(LPostLedger$Row;I)Z"⟩, 6) := ⟨⟨by decide +kernel, by decide +kernel⟩, List.mem_of_getElem? (i := 181) (by decide +kernel), List.mem_of_getElem? (i := 382) (by decide +kernel), List.mem_of_getElem? (i := 383) (by decide +kernel)⟩
theorem lw_p13 : lw_okq (⟨"java/lang/Throwable", "fillInStackTrace", "(I)Ljava/lang/Throwable;"⟩, 6) := ⟨⟨by decide +kernel, by decide +kernel⟩, List.mem_of_getElem? (i := 435) (by decide +kernel), List.mem_of_getElem? (i := 433) (by decide +kernel), List.mem_of_getElem? (i := 434) (by decide +kernel)⟩
theorem lw_p14 : lw_okq (⟨"PostLedgerModel", "make", "(J)I"⟩, 17) := ⟨⟨by decide +kernel, by decide +kernel⟩, List.mem_of_getElem? (i := 465) (by decide +kernel), List.mem_of_getElem? (i := 548) (by decide +kernel), List.mem_of_getElem? (i := 549) (by decide +kernel)⟩
theorem lw_p15 : lw_okq (⟨"PostLedgerModel", "isBatch", "(I)Z"⟩, 17) := ⟨⟨by decide +kernel, by decide +kernel⟩, List.mem_of_getElem? (i := 465) (by decide +kernel), List.mem_of_getElem? (i := 556) (by decide +kernel), List.mem_of_getElem? (i := 557) (by decide +kernel)⟩
def lw_privs_1 : List (MethodName × Nat) := [(⟨"java/util/ArrayList", "add", "(Ljava/lang/Object;[Ljava/lang/Object;I)V"⟩, 3), (⟨"java/util/ArrayList", "grow", "()[Ljava/lang/Object;"⟩, 3), (⟨"java/util/ArrayList", "grow", "(I)[Ljava/lang/Object;"⟩, 3), (⟨"PostLedger", "isClosed", "(J)Z"⟩, 4), (⟨"PostLedger", "hasRoomForBatch", "()Z"⟩, 4), (⟨"PostLedger", "findBatch", "(I)LPostLedger$Batch;"⟩, 4), (⟨"PostLedger", "findAccount", "(I)LPostLedger$Account;"⟩, 4), (⟨"PostLedger", "findBatchOfRow", "(I)LPostLedger$Batch;"⟩, 4), (⟨"PostLedger", "enterIntoBooks", "(LPostLedger$Batch;)V"⟩, 4), (⟨"PostLedger", "totalOfKind", "(II)J"⟩, 4), (⟨"PostLedger", "firstOfKind", "(II)LPostLedger$Account;"⟩, 4), (⟨"PostLedger$Batch", "sumOfRows", "()J"⟩, 6), (⟨"PostLedger$Batch", "breaksLimit", "(LPostLedger$Row;I)Z"⟩, 6), (⟨"java/lang/Throwable", "fillInStackTrace", "(I)Ljava/lang/Throwable;"⟩, 6), (⟨"PostLedgerModel", "make", "(J)I"⟩, 17), (⟨"PostLedgerModel", "isBatch", "(I)Z"⟩, 17)]
theorem lw_r1 : ∀ q ∈ lw_privs_1, lw_okq q := List.forall_mem_cons.mpr ⟨lw_p0, List.forall_mem_cons.mpr ⟨lw_p1, List.forall_mem_cons.mpr ⟨lw_p2, List.forall_mem_cons.mpr ⟨lw_p3, List.forall_mem_cons.mpr ⟨lw_p4, List.forall_mem_cons.mpr ⟨lw_p5, List.forall_mem_cons.mpr ⟨lw_p6, List.forall_mem_cons.mpr ⟨lw_p7, List.forall_mem_cons.mpr ⟨lw_p8, List.forall_mem_cons.mpr ⟨lw_p9, List.forall_mem_cons.mpr ⟨lw_p10, List.forall_mem_cons.mpr ⟨lw_p11, List.forall_mem_cons.mpr ⟨lw_p12, List.forall_mem_cons.mpr ⟨lw_p13, List.forall_mem_cons.mpr ⟨lw_p14, List.forall_mem_cons.mpr ⟨lw_p15, fun _ h => absurd h List.not_mem_nil⟩⟩⟩⟩⟩⟩⟩⟩⟩⟩⟩⟩⟩⟩⟩⟩
theorem lw_p16 : lw_okq (⟨"PostLedgerModel", "isAccount", "(I)Z"⟩, 17) := ⟨⟨by decide +kernel, by decide +kernel⟩, List.mem_of_getElem? (i := 465) (by decide +kernel), List.mem_of_getElem? (i := 560) (by decide +kernel), List.mem_of_getElem? (i := 561) (by decide +kernel)⟩
theorem lw_p17 : lw_okq (⟨"PostLedgerModel", "put", "(IIJ)V"⟩, 17) := ⟨⟨by decide +kernel, by decide +kernel⟩, List.mem_of_getElem? (i := 465) (by decide +kernel), List.mem_of_getElem? (i := 566) (by decide +kernel), List.mem_of_getElem? (i := 567) (by decide +kernel)⟩
theorem lw_p18 : lw_okq (⟨"PostLedgerModel", "go", "(I)I"⟩, 17) := ⟨⟨by decide +kernel, by decide +kernel⟩, List.mem_of_getElem? (i := 465) (by decide +kernel), List.mem_of_getElem? (i := 575) (by decide +kernel), List.mem_of_getElem? (i := 576) (by decide +kernel)⟩
theorem lw_p19 : lw_okq (⟨"PostLedgerModel", "stops", "(I)I"⟩, 17) := ⟨⟨by decide +kernel, by decide +kernel⟩, List.mem_of_getElem? (i := 465) (by decide +kernel), List.mem_of_getElem? (i := 579) (by decide +kernel), List.mem_of_getElem? (i := 580) (by decide +kernel)⟩
theorem lw_p20 : lw_okq (⟨"PostLedgerModel", "balanceOf", "(IJ)J"⟩, 17) := ⟨⟨by decide +kernel, by decide +kernel⟩, List.mem_of_getElem? (i := 465) (by decide +kernel), List.mem_of_getElem? (i := 584) (by decide +kernel), List.mem_of_getElem? (i := 585) (by decide +kernel)⟩
theorem lw_p21 : lw_okq (⟨"PostLedgerModel", "part", "(III)J"⟩, 17) := ⟨⟨by decide +kernel, by decide +kernel⟩, List.mem_of_getElem? (i := 465) (by decide +kernel), List.mem_of_getElem? (i := 588) (by decide +kernel), List.mem_of_getElem? (i := 589) (by decide +kernel)⟩
theorem lw_p22 : lw_okq (⟨"PostLedgerModel", "batchOf", "(I)I"⟩, 17) := ⟨⟨by decide +kernel, by decide +kernel⟩, List.mem_of_getElem? (i := 465) (by decide +kernel), List.mem_of_getElem? (i := 605) (by decide +kernel), List.mem_of_getElem? (i := 606) (by decide +kernel)⟩
theorem lw_p23 : lw_okq (⟨"PostLedgerModel", "first", "(II)I"⟩, 17) := ⟨⟨by decide +kernel, by decide +kernel⟩, List.mem_of_getElem? (i := 465) (by decide +kernel), List.mem_of_getElem? (i := 614) (by decide +kernel), List.mem_of_getElem? (i := 615) (by decide +kernel)⟩
def lw_privs_2 : List (MethodName × Nat) := [(⟨"PostLedgerModel", "isAccount", "(I)Z"⟩, 17), (⟨"PostLedgerModel", "put", "(IIJ)V"⟩, 17), (⟨"PostLedgerModel", "go", "(I)I"⟩, 17), (⟨"PostLedgerModel", "stops", "(I)I"⟩, 17), (⟨"PostLedgerModel", "balanceOf", "(IJ)J"⟩, 17), (⟨"PostLedgerModel", "part", "(III)J"⟩, 17), (⟨"PostLedgerModel", "batchOf", "(I)I"⟩, 17), (⟨"PostLedgerModel", "first", "(II)I"⟩, 17)]
theorem lw_r2 : ∀ q ∈ lw_privs_2, lw_okq q := List.forall_mem_cons.mpr ⟨lw_p16, List.forall_mem_cons.mpr ⟨lw_p17, List.forall_mem_cons.mpr ⟨lw_p18, List.forall_mem_cons.mpr ⟨lw_p19, List.forall_mem_cons.mpr ⟨lw_p20, List.forall_mem_cons.mpr ⟨lw_p21, List.forall_mem_cons.mpr ⟨lw_p22, List.forall_mem_cons.mpr ⟨lw_p23, fun _ h => absurd h List.not_mem_nil⟩⟩⟩⟩⟩⟩⟩⟩
def lw_privs : List (MethodName × Nat) := lw_privs_1 ++ (lw_privs_2)
def lw_tbl : List Cond := k2_sels lw_privs ++ tables_1
theorem lw_privs_ok : ∀ q ∈ lw_privs, lw_okq q := by
  show ∀ q ∈ lw_privs_1 ++ (lw_privs_2), lw_okq q
  exact List.forall_mem_append.mpr ⟨lw_r1, lw_r2⟩
end
section
/-! Names: classes, fields, methods; the words that every method is given (xTB) -/
def RPL : String := "PostLedger"
def RAC : String := "PostLedger$Account"
def RBA : String := "PostLedger$Batch"
def RRW : String := "PostLedger$Row"
def RMO : String := "PostLedgerModel"
def RAL : String := "java/util/ArrayList"
def RAB : String := "java/util/AbstractList"
def RAN : String := "java/util/AbstractCollection"
def RAR : String := "java/util/Arrays"
def ROB : String := "java/util/Objects"
def RPC : String := "jdk/internal/util/Preconditions"
def RAS : String := "jdk/internal/util/ArraysSupport"
def RMA : String := "java/lang/Math"
def ROJ : String := "java/lang/Object"
def TAL : u_T := fun k => match k with
  | 0 => ("java/util/AbstractList", "modCount", "I", false)
  | 1 => ("java/util/ArrayList", "elementData", "[Ljava/lang/Object;", false)
  | _ => ("java/util/ArrayList", "size", "I", false)
def tyAL : Nat → FieldType := fun k => match k with
  | 0 => .int
  | 1 => .array (.object "java/lang/Object")
  | _ => .int
theorem nmAL : ∀ a, a < 3 → ∀ b, b < 3 → a ≠ b → (TAL a).2.1 ≠ (TAL b).2.1 := by decide +kernel
theorem tyAL_ok : ∀ k, k < 3 → parseFieldDescriptor (TAL k).2.2.1 = some (tyAL k) := by decide +kernel
def TAC : u_T := fun k => match k with
  | 0 => ("PostLedger$Account", "office", "I", true)
  | 1 => ("PostLedger$Account", "kind", "I", true)
  | 2 => ("PostLedger$Account", "limit", "I", false)
  | _ => ("PostLedger$Account", "total", "J", false)
def tyAC : Nat → FieldType := fun k => match k with
  | 0 => .int
  | 1 => .int
  | 2 => .int
  | _ => .long
theorem nmAC : ∀ a, a < 4 → ∀ b, b < 4 → a ≠ b → (TAC a).2.1 ≠ (TAC b).2.1 := by decide +kernel
theorem tyAC_ok : ∀ k, k < 4 → parseFieldDescriptor (TAC k).2.2.1 = some (tyAC k) := by decide +kernel
def TBA : u_T := fun k => match k with
  | 0 => ("PostLedger$Batch", "day", "I", true)
  | 1 => ("PostLedger$Batch", "rows", "Ljava/util/ArrayList;", true)
  | 2 => ("PostLedger$Batch", "standing", "LPostLedger$Standing;", false)
  | 3 => ("PostLedger$Batch", "failsByPlan", "Z", false)
  | 4 => ("PostLedger$Batch", "isPartOfReversal", "Z", false)
  | _ => ("PostLedger$Batch", "firstRowNumber", "I", false)
def tyBA : Nat → FieldType := fun k => match k with
  | 0 => .int
  | 1 => .object "java/util/ArrayList"
  | 2 => .object "PostLedger$Standing"
  | 3 => .boolean
  | 4 => .boolean
  | _ => .int
theorem nmBA : ∀ a, a < 6 → ∀ b, b < 6 → a ≠ b → (TBA a).2.1 ≠ (TBA b).2.1 := by decide +kernel
theorem tyBA_ok : ∀ k, k < 6 → parseFieldDescriptor (TBA k).2.2.1 = some (tyBA k) := by decide +kernel
def TRW : u_T := fun k => match k with
  | 0 => ("PostLedger$Row", "account", "LPostLedger$Account;", true)
  | _ => ("PostLedger$Row", "cents", "J", true)
def tyRW : Nat → FieldType := fun k => match k with
  | 0 => .object "PostLedger$Account"
  | _ => .long
theorem nmRW : ∀ a, a < 2 → ∀ b, b < 2 → a ≠ b → (TRW a).2.1 ≠ (TRW b).2.1 := by decide +kernel
theorem tyRW_ok : ∀ k, k < 2 → parseFieldDescriptor (TRW k).2.2.1 = some (tyRW k) := by decide +kernel
def TPL : u_T := fun k => match k with
  | 0 => ("PostLedger", "accounts", "Ljava/util/ArrayList;", true)
  | 1 => ("PostLedger", "batches", "Ljava/util/ArrayList;", true)
  | 2 => ("PostLedger", "firstOpenDay", "I", false)
  | _ => ("PostLedger", "postedRows", "I", false)
def tyPL : Nat → FieldType := fun k => match k with
  | 0 => .object "java/util/ArrayList"
  | 1 => .object "java/util/ArrayList"
  | 2 => .int
  | _ => .int
theorem nmPL : ∀ a, a < 4 → ∀ b, b < 4 → a ≠ b → (TPL a).2.1 ≠ (TPL b).2.1 := by decide +kernel
theorem tyPL_ok : ∀ k, k < 4 → parseFieldDescriptor (TPL k).2.2.1 = some (tyPL k) := by decide +kernel
def TMO : u_T := fun k => match k with
  | 0 => ("PostLedgerModel", "thrown", "I", false)
  | 1 => ("PostLedgerModel", "accounts", "I", false)
  | 2 => ("PostLedgerModel", "offices", "[I", true)
  | 3 => ("PostLedgerModel", "kinds", "[I", true)
  | 4 => ("PostLedgerModel", "limits", "[J", true)
  | 5 => ("PostLedgerModel", "batches", "I", false)
  | 6 => ("PostLedgerModel", "states", "[I", true)
  | 7 => ("PostLedgerModel", "days", "[J", true)
  | 8 => ("PostLedgerModel", "planned", "[Z", true)
  | 9 => ("PostLedgerModel", "free", "[Z", true)
  | 10 => ("PostLedgerModel", "back", "[Z", true)
  | 11 => ("PostLedgerModel", "rows", "[I", true)
  | 12 => ("PostLedgerModel", "rowAccounts", "[I", true)
  | 13 => ("PostLedgerModel", "rowCents", "[J", true)
  | 14 => ("PostLedgerModel", "posted", "I", false)
  | 15 => ("PostLedgerModel", "postedBatches", "[I", true)
  | _ => ("PostLedgerModel", "closed", "J", false)
def tyMO : Nat → FieldType := fun k => match k with
  | 0 => .int
  | 1 => .int
  | 2 => .array .int
  | 3 => .array .int
  | 4 => .array .long
  | 5 => .int
  | 6 => .array .int
  | 7 => .array .long
  | 8 => .array .boolean
  | 9 => .array .boolean
  | 10 => .array .boolean
  | 11 => .array .int
  | 12 => .array .int
  | 13 => .array .long
  | 14 => .int
  | 15 => .array .int
  | _ => .long
theorem nmMO : ∀ a, a < 17 → ∀ b, b < 17 → a ≠ b → (TMO a).2.1 ≠ (TMO b).2.1 := by decide +kernel
theorem tyMO_ok : ∀ k, k < 17 → parseFieldDescriptor (TMO k).2.2.1 = some (tyMO k) := by decide +kernel
abbrev vwCl : List vw_C := [(RAL, TAL, 3), (RAC, TAC, 4), (RBA, TBA, 6), (RRW, TRW, 2), (RPL, TPL, 4), (RMO, TMO, 17)]
abbrev cPL_init : ByteArray := prog_1_method_1_code
def yPL_init : MethodName := ⟨RPL, "<init>", "()V"⟩
abbrev cOJ_init : ByteArray := object_method_1_code
def yOJ_init : MethodName := ⟨ROJ, "<init>", "()V"⟩
abbrev cAL_init : ByteArray := prog_22_method_2_code
def yAL_init : MethodName := ⟨RAL, "<init>", "()V"⟩
abbrev cAB_init : ByteArray := prog_21_method_1_code
def yAB_init : MethodName := ⟨RAB, "<init>", "()V"⟩
abbrev cAN_init : ByteArray := prog_20_method_1_code
def yAN_init : MethodName := ⟨RAN, "<init>", "()V"⟩
abbrev cPL_account : ByteArray := prog_1_method_2_code
def yPL_account : MethodName := ⟨RPL, "account", "(II)I"⟩
abbrev cPL_isOffice : ByteArray := prog_1_method_16_code
def yPL_isOffice : MethodName := ⟨RPL, "isOffice", "(I)Z"⟩
abbrev cAL_size : ByteArray := prog_22_method_8_code
def yAL_size : MethodName := ⟨RAL, "size", "()I"⟩
abbrev cAC_init : ByteArray := prog_2_method_1_code
def yAC_init : MethodName := ⟨RAC, "<init>", "(II)V"⟩
abbrev cAL_add : ByteArray := prog_22_method_25_code
def yAL_add : MethodName := ⟨RAL, "add", "(Ljava/lang/Object;)Z"⟩
abbrev cAL_add2 : ByteArray := prog_22_method_24_code
def yAL_add2 : MethodName := ⟨RAL, "add", "(Ljava/lang/Object;[Ljava/lang/Object;I)V"⟩
abbrev cAL_grow : ByteArray := prog_22_method_7_code
def yAL_grow : MethodName := ⟨RAL, "grow", "()[Ljava/lang/Object;"⟩
abbrev cAL_grow2 : ByteArray := prog_22_method_6_code
def yAL_grow2 : MethodName := ⟨RAL, "grow", "(I)[Ljava/lang/Object;"⟩
abbrev cAS_newLength : ByteArray := prog_29_method_27_code
def yAS_newLength : MethodName := ⟨RAS, "newLength", "(III)I"⟩
abbrev cMA_max : ByteArray := prog_15_method_65_code
def yMA_max : MethodName := ⟨RMA, "max", "(II)I"⟩
abbrev cAS_hugeLength : ByteArray := prog_29_method_28_code
def yAS_hugeLength : MethodName := ⟨RAS, "hugeLength", "(II)I"⟩
abbrev cAR_copyOf : ByteArray := prog_23_method_119_code
def yAR_copyOf : MethodName := ⟨RAR, "copyOf", "([Ljava/lang/Object;I)[Ljava/lang/Object;"⟩
abbrev cAR_copyOf2 : ByteArray := prog_23_method_120_code
def yAR_copyOf2 : MethodName := ⟨RAR, "copyOf", "([Ljava/lang/Object;ILjava/lang/Class;)[Ljava/lang/Object;"⟩
abbrev cMA_min : ByteArray := prog_15_method_69_code
def yMA_min : MethodName := ⟨RMA, "min", "(II)I"⟩
abbrev cPL_batch : ByteArray := prog_1_method_3_code
def yPL_batch : MethodName := ⟨RPL, "batch", "(J)I"⟩
abbrev cPL_isDay : ByteArray := prog_1_method_17_code
def yPL_isDay : MethodName := ⟨RPL, "isDay", "(J)Z"⟩
abbrev cPL_isWithin : ByteArray := prog_1_method_15_code
def yPL_isWithin : MethodName := ⟨RPL, "isWithin", "(JJJ)Z"⟩
abbrev cPL_isClosed : ByteArray := prog_1_method_18_code
def yPL_isClosed : MethodName := ⟨RPL, "isClosed", "(J)Z"⟩
abbrev cPL_hasRoomForBatch : ByteArray := prog_1_method_19_code
def yPL_hasRoomForBatch : MethodName := ⟨RPL, "hasRoomForBatch", "()Z"⟩
abbrev cBA_init : ByteArray := prog_3_method_1_code
def yBA_init : MethodName := ⟨RBA, "<init>", "(I)V"⟩
abbrev cPL_row : ByteArray := prog_1_method_4_code
def yPL_row : MethodName := ⟨RPL, "row", "(IIJ)Z"⟩
abbrev cPL_findBatch : ByteArray := prog_1_method_21_code
def yPL_findBatch : MethodName := ⟨RPL, "findBatch", "(I)LPostLedger$Batch;"⟩
abbrev cAL_get : ByteArray := prog_22_method_20_code
def yAL_get : MethodName := ⟨RAL, "get", "(I)Ljava/lang/Object;"⟩
abbrev cOB_checkIndex : ByteArray := prog_26_method_17_code
def yOB_checkIndex : MethodName := ⟨ROB, "checkIndex", "(II)I"⟩
abbrev cPC_checkIndex : ByteArray := prog_30_method_11_code
def yPC_checkIndex : MethodName := ⟨RPC, "checkIndex", "(IILjava/util/function/BiFunction;)I"⟩
abbrev cAL_elementData : ByteArray := prog_22_method_18_code
def yAL_elementData : MethodName := ⟨RAL, "elementData", "(I)Ljava/lang/Object;"⟩
abbrev cPL_findAccount : ByteArray := prog_1_method_20_code
def yPL_findAccount : MethodName := ⟨RPL, "findAccount", "(I)LPostLedger$Account;"⟩
abbrev cBA_isOpen : ByteArray := prog_3_method_2_code
def yBA_isOpen : MethodName := ⟨RBA, "isOpen", "()Z"⟩
abbrev cBA_isFull : ByteArray := prog_3_method_4_code
def yBA_isFull : MethodName := ⟨RBA, "isFull", "()Z"⟩
abbrev cBA_addRow : ByteArray := prog_3_method_6_code
def yBA_addRow : MethodName := ⟨RBA, "addRow", "(LPostLedger$Account;J)V"⟩
abbrev cRW_init : ByteArray := prog_5_method_1_code
def yRW_init : MethodName := ⟨RRW, "<init>", "(LPostLedger$Account;J)V"⟩
abbrev cPL_balance : ByteArray := prog_1_method_6_code
def yPL_balance : MethodName := ⟨RPL, "balance", "(IJ)J"⟩
abbrev cBA_size : ByteArray := prog_3_method_3_code
def yBA_size : MethodName := ⟨RBA, "size", "()I"⟩
abbrev cBA_sumForAccount : ByteArray := prog_3_method_12_code
def yBA_sumForAccount : MethodName := ⟨RBA, "sumForAccount", "(LPostLedger$Account;I)J"⟩
abbrev cPL_close : ByteArray := prog_1_method_7_code
def yPL_close : MethodName := ⟨RPL, "close", "(J)I"⟩
abbrev cPL_reverse : ByteArray := prog_1_method_8_code
def yPL_reverse : MethodName := ⟨RPL, "reverse", "(I)I"⟩
abbrev cPL_findBatchOfRow : ByteArray := prog_1_method_22_code
def yPL_findBatchOfRow : MethodName := ⟨RPL, "findBatchOfRow", "(I)LPostLedger$Batch;"⟩
abbrev cBA_hasRowNumber : ByteArray := prog_3_method_5_code
def yBA_hasRowNumber : MethodName := ⟨RBA, "hasRowNumber", "(I)Z"⟩
abbrev cBA_addRowsWithOtherSign : ByteArray := prog_3_method_7_code
def yBA_addRowsWithOtherSign : MethodName := ⟨RBA, "addRowsWithOtherSign", "(LPostLedger$Batch;)V"⟩
abbrev cPL_enterIntoBooks : ByteArray := prog_1_method_25_code
def yPL_enterIntoBooks : MethodName := ⟨RPL, "enterIntoBooks", "(LPostLedger$Batch;)V"⟩
abbrev cBA_addToTotals : ByteArray := prog_3_method_8_code
def yBA_addToTotals : MethodName := ⟨RBA, "addToTotals", "()V"⟩
abbrev cPL_stock : ByteArray := prog_1_method_9_code
def yPL_stock : MethodName := ⟨RPL, "stock", "(IIJ)I"⟩
abbrev cPL_totalOfKind : ByteArray := prog_1_method_24_code
def yPL_totalOfKind : MethodName := ⟨RPL, "totalOfKind", "(II)J"⟩
abbrev cAC_isOfKind : ByteArray := prog_2_method_2_code
def yAC_isOfKind : MethodName := ⟨RAC, "isOfKind", "(II)Z"⟩
abbrev cPL_firstOfKind : ByteArray := prog_1_method_23_code
def yPL_firstOfKind : MethodName := ⟨RPL, "firstOfKind", "(II)LPostLedger$Account;"⟩
abbrev cPL_limit : ByteArray := prog_1_method_10_code
def yPL_limit : MethodName := ⟨RPL, "limit", "(IJ)I"⟩
abbrev cPL_fails : ByteArray := prog_1_method_11_code
def yPL_fails : MethodName := ⟨RPL, "fails", "(IZ)Z"⟩
abbrev cPL_hold : ByteArray := prog_1_method_12_code
def yPL_hold : MethodName := ⟨RPL, "hold", "(I)J"⟩
abbrev cBA_takenFromAccount : ByteArray := prog_3_method_13_code
def yBA_takenFromAccount : MethodName := ⟨RBA, "takenFromAccount", "(LPostLedger$Account;)J"⟩
abbrev cPL_rows : ByteArray := prog_1_method_13_code
def yPL_rows : MethodName := ⟨RPL, "rows", "()I"⟩
abbrev cPL_all : ByteArray := prog_1_method_14_code
def yPL_all : MethodName := ⟨RPL, "all", "()J"⟩
abbrev cPL_post : ByteArray := prog_1_method_5_code
def yPL_post : MethodName := ⟨RPL, "post", "(I)I"⟩
abbrev cBA_outcomeOfPosting : ByteArray := prog_3_method_9_code
def yBA_outcomeOfPosting : MethodName := ⟨RBA, "outcomeOfPosting", "()LPostLedger$Outcome;"⟩
abbrev cAL_isEmpty : ByteArray := prog_22_method_9_code
def yAL_isEmpty : MethodName := ⟨RAL, "isEmpty", "()Z"⟩
abbrev cBA_sumOfRows : ByteArray := prog_3_method_11_code
def yBA_sumOfRows : MethodName := ⟨RBA, "sumOfRows", "()J"⟩
abbrev cBA_breaksLimit : ByteArray := prog_3_method_10_code
def yBA_breaksLimit : MethodName := ⟨RBA, "breaksLimit", "(LPostLedger$Row;I)Z"⟩
abbrev cRW_takesFromCustomer : ByteArray := prog_5_method_2_code
def yRW_takesFromCustomer : MethodName := ⟨RRW, "takesFromCustomer", "()Z"⟩
abbrev cMO_init : ByteArray := prog_8_method_1_code
def yMO_init : MethodName := ⟨RMO, "<init>", "()V"⟩
abbrev cMO_thrown : ByteArray := prog_8_method_2_code
def yMO_thrown : MethodName := ⟨RMO, "thrown", "()I"⟩
abbrev cMO_account : ByteArray := prog_8_method_6_code
def yMO_account : MethodName := ⟨RMO, "account", "(II)I"⟩
abbrev cMO_isIn : ByteArray := prog_8_method_3_code
def yMO_isIn : MethodName := ⟨RMO, "isIn", "(JJJ)Z"⟩
abbrev cMO_batch : ByteArray := prog_8_method_8_code
def yMO_batch : MethodName := ⟨RMO, "batch", "(J)I"⟩
abbrev cMO_make : ByteArray := prog_8_method_7_code
def yMO_make : MethodName := ⟨RMO, "make", "(J)I"⟩
abbrev cMO_row : ByteArray := prog_8_method_10_code
def yMO_row : MethodName := ⟨RMO, "row", "(IIJ)Z"⟩
abbrev cMO_isBatch : ByteArray := prog_8_method_5_code
def yMO_isBatch : MethodName := ⟨RMO, "isBatch", "(I)Z"⟩
abbrev cMO_isAccount : ByteArray := prog_8_method_4_code
def yMO_isAccount : MethodName := ⟨RMO, "isAccount", "(I)Z"⟩
abbrev cMO_put : ByteArray := prog_8_method_9_code
def yMO_put : MethodName := ⟨RMO, "put", "(IIJ)V"⟩
abbrev cMO_post : ByteArray := prog_8_method_15_code
def yMO_post : MethodName := ⟨RMO, "post", "(I)I"⟩
abbrev cMO_go : ByteArray := prog_8_method_14_code
def yMO_go : MethodName := ⟨RMO, "go", "(I)I"⟩
abbrev cMO_stops : ByteArray := prog_8_method_13_code
def yMO_stops : MethodName := ⟨RMO, "stops", "(I)I"⟩
abbrev cMO_balanceOf : ByteArray := prog_8_method_12_code
def yMO_balanceOf : MethodName := ⟨RMO, "balanceOf", "(IJ)J"⟩
abbrev cMO_part : ByteArray := prog_8_method_11_code
def yMO_part : MethodName := ⟨RMO, "part", "(III)J"⟩
abbrev cMO_balance : ByteArray := prog_8_method_16_code
def yMO_balance : MethodName := ⟨RMO, "balance", "(IJ)J"⟩
abbrev cMO_close : ByteArray := prog_8_method_17_code
def yMO_close : MethodName := ⟨RMO, "close", "(J)I"⟩
abbrev cMO_reverse : ByteArray := prog_8_method_19_code
def yMO_reverse : MethodName := ⟨RMO, "reverse", "(I)I"⟩
abbrev cMO_batchOf : ByteArray := prog_8_method_18_code
def yMO_batchOf : MethodName := ⟨RMO, "batchOf", "(I)I"⟩
abbrev cMO_stock : ByteArray := prog_8_method_21_code
def yMO_stock : MethodName := ⟨RMO, "stock", "(IIJ)I"⟩
abbrev cMO_first : ByteArray := prog_8_method_20_code
def yMO_first : MethodName := ⟨RMO, "first", "(II)I"⟩
abbrev cMO_limit : ByteArray := prog_8_method_22_code
def yMO_limit : MethodName := ⟨RMO, "limit", "(IJ)I"⟩
abbrev cMO_fails : ByteArray := prog_8_method_23_code
def yMO_fails : MethodName := ⟨RMO, "fails", "(IZ)Z"⟩
abbrev cMO_hold : ByteArray := prog_8_method_24_code
def yMO_hold : MethodName := ⟨RMO, "hold", "(I)J"⟩
abbrev cMO_rows : ByteArray := prog_8_method_25_code
def yMO_rows : MethodName := ⟨RMO, "rows", "()I"⟩
abbrev cMO_all : ByteArray := prog_8_method_26_code
def yMO_all : MethodName := ⟨RMO, "all", "()J"⟩
def xTB : List Cond := lw_tbl.filter goodWord
theorem xTB_of {i : Nat} {w : Cond} (h : lw_tbl[i]? = some w) (hg : goodWord w = true) : w ∈ xTB := List.mem_filter.mpr ⟨List.mem_of_getElem? h, hg⟩
theorem xTB_good : ∀ w ∈ xTB, w ∈ xTB ∧ ((w.onTables && w.keeps) = true ∨ ∃ ty, w = .arrayClass ty) := fun w h => ⟨h, good_of_word (List.mem_filter.mp h).2⟩
theorem xTB_in : ∀ w ∈ xTB, w ∈ lw_tbl := fun _ h => (List.mem_filter.mp h).1
theorem inAL : ∀ w ∈ u_ws RAL TAL 3, w ∈ xTB := by
  intro w hw
  obtain ⟨k, hk, rfl⟩ := List.mem_map.mp hw
  have hk := List.mem_range.mp hk
  have h : ∀ k, k < 3 → lw_tbl[([77, 73, 75] : List Nat).getD k 0]? = some (u_lay RAL TAL k) ∧ goodWord (u_lay RAL TAL k) = true := by decide +kernel
  exact xTB_of (h k hk).1 (h k hk).2
theorem inAC : ∀ w ∈ u_ws RAC TAC 4, w ∈ xTB := by
  intro w hw
  obtain ⟨k, hk, rfl⟩ := List.mem_map.mp hw
  have hk := List.mem_range.mp hk
  have h : ∀ k, k < 4 → lw_tbl[([119, 121, 123, 125] : List Nat).getD k 0]? = some (u_lay RAC TAC k) ∧ goodWord (u_lay RAC TAC k) = true := by decide +kernel
  exact xTB_of (h k hk).1 (h k hk).2
theorem inBA : ∀ w ∈ u_ws RBA TBA 6, w ∈ xTB := by
  intro w hw
  obtain ⟨k, hk, rfl⟩ := List.mem_map.mp hw
  have hk := List.mem_range.mp hk
  have h : ∀ k, k < 6 → lw_tbl[([224, 226, 228, 230, 232, 234] : List Nat).getD k 0]? = some (u_lay RBA TBA k) ∧ goodWord (u_lay RBA TBA k) = true := by decide +kernel
  exact xTB_of (h k hk).1 (h k hk).2
theorem inRW : ∀ w ∈ u_ws RRW TRW 2, w ∈ xTB := by
  intro w hw
  obtain ⟨k, hk, rfl⟩ := List.mem_map.mp hw
  have hk := List.mem_range.mp hk
  have h : ∀ k, k < 2 → lw_tbl[([288, 290] : List Nat).getD k 0]? = some (u_lay RRW TRW k) ∧ goodWord (u_lay RRW TRW k) = true := by decide +kernel
  exact xTB_of (h k hk).1 (h k hk).2
theorem inPL : ∀ w ∈ u_ws RPL TPL 4, w ∈ xTB := by
  intro w hw
  obtain ⟨k, hk, rfl⟩ := List.mem_map.mp hw
  have hk := List.mem_range.mp hk
  have h : ∀ k, k < 4 → lw_tbl[([84, 86, 88, 90] : List Nat).getD k 0]? = some (u_lay RPL TPL k) ∧ goodWord (u_lay RPL TPL k) = true := by decide +kernel
  exact xTB_of (h k hk).1 (h k hk).2
theorem inMO : ∀ w ∈ u_ws RMO TMO 17, w ∈ xTB := by
  intro w hw
  obtain ⟨k, hk, rfl⟩ := List.mem_map.mp hw
  have hk := List.mem_range.mp hk
  have h : ∀ k, k < 17 → lw_tbl[([512, 514, 516, 518, 520, 522, 524, 526, 528, 530, 532, 534, 536, 538, 540, 542, 544] : List Nat).getD k 0]? = some (u_lay RMO TMO k) ∧ goodWord (u_lay RMO TMO k) = true := by decide +kernel
  exact xTB_of (h k hk).1 (h k hk).2
theorem xG_V {own : String} {idx : Nat} {C : String} {y : MethodName} {c : ByteArray} {n : Nat} {r : Option FieldType} (h1 : Cond.methodLink own idx y ∈ xTB) (h2 : Cond.instanceMethod y ∈ xTB) (h3 : Cond.selects C y y ∈ xTB) (h4 : Cond.initialized C ∈ xTB) (h5 : Cond.code y c n r ∈ xTB) : GoodIn xTB (wsV own idx C y (Cond.code y c n r :: xTB)) := by
  intro w hw
  refine xTB_good w ?_
  rcases List.mem_append.mp hw with h | h
  · simp only [List.mem_cons, List.not_mem_nil, or_false] at h
    rcases h with rfl | rfl | rfl | rfl <;> assumption
  · rcases List.mem_cons.mp h with rfl | h <;> assumption
theorem xG_S {own : String} {idx : Nat} {y : MethodName} {c : ByteArray} {n : Nat} {r : Option FieldType} (h1 : Cond.methodLink own idx y ∈ xTB) (h2 : Cond.static y ∈ xTB) (h4 : Cond.initialized y.cls ∈ xTB) (h5 : Cond.code y c n r ∈ xTB) : GoodIn xTB (va_wsS own idx y (Cond.code y c n r :: xTB)) := by
  intro w hw
  refine xTB_good w ?_
  rcases List.mem_append.mp hw with h | h
  · simp only [List.mem_cons, List.not_mem_nil, or_false] at h
    rcases h with rfl | rfl | rfl <;> assumption
  · rcases List.mem_cons.mp h with rfl | h <;> assumption
theorem xG_I {y : MethodName} {c : ByteArray} {n : Nat} {r : Option FieldType} (h5 : Cond.code y c n r ∈ xTB) : GoodIn xTB (Cond.code y c n r :: xTB) := by
  intro w hw
  refine xTB_good w ?_
  rcases List.mem_cons.mp hw with rfl | h <;> assumption
end
section
/-! The words, by their places in the table -/
theorem mw_0 : (Cond.methodLink RAN 1 objectInit : Cond) ∈ xTB := xTB_of (i := 65) (by decide +kernel) (by decide +kernel)
theorem mw_1 : (Cond.instanceMethod objectInit : Cond) ∈ xTB := xTB_of (i := 52) (by decide +kernel) (by decide +kernel)
theorem mw_2 : (Cond.code objectInit ⟨#[0xb1]⟩ 1 none : Cond) ∈ xTB := xTB_of (i := 53) (by decide +kernel) (by decide +kernel)
theorem mw_3 : (Cond.fieldLink RAB 7 "java/util/AbstractList" "modCount" "I" : Cond) ∈ xTB := xTB_of (i := 70) (by decide +kernel) (by decide +kernel)
theorem mw_4 : (Cond.methodLink RAB 1 yAN_init : Cond) ∈ xTB := xTB_of (i := 62) (by decide +kernel) (by decide +kernel)
theorem mw_5 : (Cond.code yAN_init cAN_init 1 none : Cond) ∈ xTB := xTB_of (i := 64) (by decide +kernel) (by decide +kernel)
theorem mw_6 : (Cond.initialized RAN : Cond) ∈ xTB := xTB_of (i := 26) (by decide +kernel) (by decide +kernel)
theorem mw_7 : (Cond.instanceMethod yAN_init : Cond) ∈ xTB := xTB_of (i := 63) (by decide +kernel) (by decide +kernel)
theorem mw_8 : (Cond.fieldLink RAL 9 "java/util/ArrayList" "elementData" "[Ljava/lang/Object;" : Cond) ∈ xTB := xTB_of (i := 68) (by decide +kernel) (by decide +kernel)
theorem mw_9 : (Cond.fieldLink RAL 39 "java/util/ArrayList" "DEFAULTCAPACITY_EMPTY_ELEMENTDATA" "[Ljava/lang/Object;" : Cond) ∈ xTB := xTB_of (i := 66) (by decide +kernel) (by decide +kernel)
theorem mw_10 : (Cond.methodLink RAL 1 yAB_init : Cond) ∈ xTB := xTB_of (i := 59) (by decide +kernel) (by decide +kernel)
theorem mw_11 : (Cond.code yAB_init cAB_init 1 none : Cond) ∈ xTB := xTB_of (i := 61) (by decide +kernel) (by decide +kernel)
theorem mw_12 : (Cond.initialized RAB : Cond) ∈ xTB := xTB_of (i := 27) (by decide +kernel) (by decide +kernel)
theorem mw_13 : (Cond.instanceMethod yAB_init : Cond) ∈ xTB := xTB_of (i := 60) (by decide +kernel) (by decide +kernel)
theorem mw_14 : (Cond.fieldLink RPL 23 "PostLedger" "postedRows" "I" : Cond) ∈ xTB := xTB_of (i := 83) (by decide +kernel) (by decide +kernel)
theorem mw_15 : (Cond.fieldLink RPL 19 "PostLedger" "firstOpenDay" "I" : Cond) ∈ xTB := xTB_of (i := 82) (by decide +kernel) (by decide +kernel)
theorem mw_16 : (Cond.fieldLink RPL 16 "PostLedger" "batches" "Ljava/util/ArrayList;" : Cond) ∈ xTB := xTB_of (i := 81) (by decide +kernel) (by decide +kernel)
theorem mw_17 : (Cond.methodLink RPL 9 yAL_init : Cond) ∈ xTB := xTB_of (i := 56) (by decide +kernel) (by decide +kernel)
theorem mw_18 : (Cond.code yAL_init cAL_init 1 none : Cond) ∈ xTB := xTB_of (i := 58) (by decide +kernel) (by decide +kernel)
theorem mw_19 : (Cond.initialized RAL : Cond) ∈ xTB := xTB_of (i := 28) (by decide +kernel) (by decide +kernel)
theorem mw_20 : (Cond.instanceMethod yAL_init : Cond) ∈ xTB := xTB_of (i := 57) (by decide +kernel) (by decide +kernel)
theorem mw_21 : (Cond.classLink RPL 7 RAL : Cond) ∈ xTB := xTB_of (i := 54) (by decide +kernel) (by decide +kernel)
theorem mw_22 : (Cond.instantiable RAL 3 : Cond) ∈ xTB := xTB_of (i := 55) (by decide +kernel) (by decide +kernel)
theorem mw_23 : (Cond.fieldLink RPL 10 "PostLedger" "accounts" "Ljava/util/ArrayList;" : Cond) ∈ xTB := xTB_of (i := 80) (by decide +kernel) (by decide +kernel)
theorem mw_24 : (Cond.methodLink RPL 1 objectInit : Cond) ∈ xTB := xTB_of (i := 51) (by decide +kernel) (by decide +kernel)
theorem mw_25 : (Cond.fieldLink RAL 48 "java/util/ArrayList" "size" "I" : Cond) ∈ xTB := xTB_of (i := 69) (by decide +kernel) (by decide +kernel)
theorem mw_26 : (Cond.fieldLink RAC 13 "PostLedger$Account" "kind" "I" : Cond) ∈ xTB := xTB_of (i := 113) (by decide +kernel) (by decide +kernel)
theorem mw_27 : (Cond.fieldLink RAC 7 "PostLedger$Account" "office" "I" : Cond) ∈ xTB := xTB_of (i := 112) (by decide +kernel) (by decide +kernel)
theorem mw_28 : (Cond.methodLink RAC 1 objectInit : Cond) ∈ xTB := xTB_of (i := 111) (by decide +kernel) (by decide +kernel)
theorem mw_29 : (Cond.constant RAS 200 2147483639 : Cond) ∈ xTB := xTB_of (i := 150) (by decide +kernel) (by decide +kernel)
theorem mw_30 : (Cond.methodLink RAS 201 yAS_hugeLength : Cond) ∈ xTB := xTB_of (i := 151) (by decide +kernel) (by decide +kernel)
theorem mw_31 : (Cond.static yAS_hugeLength : Cond) ∈ xTB := xTB_of (i := 152) (by decide +kernel) (by decide +kernel)
theorem mw_32 : (Cond.initialized RAS : Cond) ∈ xTB := xTB_of (i := 31) (by decide +kernel) (by decide +kernel)
theorem mw_33 : (Cond.code yAS_hugeLength cAS_hugeLength 3 (some (.int)) : Cond) ∈ xTB := xTB_of (i := 153) (by decide +kernel) (by decide +kernel)
theorem mw_34 : (Cond.code Lib.Math.max.name Lib.Math.max.code 2 (some .int) : Cond) ∈ xTB := xTB_of (i := 149) (by decide +kernel) (by decide +kernel)
theorem mw_35 : (Cond.methodLink RAS 194 yMA_max : Cond) ∈ xTB := xTB_of (i := 147) (by decide +kernel) (by decide +kernel)
theorem mw_36 : (Cond.static yMA_max : Cond) ∈ xTB := xTB_of (i := 148) (by decide +kernel) (by decide +kernel)
theorem mw_37 : (Cond.initialized RMA : Cond) ∈ xTB := xTB_of (i := 32) (by decide +kernel) (by decide +kernel)
theorem mw_38 : (Cond.methodLink RAR 150 ⟨"java/lang/System", "arraycopy", "(Ljava/lang/Object;ILjava/lang/Object;II)V"⟩ : Cond) ∈ xTB := xTB_of (i := 179) (by decide +kernel) (by decide +kernel)
theorem mw_39 : (Cond.native ⟨"java/lang/System", "arraycopy", "(Ljava/lang/Object;ILjava/lang/Object;II)V"⟩ : Cond) ∈ xTB := xTB_of (i := 181) (by decide +kernel) (by decide +kernel)
theorem mw_40 : (Cond.static ⟨"java/lang/System", "arraycopy", "(Ljava/lang/Object;ILjava/lang/Object;II)V"⟩ : Cond) ∈ xTB := xTB_of (i := 180) (by decide +kernel) (by decide +kernel)
theorem mw_41 : (Cond.initialized "java/lang/System" : Cond) ∈ xTB := xTB_of (i := 34) (by decide +kernel) (by decide +kernel)
theorem mw_42 : (Cond.code Lib.Math.min.name Lib.Math.min.code 2 (some .int) : Cond) ∈ xTB := xTB_of (i := 178) (by decide +kernel) (by decide +kernel)
theorem mw_43 : (Cond.methodLink RAR 304 yMA_min : Cond) ∈ xTB := xTB_of (i := 176) (by decide +kernel) (by decide +kernel)
theorem mw_44 : (Cond.static yMA_min : Cond) ∈ xTB := xTB_of (i := 177) (by decide +kernel) (by decide +kernel)
theorem mw_45 : (Cond.classLink RAR 2 ROJ : Cond) ∈ xTB := xTB_of (i := 175) (by decide +kernel) (by decide +kernel)
theorem mw_46 : (Cond.classLink RAR 110 "[Ljava/lang/Object;" : Cond) ∈ xTB := xTB_of (i := 173) (by decide +kernel) (by decide +kernel)
theorem mw_47 : (Cond.methodLink RAR 300 yAR_copyOf2 : Cond) ∈ xTB := xTB_of (i := 170) (by decide +kernel) (by decide +kernel)
theorem mw_48 : (Cond.static yAR_copyOf2 : Cond) ∈ xTB := xTB_of (i := 171) (by decide +kernel) (by decide +kernel)
theorem mw_49 : (Cond.initialized RAR : Cond) ∈ xTB := xTB_of (i := 33) (by decide +kernel) (by decide +kernel)
theorem mw_50 : (Cond.code yAR_copyOf2 cAR_copyOf2 4 (some (.array (.object "java/lang/Object"))) : Cond) ∈ xTB := xTB_of (i := 172) (by decide +kernel) (by decide +kernel)
theorem mw_51 : (Cond.methodLink RAR 86 ⟨"java/lang/Object", "getClass", "()Ljava/lang/Class;"⟩ : Cond) ∈ xTB := xTB_of (i := 157) (by decide +kernel) (by decide +kernel)
theorem mw_52 : (Cond.selects "[Ljava/lang/Object;" ⟨"java/lang/Object", "getClass", "()Ljava/lang/Class;"⟩ ⟨"java/lang/Object", "getClass", "()Ljava/lang/Class;"⟩ : Cond) ∈ xTB := xTB_of (i := 669) (by decide +kernel) (by decide +kernel)
theorem mw_53 : (Cond.instanceMethod ⟨"java/lang/Object", "getClass", "()Ljava/lang/Class;"⟩ : Cond) ∈ xTB := xTB_of (i := 158) (by decide +kernel) (by decide +kernel)
theorem mw_54 : (Cond.native ⟨"java/lang/Object", "getClass", "()Ljava/lang/Class;"⟩ : Cond) ∈ xTB := xTB_of (i := 169) (by decide +kernel) (by decide +kernel)
theorem mw_55 : (Cond.methodLink RAL 66 yAR_copyOf : Cond) ∈ xTB := xTB_of (i := 154) (by decide +kernel) (by decide +kernel)
theorem mw_56 : (Cond.static yAR_copyOf : Cond) ∈ xTB := xTB_of (i := 155) (by decide +kernel) (by decide +kernel)
theorem mw_57 : (Cond.code yAR_copyOf cAR_copyOf 2 (some (.array (.object "java/lang/Object"))) : Cond) ∈ xTB := xTB_of (i := 156) (by decide +kernel) (by decide +kernel)
theorem mw_58 : (Cond.methodLink RAL 73 yAS_newLength : Cond) ∈ xTB := xTB_of (i := 144) (by decide +kernel) (by decide +kernel)
theorem mw_59 : (Cond.static yAS_newLength : Cond) ∈ xTB := xTB_of (i := 145) (by decide +kernel) (by decide +kernel)
theorem mw_60 : (Cond.code yAS_newLength cAS_newLength 4 (some (.int)) : Cond) ∈ xTB := xTB_of (i := 146) (by decide +kernel) (by decide +kernel)
theorem mw_61 : (Cond.classLink RAL 7 ROJ : Cond) ∈ xTB := xTB_of (i := 183) (by decide +kernel) (by decide +kernel)
theorem mw_62 : (Cond.methodLink RAL 79 yMA_max : Cond) ∈ xTB := xTB_of (i := 182) (by decide +kernel) (by decide +kernel)
theorem mw_63 : (Cond.methodLink RAL 69 yAL_grow2 : Cond) ∈ xTB := xTB_of (i := 140) (by decide +kernel) (by decide +kernel)
theorem mw_64 : (Cond.instanceMethod yAL_grow2 : Cond) ∈ xTB := xTB_of (i := 142) (by decide +kernel) (by decide +kernel)
theorem mw_65 : (Cond.selects RAL yAL_grow2 yAL_grow2 : Cond) ∈ xTB := xTB_of (i := 2) (by decide +kernel) (by decide +kernel)
theorem mw_66 : (Cond.code yAL_grow2 cAL_grow2 4 (some (.array (.object "java/lang/Object"))) : Cond) ∈ xTB := xTB_of (i := 143) (by decide +kernel) (by decide +kernel)
theorem mw_67 : (Cond.methodLink RAL 129 yAL_grow : Cond) ∈ xTB := xTB_of (i := 136) (by decide +kernel) (by decide +kernel)
theorem mw_68 : (Cond.instanceMethod yAL_grow : Cond) ∈ xTB := xTB_of (i := 138) (by decide +kernel) (by decide +kernel)
theorem mw_69 : (Cond.selects RAL yAL_grow yAL_grow : Cond) ∈ xTB := xTB_of (i := 1) (by decide +kernel) (by decide +kernel)
theorem mw_70 : (Cond.code yAL_grow cAL_grow 1 (some (.array (.object "java/lang/Object"))) : Cond) ∈ xTB := xTB_of (i := 139) (by decide +kernel) (by decide +kernel)
theorem mw_71 : (Cond.methodLink RAL 131 yAL_add2 : Cond) ∈ xTB := xTB_of (i := 132) (by decide +kernel) (by decide +kernel)
theorem mw_72 : (Cond.instanceMethod yAL_add2 : Cond) ∈ xTB := xTB_of (i := 134) (by decide +kernel) (by decide +kernel)
theorem mw_73 : (Cond.selects RAL yAL_add2 yAL_add2 : Cond) ∈ xTB := xTB_of (i := 0) (by decide +kernel) (by decide +kernel)
theorem mw_74 : (Cond.code yAL_add2 cAL_add2 4 none : Cond) ∈ xTB := xTB_of (i := 135) (by decide +kernel) (by decide +kernel)
theorem mw_75 : (Cond.fieldLink RAL 63 "java/util/ArrayList" "modCount" "I" : Cond) ∈ xTB := xTB_of (i := 71) (by decide +kernel) (by decide +kernel)
theorem mw_76 : (Cond.sameField "java/util/ArrayList" "java/util/AbstractList" "modCount" "I" : Cond) ∈ xTB := xTB_of (i := 72) (by decide +kernel) (by decide +kernel)
theorem mw_77 : (Cond.constant RPL 30 (-2000000002) : Cond) ∈ xTB := xTB_of (i := 100) (by decide +kernel) (by decide +kernel)
theorem mw_78 : (Cond.methodLink RPL 31 yAL_size : Cond) ∈ xTB := xTB_of (i := 101) (by decide +kernel) (by decide +kernel)
theorem mw_79 : (Cond.instanceMethod yAL_size : Cond) ∈ xTB := xTB_of (i := 102) (by decide +kernel) (by decide +kernel)
theorem mw_80 : (Cond.selects RAL yAL_size yAL_size : Cond) ∈ xTB := xTB_of (i := 103) (by decide +kernel) (by decide +kernel)
theorem mw_81 : (Cond.code yAL_size cAL_size 1 (some (.int)) : Cond) ∈ xTB := xTB_of (i := 104) (by decide +kernel) (by decide +kernel)
theorem mw_82 : (Cond.methodLink RPL 41 yAL_add : Cond) ∈ xTB := xTB_of (i := 128) (by decide +kernel) (by decide +kernel)
theorem mw_83 : (Cond.instanceMethod yAL_add : Cond) ∈ xTB := xTB_of (i := 129) (by decide +kernel) (by decide +kernel)
theorem mw_84 : (Cond.selects RAL yAL_add yAL_add : Cond) ∈ xTB := xTB_of (i := 130) (by decide +kernel) (by decide +kernel)
theorem mw_85 : (Cond.code yAL_add cAL_add 2 (some (.boolean)) : Cond) ∈ xTB := xTB_of (i := 131) (by decide +kernel) (by decide +kernel)
theorem mw_86 : (Cond.methodLink RPL 38 yAC_init : Cond) ∈ xTB := xTB_of (i := 108) (by decide +kernel) (by decide +kernel)
theorem mw_87 : (Cond.code yAC_init cAC_init 3 none : Cond) ∈ xTB := xTB_of (i := 110) (by decide +kernel) (by decide +kernel)
theorem mw_88 : (Cond.initialized RAC : Cond) ∈ xTB := xTB_of (i := 30) (by decide +kernel) (by decide +kernel)
theorem mw_89 : (Cond.instanceMethod yAC_init : Cond) ∈ xTB := xTB_of (i := 109) (by decide +kernel) (by decide +kernel)
theorem mw_90 : (Cond.classLink RPL 36 RAC : Cond) ∈ xTB := xTB_of (i := 106) (by decide +kernel) (by decide +kernel)
theorem mw_91 : (Cond.instantiable RAC 4 : Cond) ∈ xTB := xTB_of (i := 107) (by decide +kernel) (by decide +kernel)
theorem mw_92 : (Cond.constant RPL 35 (-2000000004) : Cond) ∈ xTB := xTB_of (i := 105) (by decide +kernel) (by decide +kernel)
theorem mw_93 : (Cond.methodLink RPL 26 yPL_isOffice : Cond) ∈ xTB := xTB_of (i := 97) (by decide +kernel) (by decide +kernel)
theorem mw_94 : (Cond.static yPL_isOffice : Cond) ∈ xTB := xTB_of (i := 98) (by decide +kernel) (by decide +kernel)
theorem mw_95 : (Cond.initialized RPL : Cond) ∈ xTB := xTB_of (i := 25) (by decide +kernel) (by decide +kernel)
theorem mw_96 : (Cond.code yPL_isOffice cPL_isOffice 1 (some (.boolean)) : Cond) ∈ xTB := xTB_of (i := 99) (by decide +kernel) (by decide +kernel)
theorem mw_97 : (Cond.methodLink RPL 80 yPL_isWithin : Cond) ∈ xTB := xTB_of (i := 192) (by decide +kernel) (by decide +kernel)
theorem mw_98 : (Cond.static yPL_isWithin : Cond) ∈ xTB := xTB_of (i := 193) (by decide +kernel) (by decide +kernel)
theorem mw_99 : (Cond.code yPL_isWithin cPL_isWithin 6 (some (.boolean)) : Cond) ∈ xTB := xTB_of (i := 194) (by decide +kernel) (by decide +kernel)
theorem mw_100 : (Cond.constantLong RPL 180 20000 : Cond) ∈ xTB := xTB_of (i := 191) (by decide +kernel) (by decide +kernel)
theorem mw_101 : (Cond.fieldLink RBA 28 "PostLedger$Batch" "standing" "LPostLedger$Standing;" : Cond) ∈ xTB := xTB_of (i := 217) (by decide +kernel) (by decide +kernel)
theorem mw_102 : (Cond.fieldLink RBA 22 "PostLedger$Standing" "OPEN" "LPostLedger$Standing;" : Cond) ∈ xTB := xTB_of (i := 212) (by decide +kernel) (by decide +kernel)
theorem mw_103 : (Cond.fieldLink RBA 18 "PostLedger$Batch" "rows" "Ljava/util/ArrayList;" : Cond) ∈ xTB := xTB_of (i := 216) (by decide +kernel) (by decide +kernel)
theorem mw_104 : (Cond.methodLink RBA 17 yAL_init : Cond) ∈ xTB := xTB_of (i := 211) (by decide +kernel) (by decide +kernel)
theorem mw_105 : (Cond.classLink RBA 15 RAL : Cond) ∈ xTB := xTB_of (i := 210) (by decide +kernel) (by decide +kernel)
theorem mw_106 : (Cond.fieldLink RBA 9 "PostLedger$Batch" "day" "I" : Cond) ∈ xTB := xTB_of (i := 214) (by decide +kernel) (by decide +kernel)
theorem mw_107 : (Cond.methodLink RBA 3 objectInit : Cond) ∈ xTB := xTB_of (i := 209) (by decide +kernel) (by decide +kernel)
theorem mw_108 : (Cond.methodLink RPL 59 yBA_init : Cond) ∈ xTB := xTB_of (i := 206) (by decide +kernel) (by decide +kernel)
theorem mw_109 : (Cond.code yBA_init cBA_init 2 none : Cond) ∈ xTB := xTB_of (i := 208) (by decide +kernel) (by decide +kernel)
theorem mw_110 : (Cond.initialized RBA : Cond) ∈ xTB := xTB_of (i := 35) (by decide +kernel) (by decide +kernel)
theorem mw_111 : (Cond.instanceMethod yBA_init : Cond) ∈ xTB := xTB_of (i := 207) (by decide +kernel) (by decide +kernel)
theorem mw_112 : (Cond.classLink RPL 57 RBA : Cond) ∈ xTB := xTB_of (i := 204) (by decide +kernel) (by decide +kernel)
theorem mw_113 : (Cond.instantiable RBA 6 : Cond) ∈ xTB := xTB_of (i := 205) (by decide +kernel) (by decide +kernel)
theorem mw_114 : (Cond.methodLink RPL 53 yPL_hasRoomForBatch : Cond) ∈ xTB := xTB_of (i := 200) (by decide +kernel) (by decide +kernel)
theorem mw_115 : (Cond.instanceMethod yPL_hasRoomForBatch : Cond) ∈ xTB := xTB_of (i := 202) (by decide +kernel) (by decide +kernel)
theorem mw_116 : (Cond.selects RPL yPL_hasRoomForBatch yPL_hasRoomForBatch : Cond) ∈ xTB := xTB_of (i := 4) (by decide +kernel) (by decide +kernel)
theorem mw_117 : (Cond.code yPL_hasRoomForBatch cPL_hasRoomForBatch 1 (some (.boolean)) : Cond) ∈ xTB := xTB_of (i := 203) (by decide +kernel) (by decide +kernel)
theorem mw_118 : (Cond.constant RPL 52 (-2000000003) : Cond) ∈ xTB := xTB_of (i := 199) (by decide +kernel) (by decide +kernel)
theorem mw_119 : (Cond.methodLink RPL 49 yPL_isClosed : Cond) ∈ xTB := xTB_of (i := 195) (by decide +kernel) (by decide +kernel)
theorem mw_120 : (Cond.instanceMethod yPL_isClosed : Cond) ∈ xTB := xTB_of (i := 197) (by decide +kernel) (by decide +kernel)
theorem mw_121 : (Cond.selects RPL yPL_isClosed yPL_isClosed : Cond) ∈ xTB := xTB_of (i := 3) (by decide +kernel) (by decide +kernel)
theorem mw_122 : (Cond.code yPL_isClosed cPL_isClosed 3 (some (.boolean)) : Cond) ∈ xTB := xTB_of (i := 198) (by decide +kernel) (by decide +kernel)
theorem mw_123 : (Cond.methodLink RPL 45 yPL_isDay : Cond) ∈ xTB := xTB_of (i := 188) (by decide +kernel) (by decide +kernel)
theorem mw_124 : (Cond.static yPL_isDay : Cond) ∈ xTB := xTB_of (i := 189) (by decide +kernel) (by decide +kernel)
theorem mw_125 : (Cond.code yPL_isDay cPL_isDay 2 (some (.boolean)) : Cond) ∈ xTB := xTB_of (i := 190) (by decide +kernel) (by decide +kernel)
theorem mw_126 : (Cond.methodLink ROB 105 yPC_checkIndex : Cond) ∈ xTB := xTB_of (i := 252) (by decide +kernel) (by decide +kernel)
theorem mw_127 : (Cond.static yPC_checkIndex : Cond) ∈ xTB := xTB_of (i := 253) (by decide +kernel) (by decide +kernel)
theorem mw_128 : (Cond.initialized RPC : Cond) ∈ xTB := xTB_of (i := 39) (by decide +kernel) (by decide +kernel)
theorem mw_129 : (Cond.code yPC_checkIndex cPC_checkIndex 3 (some (.int)) : Cond) ∈ xTB := xTB_of (i := 254) (by decide +kernel) (by decide +kernel)
theorem mw_130 : (Cond.methodLink RAL 123 yAL_elementData : Cond) ∈ xTB := xTB_of (i := 255) (by decide +kernel) (by decide +kernel)
theorem mw_131 : (Cond.instanceMethod yAL_elementData : Cond) ∈ xTB := xTB_of (i := 256) (by decide +kernel) (by decide +kernel)
theorem mw_132 : (Cond.selects RAL yAL_elementData yAL_elementData : Cond) ∈ xTB := xTB_of (i := 257) (by decide +kernel) (by decide +kernel)
theorem mw_133 : (Cond.code yAL_elementData cAL_elementData 2 (some (.object "java/lang/Object")) : Cond) ∈ xTB := xTB_of (i := 258) (by decide +kernel) (by decide +kernel)
theorem mw_134 : (Cond.methodLink RAL 118 yOB_checkIndex : Cond) ∈ xTB := xTB_of (i := 249) (by decide +kernel) (by decide +kernel)
theorem mw_135 : (Cond.static yOB_checkIndex : Cond) ∈ xTB := xTB_of (i := 250) (by decide +kernel) (by decide +kernel)
theorem mw_136 : (Cond.initialized ROB : Cond) ∈ xTB := xTB_of (i := 38) (by decide +kernel) (by decide +kernel)
theorem mw_137 : (Cond.code yOB_checkIndex cOB_checkIndex 2 (some (.int)) : Cond) ∈ xTB := xTB_of (i := 251) (by decide +kernel) (by decide +kernel)
theorem mw_138 : (Cond.methodLink RPL 127 yAL_get : Cond) ∈ xTB := xTB_of (i := 245) (by decide +kernel) (by decide +kernel)
theorem mw_139 : (Cond.instanceMethod yAL_get : Cond) ∈ xTB := xTB_of (i := 246) (by decide +kernel) (by decide +kernel)
theorem mw_140 : (Cond.selects RAL yAL_get yAL_get : Cond) ∈ xTB := xTB_of (i := 247) (by decide +kernel) (by decide +kernel)
theorem mw_141 : (Cond.code yAL_get cAL_get 2 (some (.object "java/lang/Object")) : Cond) ∈ xTB := xTB_of (i := 248) (by decide +kernel) (by decide +kernel)
theorem mw_142 : (Cond.methodLink RBA 31 yAL_size : Cond) ∈ xTB := xTB_of (i := 271) (by decide +kernel) (by decide +kernel)
theorem mw_143 : (Cond.fieldLink RRW 15 "PostLedger$Row" "cents" "J" : Cond) ∈ xTB := xTB_of (i := 286) (by decide +kernel) (by decide +kernel)
theorem mw_144 : (Cond.fieldLink RRW 9 "PostLedger$Row" "account" "LPostLedger$Account;" : Cond) ∈ xTB := xTB_of (i := 284) (by decide +kernel) (by decide +kernel)
theorem mw_145 : (Cond.methodLink RRW 3 objectInit : Cond) ∈ xTB := xTB_of (i := 283) (by decide +kernel) (by decide +kernel)
theorem mw_146 : (Cond.methodLink RBA 43 yAL_add : Cond) ∈ xTB := xTB_of (i := 293) (by decide +kernel) (by decide +kernel)
theorem mw_147 : (Cond.methodLink RBA 40 yRW_init : Cond) ∈ xTB := xTB_of (i := 280) (by decide +kernel) (by decide +kernel)
theorem mw_148 : (Cond.code yRW_init cRW_init 4 none : Cond) ∈ xTB := xTB_of (i := 282) (by decide +kernel) (by decide +kernel)
theorem mw_149 : (Cond.initialized RRW : Cond) ∈ xTB := xTB_of (i := 40) (by decide +kernel) (by decide +kernel)
theorem mw_150 : (Cond.instanceMethod yRW_init : Cond) ∈ xTB := xTB_of (i := 281) (by decide +kernel) (by decide +kernel)
theorem mw_151 : (Cond.classLink RBA 38 RRW : Cond) ∈ xTB := xTB_of (i := 278) (by decide +kernel) (by decide +kernel)
theorem mw_152 : (Cond.instantiable RRW 2 : Cond) ∈ xTB := xTB_of (i := 279) (by decide +kernel) (by decide +kernel)
theorem mw_153 : (Cond.methodLink RPL 84 yBA_addRow : Cond) ∈ xTB := xTB_of (i := 274) (by decide +kernel) (by decide +kernel)
theorem mw_154 : (Cond.instanceMethod yBA_addRow : Cond) ∈ xTB := xTB_of (i := 275) (by decide +kernel) (by decide +kernel)
theorem mw_155 : (Cond.selects RBA yBA_addRow yBA_addRow : Cond) ∈ xTB := xTB_of (i := 276) (by decide +kernel) (by decide +kernel)
theorem mw_156 : (Cond.code yBA_addRow cBA_addRow 4 none : Cond) ∈ xTB := xTB_of (i := 277) (by decide +kernel) (by decide +kernel)
theorem mw_157 : (Cond.constantLong RPL 78 100000000 : Cond) ∈ xTB := xTB_of (i := 273) (by decide +kernel) (by decide +kernel)
theorem mw_158 : (Cond.constantLong RPL 76 (-100000000) : Cond) ∈ xTB := xTB_of (i := 272) (by decide +kernel) (by decide +kernel)
theorem mw_159 : (Cond.methodLink RPL 73 yBA_isFull : Cond) ∈ xTB := xTB_of (i := 267) (by decide +kernel) (by decide +kernel)
theorem mw_160 : (Cond.instanceMethod yBA_isFull : Cond) ∈ xTB := xTB_of (i := 268) (by decide +kernel) (by decide +kernel)
theorem mw_161 : (Cond.selects RBA yBA_isFull yBA_isFull : Cond) ∈ xTB := xTB_of (i := 269) (by decide +kernel) (by decide +kernel)
theorem mw_162 : (Cond.code yBA_isFull cBA_isFull 1 (some (.boolean)) : Cond) ∈ xTB := xTB_of (i := 270) (by decide +kernel) (by decide +kernel)
theorem mw_163 : (Cond.methodLink RPL 70 yBA_isOpen : Cond) ∈ xTB := xTB_of (i := 263) (by decide +kernel) (by decide +kernel)
theorem mw_164 : (Cond.instanceMethod yBA_isOpen : Cond) ∈ xTB := xTB_of (i := 264) (by decide +kernel) (by decide +kernel)
theorem mw_165 : (Cond.selects RBA yBA_isOpen yBA_isOpen : Cond) ∈ xTB := xTB_of (i := 265) (by decide +kernel) (by decide +kernel)
theorem mw_166 : (Cond.code yBA_isOpen cBA_isOpen 1 (some (.boolean)) : Cond) ∈ xTB := xTB_of (i := 266) (by decide +kernel) (by decide +kernel)
theorem mw_167 : (Cond.methodLink RPL 66 yPL_findAccount : Cond) ∈ xTB := xTB_of (i := 259) (by decide +kernel) (by decide +kernel)
theorem mw_168 : (Cond.instanceMethod yPL_findAccount : Cond) ∈ xTB := xTB_of (i := 261) (by decide +kernel) (by decide +kernel)
theorem mw_169 : (Cond.selects RPL yPL_findAccount yPL_findAccount : Cond) ∈ xTB := xTB_of (i := 6) (by decide +kernel) (by decide +kernel)
theorem mw_170 : (Cond.code yPL_findAccount cPL_findAccount 2 (some (.object "PostLedger$Account")) : Cond) ∈ xTB := xTB_of (i := 262) (by decide +kernel) (by decide +kernel)
theorem mw_171 : (Cond.methodLink RPL 62 yPL_findBatch : Cond) ∈ xTB := xTB_of (i := 241) (by decide +kernel) (by decide +kernel)
theorem mw_172 : (Cond.instanceMethod yPL_findBatch : Cond) ∈ xTB := xTB_of (i := 243) (by decide +kernel) (by decide +kernel)
theorem mw_173 : (Cond.selects RPL yPL_findBatch yPL_findBatch : Cond) ∈ xTB := xTB_of (i := 5) (by decide +kernel) (by decide +kernel)
theorem mw_174 : (Cond.code yPL_findBatch cPL_findBatch 2 (some (.object "PostLedger$Batch")) : Cond) ∈ xTB := xTB_of (i := 244) (by decide +kernel) (by decide +kernel)
theorem mw_175 : (Cond.fieldLink RBA 55 "PostLedger$Row" "cents" "J" : Cond) ∈ xTB := xTB_of (i := 287) (by decide +kernel) (by decide +kernel)
theorem mw_176 : (Cond.fieldLink RBA 51 "PostLedger$Row" "account" "LPostLedger$Account;" : Cond) ∈ xTB := xTB_of (i := 285) (by decide +kernel) (by decide +kernel)
theorem mw_177 : (Cond.methodLink RBA 47 yAL_get : Cond) ∈ xTB := xTB_of (i := 309) (by decide +kernel) (by decide +kernel)
theorem mw_178 : (Cond.methodLink RPL 134 yBA_sumForAccount : Cond) ∈ xTB := xTB_of (i := 305) (by decide +kernel) (by decide +kernel)
theorem mw_179 : (Cond.instanceMethod yBA_sumForAccount : Cond) ∈ xTB := xTB_of (i := 306) (by decide +kernel) (by decide +kernel)
theorem mw_180 : (Cond.selects RBA yBA_sumForAccount yBA_sumForAccount : Cond) ∈ xTB := xTB_of (i := 307) (by decide +kernel) (by decide +kernel)
theorem mw_181 : (Cond.code yBA_sumForAccount cBA_sumForAccount 7 (some (.long)) : Cond) ∈ xTB := xTB_of (i := 308) (by decide +kernel) (by decide +kernel)
theorem mw_182 : (Cond.methodLink RPL 133 yBA_size : Cond) ∈ xTB := xTB_of (i := 301) (by decide +kernel) (by decide +kernel)
theorem mw_183 : (Cond.instanceMethod yBA_size : Cond) ∈ xTB := xTB_of (i := 302) (by decide +kernel) (by decide +kernel)
theorem mw_184 : (Cond.selects RBA yBA_size yBA_size : Cond) ∈ xTB := xTB_of (i := 303) (by decide +kernel) (by decide +kernel)
theorem mw_185 : (Cond.code yBA_size cBA_size 1 (some (.int)) : Cond) ∈ xTB := xTB_of (i := 304) (by decide +kernel) (by decide +kernel)
theorem mw_186 : (Cond.fieldLink RPL 89 "PostLedger$Batch" "day" "I" : Cond) ∈ xTB := xTB_of (i := 215) (by decide +kernel) (by decide +kernel)
theorem mw_187 : (Cond.fieldLink RPL 131 "PostLedger$Standing" "POSTED" "LPostLedger$Standing;" : Cond) ∈ xTB := xTB_of (i := 299) (by decide +kernel) (by decide +kernel)
theorem mw_188 : (Cond.fieldLink RPL 112 "PostLedger$Batch" "standing" "LPostLedger$Standing;" : Cond) ∈ xTB := xTB_of (i := 218) (by decide +kernel) (by decide +kernel)
theorem mw_189 : (Cond.constantLong RPL 125 (-2000000001) : Cond) ∈ xTB := xTB_of (i := 298) (by decide +kernel) (by decide +kernel)
theorem mw_190 : (Cond.fieldLink RBA 35 "PostLedger$Batch" "firstRowNumber" "I" : Cond) ∈ xTB := xTB_of (i := 222) (by decide +kernel) (by decide +kernel)
theorem mw_191 : (Cond.methodLink RPL 182 yBA_hasRowNumber : Cond) ∈ xTB := xTB_of (i := 322) (by decide +kernel) (by decide +kernel)
theorem mw_192 : (Cond.instanceMethod yBA_hasRowNumber : Cond) ∈ xTB := xTB_of (i := 323) (by decide +kernel) (by decide +kernel)
theorem mw_193 : (Cond.selects RBA yBA_hasRowNumber yBA_hasRowNumber : Cond) ∈ xTB := xTB_of (i := 324) (by decide +kernel) (by decide +kernel)
theorem mw_194 : (Cond.code yBA_hasRowNumber cBA_hasRowNumber 2 (some (.boolean)) : Cond) ∈ xTB := xTB_of (i := 325) (by decide +kernel) (by decide +kernel)
theorem mw_195 : (Cond.methodLink RBA 59 yBA_addRow : Cond) ∈ xTB := xTB_of (i := 331) (by decide +kernel) (by decide +kernel)
theorem mw_196 : (Cond.fieldLink RBA 62 "PostLedger$Account" "total" "J" : Cond) ∈ xTB := xTB_of (i := 117) (by decide +kernel) (by decide +kernel)
theorem mw_197 : (Cond.methodLink RPL 192 yBA_addToTotals : Cond) ∈ xTB := xTB_of (i := 336) (by decide +kernel) (by decide +kernel)
theorem mw_198 : (Cond.instanceMethod yBA_addToTotals : Cond) ∈ xTB := xTB_of (i := 337) (by decide +kernel) (by decide +kernel)
theorem mw_199 : (Cond.selects RBA yBA_addToTotals yBA_addToTotals : Cond) ∈ xTB := xTB_of (i := 338) (by decide +kernel) (by decide +kernel)
theorem mw_200 : (Cond.code yBA_addToTotals cBA_addToTotals 3 none : Cond) ∈ xTB := xTB_of (i := 339) (by decide +kernel) (by decide +kernel)
theorem mw_201 : (Cond.fieldLink RPL 189 "PostLedger$Batch" "firstRowNumber" "I" : Cond) ∈ xTB := xTB_of (i := 223) (by decide +kernel) (by decide +kernel)
theorem mw_202 : (Cond.methodLink RPL 102 yPL_enterIntoBooks : Cond) ∈ xTB := xTB_of (i := 332) (by decide +kernel) (by decide +kernel)
theorem mw_203 : (Cond.instanceMethod yPL_enterIntoBooks : Cond) ∈ xTB := xTB_of (i := 334) (by decide +kernel) (by decide +kernel)
theorem mw_204 : (Cond.selects RPL yPL_enterIntoBooks yPL_enterIntoBooks : Cond) ∈ xTB := xTB_of (i := 8) (by decide +kernel) (by decide +kernel)
theorem mw_205 : (Cond.code yPL_enterIntoBooks cPL_enterIntoBooks 2 none : Cond) ∈ xTB := xTB_of (i := 335) (by decide +kernel) (by decide +kernel)
theorem mw_206 : (Cond.fieldLink RPL 141 "PostLedger$Batch" "isPartOfReversal" "Z" : Cond) ∈ xTB := xTB_of (i := 221) (by decide +kernel) (by decide +kernel)
theorem mw_207 : (Cond.methodLink RPL 151 yBA_addRowsWithOtherSign : Cond) ∈ xTB := xTB_of (i := 327) (by decide +kernel) (by decide +kernel)
theorem mw_208 : (Cond.instanceMethod yBA_addRowsWithOtherSign : Cond) ∈ xTB := xTB_of (i := 328) (by decide +kernel) (by decide +kernel)
theorem mw_209 : (Cond.selects RBA yBA_addRowsWithOtherSign yBA_addRowsWithOtherSign : Cond) ∈ xTB := xTB_of (i := 329) (by decide +kernel) (by decide +kernel)
theorem mw_210 : (Cond.code yBA_addRowsWithOtherSign cBA_addRowsWithOtherSign 5 none : Cond) ∈ xTB := xTB_of (i := 330) (by decide +kernel) (by decide +kernel)
theorem mw_211 : (Cond.methodLink RPL 145 yMA_max : Cond) ∈ xTB := xTB_of (i := 326) (by decide +kernel) (by decide +kernel)
theorem mw_212 : (Cond.methodLink RPL 138 yPL_findBatchOfRow : Cond) ∈ xTB := xTB_of (i := 318) (by decide +kernel) (by decide +kernel)
theorem mw_213 : (Cond.instanceMethod yPL_findBatchOfRow : Cond) ∈ xTB := xTB_of (i := 320) (by decide +kernel) (by decide +kernel)
theorem mw_214 : (Cond.selects RPL yPL_findBatchOfRow yPL_findBatchOfRow : Cond) ∈ xTB := xTB_of (i := 7) (by decide +kernel) (by decide +kernel)
theorem mw_215 : (Cond.code yPL_findBatchOfRow cPL_findBatchOfRow 4 (some (.object "PostLedger$Batch")) : Cond) ∈ xTB := xTB_of (i := 321) (by decide +kernel) (by decide +kernel)
theorem mw_216 : (Cond.fieldLink RPL 176 "PostLedger$Account" "total" "J" : Cond) ∈ xTB := xTB_of (i := 118) (by decide +kernel) (by decide +kernel)
theorem mw_217 : (Cond.methodLink RPL 185 yAC_isOfKind : Cond) ∈ xTB := xTB_of (i := 348) (by decide +kernel) (by decide +kernel)
theorem mw_218 : (Cond.instanceMethod yAC_isOfKind : Cond) ∈ xTB := xTB_of (i := 349) (by decide +kernel) (by decide +kernel)
theorem mw_219 : (Cond.selects RAC yAC_isOfKind yAC_isOfKind : Cond) ∈ xTB := xTB_of (i := 350) (by decide +kernel) (by decide +kernel)
theorem mw_220 : (Cond.code yAC_isOfKind cAC_isOfKind 3 (some (.boolean)) : Cond) ∈ xTB := xTB_of (i := 351) (by decide +kernel) (by decide +kernel)
theorem mw_221 : (Cond.constantLong RPL 164 1000000000 : Cond) ∈ xTB := xTB_of (i := 357) (by decide +kernel) (by decide +kernel)
theorem mw_222 : (Cond.constantLong RPL 162 (-1000000000) : Cond) ∈ xTB := xTB_of (i := 356) (by decide +kernel) (by decide +kernel)
theorem mw_223 : (Cond.methodLink RPL 158 yPL_firstOfKind : Cond) ∈ xTB := xTB_of (i := 352) (by decide +kernel) (by decide +kernel)
theorem mw_224 : (Cond.instanceMethod yPL_firstOfKind : Cond) ∈ xTB := xTB_of (i := 354) (by decide +kernel) (by decide +kernel)
theorem mw_225 : (Cond.selects RPL yPL_firstOfKind yPL_firstOfKind : Cond) ∈ xTB := xTB_of (i := 10) (by decide +kernel) (by decide +kernel)
theorem mw_226 : (Cond.code yPL_firstOfKind cPL_firstOfKind 5 (some (.object "PostLedger$Account")) : Cond) ∈ xTB := xTB_of (i := 355) (by decide +kernel) (by decide +kernel)
theorem mw_227 : (Cond.methodLink RPL 154 yPL_totalOfKind : Cond) ∈ xTB := xTB_of (i := 344) (by decide +kernel) (by decide +kernel)
theorem mw_228 : (Cond.instanceMethod yPL_totalOfKind : Cond) ∈ xTB := xTB_of (i := 346) (by decide +kernel) (by decide +kernel)
theorem mw_229 : (Cond.selects RPL yPL_totalOfKind yPL_totalOfKind : Cond) ∈ xTB := xTB_of (i := 9) (by decide +kernel) (by decide +kernel)
theorem mw_230 : (Cond.code yPL_totalOfKind cPL_totalOfKind 7 (some (.long)) : Cond) ∈ xTB := xTB_of (i := 347) (by decide +kernel) (by decide +kernel)
theorem mw_231 : (Cond.fieldLink RPL 166 "PostLedger$Account" "limit" "I" : Cond) ∈ xTB := xTB_of (i := 116) (by decide +kernel) (by decide +kernel)
theorem mw_232 : (Cond.constant RPL 88 (-2000000001) : Cond) ∈ xTB := xTB_of (i := 362) (by decide +kernel) (by decide +kernel)
theorem mw_233 : (Cond.fieldLink RPL 169 "PostLedger$Batch" "failsByPlan" "Z" : Cond) ∈ xTB := xTB_of (i := 220) (by decide +kernel) (by decide +kernel)
theorem mw_234 : (Cond.methodLink RPL 172 yBA_takenFromAccount : Cond) ∈ xTB := xTB_of (i := 371) (by decide +kernel) (by decide +kernel)
theorem mw_235 : (Cond.instanceMethod yBA_takenFromAccount : Cond) ∈ xTB := xTB_of (i := 372) (by decide +kernel) (by decide +kernel)
theorem mw_236 : (Cond.selects RBA yBA_takenFromAccount yBA_takenFromAccount : Cond) ∈ xTB := xTB_of (i := 373) (by decide +kernel) (by decide +kernel)
theorem mw_237 : (Cond.code yBA_takenFromAccount cBA_takenFromAccount 6 (some (.long)) : Cond) ∈ xTB := xTB_of (i := 374) (by decide +kernel) (by decide +kernel)
theorem mw_238 : (Cond.fieldLink RRW 19 "PostLedger$Account" "kind" "I" : Cond) ∈ xTB := xTB_of (i := 114) (by decide +kernel) (by decide +kernel)
theorem mw_239 : (Cond.fieldLink RBA 102 "PostLedger$Account" "limit" "I" : Cond) ∈ xTB := xTB_of (i := 115) (by decide +kernel) (by decide +kernel)
theorem mw_240 : (Cond.methodLink RBA 98 yBA_sumForAccount : Cond) ∈ xTB := xTB_of (i := 413) (by decide +kernel) (by decide +kernel)
theorem mw_241 : (Cond.methodLink RBA 95 yRW_takesFromCustomer : Cond) ∈ xTB := xTB_of (i := 409) (by decide +kernel) (by decide +kernel)
theorem mw_242 : (Cond.instanceMethod yRW_takesFromCustomer : Cond) ∈ xTB := xTB_of (i := 410) (by decide +kernel) (by decide +kernel)
theorem mw_243 : (Cond.selects RRW yRW_takesFromCustomer yRW_takesFromCustomer : Cond) ∈ xTB := xTB_of (i := 411) (by decide +kernel) (by decide +kernel)
theorem mw_244 : (Cond.code yRW_takesFromCustomer cRW_takesFromCustomer 1 (some (.boolean)) : Cond) ∈ xTB := xTB_of (i := 412) (by decide +kernel) (by decide +kernel)
theorem mw_245 : (Cond.fieldLink RBA 92 "PostLedger$Outcome" "POSTED" "LPostLedger$Outcome;" : Cond) ∈ xTB := xTB_of (i := 416) (by decide +kernel) (by decide +kernel)
theorem mw_246 : (Cond.fieldLink RBA 89 "PostLedger$Outcome" "FAILED" "LPostLedger$Outcome;" : Cond) ∈ xTB := xTB_of (i := 414) (by decide +kernel) (by decide +kernel)
theorem mw_247 : (Cond.fieldLink RBA 85 "PostLedger$Batch" "failsByPlan" "Z" : Cond) ∈ xTB := xTB_of (i := 219) (by decide +kernel) (by decide +kernel)
theorem mw_248 : (Cond.fieldLink RBA 75 "PostLedger$Outcome" "REFUSED" "LPostLedger$Outcome;" : Cond) ∈ xTB := xTB_of (i := 403) (by decide +kernel) (by decide +kernel)
theorem mw_249 : (Cond.methodLink RBA 81 yBA_breaksLimit : Cond) ∈ xTB := xTB_of (i := 405) (by decide +kernel) (by decide +kernel)
theorem mw_250 : (Cond.instanceMethod yBA_breaksLimit : Cond) ∈ xTB := xTB_of (i := 407) (by decide +kernel) (by decide +kernel)
theorem mw_251 : (Cond.selects RBA yBA_breaksLimit yBA_breaksLimit : Cond) ∈ xTB := xTB_of (i := 12) (by decide +kernel) (by decide +kernel)
theorem mw_252 : (Cond.code yBA_breaksLimit cBA_breaksLimit 4 (some (.boolean)) : Cond) ∈ xTB := xTB_of (i := 408) (by decide +kernel) (by decide +kernel)
theorem mw_253 : (Cond.methodLink RBA 71 yBA_sumOfRows : Cond) ∈ xTB := xTB_of (i := 399) (by decide +kernel) (by decide +kernel)
theorem mw_254 : (Cond.instanceMethod yBA_sumOfRows : Cond) ∈ xTB := xTB_of (i := 401) (by decide +kernel) (by decide +kernel)
theorem mw_255 : (Cond.selects RBA yBA_sumOfRows yBA_sumOfRows : Cond) ∈ xTB := xTB_of (i := 11) (by decide +kernel) (by decide +kernel)
theorem mw_256 : (Cond.code yBA_sumOfRows cBA_sumOfRows 4 (some (.long)) : Cond) ∈ xTB := xTB_of (i := 402) (by decide +kernel) (by decide +kernel)
theorem mw_257 : (Cond.methodLink RBA 67 yAL_isEmpty : Cond) ∈ xTB := xTB_of (i := 395) (by decide +kernel) (by decide +kernel)
theorem mw_258 : (Cond.instanceMethod yAL_isEmpty : Cond) ∈ xTB := xTB_of (i := 396) (by decide +kernel) (by decide +kernel)
theorem mw_259 : (Cond.selects RAL yAL_isEmpty yAL_isEmpty : Cond) ∈ xTB := xTB_of (i := 397) (by decide +kernel) (by decide +kernel)
theorem mw_260 : (Cond.code yAL_isEmpty cAL_isEmpty 1 (some (.boolean)) : Cond) ∈ xTB := xTB_of (i := 398) (by decide +kernel) (by decide +kernel)
theorem mw_261 : (Cond.classLink RPL 118 "java/lang/IllegalStateException" : Cond) ∈ xTB := xTB_of (i := 422) (by decide +kernel) (by decide +kernel)
theorem mw_262 : (Cond.initialized "java/lang/IllegalStateException" : Cond) ∈ xTB := xTB_of (i := 45) (by decide +kernel) (by decide +kernel)
theorem mw_263 : (Cond.fieldLink RPL 115 "PostLedger$Outcome" "REFUSED" "LPostLedger$Outcome;" : Cond) ∈ xTB := xTB_of (i := 421) (by decide +kernel) (by decide +kernel)
theorem mw_264 : (Cond.fieldLink RPL 106 "PostLedger$Standing" "VOID" "LPostLedger$Standing;" : Cond) ∈ xTB := xTB_of (i := 419) (by decide +kernel) (by decide +kernel)
theorem mw_265 : (Cond.fieldLink RPL 96 "PostLedger$Outcome" "POSTED" "LPostLedger$Outcome;" : Cond) ∈ xTB := xTB_of (i := 418) (by decide +kernel) (by decide +kernel)
theorem mw_266 : (Cond.methodLink RPL 92 yBA_outcomeOfPosting : Cond) ∈ xTB := xTB_of (i := 391) (by decide +kernel) (by decide +kernel)
theorem mw_267 : (Cond.instanceMethod yBA_outcomeOfPosting : Cond) ∈ xTB := xTB_of (i := 392) (by decide +kernel) (by decide +kernel)
theorem mw_268 : (Cond.selects RBA yBA_outcomeOfPosting yBA_outcomeOfPosting : Cond) ∈ xTB := xTB_of (i := 393) (by decide +kernel) (by decide +kernel)
theorem mw_269 : (Cond.code yBA_outcomeOfPosting cBA_outcomeOfPosting 2 (some (.object "PostLedger$Outcome")) : Cond) ∈ xTB := xTB_of (i := 394) (by decide +kernel) (by decide +kernel)
theorem mw_270 : (Cond.fieldLink RMO 50 "PostLedgerModel" "closed" "J" : Cond) ∈ xTB := xTB_of (i := 511) (by decide +kernel) (by decide +kernel)
theorem mw_271 : (Cond.constantLong RMO 48 (-1) : Cond) ∈ xTB := xTB_of (i := 494) (by decide +kernel) (by decide +kernel)
theorem mw_272 : (Cond.fieldLink RMO 45 "PostLedgerModel" "postedBatches" "[I" : Cond) ∈ xTB := xTB_of (i := 510) (by decide +kernel) (by decide +kernel)
theorem mw_273 : (Cond.arrayClass .int : Cond) ∈ xTB := xTB_of (i := 547) (by decide +kernel) (by decide +kernel)
theorem mw_274 : (Cond.fieldLink RMO 42 "PostLedgerModel" "rowCents" "[J" : Cond) ∈ xTB := xTB_of (i := 508) (by decide +kernel) (by decide +kernel)
theorem mw_275 : (Cond.arrayClass .long : Cond) ∈ xTB := xTB_of (i := 548) (by decide +kernel) (by decide +kernel)
theorem mw_276 : (Cond.fieldLink RMO 39 "PostLedgerModel" "rowAccounts" "[I" : Cond) ∈ xTB := xTB_of (i := 507) (by decide +kernel) (by decide +kernel)
theorem mw_277 : (Cond.fieldLink RMO 36 "PostLedgerModel" "rows" "[I" : Cond) ∈ xTB := xTB_of (i := 506) (by decide +kernel) (by decide +kernel)
theorem mw_278 : (Cond.fieldLink RMO 33 "PostLedgerModel" "back" "[Z" : Cond) ∈ xTB := xTB_of (i := 505) (by decide +kernel) (by decide +kernel)
theorem mw_279 : (Cond.arrayClass .boolean : Cond) ∈ xTB := xTB_of (i := 549) (by decide +kernel) (by decide +kernel)
theorem mw_280 : (Cond.fieldLink RMO 30 "PostLedgerModel" "free" "[Z" : Cond) ∈ xTB := xTB_of (i := 504) (by decide +kernel) (by decide +kernel)
theorem mw_281 : (Cond.fieldLink RMO 26 "PostLedgerModel" "planned" "[Z" : Cond) ∈ xTB := xTB_of (i := 503) (by decide +kernel) (by decide +kernel)
theorem mw_282 : (Cond.fieldLink RMO 23 "PostLedgerModel" "days" "[J" : Cond) ∈ xTB := xTB_of (i := 502) (by decide +kernel) (by decide +kernel)
theorem mw_283 : (Cond.fieldLink RMO 20 "PostLedgerModel" "states" "[I" : Cond) ∈ xTB := xTB_of (i := 501) (by decide +kernel) (by decide +kernel)
theorem mw_284 : (Cond.fieldLink RMO 16 "PostLedgerModel" "limits" "[J" : Cond) ∈ xTB := xTB_of (i := 499) (by decide +kernel) (by decide +kernel)
theorem mw_285 : (Cond.fieldLink RMO 13 "PostLedgerModel" "kinds" "[I" : Cond) ∈ xTB := xTB_of (i := 498) (by decide +kernel) (by decide +kernel)
theorem mw_286 : (Cond.fieldLink RMO 7 "PostLedgerModel" "offices" "[I" : Cond) ∈ xTB := xTB_of (i := 497) (by decide +kernel) (by decide +kernel)
theorem mw_287 : (Cond.methodLink RMO 1 objectInit : Cond) ∈ xTB := xTB_of (i := 493) (by decide +kernel) (by decide +kernel)
theorem mw_288 : (Cond.fieldLink RMO 54 "PostLedgerModel" "thrown" "I" : Cond) ∈ xTB := xTB_of (i := 495) (by decide +kernel) (by decide +kernel)
theorem mw_289 : (Cond.constant RMO 72 (-2000000002) : Cond) ∈ xTB := xTB_of (i := 563) (by decide +kernel) (by decide +kernel)
theorem mw_290 : (Cond.fieldLink RMO 58 "PostLedgerModel" "accounts" "I" : Cond) ∈ xTB := xTB_of (i := 496) (by decide +kernel) (by decide +kernel)
theorem mw_291 : (Cond.constant RMO 73 (-2000000004) : Cond) ∈ xTB := xTB_of (i := 564) (by decide +kernel) (by decide +kernel)
theorem mw_292 : (Cond.methodLink RMO 61 yMO_isIn : Cond) ∈ xTB := xTB_of (i := 559) (by decide +kernel) (by decide +kernel)
theorem mw_293 : (Cond.static yMO_isIn : Cond) ∈ xTB := xTB_of (i := 560) (by decide +kernel) (by decide +kernel)
theorem mw_294 : (Cond.initialized RMO : Cond) ∈ xTB := xTB_of (i := 29) (by decide +kernel) (by decide +kernel)
theorem mw_295 : (Cond.code yMO_isIn cMO_isIn 6 (some (.boolean)) : Cond) ∈ xTB := xTB_of (i := 561) (by decide +kernel) (by decide +kernel)
theorem mw_296 : (Cond.constantLong RMO 70 5 : Cond) ∈ xTB := xTB_of (i := 562) (by decide +kernel) (by decide +kernel)
theorem mw_297 : (Cond.constantLong RMO 68 9 : Cond) ∈ xTB := xTB_of (i := 558) (by decide +kernel) (by decide +kernel)
theorem mw_298 : (Cond.fieldLink RMO 65 "PostLedgerModel" "batches" "I" : Cond) ∈ xTB := xTB_of (i := 500) (by decide +kernel) (by decide +kernel)
theorem mw_299 : (Cond.methodLink RMO 77 yMO_make : Cond) ∈ xTB := xTB_of (i := 571) (by decide +kernel) (by decide +kernel)
theorem mw_300 : (Cond.instanceMethod yMO_make : Cond) ∈ xTB := xTB_of (i := 573) (by decide +kernel) (by decide +kernel)
theorem mw_301 : (Cond.selects RMO yMO_make yMO_make : Cond) ∈ xTB := xTB_of (i := 14) (by decide +kernel) (by decide +kernel)
theorem mw_302 : (Cond.code yMO_make cMO_make 3 (some (.int)) : Cond) ∈ xTB := xTB_of (i := 574) (by decide +kernel) (by decide +kernel)
theorem mw_303 : (Cond.constant RMO 76 (-2000000003) : Cond) ∈ xTB := xTB_of (i := 570) (by decide +kernel) (by decide +kernel)
theorem mw_304 : (Cond.constantLong RMO 74 20000 : Cond) ∈ xTB := xTB_of (i := 569) (by decide +kernel) (by decide +kernel)
theorem mw_305 : (Cond.methodLink RMO 92 yMO_put : Cond) ∈ xTB := xTB_of (i := 589) (by decide +kernel) (by decide +kernel)
theorem mw_306 : (Cond.instanceMethod yMO_put : Cond) ∈ xTB := xTB_of (i := 591) (by decide +kernel) (by decide +kernel)
theorem mw_307 : (Cond.selects RMO yMO_put yMO_put : Cond) ∈ xTB := xTB_of (i := 17) (by decide +kernel) (by decide +kernel)
theorem mw_308 : (Cond.code yMO_put cMO_put 5 none : Cond) ∈ xTB := xTB_of (i := 592) (by decide +kernel) (by decide +kernel)
theorem mw_309 : (Cond.constantLong RMO 90 100000000 : Cond) ∈ xTB := xTB_of (i := 588) (by decide +kernel) (by decide +kernel)
theorem mw_310 : (Cond.constantLong RMO 88 (-100000000) : Cond) ∈ xTB := xTB_of (i := 587) (by decide +kernel) (by decide +kernel)
theorem mw_311 : (Cond.methodLink RMO 85 yMO_isAccount : Cond) ∈ xTB := xTB_of (i := 583) (by decide +kernel) (by decide +kernel)
theorem mw_312 : (Cond.instanceMethod yMO_isAccount : Cond) ∈ xTB := xTB_of (i := 585) (by decide +kernel) (by decide +kernel)
theorem mw_313 : (Cond.selects RMO yMO_isAccount yMO_isAccount : Cond) ∈ xTB := xTB_of (i := 16) (by decide +kernel) (by decide +kernel)
theorem mw_314 : (Cond.code yMO_isAccount cMO_isAccount 2 (some (.boolean)) : Cond) ∈ xTB := xTB_of (i := 586) (by decide +kernel) (by decide +kernel)
theorem mw_315 : (Cond.methodLink RMO 81 yMO_isBatch : Cond) ∈ xTB := xTB_of (i := 579) (by decide +kernel) (by decide +kernel)
theorem mw_316 : (Cond.instanceMethod yMO_isBatch : Cond) ∈ xTB := xTB_of (i := 581) (by decide +kernel) (by decide +kernel)
theorem mw_317 : (Cond.selects RMO yMO_isBatch yMO_isBatch : Cond) ∈ xTB := xTB_of (i := 15) (by decide +kernel) (by decide +kernel)
theorem mw_318 : (Cond.code yMO_isBatch cMO_isBatch 2 (some (.boolean)) : Cond) ∈ xTB := xTB_of (i := 582) (by decide +kernel) (by decide +kernel)
theorem mw_319 : (Cond.methodLink RMO 99 yMO_part : Cond) ∈ xTB := xTB_of (i := 611) (by decide +kernel) (by decide +kernel)
theorem mw_320 : (Cond.instanceMethod yMO_part : Cond) ∈ xTB := xTB_of (i := 613) (by decide +kernel) (by decide +kernel)
theorem mw_321 : (Cond.selects RMO yMO_part yMO_part : Cond) ∈ xTB := xTB_of (i := 21) (by decide +kernel) (by decide +kernel)
theorem mw_322 : (Cond.code yMO_part cMO_part 7 (some (.long)) : Cond) ∈ xTB := xTB_of (i := 614) (by decide +kernel) (by decide +kernel)
theorem mw_323 : (Cond.fieldLink RMO 96 "PostLedgerModel" "posted" "I" : Cond) ∈ xTB := xTB_of (i := 509) (by decide +kernel) (by decide +kernel)
theorem mw_324 : (Cond.methodLink RMO 105 yMO_balanceOf : Cond) ∈ xTB := xTB_of (i := 607) (by decide +kernel) (by decide +kernel)
theorem mw_325 : (Cond.instanceMethod yMO_balanceOf : Cond) ∈ xTB := xTB_of (i := 609) (by decide +kernel) (by decide +kernel)
theorem mw_326 : (Cond.selects RMO yMO_balanceOf yMO_balanceOf : Cond) ∈ xTB := xTB_of (i := 20) (by decide +kernel) (by decide +kernel)
theorem mw_327 : (Cond.code yMO_balanceOf cMO_balanceOf 8 (some (.long)) : Cond) ∈ xTB := xTB_of (i := 610) (by decide +kernel) (by decide +kernel)
theorem mw_328 : (Cond.constantLong RMO 103 9223372036854775807 : Cond) ∈ xTB := xTB_of (i := 606) (by decide +kernel) (by decide +kernel)
theorem mw_329 : (Cond.methodLink RMO 109 yMO_stops : Cond) ∈ xTB := xTB_of (i := 602) (by decide +kernel) (by decide +kernel)
theorem mw_330 : (Cond.instanceMethod yMO_stops : Cond) ∈ xTB := xTB_of (i := 604) (by decide +kernel) (by decide +kernel)
theorem mw_331 : (Cond.selects RMO yMO_stops yMO_stops : Cond) ∈ xTB := xTB_of (i := 19) (by decide +kernel) (by decide +kernel)
theorem mw_332 : (Cond.code yMO_stops cMO_stops 8 (some (.int)) : Cond) ∈ xTB := xTB_of (i := 605) (by decide +kernel) (by decide +kernel)
theorem mw_333 : (Cond.methodLink RMO 114 yMO_go : Cond) ∈ xTB := xTB_of (i := 598) (by decide +kernel) (by decide +kernel)
theorem mw_334 : (Cond.instanceMethod yMO_go : Cond) ∈ xTB := xTB_of (i := 600) (by decide +kernel) (by decide +kernel)
theorem mw_335 : (Cond.selects RMO yMO_go yMO_go : Cond) ∈ xTB := xTB_of (i := 18) (by decide +kernel) (by decide +kernel)
theorem mw_336 : (Cond.code yMO_go cMO_go 3 (some (.int)) : Cond) ∈ xTB := xTB_of (i := 601) (by decide +kernel) (by decide +kernel)
theorem mw_337 : (Cond.constant RMO 113 (-2000000001) : Cond) ∈ xTB := xTB_of (i := 597) (by decide +kernel) (by decide +kernel)
theorem mw_338 : (Cond.constantLong RMO 117 (-2000000001) : Cond) ∈ xTB := xTB_of (i := 619) (by decide +kernel) (by decide +kernel)
theorem mw_339 : (Cond.methodLink RMO 119 yMO_batchOf : Cond) ∈ xTB := xTB_of (i := 628) (by decide +kernel) (by decide +kernel)
theorem mw_340 : (Cond.instanceMethod yMO_batchOf : Cond) ∈ xTB := xTB_of (i := 630) (by decide +kernel) (by decide +kernel)
theorem mw_341 : (Cond.selects RMO yMO_batchOf yMO_batchOf : Cond) ∈ xTB := xTB_of (i := 22) (by decide +kernel) (by decide +kernel)
theorem mw_342 : (Cond.code yMO_batchOf cMO_batchOf 4 (some (.int)) : Cond) ∈ xTB := xTB_of (i := 631) (by decide +kernel) (by decide +kernel)
theorem mw_343 : (Cond.methodLink RMO 124 yMO_first : Cond) ∈ xTB := xTB_of (i := 637) (by decide +kernel) (by decide +kernel)
theorem mw_344 : (Cond.instanceMethod yMO_first : Cond) ∈ xTB := xTB_of (i := 639) (by decide +kernel) (by decide +kernel)
theorem mw_345 : (Cond.selects RMO yMO_first yMO_first : Cond) ∈ xTB := xTB_of (i := 23) (by decide +kernel) (by decide +kernel)
theorem mw_346 : (Cond.code yMO_first cMO_first 4 (some (.int)) : Cond) ∈ xTB := xTB_of (i := 640) (by decide +kernel) (by decide +kernel)
theorem mw_347 : (Cond.constantLong RMO 130 1000000000 : Cond) ∈ xTB := xTB_of (i := 642) (by decide +kernel) (by decide +kernel)
theorem mw_348 : (Cond.constantLong RMO 128 (-1000000000) : Cond) ∈ xTB := xTB_of (i := 641) (by decide +kernel) (by decide +kernel)
theorem mw_349 : (Cond.constantLong RMO 122 4 : Cond) ∈ xTB := xTB_of (i := 636) (by decide +kernel) (by decide +kernel)
def xW (y : MethodName) (c : ByteArray) (n : Nat) (r : Option FieldType) : List Cond := Cond.code y c n r :: xTB
end
section
/-! decode rows: JDK -/
theorem dAN_init_0 : decode cAN_init 0 = .ok (.aload_n 0, 1) := by decide +kernel
theorem dAN_init_1 : decode cAN_init 1 = .ok (.invokespecial 1, 3) := by decide +kernel
theorem dAN_init_4 : decode cAN_init 4 = .ok (.return_, 1) := by decide +kernel
theorem dAB_init_0 : decode cAB_init 0 = .ok (.aload_n 0, 1) := by decide +kernel
theorem dAB_init_1 : decode cAB_init 1 = .ok (.invokespecial 1, 3) := by decide +kernel
theorem dAB_init_4 : decode cAB_init 4 = .ok (.aload_n 0, 1) := by decide +kernel
theorem dAB_init_5 : decode cAB_init 5 = .ok (.iconst 0, 1) := by decide +kernel
theorem dAB_init_6 : decode cAB_init 6 = .ok (.putfield 7, 3) := by decide +kernel
theorem dAB_init_9 : decode cAB_init 9 = .ok (.return_, 1) := by decide +kernel
theorem dAL_init_0 : decode cAL_init 0 = .ok (.aload_n 0, 1) := by decide +kernel
theorem dAL_init_1 : decode cAL_init 1 = .ok (.invokespecial 1, 3) := by decide +kernel
theorem dAL_init_4 : decode cAL_init 4 = .ok (.aload_n 0, 1) := by decide +kernel
theorem dAL_init_5 : decode cAL_init 5 = .ok (.getstatic 39, 3) := by decide +kernel
theorem dAL_init_8 : decode cAL_init 8 = .ok (.putfield 9, 3) := by decide +kernel
theorem dAL_init_11 : decode cAL_init 11 = .ok (.return_, 1) := by decide +kernel
theorem dAL_size_0 : decode cAL_size 0 = .ok (.aload_n 0, 1) := by decide +kernel
theorem dAL_size_1 : decode cAL_size 1 = .ok (.getfield 48, 3) := by decide +kernel
theorem dAL_size_4 : decode cAL_size 4 = .ok (.ireturn, 1) := by decide +kernel
theorem dAS_hugeLength_0 : decode cAS_hugeLength 0 = .ok (.iload_n 0, 1) := by decide +kernel
theorem dAS_hugeLength_1 : decode cAS_hugeLength 1 = .ok (.iload_n 1, 1) := by decide +kernel
theorem dAS_hugeLength_2 : decode cAS_hugeLength 2 = .ok (.iadd, 1) := by decide +kernel
theorem dAS_hugeLength_3 : decode cAS_hugeLength 3 = .ok (.istore_n 2, 1) := by decide +kernel
theorem dAS_hugeLength_4 : decode cAS_hugeLength 4 = .ok (.iload_n 2, 1) := by decide +kernel
theorem dAS_hugeLength_5 : decode cAS_hugeLength 5 = .ok (.ifCond .ge 44, 3) := by decide +kernel
theorem dAS_hugeLength_8 : decode cAS_hugeLength 8 = .ok (.new 204, 3) := by decide +kernel
theorem dAS_hugeLength_11 : decode cAS_hugeLength 11 = .ok (.dup, 1) := by decide +kernel
theorem dAS_hugeLength_12 : decode cAS_hugeLength 12 = .ok (.new 89, 3) := by decide +kernel
theorem dAS_hugeLength_15 : decode cAS_hugeLength 15 = .ok (.dup, 1) := by decide +kernel
theorem dAS_hugeLength_16 : decode cAS_hugeLength 16 = .ok (.invokespecial 91, 3) := by decide +kernel
theorem dAS_hugeLength_19 : decode cAS_hugeLength 19 = .ok (.ldc 206, 2) := by decide +kernel
theorem dAS_hugeLength_21 : decode cAS_hugeLength 21 = .ok (.invokevirtual 94, 3) := by decide +kernel
theorem dAS_hugeLength_24 : decode cAS_hugeLength 24 = .ok (.iload_n 0, 1) := by decide +kernel
theorem dAS_hugeLength_25 : decode cAS_hugeLength 25 = .ok (.invokevirtual 98, 3) := by decide +kernel
theorem dAS_hugeLength_28 : decode cAS_hugeLength 28 = .ok (.ldc 208, 2) := by decide +kernel
theorem dAS_hugeLength_30 : decode cAS_hugeLength 30 = .ok (.invokevirtual 94, 3) := by decide +kernel
theorem dAS_hugeLength_33 : decode cAS_hugeLength 33 = .ok (.iload_n 1, 1) := by decide +kernel
theorem dAS_hugeLength_34 : decode cAS_hugeLength 34 = .ok (.invokevirtual 98, 3) := by decide +kernel
theorem dAS_hugeLength_37 : decode cAS_hugeLength 37 = .ok (.ldc 210, 2) := by decide +kernel
theorem dAS_hugeLength_39 : decode cAS_hugeLength 39 = .ok (.invokevirtual 94, 3) := by decide +kernel
theorem dAS_hugeLength_42 : decode cAS_hugeLength 42 = .ok (.invokevirtual 101, 3) := by decide +kernel
theorem dAS_hugeLength_45 : decode cAS_hugeLength 45 = .ok (.invokespecial 212, 3) := by decide +kernel
theorem dAS_hugeLength_48 : decode cAS_hugeLength 48 = .ok (.athrow, 1) := by decide +kernel
theorem dAS_hugeLength_49 : decode cAS_hugeLength 49 = .ok (.iload_n 2, 1) := by decide +kernel
theorem dAS_hugeLength_50 : decode cAS_hugeLength 50 = .ok (.ldc 200, 2) := by decide +kernel
theorem dAS_hugeLength_52 : decode cAS_hugeLength 52 = .ok (.if_icmp .gt 6, 3) := by decide +kernel
theorem dAS_hugeLength_55 : decode cAS_hugeLength 55 = .ok (.ldc 200, 2) := by decide +kernel
theorem dAS_hugeLength_57 : decode cAS_hugeLength 57 = .ok (.ireturn, 1) := by decide +kernel
theorem dAS_hugeLength_58 : decode cAS_hugeLength 58 = .ok (.iload_n 2, 1) := by decide +kernel
theorem dAS_hugeLength_59 : decode cAS_hugeLength 59 = .ok (.ireturn, 1) := by decide +kernel
theorem dAS_newLength_0 : decode cAS_newLength 0 = .ok (.iload_n 0, 1) := by decide +kernel
theorem dAS_newLength_1 : decode cAS_newLength 1 = .ok (.iload_n 1, 1) := by decide +kernel
theorem dAS_newLength_2 : decode cAS_newLength 2 = .ok (.iload_n 2, 1) := by decide +kernel
theorem dAS_newLength_3 : decode cAS_newLength 3 = .ok (.invokestatic 194, 3) := by decide +kernel
theorem dAS_newLength_6 : decode cAS_newLength 6 = .ok (.iadd, 1) := by decide +kernel
theorem dAS_newLength_7 : decode cAS_newLength 7 = .ok (.istore_n 3, 1) := by decide +kernel
theorem dAS_newLength_8 : decode cAS_newLength 8 = .ok (.iconst 0, 1) := by decide +kernel
theorem dAS_newLength_9 : decode cAS_newLength 9 = .ok (.iload_n 3, 1) := by decide +kernel
theorem dAS_newLength_10 : decode cAS_newLength 10 = .ok (.if_icmp .ge 11, 3) := by decide +kernel
theorem dAS_newLength_13 : decode cAS_newLength 13 = .ok (.iload_n 3, 1) := by decide +kernel
theorem dAS_newLength_14 : decode cAS_newLength 14 = .ok (.ldc 200, 2) := by decide +kernel
theorem dAS_newLength_16 : decode cAS_newLength 16 = .ok (.if_icmp .gt 5, 3) := by decide +kernel
theorem dAS_newLength_19 : decode cAS_newLength 19 = .ok (.iload_n 3, 1) := by decide +kernel
theorem dAS_newLength_20 : decode cAS_newLength 20 = .ok (.ireturn, 1) := by decide +kernel
theorem dAS_newLength_21 : decode cAS_newLength 21 = .ok (.iload_n 0, 1) := by decide +kernel
theorem dAS_newLength_22 : decode cAS_newLength 22 = .ok (.iload_n 1, 1) := by decide +kernel
theorem dAS_newLength_23 : decode cAS_newLength 23 = .ok (.invokestatic 201, 3) := by decide +kernel
theorem dAS_newLength_26 : decode cAS_newLength 26 = .ok (.ireturn, 1) := by decide +kernel
theorem dAR_copyOf2_0 : decode cAR_copyOf2 0 = .ok (.aload_n 2, 1) := by decide +kernel
theorem dAR_copyOf2_1 : decode cAR_copyOf2 1 = .ok (.ldc 110, 2) := by decide +kernel
theorem dAR_copyOf2_3 : decode cAR_copyOf2 3 = .ok (.if_acmp .ne 10, 3) := by decide +kernel
theorem dAR_copyOf2_6 : decode cAR_copyOf2 6 = .ok (.iload_n 1, 1) := by decide +kernel
theorem dAR_copyOf2_7 : decode cAR_copyOf2 7 = .ok (.anewarray 2, 3) := by decide +kernel
theorem dAR_copyOf2_10 : decode cAR_copyOf2 10 = .ok (.goto 14, 3) := by decide +kernel
theorem dAR_copyOf2_13 : decode cAR_copyOf2 13 = .ok (.aload_n 2, 1) := by decide +kernel
theorem dAR_copyOf2_14 : decode cAR_copyOf2 14 = .ok (.invokevirtual 90, 3) := by decide +kernel
theorem dAR_copyOf2_17 : decode cAR_copyOf2 17 = .ok (.iload_n 1, 1) := by decide +kernel
theorem dAR_copyOf2_18 : decode cAR_copyOf2 18 = .ok (.invokestatic 95, 3) := by decide +kernel
theorem dAR_copyOf2_21 : decode cAR_copyOf2 21 = .ok (.checkcast 110, 3) := by decide +kernel
theorem dAR_copyOf2_24 : decode cAR_copyOf2 24 = .ok (.astore_n 3, 1) := by decide +kernel
theorem dAR_copyOf2_25 : decode cAR_copyOf2 25 = .ok (.aload_n 0, 1) := by decide +kernel
theorem dAR_copyOf2_26 : decode cAR_copyOf2 26 = .ok (.iconst 0, 1) := by decide +kernel
theorem dAR_copyOf2_27 : decode cAR_copyOf2 27 = .ok (.aload_n 3, 1) := by decide +kernel
theorem dAR_copyOf2_28 : decode cAR_copyOf2 28 = .ok (.iconst 0, 1) := by decide +kernel
theorem dAR_copyOf2_29 : decode cAR_copyOf2 29 = .ok (.aload_n 0, 1) := by decide +kernel
theorem dAR_copyOf2_30 : decode cAR_copyOf2 30 = .ok (.arraylength, 1) := by decide +kernel
theorem dAR_copyOf2_31 : decode cAR_copyOf2 31 = .ok (.iload_n 1, 1) := by decide +kernel
theorem dAR_copyOf2_32 : decode cAR_copyOf2 32 = .ok (.invokestatic 304, 3) := by decide +kernel
theorem dAR_copyOf2_35 : decode cAR_copyOf2 35 = .ok (.invokestatic 150, 3) := by decide +kernel
theorem dAR_copyOf2_38 : decode cAR_copyOf2 38 = .ok (.aload_n 3, 1) := by decide +kernel
theorem dAR_copyOf2_39 : decode cAR_copyOf2 39 = .ok (.areturn, 1) := by decide +kernel
theorem dAR_copyOf_0 : decode cAR_copyOf 0 = .ok (.aload_n 0, 1) := by decide +kernel
theorem dAR_copyOf_1 : decode cAR_copyOf 1 = .ok (.iload_n 1, 1) := by decide +kernel
theorem dAR_copyOf_2 : decode cAR_copyOf 2 = .ok (.aload_n 0, 1) := by decide +kernel
theorem dAR_copyOf_3 : decode cAR_copyOf 3 = .ok (.invokevirtual 86, 3) := by decide +kernel
theorem dAR_copyOf_6 : decode cAR_copyOf 6 = .ok (.invokestatic 300, 3) := by decide +kernel
theorem dAR_copyOf_9 : decode cAR_copyOf 9 = .ok (.areturn, 1) := by decide +kernel
theorem dAL_grow2_0 : decode cAL_grow2 0 = .ok (.aload_n 0, 1) := by decide +kernel
theorem dAL_grow2_1 : decode cAL_grow2 1 = .ok (.getfield 9, 3) := by decide +kernel
theorem dAL_grow2_4 : decode cAL_grow2 4 = .ok (.arraylength, 1) := by decide +kernel
theorem dAL_grow2_5 : decode cAL_grow2 5 = .ok (.istore_n 2, 1) := by decide +kernel
theorem dAL_grow2_6 : decode cAL_grow2 6 = .ok (.iload_n 2, 1) := by decide +kernel
theorem dAL_grow2_7 : decode cAL_grow2 7 = .ok (.ifCond .gt 13, 3) := by decide +kernel
theorem dAL_grow2_10 : decode cAL_grow2 10 = .ok (.aload_n 0, 1) := by decide +kernel
theorem dAL_grow2_11 : decode cAL_grow2 11 = .ok (.getfield 9, 3) := by decide +kernel
theorem dAL_grow2_14 : decode cAL_grow2 14 = .ok (.getstatic 39, 3) := by decide +kernel
theorem dAL_grow2_17 : decode cAL_grow2 17 = .ok (.if_acmp .eq 28, 3) := by decide +kernel
theorem dAL_grow2_20 : decode cAL_grow2 20 = .ok (.iload_n 2, 1) := by decide +kernel
theorem dAL_grow2_21 : decode cAL_grow2 21 = .ok (.iload_n 1, 1) := by decide +kernel
theorem dAL_grow2_22 : decode cAL_grow2 22 = .ok (.iload_n 2, 1) := by decide +kernel
theorem dAL_grow2_23 : decode cAL_grow2 23 = .ok (.isub, 1) := by decide +kernel
theorem dAL_grow2_24 : decode cAL_grow2 24 = .ok (.iload_n 2, 1) := by decide +kernel
theorem dAL_grow2_25 : decode cAL_grow2 25 = .ok (.iconst 1, 1) := by decide +kernel
theorem dAL_grow2_26 : decode cAL_grow2 26 = .ok (.ishr, 1) := by decide +kernel
theorem dAL_grow2_27 : decode cAL_grow2 27 = .ok (.invokestatic 73, 3) := by decide +kernel
theorem dAL_grow2_30 : decode cAL_grow2 30 = .ok (.istore_n 3, 1) := by decide +kernel
theorem dAL_grow2_31 : decode cAL_grow2 31 = .ok (.aload_n 0, 1) := by decide +kernel
theorem dAL_grow2_32 : decode cAL_grow2 32 = .ok (.aload_n 0, 1) := by decide +kernel
theorem dAL_grow2_33 : decode cAL_grow2 33 = .ok (.getfield 9, 3) := by decide +kernel
theorem dAL_grow2_36 : decode cAL_grow2 36 = .ok (.iload_n 3, 1) := by decide +kernel
theorem dAL_grow2_37 : decode cAL_grow2 37 = .ok (.invokestatic 66, 3) := by decide +kernel
theorem dAL_grow2_40 : decode cAL_grow2 40 = .ok (.dup_x1, 1) := by decide +kernel
theorem dAL_grow2_41 : decode cAL_grow2 41 = .ok (.putfield 9, 3) := by decide +kernel
theorem dAL_grow2_44 : decode cAL_grow2 44 = .ok (.areturn, 1) := by decide +kernel
theorem dAL_grow2_45 : decode cAL_grow2 45 = .ok (.aload_n 0, 1) := by decide +kernel
theorem dAL_grow2_46 : decode cAL_grow2 46 = .ok (.bipush 10, 2) := by decide +kernel
theorem dAL_grow2_48 : decode cAL_grow2 48 = .ok (.iload_n 1, 1) := by decide +kernel
theorem dAL_grow2_49 : decode cAL_grow2 49 = .ok (.invokestatic 79, 3) := by decide +kernel
theorem dAL_grow2_52 : decode cAL_grow2 52 = .ok (.anewarray 7, 3) := by decide +kernel
theorem dAL_grow2_55 : decode cAL_grow2 55 = .ok (.dup_x1, 1) := by decide +kernel
theorem dAL_grow2_56 : decode cAL_grow2 56 = .ok (.putfield 9, 3) := by decide +kernel
theorem dAL_grow2_59 : decode cAL_grow2 59 = .ok (.areturn, 1) := by decide +kernel
theorem dAL_grow_0 : decode cAL_grow 0 = .ok (.aload_n 0, 1) := by decide +kernel
theorem dAL_grow_1 : decode cAL_grow 1 = .ok (.aload_n 0, 1) := by decide +kernel
theorem dAL_grow_2 : decode cAL_grow 2 = .ok (.getfield 48, 3) := by decide +kernel
theorem dAL_grow_5 : decode cAL_grow 5 = .ok (.iconst 1, 1) := by decide +kernel
theorem dAL_grow_6 : decode cAL_grow 6 = .ok (.iadd, 1) := by decide +kernel
theorem dAL_grow_7 : decode cAL_grow 7 = .ok (.invokevirtual 69, 3) := by decide +kernel
theorem dAL_grow_10 : decode cAL_grow 10 = .ok (.areturn, 1) := by decide +kernel
theorem dAL_add2_0 : decode cAL_add2 0 = .ok (.iload_n 3, 1) := by decide +kernel
theorem dAL_add2_1 : decode cAL_add2 1 = .ok (.aload_n 2, 1) := by decide +kernel
theorem dAL_add2_2 : decode cAL_add2 2 = .ok (.arraylength, 1) := by decide +kernel
theorem dAL_add2_3 : decode cAL_add2 3 = .ok (.if_icmp .ne 8, 3) := by decide +kernel
theorem dAL_add2_6 : decode cAL_add2 6 = .ok (.aload_n 0, 1) := by decide +kernel
theorem dAL_add2_7 : decode cAL_add2 7 = .ok (.invokevirtual 129, 3) := by decide +kernel
theorem dAL_add2_10 : decode cAL_add2 10 = .ok (.astore_n 2, 1) := by decide +kernel
theorem dAL_add2_11 : decode cAL_add2 11 = .ok (.aload_n 2, 1) := by decide +kernel
theorem dAL_add2_12 : decode cAL_add2 12 = .ok (.iload_n 3, 1) := by decide +kernel
theorem dAL_add2_13 : decode cAL_add2 13 = .ok (.aload_n 1, 1) := by decide +kernel
theorem dAL_add2_14 : decode cAL_add2 14 = .ok (.aastore, 1) := by decide +kernel
theorem dAL_add2_15 : decode cAL_add2 15 = .ok (.aload_n 0, 1) := by decide +kernel
theorem dAL_add2_16 : decode cAL_add2 16 = .ok (.iload_n 3, 1) := by decide +kernel
theorem dAL_add2_17 : decode cAL_add2 17 = .ok (.iconst 1, 1) := by decide +kernel
theorem dAL_add2_18 : decode cAL_add2 18 = .ok (.iadd, 1) := by decide +kernel
theorem dAL_add2_19 : decode cAL_add2 19 = .ok (.putfield 48, 3) := by decide +kernel
theorem dAL_add2_22 : decode cAL_add2 22 = .ok (.return_, 1) := by decide +kernel
theorem dAL_add_0 : decode cAL_add 0 = .ok (.aload_n 0, 1) := by decide +kernel
theorem dAL_add_1 : decode cAL_add 1 = .ok (.dup, 1) := by decide +kernel
theorem dAL_add_2 : decode cAL_add 2 = .ok (.getfield 63, 3) := by decide +kernel
theorem dAL_add_5 : decode cAL_add 5 = .ok (.iconst 1, 1) := by decide +kernel
theorem dAL_add_6 : decode cAL_add 6 = .ok (.iadd, 1) := by decide +kernel
theorem dAL_add_7 : decode cAL_add 7 = .ok (.putfield 63, 3) := by decide +kernel
theorem dAL_add_10 : decode cAL_add 10 = .ok (.aload_n 0, 1) := by decide +kernel
theorem dAL_add_11 : decode cAL_add 11 = .ok (.aload_n 1, 1) := by decide +kernel
theorem dAL_add_12 : decode cAL_add 12 = .ok (.aload_n 0, 1) := by decide +kernel
theorem dAL_add_13 : decode cAL_add 13 = .ok (.getfield 9, 3) := by decide +kernel
theorem dAL_add_16 : decode cAL_add 16 = .ok (.aload_n 0, 1) := by decide +kernel
theorem dAL_add_17 : decode cAL_add 17 = .ok (.getfield 48, 3) := by decide +kernel
theorem dAL_add_20 : decode cAL_add 20 = .ok (.invokevirtual 131, 3) := by decide +kernel
theorem dAL_add_23 : decode cAL_add 23 = .ok (.iconst 1, 1) := by decide +kernel
theorem dAL_add_24 : decode cAL_add 24 = .ok (.ireturn, 1) := by decide +kernel
theorem dPC_checkIndex_0 : decode cPC_checkIndex 0 = .ok (.iload_n 0, 1) := by decide +kernel
theorem dPC_checkIndex_1 : decode cPC_checkIndex 1 = .ok (.ifCond .lt 8, 3) := by decide +kernel
theorem dPC_checkIndex_4 : decode cPC_checkIndex 4 = .ok (.iload_n 0, 1) := by decide +kernel
theorem dPC_checkIndex_5 : decode cPC_checkIndex 5 = .ok (.iload_n 1, 1) := by decide +kernel
theorem dPC_checkIndex_6 : decode cPC_checkIndex 6 = .ok (.if_icmp .lt 10, 3) := by decide +kernel
theorem dPC_checkIndex_9 : decode cPC_checkIndex 9 = .ok (.aload_n 2, 1) := by decide +kernel
theorem dPC_checkIndex_10 : decode cPC_checkIndex 10 = .ok (.iload_n 0, 1) := by decide +kernel
theorem dPC_checkIndex_11 : decode cPC_checkIndex 11 = .ok (.iload_n 1, 1) := by decide +kernel
theorem dPC_checkIndex_12 : decode cPC_checkIndex 12 = .ok (.invokestatic 95, 3) := by decide +kernel
theorem dPC_checkIndex_15 : decode cPC_checkIndex 15 = .ok (.athrow, 1) := by decide +kernel
theorem dPC_checkIndex_16 : decode cPC_checkIndex 16 = .ok (.iload_n 0, 1) := by decide +kernel
theorem dPC_checkIndex_17 : decode cPC_checkIndex 17 = .ok (.ireturn, 1) := by decide +kernel
theorem dOB_checkIndex_0 : decode cOB_checkIndex 0 = .ok (.iload_n 0, 1) := by decide +kernel
theorem dOB_checkIndex_1 : decode cOB_checkIndex 1 = .ok (.iload_n 1, 1) := by decide +kernel
theorem dOB_checkIndex_2 : decode cOB_checkIndex 2 = .ok (.aconst_null, 1) := by decide +kernel
theorem dOB_checkIndex_3 : decode cOB_checkIndex 3 = .ok (.invokestatic 105, 3) := by decide +kernel
theorem dOB_checkIndex_6 : decode cOB_checkIndex 6 = .ok (.ireturn, 1) := by decide +kernel
theorem dAL_elementData_0 : decode cAL_elementData 0 = .ok (.aload_n 0, 1) := by decide +kernel
theorem dAL_elementData_1 : decode cAL_elementData 1 = .ok (.getfield 9, 3) := by decide +kernel
theorem dAL_elementData_4 : decode cAL_elementData 4 = .ok (.iload_n 1, 1) := by decide +kernel
theorem dAL_elementData_5 : decode cAL_elementData 5 = .ok (.aaload, 1) := by decide +kernel
theorem dAL_elementData_6 : decode cAL_elementData 6 = .ok (.areturn, 1) := by decide +kernel
theorem dAL_get_0 : decode cAL_get 0 = .ok (.iload_n 1, 1) := by decide +kernel
theorem dAL_get_1 : decode cAL_get 1 = .ok (.aload_n 0, 1) := by decide +kernel
theorem dAL_get_2 : decode cAL_get 2 = .ok (.getfield 48, 3) := by decide +kernel
theorem dAL_get_5 : decode cAL_get 5 = .ok (.invokestatic 118, 3) := by decide +kernel
theorem dAL_get_8 : decode cAL_get 8 = .ok (.pop, 1) := by decide +kernel
theorem dAL_get_9 : decode cAL_get 9 = .ok (.aload_n 0, 1) := by decide +kernel
theorem dAL_get_10 : decode cAL_get 10 = .ok (.iload_n 1, 1) := by decide +kernel
theorem dAL_get_11 : decode cAL_get 11 = .ok (.invokevirtual 123, 3) := by decide +kernel
theorem dAL_get_14 : decode cAL_get 14 = .ok (.areturn, 1) := by decide +kernel
theorem dAL_isEmpty_0 : decode cAL_isEmpty 0 = .ok (.aload_n 0, 1) := by decide +kernel
theorem dAL_isEmpty_1 : decode cAL_isEmpty 1 = .ok (.getfield 48, 3) := by decide +kernel
theorem dAL_isEmpty_4 : decode cAL_isEmpty 4 = .ok (.ifCond .ne 7, 3) := by decide +kernel
theorem dAL_isEmpty_7 : decode cAL_isEmpty 7 = .ok (.iconst 1, 1) := by decide +kernel
theorem dAL_isEmpty_8 : decode cAL_isEmpty 8 = .ok (.goto 4, 3) := by decide +kernel
theorem dAL_isEmpty_11 : decode cAL_isEmpty 11 = .ok (.iconst 0, 1) := by decide +kernel
theorem dAL_isEmpty_12 : decode cAL_isEmpty 12 = .ok (.ireturn, 1) := by decide +kernel
end
section
/-! decode rows: CLS -/
theorem dPL_init_0 : decode cPL_init 0 = .ok (.aload_n 0, 1) := by decide +kernel
theorem dPL_init_1 : decode cPL_init 1 = .ok (.invokespecial 1, 3) := by decide +kernel
theorem dPL_init_4 : decode cPL_init 4 = .ok (.aload_n 0, 1) := by decide +kernel
theorem dPL_init_5 : decode cPL_init 5 = .ok (.new 7, 3) := by decide +kernel
theorem dPL_init_8 : decode cPL_init 8 = .ok (.dup, 1) := by decide +kernel
theorem dPL_init_9 : decode cPL_init 9 = .ok (.invokespecial 9, 3) := by decide +kernel
theorem dPL_init_12 : decode cPL_init 12 = .ok (.putfield 10, 3) := by decide +kernel
theorem dPL_init_15 : decode cPL_init 15 = .ok (.aload_n 0, 1) := by decide +kernel
theorem dPL_init_16 : decode cPL_init 16 = .ok (.new 7, 3) := by decide +kernel
theorem dPL_init_19 : decode cPL_init 19 = .ok (.dup, 1) := by decide +kernel
theorem dPL_init_20 : decode cPL_init 20 = .ok (.invokespecial 9, 3) := by decide +kernel
theorem dPL_init_23 : decode cPL_init 23 = .ok (.putfield 16, 3) := by decide +kernel
theorem dPL_init_26 : decode cPL_init 26 = .ok (.aload_n 0, 1) := by decide +kernel
theorem dPL_init_27 : decode cPL_init 27 = .ok (.iconst 0, 1) := by decide +kernel
theorem dPL_init_28 : decode cPL_init 28 = .ok (.putfield 19, 3) := by decide +kernel
theorem dPL_init_31 : decode cPL_init 31 = .ok (.aload_n 0, 1) := by decide +kernel
theorem dPL_init_32 : decode cPL_init 32 = .ok (.iconst 0, 1) := by decide +kernel
theorem dPL_init_33 : decode cPL_init 33 = .ok (.putfield 23, 3) := by decide +kernel
theorem dPL_init_36 : decode cPL_init 36 = .ok (.return_, 1) := by decide +kernel
theorem dPL_isOffice_0 : decode cPL_isOffice 0 = .ok (.iload_n 0, 1) := by decide +kernel
theorem dPL_isOffice_1 : decode cPL_isOffice 1 = .ok (.ifCond .lt 13, 3) := by decide +kernel
theorem dPL_isOffice_4 : decode cPL_isOffice 4 = .ok (.iload_n 0, 1) := by decide +kernel
theorem dPL_isOffice_5 : decode cPL_isOffice 5 = .ok (.bipush 10, 2) := by decide +kernel
theorem dPL_isOffice_7 : decode cPL_isOffice 7 = .ok (.if_icmp .ge 7, 3) := by decide +kernel
theorem dPL_isOffice_10 : decode cPL_isOffice 10 = .ok (.iconst 1, 1) := by decide +kernel
theorem dPL_isOffice_11 : decode cPL_isOffice 11 = .ok (.goto 4, 3) := by decide +kernel
theorem dPL_isOffice_14 : decode cPL_isOffice 14 = .ok (.iconst 0, 1) := by decide +kernel
theorem dPL_isOffice_15 : decode cPL_isOffice 15 = .ok (.ireturn, 1) := by decide +kernel
theorem dAC_init_0 : decode cAC_init 0 = .ok (.aload_n 0, 1) := by decide +kernel
theorem dAC_init_1 : decode cAC_init 1 = .ok (.invokespecial 1, 3) := by decide +kernel
theorem dAC_init_4 : decode cAC_init 4 = .ok (.aload_n 0, 1) := by decide +kernel
theorem dAC_init_5 : decode cAC_init 5 = .ok (.iload_n 1, 1) := by decide +kernel
theorem dAC_init_6 : decode cAC_init 6 = .ok (.putfield 7, 3) := by decide +kernel
theorem dAC_init_9 : decode cAC_init 9 = .ok (.aload_n 0, 1) := by decide +kernel
theorem dAC_init_10 : decode cAC_init 10 = .ok (.iload_n 2, 1) := by decide +kernel
theorem dAC_init_11 : decode cAC_init 11 = .ok (.putfield 13, 3) := by decide +kernel
theorem dAC_init_14 : decode cAC_init 14 = .ok (.return_, 1) := by decide +kernel
theorem dPL_account_0 : decode cPL_account 0 = .ok (.iload_n 1, 1) := by decide +kernel
theorem dPL_account_1 : decode cPL_account 1 = .ok (.invokestatic 26, 3) := by decide +kernel
theorem dPL_account_4 : decode cPL_account 4 = .ok (.ifCond .eq 13, 3) := by decide +kernel
theorem dPL_account_7 : decode cPL_account 7 = .ok (.iload_n 2, 1) := by decide +kernel
theorem dPL_account_8 : decode cPL_account 8 = .ok (.ifCond .lt 9, 3) := by decide +kernel
theorem dPL_account_11 : decode cPL_account 11 = .ok (.iload_n 2, 1) := by decide +kernel
theorem dPL_account_12 : decode cPL_account 12 = .ok (.bipush 6, 2) := by decide +kernel
theorem dPL_account_14 : decode cPL_account 14 = .ok (.if_icmp .lt 6, 3) := by decide +kernel
theorem dPL_account_17 : decode cPL_account 17 = .ok (.ldc 30, 2) := by decide +kernel
theorem dPL_account_19 : decode cPL_account 19 = .ok (.ireturn, 1) := by decide +kernel
theorem dPL_account_20 : decode cPL_account 20 = .ok (.aload_n 0, 1) := by decide +kernel
theorem dPL_account_21 : decode cPL_account 21 = .ok (.getfield 10, 3) := by decide +kernel
theorem dPL_account_24 : decode cPL_account 24 = .ok (.invokevirtual 31, 3) := by decide +kernel
theorem dPL_account_27 : decode cPL_account 27 = .ok (.bipush 60, 2) := by decide +kernel
theorem dPL_account_29 : decode cPL_account 29 = .ok (.if_icmp .lt 6, 3) := by decide +kernel
theorem dPL_account_32 : decode cPL_account 32 = .ok (.ldc 35, 2) := by decide +kernel
theorem dPL_account_34 : decode cPL_account 34 = .ok (.ireturn, 1) := by decide +kernel
theorem dPL_account_35 : decode cPL_account 35 = .ok (.aload_n 0, 1) := by decide +kernel
theorem dPL_account_36 : decode cPL_account 36 = .ok (.getfield 10, 3) := by decide +kernel
theorem dPL_account_39 : decode cPL_account 39 = .ok (.new 36, 3) := by decide +kernel
theorem dPL_account_42 : decode cPL_account 42 = .ok (.dup, 1) := by decide +kernel
theorem dPL_account_43 : decode cPL_account 43 = .ok (.iload_n 1, 1) := by decide +kernel
theorem dPL_account_44 : decode cPL_account 44 = .ok (.iload_n 2, 1) := by decide +kernel
theorem dPL_account_45 : decode cPL_account 45 = .ok (.invokespecial 38, 3) := by decide +kernel
theorem dPL_account_48 : decode cPL_account 48 = .ok (.invokevirtual 41, 3) := by decide +kernel
theorem dPL_account_51 : decode cPL_account 51 = .ok (.pop, 1) := by decide +kernel
theorem dPL_account_52 : decode cPL_account 52 = .ok (.aload_n 0, 1) := by decide +kernel
theorem dPL_account_53 : decode cPL_account 53 = .ok (.getfield 10, 3) := by decide +kernel
theorem dPL_account_56 : decode cPL_account 56 = .ok (.invokevirtual 31, 3) := by decide +kernel
theorem dPL_account_59 : decode cPL_account 59 = .ok (.ireturn, 1) := by decide +kernel
theorem dPL_isWithin_0 : decode cPL_isWithin 0 = .ok (.lload_n 0, 1) := by decide +kernel
theorem dPL_isWithin_1 : decode cPL_isWithin 1 = .ok (.lload_n 2, 1) := by decide +kernel
theorem dPL_isWithin_2 : decode cPL_isWithin 2 = .ok (.lcmp, 1) := by decide +kernel
theorem dPL_isWithin_3 : decode cPL_isWithin 3 = .ok (.ifCond .lt 14, 3) := by decide +kernel
theorem dPL_isWithin_6 : decode cPL_isWithin 6 = .ok (.lload_n 0, 1) := by decide +kernel
theorem dPL_isWithin_7 : decode cPL_isWithin 7 = .ok (.lload 4, 2) := by decide +kernel
theorem dPL_isWithin_9 : decode cPL_isWithin 9 = .ok (.lcmp, 1) := by decide +kernel
theorem dPL_isWithin_10 : decode cPL_isWithin 10 = .ok (.ifCond .gt 7, 3) := by decide +kernel
theorem dPL_isWithin_13 : decode cPL_isWithin 13 = .ok (.iconst 1, 1) := by decide +kernel
theorem dPL_isWithin_14 : decode cPL_isWithin 14 = .ok (.goto 4, 3) := by decide +kernel
theorem dPL_isWithin_17 : decode cPL_isWithin 17 = .ok (.iconst 0, 1) := by decide +kernel
theorem dPL_isWithin_18 : decode cPL_isWithin 18 = .ok (.ireturn, 1) := by decide +kernel
theorem dPL_isDay_0 : decode cPL_isDay 0 = .ok (.lload_n 0, 1) := by decide +kernel
theorem dPL_isDay_1 : decode cPL_isDay 1 = .ok (.lconst 0, 1) := by decide +kernel
theorem dPL_isDay_2 : decode cPL_isDay 2 = .ok (.ldc2_w 180, 3) := by decide +kernel
theorem dPL_isDay_5 : decode cPL_isDay 5 = .ok (.invokestatic 80, 3) := by decide +kernel
theorem dPL_isDay_8 : decode cPL_isDay 8 = .ok (.ireturn, 1) := by decide +kernel
theorem dPL_isClosed_0 : decode cPL_isClosed 0 = .ok (.lload_n 1, 1) := by decide +kernel
theorem dPL_isClosed_1 : decode cPL_isClosed 1 = .ok (.aload_n 0, 1) := by decide +kernel
theorem dPL_isClosed_2 : decode cPL_isClosed 2 = .ok (.getfield 19, 3) := by decide +kernel
theorem dPL_isClosed_5 : decode cPL_isClosed 5 = .ok (.i2l, 1) := by decide +kernel
theorem dPL_isClosed_6 : decode cPL_isClosed 6 = .ok (.lcmp, 1) := by decide +kernel
theorem dPL_isClosed_7 : decode cPL_isClosed 7 = .ok (.ifCond .ge 7, 3) := by decide +kernel
theorem dPL_isClosed_10 : decode cPL_isClosed 10 = .ok (.iconst 1, 1) := by decide +kernel
theorem dPL_isClosed_11 : decode cPL_isClosed 11 = .ok (.goto 4, 3) := by decide +kernel
theorem dPL_isClosed_14 : decode cPL_isClosed 14 = .ok (.iconst 0, 1) := by decide +kernel
theorem dPL_isClosed_15 : decode cPL_isClosed 15 = .ok (.ireturn, 1) := by decide +kernel
theorem dPL_hasRoomForBatch_0 : decode cPL_hasRoomForBatch 0 = .ok (.aload_n 0, 1) := by decide +kernel
theorem dPL_hasRoomForBatch_1 : decode cPL_hasRoomForBatch 1 = .ok (.getfield 16, 3) := by decide +kernel
theorem dPL_hasRoomForBatch_4 : decode cPL_hasRoomForBatch 4 = .ok (.invokevirtual 31, 3) := by decide +kernel
theorem dPL_hasRoomForBatch_7 : decode cPL_hasRoomForBatch 7 = .ok (.sipush 300, 3) := by decide +kernel
theorem dPL_hasRoomForBatch_10 : decode cPL_hasRoomForBatch 10 = .ok (.if_icmp .ge 7, 3) := by decide +kernel
theorem dPL_hasRoomForBatch_13 : decode cPL_hasRoomForBatch 13 = .ok (.iconst 1, 1) := by decide +kernel
theorem dPL_hasRoomForBatch_14 : decode cPL_hasRoomForBatch 14 = .ok (.goto 4, 3) := by decide +kernel
theorem dPL_hasRoomForBatch_17 : decode cPL_hasRoomForBatch 17 = .ok (.iconst 0, 1) := by decide +kernel
theorem dPL_hasRoomForBatch_18 : decode cPL_hasRoomForBatch 18 = .ok (.ireturn, 1) := by decide +kernel
theorem dBA_init_0 : decode cBA_init 0 = .ok (.aload_n 0, 1) := by decide +kernel
theorem dBA_init_1 : decode cBA_init 1 = .ok (.invokespecial 3, 3) := by decide +kernel
theorem dBA_init_4 : decode cBA_init 4 = .ok (.aload_n 0, 1) := by decide +kernel
theorem dBA_init_5 : decode cBA_init 5 = .ok (.iload_n 1, 1) := by decide +kernel
theorem dBA_init_6 : decode cBA_init 6 = .ok (.putfield 9, 3) := by decide +kernel
theorem dBA_init_9 : decode cBA_init 9 = .ok (.aload_n 0, 1) := by decide +kernel
theorem dBA_init_10 : decode cBA_init 10 = .ok (.new 15, 3) := by decide +kernel
theorem dBA_init_13 : decode cBA_init 13 = .ok (.dup, 1) := by decide +kernel
theorem dBA_init_14 : decode cBA_init 14 = .ok (.invokespecial 17, 3) := by decide +kernel
theorem dBA_init_17 : decode cBA_init 17 = .ok (.putfield 18, 3) := by decide +kernel
theorem dBA_init_20 : decode cBA_init 20 = .ok (.aload_n 0, 1) := by decide +kernel
theorem dBA_init_21 : decode cBA_init 21 = .ok (.getstatic 22, 3) := by decide +kernel
theorem dBA_init_24 : decode cBA_init 24 = .ok (.putfield 28, 3) := by decide +kernel
theorem dBA_init_27 : decode cBA_init 27 = .ok (.return_, 1) := by decide +kernel
theorem dPL_batch_0 : decode cPL_batch 0 = .ok (.lload_n 1, 1) := by decide +kernel
theorem dPL_batch_1 : decode cPL_batch 1 = .ok (.invokestatic 45, 3) := by decide +kernel
theorem dPL_batch_4 : decode cPL_batch 4 = .ok (.ifCond .ne 6, 3) := by decide +kernel
theorem dPL_batch_7 : decode cPL_batch 7 = .ok (.ldc 30, 2) := by decide +kernel
theorem dPL_batch_9 : decode cPL_batch 9 = .ok (.ireturn, 1) := by decide +kernel
theorem dPL_batch_10 : decode cPL_batch 10 = .ok (.aload_n 0, 1) := by decide +kernel
theorem dPL_batch_11 : decode cPL_batch 11 = .ok (.lload_n 1, 1) := by decide +kernel
theorem dPL_batch_12 : decode cPL_batch 12 = .ok (.invokevirtual 49, 3) := by decide +kernel
theorem dPL_batch_15 : decode cPL_batch 15 = .ok (.ifCond .eq 6, 3) := by decide +kernel
theorem dPL_batch_18 : decode cPL_batch 18 = .ok (.ldc 52, 2) := by decide +kernel
theorem dPL_batch_20 : decode cPL_batch 20 = .ok (.ireturn, 1) := by decide +kernel
theorem dPL_batch_21 : decode cPL_batch 21 = .ok (.aload_n 0, 1) := by decide +kernel
theorem dPL_batch_22 : decode cPL_batch 22 = .ok (.invokevirtual 53, 3) := by decide +kernel
theorem dPL_batch_25 : decode cPL_batch 25 = .ok (.ifCond .ne 6, 3) := by decide +kernel
theorem dPL_batch_28 : decode cPL_batch 28 = .ok (.ldc 35, 2) := by decide +kernel
theorem dPL_batch_30 : decode cPL_batch 30 = .ok (.ireturn, 1) := by decide +kernel
theorem dPL_batch_31 : decode cPL_batch 31 = .ok (.aload_n 0, 1) := by decide +kernel
theorem dPL_batch_32 : decode cPL_batch 32 = .ok (.getfield 16, 3) := by decide +kernel
theorem dPL_batch_35 : decode cPL_batch 35 = .ok (.new 57, 3) := by decide +kernel
theorem dPL_batch_38 : decode cPL_batch 38 = .ok (.dup, 1) := by decide +kernel
theorem dPL_batch_39 : decode cPL_batch 39 = .ok (.lload_n 1, 1) := by decide +kernel
theorem dPL_batch_40 : decode cPL_batch 40 = .ok (.l2i, 1) := by decide +kernel
theorem dPL_batch_41 : decode cPL_batch 41 = .ok (.invokespecial 59, 3) := by decide +kernel
theorem dPL_batch_44 : decode cPL_batch 44 = .ok (.invokevirtual 41, 3) := by decide +kernel
theorem dPL_batch_47 : decode cPL_batch 47 = .ok (.pop, 1) := by decide +kernel
theorem dPL_batch_48 : decode cPL_batch 48 = .ok (.aload_n 0, 1) := by decide +kernel
theorem dPL_batch_49 : decode cPL_batch 49 = .ok (.getfield 16, 3) := by decide +kernel
theorem dPL_batch_52 : decode cPL_batch 52 = .ok (.invokevirtual 31, 3) := by decide +kernel
theorem dPL_batch_55 : decode cPL_batch 55 = .ok (.ireturn, 1) := by decide +kernel
theorem dPL_findBatch_0 : decode cPL_findBatch 0 = .ok (.iload_n 1, 1) := by decide +kernel
theorem dPL_findBatch_1 : decode cPL_findBatch 1 = .ok (.iconst 1, 1) := by decide +kernel
theorem dPL_findBatch_2 : decode cPL_findBatch 2 = .ok (.if_icmp .lt 30, 3) := by decide +kernel
theorem dPL_findBatch_5 : decode cPL_findBatch 5 = .ok (.iload_n 1, 1) := by decide +kernel
theorem dPL_findBatch_6 : decode cPL_findBatch 6 = .ok (.aload_n 0, 1) := by decide +kernel
theorem dPL_findBatch_7 : decode cPL_findBatch 7 = .ok (.getfield 16, 3) := by decide +kernel
theorem dPL_findBatch_10 : decode cPL_findBatch 10 = .ok (.invokevirtual 31, 3) := by decide +kernel
theorem dPL_findBatch_13 : decode cPL_findBatch 13 = .ok (.if_icmp .gt 19, 3) := by decide +kernel
theorem dPL_findBatch_16 : decode cPL_findBatch 16 = .ok (.aload_n 0, 1) := by decide +kernel
theorem dPL_findBatch_17 : decode cPL_findBatch 17 = .ok (.getfield 16, 3) := by decide +kernel
theorem dPL_findBatch_20 : decode cPL_findBatch 20 = .ok (.iload_n 1, 1) := by decide +kernel
theorem dPL_findBatch_21 : decode cPL_findBatch 21 = .ok (.iconst 1, 1) := by decide +kernel
theorem dPL_findBatch_22 : decode cPL_findBatch 22 = .ok (.isub, 1) := by decide +kernel
theorem dPL_findBatch_23 : decode cPL_findBatch 23 = .ok (.invokevirtual 127, 3) := by decide +kernel
theorem dPL_findBatch_26 : decode cPL_findBatch 26 = .ok (.checkcast 57, 3) := by decide +kernel
theorem dPL_findBatch_29 : decode cPL_findBatch 29 = .ok (.goto 4, 3) := by decide +kernel
theorem dPL_findBatch_32 : decode cPL_findBatch 32 = .ok (.aconst_null, 1) := by decide +kernel
theorem dPL_findBatch_33 : decode cPL_findBatch 33 = .ok (.areturn, 1) := by decide +kernel
theorem dPL_findAccount_0 : decode cPL_findAccount 0 = .ok (.iload_n 1, 1) := by decide +kernel
theorem dPL_findAccount_1 : decode cPL_findAccount 1 = .ok (.iconst 1, 1) := by decide +kernel
theorem dPL_findAccount_2 : decode cPL_findAccount 2 = .ok (.if_icmp .lt 30, 3) := by decide +kernel
theorem dPL_findAccount_5 : decode cPL_findAccount 5 = .ok (.iload_n 1, 1) := by decide +kernel
theorem dPL_findAccount_6 : decode cPL_findAccount 6 = .ok (.aload_n 0, 1) := by decide +kernel
theorem dPL_findAccount_7 : decode cPL_findAccount 7 = .ok (.getfield 10, 3) := by decide +kernel
theorem dPL_findAccount_10 : decode cPL_findAccount 10 = .ok (.invokevirtual 31, 3) := by decide +kernel
theorem dPL_findAccount_13 : decode cPL_findAccount 13 = .ok (.if_icmp .gt 19, 3) := by decide +kernel
theorem dPL_findAccount_16 : decode cPL_findAccount 16 = .ok (.aload_n 0, 1) := by decide +kernel
theorem dPL_findAccount_17 : decode cPL_findAccount 17 = .ok (.getfield 10, 3) := by decide +kernel
theorem dPL_findAccount_20 : decode cPL_findAccount 20 = .ok (.iload_n 1, 1) := by decide +kernel
theorem dPL_findAccount_21 : decode cPL_findAccount 21 = .ok (.iconst 1, 1) := by decide +kernel
theorem dPL_findAccount_22 : decode cPL_findAccount 22 = .ok (.isub, 1) := by decide +kernel
theorem dPL_findAccount_23 : decode cPL_findAccount 23 = .ok (.invokevirtual 127, 3) := by decide +kernel
theorem dPL_findAccount_26 : decode cPL_findAccount 26 = .ok (.checkcast 36, 3) := by decide +kernel
theorem dPL_findAccount_29 : decode cPL_findAccount 29 = .ok (.goto 4, 3) := by decide +kernel
theorem dPL_findAccount_32 : decode cPL_findAccount 32 = .ok (.aconst_null, 1) := by decide +kernel
theorem dPL_findAccount_33 : decode cPL_findAccount 33 = .ok (.areturn, 1) := by decide +kernel
theorem dBA_isOpen_0 : decode cBA_isOpen 0 = .ok (.aload_n 0, 1) := by decide +kernel
theorem dBA_isOpen_1 : decode cBA_isOpen 1 = .ok (.getfield 28, 3) := by decide +kernel
theorem dBA_isOpen_4 : decode cBA_isOpen 4 = .ok (.getstatic 22, 3) := by decide +kernel
theorem dBA_isOpen_7 : decode cBA_isOpen 7 = .ok (.if_acmp .ne 7, 3) := by decide +kernel
theorem dBA_isOpen_10 : decode cBA_isOpen 10 = .ok (.iconst 1, 1) := by decide +kernel
theorem dBA_isOpen_11 : decode cBA_isOpen 11 = .ok (.goto 4, 3) := by decide +kernel
theorem dBA_isOpen_14 : decode cBA_isOpen 14 = .ok (.iconst 0, 1) := by decide +kernel
theorem dBA_isOpen_15 : decode cBA_isOpen 15 = .ok (.ireturn, 1) := by decide +kernel
theorem dBA_isFull_0 : decode cBA_isFull 0 = .ok (.aload_n 0, 1) := by decide +kernel
theorem dBA_isFull_1 : decode cBA_isFull 1 = .ok (.getfield 18, 3) := by decide +kernel
theorem dBA_isFull_4 : decode cBA_isFull 4 = .ok (.invokevirtual 31, 3) := by decide +kernel
theorem dBA_isFull_7 : decode cBA_isFull 7 = .ok (.bipush 12, 2) := by decide +kernel
theorem dBA_isFull_9 : decode cBA_isFull 9 = .ok (.if_icmp .lt 7, 3) := by decide +kernel
theorem dBA_isFull_12 : decode cBA_isFull 12 = .ok (.iconst 1, 1) := by decide +kernel
theorem dBA_isFull_13 : decode cBA_isFull 13 = .ok (.goto 4, 3) := by decide +kernel
theorem dBA_isFull_16 : decode cBA_isFull 16 = .ok (.iconst 0, 1) := by decide +kernel
theorem dBA_isFull_17 : decode cBA_isFull 17 = .ok (.ireturn, 1) := by decide +kernel
theorem dRW_init_0 : decode cRW_init 0 = .ok (.aload_n 0, 1) := by decide +kernel
theorem dRW_init_1 : decode cRW_init 1 = .ok (.invokespecial 3, 3) := by decide +kernel
theorem dRW_init_4 : decode cRW_init 4 = .ok (.aload_n 0, 1) := by decide +kernel
theorem dRW_init_5 : decode cRW_init 5 = .ok (.aload_n 1, 1) := by decide +kernel
theorem dRW_init_6 : decode cRW_init 6 = .ok (.putfield 9, 3) := by decide +kernel
theorem dRW_init_9 : decode cRW_init 9 = .ok (.aload_n 0, 1) := by decide +kernel
theorem dRW_init_10 : decode cRW_init 10 = .ok (.lload_n 2, 1) := by decide +kernel
theorem dRW_init_11 : decode cRW_init 11 = .ok (.putfield 15, 3) := by decide +kernel
theorem dRW_init_14 : decode cRW_init 14 = .ok (.return_, 1) := by decide +kernel
theorem dBA_addRow_0 : decode cBA_addRow 0 = .ok (.aload_n 0, 1) := by decide +kernel
theorem dBA_addRow_1 : decode cBA_addRow 1 = .ok (.getfield 18, 3) := by decide +kernel
theorem dBA_addRow_4 : decode cBA_addRow 4 = .ok (.new 38, 3) := by decide +kernel
theorem dBA_addRow_7 : decode cBA_addRow 7 = .ok (.dup, 1) := by decide +kernel
theorem dBA_addRow_8 : decode cBA_addRow 8 = .ok (.aload_n 1, 1) := by decide +kernel
theorem dBA_addRow_9 : decode cBA_addRow 9 = .ok (.lload_n 2, 1) := by decide +kernel
theorem dBA_addRow_10 : decode cBA_addRow 10 = .ok (.invokespecial 40, 3) := by decide +kernel
theorem dBA_addRow_13 : decode cBA_addRow 13 = .ok (.invokevirtual 43, 3) := by decide +kernel
theorem dBA_addRow_16 : decode cBA_addRow 16 = .ok (.pop, 1) := by decide +kernel
theorem dBA_addRow_17 : decode cBA_addRow 17 = .ok (.return_, 1) := by decide +kernel
theorem dPL_row_0 : decode cPL_row 0 = .ok (.aload_n 0, 1) := by decide +kernel
theorem dPL_row_1 : decode cPL_row 1 = .ok (.iload_n 1, 1) := by decide +kernel
theorem dPL_row_2 : decode cPL_row 2 = .ok (.invokevirtual 62, 3) := by decide +kernel
theorem dPL_row_5 : decode cPL_row 5 = .ok (.astore 5, 2) := by decide +kernel
theorem dPL_row_7 : decode cPL_row 7 = .ok (.aload_n 0, 1) := by decide +kernel
theorem dPL_row_8 : decode cPL_row 8 = .ok (.iload_n 2, 1) := by decide +kernel
theorem dPL_row_9 : decode cPL_row 9 = .ok (.invokevirtual 66, 3) := by decide +kernel
theorem dPL_row_12 : decode cPL_row 12 = .ok (.astore 6, 2) := by decide +kernel
theorem dPL_row_14 : decode cPL_row 14 = .ok (.aload 5, 2) := by decide +kernel
theorem dPL_row_16 : decode cPL_row 16 = .ok (.ifnull 24, 3) := by decide +kernel
theorem dPL_row_19 : decode cPL_row 19 = .ok (.aload 6, 2) := by decide +kernel
theorem dPL_row_21 : decode cPL_row 21 = .ok (.ifnull 19, 3) := by decide +kernel
theorem dPL_row_24 : decode cPL_row 24 = .ok (.aload 5, 2) := by decide +kernel
theorem dPL_row_26 : decode cPL_row 26 = .ok (.invokevirtual 70, 3) := by decide +kernel
theorem dPL_row_29 : decode cPL_row 29 = .ok (.ifCond .eq 11, 3) := by decide +kernel
theorem dPL_row_32 : decode cPL_row 32 = .ok (.aload 5, 2) := by decide +kernel
theorem dPL_row_34 : decode cPL_row 34 = .ok (.invokevirtual 73, 3) := by decide +kernel
theorem dPL_row_37 : decode cPL_row 37 = .ok (.ifCond .eq 5, 3) := by decide +kernel
theorem dPL_row_40 : decode cPL_row 40 = .ok (.iconst 0, 1) := by decide +kernel
theorem dPL_row_41 : decode cPL_row 41 = .ok (.ireturn, 1) := by decide +kernel
theorem dPL_row_42 : decode cPL_row 42 = .ok (.lload_n 3, 1) := by decide +kernel
theorem dPL_row_43 : decode cPL_row 43 = .ok (.lconst 0, 1) := by decide +kernel
theorem dPL_row_44 : decode cPL_row 44 = .ok (.lcmp, 1) := by decide +kernel
theorem dPL_row_45 : decode cPL_row 45 = .ok (.ifCond .eq 16, 3) := by decide +kernel
theorem dPL_row_48 : decode cPL_row 48 = .ok (.lload_n 3, 1) := by decide +kernel
theorem dPL_row_49 : decode cPL_row 49 = .ok (.ldc2_w 76, 3) := by decide +kernel
theorem dPL_row_52 : decode cPL_row 52 = .ok (.ldc2_w 78, 3) := by decide +kernel
theorem dPL_row_55 : decode cPL_row 55 = .ok (.invokestatic 80, 3) := by decide +kernel
theorem dPL_row_58 : decode cPL_row 58 = .ok (.ifCond .ne 5, 3) := by decide +kernel
theorem dPL_row_61 : decode cPL_row 61 = .ok (.iconst 0, 1) := by decide +kernel
theorem dPL_row_62 : decode cPL_row 62 = .ok (.ireturn, 1) := by decide +kernel
theorem dPL_row_63 : decode cPL_row 63 = .ok (.aload 5, 2) := by decide +kernel
theorem dPL_row_65 : decode cPL_row 65 = .ok (.aload 6, 2) := by decide +kernel
theorem dPL_row_67 : decode cPL_row 67 = .ok (.lload_n 3, 1) := by decide +kernel
theorem dPL_row_68 : decode cPL_row 68 = .ok (.invokevirtual 84, 3) := by decide +kernel
theorem dPL_row_71 : decode cPL_row 71 = .ok (.iconst 1, 1) := by decide +kernel
theorem dPL_row_72 : decode cPL_row 72 = .ok (.ireturn, 1) := by decide +kernel
theorem dBA_size_0 : decode cBA_size 0 = .ok (.aload_n 0, 1) := by decide +kernel
theorem dBA_size_1 : decode cBA_size 1 = .ok (.getfield 18, 3) := by decide +kernel
theorem dBA_size_4 : decode cBA_size 4 = .ok (.invokevirtual 31, 3) := by decide +kernel
theorem dBA_size_7 : decode cBA_size 7 = .ok (.ireturn, 1) := by decide +kernel
theorem dBA_sumForAccount_0 : decode cBA_sumForAccount 0 = .ok (.lconst 0, 1) := by decide +kernel
theorem dBA_sumForAccount_1 : decode cBA_sumForAccount 1 = .ok (.lstore_n 3, 1) := by decide +kernel
theorem dBA_sumForAccount_2 : decode cBA_sumForAccount 2 = .ok (.iconst 0, 1) := by decide +kernel
theorem dBA_sumForAccount_3 : decode cBA_sumForAccount 3 = .ok (.istore 5, 2) := by decide +kernel
theorem dBA_sumForAccount_5 : decode cBA_sumForAccount 5 = .ok (.iload 5, 2) := by decide +kernel
theorem dBA_sumForAccount_7 : decode cBA_sumForAccount 7 = .ok (.iload_n 2, 1) := by decide +kernel
theorem dBA_sumForAccount_8 : decode cBA_sumForAccount 8 = .ok (.if_icmp .ge 52, 3) := by decide +kernel
theorem dBA_sumForAccount_11 : decode cBA_sumForAccount 11 = .ok (.iload 5, 2) := by decide +kernel
theorem dBA_sumForAccount_13 : decode cBA_sumForAccount 13 = .ok (.aload_n 0, 1) := by decide +kernel
theorem dBA_sumForAccount_14 : decode cBA_sumForAccount 14 = .ok (.getfield 18, 3) := by decide +kernel
theorem dBA_sumForAccount_17 : decode cBA_sumForAccount 17 = .ok (.invokevirtual 31, 3) := by decide +kernel
theorem dBA_sumForAccount_20 : decode cBA_sumForAccount 20 = .ok (.if_icmp .ge 40, 3) := by decide +kernel
theorem dBA_sumForAccount_23 : decode cBA_sumForAccount 23 = .ok (.aload_n 0, 1) := by decide +kernel
theorem dBA_sumForAccount_24 : decode cBA_sumForAccount 24 = .ok (.getfield 18, 3) := by decide +kernel
theorem dBA_sumForAccount_27 : decode cBA_sumForAccount 27 = .ok (.iload 5, 2) := by decide +kernel
theorem dBA_sumForAccount_29 : decode cBA_sumForAccount 29 = .ok (.invokevirtual 47, 3) := by decide +kernel
theorem dBA_sumForAccount_32 : decode cBA_sumForAccount 32 = .ok (.checkcast 38, 3) := by decide +kernel
theorem dBA_sumForAccount_35 : decode cBA_sumForAccount 35 = .ok (.astore 6, 2) := by decide +kernel
theorem dBA_sumForAccount_37 : decode cBA_sumForAccount 37 = .ok (.aload 6, 2) := by decide +kernel
theorem dBA_sumForAccount_39 : decode cBA_sumForAccount 39 = .ok (.getfield 51, 3) := by decide +kernel
theorem dBA_sumForAccount_42 : decode cBA_sumForAccount 42 = .ok (.aload_n 1, 1) := by decide +kernel
theorem dBA_sumForAccount_43 : decode cBA_sumForAccount 43 = .ok (.if_acmp .ne 11, 3) := by decide +kernel
theorem dBA_sumForAccount_46 : decode cBA_sumForAccount 46 = .ok (.lload_n 3, 1) := by decide +kernel
theorem dBA_sumForAccount_47 : decode cBA_sumForAccount 47 = .ok (.aload 6, 2) := by decide +kernel
theorem dBA_sumForAccount_49 : decode cBA_sumForAccount 49 = .ok (.getfield 55, 3) := by decide +kernel
theorem dBA_sumForAccount_52 : decode cBA_sumForAccount 52 = .ok (.ladd, 1) := by decide +kernel
theorem dBA_sumForAccount_53 : decode cBA_sumForAccount 53 = .ok (.lstore_n 3, 1) := by decide +kernel
theorem dBA_sumForAccount_54 : decode cBA_sumForAccount 54 = .ok (.iinc 5 1, 3) := by decide +kernel
theorem dBA_sumForAccount_57 : decode cBA_sumForAccount 57 = .ok (.goto (-52), 3) := by decide +kernel
theorem dBA_sumForAccount_60 : decode cBA_sumForAccount 60 = .ok (.lload_n 3, 1) := by decide +kernel
theorem dBA_sumForAccount_61 : decode cBA_sumForAccount 61 = .ok (.lreturn, 1) := by decide +kernel
theorem dPL_balance_0 : decode cPL_balance 0 = .ok (.aload_n 0, 1) := by decide +kernel
theorem dPL_balance_1 : decode cPL_balance 1 = .ok (.iload_n 1, 1) := by decide +kernel
theorem dPL_balance_2 : decode cPL_balance 2 = .ok (.invokevirtual 66, 3) := by decide +kernel
theorem dPL_balance_5 : decode cPL_balance 5 = .ok (.astore 4, 2) := by decide +kernel
theorem dPL_balance_7 : decode cPL_balance 7 = .ok (.aload 4, 2) := by decide +kernel
theorem dPL_balance_9 : decode cPL_balance 9 = .ok (.ifnonnull 7, 3) := by decide +kernel
theorem dPL_balance_12 : decode cPL_balance 12 = .ok (.ldc2_w 125, 3) := by decide +kernel
theorem dPL_balance_15 : decode cPL_balance 15 = .ok (.lreturn, 1) := by decide +kernel
theorem dPL_balance_16 : decode cPL_balance 16 = .ok (.lconst 0, 1) := by decide +kernel
theorem dPL_balance_17 : decode cPL_balance 17 = .ok (.lstore 5, 2) := by decide +kernel
theorem dPL_balance_19 : decode cPL_balance 19 = .ok (.iconst 0, 1) := by decide +kernel
theorem dPL_balance_20 : decode cPL_balance 20 = .ok (.istore 7, 2) := by decide +kernel
theorem dPL_balance_22 : decode cPL_balance 22 = .ok (.iload 7, 2) := by decide +kernel
theorem dPL_balance_24 : decode cPL_balance 24 = .ok (.aload_n 0, 1) := by decide +kernel
theorem dPL_balance_25 : decode cPL_balance 25 = .ok (.getfield 16, 3) := by decide +kernel
theorem dPL_balance_28 : decode cPL_balance 28 = .ok (.invokevirtual 31, 3) := by decide +kernel
theorem dPL_balance_31 : decode cPL_balance 31 = .ok (.if_icmp .ge 62, 3) := by decide +kernel
theorem dPL_balance_34 : decode cPL_balance 34 = .ok (.aload_n 0, 1) := by decide +kernel
theorem dPL_balance_35 : decode cPL_balance 35 = .ok (.getfield 16, 3) := by decide +kernel
theorem dPL_balance_38 : decode cPL_balance 38 = .ok (.iload 7, 2) := by decide +kernel
theorem dPL_balance_40 : decode cPL_balance 40 = .ok (.invokevirtual 127, 3) := by decide +kernel
theorem dPL_balance_43 : decode cPL_balance 43 = .ok (.checkcast 57, 3) := by decide +kernel
theorem dPL_balance_46 : decode cPL_balance 46 = .ok (.astore 8, 2) := by decide +kernel
theorem dPL_balance_48 : decode cPL_balance 48 = .ok (.aload 8, 2) := by decide +kernel
theorem dPL_balance_50 : decode cPL_balance 50 = .ok (.getfield 112, 3) := by decide +kernel
theorem dPL_balance_53 : decode cPL_balance 53 = .ok (.getstatic 131, 3) := by decide +kernel
theorem dPL_balance_56 : decode cPL_balance 56 = .ok (.if_acmp .ne 31, 3) := by decide +kernel
theorem dPL_balance_59 : decode cPL_balance 59 = .ok (.aload 8, 2) := by decide +kernel
theorem dPL_balance_61 : decode cPL_balance 61 = .ok (.getfield 89, 3) := by decide +kernel
theorem dPL_balance_64 : decode cPL_balance 64 = .ok (.i2l, 1) := by decide +kernel
theorem dPL_balance_65 : decode cPL_balance 65 = .ok (.lload_n 2, 1) := by decide +kernel
theorem dPL_balance_66 : decode cPL_balance 66 = .ok (.lcmp, 1) := by decide +kernel
theorem dPL_balance_67 : decode cPL_balance 67 = .ok (.ifCond .gt 20, 3) := by decide +kernel
theorem dPL_balance_70 : decode cPL_balance 70 = .ok (.lload 5, 2) := by decide +kernel
theorem dPL_balance_72 : decode cPL_balance 72 = .ok (.aload 8, 2) := by decide +kernel
theorem dPL_balance_74 : decode cPL_balance 74 = .ok (.aload 4, 2) := by decide +kernel
theorem dPL_balance_76 : decode cPL_balance 76 = .ok (.aload 8, 2) := by decide +kernel
theorem dPL_balance_78 : decode cPL_balance 78 = .ok (.invokevirtual 133, 3) := by decide +kernel
theorem dPL_balance_81 : decode cPL_balance 81 = .ok (.invokevirtual 134, 3) := by decide +kernel
theorem dPL_balance_84 : decode cPL_balance 84 = .ok (.ladd, 1) := by decide +kernel
theorem dPL_balance_85 : decode cPL_balance 85 = .ok (.lstore 5, 2) := by decide +kernel
theorem dPL_balance_87 : decode cPL_balance 87 = .ok (.iinc 7 1, 3) := by decide +kernel
theorem dPL_balance_90 : decode cPL_balance 90 = .ok (.goto (-68), 3) := by decide +kernel
theorem dPL_balance_93 : decode cPL_balance 93 = .ok (.lload 5, 2) := by decide +kernel
theorem dPL_balance_95 : decode cPL_balance 95 = .ok (.lreturn, 1) := by decide +kernel
theorem dPL_close_0 : decode cPL_close 0 = .ok (.lload_n 1, 1) := by decide +kernel
theorem dPL_close_1 : decode cPL_close 1 = .ok (.invokestatic 45, 3) := by decide +kernel
theorem dPL_close_4 : decode cPL_close 4 = .ok (.ifCond .ne 6, 3) := by decide +kernel
theorem dPL_close_7 : decode cPL_close 7 = .ok (.ldc 30, 2) := by decide +kernel
theorem dPL_close_9 : decode cPL_close 9 = .ok (.ireturn, 1) := by decide +kernel
theorem dPL_close_10 : decode cPL_close 10 = .ok (.aload_n 0, 1) := by decide +kernel
theorem dPL_close_11 : decode cPL_close 11 = .ok (.lload_n 1, 1) := by decide +kernel
theorem dPL_close_12 : decode cPL_close 12 = .ok (.invokevirtual 49, 3) := by decide +kernel
theorem dPL_close_15 : decode cPL_close 15 = .ok (.ifCond .eq 5, 3) := by decide +kernel
theorem dPL_close_18 : decode cPL_close 18 = .ok (.iconst 0, 1) := by decide +kernel
theorem dPL_close_19 : decode cPL_close 19 = .ok (.ireturn, 1) := by decide +kernel
theorem dPL_close_20 : decode cPL_close 20 = .ok (.aload_n 0, 1) := by decide +kernel
theorem dPL_close_21 : decode cPL_close 21 = .ok (.getfield 19, 3) := by decide +kernel
theorem dPL_close_24 : decode cPL_close 24 = .ok (.istore_n 3, 1) := by decide +kernel
theorem dPL_close_25 : decode cPL_close 25 = .ok (.aload_n 0, 1) := by decide +kernel
theorem dPL_close_26 : decode cPL_close 26 = .ok (.lload_n 1, 1) := by decide +kernel
theorem dPL_close_27 : decode cPL_close 27 = .ok (.l2i, 1) := by decide +kernel
theorem dPL_close_28 : decode cPL_close 28 = .ok (.iconst 1, 1) := by decide +kernel
theorem dPL_close_29 : decode cPL_close 29 = .ok (.iadd, 1) := by decide +kernel
theorem dPL_close_30 : decode cPL_close 30 = .ok (.putfield 19, 3) := by decide +kernel
theorem dPL_close_33 : decode cPL_close 33 = .ok (.aload_n 0, 1) := by decide +kernel
theorem dPL_close_34 : decode cPL_close 34 = .ok (.getfield 19, 3) := by decide +kernel
theorem dPL_close_37 : decode cPL_close 37 = .ok (.iload_n 3, 1) := by decide +kernel
theorem dPL_close_38 : decode cPL_close 38 = .ok (.isub, 1) := by decide +kernel
theorem dPL_close_39 : decode cPL_close 39 = .ok (.ireturn, 1) := by decide +kernel
theorem dBA_hasRowNumber_0 : decode cBA_hasRowNumber 0 = .ok (.iload_n 1, 1) := by decide +kernel
theorem dBA_hasRowNumber_1 : decode cBA_hasRowNumber 1 = .ok (.aload_n 0, 1) := by decide +kernel
theorem dBA_hasRowNumber_2 : decode cBA_hasRowNumber 2 = .ok (.getfield 35, 3) := by decide +kernel
theorem dBA_hasRowNumber_5 : decode cBA_hasRowNumber 5 = .ok (.if_icmp .lt 23, 3) := by decide +kernel
theorem dBA_hasRowNumber_8 : decode cBA_hasRowNumber 8 = .ok (.iload_n 1, 1) := by decide +kernel
theorem dBA_hasRowNumber_9 : decode cBA_hasRowNumber 9 = .ok (.aload_n 0, 1) := by decide +kernel
theorem dBA_hasRowNumber_10 : decode cBA_hasRowNumber 10 = .ok (.getfield 35, 3) := by decide +kernel
theorem dBA_hasRowNumber_13 : decode cBA_hasRowNumber 13 = .ok (.aload_n 0, 1) := by decide +kernel
theorem dBA_hasRowNumber_14 : decode cBA_hasRowNumber 14 = .ok (.getfield 18, 3) := by decide +kernel
theorem dBA_hasRowNumber_17 : decode cBA_hasRowNumber 17 = .ok (.invokevirtual 31, 3) := by decide +kernel
theorem dBA_hasRowNumber_20 : decode cBA_hasRowNumber 20 = .ok (.iadd, 1) := by decide +kernel
theorem dBA_hasRowNumber_21 : decode cBA_hasRowNumber 21 = .ok (.if_icmp .ge 7, 3) := by decide +kernel
theorem dBA_hasRowNumber_24 : decode cBA_hasRowNumber 24 = .ok (.iconst 1, 1) := by decide +kernel
theorem dBA_hasRowNumber_25 : decode cBA_hasRowNumber 25 = .ok (.goto 4, 3) := by decide +kernel
theorem dBA_hasRowNumber_28 : decode cBA_hasRowNumber 28 = .ok (.iconst 0, 1) := by decide +kernel
theorem dBA_hasRowNumber_29 : decode cBA_hasRowNumber 29 = .ok (.ireturn, 1) := by decide +kernel
theorem dPL_findBatchOfRow_0 : decode cPL_findBatchOfRow 0 = .ok (.iconst 0, 1) := by decide +kernel
theorem dPL_findBatchOfRow_1 : decode cPL_findBatchOfRow 1 = .ok (.istore_n 2, 1) := by decide +kernel
theorem dPL_findBatchOfRow_2 : decode cPL_findBatchOfRow 2 = .ok (.iload_n 2, 1) := by decide +kernel
theorem dPL_findBatchOfRow_3 : decode cPL_findBatchOfRow 3 = .ok (.aload_n 0, 1) := by decide +kernel
theorem dPL_findBatchOfRow_4 : decode cPL_findBatchOfRow 4 = .ok (.getfield 16, 3) := by decide +kernel
theorem dPL_findBatchOfRow_7 : decode cPL_findBatchOfRow 7 = .ok (.invokevirtual 31, 3) := by decide +kernel
theorem dPL_findBatchOfRow_10 : decode cPL_findBatchOfRow 10 = .ok (.if_icmp .ge 41, 3) := by decide +kernel
theorem dPL_findBatchOfRow_13 : decode cPL_findBatchOfRow 13 = .ok (.aload_n 0, 1) := by decide +kernel
theorem dPL_findBatchOfRow_14 : decode cPL_findBatchOfRow 14 = .ok (.getfield 16, 3) := by decide +kernel
theorem dPL_findBatchOfRow_17 : decode cPL_findBatchOfRow 17 = .ok (.iload_n 2, 1) := by decide +kernel
theorem dPL_findBatchOfRow_18 : decode cPL_findBatchOfRow 18 = .ok (.invokevirtual 127, 3) := by decide +kernel
theorem dPL_findBatchOfRow_21 : decode cPL_findBatchOfRow 21 = .ok (.checkcast 57, 3) := by decide +kernel
theorem dPL_findBatchOfRow_24 : decode cPL_findBatchOfRow 24 = .ok (.astore_n 3, 1) := by decide +kernel
theorem dPL_findBatchOfRow_25 : decode cPL_findBatchOfRow 25 = .ok (.aload_n 3, 1) := by decide +kernel
theorem dPL_findBatchOfRow_26 : decode cPL_findBatchOfRow 26 = .ok (.getfield 112, 3) := by decide +kernel
theorem dPL_findBatchOfRow_29 : decode cPL_findBatchOfRow 29 = .ok (.getstatic 131, 3) := by decide +kernel
theorem dPL_findBatchOfRow_32 : decode cPL_findBatchOfRow 32 = .ok (.if_acmp .ne 13, 3) := by decide +kernel
theorem dPL_findBatchOfRow_35 : decode cPL_findBatchOfRow 35 = .ok (.aload_n 3, 1) := by decide +kernel
theorem dPL_findBatchOfRow_36 : decode cPL_findBatchOfRow 36 = .ok (.iload_n 1, 1) := by decide +kernel
theorem dPL_findBatchOfRow_37 : decode cPL_findBatchOfRow 37 = .ok (.invokevirtual 182, 3) := by decide +kernel
theorem dPL_findBatchOfRow_40 : decode cPL_findBatchOfRow 40 = .ok (.ifCond .eq 5, 3) := by decide +kernel
theorem dPL_findBatchOfRow_43 : decode cPL_findBatchOfRow 43 = .ok (.aload_n 3, 1) := by decide +kernel
theorem dPL_findBatchOfRow_44 : decode cPL_findBatchOfRow 44 = .ok (.areturn, 1) := by decide +kernel
theorem dPL_findBatchOfRow_45 : decode cPL_findBatchOfRow 45 = .ok (.iinc 2 1, 3) := by decide +kernel
theorem dPL_findBatchOfRow_48 : decode cPL_findBatchOfRow 48 = .ok (.goto (-46), 3) := by decide +kernel
theorem dPL_findBatchOfRow_51 : decode cPL_findBatchOfRow 51 = .ok (.aconst_null, 1) := by decide +kernel
theorem dPL_findBatchOfRow_52 : decode cPL_findBatchOfRow 52 = .ok (.areturn, 1) := by decide +kernel
theorem dBA_addRowsWithOtherSign_0 : decode cBA_addRowsWithOtherSign 0 = .ok (.aload_n 1, 1) := by decide +kernel
theorem dBA_addRowsWithOtherSign_1 : decode cBA_addRowsWithOtherSign 1 = .ok (.getfield 18, 3) := by decide +kernel
theorem dBA_addRowsWithOtherSign_4 : decode cBA_addRowsWithOtherSign 4 = .ok (.invokevirtual 31, 3) := by decide +kernel
theorem dBA_addRowsWithOtherSign_7 : decode cBA_addRowsWithOtherSign 7 = .ok (.istore_n 2, 1) := by decide +kernel
theorem dBA_addRowsWithOtherSign_8 : decode cBA_addRowsWithOtherSign 8 = .ok (.iconst 0, 1) := by decide +kernel
theorem dBA_addRowsWithOtherSign_9 : decode cBA_addRowsWithOtherSign 9 = .ok (.istore_n 3, 1) := by decide +kernel
theorem dBA_addRowsWithOtherSign_10 : decode cBA_addRowsWithOtherSign 10 = .ok (.iload_n 3, 1) := by decide +kernel
theorem dBA_addRowsWithOtherSign_11 : decode cBA_addRowsWithOtherSign 11 = .ok (.iload_n 2, 1) := by decide +kernel
theorem dBA_addRowsWithOtherSign_12 : decode cBA_addRowsWithOtherSign 12 = .ok (.if_icmp .ge 37, 3) := by decide +kernel
theorem dBA_addRowsWithOtherSign_15 : decode cBA_addRowsWithOtherSign 15 = .ok (.aload_n 1, 1) := by decide +kernel
theorem dBA_addRowsWithOtherSign_16 : decode cBA_addRowsWithOtherSign 16 = .ok (.getfield 18, 3) := by decide +kernel
theorem dBA_addRowsWithOtherSign_19 : decode cBA_addRowsWithOtherSign 19 = .ok (.iload_n 3, 1) := by decide +kernel
theorem dBA_addRowsWithOtherSign_20 : decode cBA_addRowsWithOtherSign 20 = .ok (.invokevirtual 47, 3) := by decide +kernel
theorem dBA_addRowsWithOtherSign_23 : decode cBA_addRowsWithOtherSign 23 = .ok (.checkcast 38, 3) := by decide +kernel
theorem dBA_addRowsWithOtherSign_26 : decode cBA_addRowsWithOtherSign 26 = .ok (.astore 4, 2) := by decide +kernel
theorem dBA_addRowsWithOtherSign_28 : decode cBA_addRowsWithOtherSign 28 = .ok (.aload_n 0, 1) := by decide +kernel
theorem dBA_addRowsWithOtherSign_29 : decode cBA_addRowsWithOtherSign 29 = .ok (.aload 4, 2) := by decide +kernel
theorem dBA_addRowsWithOtherSign_31 : decode cBA_addRowsWithOtherSign 31 = .ok (.getfield 51, 3) := by decide +kernel
theorem dBA_addRowsWithOtherSign_34 : decode cBA_addRowsWithOtherSign 34 = .ok (.aload 4, 2) := by decide +kernel
theorem dBA_addRowsWithOtherSign_36 : decode cBA_addRowsWithOtherSign 36 = .ok (.getfield 55, 3) := by decide +kernel
theorem dBA_addRowsWithOtherSign_39 : decode cBA_addRowsWithOtherSign 39 = .ok (.lneg, 1) := by decide +kernel
theorem dBA_addRowsWithOtherSign_40 : decode cBA_addRowsWithOtherSign 40 = .ok (.invokevirtual 59, 3) := by decide +kernel
theorem dBA_addRowsWithOtherSign_43 : decode cBA_addRowsWithOtherSign 43 = .ok (.iinc 3 1, 3) := by decide +kernel
theorem dBA_addRowsWithOtherSign_46 : decode cBA_addRowsWithOtherSign 46 = .ok (.goto (-36), 3) := by decide +kernel
theorem dBA_addRowsWithOtherSign_49 : decode cBA_addRowsWithOtherSign 49 = .ok (.return_, 1) := by decide +kernel
theorem dBA_addToTotals_0 : decode cBA_addToTotals 0 = .ok (.iconst 0, 1) := by decide +kernel
theorem dBA_addToTotals_1 : decode cBA_addToTotals 1 = .ok (.istore_n 1, 1) := by decide +kernel
theorem dBA_addToTotals_2 : decode cBA_addToTotals 2 = .ok (.iload_n 1, 1) := by decide +kernel
theorem dBA_addToTotals_3 : decode cBA_addToTotals 3 = .ok (.aload_n 0, 1) := by decide +kernel
theorem dBA_addToTotals_4 : decode cBA_addToTotals 4 = .ok (.getfield 18, 3) := by decide +kernel
theorem dBA_addToTotals_7 : decode cBA_addToTotals 7 = .ok (.invokevirtual 31, 3) := by decide +kernel
theorem dBA_addToTotals_10 : decode cBA_addToTotals 10 = .ok (.if_icmp .ge 37, 3) := by decide +kernel
theorem dBA_addToTotals_13 : decode cBA_addToTotals 13 = .ok (.aload_n 0, 1) := by decide +kernel
theorem dBA_addToTotals_14 : decode cBA_addToTotals 14 = .ok (.getfield 18, 3) := by decide +kernel
theorem dBA_addToTotals_17 : decode cBA_addToTotals 17 = .ok (.iload_n 1, 1) := by decide +kernel
theorem dBA_addToTotals_18 : decode cBA_addToTotals 18 = .ok (.invokevirtual 47, 3) := by decide +kernel
theorem dBA_addToTotals_21 : decode cBA_addToTotals 21 = .ok (.checkcast 38, 3) := by decide +kernel
theorem dBA_addToTotals_24 : decode cBA_addToTotals 24 = .ok (.astore_n 2, 1) := by decide +kernel
theorem dBA_addToTotals_25 : decode cBA_addToTotals 25 = .ok (.aload_n 2, 1) := by decide +kernel
theorem dBA_addToTotals_26 : decode cBA_addToTotals 26 = .ok (.getfield 51, 3) := by decide +kernel
theorem dBA_addToTotals_29 : decode cBA_addToTotals 29 = .ok (.dup, 1) := by decide +kernel
theorem dBA_addToTotals_30 : decode cBA_addToTotals 30 = .ok (.getfield 62, 3) := by decide +kernel
theorem dBA_addToTotals_33 : decode cBA_addToTotals 33 = .ok (.aload_n 2, 1) := by decide +kernel
theorem dBA_addToTotals_34 : decode cBA_addToTotals 34 = .ok (.getfield 55, 3) := by decide +kernel
theorem dBA_addToTotals_37 : decode cBA_addToTotals 37 = .ok (.ladd, 1) := by decide +kernel
theorem dBA_addToTotals_38 : decode cBA_addToTotals 38 = .ok (.putfield 62, 3) := by decide +kernel
theorem dBA_addToTotals_41 : decode cBA_addToTotals 41 = .ok (.iinc 1 1, 3) := by decide +kernel
theorem dBA_addToTotals_44 : decode cBA_addToTotals 44 = .ok (.goto (-42), 3) := by decide +kernel
theorem dBA_addToTotals_47 : decode cBA_addToTotals 47 = .ok (.return_, 1) := by decide +kernel
theorem dPL_enterIntoBooks_0 : decode cPL_enterIntoBooks 0 = .ok (.aload_n 1, 1) := by decide +kernel
theorem dPL_enterIntoBooks_1 : decode cPL_enterIntoBooks 1 = .ok (.getstatic 131, 3) := by decide +kernel
theorem dPL_enterIntoBooks_4 : decode cPL_enterIntoBooks 4 = .ok (.putfield 112, 3) := by decide +kernel
theorem dPL_enterIntoBooks_7 : decode cPL_enterIntoBooks 7 = .ok (.aload_n 1, 1) := by decide +kernel
theorem dPL_enterIntoBooks_8 : decode cPL_enterIntoBooks 8 = .ok (.aload_n 0, 1) := by decide +kernel
theorem dPL_enterIntoBooks_9 : decode cPL_enterIntoBooks 9 = .ok (.getfield 23, 3) := by decide +kernel
theorem dPL_enterIntoBooks_12 : decode cPL_enterIntoBooks 12 = .ok (.iconst 1, 1) := by decide +kernel
theorem dPL_enterIntoBooks_13 : decode cPL_enterIntoBooks 13 = .ok (.iadd, 1) := by decide +kernel
theorem dPL_enterIntoBooks_14 : decode cPL_enterIntoBooks 14 = .ok (.putfield 189, 3) := by decide +kernel
theorem dPL_enterIntoBooks_17 : decode cPL_enterIntoBooks 17 = .ok (.aload_n 0, 1) := by decide +kernel
theorem dPL_enterIntoBooks_18 : decode cPL_enterIntoBooks 18 = .ok (.dup, 1) := by decide +kernel
theorem dPL_enterIntoBooks_19 : decode cPL_enterIntoBooks 19 = .ok (.getfield 23, 3) := by decide +kernel
theorem dPL_enterIntoBooks_22 : decode cPL_enterIntoBooks 22 = .ok (.aload_n 1, 1) := by decide +kernel
theorem dPL_enterIntoBooks_23 : decode cPL_enterIntoBooks 23 = .ok (.invokevirtual 133, 3) := by decide +kernel
theorem dPL_enterIntoBooks_26 : decode cPL_enterIntoBooks 26 = .ok (.iadd, 1) := by decide +kernel
theorem dPL_enterIntoBooks_27 : decode cPL_enterIntoBooks 27 = .ok (.putfield 23, 3) := by decide +kernel
theorem dPL_enterIntoBooks_30 : decode cPL_enterIntoBooks 30 = .ok (.aload_n 1, 1) := by decide +kernel
theorem dPL_enterIntoBooks_31 : decode cPL_enterIntoBooks 31 = .ok (.invokevirtual 192, 3) := by decide +kernel
theorem dPL_enterIntoBooks_34 : decode cPL_enterIntoBooks 34 = .ok (.return_, 1) := by decide +kernel
theorem dPL_reverse_0 : decode cPL_reverse 0 = .ok (.aload_n 0, 1) := by decide +kernel
theorem dPL_reverse_1 : decode cPL_reverse 1 = .ok (.iload_n 1, 1) := by decide +kernel
theorem dPL_reverse_2 : decode cPL_reverse 2 = .ok (.invokevirtual 138, 3) := by decide +kernel
theorem dPL_reverse_5 : decode cPL_reverse 5 = .ok (.astore_n 2, 1) := by decide +kernel
theorem dPL_reverse_6 : decode cPL_reverse 6 = .ok (.aload_n 2, 1) := by decide +kernel
theorem dPL_reverse_7 : decode cPL_reverse 7 = .ok (.ifnull 10, 3) := by decide +kernel
theorem dPL_reverse_10 : decode cPL_reverse 10 = .ok (.aload_n 2, 1) := by decide +kernel
theorem dPL_reverse_11 : decode cPL_reverse 11 = .ok (.getfield 141, 3) := by decide +kernel
theorem dPL_reverse_14 : decode cPL_reverse 14 = .ok (.ifCond .eq 5, 3) := by decide +kernel
theorem dPL_reverse_17 : decode cPL_reverse 17 = .ok (.iconst 0, 1) := by decide +kernel
theorem dPL_reverse_18 : decode cPL_reverse 18 = .ok (.ireturn, 1) := by decide +kernel
theorem dPL_reverse_19 : decode cPL_reverse 19 = .ok (.aload_n 0, 1) := by decide +kernel
theorem dPL_reverse_20 : decode cPL_reverse 20 = .ok (.invokevirtual 53, 3) := by decide +kernel
theorem dPL_reverse_23 : decode cPL_reverse 23 = .ok (.ifCond .ne 6, 3) := by decide +kernel
theorem dPL_reverse_26 : decode cPL_reverse 26 = .ok (.ldc 35, 2) := by decide +kernel
theorem dPL_reverse_28 : decode cPL_reverse 28 = .ok (.ireturn, 1) := by decide +kernel
theorem dPL_reverse_29 : decode cPL_reverse 29 = .ok (.new 57, 3) := by decide +kernel
theorem dPL_reverse_32 : decode cPL_reverse 32 = .ok (.dup, 1) := by decide +kernel
theorem dPL_reverse_33 : decode cPL_reverse 33 = .ok (.aload_n 2, 1) := by decide +kernel
theorem dPL_reverse_34 : decode cPL_reverse 34 = .ok (.getfield 89, 3) := by decide +kernel
theorem dPL_reverse_37 : decode cPL_reverse 37 = .ok (.aload_n 0, 1) := by decide +kernel
theorem dPL_reverse_38 : decode cPL_reverse 38 = .ok (.getfield 19, 3) := by decide +kernel
theorem dPL_reverse_41 : decode cPL_reverse 41 = .ok (.invokestatic 145, 3) := by decide +kernel
theorem dPL_reverse_44 : decode cPL_reverse 44 = .ok (.invokespecial 59, 3) := by decide +kernel
theorem dPL_reverse_47 : decode cPL_reverse 47 = .ok (.astore_n 3, 1) := by decide +kernel
theorem dPL_reverse_48 : decode cPL_reverse 48 = .ok (.aload_n 3, 1) := by decide +kernel
theorem dPL_reverse_49 : decode cPL_reverse 49 = .ok (.aload_n 2, 1) := by decide +kernel
theorem dPL_reverse_50 : decode cPL_reverse 50 = .ok (.invokevirtual 151, 3) := by decide +kernel
theorem dPL_reverse_53 : decode cPL_reverse 53 = .ok (.aload_n 2, 1) := by decide +kernel
theorem dPL_reverse_54 : decode cPL_reverse 54 = .ok (.iconst 1, 1) := by decide +kernel
theorem dPL_reverse_55 : decode cPL_reverse 55 = .ok (.putfield 141, 3) := by decide +kernel
theorem dPL_reverse_58 : decode cPL_reverse 58 = .ok (.aload_n 3, 1) := by decide +kernel
theorem dPL_reverse_59 : decode cPL_reverse 59 = .ok (.iconst 1, 1) := by decide +kernel
theorem dPL_reverse_60 : decode cPL_reverse 60 = .ok (.putfield 141, 3) := by decide +kernel
theorem dPL_reverse_63 : decode cPL_reverse 63 = .ok (.aload_n 0, 1) := by decide +kernel
theorem dPL_reverse_64 : decode cPL_reverse 64 = .ok (.getfield 16, 3) := by decide +kernel
theorem dPL_reverse_67 : decode cPL_reverse 67 = .ok (.aload_n 3, 1) := by decide +kernel
theorem dPL_reverse_68 : decode cPL_reverse 68 = .ok (.invokevirtual 41, 3) := by decide +kernel
theorem dPL_reverse_71 : decode cPL_reverse 71 = .ok (.pop, 1) := by decide +kernel
theorem dPL_reverse_72 : decode cPL_reverse 72 = .ok (.aload_n 0, 1) := by decide +kernel
theorem dPL_reverse_73 : decode cPL_reverse 73 = .ok (.aload_n 3, 1) := by decide +kernel
theorem dPL_reverse_74 : decode cPL_reverse 74 = .ok (.invokevirtual 102, 3) := by decide +kernel
theorem dPL_reverse_77 : decode cPL_reverse 77 = .ok (.iconst 1, 1) := by decide +kernel
theorem dPL_reverse_78 : decode cPL_reverse 78 = .ok (.ireturn, 1) := by decide +kernel
theorem dAC_isOfKind_0 : decode cAC_isOfKind 0 = .ok (.aload_n 0, 1) := by decide +kernel
theorem dAC_isOfKind_1 : decode cAC_isOfKind 1 = .ok (.getfield 7, 3) := by decide +kernel
theorem dAC_isOfKind_4 : decode cAC_isOfKind 4 = .ok (.iload_n 1, 1) := by decide +kernel
theorem dAC_isOfKind_5 : decode cAC_isOfKind 5 = .ok (.if_icmp .ne 15, 3) := by decide +kernel
theorem dAC_isOfKind_8 : decode cAC_isOfKind 8 = .ok (.aload_n 0, 1) := by decide +kernel
theorem dAC_isOfKind_9 : decode cAC_isOfKind 9 = .ok (.getfield 13, 3) := by decide +kernel
theorem dAC_isOfKind_12 : decode cAC_isOfKind 12 = .ok (.iload_n 2, 1) := by decide +kernel
theorem dAC_isOfKind_13 : decode cAC_isOfKind 13 = .ok (.if_icmp .ne 7, 3) := by decide +kernel
theorem dAC_isOfKind_16 : decode cAC_isOfKind 16 = .ok (.iconst 1, 1) := by decide +kernel
theorem dAC_isOfKind_17 : decode cAC_isOfKind 17 = .ok (.goto 4, 3) := by decide +kernel
theorem dAC_isOfKind_20 : decode cAC_isOfKind 20 = .ok (.iconst 0, 1) := by decide +kernel
theorem dAC_isOfKind_21 : decode cAC_isOfKind 21 = .ok (.ireturn, 1) := by decide +kernel
theorem dPL_totalOfKind_0 : decode cPL_totalOfKind 0 = .ok (.lconst 0, 1) := by decide +kernel
theorem dPL_totalOfKind_1 : decode cPL_totalOfKind 1 = .ok (.lstore_n 3, 1) := by decide +kernel
theorem dPL_totalOfKind_2 : decode cPL_totalOfKind 2 = .ok (.iconst 0, 1) := by decide +kernel
theorem dPL_totalOfKind_3 : decode cPL_totalOfKind 3 = .ok (.istore 5, 2) := by decide +kernel
theorem dPL_totalOfKind_5 : decode cPL_totalOfKind 5 = .ok (.iload 5, 2) := by decide +kernel
theorem dPL_totalOfKind_7 : decode cPL_totalOfKind 7 = .ok (.aload_n 0, 1) := by decide +kernel
theorem dPL_totalOfKind_8 : decode cPL_totalOfKind 8 = .ok (.getfield 10, 3) := by decide +kernel
theorem dPL_totalOfKind_11 : decode cPL_totalOfKind 11 = .ok (.invokevirtual 31, 3) := by decide +kernel
theorem dPL_totalOfKind_14 : decode cPL_totalOfKind 14 = .ok (.if_icmp .ge 41, 3) := by decide +kernel
theorem dPL_totalOfKind_17 : decode cPL_totalOfKind 17 = .ok (.aload_n 0, 1) := by decide +kernel
theorem dPL_totalOfKind_18 : decode cPL_totalOfKind 18 = .ok (.getfield 10, 3) := by decide +kernel
theorem dPL_totalOfKind_21 : decode cPL_totalOfKind 21 = .ok (.iload 5, 2) := by decide +kernel
theorem dPL_totalOfKind_23 : decode cPL_totalOfKind 23 = .ok (.invokevirtual 127, 3) := by decide +kernel
theorem dPL_totalOfKind_26 : decode cPL_totalOfKind 26 = .ok (.checkcast 36, 3) := by decide +kernel
theorem dPL_totalOfKind_29 : decode cPL_totalOfKind 29 = .ok (.astore 6, 2) := by decide +kernel
theorem dPL_totalOfKind_31 : decode cPL_totalOfKind 31 = .ok (.aload 6, 2) := by decide +kernel
theorem dPL_totalOfKind_33 : decode cPL_totalOfKind 33 = .ok (.iload_n 1, 1) := by decide +kernel
theorem dPL_totalOfKind_34 : decode cPL_totalOfKind 34 = .ok (.iload_n 2, 1) := by decide +kernel
theorem dPL_totalOfKind_35 : decode cPL_totalOfKind 35 = .ok (.invokevirtual 185, 3) := by decide +kernel
theorem dPL_totalOfKind_38 : decode cPL_totalOfKind 38 = .ok (.ifCond .eq 11, 3) := by decide +kernel
theorem dPL_totalOfKind_41 : decode cPL_totalOfKind 41 = .ok (.lload_n 3, 1) := by decide +kernel
theorem dPL_totalOfKind_42 : decode cPL_totalOfKind 42 = .ok (.aload 6, 2) := by decide +kernel
theorem dPL_totalOfKind_44 : decode cPL_totalOfKind 44 = .ok (.getfield 176, 3) := by decide +kernel
theorem dPL_totalOfKind_47 : decode cPL_totalOfKind 47 = .ok (.ladd, 1) := by decide +kernel
theorem dPL_totalOfKind_48 : decode cPL_totalOfKind 48 = .ok (.lstore_n 3, 1) := by decide +kernel
theorem dPL_totalOfKind_49 : decode cPL_totalOfKind 49 = .ok (.iinc 5 1, 3) := by decide +kernel
theorem dPL_totalOfKind_52 : decode cPL_totalOfKind 52 = .ok (.goto (-47), 3) := by decide +kernel
theorem dPL_totalOfKind_55 : decode cPL_totalOfKind 55 = .ok (.lload_n 3, 1) := by decide +kernel
theorem dPL_totalOfKind_56 : decode cPL_totalOfKind 56 = .ok (.lreturn, 1) := by decide +kernel
theorem dPL_firstOfKind_0 : decode cPL_firstOfKind 0 = .ok (.iconst 0, 1) := by decide +kernel
theorem dPL_firstOfKind_1 : decode cPL_firstOfKind 1 = .ok (.istore_n 3, 1) := by decide +kernel
theorem dPL_firstOfKind_2 : decode cPL_firstOfKind 2 = .ok (.iload_n 3, 1) := by decide +kernel
theorem dPL_firstOfKind_3 : decode cPL_firstOfKind 3 = .ok (.aload_n 0, 1) := by decide +kernel
theorem dPL_firstOfKind_4 : decode cPL_firstOfKind 4 = .ok (.getfield 10, 3) := by decide +kernel
theorem dPL_firstOfKind_7 : decode cPL_firstOfKind 7 = .ok (.invokevirtual 31, 3) := by decide +kernel
theorem dPL_firstOfKind_10 : decode cPL_firstOfKind 10 = .ok (.if_icmp .ge 35, 3) := by decide +kernel
theorem dPL_firstOfKind_13 : decode cPL_firstOfKind 13 = .ok (.aload_n 0, 1) := by decide +kernel
theorem dPL_firstOfKind_14 : decode cPL_firstOfKind 14 = .ok (.getfield 10, 3) := by decide +kernel
theorem dPL_firstOfKind_17 : decode cPL_firstOfKind 17 = .ok (.iload_n 3, 1) := by decide +kernel
theorem dPL_firstOfKind_18 : decode cPL_firstOfKind 18 = .ok (.invokevirtual 127, 3) := by decide +kernel
theorem dPL_firstOfKind_21 : decode cPL_firstOfKind 21 = .ok (.checkcast 36, 3) := by decide +kernel
theorem dPL_firstOfKind_24 : decode cPL_firstOfKind 24 = .ok (.astore 4, 2) := by decide +kernel
theorem dPL_firstOfKind_26 : decode cPL_firstOfKind 26 = .ok (.aload 4, 2) := by decide +kernel
theorem dPL_firstOfKind_28 : decode cPL_firstOfKind 28 = .ok (.iload_n 1, 1) := by decide +kernel
theorem dPL_firstOfKind_29 : decode cPL_firstOfKind 29 = .ok (.iload_n 2, 1) := by decide +kernel
theorem dPL_firstOfKind_30 : decode cPL_firstOfKind 30 = .ok (.invokevirtual 185, 3) := by decide +kernel
theorem dPL_firstOfKind_33 : decode cPL_firstOfKind 33 = .ok (.ifCond .eq 6, 3) := by decide +kernel
theorem dPL_firstOfKind_36 : decode cPL_firstOfKind 36 = .ok (.aload 4, 2) := by decide +kernel
theorem dPL_firstOfKind_38 : decode cPL_firstOfKind 38 = .ok (.areturn, 1) := by decide +kernel
theorem dPL_firstOfKind_39 : decode cPL_firstOfKind 39 = .ok (.iinc 3 1, 3) := by decide +kernel
theorem dPL_firstOfKind_42 : decode cPL_firstOfKind 42 = .ok (.goto (-40), 3) := by decide +kernel
theorem dPL_firstOfKind_45 : decode cPL_firstOfKind 45 = .ok (.aconst_null, 1) := by decide +kernel
theorem dPL_firstOfKind_46 : decode cPL_firstOfKind 46 = .ok (.areturn, 1) := by decide +kernel
theorem dPL_stock_0 : decode cPL_stock 0 = .ok (.iload_n 1, 1) := by decide +kernel
theorem dPL_stock_1 : decode cPL_stock 1 = .ok (.invokestatic 26, 3) := by decide +kernel
theorem dPL_stock_4 : decode cPL_stock 4 = .ok (.ifCond .eq 25, 3) := by decide +kernel
theorem dPL_stock_7 : decode cPL_stock 7 = .ok (.iload_n 2, 1) := by decide +kernel
theorem dPL_stock_8 : decode cPL_stock 8 = .ok (.ifCond .lt 21, 3) := by decide +kernel
theorem dPL_stock_11 : decode cPL_stock 11 = .ok (.iload_n 2, 1) := by decide +kernel
theorem dPL_stock_12 : decode cPL_stock 12 = .ok (.iconst 5, 1) := by decide +kernel
theorem dPL_stock_13 : decode cPL_stock 13 = .ok (.if_icmp .ge 16, 3) := by decide +kernel
theorem dPL_stock_16 : decode cPL_stock 16 = .ok (.lload_n 3, 1) := by decide +kernel
theorem dPL_stock_17 : decode cPL_stock 17 = .ok (.ldc2_w 76, 3) := by decide +kernel
theorem dPL_stock_20 : decode cPL_stock 20 = .ok (.ldc2_w 78, 3) := by decide +kernel
theorem dPL_stock_23 : decode cPL_stock 23 = .ok (.invokestatic 80, 3) := by decide +kernel
theorem dPL_stock_26 : decode cPL_stock 26 = .ok (.ifCond .ne 6, 3) := by decide +kernel
theorem dPL_stock_29 : decode cPL_stock 29 = .ok (.ldc 30, 2) := by decide +kernel
theorem dPL_stock_31 : decode cPL_stock 31 = .ok (.ireturn, 1) := by decide +kernel
theorem dPL_stock_32 : decode cPL_stock 32 = .ok (.lload_n 3, 1) := by decide +kernel
theorem dPL_stock_33 : decode cPL_stock 33 = .ok (.aload_n 0, 1) := by decide +kernel
theorem dPL_stock_34 : decode cPL_stock 34 = .ok (.iload_n 1, 1) := by decide +kernel
theorem dPL_stock_35 : decode cPL_stock 35 = .ok (.iload_n 2, 1) := by decide +kernel
theorem dPL_stock_36 : decode cPL_stock 36 = .ok (.invokevirtual 154, 3) := by decide +kernel
theorem dPL_stock_39 : decode cPL_stock 39 = .ok (.lsub, 1) := by decide +kernel
theorem dPL_stock_40 : decode cPL_stock 40 = .ok (.lstore 5, 2) := by decide +kernel
theorem dPL_stock_42 : decode cPL_stock 42 = .ok (.lload 5, 2) := by decide +kernel
theorem dPL_stock_44 : decode cPL_stock 44 = .ok (.lconst 0, 1) := by decide +kernel
theorem dPL_stock_45 : decode cPL_stock 45 = .ok (.lcmp, 1) := by decide +kernel
theorem dPL_stock_46 : decode cPL_stock 46 = .ok (.ifCond .ne 5, 3) := by decide +kernel
theorem dPL_stock_49 : decode cPL_stock 49 = .ok (.iconst 0, 1) := by decide +kernel
theorem dPL_stock_50 : decode cPL_stock 50 = .ok (.ireturn, 1) := by decide +kernel
theorem dPL_stock_51 : decode cPL_stock 51 = .ok (.aload_n 0, 1) := by decide +kernel
theorem dPL_stock_52 : decode cPL_stock 52 = .ok (.iload_n 1, 1) := by decide +kernel
theorem dPL_stock_53 : decode cPL_stock 53 = .ok (.iload_n 2, 1) := by decide +kernel
theorem dPL_stock_54 : decode cPL_stock 54 = .ok (.invokevirtual 158, 3) := by decide +kernel
theorem dPL_stock_57 : decode cPL_stock 57 = .ok (.astore 7, 2) := by decide +kernel
theorem dPL_stock_59 : decode cPL_stock 59 = .ok (.aload_n 0, 1) := by decide +kernel
theorem dPL_stock_60 : decode cPL_stock 60 = .ok (.iload_n 1, 1) := by decide +kernel
theorem dPL_stock_61 : decode cPL_stock 61 = .ok (.iconst 5, 1) := by decide +kernel
theorem dPL_stock_62 : decode cPL_stock 62 = .ok (.invokevirtual 158, 3) := by decide +kernel
theorem dPL_stock_65 : decode cPL_stock 65 = .ok (.astore 8, 2) := by decide +kernel
theorem dPL_stock_67 : decode cPL_stock 67 = .ok (.aload 7, 2) := by decide +kernel
theorem dPL_stock_69 : decode cPL_stock 69 = .ok (.ifnull 22, 3) := by decide +kernel
theorem dPL_stock_72 : decode cPL_stock 72 = .ok (.aload 8, 2) := by decide +kernel
theorem dPL_stock_74 : decode cPL_stock 74 = .ok (.ifnull 17, 3) := by decide +kernel
theorem dPL_stock_77 : decode cPL_stock 77 = .ok (.lload 5, 2) := by decide +kernel
theorem dPL_stock_79 : decode cPL_stock 79 = .ok (.ldc2_w 162, 3) := by decide +kernel
theorem dPL_stock_82 : decode cPL_stock 82 = .ok (.ldc2_w 164, 3) := by decide +kernel
theorem dPL_stock_85 : decode cPL_stock 85 = .ok (.invokestatic 80, 3) := by decide +kernel
theorem dPL_stock_88 : decode cPL_stock 88 = .ok (.ifCond .ne 6, 3) := by decide +kernel
theorem dPL_stock_91 : decode cPL_stock 91 = .ok (.ldc 52, 2) := by decide +kernel
theorem dPL_stock_93 : decode cPL_stock 93 = .ok (.ireturn, 1) := by decide +kernel
theorem dPL_stock_94 : decode cPL_stock 94 = .ok (.aload_n 0, 1) := by decide +kernel
theorem dPL_stock_95 : decode cPL_stock 95 = .ok (.invokevirtual 53, 3) := by decide +kernel
theorem dPL_stock_98 : decode cPL_stock 98 = .ok (.ifCond .ne 6, 3) := by decide +kernel
theorem dPL_stock_101 : decode cPL_stock 101 = .ok (.ldc 35, 2) := by decide +kernel
theorem dPL_stock_103 : decode cPL_stock 103 = .ok (.ireturn, 1) := by decide +kernel
theorem dPL_stock_104 : decode cPL_stock 104 = .ok (.new 57, 3) := by decide +kernel
theorem dPL_stock_107 : decode cPL_stock 107 = .ok (.dup, 1) := by decide +kernel
theorem dPL_stock_108 : decode cPL_stock 108 = .ok (.aload_n 0, 1) := by decide +kernel
theorem dPL_stock_109 : decode cPL_stock 109 = .ok (.getfield 19, 3) := by decide +kernel
theorem dPL_stock_112 : decode cPL_stock 112 = .ok (.invokespecial 59, 3) := by decide +kernel
theorem dPL_stock_115 : decode cPL_stock 115 = .ok (.astore 9, 2) := by decide +kernel
theorem dPL_stock_117 : decode cPL_stock 117 = .ok (.aload 9, 2) := by decide +kernel
theorem dPL_stock_119 : decode cPL_stock 119 = .ok (.aload 7, 2) := by decide +kernel
theorem dPL_stock_121 : decode cPL_stock 121 = .ok (.lload 5, 2) := by decide +kernel
theorem dPL_stock_123 : decode cPL_stock 123 = .ok (.invokevirtual 84, 3) := by decide +kernel
theorem dPL_stock_126 : decode cPL_stock 126 = .ok (.aload 9, 2) := by decide +kernel
theorem dPL_stock_128 : decode cPL_stock 128 = .ok (.aload 8, 2) := by decide +kernel
theorem dPL_stock_130 : decode cPL_stock 130 = .ok (.lload 5, 2) := by decide +kernel
theorem dPL_stock_132 : decode cPL_stock 132 = .ok (.lneg, 1) := by decide +kernel
theorem dPL_stock_133 : decode cPL_stock 133 = .ok (.invokevirtual 84, 3) := by decide +kernel
theorem dPL_stock_136 : decode cPL_stock 136 = .ok (.aload_n 0, 1) := by decide +kernel
theorem dPL_stock_137 : decode cPL_stock 137 = .ok (.getfield 16, 3) := by decide +kernel
theorem dPL_stock_140 : decode cPL_stock 140 = .ok (.aload 9, 2) := by decide +kernel
theorem dPL_stock_142 : decode cPL_stock 142 = .ok (.invokevirtual 41, 3) := by decide +kernel
theorem dPL_stock_145 : decode cPL_stock 145 = .ok (.pop, 1) := by decide +kernel
theorem dPL_stock_146 : decode cPL_stock 146 = .ok (.aload_n 0, 1) := by decide +kernel
theorem dPL_stock_147 : decode cPL_stock 147 = .ok (.aload 9, 2) := by decide +kernel
theorem dPL_stock_149 : decode cPL_stock 149 = .ok (.invokevirtual 102, 3) := by decide +kernel
theorem dPL_stock_152 : decode cPL_stock 152 = .ok (.lload 5, 2) := by decide +kernel
theorem dPL_stock_154 : decode cPL_stock 154 = .ok (.l2i, 1) := by decide +kernel
theorem dPL_stock_155 : decode cPL_stock 155 = .ok (.ireturn, 1) := by decide +kernel
theorem dPL_limit_0 : decode cPL_limit 0 = .ok (.aload_n 0, 1) := by decide +kernel
theorem dPL_limit_1 : decode cPL_limit 1 = .ok (.iload_n 1, 1) := by decide +kernel
theorem dPL_limit_2 : decode cPL_limit 2 = .ok (.invokevirtual 66, 3) := by decide +kernel
theorem dPL_limit_5 : decode cPL_limit 5 = .ok (.astore 4, 2) := by decide +kernel
theorem dPL_limit_7 : decode cPL_limit 7 = .ok (.aload 4, 2) := by decide +kernel
theorem dPL_limit_9 : decode cPL_limit 9 = .ok (.ifnonnull 6, 3) := by decide +kernel
theorem dPL_limit_12 : decode cPL_limit 12 = .ok (.ldc 88, 2) := by decide +kernel
theorem dPL_limit_14 : decode cPL_limit 14 = .ok (.ireturn, 1) := by decide +kernel
theorem dPL_limit_15 : decode cPL_limit 15 = .ok (.lload_n 2, 1) := by decide +kernel
theorem dPL_limit_16 : decode cPL_limit 16 = .ok (.lconst 0, 1) := by decide +kernel
theorem dPL_limit_17 : decode cPL_limit 17 = .ok (.ldc2_w 78, 3) := by decide +kernel
theorem dPL_limit_20 : decode cPL_limit 20 = .ok (.invokestatic 80, 3) := by decide +kernel
theorem dPL_limit_23 : decode cPL_limit 23 = .ok (.ifCond .ne 6, 3) := by decide +kernel
theorem dPL_limit_26 : decode cPL_limit 26 = .ok (.ldc 30, 2) := by decide +kernel
theorem dPL_limit_28 : decode cPL_limit 28 = .ok (.ireturn, 1) := by decide +kernel
theorem dPL_limit_29 : decode cPL_limit 29 = .ok (.aload 4, 2) := by decide +kernel
theorem dPL_limit_31 : decode cPL_limit 31 = .ok (.getfield 166, 3) := by decide +kernel
theorem dPL_limit_34 : decode cPL_limit 34 = .ok (.istore 5, 2) := by decide +kernel
theorem dPL_limit_36 : decode cPL_limit 36 = .ok (.aload 4, 2) := by decide +kernel
theorem dPL_limit_38 : decode cPL_limit 38 = .ok (.lload_n 2, 1) := by decide +kernel
theorem dPL_limit_39 : decode cPL_limit 39 = .ok (.l2i, 1) := by decide +kernel
theorem dPL_limit_40 : decode cPL_limit 40 = .ok (.putfield 166, 3) := by decide +kernel
theorem dPL_limit_43 : decode cPL_limit 43 = .ok (.iload 5, 2) := by decide +kernel
theorem dPL_limit_45 : decode cPL_limit 45 = .ok (.ireturn, 1) := by decide +kernel
theorem dPL_fails_0 : decode cPL_fails 0 = .ok (.aload_n 0, 1) := by decide +kernel
theorem dPL_fails_1 : decode cPL_fails 1 = .ok (.iload_n 1, 1) := by decide +kernel
theorem dPL_fails_2 : decode cPL_fails 2 = .ok (.invokevirtual 62, 3) := by decide +kernel
theorem dPL_fails_5 : decode cPL_fails 5 = .ok (.astore_n 3, 1) := by decide +kernel
theorem dPL_fails_6 : decode cPL_fails 6 = .ok (.aload_n 3, 1) := by decide +kernel
theorem dPL_fails_7 : decode cPL_fails 7 = .ok (.ifnull 18, 3) := by decide +kernel
theorem dPL_fails_10 : decode cPL_fails 10 = .ok (.aload_n 3, 1) := by decide +kernel
theorem dPL_fails_11 : decode cPL_fails 11 = .ok (.invokevirtual 70, 3) := by decide +kernel
theorem dPL_fails_14 : decode cPL_fails 14 = .ok (.ifCond .eq 11, 3) := by decide +kernel
theorem dPL_fails_17 : decode cPL_fails 17 = .ok (.aload_n 3, 1) := by decide +kernel
theorem dPL_fails_18 : decode cPL_fails 18 = .ok (.getfield 169, 3) := by decide +kernel
theorem dPL_fails_21 : decode cPL_fails 21 = .ok (.iload_n 2, 1) := by decide +kernel
theorem dPL_fails_22 : decode cPL_fails 22 = .ok (.if_icmp .ne 5, 3) := by decide +kernel
theorem dPL_fails_25 : decode cPL_fails 25 = .ok (.iconst 0, 1) := by decide +kernel
theorem dPL_fails_26 : decode cPL_fails 26 = .ok (.ireturn, 1) := by decide +kernel
theorem dPL_fails_27 : decode cPL_fails 27 = .ok (.aload_n 3, 1) := by decide +kernel
theorem dPL_fails_28 : decode cPL_fails 28 = .ok (.iload_n 2, 1) := by decide +kernel
theorem dPL_fails_29 : decode cPL_fails 29 = .ok (.putfield 169, 3) := by decide +kernel
theorem dPL_fails_32 : decode cPL_fails 32 = .ok (.iconst 1, 1) := by decide +kernel
theorem dPL_fails_33 : decode cPL_fails 33 = .ok (.ireturn, 1) := by decide +kernel
theorem dBA_takenFromAccount_0 : decode cBA_takenFromAccount 0 = .ok (.lconst 0, 1) := by decide +kernel
theorem dBA_takenFromAccount_1 : decode cBA_takenFromAccount 1 = .ok (.lstore_n 2, 1) := by decide +kernel
theorem dBA_takenFromAccount_2 : decode cBA_takenFromAccount 2 = .ok (.iconst 0, 1) := by decide +kernel
theorem dBA_takenFromAccount_3 : decode cBA_takenFromAccount 3 = .ok (.istore 4, 2) := by decide +kernel
theorem dBA_takenFromAccount_5 : decode cBA_takenFromAccount 5 = .ok (.iload 4, 2) := by decide +kernel
theorem dBA_takenFromAccount_7 : decode cBA_takenFromAccount 7 = .ok (.aload_n 0, 1) := by decide +kernel
theorem dBA_takenFromAccount_8 : decode cBA_takenFromAccount 8 = .ok (.getfield 18, 3) := by decide +kernel
theorem dBA_takenFromAccount_11 : decode cBA_takenFromAccount 11 = .ok (.invokevirtual 31, 3) := by decide +kernel
theorem dBA_takenFromAccount_14 : decode cBA_takenFromAccount 14 = .ok (.if_icmp .ge 50, 3) := by decide +kernel
theorem dBA_takenFromAccount_17 : decode cBA_takenFromAccount 17 = .ok (.aload_n 0, 1) := by decide +kernel
theorem dBA_takenFromAccount_18 : decode cBA_takenFromAccount 18 = .ok (.getfield 18, 3) := by decide +kernel
theorem dBA_takenFromAccount_21 : decode cBA_takenFromAccount 21 = .ok (.iload 4, 2) := by decide +kernel
theorem dBA_takenFromAccount_23 : decode cBA_takenFromAccount 23 = .ok (.invokevirtual 47, 3) := by decide +kernel
theorem dBA_takenFromAccount_26 : decode cBA_takenFromAccount 26 = .ok (.checkcast 38, 3) := by decide +kernel
theorem dBA_takenFromAccount_29 : decode cBA_takenFromAccount 29 = .ok (.astore 5, 2) := by decide +kernel
theorem dBA_takenFromAccount_31 : decode cBA_takenFromAccount 31 = .ok (.aload 5, 2) := by decide +kernel
theorem dBA_takenFromAccount_33 : decode cBA_takenFromAccount 33 = .ok (.getfield 51, 3) := by decide +kernel
theorem dBA_takenFromAccount_36 : decode cBA_takenFromAccount 36 = .ok (.aload_n 1, 1) := by decide +kernel
theorem dBA_takenFromAccount_37 : decode cBA_takenFromAccount 37 = .ok (.if_acmp .ne 21, 3) := by decide +kernel
theorem dBA_takenFromAccount_40 : decode cBA_takenFromAccount 40 = .ok (.aload 5, 2) := by decide +kernel
theorem dBA_takenFromAccount_42 : decode cBA_takenFromAccount 42 = .ok (.getfield 55, 3) := by decide +kernel
theorem dBA_takenFromAccount_45 : decode cBA_takenFromAccount 45 = .ok (.lconst 0, 1) := by decide +kernel
theorem dBA_takenFromAccount_46 : decode cBA_takenFromAccount 46 = .ok (.lcmp, 1) := by decide +kernel
theorem dBA_takenFromAccount_47 : decode cBA_takenFromAccount 47 = .ok (.ifCond .ge 11, 3) := by decide +kernel
theorem dBA_takenFromAccount_50 : decode cBA_takenFromAccount 50 = .ok (.lload_n 2, 1) := by decide +kernel
theorem dBA_takenFromAccount_51 : decode cBA_takenFromAccount 51 = .ok (.aload 5, 2) := by decide +kernel
theorem dBA_takenFromAccount_53 : decode cBA_takenFromAccount 53 = .ok (.getfield 55, 3) := by decide +kernel
theorem dBA_takenFromAccount_56 : decode cBA_takenFromAccount 56 = .ok (.lsub, 1) := by decide +kernel
theorem dBA_takenFromAccount_57 : decode cBA_takenFromAccount 57 = .ok (.lstore_n 2, 1) := by decide +kernel
theorem dBA_takenFromAccount_58 : decode cBA_takenFromAccount 58 = .ok (.iinc 4 1, 3) := by decide +kernel
theorem dBA_takenFromAccount_61 : decode cBA_takenFromAccount 61 = .ok (.goto (-56), 3) := by decide +kernel
theorem dBA_takenFromAccount_64 : decode cBA_takenFromAccount 64 = .ok (.lload_n 2, 1) := by decide +kernel
theorem dBA_takenFromAccount_65 : decode cBA_takenFromAccount 65 = .ok (.lreturn, 1) := by decide +kernel
theorem dPL_hold_0 : decode cPL_hold 0 = .ok (.aload_n 0, 1) := by decide +kernel
theorem dPL_hold_1 : decode cPL_hold 1 = .ok (.iload_n 1, 1) := by decide +kernel
theorem dPL_hold_2 : decode cPL_hold 2 = .ok (.invokevirtual 66, 3) := by decide +kernel
theorem dPL_hold_5 : decode cPL_hold 5 = .ok (.astore_n 2, 1) := by decide +kernel
theorem dPL_hold_6 : decode cPL_hold 6 = .ok (.aload_n 2, 1) := by decide +kernel
theorem dPL_hold_7 : decode cPL_hold 7 = .ok (.ifnonnull 7, 3) := by decide +kernel
theorem dPL_hold_10 : decode cPL_hold 10 = .ok (.ldc2_w 125, 3) := by decide +kernel
theorem dPL_hold_13 : decode cPL_hold 13 = .ok (.lreturn, 1) := by decide +kernel
theorem dPL_hold_14 : decode cPL_hold 14 = .ok (.lconst 0, 1) := by decide +kernel
theorem dPL_hold_15 : decode cPL_hold 15 = .ok (.lstore_n 3, 1) := by decide +kernel
theorem dPL_hold_16 : decode cPL_hold 16 = .ok (.iconst 0, 1) := by decide +kernel
theorem dPL_hold_17 : decode cPL_hold 17 = .ok (.istore 5, 2) := by decide +kernel
theorem dPL_hold_19 : decode cPL_hold 19 = .ok (.iload 5, 2) := by decide +kernel
theorem dPL_hold_21 : decode cPL_hold 21 = .ok (.aload_n 0, 1) := by decide +kernel
theorem dPL_hold_22 : decode cPL_hold 22 = .ok (.getfield 16, 3) := by decide +kernel
theorem dPL_hold_25 : decode cPL_hold 25 = .ok (.invokevirtual 31, 3) := by decide +kernel
theorem dPL_hold_28 : decode cPL_hold 28 = .ok (.if_icmp .ge 40, 3) := by decide +kernel
theorem dPL_hold_31 : decode cPL_hold 31 = .ok (.aload_n 0, 1) := by decide +kernel
theorem dPL_hold_32 : decode cPL_hold 32 = .ok (.getfield 16, 3) := by decide +kernel
theorem dPL_hold_35 : decode cPL_hold 35 = .ok (.iload 5, 2) := by decide +kernel
theorem dPL_hold_37 : decode cPL_hold 37 = .ok (.invokevirtual 127, 3) := by decide +kernel
theorem dPL_hold_40 : decode cPL_hold 40 = .ok (.checkcast 57, 3) := by decide +kernel
theorem dPL_hold_43 : decode cPL_hold 43 = .ok (.astore 6, 2) := by decide +kernel
theorem dPL_hold_45 : decode cPL_hold 45 = .ok (.aload 6, 2) := by decide +kernel
theorem dPL_hold_47 : decode cPL_hold 47 = .ok (.invokevirtual 70, 3) := by decide +kernel
theorem dPL_hold_50 : decode cPL_hold 50 = .ok (.ifCond .eq 12, 3) := by decide +kernel
theorem dPL_hold_53 : decode cPL_hold 53 = .ok (.lload_n 3, 1) := by decide +kernel
theorem dPL_hold_54 : decode cPL_hold 54 = .ok (.aload 6, 2) := by decide +kernel
theorem dPL_hold_56 : decode cPL_hold 56 = .ok (.aload_n 2, 1) := by decide +kernel
theorem dPL_hold_57 : decode cPL_hold 57 = .ok (.invokevirtual 172, 3) := by decide +kernel
theorem dPL_hold_60 : decode cPL_hold 60 = .ok (.ladd, 1) := by decide +kernel
theorem dPL_hold_61 : decode cPL_hold 61 = .ok (.lstore_n 3, 1) := by decide +kernel
theorem dPL_hold_62 : decode cPL_hold 62 = .ok (.iinc 5 1, 3) := by decide +kernel
theorem dPL_hold_65 : decode cPL_hold 65 = .ok (.goto (-46), 3) := by decide +kernel
theorem dPL_hold_68 : decode cPL_hold 68 = .ok (.lload_n 3, 1) := by decide +kernel
theorem dPL_hold_69 : decode cPL_hold 69 = .ok (.lreturn, 1) := by decide +kernel
theorem dPL_rows_0 : decode cPL_rows 0 = .ok (.aload_n 0, 1) := by decide +kernel
theorem dPL_rows_1 : decode cPL_rows 1 = .ok (.getfield 23, 3) := by decide +kernel
theorem dPL_rows_4 : decode cPL_rows 4 = .ok (.ireturn, 1) := by decide +kernel
theorem dPL_all_0 : decode cPL_all 0 = .ok (.lconst 0, 1) := by decide +kernel
theorem dPL_all_1 : decode cPL_all 1 = .ok (.lstore_n 1, 1) := by decide +kernel
theorem dPL_all_2 : decode cPL_all 2 = .ok (.iconst 0, 1) := by decide +kernel
theorem dPL_all_3 : decode cPL_all 3 = .ok (.istore_n 3, 1) := by decide +kernel
theorem dPL_all_4 : decode cPL_all 4 = .ok (.iload_n 3, 1) := by decide +kernel
theorem dPL_all_5 : decode cPL_all 5 = .ok (.aload_n 0, 1) := by decide +kernel
theorem dPL_all_6 : decode cPL_all 6 = .ok (.getfield 10, 3) := by decide +kernel
theorem dPL_all_9 : decode cPL_all 9 = .ok (.invokevirtual 31, 3) := by decide +kernel
theorem dPL_all_12 : decode cPL_all 12 = .ok (.if_icmp .ge 26, 3) := by decide +kernel
theorem dPL_all_15 : decode cPL_all 15 = .ok (.lload_n 1, 1) := by decide +kernel
theorem dPL_all_16 : decode cPL_all 16 = .ok (.aload_n 0, 1) := by decide +kernel
theorem dPL_all_17 : decode cPL_all 17 = .ok (.getfield 10, 3) := by decide +kernel
theorem dPL_all_20 : decode cPL_all 20 = .ok (.iload_n 3, 1) := by decide +kernel
theorem dPL_all_21 : decode cPL_all 21 = .ok (.invokevirtual 127, 3) := by decide +kernel
theorem dPL_all_24 : decode cPL_all 24 = .ok (.checkcast 36, 3) := by decide +kernel
theorem dPL_all_27 : decode cPL_all 27 = .ok (.getfield 176, 3) := by decide +kernel
theorem dPL_all_30 : decode cPL_all 30 = .ok (.ladd, 1) := by decide +kernel
theorem dPL_all_31 : decode cPL_all 31 = .ok (.lstore_n 1, 1) := by decide +kernel
theorem dPL_all_32 : decode cPL_all 32 = .ok (.iinc 3 1, 3) := by decide +kernel
theorem dPL_all_35 : decode cPL_all 35 = .ok (.goto (-31), 3) := by decide +kernel
theorem dPL_all_38 : decode cPL_all 38 = .ok (.lload_n 1, 1) := by decide +kernel
theorem dPL_all_39 : decode cPL_all 39 = .ok (.lreturn, 1) := by decide +kernel
theorem dBA_sumOfRows_0 : decode cBA_sumOfRows 0 = .ok (.lconst 0, 1) := by decide +kernel
theorem dBA_sumOfRows_1 : decode cBA_sumOfRows 1 = .ok (.lstore_n 1, 1) := by decide +kernel
theorem dBA_sumOfRows_2 : decode cBA_sumOfRows 2 = .ok (.iconst 0, 1) := by decide +kernel
theorem dBA_sumOfRows_3 : decode cBA_sumOfRows 3 = .ok (.istore_n 3, 1) := by decide +kernel
theorem dBA_sumOfRows_4 : decode cBA_sumOfRows 4 = .ok (.iload_n 3, 1) := by decide +kernel
theorem dBA_sumOfRows_5 : decode cBA_sumOfRows 5 = .ok (.aload_n 0, 1) := by decide +kernel
theorem dBA_sumOfRows_6 : decode cBA_sumOfRows 6 = .ok (.getfield 18, 3) := by decide +kernel
theorem dBA_sumOfRows_9 : decode cBA_sumOfRows 9 = .ok (.invokevirtual 31, 3) := by decide +kernel
theorem dBA_sumOfRows_12 : decode cBA_sumOfRows 12 = .ok (.if_icmp .ge 26, 3) := by decide +kernel
theorem dBA_sumOfRows_15 : decode cBA_sumOfRows 15 = .ok (.lload_n 1, 1) := by decide +kernel
theorem dBA_sumOfRows_16 : decode cBA_sumOfRows 16 = .ok (.aload_n 0, 1) := by decide +kernel
theorem dBA_sumOfRows_17 : decode cBA_sumOfRows 17 = .ok (.getfield 18, 3) := by decide +kernel
theorem dBA_sumOfRows_20 : decode cBA_sumOfRows 20 = .ok (.iload_n 3, 1) := by decide +kernel
theorem dBA_sumOfRows_21 : decode cBA_sumOfRows 21 = .ok (.invokevirtual 47, 3) := by decide +kernel
theorem dBA_sumOfRows_24 : decode cBA_sumOfRows 24 = .ok (.checkcast 38, 3) := by decide +kernel
theorem dBA_sumOfRows_27 : decode cBA_sumOfRows 27 = .ok (.getfield 55, 3) := by decide +kernel
theorem dBA_sumOfRows_30 : decode cBA_sumOfRows 30 = .ok (.ladd, 1) := by decide +kernel
theorem dBA_sumOfRows_31 : decode cBA_sumOfRows 31 = .ok (.lstore_n 1, 1) := by decide +kernel
theorem dBA_sumOfRows_32 : decode cBA_sumOfRows 32 = .ok (.iinc 3 1, 3) := by decide +kernel
theorem dBA_sumOfRows_35 : decode cBA_sumOfRows 35 = .ok (.goto (-31), 3) := by decide +kernel
theorem dBA_sumOfRows_38 : decode cBA_sumOfRows 38 = .ok (.lload_n 1, 1) := by decide +kernel
theorem dBA_sumOfRows_39 : decode cBA_sumOfRows 39 = .ok (.lreturn, 1) := by decide +kernel
theorem dRW_takesFromCustomer_0 : decode cRW_takesFromCustomer 0 = .ok (.aload_n 0, 1) := by decide +kernel
theorem dRW_takesFromCustomer_1 : decode cRW_takesFromCustomer 1 = .ok (.getfield 15, 3) := by decide +kernel
theorem dRW_takesFromCustomer_4 : decode cRW_takesFromCustomer 4 = .ok (.lconst 0, 1) := by decide +kernel
theorem dRW_takesFromCustomer_5 : decode cRW_takesFromCustomer 5 = .ok (.lcmp, 1) := by decide +kernel
theorem dRW_takesFromCustomer_6 : decode cRW_takesFromCustomer 6 = .ok (.ifCond .ge 18, 3) := by decide +kernel
theorem dRW_takesFromCustomer_9 : decode cRW_takesFromCustomer 9 = .ok (.aload_n 0, 1) := by decide +kernel
theorem dRW_takesFromCustomer_10 : decode cRW_takesFromCustomer 10 = .ok (.getfield 9, 3) := by decide +kernel
theorem dRW_takesFromCustomer_13 : decode cRW_takesFromCustomer 13 = .ok (.getfield 19, 3) := by decide +kernel
theorem dRW_takesFromCustomer_16 : decode cRW_takesFromCustomer 16 = .ok (.iconst 3, 1) := by decide +kernel
theorem dRW_takesFromCustomer_17 : decode cRW_takesFromCustomer 17 = .ok (.if_icmp .ne 7, 3) := by decide +kernel
theorem dRW_takesFromCustomer_20 : decode cRW_takesFromCustomer 20 = .ok (.iconst 1, 1) := by decide +kernel
theorem dRW_takesFromCustomer_21 : decode cRW_takesFromCustomer 21 = .ok (.goto 4, 3) := by decide +kernel
theorem dRW_takesFromCustomer_24 : decode cRW_takesFromCustomer 24 = .ok (.iconst 0, 1) := by decide +kernel
theorem dRW_takesFromCustomer_25 : decode cRW_takesFromCustomer 25 = .ok (.ireturn, 1) := by decide +kernel
theorem dBA_breaksLimit_0 : decode cBA_breaksLimit 0 = .ok (.aload_n 1, 1) := by decide +kernel
theorem dBA_breaksLimit_1 : decode cBA_breaksLimit 1 = .ok (.getfield 51, 3) := by decide +kernel
theorem dBA_breaksLimit_4 : decode cBA_breaksLimit 4 = .ok (.astore_n 3, 1) := by decide +kernel
theorem dBA_breaksLimit_5 : decode cBA_breaksLimit 5 = .ok (.aload_n 1, 1) := by decide +kernel
theorem dBA_breaksLimit_6 : decode cBA_breaksLimit 6 = .ok (.invokevirtual 95, 3) := by decide +kernel
theorem dBA_breaksLimit_9 : decode cBA_breaksLimit 9 = .ok (.ifCond .eq 28, 3) := by decide +kernel
theorem dBA_breaksLimit_12 : decode cBA_breaksLimit 12 = .ok (.aload_n 3, 1) := by decide +kernel
theorem dBA_breaksLimit_13 : decode cBA_breaksLimit 13 = .ok (.getfield 62, 3) := by decide +kernel
theorem dBA_breaksLimit_16 : decode cBA_breaksLimit 16 = .ok (.aload_n 0, 1) := by decide +kernel
theorem dBA_breaksLimit_17 : decode cBA_breaksLimit 17 = .ok (.aload_n 3, 1) := by decide +kernel
theorem dBA_breaksLimit_18 : decode cBA_breaksLimit 18 = .ok (.iload_n 2, 1) := by decide +kernel
theorem dBA_breaksLimit_19 : decode cBA_breaksLimit 19 = .ok (.invokevirtual 98, 3) := by decide +kernel
theorem dBA_breaksLimit_22 : decode cBA_breaksLimit 22 = .ok (.ladd, 1) := by decide +kernel
theorem dBA_breaksLimit_23 : decode cBA_breaksLimit 23 = .ok (.aload_n 3, 1) := by decide +kernel
theorem dBA_breaksLimit_24 : decode cBA_breaksLimit 24 = .ok (.getfield 102, 3) := by decide +kernel
theorem dBA_breaksLimit_27 : decode cBA_breaksLimit 27 = .ok (.ineg, 1) := by decide +kernel
theorem dBA_breaksLimit_28 : decode cBA_breaksLimit 28 = .ok (.i2l, 1) := by decide +kernel
theorem dBA_breaksLimit_29 : decode cBA_breaksLimit 29 = .ok (.lcmp, 1) := by decide +kernel
theorem dBA_breaksLimit_30 : decode cBA_breaksLimit 30 = .ok (.ifCond .ge 7, 3) := by decide +kernel
theorem dBA_breaksLimit_33 : decode cBA_breaksLimit 33 = .ok (.iconst 1, 1) := by decide +kernel
theorem dBA_breaksLimit_34 : decode cBA_breaksLimit 34 = .ok (.goto 4, 3) := by decide +kernel
theorem dBA_breaksLimit_37 : decode cBA_breaksLimit 37 = .ok (.iconst 0, 1) := by decide +kernel
theorem dBA_breaksLimit_38 : decode cBA_breaksLimit 38 = .ok (.ireturn, 1) := by decide +kernel
theorem dBA_outcomeOfPosting_0 : decode cBA_outcomeOfPosting 0 = .ok (.aload_n 0, 1) := by decide +kernel
theorem dBA_outcomeOfPosting_1 : decode cBA_outcomeOfPosting 1 = .ok (.getfield 18, 3) := by decide +kernel
theorem dBA_outcomeOfPosting_4 : decode cBA_outcomeOfPosting 4 = .ok (.invokevirtual 67, 3) := by decide +kernel
theorem dBA_outcomeOfPosting_7 : decode cBA_outcomeOfPosting 7 = .ok (.ifCond .ne 12, 3) := by decide +kernel
theorem dBA_outcomeOfPosting_10 : decode cBA_outcomeOfPosting 10 = .ok (.aload_n 0, 1) := by decide +kernel
theorem dBA_outcomeOfPosting_11 : decode cBA_outcomeOfPosting 11 = .ok (.invokevirtual 71, 3) := by decide +kernel
theorem dBA_outcomeOfPosting_14 : decode cBA_outcomeOfPosting 14 = .ok (.lconst 0, 1) := by decide +kernel
theorem dBA_outcomeOfPosting_15 : decode cBA_outcomeOfPosting 15 = .ok (.lcmp, 1) := by decide +kernel
theorem dBA_outcomeOfPosting_16 : decode cBA_outcomeOfPosting 16 = .ok (.ifCond .eq 7, 3) := by decide +kernel
theorem dBA_outcomeOfPosting_19 : decode cBA_outcomeOfPosting 19 = .ok (.getstatic 75, 3) := by decide +kernel
theorem dBA_outcomeOfPosting_22 : decode cBA_outcomeOfPosting 22 = .ok (.areturn, 1) := by decide +kernel
theorem dBA_outcomeOfPosting_23 : decode cBA_outcomeOfPosting 23 = .ok (.iconst 0, 1) := by decide +kernel
theorem dBA_outcomeOfPosting_24 : decode cBA_outcomeOfPosting 24 = .ok (.istore_n 1, 1) := by decide +kernel
theorem dBA_outcomeOfPosting_25 : decode cBA_outcomeOfPosting 25 = .ok (.iload_n 1, 1) := by decide +kernel
theorem dBA_outcomeOfPosting_26 : decode cBA_outcomeOfPosting 26 = .ok (.aload_n 0, 1) := by decide +kernel
theorem dBA_outcomeOfPosting_27 : decode cBA_outcomeOfPosting 27 = .ok (.getfield 18, 3) := by decide +kernel
theorem dBA_outcomeOfPosting_30 : decode cBA_outcomeOfPosting 30 = .ok (.invokevirtual 31, 3) := by decide +kernel
theorem dBA_outcomeOfPosting_33 : decode cBA_outcomeOfPosting 33 = .ok (.if_icmp .ge 45, 3) := by decide +kernel
theorem dBA_outcomeOfPosting_36 : decode cBA_outcomeOfPosting 36 = .ok (.aload_n 0, 1) := by decide +kernel
theorem dBA_outcomeOfPosting_37 : decode cBA_outcomeOfPosting 37 = .ok (.aload_n 0, 1) := by decide +kernel
theorem dBA_outcomeOfPosting_38 : decode cBA_outcomeOfPosting 38 = .ok (.getfield 18, 3) := by decide +kernel
theorem dBA_outcomeOfPosting_41 : decode cBA_outcomeOfPosting 41 = .ok (.iload_n 1, 1) := by decide +kernel
theorem dBA_outcomeOfPosting_42 : decode cBA_outcomeOfPosting 42 = .ok (.invokevirtual 47, 3) := by decide +kernel
theorem dBA_outcomeOfPosting_45 : decode cBA_outcomeOfPosting 45 = .ok (.checkcast 38, 3) := by decide +kernel
theorem dBA_outcomeOfPosting_48 : decode cBA_outcomeOfPosting 48 = .ok (.iload_n 1, 1) := by decide +kernel
theorem dBA_outcomeOfPosting_49 : decode cBA_outcomeOfPosting 49 = .ok (.iconst 1, 1) := by decide +kernel
theorem dBA_outcomeOfPosting_50 : decode cBA_outcomeOfPosting 50 = .ok (.iadd, 1) := by decide +kernel
theorem dBA_outcomeOfPosting_51 : decode cBA_outcomeOfPosting 51 = .ok (.invokevirtual 81, 3) := by decide +kernel
theorem dBA_outcomeOfPosting_54 : decode cBA_outcomeOfPosting 54 = .ok (.ifCond .eq 7, 3) := by decide +kernel
theorem dBA_outcomeOfPosting_57 : decode cBA_outcomeOfPosting 57 = .ok (.getstatic 75, 3) := by decide +kernel
theorem dBA_outcomeOfPosting_60 : decode cBA_outcomeOfPosting 60 = .ok (.areturn, 1) := by decide +kernel
theorem dBA_outcomeOfPosting_61 : decode cBA_outcomeOfPosting 61 = .ok (.aload_n 0, 1) := by decide +kernel
theorem dBA_outcomeOfPosting_62 : decode cBA_outcomeOfPosting 62 = .ok (.getfield 85, 3) := by decide +kernel
theorem dBA_outcomeOfPosting_65 : decode cBA_outcomeOfPosting 65 = .ok (.ifCond .eq 7, 3) := by decide +kernel
theorem dBA_outcomeOfPosting_68 : decode cBA_outcomeOfPosting 68 = .ok (.getstatic 89, 3) := by decide +kernel
theorem dBA_outcomeOfPosting_71 : decode cBA_outcomeOfPosting 71 = .ok (.areturn, 1) := by decide +kernel
theorem dBA_outcomeOfPosting_72 : decode cBA_outcomeOfPosting 72 = .ok (.iinc 1 1, 3) := by decide +kernel
theorem dBA_outcomeOfPosting_75 : decode cBA_outcomeOfPosting 75 = .ok (.goto (-50), 3) := by decide +kernel
theorem dBA_outcomeOfPosting_78 : decode cBA_outcomeOfPosting 78 = .ok (.getstatic 92, 3) := by decide +kernel
theorem dBA_outcomeOfPosting_81 : decode cBA_outcomeOfPosting 81 = .ok (.areturn, 1) := by decide +kernel
end
section
/-! decode rows: REF -/
theorem dMO_init_0 : decode cMO_init 0 = .ok (.aload_n 0, 1) := by decide +kernel
theorem dMO_init_1 : decode cMO_init 1 = .ok (.invokespecial 1, 3) := by decide +kernel
theorem dMO_init_4 : decode cMO_init 4 = .ok (.aload_n 0, 1) := by decide +kernel
theorem dMO_init_5 : decode cMO_init 5 = .ok (.bipush 61, 2) := by decide +kernel
theorem dMO_init_7 : decode cMO_init 7 = .ok (.newarray .int, 2) := by decide +kernel
theorem dMO_init_9 : decode cMO_init 9 = .ok (.putfield 7, 3) := by decide +kernel
theorem dMO_init_12 : decode cMO_init 12 = .ok (.aload_n 0, 1) := by decide +kernel
theorem dMO_init_13 : decode cMO_init 13 = .ok (.bipush 61, 2) := by decide +kernel
theorem dMO_init_15 : decode cMO_init 15 = .ok (.newarray .int, 2) := by decide +kernel
theorem dMO_init_17 : decode cMO_init 17 = .ok (.putfield 13, 3) := by decide +kernel
theorem dMO_init_20 : decode cMO_init 20 = .ok (.aload_n 0, 1) := by decide +kernel
theorem dMO_init_21 : decode cMO_init 21 = .ok (.bipush 61, 2) := by decide +kernel
theorem dMO_init_23 : decode cMO_init 23 = .ok (.newarray .long, 2) := by decide +kernel
theorem dMO_init_25 : decode cMO_init 25 = .ok (.putfield 16, 3) := by decide +kernel
theorem dMO_init_28 : decode cMO_init 28 = .ok (.aload_n 0, 1) := by decide +kernel
theorem dMO_init_29 : decode cMO_init 29 = .ok (.sipush 301, 3) := by decide +kernel
theorem dMO_init_32 : decode cMO_init 32 = .ok (.newarray .int, 2) := by decide +kernel
theorem dMO_init_34 : decode cMO_init 34 = .ok (.putfield 20, 3) := by decide +kernel
theorem dMO_init_37 : decode cMO_init 37 = .ok (.aload_n 0, 1) := by decide +kernel
theorem dMO_init_38 : decode cMO_init 38 = .ok (.sipush 301, 3) := by decide +kernel
theorem dMO_init_41 : decode cMO_init 41 = .ok (.newarray .long, 2) := by decide +kernel
theorem dMO_init_43 : decode cMO_init 43 = .ok (.putfield 23, 3) := by decide +kernel
theorem dMO_init_46 : decode cMO_init 46 = .ok (.aload_n 0, 1) := by decide +kernel
theorem dMO_init_47 : decode cMO_init 47 = .ok (.sipush 301, 3) := by decide +kernel
theorem dMO_init_50 : decode cMO_init 50 = .ok (.newarray .boolean, 2) := by decide +kernel
theorem dMO_init_52 : decode cMO_init 52 = .ok (.putfield 26, 3) := by decide +kernel
theorem dMO_init_55 : decode cMO_init 55 = .ok (.aload_n 0, 1) := by decide +kernel
theorem dMO_init_56 : decode cMO_init 56 = .ok (.sipush 301, 3) := by decide +kernel
theorem dMO_init_59 : decode cMO_init 59 = .ok (.newarray .boolean, 2) := by decide +kernel
theorem dMO_init_61 : decode cMO_init 61 = .ok (.putfield 30, 3) := by decide +kernel
theorem dMO_init_64 : decode cMO_init 64 = .ok (.aload_n 0, 1) := by decide +kernel
theorem dMO_init_65 : decode cMO_init 65 = .ok (.sipush 301, 3) := by decide +kernel
theorem dMO_init_68 : decode cMO_init 68 = .ok (.newarray .boolean, 2) := by decide +kernel
theorem dMO_init_70 : decode cMO_init 70 = .ok (.putfield 33, 3) := by decide +kernel
theorem dMO_init_73 : decode cMO_init 73 = .ok (.aload_n 0, 1) := by decide +kernel
theorem dMO_init_74 : decode cMO_init 74 = .ok (.sipush 301, 3) := by decide +kernel
theorem dMO_init_77 : decode cMO_init 77 = .ok (.newarray .int, 2) := by decide +kernel
theorem dMO_init_79 : decode cMO_init 79 = .ok (.putfield 36, 3) := by decide +kernel
theorem dMO_init_82 : decode cMO_init 82 = .ok (.aload_n 0, 1) := by decide +kernel
theorem dMO_init_83 : decode cMO_init 83 = .ok (.sipush 3612, 3) := by decide +kernel
theorem dMO_init_86 : decode cMO_init 86 = .ok (.newarray .int, 2) := by decide +kernel
theorem dMO_init_88 : decode cMO_init 88 = .ok (.putfield 39, 3) := by decide +kernel
theorem dMO_init_91 : decode cMO_init 91 = .ok (.aload_n 0, 1) := by decide +kernel
theorem dMO_init_92 : decode cMO_init 92 = .ok (.sipush 3612, 3) := by decide +kernel
theorem dMO_init_95 : decode cMO_init 95 = .ok (.newarray .long, 2) := by decide +kernel
theorem dMO_init_97 : decode cMO_init 97 = .ok (.putfield 42, 3) := by decide +kernel
theorem dMO_init_100 : decode cMO_init 100 = .ok (.aload_n 0, 1) := by decide +kernel
theorem dMO_init_101 : decode cMO_init 101 = .ok (.sipush 300, 3) := by decide +kernel
theorem dMO_init_104 : decode cMO_init 104 = .ok (.newarray .int, 2) := by decide +kernel
theorem dMO_init_106 : decode cMO_init 106 = .ok (.putfield 45, 3) := by decide +kernel
theorem dMO_init_109 : decode cMO_init 109 = .ok (.aload_n 0, 1) := by decide +kernel
theorem dMO_init_110 : decode cMO_init 110 = .ok (.ldc2_w 48, 3) := by decide +kernel
theorem dMO_init_113 : decode cMO_init 113 = .ok (.putfield 50, 3) := by decide +kernel
theorem dMO_init_116 : decode cMO_init 116 = .ok (.aload_n 0, 1) := by decide +kernel
theorem dMO_init_117 : decode cMO_init 117 = .ok (.ldc2_w 48, 3) := by decide +kernel
theorem dMO_init_120 : decode cMO_init 120 = .ok (.putfield 50, 3) := by decide +kernel
theorem dMO_init_123 : decode cMO_init 123 = .ok (.return_, 1) := by decide +kernel
theorem dMO_thrown_0 : decode cMO_thrown 0 = .ok (.aload_n 0, 1) := by decide +kernel
theorem dMO_thrown_1 : decode cMO_thrown 1 = .ok (.getfield 54, 3) := by decide +kernel
theorem dMO_thrown_4 : decode cMO_thrown 4 = .ok (.ireturn, 1) := by decide +kernel
theorem dMO_isIn_0 : decode cMO_isIn 0 = .ok (.lload_n 0, 1) := by decide +kernel
theorem dMO_isIn_1 : decode cMO_isIn 1 = .ok (.lload_n 2, 1) := by decide +kernel
theorem dMO_isIn_2 : decode cMO_isIn 2 = .ok (.lcmp, 1) := by decide +kernel
theorem dMO_isIn_3 : decode cMO_isIn 3 = .ok (.ifCond .lt 14, 3) := by decide +kernel
theorem dMO_isIn_6 : decode cMO_isIn 6 = .ok (.lload_n 0, 1) := by decide +kernel
theorem dMO_isIn_7 : decode cMO_isIn 7 = .ok (.lload 4, 2) := by decide +kernel
theorem dMO_isIn_9 : decode cMO_isIn 9 = .ok (.lcmp, 1) := by decide +kernel
theorem dMO_isIn_10 : decode cMO_isIn 10 = .ok (.ifCond .gt 7, 3) := by decide +kernel
theorem dMO_isIn_13 : decode cMO_isIn 13 = .ok (.iconst 1, 1) := by decide +kernel
theorem dMO_isIn_14 : decode cMO_isIn 14 = .ok (.goto 4, 3) := by decide +kernel
theorem dMO_isIn_17 : decode cMO_isIn 17 = .ok (.iconst 0, 1) := by decide +kernel
theorem dMO_isIn_18 : decode cMO_isIn 18 = .ok (.ireturn, 1) := by decide +kernel
theorem dMO_account_0 : decode cMO_account 0 = .ok (.aload_n 0, 1) := by decide +kernel
theorem dMO_account_1 : decode cMO_account 1 = .ok (.iconst 0, 1) := by decide +kernel
theorem dMO_account_2 : decode cMO_account 2 = .ok (.putfield 54, 3) := by decide +kernel
theorem dMO_account_5 : decode cMO_account 5 = .ok (.iload_n 1, 1) := by decide +kernel
theorem dMO_account_6 : decode cMO_account 6 = .ok (.i2l, 1) := by decide +kernel
theorem dMO_account_7 : decode cMO_account 7 = .ok (.lconst 0, 1) := by decide +kernel
theorem dMO_account_8 : decode cMO_account 8 = .ok (.ldc2_w 68, 3) := by decide +kernel
theorem dMO_account_11 : decode cMO_account 11 = .ok (.invokestatic 61, 3) := by decide +kernel
theorem dMO_account_14 : decode cMO_account 14 = .ok (.ifCond .eq 15, 3) := by decide +kernel
theorem dMO_account_17 : decode cMO_account 17 = .ok (.iload_n 2, 1) := by decide +kernel
theorem dMO_account_18 : decode cMO_account 18 = .ok (.i2l, 1) := by decide +kernel
theorem dMO_account_19 : decode cMO_account 19 = .ok (.lconst 0, 1) := by decide +kernel
theorem dMO_account_20 : decode cMO_account 20 = .ok (.ldc2_w 70, 3) := by decide +kernel
theorem dMO_account_23 : decode cMO_account 23 = .ok (.invokestatic 61, 3) := by decide +kernel
theorem dMO_account_26 : decode cMO_account 26 = .ok (.ifCond .ne 6, 3) := by decide +kernel
theorem dMO_account_29 : decode cMO_account 29 = .ok (.ldc 72, 2) := by decide +kernel
theorem dMO_account_31 : decode cMO_account 31 = .ok (.ireturn, 1) := by decide +kernel
theorem dMO_account_32 : decode cMO_account 32 = .ok (.aload_n 0, 1) := by decide +kernel
theorem dMO_account_33 : decode cMO_account 33 = .ok (.getfield 58, 3) := by decide +kernel
theorem dMO_account_36 : decode cMO_account 36 = .ok (.bipush 60, 2) := by decide +kernel
theorem dMO_account_38 : decode cMO_account 38 = .ok (.if_icmp .ne 6, 3) := by decide +kernel
theorem dMO_account_41 : decode cMO_account 41 = .ok (.ldc 73, 2) := by decide +kernel
theorem dMO_account_43 : decode cMO_account 43 = .ok (.ireturn, 1) := by decide +kernel
theorem dMO_account_44 : decode cMO_account 44 = .ok (.aload_n 0, 1) := by decide +kernel
theorem dMO_account_45 : decode cMO_account 45 = .ok (.dup, 1) := by decide +kernel
theorem dMO_account_46 : decode cMO_account 46 = .ok (.getfield 58, 3) := by decide +kernel
theorem dMO_account_49 : decode cMO_account 49 = .ok (.iconst 1, 1) := by decide +kernel
theorem dMO_account_50 : decode cMO_account 50 = .ok (.iadd, 1) := by decide +kernel
theorem dMO_account_51 : decode cMO_account 51 = .ok (.putfield 58, 3) := by decide +kernel
theorem dMO_account_54 : decode cMO_account 54 = .ok (.aload_n 0, 1) := by decide +kernel
theorem dMO_account_55 : decode cMO_account 55 = .ok (.getfield 7, 3) := by decide +kernel
theorem dMO_account_58 : decode cMO_account 58 = .ok (.aload_n 0, 1) := by decide +kernel
theorem dMO_account_59 : decode cMO_account 59 = .ok (.getfield 58, 3) := by decide +kernel
theorem dMO_account_62 : decode cMO_account 62 = .ok (.iload_n 1, 1) := by decide +kernel
theorem dMO_account_63 : decode cMO_account 63 = .ok (.iastore, 1) := by decide +kernel
theorem dMO_account_64 : decode cMO_account 64 = .ok (.aload_n 0, 1) := by decide +kernel
theorem dMO_account_65 : decode cMO_account 65 = .ok (.getfield 13, 3) := by decide +kernel
theorem dMO_account_68 : decode cMO_account 68 = .ok (.aload_n 0, 1) := by decide +kernel
theorem dMO_account_69 : decode cMO_account 69 = .ok (.getfield 58, 3) := by decide +kernel
theorem dMO_account_72 : decode cMO_account 72 = .ok (.iload_n 2, 1) := by decide +kernel
theorem dMO_account_73 : decode cMO_account 73 = .ok (.iastore, 1) := by decide +kernel
theorem dMO_account_74 : decode cMO_account 74 = .ok (.aload_n 0, 1) := by decide +kernel
theorem dMO_account_75 : decode cMO_account 75 = .ok (.getfield 58, 3) := by decide +kernel
theorem dMO_account_78 : decode cMO_account 78 = .ok (.ireturn, 1) := by decide +kernel
theorem dMO_make_0 : decode cMO_make 0 = .ok (.aload_n 0, 1) := by decide +kernel
theorem dMO_make_1 : decode cMO_make 1 = .ok (.dup, 1) := by decide +kernel
theorem dMO_make_2 : decode cMO_make 2 = .ok (.getfield 65, 3) := by decide +kernel
theorem dMO_make_5 : decode cMO_make 5 = .ok (.iconst 1, 1) := by decide +kernel
theorem dMO_make_6 : decode cMO_make 6 = .ok (.iadd, 1) := by decide +kernel
theorem dMO_make_7 : decode cMO_make 7 = .ok (.putfield 65, 3) := by decide +kernel
theorem dMO_make_10 : decode cMO_make 10 = .ok (.aload_n 0, 1) := by decide +kernel
theorem dMO_make_11 : decode cMO_make 11 = .ok (.getfield 20, 3) := by decide +kernel
theorem dMO_make_14 : decode cMO_make 14 = .ok (.aload_n 0, 1) := by decide +kernel
theorem dMO_make_15 : decode cMO_make 15 = .ok (.getfield 65, 3) := by decide +kernel
theorem dMO_make_18 : decode cMO_make 18 = .ok (.iconst 0, 1) := by decide +kernel
theorem dMO_make_19 : decode cMO_make 19 = .ok (.iastore, 1) := by decide +kernel
theorem dMO_make_20 : decode cMO_make 20 = .ok (.aload_n 0, 1) := by decide +kernel
theorem dMO_make_21 : decode cMO_make 21 = .ok (.getfield 23, 3) := by decide +kernel
theorem dMO_make_24 : decode cMO_make 24 = .ok (.aload_n 0, 1) := by decide +kernel
theorem dMO_make_25 : decode cMO_make 25 = .ok (.getfield 65, 3) := by decide +kernel
theorem dMO_make_28 : decode cMO_make 28 = .ok (.lload_n 1, 1) := by decide +kernel
theorem dMO_make_29 : decode cMO_make 29 = .ok (.lastore, 1) := by decide +kernel
theorem dMO_make_30 : decode cMO_make 30 = .ok (.aload_n 0, 1) := by decide +kernel
theorem dMO_make_31 : decode cMO_make 31 = .ok (.getfield 65, 3) := by decide +kernel
theorem dMO_make_34 : decode cMO_make 34 = .ok (.ireturn, 1) := by decide +kernel
theorem dMO_batch_0 : decode cMO_batch 0 = .ok (.aload_n 0, 1) := by decide +kernel
theorem dMO_batch_1 : decode cMO_batch 1 = .ok (.iconst 0, 1) := by decide +kernel
theorem dMO_batch_2 : decode cMO_batch 2 = .ok (.putfield 54, 3) := by decide +kernel
theorem dMO_batch_5 : decode cMO_batch 5 = .ok (.lload_n 1, 1) := by decide +kernel
theorem dMO_batch_6 : decode cMO_batch 6 = .ok (.lconst 0, 1) := by decide +kernel
theorem dMO_batch_7 : decode cMO_batch 7 = .ok (.ldc2_w 74, 3) := by decide +kernel
theorem dMO_batch_10 : decode cMO_batch 10 = .ok (.invokestatic 61, 3) := by decide +kernel
theorem dMO_batch_13 : decode cMO_batch 13 = .ok (.ifCond .ne 6, 3) := by decide +kernel
theorem dMO_batch_16 : decode cMO_batch 16 = .ok (.ldc 72, 2) := by decide +kernel
theorem dMO_batch_18 : decode cMO_batch 18 = .ok (.ireturn, 1) := by decide +kernel
theorem dMO_batch_19 : decode cMO_batch 19 = .ok (.lload_n 1, 1) := by decide +kernel
theorem dMO_batch_20 : decode cMO_batch 20 = .ok (.aload_n 0, 1) := by decide +kernel
theorem dMO_batch_21 : decode cMO_batch 21 = .ok (.getfield 50, 3) := by decide +kernel
theorem dMO_batch_24 : decode cMO_batch 24 = .ok (.lcmp, 1) := by decide +kernel
theorem dMO_batch_25 : decode cMO_batch 25 = .ok (.ifCond .gt 8, 3) := by decide +kernel
theorem dMO_batch_28 : decode cMO_batch 28 = .ok (.ldc 76, 2) := by decide +kernel
theorem dMO_batch_30 : decode cMO_batch 30 = .ok (.goto 23, 3) := by decide +kernel
theorem dMO_batch_33 : decode cMO_batch 33 = .ok (.aload_n 0, 1) := by decide +kernel
theorem dMO_batch_34 : decode cMO_batch 34 = .ok (.getfield 65, 3) := by decide +kernel
theorem dMO_batch_37 : decode cMO_batch 37 = .ok (.sipush 300, 3) := by decide +kernel
theorem dMO_batch_40 : decode cMO_batch 40 = .ok (.if_icmp .ne 8, 3) := by decide +kernel
theorem dMO_batch_43 : decode cMO_batch 43 = .ok (.ldc 73, 2) := by decide +kernel
theorem dMO_batch_45 : decode cMO_batch 45 = .ok (.goto 8, 3) := by decide +kernel
theorem dMO_batch_48 : decode cMO_batch 48 = .ok (.aload_n 0, 1) := by decide +kernel
theorem dMO_batch_49 : decode cMO_batch 49 = .ok (.lload_n 1, 1) := by decide +kernel
theorem dMO_batch_50 : decode cMO_batch 50 = .ok (.invokevirtual 77, 3) := by decide +kernel
theorem dMO_batch_53 : decode cMO_batch 53 = .ok (.ireturn, 1) := by decide +kernel
theorem dMO_isBatch_0 : decode cMO_isBatch 0 = .ok (.iload_n 1, 1) := by decide +kernel
theorem dMO_isBatch_1 : decode cMO_isBatch 1 = .ok (.i2l, 1) := by decide +kernel
theorem dMO_isBatch_2 : decode cMO_isBatch 2 = .ok (.lconst 1, 1) := by decide +kernel
theorem dMO_isBatch_3 : decode cMO_isBatch 3 = .ok (.aload_n 0, 1) := by decide +kernel
theorem dMO_isBatch_4 : decode cMO_isBatch 4 = .ok (.getfield 65, 3) := by decide +kernel
theorem dMO_isBatch_7 : decode cMO_isBatch 7 = .ok (.i2l, 1) := by decide +kernel
theorem dMO_isBatch_8 : decode cMO_isBatch 8 = .ok (.invokestatic 61, 3) := by decide +kernel
theorem dMO_isBatch_11 : decode cMO_isBatch 11 = .ok (.ireturn, 1) := by decide +kernel
theorem dMO_isAccount_0 : decode cMO_isAccount 0 = .ok (.iload_n 1, 1) := by decide +kernel
theorem dMO_isAccount_1 : decode cMO_isAccount 1 = .ok (.i2l, 1) := by decide +kernel
theorem dMO_isAccount_2 : decode cMO_isAccount 2 = .ok (.lconst 1, 1) := by decide +kernel
theorem dMO_isAccount_3 : decode cMO_isAccount 3 = .ok (.aload_n 0, 1) := by decide +kernel
theorem dMO_isAccount_4 : decode cMO_isAccount 4 = .ok (.getfield 58, 3) := by decide +kernel
theorem dMO_isAccount_7 : decode cMO_isAccount 7 = .ok (.i2l, 1) := by decide +kernel
theorem dMO_isAccount_8 : decode cMO_isAccount 8 = .ok (.invokestatic 61, 3) := by decide +kernel
theorem dMO_isAccount_11 : decode cMO_isAccount 11 = .ok (.ireturn, 1) := by decide +kernel
theorem dMO_put_0 : decode cMO_put 0 = .ok (.aload_n 0, 1) := by decide +kernel
theorem dMO_put_1 : decode cMO_put 1 = .ok (.getfield 39, 3) := by decide +kernel
theorem dMO_put_4 : decode cMO_put 4 = .ok (.bipush 12, 2) := by decide +kernel
theorem dMO_put_6 : decode cMO_put 6 = .ok (.iload_n 1, 1) := by decide +kernel
theorem dMO_put_7 : decode cMO_put 7 = .ok (.imul, 1) := by decide +kernel
theorem dMO_put_8 : decode cMO_put 8 = .ok (.aload_n 0, 1) := by decide +kernel
theorem dMO_put_9 : decode cMO_put 9 = .ok (.getfield 36, 3) := by decide +kernel
theorem dMO_put_12 : decode cMO_put 12 = .ok (.iload_n 1, 1) := by decide +kernel
theorem dMO_put_13 : decode cMO_put 13 = .ok (.iaload, 1) := by decide +kernel
theorem dMO_put_14 : decode cMO_put 14 = .ok (.iadd, 1) := by decide +kernel
theorem dMO_put_15 : decode cMO_put 15 = .ok (.iload_n 2, 1) := by decide +kernel
theorem dMO_put_16 : decode cMO_put 16 = .ok (.iastore, 1) := by decide +kernel
theorem dMO_put_17 : decode cMO_put 17 = .ok (.aload_n 0, 1) := by decide +kernel
theorem dMO_put_18 : decode cMO_put 18 = .ok (.getfield 42, 3) := by decide +kernel
theorem dMO_put_21 : decode cMO_put 21 = .ok (.bipush 12, 2) := by decide +kernel
theorem dMO_put_23 : decode cMO_put 23 = .ok (.iload_n 1, 1) := by decide +kernel
theorem dMO_put_24 : decode cMO_put 24 = .ok (.imul, 1) := by decide +kernel
theorem dMO_put_25 : decode cMO_put 25 = .ok (.aload_n 0, 1) := by decide +kernel
theorem dMO_put_26 : decode cMO_put 26 = .ok (.getfield 36, 3) := by decide +kernel
theorem dMO_put_29 : decode cMO_put 29 = .ok (.iload_n 1, 1) := by decide +kernel
theorem dMO_put_30 : decode cMO_put 30 = .ok (.iaload, 1) := by decide +kernel
theorem dMO_put_31 : decode cMO_put 31 = .ok (.iadd, 1) := by decide +kernel
theorem dMO_put_32 : decode cMO_put 32 = .ok (.lload_n 3, 1) := by decide +kernel
theorem dMO_put_33 : decode cMO_put 33 = .ok (.lastore, 1) := by decide +kernel
theorem dMO_put_34 : decode cMO_put 34 = .ok (.aload_n 0, 1) := by decide +kernel
theorem dMO_put_35 : decode cMO_put 35 = .ok (.getfield 36, 3) := by decide +kernel
theorem dMO_put_38 : decode cMO_put 38 = .ok (.iload_n 1, 1) := by decide +kernel
theorem dMO_put_39 : decode cMO_put 39 = .ok (.dup2, 1) := by decide +kernel
theorem dMO_put_40 : decode cMO_put 40 = .ok (.iaload, 1) := by decide +kernel
theorem dMO_put_41 : decode cMO_put 41 = .ok (.iconst 1, 1) := by decide +kernel
theorem dMO_put_42 : decode cMO_put 42 = .ok (.iadd, 1) := by decide +kernel
theorem dMO_put_43 : decode cMO_put 43 = .ok (.iastore, 1) := by decide +kernel
theorem dMO_put_44 : decode cMO_put 44 = .ok (.return_, 1) := by decide +kernel
theorem dMO_row_0 : decode cMO_row 0 = .ok (.aload_n 0, 1) := by decide +kernel
theorem dMO_row_1 : decode cMO_row 1 = .ok (.iconst 0, 1) := by decide +kernel
theorem dMO_row_2 : decode cMO_row 2 = .ok (.putfield 54, 3) := by decide +kernel
theorem dMO_row_5 : decode cMO_row 5 = .ok (.aload_n 0, 1) := by decide +kernel
theorem dMO_row_6 : decode cMO_row 6 = .ok (.iload_n 1, 1) := by decide +kernel
theorem dMO_row_7 : decode cMO_row 7 = .ok (.invokevirtual 81, 3) := by decide +kernel
theorem dMO_row_10 : decode cMO_row 10 = .ok (.ifCond .eq 34, 3) := by decide +kernel
theorem dMO_row_13 : decode cMO_row 13 = .ok (.aload_n 0, 1) := by decide +kernel
theorem dMO_row_14 : decode cMO_row 14 = .ok (.iload_n 2, 1) := by decide +kernel
theorem dMO_row_15 : decode cMO_row 15 = .ok (.invokevirtual 85, 3) := by decide +kernel
theorem dMO_row_18 : decode cMO_row 18 = .ok (.ifCond .eq 26, 3) := by decide +kernel
theorem dMO_row_21 : decode cMO_row 21 = .ok (.lload_n 3, 1) := by decide +kernel
theorem dMO_row_22 : decode cMO_row 22 = .ok (.lconst 0, 1) := by decide +kernel
theorem dMO_row_23 : decode cMO_row 23 = .ok (.lcmp, 1) := by decide +kernel
theorem dMO_row_24 : decode cMO_row 24 = .ok (.ifCond .eq 20, 3) := by decide +kernel
theorem dMO_row_27 : decode cMO_row 27 = .ok (.lload_n 3, 1) := by decide +kernel
theorem dMO_row_28 : decode cMO_row 28 = .ok (.ldc2_w 88, 3) := by decide +kernel
theorem dMO_row_31 : decode cMO_row 31 = .ok (.ldc2_w 90, 3) := by decide +kernel
theorem dMO_row_34 : decode cMO_row 34 = .ok (.invokestatic 61, 3) := by decide +kernel
theorem dMO_row_37 : decode cMO_row 37 = .ok (.ifCond .eq 7, 3) := by decide +kernel
theorem dMO_row_40 : decode cMO_row 40 = .ok (.iconst 1, 1) := by decide +kernel
theorem dMO_row_41 : decode cMO_row 41 = .ok (.goto 4, 3) := by decide +kernel
theorem dMO_row_44 : decode cMO_row 44 = .ok (.iconst 0, 1) := by decide +kernel
theorem dMO_row_45 : decode cMO_row 45 = .ok (.istore 5, 2) := by decide +kernel
theorem dMO_row_47 : decode cMO_row 47 = .ok (.iload 5, 2) := by decide +kernel
theorem dMO_row_49 : decode cMO_row 49 = .ok (.ifCond .eq 27, 3) := by decide +kernel
theorem dMO_row_52 : decode cMO_row 52 = .ok (.aload_n 0, 1) := by decide +kernel
theorem dMO_row_53 : decode cMO_row 53 = .ok (.getfield 20, 3) := by decide +kernel
theorem dMO_row_56 : decode cMO_row 56 = .ok (.iload_n 1, 1) := by decide +kernel
theorem dMO_row_57 : decode cMO_row 57 = .ok (.iaload, 1) := by decide +kernel
theorem dMO_row_58 : decode cMO_row 58 = .ok (.ifCond .ne 18, 3) := by decide +kernel
theorem dMO_row_61 : decode cMO_row 61 = .ok (.aload_n 0, 1) := by decide +kernel
theorem dMO_row_62 : decode cMO_row 62 = .ok (.getfield 36, 3) := by decide +kernel
theorem dMO_row_65 : decode cMO_row 65 = .ok (.iload_n 1, 1) := by decide +kernel
theorem dMO_row_66 : decode cMO_row 66 = .ok (.iaload, 1) := by decide +kernel
theorem dMO_row_67 : decode cMO_row 67 = .ok (.bipush 12, 2) := by decide +kernel
theorem dMO_row_69 : decode cMO_row 69 = .ok (.if_icmp .ge 7, 3) := by decide +kernel
theorem dMO_row_72 : decode cMO_row 72 = .ok (.iconst 1, 1) := by decide +kernel
theorem dMO_row_73 : decode cMO_row 73 = .ok (.goto 4, 3) := by decide +kernel
theorem dMO_row_76 : decode cMO_row 76 = .ok (.iconst 0, 1) := by decide +kernel
theorem dMO_row_77 : decode cMO_row 77 = .ok (.istore 5, 2) := by decide +kernel
theorem dMO_row_79 : decode cMO_row 79 = .ok (.iload 5, 2) := by decide +kernel
theorem dMO_row_81 : decode cMO_row 81 = .ok (.ifCond .eq 10, 3) := by decide +kernel
theorem dMO_row_84 : decode cMO_row 84 = .ok (.aload_n 0, 1) := by decide +kernel
theorem dMO_row_85 : decode cMO_row 85 = .ok (.iload_n 1, 1) := by decide +kernel
theorem dMO_row_86 : decode cMO_row 86 = .ok (.iload_n 2, 1) := by decide +kernel
theorem dMO_row_87 : decode cMO_row 87 = .ok (.lload_n 3, 1) := by decide +kernel
theorem dMO_row_88 : decode cMO_row 88 = .ok (.invokevirtual 92, 3) := by decide +kernel
theorem dMO_row_91 : decode cMO_row 91 = .ok (.iload 5, 2) := by decide +kernel
theorem dMO_row_93 : decode cMO_row 93 = .ok (.ireturn, 1) := by decide +kernel
theorem dMO_part_0 : decode cMO_part 0 = .ok (.lconst 0, 1) := by decide +kernel
theorem dMO_part_1 : decode cMO_part 1 = .ok (.lstore 4, 2) := by decide +kernel
theorem dMO_part_3 : decode cMO_part 3 = .ok (.iconst 0, 1) := by decide +kernel
theorem dMO_part_4 : decode cMO_part 4 = .ok (.istore 6, 2) := by decide +kernel
theorem dMO_part_6 : decode cMO_part 6 = .ok (.iload 6, 2) := by decide +kernel
theorem dMO_part_8 : decode cMO_part 8 = .ok (.iload_n 2, 1) := by decide +kernel
theorem dMO_part_9 : decode cMO_part 9 = .ok (.if_icmp .ge 47, 3) := by decide +kernel
theorem dMO_part_12 : decode cMO_part 12 = .ok (.aload_n 0, 1) := by decide +kernel
theorem dMO_part_13 : decode cMO_part 13 = .ok (.getfield 39, 3) := by decide +kernel
theorem dMO_part_16 : decode cMO_part 16 = .ok (.bipush 12, 2) := by decide +kernel
theorem dMO_part_18 : decode cMO_part 18 = .ok (.iload_n 1, 1) := by decide +kernel
theorem dMO_part_19 : decode cMO_part 19 = .ok (.imul, 1) := by decide +kernel
theorem dMO_part_20 : decode cMO_part 20 = .ok (.iload 6, 2) := by decide +kernel
theorem dMO_part_22 : decode cMO_part 22 = .ok (.iadd, 1) := by decide +kernel
theorem dMO_part_23 : decode cMO_part 23 = .ok (.iaload, 1) := by decide +kernel
theorem dMO_part_24 : decode cMO_part 24 = .ok (.iload_n 3, 1) := by decide +kernel
theorem dMO_part_25 : decode cMO_part 25 = .ok (.if_icmp .ne 21, 3) := by decide +kernel
theorem dMO_part_28 : decode cMO_part 28 = .ok (.lload 4, 2) := by decide +kernel
theorem dMO_part_30 : decode cMO_part 30 = .ok (.aload_n 0, 1) := by decide +kernel
theorem dMO_part_31 : decode cMO_part 31 = .ok (.getfield 42, 3) := by decide +kernel
theorem dMO_part_34 : decode cMO_part 34 = .ok (.bipush 12, 2) := by decide +kernel
theorem dMO_part_36 : decode cMO_part 36 = .ok (.iload_n 1, 1) := by decide +kernel
theorem dMO_part_37 : decode cMO_part 37 = .ok (.imul, 1) := by decide +kernel
theorem dMO_part_38 : decode cMO_part 38 = .ok (.iload 6, 2) := by decide +kernel
theorem dMO_part_40 : decode cMO_part 40 = .ok (.iadd, 1) := by decide +kernel
theorem dMO_part_41 : decode cMO_part 41 = .ok (.laload, 1) := by decide +kernel
theorem dMO_part_42 : decode cMO_part 42 = .ok (.ladd, 1) := by decide +kernel
theorem dMO_part_43 : decode cMO_part 43 = .ok (.goto 5, 3) := by decide +kernel
theorem dMO_part_46 : decode cMO_part 46 = .ok (.lload 4, 2) := by decide +kernel
theorem dMO_part_48 : decode cMO_part 48 = .ok (.lstore 4, 2) := by decide +kernel
theorem dMO_part_50 : decode cMO_part 50 = .ok (.iinc 6 1, 3) := by decide +kernel
theorem dMO_part_53 : decode cMO_part 53 = .ok (.goto (-47), 3) := by decide +kernel
theorem dMO_part_56 : decode cMO_part 56 = .ok (.lload 4, 2) := by decide +kernel
theorem dMO_part_58 : decode cMO_part 58 = .ok (.lreturn, 1) := by decide +kernel
theorem dMO_balanceOf_0 : decode cMO_balanceOf 0 = .ok (.lconst 0, 1) := by decide +kernel
theorem dMO_balanceOf_1 : decode cMO_balanceOf 1 = .ok (.lstore 4, 2) := by decide +kernel
theorem dMO_balanceOf_3 : decode cMO_balanceOf 3 = .ok (.iconst 0, 1) := by decide +kernel
theorem dMO_balanceOf_4 : decode cMO_balanceOf 4 = .ok (.istore 6, 2) := by decide +kernel
theorem dMO_balanceOf_6 : decode cMO_balanceOf 6 = .ok (.iload 6, 2) := by decide +kernel
theorem dMO_balanceOf_8 : decode cMO_balanceOf 8 = .ok (.aload_n 0, 1) := by decide +kernel
theorem dMO_balanceOf_9 : decode cMO_balanceOf 9 = .ok (.getfield 96, 3) := by decide +kernel
theorem dMO_balanceOf_12 : decode cMO_balanceOf 12 = .ok (.if_icmp .ge 54, 3) := by decide +kernel
theorem dMO_balanceOf_15 : decode cMO_balanceOf 15 = .ok (.aload_n 0, 1) := by decide +kernel
theorem dMO_balanceOf_16 : decode cMO_balanceOf 16 = .ok (.getfield 45, 3) := by decide +kernel
theorem dMO_balanceOf_19 : decode cMO_balanceOf 19 = .ok (.iload 6, 2) := by decide +kernel
theorem dMO_balanceOf_21 : decode cMO_balanceOf 21 = .ok (.iaload, 1) := by decide +kernel
theorem dMO_balanceOf_22 : decode cMO_balanceOf 22 = .ok (.istore 7, 2) := by decide +kernel
theorem dMO_balanceOf_24 : decode cMO_balanceOf 24 = .ok (.aload_n 0, 1) := by decide +kernel
theorem dMO_balanceOf_25 : decode cMO_balanceOf 25 = .ok (.getfield 23, 3) := by decide +kernel
theorem dMO_balanceOf_28 : decode cMO_balanceOf 28 = .ok (.iload 7, 2) := by decide +kernel
theorem dMO_balanceOf_30 : decode cMO_balanceOf 30 = .ok (.laload, 1) := by decide +kernel
theorem dMO_balanceOf_31 : decode cMO_balanceOf 31 = .ok (.lload_n 2, 1) := by decide +kernel
theorem dMO_balanceOf_32 : decode cMO_balanceOf 32 = .ok (.lcmp, 1) := by decide +kernel
theorem dMO_balanceOf_33 : decode cMO_balanceOf 33 = .ok (.ifCond .gt 23, 3) := by decide +kernel
theorem dMO_balanceOf_36 : decode cMO_balanceOf 36 = .ok (.lload 4, 2) := by decide +kernel
theorem dMO_balanceOf_38 : decode cMO_balanceOf 38 = .ok (.aload_n 0, 1) := by decide +kernel
theorem dMO_balanceOf_39 : decode cMO_balanceOf 39 = .ok (.iload 7, 2) := by decide +kernel
theorem dMO_balanceOf_41 : decode cMO_balanceOf 41 = .ok (.aload_n 0, 1) := by decide +kernel
theorem dMO_balanceOf_42 : decode cMO_balanceOf 42 = .ok (.getfield 36, 3) := by decide +kernel
theorem dMO_balanceOf_45 : decode cMO_balanceOf 45 = .ok (.iload 7, 2) := by decide +kernel
theorem dMO_balanceOf_47 : decode cMO_balanceOf 47 = .ok (.iaload, 1) := by decide +kernel
theorem dMO_balanceOf_48 : decode cMO_balanceOf 48 = .ok (.iload_n 1, 1) := by decide +kernel
theorem dMO_balanceOf_49 : decode cMO_balanceOf 49 = .ok (.invokevirtual 99, 3) := by decide +kernel
theorem dMO_balanceOf_52 : decode cMO_balanceOf 52 = .ok (.ladd, 1) := by decide +kernel
theorem dMO_balanceOf_53 : decode cMO_balanceOf 53 = .ok (.goto 5, 3) := by decide +kernel
theorem dMO_balanceOf_56 : decode cMO_balanceOf 56 = .ok (.lload 4, 2) := by decide +kernel
theorem dMO_balanceOf_58 : decode cMO_balanceOf 58 = .ok (.lstore 4, 2) := by decide +kernel
theorem dMO_balanceOf_60 : decode cMO_balanceOf 60 = .ok (.iinc 6 1, 3) := by decide +kernel
theorem dMO_balanceOf_63 : decode cMO_balanceOf 63 = .ok (.goto (-57), 3) := by decide +kernel
theorem dMO_balanceOf_66 : decode cMO_balanceOf 66 = .ok (.lload 4, 2) := by decide +kernel
theorem dMO_balanceOf_68 : decode cMO_balanceOf 68 = .ok (.lreturn, 1) := by decide +kernel
theorem dMO_stops_0 : decode cMO_stops 0 = .ok (.lconst 0, 1) := by decide +kernel
theorem dMO_stops_1 : decode cMO_stops 1 = .ok (.lstore_n 2, 1) := by decide +kernel
theorem dMO_stops_2 : decode cMO_stops 2 = .ok (.iconst 0, 1) := by decide +kernel
theorem dMO_stops_3 : decode cMO_stops 3 = .ok (.istore 4, 2) := by decide +kernel
theorem dMO_stops_5 : decode cMO_stops 5 = .ok (.iload 4, 2) := by decide +kernel
theorem dMO_stops_7 : decode cMO_stops 7 = .ok (.aload_n 0, 1) := by decide +kernel
theorem dMO_stops_8 : decode cMO_stops 8 = .ok (.getfield 36, 3) := by decide +kernel
theorem dMO_stops_11 : decode cMO_stops 11 = .ok (.iload_n 1, 1) := by decide +kernel
theorem dMO_stops_12 : decode cMO_stops 12 = .ok (.iaload, 1) := by decide +kernel
theorem dMO_stops_13 : decode cMO_stops 13 = .ok (.if_icmp .ge 24, 3) := by decide +kernel
theorem dMO_stops_16 : decode cMO_stops 16 = .ok (.lload_n 2, 1) := by decide +kernel
theorem dMO_stops_17 : decode cMO_stops 17 = .ok (.aload_n 0, 1) := by decide +kernel
theorem dMO_stops_18 : decode cMO_stops 18 = .ok (.getfield 42, 3) := by decide +kernel
theorem dMO_stops_21 : decode cMO_stops 21 = .ok (.bipush 12, 2) := by decide +kernel
theorem dMO_stops_23 : decode cMO_stops 23 = .ok (.iload_n 1, 1) := by decide +kernel
theorem dMO_stops_24 : decode cMO_stops 24 = .ok (.imul, 1) := by decide +kernel
theorem dMO_stops_25 : decode cMO_stops 25 = .ok (.iload 4, 2) := by decide +kernel
theorem dMO_stops_27 : decode cMO_stops 27 = .ok (.iadd, 1) := by decide +kernel
theorem dMO_stops_28 : decode cMO_stops 28 = .ok (.laload, 1) := by decide +kernel
theorem dMO_stops_29 : decode cMO_stops 29 = .ok (.ladd, 1) := by decide +kernel
theorem dMO_stops_30 : decode cMO_stops 30 = .ok (.lstore_n 2, 1) := by decide +kernel
theorem dMO_stops_31 : decode cMO_stops 31 = .ok (.iinc 4 1, 3) := by decide +kernel
theorem dMO_stops_34 : decode cMO_stops 34 = .ok (.goto (-29), 3) := by decide +kernel
theorem dMO_stops_37 : decode cMO_stops 37 = .ok (.aload_n 0, 1) := by decide +kernel
theorem dMO_stops_38 : decode cMO_stops 38 = .ok (.getfield 36, 3) := by decide +kernel
theorem dMO_stops_41 : decode cMO_stops 41 = .ok (.iload_n 1, 1) := by decide +kernel
theorem dMO_stops_42 : decode cMO_stops 42 = .ok (.iaload, 1) := by decide +kernel
theorem dMO_stops_43 : decode cMO_stops 43 = .ok (.ifCond .eq 9, 3) := by decide +kernel
theorem dMO_stops_46 : decode cMO_stops 46 = .ok (.lload_n 2, 1) := by decide +kernel
theorem dMO_stops_47 : decode cMO_stops 47 = .ok (.lconst 0, 1) := by decide +kernel
theorem dMO_stops_48 : decode cMO_stops 48 = .ok (.lcmp, 1) := by decide +kernel
theorem dMO_stops_49 : decode cMO_stops 49 = .ok (.ifCond .eq 5, 3) := by decide +kernel
theorem dMO_stops_52 : decode cMO_stops 52 = .ok (.iconst (-1), 1) := by decide +kernel
theorem dMO_stops_53 : decode cMO_stops 53 = .ok (.ireturn, 1) := by decide +kernel
theorem dMO_stops_54 : decode cMO_stops 54 = .ok (.iconst 0, 1) := by decide +kernel
theorem dMO_stops_55 : decode cMO_stops 55 = .ok (.istore 4, 2) := by decide +kernel
theorem dMO_stops_57 : decode cMO_stops 57 = .ok (.iconst 1, 1) := by decide +kernel
theorem dMO_stops_58 : decode cMO_stops 58 = .ok (.istore 5, 2) := by decide +kernel
theorem dMO_stops_60 : decode cMO_stops 60 = .ok (.iload 4, 2) := by decide +kernel
theorem dMO_stops_62 : decode cMO_stops 62 = .ok (.aload_n 0, 1) := by decide +kernel
theorem dMO_stops_63 : decode cMO_stops 63 = .ok (.getfield 36, 3) := by decide +kernel
theorem dMO_stops_66 : decode cMO_stops 66 = .ok (.iload_n 1, 1) := by decide +kernel
theorem dMO_stops_67 : decode cMO_stops 67 = .ok (.iaload, 1) := by decide +kernel
theorem dMO_stops_68 : decode cMO_stops 68 = .ok (.if_icmp .ge 130, 3) := by decide +kernel
theorem dMO_stops_71 : decode cMO_stops 71 = .ok (.iload 5, 2) := by decide +kernel
theorem dMO_stops_73 : decode cMO_stops 73 = .ok (.ifCond .eq 125, 3) := by decide +kernel
theorem dMO_stops_76 : decode cMO_stops 76 = .ok (.aload_n 0, 1) := by decide +kernel
theorem dMO_stops_77 : decode cMO_stops 77 = .ok (.getfield 39, 3) := by decide +kernel
theorem dMO_stops_80 : decode cMO_stops 80 = .ok (.bipush 12, 2) := by decide +kernel
theorem dMO_stops_82 : decode cMO_stops 82 = .ok (.iload_n 1, 1) := by decide +kernel
theorem dMO_stops_83 : decode cMO_stops 83 = .ok (.imul, 1) := by decide +kernel
theorem dMO_stops_84 : decode cMO_stops 84 = .ok (.iload 4, 2) := by decide +kernel
theorem dMO_stops_86 : decode cMO_stops 86 = .ok (.iadd, 1) := by decide +kernel
theorem dMO_stops_87 : decode cMO_stops 87 = .ok (.iaload, 1) := by decide +kernel
theorem dMO_stops_88 : decode cMO_stops 88 = .ok (.istore 6, 2) := by decide +kernel
theorem dMO_stops_90 : decode cMO_stops 90 = .ok (.aload_n 0, 1) := by decide +kernel
theorem dMO_stops_91 : decode cMO_stops 91 = .ok (.getfield 30, 3) := by decide +kernel
theorem dMO_stops_94 : decode cMO_stops 94 = .ok (.iload_n 1, 1) := by decide +kernel
theorem dMO_stops_95 : decode cMO_stops 95 = .ok (.baload, 1) := by decide +kernel
theorem dMO_stops_96 : decode cMO_stops 96 = .ok (.ifCond .ne 35, 3) := by decide +kernel
theorem dMO_stops_99 : decode cMO_stops 99 = .ok (.aload_n 0, 1) := by decide +kernel
theorem dMO_stops_100 : decode cMO_stops 100 = .ok (.getfield 13, 3) := by decide +kernel
theorem dMO_stops_103 : decode cMO_stops 103 = .ok (.iload 6, 2) := by decide +kernel
theorem dMO_stops_105 : decode cMO_stops 105 = .ok (.iaload, 1) := by decide +kernel
theorem dMO_stops_106 : decode cMO_stops 106 = .ok (.iconst 3, 1) := by decide +kernel
theorem dMO_stops_107 : decode cMO_stops 107 = .ok (.if_icmp .ne 24, 3) := by decide +kernel
theorem dMO_stops_110 : decode cMO_stops 110 = .ok (.aload_n 0, 1) := by decide +kernel
theorem dMO_stops_111 : decode cMO_stops 111 = .ok (.getfield 42, 3) := by decide +kernel
theorem dMO_stops_114 : decode cMO_stops 114 = .ok (.bipush 12, 2) := by decide +kernel
theorem dMO_stops_116 : decode cMO_stops 116 = .ok (.iload_n 1, 1) := by decide +kernel
theorem dMO_stops_117 : decode cMO_stops 117 = .ok (.imul, 1) := by decide +kernel
theorem dMO_stops_118 : decode cMO_stops 118 = .ok (.iload 4, 2) := by decide +kernel
theorem dMO_stops_120 : decode cMO_stops 120 = .ok (.iadd, 1) := by decide +kernel
theorem dMO_stops_121 : decode cMO_stops 121 = .ok (.laload, 1) := by decide +kernel
theorem dMO_stops_122 : decode cMO_stops 122 = .ok (.lconst 0, 1) := by decide +kernel
theorem dMO_stops_123 : decode cMO_stops 123 = .ok (.lcmp, 1) := by decide +kernel
theorem dMO_stops_124 : decode cMO_stops 124 = .ok (.ifCond .ge 7, 3) := by decide +kernel
theorem dMO_stops_127 : decode cMO_stops 127 = .ok (.iconst 1, 1) := by decide +kernel
theorem dMO_stops_128 : decode cMO_stops 128 = .ok (.goto 4, 3) := by decide +kernel
theorem dMO_stops_131 : decode cMO_stops 131 = .ok (.iconst 0, 1) := by decide +kernel
theorem dMO_stops_132 : decode cMO_stops 132 = .ok (.istore 7, 2) := by decide +kernel
theorem dMO_stops_134 : decode cMO_stops 134 = .ok (.iload 7, 2) := by decide +kernel
theorem dMO_stops_136 : decode cMO_stops 136 = .ok (.ifCond .eq 36, 3) := by decide +kernel
theorem dMO_stops_139 : decode cMO_stops 139 = .ok (.aload_n 0, 1) := by decide +kernel
theorem dMO_stops_140 : decode cMO_stops 140 = .ok (.iload 6, 2) := by decide +kernel
theorem dMO_stops_142 : decode cMO_stops 142 = .ok (.ldc2_w 103, 3) := by decide +kernel
theorem dMO_stops_145 : decode cMO_stops 145 = .ok (.invokevirtual 105, 3) := by decide +kernel
theorem dMO_stops_148 : decode cMO_stops 148 = .ok (.aload_n 0, 1) := by decide +kernel
theorem dMO_stops_149 : decode cMO_stops 149 = .ok (.iload_n 1, 1) := by decide +kernel
theorem dMO_stops_150 : decode cMO_stops 150 = .ok (.iload 4, 2) := by decide +kernel
theorem dMO_stops_152 : decode cMO_stops 152 = .ok (.iconst 1, 1) := by decide +kernel
theorem dMO_stops_153 : decode cMO_stops 153 = .ok (.iadd, 1) := by decide +kernel
theorem dMO_stops_154 : decode cMO_stops 154 = .ok (.iload 6, 2) := by decide +kernel
theorem dMO_stops_156 : decode cMO_stops 156 = .ok (.invokevirtual 99, 3) := by decide +kernel
theorem dMO_stops_159 : decode cMO_stops 159 = .ok (.ladd, 1) := by decide +kernel
theorem dMO_stops_160 : decode cMO_stops 160 = .ok (.aload_n 0, 1) := by decide +kernel
theorem dMO_stops_161 : decode cMO_stops 161 = .ok (.getfield 16, 3) := by decide +kernel
theorem dMO_stops_164 : decode cMO_stops 164 = .ok (.iload 6, 2) := by decide +kernel
theorem dMO_stops_166 : decode cMO_stops 166 = .ok (.laload, 1) := by decide +kernel
theorem dMO_stops_167 : decode cMO_stops 167 = .ok (.lneg, 1) := by decide +kernel
theorem dMO_stops_168 : decode cMO_stops 168 = .ok (.lcmp, 1) := by decide +kernel
theorem dMO_stops_169 : decode cMO_stops 169 = .ok (.ifCond .lt 7, 3) := by decide +kernel
theorem dMO_stops_172 : decode cMO_stops 172 = .ok (.iconst 1, 1) := by decide +kernel
theorem dMO_stops_173 : decode cMO_stops 173 = .ok (.goto 4, 3) := by decide +kernel
theorem dMO_stops_176 : decode cMO_stops 176 = .ok (.iconst 0, 1) := by decide +kernel
theorem dMO_stops_177 : decode cMO_stops 177 = .ok (.istore 5, 2) := by decide +kernel
theorem dMO_stops_179 : decode cMO_stops 179 = .ok (.iload 5, 2) := by decide +kernel
theorem dMO_stops_181 : decode cMO_stops 181 = .ok (.ifCond .eq 10, 3) := by decide +kernel
theorem dMO_stops_184 : decode cMO_stops 184 = .ok (.iload 4, 2) := by decide +kernel
theorem dMO_stops_186 : decode cMO_stops 186 = .ok (.iconst 1, 1) := by decide +kernel
theorem dMO_stops_187 : decode cMO_stops 187 = .ok (.iadd, 1) := by decide +kernel
theorem dMO_stops_188 : decode cMO_stops 188 = .ok (.goto 5, 3) := by decide +kernel
theorem dMO_stops_191 : decode cMO_stops 191 = .ok (.iload 4, 2) := by decide +kernel
theorem dMO_stops_193 : decode cMO_stops 193 = .ok (.istore 4, 2) := by decide +kernel
theorem dMO_stops_195 : decode cMO_stops 195 = .ok (.goto (-135), 3) := by decide +kernel
theorem dMO_stops_198 : decode cMO_stops 198 = .ok (.iload 4, 2) := by decide +kernel
theorem dMO_stops_200 : decode cMO_stops 200 = .ok (.ireturn, 1) := by decide +kernel
theorem dMO_go_0 : decode cMO_go 0 = .ok (.aload_n 0, 1) := by decide +kernel
theorem dMO_go_1 : decode cMO_go 1 = .ok (.iload_n 1, 1) := by decide +kernel
theorem dMO_go_2 : decode cMO_go 2 = .ok (.invokevirtual 109, 3) := by decide +kernel
theorem dMO_go_5 : decode cMO_go 5 = .ok (.istore_n 2, 1) := by decide +kernel
theorem dMO_go_6 : decode cMO_go 6 = .ok (.aload_n 0, 1) := by decide +kernel
theorem dMO_go_7 : decode cMO_go 7 = .ok (.getfield 20, 3) := by decide +kernel
theorem dMO_go_10 : decode cMO_go 10 = .ok (.iload_n 1, 1) := by decide +kernel
theorem dMO_go_11 : decode cMO_go 11 = .ok (.iconst 2, 1) := by decide +kernel
theorem dMO_go_12 : decode cMO_go 12 = .ok (.iastore, 1) := by decide +kernel
theorem dMO_go_13 : decode cMO_go 13 = .ok (.iload_n 2, 1) := by decide +kernel
theorem dMO_go_14 : decode cMO_go 14 = .ok (.ifCond .lt 26, 3) := by decide +kernel
theorem dMO_go_17 : decode cMO_go 17 = .ok (.iload_n 2, 1) := by decide +kernel
theorem dMO_go_18 : decode cMO_go 18 = .ok (.aload_n 0, 1) := by decide +kernel
theorem dMO_go_19 : decode cMO_go 19 = .ok (.getfield 36, 3) := by decide +kernel
theorem dMO_go_22 : decode cMO_go 22 = .ok (.iload_n 1, 1) := by decide +kernel
theorem dMO_go_23 : decode cMO_go 23 = .ok (.iaload, 1) := by decide +kernel
theorem dMO_go_24 : decode cMO_go 24 = .ok (.if_icmp .ge 18, 3) := by decide +kernel
theorem dMO_go_27 : decode cMO_go 27 = .ok (.iload_n 2, 1) := by decide +kernel
theorem dMO_go_28 : decode cMO_go 28 = .ok (.ifCond .eq 12, 3) := by decide +kernel
theorem dMO_go_31 : decode cMO_go 31 = .ok (.aload_n 0, 1) := by decide +kernel
theorem dMO_go_32 : decode cMO_go 32 = .ok (.getfield 26, 3) := by decide +kernel
theorem dMO_go_35 : decode cMO_go 35 = .ok (.iload_n 1, 1) := by decide +kernel
theorem dMO_go_36 : decode cMO_go 36 = .ok (.baload, 1) := by decide +kernel
theorem dMO_go_37 : decode cMO_go 37 = .ok (.ifCond .ne 5, 3) := by decide +kernel
theorem dMO_go_40 : decode cMO_go 40 = .ok (.iconst (-1), 1) := by decide +kernel
theorem dMO_go_41 : decode cMO_go 41 = .ok (.ireturn, 1) := by decide +kernel
theorem dMO_go_42 : decode cMO_go 42 = .ok (.aload_n 0, 1) := by decide +kernel
theorem dMO_go_43 : decode cMO_go 43 = .ok (.getfield 26, 3) := by decide +kernel
theorem dMO_go_46 : decode cMO_go 46 = .ok (.iload_n 1, 1) := by decide +kernel
theorem dMO_go_47 : decode cMO_go 47 = .ok (.baload, 1) := by decide +kernel
theorem dMO_go_48 : decode cMO_go 48 = .ok (.ifCond .eq 5, 3) := by decide +kernel
theorem dMO_go_51 : decode cMO_go 51 = .ok (.iconst 0, 1) := by decide +kernel
theorem dMO_go_52 : decode cMO_go 52 = .ok (.ireturn, 1) := by decide +kernel
theorem dMO_go_53 : decode cMO_go 53 = .ok (.aload_n 0, 1) := by decide +kernel
theorem dMO_go_54 : decode cMO_go 54 = .ok (.getfield 20, 3) := by decide +kernel
theorem dMO_go_57 : decode cMO_go 57 = .ok (.iload_n 1, 1) := by decide +kernel
theorem dMO_go_58 : decode cMO_go 58 = .ok (.iconst 1, 1) := by decide +kernel
theorem dMO_go_59 : decode cMO_go 59 = .ok (.iastore, 1) := by decide +kernel
theorem dMO_go_60 : decode cMO_go 60 = .ok (.aload_n 0, 1) := by decide +kernel
theorem dMO_go_61 : decode cMO_go 61 = .ok (.getfield 45, 3) := by decide +kernel
theorem dMO_go_64 : decode cMO_go 64 = .ok (.aload_n 0, 1) := by decide +kernel
theorem dMO_go_65 : decode cMO_go 65 = .ok (.getfield 96, 3) := by decide +kernel
theorem dMO_go_68 : decode cMO_go 68 = .ok (.iload_n 1, 1) := by decide +kernel
theorem dMO_go_69 : decode cMO_go 69 = .ok (.iastore, 1) := by decide +kernel
theorem dMO_go_70 : decode cMO_go 70 = .ok (.aload_n 0, 1) := by decide +kernel
theorem dMO_go_71 : decode cMO_go 71 = .ok (.dup, 1) := by decide +kernel
theorem dMO_go_72 : decode cMO_go 72 = .ok (.getfield 96, 3) := by decide +kernel
theorem dMO_go_75 : decode cMO_go 75 = .ok (.iconst 1, 1) := by decide +kernel
theorem dMO_go_76 : decode cMO_go 76 = .ok (.iadd, 1) := by decide +kernel
theorem dMO_go_77 : decode cMO_go 77 = .ok (.putfield 96, 3) := by decide +kernel
theorem dMO_go_80 : decode cMO_go 80 = .ok (.iconst 1, 1) := by decide +kernel
theorem dMO_go_81 : decode cMO_go 81 = .ok (.ireturn, 1) := by decide +kernel
theorem dMO_post_0 : decode cMO_post 0 = .ok (.aload_n 0, 1) := by decide +kernel
theorem dMO_post_1 : decode cMO_post 1 = .ok (.iconst 0, 1) := by decide +kernel
theorem dMO_post_2 : decode cMO_post 2 = .ok (.putfield 54, 3) := by decide +kernel
theorem dMO_post_5 : decode cMO_post 5 = .ok (.aload_n 0, 1) := by decide +kernel
theorem dMO_post_6 : decode cMO_post 6 = .ok (.iload_n 1, 1) := by decide +kernel
theorem dMO_post_7 : decode cMO_post 7 = .ok (.invokevirtual 81, 3) := by decide +kernel
theorem dMO_post_10 : decode cMO_post 10 = .ok (.ifCond .ne 6, 3) := by decide +kernel
theorem dMO_post_13 : decode cMO_post 13 = .ok (.ldc 113, 2) := by decide +kernel
theorem dMO_post_15 : decode cMO_post 15 = .ok (.ireturn, 1) := by decide +kernel
theorem dMO_post_16 : decode cMO_post 16 = .ok (.aload_n 0, 1) := by decide +kernel
theorem dMO_post_17 : decode cMO_post 17 = .ok (.getfield 20, 3) := by decide +kernel
theorem dMO_post_20 : decode cMO_post 20 = .ok (.iload_n 1, 1) := by decide +kernel
theorem dMO_post_21 : decode cMO_post 21 = .ok (.iaload, 1) := by decide +kernel
theorem dMO_post_22 : decode cMO_post 22 = .ok (.ifCond .ne 17, 3) := by decide +kernel
theorem dMO_post_25 : decode cMO_post 25 = .ok (.aload_n 0, 1) := by decide +kernel
theorem dMO_post_26 : decode cMO_post 26 = .ok (.getfield 23, 3) := by decide +kernel
theorem dMO_post_29 : decode cMO_post 29 = .ok (.iload_n 1, 1) := by decide +kernel
theorem dMO_post_30 : decode cMO_post 30 = .ok (.laload, 1) := by decide +kernel
theorem dMO_post_31 : decode cMO_post 31 = .ok (.aload_n 0, 1) := by decide +kernel
theorem dMO_post_32 : decode cMO_post 32 = .ok (.getfield 50, 3) := by decide +kernel
theorem dMO_post_35 : decode cMO_post 35 = .ok (.lcmp, 1) := by decide +kernel
theorem dMO_post_36 : decode cMO_post 36 = .ok (.ifCond .gt 6, 3) := by decide +kernel
theorem dMO_post_39 : decode cMO_post 39 = .ok (.ldc 76, 2) := by decide +kernel
theorem dMO_post_41 : decode cMO_post 41 = .ok (.ireturn, 1) := by decide +kernel
theorem dMO_post_42 : decode cMO_post 42 = .ok (.aload_n 0, 1) := by decide +kernel
theorem dMO_post_43 : decode cMO_post 43 = .ok (.iload_n 1, 1) := by decide +kernel
theorem dMO_post_44 : decode cMO_post 44 = .ok (.invokevirtual 114, 3) := by decide +kernel
theorem dMO_post_47 : decode cMO_post 47 = .ok (.istore_n 2, 1) := by decide +kernel
theorem dMO_post_48 : decode cMO_post 48 = .ok (.aload_n 0, 1) := by decide +kernel
theorem dMO_post_49 : decode cMO_post 49 = .ok (.iload_n 2, 1) := by decide +kernel
theorem dMO_post_50 : decode cMO_post 50 = .ok (.ifCond .ge 7, 3) := by decide +kernel
theorem dMO_post_53 : decode cMO_post 53 = .ok (.iconst 1, 1) := by decide +kernel
theorem dMO_post_54 : decode cMO_post 54 = .ok (.goto 4, 3) := by decide +kernel
theorem dMO_post_57 : decode cMO_post 57 = .ok (.iconst 0, 1) := by decide +kernel
theorem dMO_post_58 : decode cMO_post 58 = .ok (.putfield 54, 3) := by decide +kernel
theorem dMO_post_61 : decode cMO_post 61 = .ok (.iload_n 2, 1) := by decide +kernel
theorem dMO_post_62 : decode cMO_post 62 = .ok (.ifCond .ge 7, 3) := by decide +kernel
theorem dMO_post_65 : decode cMO_post 65 = .ok (.iconst 0, 1) := by decide +kernel
theorem dMO_post_66 : decode cMO_post 66 = .ok (.goto 4, 3) := by decide +kernel
theorem dMO_post_69 : decode cMO_post 69 = .ok (.iload_n 2, 1) := by decide +kernel
theorem dMO_post_70 : decode cMO_post 70 = .ok (.ireturn, 1) := by decide +kernel
theorem dMO_balance_0 : decode cMO_balance 0 = .ok (.aload_n 0, 1) := by decide +kernel
theorem dMO_balance_1 : decode cMO_balance 1 = .ok (.iconst 0, 1) := by decide +kernel
theorem dMO_balance_2 : decode cMO_balance 2 = .ok (.putfield 54, 3) := by decide +kernel
theorem dMO_balance_5 : decode cMO_balance 5 = .ok (.aload_n 0, 1) := by decide +kernel
theorem dMO_balance_6 : decode cMO_balance 6 = .ok (.iload_n 1, 1) := by decide +kernel
theorem dMO_balance_7 : decode cMO_balance 7 = .ok (.invokevirtual 85, 3) := by decide +kernel
theorem dMO_balance_10 : decode cMO_balance 10 = .ok (.ifCond .eq 12, 3) := by decide +kernel
theorem dMO_balance_13 : decode cMO_balance 13 = .ok (.aload_n 0, 1) := by decide +kernel
theorem dMO_balance_14 : decode cMO_balance 14 = .ok (.iload_n 1, 1) := by decide +kernel
theorem dMO_balance_15 : decode cMO_balance 15 = .ok (.lload_n 2, 1) := by decide +kernel
theorem dMO_balance_16 : decode cMO_balance 16 = .ok (.invokevirtual 105, 3) := by decide +kernel
theorem dMO_balance_19 : decode cMO_balance 19 = .ok (.goto 6, 3) := by decide +kernel
theorem dMO_balance_22 : decode cMO_balance 22 = .ok (.ldc2_w 117, 3) := by decide +kernel
theorem dMO_balance_25 : decode cMO_balance 25 = .ok (.lreturn, 1) := by decide +kernel
theorem dMO_close_0 : decode cMO_close 0 = .ok (.aload_n 0, 1) := by decide +kernel
theorem dMO_close_1 : decode cMO_close 1 = .ok (.iconst 0, 1) := by decide +kernel
theorem dMO_close_2 : decode cMO_close 2 = .ok (.putfield 54, 3) := by decide +kernel
theorem dMO_close_5 : decode cMO_close 5 = .ok (.lload_n 1, 1) := by decide +kernel
theorem dMO_close_6 : decode cMO_close 6 = .ok (.lconst 0, 1) := by decide +kernel
theorem dMO_close_7 : decode cMO_close 7 = .ok (.ldc2_w 74, 3) := by decide +kernel
theorem dMO_close_10 : decode cMO_close 10 = .ok (.invokestatic 61, 3) := by decide +kernel
theorem dMO_close_13 : decode cMO_close 13 = .ok (.ifCond .ne 6, 3) := by decide +kernel
theorem dMO_close_16 : decode cMO_close 16 = .ok (.ldc 72, 2) := by decide +kernel
theorem dMO_close_18 : decode cMO_close 18 = .ok (.ireturn, 1) := by decide +kernel
theorem dMO_close_19 : decode cMO_close 19 = .ok (.lload_n 1, 1) := by decide +kernel
theorem dMO_close_20 : decode cMO_close 20 = .ok (.aload_n 0, 1) := by decide +kernel
theorem dMO_close_21 : decode cMO_close 21 = .ok (.getfield 50, 3) := by decide +kernel
theorem dMO_close_24 : decode cMO_close 24 = .ok (.lcmp, 1) := by decide +kernel
theorem dMO_close_25 : decode cMO_close 25 = .ok (.ifCond .le 13, 3) := by decide +kernel
theorem dMO_close_28 : decode cMO_close 28 = .ok (.lload_n 1, 1) := by decide +kernel
theorem dMO_close_29 : decode cMO_close 29 = .ok (.aload_n 0, 1) := by decide +kernel
theorem dMO_close_30 : decode cMO_close 30 = .ok (.getfield 50, 3) := by decide +kernel
theorem dMO_close_33 : decode cMO_close 33 = .ok (.lsub, 1) := by decide +kernel
theorem dMO_close_34 : decode cMO_close 34 = .ok (.l2i, 1) := by decide +kernel
theorem dMO_close_35 : decode cMO_close 35 = .ok (.goto 4, 3) := by decide +kernel
theorem dMO_close_38 : decode cMO_close 38 = .ok (.iconst 0, 1) := by decide +kernel
theorem dMO_close_39 : decode cMO_close 39 = .ok (.istore_n 3, 1) := by decide +kernel
theorem dMO_close_40 : decode cMO_close 40 = .ok (.aload_n 0, 1) := by decide +kernel
theorem dMO_close_41 : decode cMO_close 41 = .ok (.aload_n 0, 1) := by decide +kernel
theorem dMO_close_42 : decode cMO_close 42 = .ok (.getfield 50, 3) := by decide +kernel
theorem dMO_close_45 : decode cMO_close 45 = .ok (.iload_n 3, 1) := by decide +kernel
theorem dMO_close_46 : decode cMO_close 46 = .ok (.i2l, 1) := by decide +kernel
theorem dMO_close_47 : decode cMO_close 47 = .ok (.ladd, 1) := by decide +kernel
theorem dMO_close_48 : decode cMO_close 48 = .ok (.putfield 50, 3) := by decide +kernel
theorem dMO_close_51 : decode cMO_close 51 = .ok (.iload_n 3, 1) := by decide +kernel
theorem dMO_close_52 : decode cMO_close 52 = .ok (.ireturn, 1) := by decide +kernel
theorem dMO_batchOf_0 : decode cMO_batchOf 0 = .ok (.iload_n 1, 1) := by decide +kernel
theorem dMO_batchOf_1 : decode cMO_batchOf 1 = .ok (.istore_n 2, 1) := by decide +kernel
theorem dMO_batchOf_2 : decode cMO_batchOf 2 = .ok (.iconst 0, 1) := by decide +kernel
theorem dMO_batchOf_3 : decode cMO_batchOf 3 = .ok (.istore_n 3, 1) := by decide +kernel
theorem dMO_batchOf_4 : decode cMO_batchOf 4 = .ok (.iload_n 3, 1) := by decide +kernel
theorem dMO_batchOf_5 : decode cMO_batchOf 5 = .ok (.aload_n 0, 1) := by decide +kernel
theorem dMO_batchOf_6 : decode cMO_batchOf 6 = .ok (.getfield 96, 3) := by decide +kernel
theorem dMO_batchOf_9 : decode cMO_batchOf 9 = .ok (.if_icmp .ge 38, 3) := by decide +kernel
theorem dMO_batchOf_12 : decode cMO_batchOf 12 = .ok (.iload_n 1, 1) := by decide +kernel
theorem dMO_batchOf_13 : decode cMO_batchOf 13 = .ok (.ifCond .le 34, 3) := by decide +kernel
theorem dMO_batchOf_16 : decode cMO_batchOf 16 = .ok (.iload_n 2, 1) := by decide +kernel
theorem dMO_batchOf_17 : decode cMO_batchOf 17 = .ok (.aload_n 0, 1) := by decide +kernel
theorem dMO_batchOf_18 : decode cMO_batchOf 18 = .ok (.getfield 36, 3) := by decide +kernel
theorem dMO_batchOf_21 : decode cMO_batchOf 21 = .ok (.aload_n 0, 1) := by decide +kernel
theorem dMO_batchOf_22 : decode cMO_batchOf 22 = .ok (.getfield 45, 3) := by decide +kernel
theorem dMO_batchOf_25 : decode cMO_batchOf 25 = .ok (.iload_n 3, 1) := by decide +kernel
theorem dMO_batchOf_26 : decode cMO_batchOf 26 = .ok (.iaload, 1) := by decide +kernel
theorem dMO_batchOf_27 : decode cMO_batchOf 27 = .ok (.iaload, 1) := by decide +kernel
theorem dMO_batchOf_28 : decode cMO_batchOf 28 = .ok (.isub, 1) := by decide +kernel
theorem dMO_batchOf_29 : decode cMO_batchOf 29 = .ok (.istore_n 2, 1) := by decide +kernel
theorem dMO_batchOf_30 : decode cMO_batchOf 30 = .ok (.iload_n 2, 1) := by decide +kernel
theorem dMO_batchOf_31 : decode cMO_batchOf 31 = .ok (.ifCond .gt 10, 3) := by decide +kernel
theorem dMO_batchOf_34 : decode cMO_batchOf 34 = .ok (.aload_n 0, 1) := by decide +kernel
theorem dMO_batchOf_35 : decode cMO_batchOf 35 = .ok (.getfield 45, 3) := by decide +kernel
theorem dMO_batchOf_38 : decode cMO_batchOf 38 = .ok (.iload_n 3, 1) := by decide +kernel
theorem dMO_batchOf_39 : decode cMO_batchOf 39 = .ok (.iaload, 1) := by decide +kernel
theorem dMO_batchOf_40 : decode cMO_batchOf 40 = .ok (.ireturn, 1) := by decide +kernel
theorem dMO_batchOf_41 : decode cMO_batchOf 41 = .ok (.iinc 3 1, 3) := by decide +kernel
theorem dMO_batchOf_44 : decode cMO_batchOf 44 = .ok (.goto (-40), 3) := by decide +kernel
theorem dMO_batchOf_47 : decode cMO_batchOf 47 = .ok (.iconst 0, 1) := by decide +kernel
theorem dMO_batchOf_48 : decode cMO_batchOf 48 = .ok (.ireturn, 1) := by decide +kernel
theorem dMO_reverse_0 : decode cMO_reverse 0 = .ok (.aload_n 0, 1) := by decide +kernel
theorem dMO_reverse_1 : decode cMO_reverse 1 = .ok (.iconst 0, 1) := by decide +kernel
theorem dMO_reverse_2 : decode cMO_reverse 2 = .ok (.putfield 54, 3) := by decide +kernel
theorem dMO_reverse_5 : decode cMO_reverse 5 = .ok (.aload_n 0, 1) := by decide +kernel
theorem dMO_reverse_6 : decode cMO_reverse 6 = .ok (.iload_n 1, 1) := by decide +kernel
theorem dMO_reverse_7 : decode cMO_reverse 7 = .ok (.invokevirtual 119, 3) := by decide +kernel
theorem dMO_reverse_10 : decode cMO_reverse 10 = .ok (.istore_n 2, 1) := by decide +kernel
theorem dMO_reverse_11 : decode cMO_reverse 11 = .ok (.iload_n 2, 1) := by decide +kernel
theorem dMO_reverse_12 : decode cMO_reverse 12 = .ok (.ifCond .eq 12, 3) := by decide +kernel
theorem dMO_reverse_15 : decode cMO_reverse 15 = .ok (.aload_n 0, 1) := by decide +kernel
theorem dMO_reverse_16 : decode cMO_reverse 16 = .ok (.getfield 33, 3) := by decide +kernel
theorem dMO_reverse_19 : decode cMO_reverse 19 = .ok (.iload_n 2, 1) := by decide +kernel
theorem dMO_reverse_20 : decode cMO_reverse 20 = .ok (.baload, 1) := by decide +kernel
theorem dMO_reverse_21 : decode cMO_reverse 21 = .ok (.ifCond .eq 5, 3) := by decide +kernel
theorem dMO_reverse_24 : decode cMO_reverse 24 = .ok (.iconst 0, 1) := by decide +kernel
theorem dMO_reverse_25 : decode cMO_reverse 25 = .ok (.ireturn, 1) := by decide +kernel
theorem dMO_reverse_26 : decode cMO_reverse 26 = .ok (.aload_n 0, 1) := by decide +kernel
theorem dMO_reverse_27 : decode cMO_reverse 27 = .ok (.getfield 65, 3) := by decide +kernel
theorem dMO_reverse_30 : decode cMO_reverse 30 = .ok (.sipush 300, 3) := by decide +kernel
theorem dMO_reverse_33 : decode cMO_reverse 33 = .ok (.if_icmp .ne 6, 3) := by decide +kernel
theorem dMO_reverse_36 : decode cMO_reverse 36 = .ok (.ldc 73, 2) := by decide +kernel
theorem dMO_reverse_38 : decode cMO_reverse 38 = .ok (.ireturn, 1) := by decide +kernel
theorem dMO_reverse_39 : decode cMO_reverse 39 = .ok (.aload_n 0, 1) := by decide +kernel
theorem dMO_reverse_40 : decode cMO_reverse 40 = .ok (.getfield 33, 3) := by decide +kernel
theorem dMO_reverse_43 : decode cMO_reverse 43 = .ok (.iload_n 2, 1) := by decide +kernel
theorem dMO_reverse_44 : decode cMO_reverse 44 = .ok (.iconst 1, 1) := by decide +kernel
theorem dMO_reverse_45 : decode cMO_reverse 45 = .ok (.bastore, 1) := by decide +kernel
theorem dMO_reverse_46 : decode cMO_reverse 46 = .ok (.aload_n 0, 1) := by decide +kernel
theorem dMO_reverse_47 : decode cMO_reverse 47 = .ok (.aload_n 0, 1) := by decide +kernel
theorem dMO_reverse_48 : decode cMO_reverse 48 = .ok (.getfield 23, 3) := by decide +kernel
theorem dMO_reverse_51 : decode cMO_reverse 51 = .ok (.iload_n 2, 1) := by decide +kernel
theorem dMO_reverse_52 : decode cMO_reverse 52 = .ok (.laload, 1) := by decide +kernel
theorem dMO_reverse_53 : decode cMO_reverse 53 = .ok (.aload_n 0, 1) := by decide +kernel
theorem dMO_reverse_54 : decode cMO_reverse 54 = .ok (.getfield 50, 3) := by decide +kernel
theorem dMO_reverse_57 : decode cMO_reverse 57 = .ok (.lcmp, 1) := by decide +kernel
theorem dMO_reverse_58 : decode cMO_reverse 58 = .ok (.ifCond .le 12, 3) := by decide +kernel
theorem dMO_reverse_61 : decode cMO_reverse 61 = .ok (.aload_n 0, 1) := by decide +kernel
theorem dMO_reverse_62 : decode cMO_reverse 62 = .ok (.getfield 23, 3) := by decide +kernel
theorem dMO_reverse_65 : decode cMO_reverse 65 = .ok (.iload_n 2, 1) := by decide +kernel
theorem dMO_reverse_66 : decode cMO_reverse 66 = .ok (.laload, 1) := by decide +kernel
theorem dMO_reverse_67 : decode cMO_reverse 67 = .ok (.goto 9, 3) := by decide +kernel
theorem dMO_reverse_70 : decode cMO_reverse 70 = .ok (.aload_n 0, 1) := by decide +kernel
theorem dMO_reverse_71 : decode cMO_reverse 71 = .ok (.getfield 50, 3) := by decide +kernel
theorem dMO_reverse_74 : decode cMO_reverse 74 = .ok (.lconst 1, 1) := by decide +kernel
theorem dMO_reverse_75 : decode cMO_reverse 75 = .ok (.ladd, 1) := by decide +kernel
theorem dMO_reverse_76 : decode cMO_reverse 76 = .ok (.invokevirtual 77, 3) := by decide +kernel
theorem dMO_reverse_79 : decode cMO_reverse 79 = .ok (.istore_n 3, 1) := by decide +kernel
theorem dMO_reverse_80 : decode cMO_reverse 80 = .ok (.aload_n 0, 1) := by decide +kernel
theorem dMO_reverse_81 : decode cMO_reverse 81 = .ok (.getfield 33, 3) := by decide +kernel
theorem dMO_reverse_84 : decode cMO_reverse 84 = .ok (.iload_n 3, 1) := by decide +kernel
theorem dMO_reverse_85 : decode cMO_reverse 85 = .ok (.iconst 1, 1) := by decide +kernel
theorem dMO_reverse_86 : decode cMO_reverse 86 = .ok (.bastore, 1) := by decide +kernel
theorem dMO_reverse_87 : decode cMO_reverse 87 = .ok (.aload_n 0, 1) := by decide +kernel
theorem dMO_reverse_88 : decode cMO_reverse 88 = .ok (.getfield 30, 3) := by decide +kernel
theorem dMO_reverse_91 : decode cMO_reverse 91 = .ok (.iload_n 3, 1) := by decide +kernel
theorem dMO_reverse_92 : decode cMO_reverse 92 = .ok (.iconst 1, 1) := by decide +kernel
theorem dMO_reverse_93 : decode cMO_reverse 93 = .ok (.bastore, 1) := by decide +kernel
theorem dMO_reverse_94 : decode cMO_reverse 94 = .ok (.iconst 0, 1) := by decide +kernel
theorem dMO_reverse_95 : decode cMO_reverse 95 = .ok (.istore 4, 2) := by decide +kernel
theorem dMO_reverse_97 : decode cMO_reverse 97 = .ok (.iload 4, 2) := by decide +kernel
theorem dMO_reverse_99 : decode cMO_reverse 99 = .ok (.aload_n 0, 1) := by decide +kernel
theorem dMO_reverse_100 : decode cMO_reverse 100 = .ok (.getfield 36, 3) := by decide +kernel
theorem dMO_reverse_103 : decode cMO_reverse 103 = .ok (.iload_n 2, 1) := by decide +kernel
theorem dMO_reverse_104 : decode cMO_reverse 104 = .ok (.iaload, 1) := by decide +kernel
theorem dMO_reverse_105 : decode cMO_reverse 105 = .ok (.if_icmp .ge 39, 3) := by decide +kernel
theorem dMO_reverse_108 : decode cMO_reverse 108 = .ok (.aload_n 0, 1) := by decide +kernel
theorem dMO_reverse_109 : decode cMO_reverse 109 = .ok (.iload_n 3, 1) := by decide +kernel
theorem dMO_reverse_110 : decode cMO_reverse 110 = .ok (.aload_n 0, 1) := by decide +kernel
theorem dMO_reverse_111 : decode cMO_reverse 111 = .ok (.getfield 39, 3) := by decide +kernel
theorem dMO_reverse_114 : decode cMO_reverse 114 = .ok (.bipush 12, 2) := by decide +kernel
theorem dMO_reverse_116 : decode cMO_reverse 116 = .ok (.iload_n 2, 1) := by decide +kernel
theorem dMO_reverse_117 : decode cMO_reverse 117 = .ok (.imul, 1) := by decide +kernel
theorem dMO_reverse_118 : decode cMO_reverse 118 = .ok (.iload 4, 2) := by decide +kernel
theorem dMO_reverse_120 : decode cMO_reverse 120 = .ok (.iadd, 1) := by decide +kernel
theorem dMO_reverse_121 : decode cMO_reverse 121 = .ok (.iaload, 1) := by decide +kernel
theorem dMO_reverse_122 : decode cMO_reverse 122 = .ok (.aload_n 0, 1) := by decide +kernel
theorem dMO_reverse_123 : decode cMO_reverse 123 = .ok (.getfield 42, 3) := by decide +kernel
theorem dMO_reverse_126 : decode cMO_reverse 126 = .ok (.bipush 12, 2) := by decide +kernel
theorem dMO_reverse_128 : decode cMO_reverse 128 = .ok (.iload_n 2, 1) := by decide +kernel
theorem dMO_reverse_129 : decode cMO_reverse 129 = .ok (.imul, 1) := by decide +kernel
theorem dMO_reverse_130 : decode cMO_reverse 130 = .ok (.iload 4, 2) := by decide +kernel
theorem dMO_reverse_132 : decode cMO_reverse 132 = .ok (.iadd, 1) := by decide +kernel
theorem dMO_reverse_133 : decode cMO_reverse 133 = .ok (.laload, 1) := by decide +kernel
theorem dMO_reverse_134 : decode cMO_reverse 134 = .ok (.lneg, 1) := by decide +kernel
theorem dMO_reverse_135 : decode cMO_reverse 135 = .ok (.invokevirtual 92, 3) := by decide +kernel
theorem dMO_reverse_138 : decode cMO_reverse 138 = .ok (.iinc 4 1, 3) := by decide +kernel
theorem dMO_reverse_141 : decode cMO_reverse 141 = .ok (.goto (-44), 3) := by decide +kernel
theorem dMO_reverse_144 : decode cMO_reverse 144 = .ok (.aload_n 0, 1) := by decide +kernel
theorem dMO_reverse_145 : decode cMO_reverse 145 = .ok (.iload_n 3, 1) := by decide +kernel
theorem dMO_reverse_146 : decode cMO_reverse 146 = .ok (.invokevirtual 114, 3) := by decide +kernel
theorem dMO_reverse_149 : decode cMO_reverse 149 = .ok (.ireturn, 1) := by decide +kernel
theorem dMO_first_0 : decode cMO_first 0 = .ok (.iconst 1, 1) := by decide +kernel
theorem dMO_first_1 : decode cMO_first 1 = .ok (.istore_n 3, 1) := by decide +kernel
theorem dMO_first_2 : decode cMO_first 2 = .ok (.iload_n 3, 1) := by decide +kernel
theorem dMO_first_3 : decode cMO_first 3 = .ok (.aload_n 0, 1) := by decide +kernel
theorem dMO_first_4 : decode cMO_first 4 = .ok (.getfield 58, 3) := by decide +kernel
theorem dMO_first_7 : decode cMO_first 7 = .ok (.if_icmp .gt 29, 3) := by decide +kernel
theorem dMO_first_10 : decode cMO_first 10 = .ok (.aload_n 0, 1) := by decide +kernel
theorem dMO_first_11 : decode cMO_first 11 = .ok (.getfield 7, 3) := by decide +kernel
theorem dMO_first_14 : decode cMO_first 14 = .ok (.iload_n 3, 1) := by decide +kernel
theorem dMO_first_15 : decode cMO_first 15 = .ok (.iaload, 1) := by decide +kernel
theorem dMO_first_16 : decode cMO_first 16 = .ok (.iload_n 1, 1) := by decide +kernel
theorem dMO_first_17 : decode cMO_first 17 = .ok (.if_icmp .ne 13, 3) := by decide +kernel
theorem dMO_first_20 : decode cMO_first 20 = .ok (.aload_n 0, 1) := by decide +kernel
theorem dMO_first_21 : decode cMO_first 21 = .ok (.getfield 13, 3) := by decide +kernel
theorem dMO_first_24 : decode cMO_first 24 = .ok (.iload_n 3, 1) := by decide +kernel
theorem dMO_first_25 : decode cMO_first 25 = .ok (.iaload, 1) := by decide +kernel
theorem dMO_first_26 : decode cMO_first 26 = .ok (.iload_n 2, 1) := by decide +kernel
theorem dMO_first_27 : decode cMO_first 27 = .ok (.if_icmp .eq 9, 3) := by decide +kernel
theorem dMO_first_30 : decode cMO_first 30 = .ok (.iinc 3 1, 3) := by decide +kernel
theorem dMO_first_33 : decode cMO_first 33 = .ok (.goto (-31), 3) := by decide +kernel
theorem dMO_first_36 : decode cMO_first 36 = .ok (.iload_n 3, 1) := by decide +kernel
theorem dMO_first_37 : decode cMO_first 37 = .ok (.aload_n 0, 1) := by decide +kernel
theorem dMO_first_38 : decode cMO_first 38 = .ok (.getfield 58, 3) := by decide +kernel
theorem dMO_first_41 : decode cMO_first 41 = .ok (.if_icmp .gt 7, 3) := by decide +kernel
theorem dMO_first_44 : decode cMO_first 44 = .ok (.iload_n 3, 1) := by decide +kernel
theorem dMO_first_45 : decode cMO_first 45 = .ok (.goto 4, 3) := by decide +kernel
theorem dMO_first_48 : decode cMO_first 48 = .ok (.iconst 0, 1) := by decide +kernel
theorem dMO_first_49 : decode cMO_first 49 = .ok (.ireturn, 1) := by decide +kernel
theorem dMO_stock_0 : decode cMO_stock 0 = .ok (.aload_n 0, 1) := by decide +kernel
theorem dMO_stock_1 : decode cMO_stock 1 = .ok (.iconst 0, 1) := by decide +kernel
theorem dMO_stock_2 : decode cMO_stock 2 = .ok (.putfield 54, 3) := by decide +kernel
theorem dMO_stock_5 : decode cMO_stock 5 = .ok (.iload_n 1, 1) := by decide +kernel
theorem dMO_stock_6 : decode cMO_stock 6 = .ok (.i2l, 1) := by decide +kernel
theorem dMO_stock_7 : decode cMO_stock 7 = .ok (.lconst 0, 1) := by decide +kernel
theorem dMO_stock_8 : decode cMO_stock 8 = .ok (.ldc2_w 68, 3) := by decide +kernel
theorem dMO_stock_11 : decode cMO_stock 11 = .ok (.invokestatic 61, 3) := by decide +kernel
theorem dMO_stock_14 : decode cMO_stock 14 = .ok (.ifCond .eq 28, 3) := by decide +kernel
theorem dMO_stock_17 : decode cMO_stock 17 = .ok (.iload_n 2, 1) := by decide +kernel
theorem dMO_stock_18 : decode cMO_stock 18 = .ok (.i2l, 1) := by decide +kernel
theorem dMO_stock_19 : decode cMO_stock 19 = .ok (.lconst 0, 1) := by decide +kernel
theorem dMO_stock_20 : decode cMO_stock 20 = .ok (.ldc2_w 122, 3) := by decide +kernel
theorem dMO_stock_23 : decode cMO_stock 23 = .ok (.invokestatic 61, 3) := by decide +kernel
theorem dMO_stock_26 : decode cMO_stock 26 = .ok (.ifCond .eq 16, 3) := by decide +kernel
theorem dMO_stock_29 : decode cMO_stock 29 = .ok (.lload_n 3, 1) := by decide +kernel
theorem dMO_stock_30 : decode cMO_stock 30 = .ok (.ldc2_w 88, 3) := by decide +kernel
theorem dMO_stock_33 : decode cMO_stock 33 = .ok (.ldc2_w 90, 3) := by decide +kernel
theorem dMO_stock_36 : decode cMO_stock 36 = .ok (.invokestatic 61, 3) := by decide +kernel
theorem dMO_stock_39 : decode cMO_stock 39 = .ok (.ifCond .ne 6, 3) := by decide +kernel
theorem dMO_stock_42 : decode cMO_stock 42 = .ok (.ldc 72, 2) := by decide +kernel
theorem dMO_stock_44 : decode cMO_stock 44 = .ok (.ireturn, 1) := by decide +kernel
theorem dMO_stock_45 : decode cMO_stock 45 = .ok (.lconst 0, 1) := by decide +kernel
theorem dMO_stock_46 : decode cMO_stock 46 = .ok (.lstore 5, 2) := by decide +kernel
theorem dMO_stock_48 : decode cMO_stock 48 = .ok (.iconst 1, 1) := by decide +kernel
theorem dMO_stock_49 : decode cMO_stock 49 = .ok (.istore 7, 2) := by decide +kernel
theorem dMO_stock_51 : decode cMO_stock 51 = .ok (.iload 7, 2) := by decide +kernel
theorem dMO_stock_53 : decode cMO_stock 53 = .ok (.aload_n 0, 1) := by decide +kernel
theorem dMO_stock_54 : decode cMO_stock 54 = .ok (.getfield 58, 3) := by decide +kernel
theorem dMO_stock_57 : decode cMO_stock 57 = .ok (.if_icmp .gt 50, 3) := by decide +kernel
theorem dMO_stock_60 : decode cMO_stock 60 = .ok (.aload_n 0, 1) := by decide +kernel
theorem dMO_stock_61 : decode cMO_stock 61 = .ok (.getfield 7, 3) := by decide +kernel
theorem dMO_stock_64 : decode cMO_stock 64 = .ok (.iload 7, 2) := by decide +kernel
theorem dMO_stock_66 : decode cMO_stock 66 = .ok (.iaload, 1) := by decide +kernel
theorem dMO_stock_67 : decode cMO_stock 67 = .ok (.iload_n 1, 1) := by decide +kernel
theorem dMO_stock_68 : decode cMO_stock 68 = .ok (.if_icmp .ne 29, 3) := by decide +kernel
theorem dMO_stock_71 : decode cMO_stock 71 = .ok (.aload_n 0, 1) := by decide +kernel
theorem dMO_stock_72 : decode cMO_stock 72 = .ok (.getfield 13, 3) := by decide +kernel
theorem dMO_stock_75 : decode cMO_stock 75 = .ok (.iload 7, 2) := by decide +kernel
theorem dMO_stock_77 : decode cMO_stock 77 = .ok (.iaload, 1) := by decide +kernel
theorem dMO_stock_78 : decode cMO_stock 78 = .ok (.iload_n 2, 1) := by decide +kernel
theorem dMO_stock_79 : decode cMO_stock 79 = .ok (.if_icmp .ne 18, 3) := by decide +kernel
theorem dMO_stock_82 : decode cMO_stock 82 = .ok (.lload 5, 2) := by decide +kernel
theorem dMO_stock_84 : decode cMO_stock 84 = .ok (.aload_n 0, 1) := by decide +kernel
theorem dMO_stock_85 : decode cMO_stock 85 = .ok (.iload 7, 2) := by decide +kernel
theorem dMO_stock_87 : decode cMO_stock 87 = .ok (.ldc2_w 103, 3) := by decide +kernel
theorem dMO_stock_90 : decode cMO_stock 90 = .ok (.invokevirtual 105, 3) := by decide +kernel
theorem dMO_stock_93 : decode cMO_stock 93 = .ok (.ladd, 1) := by decide +kernel
theorem dMO_stock_94 : decode cMO_stock 94 = .ok (.goto 5, 3) := by decide +kernel
theorem dMO_stock_97 : decode cMO_stock 97 = .ok (.lload 5, 2) := by decide +kernel
theorem dMO_stock_99 : decode cMO_stock 99 = .ok (.lstore 5, 2) := by decide +kernel
theorem dMO_stock_101 : decode cMO_stock 101 = .ok (.iinc 7 1, 3) := by decide +kernel
theorem dMO_stock_104 : decode cMO_stock 104 = .ok (.goto (-53), 3) := by decide +kernel
theorem dMO_stock_107 : decode cMO_stock 107 = .ok (.lload_n 3, 1) := by decide +kernel
theorem dMO_stock_108 : decode cMO_stock 108 = .ok (.lload 5, 2) := by decide +kernel
theorem dMO_stock_110 : decode cMO_stock 110 = .ok (.lsub, 1) := by decide +kernel
theorem dMO_stock_111 : decode cMO_stock 111 = .ok (.lstore 7, 2) := by decide +kernel
theorem dMO_stock_113 : decode cMO_stock 113 = .ok (.lload 7, 2) := by decide +kernel
theorem dMO_stock_115 : decode cMO_stock 115 = .ok (.lconst 0, 1) := by decide +kernel
theorem dMO_stock_116 : decode cMO_stock 116 = .ok (.lcmp, 1) := by decide +kernel
theorem dMO_stock_117 : decode cMO_stock 117 = .ok (.ifCond .ne 5, 3) := by decide +kernel
theorem dMO_stock_120 : decode cMO_stock 120 = .ok (.iconst 0, 1) := by decide +kernel
theorem dMO_stock_121 : decode cMO_stock 121 = .ok (.ireturn, 1) := by decide +kernel
theorem dMO_stock_122 : decode cMO_stock 122 = .ok (.aload_n 0, 1) := by decide +kernel
theorem dMO_stock_123 : decode cMO_stock 123 = .ok (.iload_n 1, 1) := by decide +kernel
theorem dMO_stock_124 : decode cMO_stock 124 = .ok (.iload_n 2, 1) := by decide +kernel
theorem dMO_stock_125 : decode cMO_stock 125 = .ok (.invokevirtual 124, 3) := by decide +kernel
theorem dMO_stock_128 : decode cMO_stock 128 = .ok (.ifCond .eq 26, 3) := by decide +kernel
theorem dMO_stock_131 : decode cMO_stock 131 = .ok (.aload_n 0, 1) := by decide +kernel
theorem dMO_stock_132 : decode cMO_stock 132 = .ok (.iload_n 1, 1) := by decide +kernel
theorem dMO_stock_133 : decode cMO_stock 133 = .ok (.iconst 5, 1) := by decide +kernel
theorem dMO_stock_134 : decode cMO_stock 134 = .ok (.invokevirtual 124, 3) := by decide +kernel
theorem dMO_stock_137 : decode cMO_stock 137 = .ok (.ifCond .eq 17, 3) := by decide +kernel
theorem dMO_stock_140 : decode cMO_stock 140 = .ok (.lload 7, 2) := by decide +kernel
theorem dMO_stock_142 : decode cMO_stock 142 = .ok (.ldc2_w 128, 3) := by decide +kernel
theorem dMO_stock_145 : decode cMO_stock 145 = .ok (.ldc2_w 130, 3) := by decide +kernel
theorem dMO_stock_148 : decode cMO_stock 148 = .ok (.invokestatic 61, 3) := by decide +kernel
theorem dMO_stock_151 : decode cMO_stock 151 = .ok (.ifCond .ne 6, 3) := by decide +kernel
theorem dMO_stock_154 : decode cMO_stock 154 = .ok (.ldc 76, 2) := by decide +kernel
theorem dMO_stock_156 : decode cMO_stock 156 = .ok (.ireturn, 1) := by decide +kernel
theorem dMO_stock_157 : decode cMO_stock 157 = .ok (.aload_n 0, 1) := by decide +kernel
theorem dMO_stock_158 : decode cMO_stock 158 = .ok (.getfield 65, 3) := by decide +kernel
theorem dMO_stock_161 : decode cMO_stock 161 = .ok (.sipush 300, 3) := by decide +kernel
theorem dMO_stock_164 : decode cMO_stock 164 = .ok (.if_icmp .ne 6, 3) := by decide +kernel
theorem dMO_stock_167 : decode cMO_stock 167 = .ok (.ldc 73, 2) := by decide +kernel
theorem dMO_stock_169 : decode cMO_stock 169 = .ok (.ireturn, 1) := by decide +kernel
theorem dMO_stock_170 : decode cMO_stock 170 = .ok (.aload_n 0, 1) := by decide +kernel
theorem dMO_stock_171 : decode cMO_stock 171 = .ok (.aload_n 0, 1) := by decide +kernel
theorem dMO_stock_172 : decode cMO_stock 172 = .ok (.getfield 50, 3) := by decide +kernel
theorem dMO_stock_175 : decode cMO_stock 175 = .ok (.lconst 1, 1) := by decide +kernel
theorem dMO_stock_176 : decode cMO_stock 176 = .ok (.ladd, 1) := by decide +kernel
theorem dMO_stock_177 : decode cMO_stock 177 = .ok (.invokevirtual 77, 3) := by decide +kernel
theorem dMO_stock_180 : decode cMO_stock 180 = .ok (.istore 9, 2) := by decide +kernel
theorem dMO_stock_182 : decode cMO_stock 182 = .ok (.aload_n 0, 1) := by decide +kernel
theorem dMO_stock_183 : decode cMO_stock 183 = .ok (.getfield 30, 3) := by decide +kernel
theorem dMO_stock_186 : decode cMO_stock 186 = .ok (.iload 9, 2) := by decide +kernel
theorem dMO_stock_188 : decode cMO_stock 188 = .ok (.iconst 1, 1) := by decide +kernel
theorem dMO_stock_189 : decode cMO_stock 189 = .ok (.bastore, 1) := by decide +kernel
theorem dMO_stock_190 : decode cMO_stock 190 = .ok (.aload_n 0, 1) := by decide +kernel
theorem dMO_stock_191 : decode cMO_stock 191 = .ok (.iload 9, 2) := by decide +kernel
theorem dMO_stock_193 : decode cMO_stock 193 = .ok (.aload_n 0, 1) := by decide +kernel
theorem dMO_stock_194 : decode cMO_stock 194 = .ok (.iload_n 1, 1) := by decide +kernel
theorem dMO_stock_195 : decode cMO_stock 195 = .ok (.iload_n 2, 1) := by decide +kernel
theorem dMO_stock_196 : decode cMO_stock 196 = .ok (.invokevirtual 124, 3) := by decide +kernel
theorem dMO_stock_199 : decode cMO_stock 199 = .ok (.lload 7, 2) := by decide +kernel
theorem dMO_stock_201 : decode cMO_stock 201 = .ok (.invokevirtual 92, 3) := by decide +kernel
theorem dMO_stock_204 : decode cMO_stock 204 = .ok (.aload_n 0, 1) := by decide +kernel
theorem dMO_stock_205 : decode cMO_stock 205 = .ok (.iload 9, 2) := by decide +kernel
theorem dMO_stock_207 : decode cMO_stock 207 = .ok (.aload_n 0, 1) := by decide +kernel
theorem dMO_stock_208 : decode cMO_stock 208 = .ok (.iload_n 1, 1) := by decide +kernel
theorem dMO_stock_209 : decode cMO_stock 209 = .ok (.iconst 5, 1) := by decide +kernel
theorem dMO_stock_210 : decode cMO_stock 210 = .ok (.invokevirtual 124, 3) := by decide +kernel
theorem dMO_stock_213 : decode cMO_stock 213 = .ok (.lload 7, 2) := by decide +kernel
theorem dMO_stock_215 : decode cMO_stock 215 = .ok (.lneg, 1) := by decide +kernel
theorem dMO_stock_216 : decode cMO_stock 216 = .ok (.invokevirtual 92, 3) := by decide +kernel
theorem dMO_stock_219 : decode cMO_stock 219 = .ok (.aload_n 0, 1) := by decide +kernel
theorem dMO_stock_220 : decode cMO_stock 220 = .ok (.iload 9, 2) := by decide +kernel
theorem dMO_stock_222 : decode cMO_stock 222 = .ok (.invokevirtual 114, 3) := by decide +kernel
theorem dMO_stock_225 : decode cMO_stock 225 = .ok (.istore 10, 2) := by decide +kernel
theorem dMO_stock_227 : decode cMO_stock 227 = .ok (.iload 10, 2) := by decide +kernel
theorem dMO_stock_229 : decode cMO_stock 229 = .ok (.ifCond .le 9, 3) := by decide +kernel
theorem dMO_stock_232 : decode cMO_stock 232 = .ok (.lload 7, 2) := by decide +kernel
theorem dMO_stock_234 : decode cMO_stock 234 = .ok (.l2i, 1) := by decide +kernel
theorem dMO_stock_235 : decode cMO_stock 235 = .ok (.goto 4, 3) := by decide +kernel
theorem dMO_stock_238 : decode cMO_stock 238 = .ok (.iconst 0, 1) := by decide +kernel
theorem dMO_stock_239 : decode cMO_stock 239 = .ok (.ireturn, 1) := by decide +kernel
theorem dMO_limit_0 : decode cMO_limit 0 = .ok (.aload_n 0, 1) := by decide +kernel
theorem dMO_limit_1 : decode cMO_limit 1 = .ok (.iconst 0, 1) := by decide +kernel
theorem dMO_limit_2 : decode cMO_limit 2 = .ok (.putfield 54, 3) := by decide +kernel
theorem dMO_limit_5 : decode cMO_limit 5 = .ok (.aload_n 0, 1) := by decide +kernel
theorem dMO_limit_6 : decode cMO_limit 6 = .ok (.iload_n 1, 1) := by decide +kernel
theorem dMO_limit_7 : decode cMO_limit 7 = .ok (.invokevirtual 85, 3) := by decide +kernel
theorem dMO_limit_10 : decode cMO_limit 10 = .ok (.ifCond .ne 6, 3) := by decide +kernel
theorem dMO_limit_13 : decode cMO_limit 13 = .ok (.ldc 113, 2) := by decide +kernel
theorem dMO_limit_15 : decode cMO_limit 15 = .ok (.ireturn, 1) := by decide +kernel
theorem dMO_limit_16 : decode cMO_limit 16 = .ok (.lload_n 2, 1) := by decide +kernel
theorem dMO_limit_17 : decode cMO_limit 17 = .ok (.lconst 0, 1) := by decide +kernel
theorem dMO_limit_18 : decode cMO_limit 18 = .ok (.ldc2_w 90, 3) := by decide +kernel
theorem dMO_limit_21 : decode cMO_limit 21 = .ok (.invokestatic 61, 3) := by decide +kernel
theorem dMO_limit_24 : decode cMO_limit 24 = .ok (.ifCond .ne 6, 3) := by decide +kernel
theorem dMO_limit_27 : decode cMO_limit 27 = .ok (.ldc 72, 2) := by decide +kernel
theorem dMO_limit_29 : decode cMO_limit 29 = .ok (.ireturn, 1) := by decide +kernel
theorem dMO_limit_30 : decode cMO_limit 30 = .ok (.aload_n 0, 1) := by decide +kernel
theorem dMO_limit_31 : decode cMO_limit 31 = .ok (.getfield 16, 3) := by decide +kernel
theorem dMO_limit_34 : decode cMO_limit 34 = .ok (.iload_n 1, 1) := by decide +kernel
theorem dMO_limit_35 : decode cMO_limit 35 = .ok (.laload, 1) := by decide +kernel
theorem dMO_limit_36 : decode cMO_limit 36 = .ok (.l2i, 1) := by decide +kernel
theorem dMO_limit_37 : decode cMO_limit 37 = .ok (.istore 4, 2) := by decide +kernel
theorem dMO_limit_39 : decode cMO_limit 39 = .ok (.aload_n 0, 1) := by decide +kernel
theorem dMO_limit_40 : decode cMO_limit 40 = .ok (.getfield 16, 3) := by decide +kernel
theorem dMO_limit_43 : decode cMO_limit 43 = .ok (.iload_n 1, 1) := by decide +kernel
theorem dMO_limit_44 : decode cMO_limit 44 = .ok (.lload_n 2, 1) := by decide +kernel
theorem dMO_limit_45 : decode cMO_limit 45 = .ok (.lastore, 1) := by decide +kernel
theorem dMO_limit_46 : decode cMO_limit 46 = .ok (.iload 4, 2) := by decide +kernel
theorem dMO_limit_48 : decode cMO_limit 48 = .ok (.ireturn, 1) := by decide +kernel
theorem dMO_fails_0 : decode cMO_fails 0 = .ok (.aload_n 0, 1) := by decide +kernel
theorem dMO_fails_1 : decode cMO_fails 1 = .ok (.iconst 0, 1) := by decide +kernel
theorem dMO_fails_2 : decode cMO_fails 2 = .ok (.putfield 54, 3) := by decide +kernel
theorem dMO_fails_5 : decode cMO_fails 5 = .ok (.aload_n 0, 1) := by decide +kernel
theorem dMO_fails_6 : decode cMO_fails 6 = .ok (.iload_n 1, 1) := by decide +kernel
theorem dMO_fails_7 : decode cMO_fails 7 = .ok (.invokevirtual 81, 3) := by decide +kernel
theorem dMO_fails_10 : decode cMO_fails 10 = .ok (.ifCond .eq 12, 3) := by decide +kernel
theorem dMO_fails_13 : decode cMO_fails 13 = .ok (.aload_n 0, 1) := by decide +kernel
theorem dMO_fails_14 : decode cMO_fails 14 = .ok (.getfield 20, 3) := by decide +kernel
theorem dMO_fails_17 : decode cMO_fails 17 = .ok (.iload_n 1, 1) := by decide +kernel
theorem dMO_fails_18 : decode cMO_fails 18 = .ok (.iaload, 1) := by decide +kernel
theorem dMO_fails_19 : decode cMO_fails 19 = .ok (.ifCond .eq 5, 3) := by decide +kernel
theorem dMO_fails_22 : decode cMO_fails 22 = .ok (.iconst 0, 1) := by decide +kernel
theorem dMO_fails_23 : decode cMO_fails 23 = .ok (.ireturn, 1) := by decide +kernel
theorem dMO_fails_24 : decode cMO_fails 24 = .ok (.aload_n 0, 1) := by decide +kernel
theorem dMO_fails_25 : decode cMO_fails 25 = .ok (.getfield 26, 3) := by decide +kernel
theorem dMO_fails_28 : decode cMO_fails 28 = .ok (.iload_n 1, 1) := by decide +kernel
theorem dMO_fails_29 : decode cMO_fails 29 = .ok (.baload, 1) := by decide +kernel
theorem dMO_fails_30 : decode cMO_fails 30 = .ok (.iload_n 2, 1) := by decide +kernel
theorem dMO_fails_31 : decode cMO_fails 31 = .ok (.if_icmp .eq 7, 3) := by decide +kernel
theorem dMO_fails_34 : decode cMO_fails 34 = .ok (.iconst 1, 1) := by decide +kernel
theorem dMO_fails_35 : decode cMO_fails 35 = .ok (.goto 4, 3) := by decide +kernel
theorem dMO_fails_38 : decode cMO_fails 38 = .ok (.iconst 0, 1) := by decide +kernel
theorem dMO_fails_39 : decode cMO_fails 39 = .ok (.istore_n 3, 1) := by decide +kernel
theorem dMO_fails_40 : decode cMO_fails 40 = .ok (.aload_n 0, 1) := by decide +kernel
theorem dMO_fails_41 : decode cMO_fails 41 = .ok (.getfield 26, 3) := by decide +kernel
theorem dMO_fails_44 : decode cMO_fails 44 = .ok (.iload_n 1, 1) := by decide +kernel
theorem dMO_fails_45 : decode cMO_fails 45 = .ok (.iload_n 2, 1) := by decide +kernel
theorem dMO_fails_46 : decode cMO_fails 46 = .ok (.bastore, 1) := by decide +kernel
theorem dMO_fails_47 : decode cMO_fails 47 = .ok (.iload_n 3, 1) := by decide +kernel
theorem dMO_fails_48 : decode cMO_fails 48 = .ok (.ireturn, 1) := by decide +kernel
theorem dMO_hold_0 : decode cMO_hold 0 = .ok (.aload_n 0, 1) := by decide +kernel
theorem dMO_hold_1 : decode cMO_hold 1 = .ok (.iconst 0, 1) := by decide +kernel
theorem dMO_hold_2 : decode cMO_hold 2 = .ok (.putfield 54, 3) := by decide +kernel
theorem dMO_hold_5 : decode cMO_hold 5 = .ok (.aload_n 0, 1) := by decide +kernel
theorem dMO_hold_6 : decode cMO_hold 6 = .ok (.iload_n 1, 1) := by decide +kernel
theorem dMO_hold_7 : decode cMO_hold 7 = .ok (.invokevirtual 85, 3) := by decide +kernel
theorem dMO_hold_10 : decode cMO_hold 10 = .ok (.ifCond .ne 7, 3) := by decide +kernel
theorem dMO_hold_13 : decode cMO_hold 13 = .ok (.ldc2_w 117, 3) := by decide +kernel
theorem dMO_hold_16 : decode cMO_hold 16 = .ok (.lreturn, 1) := by decide +kernel
theorem dMO_hold_17 : decode cMO_hold 17 = .ok (.lconst 0, 1) := by decide +kernel
theorem dMO_hold_18 : decode cMO_hold 18 = .ok (.lstore_n 2, 1) := by decide +kernel
theorem dMO_hold_19 : decode cMO_hold 19 = .ok (.iconst 1, 1) := by decide +kernel
theorem dMO_hold_20 : decode cMO_hold 20 = .ok (.istore 4, 2) := by decide +kernel
theorem dMO_hold_22 : decode cMO_hold 22 = .ok (.iload 4, 2) := by decide +kernel
theorem dMO_hold_24 : decode cMO_hold 24 = .ok (.aload_n 0, 1) := by decide +kernel
theorem dMO_hold_25 : decode cMO_hold 25 = .ok (.getfield 65, 3) := by decide +kernel
theorem dMO_hold_28 : decode cMO_hold 28 = .ok (.if_icmp .gt 88, 3) := by decide +kernel
theorem dMO_hold_31 : decode cMO_hold 31 = .ok (.iconst 0, 1) := by decide +kernel
theorem dMO_hold_32 : decode cMO_hold 32 = .ok (.istore 5, 2) := by decide +kernel
theorem dMO_hold_34 : decode cMO_hold 34 = .ok (.iload 5, 2) := by decide +kernel
theorem dMO_hold_36 : decode cMO_hold 36 = .ok (.aload_n 0, 1) := by decide +kernel
theorem dMO_hold_37 : decode cMO_hold 37 = .ok (.getfield 36, 3) := by decide +kernel
theorem dMO_hold_40 : decode cMO_hold 40 = .ok (.iload 4, 2) := by decide +kernel
theorem dMO_hold_42 : decode cMO_hold 42 = .ok (.iaload, 1) := by decide +kernel
theorem dMO_hold_43 : decode cMO_hold 43 = .ok (.if_icmp .ge 67, 3) := by decide +kernel
theorem dMO_hold_46 : decode cMO_hold 46 = .ok (.aload_n 0, 1) := by decide +kernel
theorem dMO_hold_47 : decode cMO_hold 47 = .ok (.getfield 20, 3) := by decide +kernel
theorem dMO_hold_50 : decode cMO_hold 50 = .ok (.iload 4, 2) := by decide +kernel
theorem dMO_hold_52 : decode cMO_hold 52 = .ok (.iaload, 1) := by decide +kernel
theorem dMO_hold_53 : decode cMO_hold 53 = .ok (.ifCond .ne 57, 3) := by decide +kernel
theorem dMO_hold_56 : decode cMO_hold 56 = .ok (.aload_n 0, 1) := by decide +kernel
theorem dMO_hold_57 : decode cMO_hold 57 = .ok (.getfield 42, 3) := by decide +kernel
theorem dMO_hold_60 : decode cMO_hold 60 = .ok (.bipush 12, 2) := by decide +kernel
theorem dMO_hold_62 : decode cMO_hold 62 = .ok (.iload 4, 2) := by decide +kernel
theorem dMO_hold_64 : decode cMO_hold 64 = .ok (.imul, 1) := by decide +kernel
theorem dMO_hold_65 : decode cMO_hold 65 = .ok (.iload 5, 2) := by decide +kernel
theorem dMO_hold_67 : decode cMO_hold 67 = .ok (.iadd, 1) := by decide +kernel
theorem dMO_hold_68 : decode cMO_hold 68 = .ok (.laload, 1) := by decide +kernel
theorem dMO_hold_69 : decode cMO_hold 69 = .ok (.lstore 6, 2) := by decide +kernel
theorem dMO_hold_71 : decode cMO_hold 71 = .ok (.aload_n 0, 1) := by decide +kernel
theorem dMO_hold_72 : decode cMO_hold 72 = .ok (.getfield 39, 3) := by decide +kernel
theorem dMO_hold_75 : decode cMO_hold 75 = .ok (.bipush 12, 2) := by decide +kernel
theorem dMO_hold_77 : decode cMO_hold 77 = .ok (.iload 4, 2) := by decide +kernel
theorem dMO_hold_79 : decode cMO_hold 79 = .ok (.imul, 1) := by decide +kernel
theorem dMO_hold_80 : decode cMO_hold 80 = .ok (.iload 5, 2) := by decide +kernel
theorem dMO_hold_82 : decode cMO_hold 82 = .ok (.iadd, 1) := by decide +kernel
theorem dMO_hold_83 : decode cMO_hold 83 = .ok (.iaload, 1) := by decide +kernel
theorem dMO_hold_84 : decode cMO_hold 84 = .ok (.iload_n 1, 1) := by decide +kernel
theorem dMO_hold_85 : decode cMO_hold 85 = .ok (.if_icmp .ne 17, 3) := by decide +kernel
theorem dMO_hold_88 : decode cMO_hold 88 = .ok (.lload 6, 2) := by decide +kernel
theorem dMO_hold_90 : decode cMO_hold 90 = .ok (.lconst 0, 1) := by decide +kernel
theorem dMO_hold_91 : decode cMO_hold 91 = .ok (.lcmp, 1) := by decide +kernel
theorem dMO_hold_92 : decode cMO_hold 92 = .ok (.ifCond .ge 10, 3) := by decide +kernel
theorem dMO_hold_95 : decode cMO_hold 95 = .ok (.lload_n 2, 1) := by decide +kernel
theorem dMO_hold_96 : decode cMO_hold 96 = .ok (.lload 6, 2) := by decide +kernel
theorem dMO_hold_98 : decode cMO_hold 98 = .ok (.lsub, 1) := by decide +kernel
theorem dMO_hold_99 : decode cMO_hold 99 = .ok (.goto 4, 3) := by decide +kernel
theorem dMO_hold_102 : decode cMO_hold 102 = .ok (.lload_n 2, 1) := by decide +kernel
theorem dMO_hold_103 : decode cMO_hold 103 = .ok (.lstore_n 2, 1) := by decide +kernel
theorem dMO_hold_104 : decode cMO_hold 104 = .ok (.iinc 5 1, 3) := by decide +kernel
theorem dMO_hold_107 : decode cMO_hold 107 = .ok (.goto (-73), 3) := by decide +kernel
theorem dMO_hold_110 : decode cMO_hold 110 = .ok (.iinc 4 1, 3) := by decide +kernel
theorem dMO_hold_113 : decode cMO_hold 113 = .ok (.goto (-91), 3) := by decide +kernel
theorem dMO_hold_116 : decode cMO_hold 116 = .ok (.lload_n 2, 1) := by decide +kernel
theorem dMO_hold_117 : decode cMO_hold 117 = .ok (.lreturn, 1) := by decide +kernel
theorem dMO_rows_0 : decode cMO_rows 0 = .ok (.aload_n 0, 1) := by decide +kernel
theorem dMO_rows_1 : decode cMO_rows 1 = .ok (.iconst 0, 1) := by decide +kernel
theorem dMO_rows_2 : decode cMO_rows 2 = .ok (.putfield 54, 3) := by decide +kernel
theorem dMO_rows_5 : decode cMO_rows 5 = .ok (.iconst 0, 1) := by decide +kernel
theorem dMO_rows_6 : decode cMO_rows 6 = .ok (.istore_n 1, 1) := by decide +kernel
theorem dMO_rows_7 : decode cMO_rows 7 = .ok (.iconst 0, 1) := by decide +kernel
theorem dMO_rows_8 : decode cMO_rows 8 = .ok (.istore_n 2, 1) := by decide +kernel
theorem dMO_rows_9 : decode cMO_rows 9 = .ok (.iload_n 2, 1) := by decide +kernel
theorem dMO_rows_10 : decode cMO_rows 10 = .ok (.aload_n 0, 1) := by decide +kernel
theorem dMO_rows_11 : decode cMO_rows 11 = .ok (.getfield 96, 3) := by decide +kernel
theorem dMO_rows_14 : decode cMO_rows 14 = .ok (.if_icmp .ge 23, 3) := by decide +kernel
theorem dMO_rows_17 : decode cMO_rows 17 = .ok (.iload_n 1, 1) := by decide +kernel
theorem dMO_rows_18 : decode cMO_rows 18 = .ok (.aload_n 0, 1) := by decide +kernel
theorem dMO_rows_19 : decode cMO_rows 19 = .ok (.getfield 36, 3) := by decide +kernel
theorem dMO_rows_22 : decode cMO_rows 22 = .ok (.aload_n 0, 1) := by decide +kernel
theorem dMO_rows_23 : decode cMO_rows 23 = .ok (.getfield 45, 3) := by decide +kernel
theorem dMO_rows_26 : decode cMO_rows 26 = .ok (.iload_n 2, 1) := by decide +kernel
theorem dMO_rows_27 : decode cMO_rows 27 = .ok (.iaload, 1) := by decide +kernel
theorem dMO_rows_28 : decode cMO_rows 28 = .ok (.iaload, 1) := by decide +kernel
theorem dMO_rows_29 : decode cMO_rows 29 = .ok (.iadd, 1) := by decide +kernel
theorem dMO_rows_30 : decode cMO_rows 30 = .ok (.istore_n 1, 1) := by decide +kernel
theorem dMO_rows_31 : decode cMO_rows 31 = .ok (.iinc 2 1, 3) := by decide +kernel
theorem dMO_rows_34 : decode cMO_rows 34 = .ok (.goto (-25), 3) := by decide +kernel
theorem dMO_rows_37 : decode cMO_rows 37 = .ok (.iload_n 1, 1) := by decide +kernel
theorem dMO_rows_38 : decode cMO_rows 38 = .ok (.ireturn, 1) := by decide +kernel
theorem dMO_all_0 : decode cMO_all 0 = .ok (.aload_n 0, 1) := by decide +kernel
theorem dMO_all_1 : decode cMO_all 1 = .ok (.iconst 0, 1) := by decide +kernel
theorem dMO_all_2 : decode cMO_all 2 = .ok (.putfield 54, 3) := by decide +kernel
theorem dMO_all_5 : decode cMO_all 5 = .ok (.lconst 0, 1) := by decide +kernel
theorem dMO_all_6 : decode cMO_all 6 = .ok (.lstore_n 1, 1) := by decide +kernel
theorem dMO_all_7 : decode cMO_all 7 = .ok (.iconst 1, 1) := by decide +kernel
theorem dMO_all_8 : decode cMO_all 8 = .ok (.istore_n 3, 1) := by decide +kernel
theorem dMO_all_9 : decode cMO_all 9 = .ok (.iload_n 3, 1) := by decide +kernel
theorem dMO_all_10 : decode cMO_all 10 = .ok (.aload_n 0, 1) := by decide +kernel
theorem dMO_all_11 : decode cMO_all 11 = .ok (.getfield 58, 3) := by decide +kernel
theorem dMO_all_14 : decode cMO_all 14 = .ok (.if_icmp .gt 20, 3) := by decide +kernel
theorem dMO_all_17 : decode cMO_all 17 = .ok (.lload_n 1, 1) := by decide +kernel
theorem dMO_all_18 : decode cMO_all 18 = .ok (.aload_n 0, 1) := by decide +kernel
theorem dMO_all_19 : decode cMO_all 19 = .ok (.iload_n 3, 1) := by decide +kernel
theorem dMO_all_20 : decode cMO_all 20 = .ok (.ldc2_w 103, 3) := by decide +kernel
theorem dMO_all_23 : decode cMO_all 23 = .ok (.invokevirtual 105, 3) := by decide +kernel
theorem dMO_all_26 : decode cMO_all 26 = .ok (.ladd, 1) := by decide +kernel
theorem dMO_all_27 : decode cMO_all 27 = .ok (.lstore_n 1, 1) := by decide +kernel
theorem dMO_all_28 : decode cMO_all 28 = .ok (.iinc 3 1, 3) := by decide +kernel
theorem dMO_all_31 : decode cMO_all 31 = .ok (.goto (-22), 3) := by decide +kernel
theorem dMO_all_34 : decode cMO_all 34 = .ok (.lload_n 1, 1) := by decide +kernel
theorem dMO_all_35 : decode cMO_all 35 = .ok (.lreturn, 1) := by decide +kernel
end
section
/-! decode rows: THR -/
theorem dPL_post_0 : decode cPL_post 0 = .ok (.aload_n 0, 1) := by decide +kernel
theorem dPL_post_1 : decode cPL_post 1 = .ok (.iload_n 1, 1) := by decide +kernel
theorem dPL_post_2 : decode cPL_post 2 = .ok (.invokevirtual 62, 3) := by decide +kernel
theorem dPL_post_5 : decode cPL_post 5 = .ok (.astore_n 2, 1) := by decide +kernel
theorem dPL_post_6 : decode cPL_post 6 = .ok (.aload_n 2, 1) := by decide +kernel
theorem dPL_post_7 : decode cPL_post 7 = .ok (.ifnonnull 6, 3) := by decide +kernel
theorem dPL_post_10 : decode cPL_post 10 = .ok (.ldc 88, 2) := by decide +kernel
theorem dPL_post_12 : decode cPL_post 12 = .ok (.ireturn, 1) := by decide +kernel
theorem dPL_post_13 : decode cPL_post 13 = .ok (.aload_n 2, 1) := by decide +kernel
theorem dPL_post_14 : decode cPL_post 14 = .ok (.invokevirtual 70, 3) := by decide +kernel
theorem dPL_post_17 : decode cPL_post 17 = .ok (.ifCond .eq 15, 3) := by decide +kernel
theorem dPL_post_20 : decode cPL_post 20 = .ok (.aload_n 0, 1) := by decide +kernel
theorem dPL_post_21 : decode cPL_post 21 = .ok (.aload_n 2, 1) := by decide +kernel
theorem dPL_post_22 : decode cPL_post 22 = .ok (.getfield 89, 3) := by decide +kernel
theorem dPL_post_25 : decode cPL_post 25 = .ok (.i2l, 1) := by decide +kernel
theorem dPL_post_26 : decode cPL_post 26 = .ok (.invokevirtual 49, 3) := by decide +kernel
theorem dPL_post_29 : decode cPL_post 29 = .ok (.ifCond .eq 6, 3) := by decide +kernel
theorem dPL_post_32 : decode cPL_post 32 = .ok (.ldc 52, 2) := by decide +kernel
theorem dPL_post_34 : decode cPL_post 34 = .ok (.ireturn, 1) := by decide +kernel
theorem dPL_post_35 : decode cPL_post 35 = .ok (.aload_n 2, 1) := by decide +kernel
theorem dPL_post_36 : decode cPL_post 36 = .ok (.invokevirtual 92, 3) := by decide +kernel
theorem dPL_post_39 : decode cPL_post 39 = .ok (.astore_n 3, 1) := by decide +kernel
theorem dPL_post_40 : decode cPL_post 40 = .ok (.aload_n 3, 1) := by decide +kernel
theorem dPL_post_41 : decode cPL_post 41 = .ok (.getstatic 96, 3) := by decide +kernel
theorem dPL_post_44 : decode cPL_post 44 = .ok (.if_acmp .ne 10, 3) := by decide +kernel
theorem dPL_post_47 : decode cPL_post 47 = .ok (.aload_n 0, 1) := by decide +kernel
theorem dPL_post_48 : decode cPL_post 48 = .ok (.aload_n 2, 1) := by decide +kernel
theorem dPL_post_49 : decode cPL_post 49 = .ok (.invokevirtual 102, 3) := by decide +kernel
theorem dPL_post_52 : decode cPL_post 52 = .ok (.iconst 1, 1) := by decide +kernel
theorem dPL_post_53 : decode cPL_post 53 = .ok (.ireturn, 1) := by decide +kernel
theorem dPL_post_54 : decode cPL_post 54 = .ok (.aload_n 2, 1) := by decide +kernel
theorem dPL_post_55 : decode cPL_post 55 = .ok (.getstatic 106, 3) := by decide +kernel
theorem dPL_post_58 : decode cPL_post 58 = .ok (.putfield 112, 3) := by decide +kernel
theorem dPL_post_61 : decode cPL_post 61 = .ok (.aload_n 3, 1) := by decide +kernel
theorem dPL_post_62 : decode cPL_post 62 = .ok (.getstatic 115, 3) := by decide +kernel
theorem dPL_post_65 : decode cPL_post 65 = .ok (.if_acmp .ne 13, 3) := by decide +kernel
theorem dPL_post_68 : decode cPL_post 68 = .ok (.new 118, 3) := by decide +kernel
theorem dPL_post_71 : decode cPL_post 71 = .ok (.dup, 1) := by decide +kernel
theorem dPL_post_72 : decode cPL_post 72 = .ok (.ldc 120, 2) := by decide +kernel
theorem dPL_post_74 : decode cPL_post 74 = .ok (.invokespecial 122, 3) := by decide +kernel
theorem dPL_post_77 : decode cPL_post 77 = .ok (.athrow, 1) := by decide +kernel
theorem dPL_post_78 : decode cPL_post 78 = .ok (.iconst 0, 1) := by decide +kernel
theorem dPL_post_79 : decode cPL_post 79 = .ok (.ireturn, 1) := by decide +kernel
end
section
/-! WHAT STANDS BEHIND EVERY METHOD: statics, constants, array classes. E.1: array classes (0 Object, 1 int, 2 long, 3 boolean); E.2: addresses (0 OPEN, 1 POSTED, 2 VOID; 3 POSTED, 4 FAILED, 5 REFUSED of Outcome; 6 the empty array; 7 the mirror of Object[]; 8 the text of the exception) -/
abbrev xE_T : Type := (Nat → ClassId) × (Nat → Nat)
abbrev xtys (E : xE_T) : List (ClassId × FieldType) := [(E.1 0, .object "java/lang/Object"), (E.1 1, .int), (E.1 2, .long), (E.1 3, .boolean)]
def xZ (C n d : String) (a : Nat) (A : Nat → Prop) (U : State) : Prop := va_Z C n d (.ref a) A U U.heap
/-- a word that holds, and goes on holding as long as nothing outside A is written -/
def xKw (w : Cond) (A : Nat → Prop) (U : State) : Prop := ∀ (V : State) (a : Array Value), U.WarmedH V.vm → U.heap.size ≤ V.heap.size → (∀ q : Nat, q < U.heap.size → ¬ A q → V.heap[q]? = U.heap[q]?) → w.before a V = true
abbrev xEx : String := "java/lang/IllegalStateException"
/-- the words of the throw; those of them that a list of words cannot hold -/
def xThA : List Cond := Bundle.ownAtoms "PostLedger" 122 xEx ["java/lang/RuntimeException", "java/lang/Exception"]
def xNG : List Cond := xThA.filter (fun w => !goodWord w)
def xF (E : xE_T) (A : Nat → Prop) (U : State) : Prop :=
  (va_Nw (.castable "PostLedger$Row" "java/lang/Object") U ∧ va_Nw (.castable "PostLedger$Account" "java/lang/Object") U ∧ va_Nw (.castable "PostLedger$Batch" "java/lang/Object") U) ∧
  (va_AO "java/lang/Object" U ∧ va_Dc U ∧ va_Mi "[Ljava/lang/Object;" (E.2 7) U ∧ vk_R "PostLedger" 120 "the batch is refused" (E.2 8) U) ∧
  (xZ "PostLedger$Standing" "OPEN" "LPostLedger$Standing;" (E.2 0) A U ∧ xZ "PostLedger$Standing" "POSTED" "LPostLedger$Standing;" (E.2 1) A U ∧ xZ "PostLedger$Standing" "VOID" "LPostLedger$Standing;" (E.2 2) A U) ∧
  (xZ "PostLedger$Outcome" "POSTED" "LPostLedger$Outcome;" (E.2 3) A U ∧ xZ "PostLedger$Outcome" "FAILED" "LPostLedger$Outcome;" (E.2 4) A U ∧ xZ "PostLedger$Outcome" "REFUSED" "LPostLedger$Outcome;" (E.2 5) A U) ∧
  (xZ "java/util/ArrayList" "DEFAULTCAPACITY_EMPTY_ELEMENTDATA" "[Ljava/lang/Object;" (E.2 6) A U ∧ va_T (.object "java/lang/Object") (E.2 6) 0 (fun _ => .null) A U U.heap) ∧
  ∀ w ∈ xNG, xKw w A U
theorem xZ_of {C n d : String} {a : Nat} {A : Nat → Prop} {s U : State} (h : xZ C n d a A s) (hvm : s.vm.Alike U.vm) (hq : ∀ q : Nat, q < s.heap.size → ¬ A q → U.heap[q]? = s.heap[q]?) : xZ C n d a A U := (h.kept hq).moved hvm
theorem xKw_of {w : Cond} {A : Nat → Prop} {s U : State} {locs : List Loc} (h : xKw w A s) (hW : s.WarmedH U.vm) (hS : va_S A s.heap U.heap locs) : xKw w A U :=
  fun V a hV hz hq => h V a (State.WarmedH.trans hW hV) (Nat.le_trans hS.1 hz) (fun q h1 h2 => (hq q (Nat.lt_of_lt_of_le h1 hS.1) h2).trans (hS.2.1 q h1 h2))
theorem xKw_narrow {w : Cond} {A B : Nat → Prop} {U : State} (h : xKw w A U) (hAB : ∀ q, B q → A q) : xKw w B U := fun V a hV hz hq => h V a hV hz (fun q h1 h2 => hq q h1 (fun z => h2 (hAB q z)))
theorem xKw_use {w : Cond} {A : Nat → Prop} {U : State} (h : xKw w A U) (a : Array Value) : w.before a U = true := h U a (State.WarmedH.refl U) (Nat.le_refl _) (fun _ _ _ => rfl)
theorem xF_of {E : xE_T} {A : Nat → Prop} {s U : State} {locs : List Loc} (h : xF E A s) (hW : s.WarmedH U.vm) (hS : va_S A s.heap U.heap locs) : xF E A U := by
  obtain ⟨⟨a1, a2, a3⟩, ⟨b1, b2, b3, b4⟩, ⟨c1, c2, c3⟩, ⟨d1, d2, d3⟩, ⟨e1, e2⟩, f0⟩ := h
  have hq : ∀ q : Nat, q < s.heap.size → ¬ A q → U.heap[q]? = s.heap[q]? := hS.2.1
  have hvm := hW.alike
  exact ⟨⟨a1.warmC hW, a2.warmC hW, a3.warmC hW⟩, ⟨b1.moved hvm, b2.moved hvm, b3.moved hvm, b4.warm hW⟩, ⟨xZ_of c1 hvm hq, xZ_of c2 hvm hq, xZ_of c3 hvm hq⟩, ⟨xZ_of d1 hvm hq, xZ_of d2 hvm hq, xZ_of d3 hvm hq⟩, ⟨xZ_of e1 hvm hq, (e2.kept hq).moved hvm⟩, fun w hw => xKw_of (f0 w hw) hW hS⟩
theorem xF_call {E : xE_T} {A : Nat → Prop} {u : State} {g : JFrame} {mk : MethodId} {a : Array Value} (h : xF E A u) : xF E A (u.calling g mk a) := by
  obtain ⟨⟨a1, a2, a3⟩, ⟨b1, b2, b3, b4⟩, ⟨c1, c2, c3⟩, ⟨d1, d2, d3⟩, ⟨e1, e2⟩, f0⟩ := h
  have hv : (u.calling g mk a).vm = u.vm := rfl
  have hvm : u.vm.Alike (u.calling g mk a).vm := Vm.Alike.refl _
  have hq : ∀ q : Nat, q < u.heap.size → ¬ A q → (u.calling g mk a).heap[q]? = u.heap[q]? := fun q _ _ => rfl
  exact ⟨⟨a1.same rfl hv.symm, a2.same rfl hv.symm, a3.same rfl hv.symm⟩, ⟨b1.moved hvm, b2.moved hvm, b3.moved hvm, b4.same hv⟩, ⟨xZ_of c1 hvm hq, xZ_of c2 hvm hq, xZ_of c3 hvm hq⟩, ⟨xZ_of d1 hvm hq, xZ_of d2 hvm hq, xZ_of d3 hvm hq⟩, ⟨xZ_of e1 hvm hq, (e2.kept hq).moved hvm⟩, f0⟩
theorem xF_narrow {E : xE_T} {A B : Nat → Prop} {U : State} (h : xF E A U) (hAB : ∀ q, B q → A q) : xF E B U := by
  obtain ⟨⟨a1, a2, a3⟩, ⟨b1, b2, b3, b4⟩, ⟨c1, c2, c3⟩, ⟨d1, d2, d3⟩, ⟨e1, e2⟩, f0⟩ := h
  exact ⟨⟨a1, a2, a3⟩, ⟨b1, b2, b3, b4⟩, ⟨va_Z.narrow c1 hAB, va_Z.narrow c2 hAB, va_Z.narrow c3 hAB⟩, ⟨va_Z.narrow d1 hAB, va_Z.narrow d2 hAB, va_Z.narrow d3 hAB⟩, ⟨va_Z.narrow e1 hAB, e2.narrow hAB⟩, fun w hw => xKw_narrow (f0 w hw) hAB⟩
end
section
/-! THE WORLD AS A FUNCTION: what is known of the heap is a map from some addresses to cells. Rows of the kit work on lists of cells: here each is turned to the map. -/
abbrev xw_T : Type := Nat → Option va_E
def xw_in (w : xw_T) (ws : va_W) : Prop := ∀ (a : Nat) (e : va_E), w a = some e ↔ ∃ k : Nat, ws[k]? = some (a, e)
/-- the map stands in the heap: inside a method -/
def xw_S (D : va_G) (cl : List vw_C) (A : Nat → Prop) (H0 : Heap) (w : xw_T) (H : Heap) (locs : List Loc) : Prop := (∃ ws : va_W, xw_in w ws ∧ va_P D cl ws H ∧ va_D A ws) ∧ va_S A H0 H locs ∧ ∀ q : Nat, H0.size ≤ q → A q
theorem xw_in_set {A : Nat → Prop} {w : xw_T} {ws : va_W} {k a : Nat} {e0 e : va_E} (h : xw_in w ws) (hD : va_D A ws) (hk : ws[k]? = some (a, e0)) : xw_in (va_up w a (some e)) (ws.set k (a, e)) := by
  have hl := (List.getElem?_eq_some_iff.mp hk).1
  intro b e'
  by_cases hb : b = a
  · subst hb
    rw [va_up_self]
    constructor
    · intro he
      refine ⟨k, ?_⟩
      rw [List.getElem?_set_self hl, Option.some.inj he]
    · rintro ⟨j, hj⟩
      by_cases hjk : j = k
      · subst hjk
        rw [List.getElem?_set_self hl] at hj
        have := Option.some.inj hj
        rw [(Prod.mk.inj this).2]
      · rw [List.getElem?_set_ne (Ne.symm hjk)] at hj
        exact absurd (hD.1 j k _ _ hj hk rfl) hjk
  · rw [va_up_ne _ _ hb]
    constructor
    · intro he
      obtain ⟨j, hj⟩ := (h b e').mp he
      refine ⟨j, ?_⟩
      have hjk : j ≠ k := by
        intro q
        subst q
        rw [hk] at hj
        exact hb (Prod.mk.inj (Option.some.inj hj)).1.symm
      rw [List.getElem?_set_ne (Ne.symm hjk)]
      exact hj
    · rintro ⟨j, hj⟩
      by_cases hjk : j = k
      · subst hjk
        rw [List.getElem?_set_self hl] at hj
        exact absurd (Prod.mk.inj (Option.some.inj hj)).1.symm hb
      · rw [List.getElem?_set_ne (Ne.symm hjk)] at hj
        exact (h b e').mpr ⟨j, hj⟩
theorem xw_in_fresh {A : Nat → Prop} {w : xw_T} {ws : va_W} {q : Nat} {e : va_E} (h : xw_in w ws) (hD : va_D A (ws ++ [(q, e)])) : w q = none := by
  cases hq : w q with
  | none => rfl
  | some e1 =>
    obtain ⟨k, hk⟩ := (h q e1).mp hq
    have hl := (List.getElem?_eq_some_iff.mp hk).1
    have h1 : (ws ++ [(q, e)])[k]? = some (q, e1) := by rw [List.getElem?_append_left hl]; exact hk
    have h2 : (ws ++ [(q, e)])[ws.length]? = some (q, e) := by rw [List.getElem?_append_right (Nat.le_refl _), Nat.sub_self]; rfl
    have := hD.1 _ _ _ _ h1 h2 rfl
    omega
theorem xw_in_push {A : Nat → Prop} {w : xw_T} {ws : va_W} {q : Nat} {e : va_E} (h : xw_in w ws) (hD : va_D A (ws ++ [(q, e)])) : xw_in (va_up w q (some e)) (ws ++ [(q, e)]) := by
  have hf := xw_in_fresh h hD
  have h2 : (ws ++ [(q, e)])[ws.length]? = some (q, e) := by rw [List.getElem?_append_right (Nat.le_refl _), Nat.sub_self]; rfl
  intro b e'
  by_cases hb : b = q
  · subst hb
    rw [va_up_self]
    constructor
    · intro he
      exact ⟨ws.length, by rw [h2, Option.some.inj he]⟩
    · rintro ⟨j, hj⟩
      have hjk := hD.1 _ _ _ _ hj h2 rfl
      subst hjk
      rw [h2] at hj
      rw [(Prod.mk.inj (Option.some.inj hj)).2]
  · rw [va_up_ne _ _ hb]
    constructor
    · intro he
      obtain ⟨j, hj⟩ := (h b e').mp he
      exact ⟨j, by rw [List.getElem?_append_left (List.getElem?_eq_some_iff.mp hj).1]; exact hj⟩
    · rintro ⟨j, hj⟩
      by_cases hl : j < ws.length
      · rw [List.getElem?_append_left hl] at hj
        exact (h b e').mpr ⟨j, hj⟩
      · have hjl := (List.getElem?_eq_some_iff.mp hj).1
        rw [List.length_append, List.length_singleton] at hjl
        have : j = ws.length := by omega
        subst this
        rw [h2] at hj
        exact absurd (Prod.mk.inj (Option.some.inj hj)).1.symm hb
/-- a field, an array, of the map -/
def xg (w : xw_T) (a ci k : Nat) : Option Value := match w a with
  | some (.inr o) => if o.1 = ci then o.2[k]? else none
  | _ => none
def xvI : Option Value → Option Int32
  | some (.int x) => some x
  | _ => none
def xvL : Option Value → Option Int64
  | some (.long x) => some x
  | _ => none
def xvR : Option Value → Option (Option Nat)
  | some (.ref x) => some (some x)
  | some .null => some none
  | _ => none
def xgI (w : xw_T) (a ci k : Nat) : Option Int32 := xvI (xg w a ci k)
def xgL (w : xw_T) (a ci k : Nat) : Option Int64 := xvL (xg w a ci k)
def xgR (w : xw_T) (a ci k : Nat) : Option (Option Nat) := xvR (xg w a ci k)
def xp (w : xw_T) (a k : Nat) (v : Value) : xw_T := match w a with
  | some (.inr o) => va_up w a (some (.inr (o.1, o.2.set k v)))
  | _ => w
def xaE (w : xw_T) (a : Nat) (cA : ClassId) : Option vp_A := match w a with
  | some (.inl x) => if x.1 = cA then some x.2 else none
  | _ => none
def xvaI : Option vp_A → Option (Nat × (Nat → Int32))
  | some (n, .inl f) => some (n, f)
  | _ => none
def xvaL : Option vp_A → Option (Nat × (Nat → Int64))
  | some (n, .inr (.inl f)) => some (n, f)
  | _ => none
def xvaQ : Option vp_A → Option (Nat × (Nat → Option Nat))
  | some (n, .inr (.inr (.inr (.inr f)))) => some (n, f)
  | _ => none
def xaI (w : xw_T) (a : Nat) (cA : ClassId) : Option (Nat × (Nat → Int32)) := xvaI (xaE w a cA)
def xaL (w : xw_T) (a : Nat) (cA : ClassId) : Option (Nat × (Nat → Int64)) := xvaL (xaE w a cA)
def xaQ (w : xw_T) (a : Nat) (cA : ClassId) : Option (Nat × (Nat → Option Nat)) := xvaQ (xaE w a cA)
abbrev xcI (cA : ClassId) (n : Nat) (f : Nat → Int32) : va_E := .inl (cA, n, .inl f)
abbrev xcL (cA : ClassId) (n : Nat) (f : Nat → Int64) : va_E := .inl (cA, n, .inr (.inl f))
abbrev xcQ (cA : ClassId) (n : Nat) (f : Nat → Option Nat) : va_E := .inl (cA, n, .inr (.inr (.inr (.inr f))))
theorem xg_spec {w : xw_T} {a ci k : Nat} {v : Value} (h : xg w a ci k = some v) : ∃ fs : List Value, w a = some (.inr (ci, fs)) ∧ fs[k]? = some v := by
  unfold xg at h
  cases hw : w a with
  | none => rw [hw] at h; cases h
  | some e =>
    rw [hw] at h
    cases e with
    | inl x => cases h
    | inr o =>
      obtain ⟨o1, o2⟩ := o
      dsimp only at h
      by_cases ho : o1 = ci
      · subst ho
        rw [if_pos rfl] at h
        exact ⟨o2, rfl, h⟩
      · rw [if_neg ho] at h; cases h
theorem xgI_spec {w : xw_T} {a ci k : Nat} {v : Int32} (h : xgI w a ci k = some v) : xg w a ci k = some (.int v) := by
  unfold xgI at h
  cases hx : xg w a ci k with
  | none => rw [hx] at h; cases h
  | some y => rw [hx] at h; cases y <;> first | (cases h; rfl) | cases h
theorem xgL_spec {w : xw_T} {a ci k : Nat} {v : Int64} (h : xgL w a ci k = some v) : xg w a ci k = some (.long v) := by
  unfold xgL at h
  cases hx : xg w a ci k with
  | none => rw [hx] at h; cases h
  | some y => rw [hx] at h; cases y <;> first | (cases h; rfl) | cases h
theorem xgR_spec {w : xw_T} {a ci k : Nat} {v : Option Nat} (h : xgR w a ci k = some v) : xg w a ci k = some (va_rf v) := by
  unfold xgR at h
  cases hx : xg w a ci k with
  | none => rw [hx] at h; cases h
  | some y => rw [hx] at h; cases y <;> first | (cases h; rfl) | cases h
theorem xaE_spec {w : xw_T} {a : Nat} {cA : ClassId} {x : vp_A} (h : xaE w a cA = some x) : w a = some (.inl (cA, x)) := by
  unfold xaE at h
  cases hw : w a with
  | none => rw [hw] at h; cases h
  | some e =>
    rw [hw] at h
    cases e with
    | inr o => cases h
    | inl y =>
      obtain ⟨y1, y2⟩ := y
      dsimp only at h
      by_cases ho : y1 = cA
      · subst ho
        rw [if_pos rfl] at h
        rw [Option.some.inj h]
      · rw [if_neg ho] at h; cases h
theorem xaI_spec {w : xw_T} {a : Nat} {cA : ClassId} {n : Nat} {f : Nat → Int32} (h : xaI w a cA = some (n, f)) : w a = some (xcI cA n f) := by
  unfold xaI at h
  cases hx : xaE w a cA with
  | none => rw [hx] at h; cases h
  | some y =>
    rw [hx] at h
    obtain ⟨n1, y⟩ := y
    rcases y with y | y | y | y | y <;> first | (cases h; exact xaE_spec hx) | cases h
theorem xaL_spec {w : xw_T} {a : Nat} {cA : ClassId} {n : Nat} {f : Nat → Int64} (h : xaL w a cA = some (n, f)) : w a = some (xcL cA n f) := by
  unfold xaL at h
  cases hx : xaE w a cA with
  | none => rw [hx] at h; cases h
  | some y =>
    rw [hx] at h
    obtain ⟨n1, y⟩ := y
    rcases y with y | y | y | y | y <;> first | (cases h; exact xaE_spec hx) | cases h
theorem xaQ_spec {w : xw_T} {a : Nat} {cA : ClassId} {n : Nat} {f : Nat → Option Nat} (h : xaQ w a cA = some (n, f)) : w a = some (xcQ cA n f) := by
  unfold xaQ at h
  cases hx : xaE w a cA with
  | none => rw [hx] at h; cases h
  | some y =>
    rw [hx] at h
    obtain ⟨n1, y⟩ := y
    rcases y with y | y | y | y | y <;> first | (cases h; exact xaE_spec hx) | cases h
/-- the same read off the map -/
theorem xg_of {w : xw_T} {a ci k : Nat} {fs : List Value} (h : w a = some (.inr (ci, fs))) : xg w a ci k = fs[k]? := by
  unfold xg; rw [h]; exact if_pos rfl
theorem xp_of {w : xw_T} {a ci k : Nat} {fs : List Value} {v : Value} (h : w a = some (.inr (ci, fs))) : xp w a k v = va_up w a (some (.inr (ci, fs.set k v))) := by
  unfold xp; rw [h]
theorem xaI_of {w : xw_T} {a : Nat} {cA : ClassId} {n : Nat} {f : Nat → Int32} (h : w a = some (xcI cA n f)) : xaI w a cA = some (n, f) := by
  unfold xaI xaE; rw [h]; dsimp only; rw [if_pos rfl]; rfl
theorem xaL_of {w : xw_T} {a : Nat} {cA : ClassId} {n : Nat} {f : Nat → Int64} (h : w a = some (xcL cA n f)) : xaL w a cA = some (n, f) := by
  unfold xaL xaE; rw [h]; dsimp only; rw [if_pos rfl]; rfl
theorem xaQ_of {w : xw_T} {a : Nat} {cA : ClassId} {n : Nat} {f : Nat → Option Nat} (h : w a = some (xcQ cA n f)) : xaQ w a cA = some (n, f) := by
  unfold xaQ xaE; rw [h]; dsimp only; rw [if_pos rfl]; rfl
theorem va_rf_cat (r : Option Nat) : (va_rf r).category = 1 := by cases r <;> rfl
theorem xcat_i (x : Int32) : (Value.int x).category = 1 := rfl
theorem xcat_l (x : Int64) : (Value.long x).category = 2 := rfl
theorem xcat_r (x : Nat) : (Value.ref x).category = 1 := rfl
theorem xcat_n : (Value.null).category = 1 := rfl
theorem xw_in_A {A : Nat → Prop} {ws : va_W} {q : Nat} {e : va_E} (hD : va_D A (ws ++ [(q, e)])) : A q := hD.2 ws.length (q, e) (by rw [List.getElem?_append_right (Nat.le_refl _), Nat.sub_self]; rfl)
end
section
/-! ROWS OVER THE MAP: fields, arrays, new -/
section XR
variable {p : Program} {l : Launch} {e : Env} {R : Room} {s : State} {m : MethodId} {args : Array Value} {below : List Frame} {meth : Method} {c : Code} {H : Heap} {locs : List Loc} {cells slots : Nat} {Q : State → Prop}
variable {cc : ByteArray} {pc : Nat} {ls : Array Slot} {rest : List Value} {D : va_G} {cl : List vw_C} {A : Nat → Prop} {a : Nat} {tys : List (ClassId × FieldType)} {H0 : Heap} {w : xw_T}
theorem xw_get (hexec : p.tables.exec = Jvm.exec) (hb : c.code = cc) {own ref C : String} {T : u_T} {N ci index : Nat} {Ts : List Cond} (hts : ∀ w ∈ Ts, w.before args s = true) (hin : ∀ w ∈ u_ws C T N, w ∈ Ts) (hown : s.vm.findClass own = some m.cls) (hK : va_K D cl tys s) (hw : xw_S D cl A H0 w H locs) (hc : cl[ci]? = some (C, T, N)) (k : Nat) (hk : k < N) (hlink : (Cond.fieldLink own index ref (T k).2.1 (T k).2.2.1).before args s = true) (hsame : ∀ x, s.fieldFound? (T k).1 (T k).2.1 (T k).2.2.1 = some x → s.fieldFound? ref (T k).2.1 (T k).2.2.1 = some x) {v : Value} (hv : xg w a ci k = some v) (hdg : decode cc pc = .ok (.getfield index, 3))
    (kk : W p l e R s m args below meth c H locs cells slots Q (F0 m (pc + 3) ls (v :: rest))) : W p l e R s m args below meth c H locs cells slots Q (F0 m pc ls (.ref a :: rest)) := by
  obtain ⟨⟨ws, hi, hP, hD⟩, hS, hA⟩ := hw
  obtain ⟨fs, h1, h2⟩ := xg_spec hv
  obtain ⟨q0, hq⟩ := (hi _ _).mp h1
  exact va_get hexec hb hts hin hown hK hP q0 hq hc k hk hlink hsame h2 hdg kk
theorem xw_getI (hexec : p.tables.exec = Jvm.exec) (hb : c.code = cc) {own ref C : String} {T : u_T} {N ci index : Nat} {Ts : List Cond} (hts : ∀ w ∈ Ts, w.before args s = true) (hin : ∀ w ∈ u_ws C T N, w ∈ Ts) (hown : s.vm.findClass own = some m.cls) (hK : va_K D cl tys s) (hw : xw_S D cl A H0 w H locs) (hc : cl[ci]? = some (C, T, N)) (k : Nat) (hk : k < N) (hlink : (Cond.fieldLink own index ref (T k).2.1 (T k).2.2.1).before args s = true) (hsame : ∀ x, s.fieldFound? (T k).1 (T k).2.1 (T k).2.2.1 = some x → s.fieldFound? ref (T k).2.1 (T k).2.2.1 = some x) {v : Int32} (hv : xgI w a ci k = some v) (hdg : decode cc pc = .ok (.getfield index, 3))
    (kk : W p l e R s m args below meth c H locs cells slots Q (F0 m (pc + 3) ls (.int v :: rest))) : W p l e R s m args below meth c H locs cells slots Q (F0 m pc ls (.ref a :: rest)) := xw_get hexec hb hts hin hown hK hw hc k hk hlink hsame (xgI_spec hv) hdg kk
theorem xw_getL (hexec : p.tables.exec = Jvm.exec) (hb : c.code = cc) {own ref C : String} {T : u_T} {N ci index : Nat} {Ts : List Cond} (hts : ∀ w ∈ Ts, w.before args s = true) (hin : ∀ w ∈ u_ws C T N, w ∈ Ts) (hown : s.vm.findClass own = some m.cls) (hK : va_K D cl tys s) (hw : xw_S D cl A H0 w H locs) (hc : cl[ci]? = some (C, T, N)) (k : Nat) (hk : k < N) (hlink : (Cond.fieldLink own index ref (T k).2.1 (T k).2.2.1).before args s = true) (hsame : ∀ x, s.fieldFound? (T k).1 (T k).2.1 (T k).2.2.1 = some x → s.fieldFound? ref (T k).2.1 (T k).2.2.1 = some x) {v : Int64} (hv : xgL w a ci k = some v) (hdg : decode cc pc = .ok (.getfield index, 3))
    (kk : W p l e R s m args below meth c H locs cells slots Q (F0 m (pc + 3) ls (.long v :: rest))) : W p l e R s m args below meth c H locs cells slots Q (F0 m pc ls (.ref a :: rest)) := xw_get hexec hb hts hin hown hK hw hc k hk hlink hsame (xgL_spec hv) hdg kk
theorem xw_getR (hexec : p.tables.exec = Jvm.exec) (hb : c.code = cc) {own ref C : String} {T : u_T} {N ci index : Nat} {Ts : List Cond} (hts : ∀ w ∈ Ts, w.before args s = true) (hin : ∀ w ∈ u_ws C T N, w ∈ Ts) (hown : s.vm.findClass own = some m.cls) (hK : va_K D cl tys s) (hw : xw_S D cl A H0 w H locs) (hc : cl[ci]? = some (C, T, N)) (k : Nat) (hk : k < N) (hlink : (Cond.fieldLink own index ref (T k).2.1 (T k).2.2.1).before args s = true) (hsame : ∀ x, s.fieldFound? (T k).1 (T k).2.1 (T k).2.2.1 = some x → s.fieldFound? ref (T k).2.1 (T k).2.2.1 = some x) {v : Option Nat} (hv : xgR w a ci k = some v) (hdg : decode cc pc = .ok (.getfield index, 3))
    (kk : W p l e R s m args below meth c H locs cells slots Q (F0 m (pc + 3) ls (va_rf v :: rest))) : W p l e R s m args below meth c H locs cells slots Q (F0 m pc ls (.ref a :: rest)) := xw_get hexec hb hts hin hown hK hw hc k hk hlink hsame (xgR_spec hv) hdg kk
theorem xw_S_set {ws : va_W} {k : Nat} {e0 e1 : va_E} {H1 : Heap} {locs1 : List Loc} (hi : xw_in w ws) (hD0 : va_D A ws) (hA : ∀ q : Nat, H0.size ≤ q → A q) (hk : ws[k]? = some (a, e0)) (hP : va_P D cl (ws.set k (a, e1)) H1) (hD : va_D A (ws.set k (a, e1))) (hS : va_S A H0 H1 locs1) : xw_S D cl A H0 (va_up w a (some e1)) H1 locs1 :=
  ⟨⟨_, xw_in_set hi hD0 hk, hP, hD⟩, hS, hA⟩
theorem xw_put (hexec : p.tables.exec = Jvm.exec) (hb : c.code = cc) {own ref C : String} {T : u_T} {N ci index : Nat} {Ts : List Cond} (hts : ∀ w ∈ Ts, w.before args s = true) (hin : ∀ w ∈ u_ws C T N, w ∈ Ts) (ty0 : Nat → FieldType) (hty : ∀ k, k < N → parseFieldDescriptor (T k).2.2.1 = some (ty0 k)) (hnm : ∀ a, a < N → ∀ b, b < N → a ≠ b → (T a).2.1 ≠ (T b).2.1) (hown : s.vm.findClass own = some m.cls) (hK : va_K D cl tys s) (hw : xw_S D cl A H0 w H locs) (hc : cl[ci]? = some (C, T, N)) (k : Nat) (hk : k < N) (hlink : (Cond.fieldLink own index ref (T k).2.1 (T k).2.2.1).before args s = true) (hsame : ∀ x, s.fieldFound? (T k).1 (T k).2.1 (T k).2.2.1 = some x → s.fieldFound? ref (T k).2.1 (T k).2.2.1 = some x) (hfin : (T k).2.2.2 = false) {ty : FieldType} {v : Value} (hd : parseFieldDescriptor (T k).2.2.1 = some ty) (hn : narrow ty v = v) (hfit : fits ty v = true) (hv : ∃ v0, xg w a ci k = some v0)
    (hdg : decode cc pc = .ok (.putfield index, 3)) (kk : ∀ (H1 : Heap) (locs1 : List Loc), xw_S D cl A H0 (xp w a k v) H1 locs1 → W p l e R s m args below meth c H1 locs1 cells slots Q (F0 m (pc + 3) ls rest)) : W p l e R s m args below meth c H locs cells slots Q (F0 m pc ls (v :: .ref a :: rest)) := by
  obtain ⟨⟨ws, hi, hP, hD⟩, hS, hA⟩ := hw
  obtain ⟨v0, hv⟩ := hv
  obtain ⟨fs, h1, h2⟩ := xg_spec hv
  obtain ⟨q0, hq⟩ := (hi _ _).mp h1
  rw [xp_of h1] at kk
  exact va_put hexec hb hts hin ty0 hty hnm hown hK hP hD hS q0 hq hc k hk hlink hsame hfin hd hn hfit (List.getElem?_eq_some_iff.mp h2).1 hdg (fun H1 locs1 hP1 hD1 hS1 => kk H1 locs1 (xw_S_set hi hD hA hq hP1 hD1 hS1))
theorem xw_putF (hexec : p.tables.exec = Jvm.exec) (hb : c.code = cc) {own ref C : String} {T : u_T} {N ci index : Nat} {Ts : List Cond} (hts : ∀ w ∈ Ts, w.before args s = true) (hin : ∀ w ∈ u_ws C T N, w ∈ Ts) (ty0 : Nat → FieldType) (hty : ∀ k, k < N → parseFieldDescriptor (T k).2.2.1 = some (ty0 k)) (hnm : ∀ a, a < N → ∀ b, b < N → a ≠ b → (T a).2.1 ≠ (T b).2.1) (hown : s.vm.findClass own = some m.cls) (hK : va_K D cl tys s) (hw : xw_S D cl A H0 w H locs) (hc : cl[ci]? = some (C, T, N)) (k : Nat) (hk : k < N) (hlink : (Cond.fieldLink own index ref (T k).2.1 (T k).2.2.1).before args s = true) (hsame : ∀ x, s.fieldFound? (T k).1 (T k).2.1 (T k).2.2.1 = some x → s.fieldFound? ref (T k).2.1 (T k).2.2.1 = some x) (hfin : (T k).2.2.2 = true) (hin2 : meth.name = "<init>") (hdecl : (T k).1 = own) {ty : FieldType} {v : Value} (hd : parseFieldDescriptor (T k).2.2.1 = some ty) (hn : narrow ty v = v) (hfit : fits ty v = true) (hv : ∃ v0, xg w a ci k = some v0)
    (hdg : decode cc pc = .ok (.putfield index, 3)) (kk : ∀ (H1 : Heap) (locs1 : List Loc), xw_S D cl A H0 (xp w a k v) H1 locs1 → W p l e R s m args below meth c H1 locs1 cells slots Q (F0 m (pc + 3) ls rest)) : W p l e R s m args below meth c H locs cells slots Q (F0 m pc ls (v :: .ref a :: rest)) := by
  obtain ⟨⟨ws, hi, hP, hD⟩, hS, hA⟩ := hw
  obtain ⟨v0, hv⟩ := hv
  obtain ⟨fs, h1, h2⟩ := xg_spec hv
  obtain ⟨q0, hq⟩ := (hi _ _).mp h1
  rw [xp_of h1] at kk
  exact va_putF hexec hb hts hin ty0 hty hnm hown hK hP hD hS q0 hq hc k hk hlink hsame hfin hin2 hdecl hd hn hfit (List.getElem?_eq_some_iff.mp h2).1 hdg (fun H1 locs1 hP1 hD1 hS1 => kk H1 locs1 (xw_S_set hi hD hA hq hP1 hD1 hS1))
theorem xw_getN (hexec : p.tables.exec = Jvm.exec) (hb : c.code = cc) {own ref C host : String} {T : u_T} {N ci index : Nat} {Ts : List Cond} (hts : ∀ w ∈ Ts, w.before args s = true) (hin : ∀ w ∈ u_ws C T N, w ∈ Ts) (hown : s.vm.findClass own = some m.cls) (hK : va_K D cl tys s) (hw : xw_S D cl A H0 w H locs) (hc : cl[ci]? = some (C, T, N)) (k : Nat) (hk : k < N) (hlink : (Cond.fieldLinkNest own index ref (T k).2.1 (T k).2.2.1 host).before args s = true) (hsame : ∀ x, s.fieldFound? (T k).1 (T k).2.1 (T k).2.2.1 = some x → s.fieldFound? ref (T k).2.1 (T k).2.2.1 = some x) {v : Value} (hv : xg w a ci k = some v) (hdg : decode cc pc = .ok (.getfield index, 3))
    (kk : W p l e R s m args below meth c H locs cells slots Q (F0 m (pc + 3) ls (v :: rest))) : W p l e R s m args below meth c H locs cells slots Q (F0 m pc ls (.ref a :: rest)) := by
  obtain ⟨⟨ws, hi, hP, hD⟩, hS, hA⟩ := hw
  obtain ⟨fs, h1, h2⟩ := xg_spec hv
  obtain ⟨q0, hq⟩ := (hi _ _).mp h1
  exact va_getN hexec hb hts hin hown hK hP q0 hq hc k hk hlink hsame h2 hdg kk
theorem xw_putN (hexec : p.tables.exec = Jvm.exec) (hb : c.code = cc) {own ref C host : String} {T : u_T} {N ci index : Nat} {Ts : List Cond} (hts : ∀ w ∈ Ts, w.before args s = true) (hin : ∀ w ∈ u_ws C T N, w ∈ Ts) (ty0 : Nat → FieldType) (hty : ∀ k, k < N → parseFieldDescriptor (T k).2.2.1 = some (ty0 k)) (hnm : ∀ a, a < N → ∀ b, b < N → a ≠ b → (T a).2.1 ≠ (T b).2.1) (hown : s.vm.findClass own = some m.cls) (hK : va_K D cl tys s) (hw : xw_S D cl A H0 w H locs) (hc : cl[ci]? = some (C, T, N)) (k : Nat) (hk : k < N) (hlink : (Cond.fieldLinkNest own index ref (T k).2.1 (T k).2.2.1 host).before args s = true) (hsame : ∀ x, s.fieldFound? (T k).1 (T k).2.1 (T k).2.2.1 = some x → s.fieldFound? ref (T k).2.1 (T k).2.2.1 = some x) (hfin : (T k).2.2.2 = false) {ty : FieldType} {v : Value} (hd : parseFieldDescriptor (T k).2.2.1 = some ty) (hn : narrow ty v = v) (hfit : fits ty v = true) (hv : ∃ v0, xg w a ci k = some v0)
    (hdg : decode cc pc = .ok (.putfield index, 3)) (kk : ∀ (H1 : Heap) (locs1 : List Loc), xw_S D cl A H0 (xp w a k v) H1 locs1 → W p l e R s m args below meth c H1 locs1 cells slots Q (F0 m (pc + 3) ls rest)) : W p l e R s m args below meth c H locs cells slots Q (F0 m pc ls (v :: .ref a :: rest)) := by
  obtain ⟨⟨ws, hi, hP, hD⟩, hS, hA⟩ := hw
  obtain ⟨v0, hv⟩ := hv
  obtain ⟨fs, h1, h2⟩ := xg_spec hv
  obtain ⟨q0, hq⟩ := (hi _ _).mp h1
  rw [xp_of h1] at kk
  exact va_putN hexec hb hts hin ty0 hty hnm hown hK hP hD hS q0 hq hc k hk hlink hsame hfin hd hn hfit (List.getElem?_eq_some_iff.mp h2).1 hdg (fun H1 locs1 hP1 hD1 hS1 => kk H1 locs1 (xw_S_set hi hD hA hq hP1 hD1 hS1))
theorem xw_new (hexec : p.tables.exec = Jvm.exec) (hb : c.code = cc) {own C : String} {T : u_T} {N ci index : Nat} {Ts : List Cond} (hts : ∀ w ∈ Ts, w.before args s = true) (hin : ∀ w ∈ u_ws C T N, w ∈ Ts) (ty : Nat → FieldType) (hty : ∀ k, k < N → parseFieldDescriptor (T k).2.2.1 = some (ty k)) (hown : s.vm.findClass own = some m.cls) (hcl : (Cond.classLink own index C).before args s = true) (hinst : (Cond.instantiable C N).before args s = true) (hini : (Cond.initialized C).before args s = true)
    (hK : va_K D cl tys s) (hw : xw_S D cl A H0 w H locs) (hc : cl[ci]? = some (C, T, N)) {fs : List Value} (hfs : ∀ j, j < N → defaultValue (ty j) = vp_V fs j) (hcells : cells + 1 ≤ R.cells) (hslots : slots + N ≤ R.slots) (hdg : decode cc pc = .ok (.new index, 3))
    (kk : ∀ (q : Nat) (H1 : Heap), w q = none → A q → xw_S D cl A H0 (va_up w q (some (.inr (ci, fs)))) H1 locs → W p l e R s m args below meth c H1 locs (cells + 1) (slots + N) Q (F0 m (pc + 3) ls (.ref q :: rest))) : W p l e R s m args below meth c H locs cells slots Q (F0 m pc ls rest) := by
  obtain ⟨⟨ws, hi, hP, hD⟩, hS, hA⟩ := hw
  exact va_new hexec hb hts hin ty hty hown hcl hinst hini hK hP hD hS hA hc hfs hcells hslots hdg (fun q H1 hP1 hD1 hS1 => kk q H1 (xw_in_fresh hi hD1) (xw_in_A hD1) ⟨⟨_, xw_in_push hi hD1, hP1, hD1⟩, hS1, hA⟩)
/-- arrays -/
theorem xw_alen (hexec : p.tables.exec = Jvm.exec) (hb : c.code = cc) (hK : va_K D cl tys s) (hw : xw_S D cl A H0 w H locs) (t0 : Nat) {cA : ClassId} {ty : FieldType} (ht : tys[t0]? = some (cA, ty)) {x : vp_A} (ha : w a = some (.inl (cA, x))) (hdg : decode cc pc = .ok (.arraylength, 1))
    (kk : W p l e R s m args below meth c H locs cells slots Q (F0 m (pc + 1) ls (.int (nI x.1) :: rest))) : W p l e R s m args below meth c H locs cells slots Q (F0 m pc ls (.ref a :: rest)) := by
  obtain ⟨⟨ws, hi, hP, hD⟩, hS, hA⟩ := hw
  obtain ⟨q0, hq⟩ := (hi _ _).mp ha
  exact va_alen hexec hb hK hP q0 t0 hq ht rfl hdg kk
theorem xw_iald (hexec : p.tables.exec = Jvm.exec) (hb : c.code = cc) (hK : va_K D cl tys s) (hw : xw_S D cl A H0 w H locs) (t0 : Nat) {cA : ClassId} (ht : tys[t0]? = some (cA, .int)) {n : Nat} {f : Nat → Int32} (ha : xaI w a cA = some (n, f)) {i : Int32} (hin : vp_in i n) (hdg : decode cc pc = .ok (.iaload, 1))
    (kk : W p l e R s m args below meth c H locs cells slots Q (F0 m (pc + 1) ls (.int (f i.toNatClampNeg) :: rest))) : W p l e R s m args below meth c H locs cells slots Q (F0 m pc ls (.int i :: .ref a :: rest)) := by
  obtain ⟨⟨ws, hi, hP, hD⟩, hS, hA⟩ := hw
  obtain ⟨q0, hq⟩ := (hi _ _).mp (xaI_spec ha)
  exact va_iald hexec hb hK hP q0 t0 hq ht hin hdg kk
theorem xw_zald (hexec : p.tables.exec = Jvm.exec) (hb : c.code = cc) (hK : va_K D cl tys s) (hw : xw_S D cl A H0 w H locs) (t0 : Nat) {cA : ClassId} (ht : tys[t0]? = some (cA, .boolean)) {n : Nat} {f : Nat → Int32} (ha : xaI w a cA = some (n, f)) {i : Int32} (hin : vp_in i n) (hdg : decode cc pc = .ok (.baload, 1))
    (kk : W p l e R s m args below meth c H locs cells slots Q (F0 m (pc + 1) ls (.int (f i.toNatClampNeg) :: rest))) : W p l e R s m args below meth c H locs cells slots Q (F0 m pc ls (.int i :: .ref a :: rest)) := by
  obtain ⟨⟨ws, hi, hP, hD⟩, hS, hA⟩ := hw
  obtain ⟨q0, hq⟩ := (hi _ _).mp (xaI_spec ha)
  exact va_zald hexec hb hK hP q0 t0 hq ht hin hdg kk
theorem xw_lald (hexec : p.tables.exec = Jvm.exec) (hb : c.code = cc) (hK : va_K D cl tys s) (hw : xw_S D cl A H0 w H locs) (t0 : Nat) {cA : ClassId} (ht : tys[t0]? = some (cA, .long)) {n : Nat} {f : Nat → Int64} (ha : xaL w a cA = some (n, f)) {i : Int32} (hin : vp_in i n) (hdg : decode cc pc = .ok (.laload, 1))
    (kk : W p l e R s m args below meth c H locs cells slots Q (F0 m (pc + 1) ls (.long (f i.toNatClampNeg) :: rest))) : W p l e R s m args below meth c H locs cells slots Q (F0 m pc ls (.int i :: .ref a :: rest)) := by
  obtain ⟨⟨ws, hi, hP, hD⟩, hS, hA⟩ := hw
  obtain ⟨q0, hq⟩ := (hi _ _).mp (xaL_spec ha)
  exact va_lald hexec hb hK hP q0 t0 hq ht hin hdg kk
theorem xw_aald (hexec : p.tables.exec = Jvm.exec) (hb : c.code = cc) (hK : va_K D cl tys s) (hw : xw_S D cl A H0 w H locs) (t0 : Nat) {cA : ClassId} {C : String} (ht : tys[t0]? = some (cA, .object C)) {n : Nat} {f : Nat → Option Nat} (ha : xaQ w a cA = some (n, f)) {i : Int32} (hin : vp_in i n) (hdg : decode cc pc = .ok (.aaload, 1))
    (kk : W p l e R s m args below meth c H locs cells slots Q (F0 m (pc + 1) ls (va_rf (f i.toNatClampNeg) :: rest))) : W p l e R s m args below meth c H locs cells slots Q (F0 m pc ls (.int i :: .ref a :: rest)) := by
  obtain ⟨⟨ws, hi, hP, hD⟩, hS, hA⟩ := hw
  obtain ⟨q0, hq⟩ := (hi _ _).mp (xaQ_spec ha)
  exact va_aldq hexec hb hK hP q0 t0 hq ht hin hdg kk
end XR
end
section
/-! ROWS OVER THE MAP: stores into arrays, new arrays, casts, locals that hold a reference or null, compares of longs -/
section XR2
variable {p : Program} {l : Launch} {e : Env} {R : Room} {s : State} {m : MethodId} {args : Array Value} {below : List Frame} {meth : Method} {c : Code} {H : Heap} {locs : List Loc} {cells slots : Nat} {Q : State → Prop}
variable {cc : ByteArray} {pc : Nat} {ls : Array Slot} {rest : List Value} {D : va_G} {cl : List vw_C} {A : Nat → Prop} {a : Nat} {tys : List (ClassId × FieldType)} {H0 : Heap} {w : xw_T}
theorem xw_iast (hexec : p.tables.exec = Jvm.exec) (hb : c.code = cc) (hK : va_K D cl tys s) (hw : xw_S D cl A H0 w H locs) (t0 : Nat) {cA : ClassId} (ht : tys[t0]? = some (cA, .int)) {n : Nat} {f : Nat → Int32} (ha : xaI w a cA = some (n, f)) {i x : Int32} (hin : vp_in i n) (hdg : decode cc pc = .ok (.iastore, 1))
    (kk : ∀ (H1 : Heap) (locs1 : List Loc), xw_S D cl A H0 (va_up w a (some (xcI cA n (upd f i.toNatClampNeg x)))) H1 locs1 → W p l e R s m args below meth c H1 locs1 cells slots Q (F0 m (pc + 1) ls rest)) : W p l e R s m args below meth c H locs cells slots Q (F0 m pc ls (.int x :: .int i :: .ref a :: rest)) := by
  obtain ⟨⟨ws, hi, hP, hD⟩, hS, hA⟩ := hw
  obtain ⟨q0, hq⟩ := (hi _ _).mp (xaI_spec ha)
  exact va_iast hexec hb hK hP hD hS q0 t0 hq ht hin hdg (fun H1 locs1 hP1 hD1 hS1 => kk H1 locs1 (xw_S_set hi hD hA hq hP1 hD1 hS1))
theorem xw_zast (hexec : p.tables.exec = Jvm.exec) (hb : c.code = cc) (hK : va_K D cl tys s) (hw : xw_S D cl A H0 w H locs) (t0 : Nat) {cA : ClassId} (ht : tys[t0]? = some (cA, .boolean)) {n : Nat} {f : Nat → Int32} (ha : xaI w a cA = some (n, f)) {i x : Int32} (hin : vp_in i n) (hdg : decode cc pc = .ok (.bastore, 1))
    (kk : ∀ (H1 : Heap) (locs1 : List Loc), xw_S D cl A H0 (va_up w a (some (xcI cA n (upd f i.toNatClampNeg (vp_nar .boolean x))))) H1 locs1 → W p l e R s m args below meth c H1 locs1 cells slots Q (F0 m (pc + 1) ls rest)) : W p l e R s m args below meth c H locs cells slots Q (F0 m pc ls (.int x :: .int i :: .ref a :: rest)) := by
  obtain ⟨⟨ws, hi, hP, hD⟩, hS, hA⟩ := hw
  obtain ⟨q0, hq⟩ := (hi _ _).mp (xaI_spec ha)
  exact va_zast hexec hb hK hP hD hS q0 t0 hq ht hin hdg (fun H1 locs1 hP1 hD1 hS1 => kk H1 locs1 (xw_S_set hi hD hA hq hP1 hD1 hS1))
theorem xw_last (hexec : p.tables.exec = Jvm.exec) (hb : c.code = cc) (hK : va_K D cl tys s) (hw : xw_S D cl A H0 w H locs) (t0 : Nat) {cA : ClassId} (ht : tys[t0]? = some (cA, .long)) {n : Nat} {f : Nat → Int64} (ha : xaL w a cA = some (n, f)) {i : Int32} {x : Int64} (hin : vp_in i n) (hdg : decode cc pc = .ok (.lastore, 1))
    (kk : ∀ (H1 : Heap) (locs1 : List Loc), xw_S D cl A H0 (va_up w a (some (xcL cA n (vp_updL f i.toNatClampNeg x)))) H1 locs1 → W p l e R s m args below meth c H1 locs1 cells slots Q (F0 m (pc + 1) ls rest)) : W p l e R s m args below meth c H locs cells slots Q (F0 m pc ls (.long x :: .int i :: .ref a :: rest)) := by
  obtain ⟨⟨ws, hi, hP, hD⟩, hS, hA⟩ := hw
  obtain ⟨q0, hq⟩ := (hi _ _).mp (xaL_spec ha)
  exact va_last hexec hb hK hP hD hS q0 t0 hq ht hin hdg (fun H1 locs1 hP1 hD1 hS1 => kk H1 locs1 (xw_S_set hi hD hA hq hP1 hD1 hS1))
/-- an object of the world into an array of Objects (or of its own kind): what can be assigned is said by hasg -/
theorem xw_aast (hexec : p.tables.exec = Jvm.exec) (hb : c.code = cc) (hK : va_K D cl tys s) (hw : xw_S D cl A H0 w H locs) (t0 : Nat) {cA : ClassId} {E : String} (ht : tys[t0]? = some (cA, .object E)) {n : Nat} {f : Nat → Option Nat} (ha : xaQ w a cA = some (n, f)) {v ci : Nat} {vs : List Value} {r : vw_C} (hv : w v = some (.inr (ci, vs))) (hc : cl[ci]? = some r) (hasg : ∀ comp c0 : ClassId, s.vm.findClass E = some comp → s.vm.findClass r.1 = some c0 → s.vm.assignable c0 comp = true) {i : Int32} (hin : vp_in i n) (hdg : decode cc pc = .ok (.aastore, 1))
    (kk : ∀ (H1 : Heap) (locs1 : List Loc), xw_S D cl A H0 (va_up w a (some (xcQ cA n (va_up f i.toNatClampNeg (some v))))) H1 locs1 → W p l e R s m args below meth c H1 locs1 cells slots Q (F0 m (pc + 1) ls rest)) : W p l e R s m args below meth c H locs cells slots Q (F0 m pc ls (.ref v :: .int i :: .ref a :: rest)) := by
  obtain ⟨⟨ws, hi, hP, hD⟩, hS, hA⟩ := hw
  obtain ⟨q0, hq⟩ := (hi _ _).mp (xaQ_spec ha)
  obtain ⟨qk, hqk⟩ := (hi _ _).mp hv
  exact va_astqM hexec hb hK hP hD hS q0 t0 hq ht (va_rAny hK hP hqk hc hasg) hin hdg (fun H1 locs1 hP1 hD1 hS1 => kk H1 locs1 (xw_S_set hi hD hA hq hP1 hD1 hS1))
/-- the receiver of a call, by the map -/
theorem xw_recv (hK : va_K D cl tys s) (hw : xw_S D cl A H0 w H locs) {ci : Nat} {q : vw_C} {fs : List Value} (hc : cl[ci]? = some q) (he : w a = some (.inr (ci, fs))) : ∃ cell : Cell, H[a]? = some cell ∧ cell.vm.isStatics = false ∧ s.vm.findClass q.1 = some cell.cls := by
  obtain ⟨⟨ws, hi, hP, hD⟩, hS, hA⟩ := hw
  obtain ⟨q0, hq⟩ := (hi _ _).mp he
  exact va_recv hK hP hc hq
/-- a reference or null in a slot -/
theorem xl_aload_n (hexec : p.tables.exec = Jvm.exec) (hb : c.code = cc) {k : Fin 4} {i : Nat} {r : Option Nat} (hdg : decode cc pc = .ok (.aload_n k, 1)) (hi : (k : Nat) = i) (hl : ls[i]? = some (.val (va_rf r)))
    (kk : W p l e R s m args below meth c H locs cells slots Q (F0 m (pc + 1) ls (va_rf r :: rest))) : W p l e R s m args below meth c H locs cells slots Q (F0 m pc ls rest) := by
  cases r with
  | none => exact lv_aload_nN hexec hb hdg hi hl kk
  | some x => exact lv_aload_n hexec hb hdg hi hl kk
theorem xl_aload (hexec : p.tables.exec = Jvm.exec) (hb : c.code = cc) {i : Nat} {r : Option Nat} (hdg : decode cc pc = .ok (.aload i, 2)) (hl : ls[i]? = some (.val (va_rf r)))
    (kk : W p l e R s m args below meth c H locs cells slots Q (F0 m (pc + 2) ls (va_rf r :: rest))) : W p l e R s m args below meth c H locs cells slots Q (F0 m pc ls rest) := by
  cases r with
  | none => exact lv_aloadN hexec hb hdg hl kk
  | some x => exact lv_aload hexec hb hdg hl kk
theorem xl_astore_n (hexec : p.tables.exec = Jvm.exec) (hb : c.code = cc) {k : Fin 4} {i nL : Nat} {r : Option Nat} {lv lv' : List (Nat × Value)} (hdg : decode cc pc = .ok (.astore_n k, 1)) (hi : (k : Nat) = i) (h : lv_has ls nL lv) (hn : i < nL) (hl : (i, va_rf r) :: lv.filter (fun q => !(q.1 == i) && !(q.1 + 1 == i && q.2.category == 2)) = lv')
    (kk : ∀ ls' : Array Slot, lv_has ls' nL lv' → W p l e R s m args below meth c H locs cells slots Q (F0 m (pc + 1) ls' rest)) : W p l e R s m args below meth c H locs cells slots Q (F0 m pc ls (va_rf r :: rest)) := by
  cases r with
  | none => exact lv_astore_nN hexec hb hdg hi h hn hl kk
  | some x => exact lv_astore_n hexec hb hdg hi h hn hl kk
theorem xl_astore (hexec : p.tables.exec = Jvm.exec) (hb : c.code = cc) {i nL : Nat} {r : Option Nat} {lv lv' : List (Nat × Value)} (hdg : decode cc pc = .ok (.astore i, 2)) (h : lv_has ls nL lv) (hn : i < nL) (hl : (i, va_rf r) :: lv.filter (fun q => !(q.1 == i) && !(q.1 + 1 == i && q.2.category == 2)) = lv')
    (kk : ∀ ls' : Array Slot, lv_has ls' nL lv' → W p l e R s m args below meth c H locs cells slots Q (F0 m (pc + 2) ls' rest)) : W p l e R s m args below meth c H locs cells slots Q (F0 m pc ls (va_rf r :: rest)) := by
  cases r with
  | none => exact lv_astoreN hexec hb hdg h hn hl kk
  | some x => exact lv_astore hexec hb hdg h hn hl kk
theorem xl_ifnull (hexec : p.tables.exec = Jvm.exec) (hb : c.code = cc) {r : Option Nat} {off : Int} {tgt : Nat} (hdg : decode cc pc = .ok (.ifnull off, 3)) (ht : (pc : Int) + off = (tgt : Int))
    (kt : r = none → W p l e R s m args below meth c H locs cells slots Q (F0 m tgt ls rest)) (kf : ¬ r = none → W p l e R s m args below meth c H locs cells slots Q (F0 m (pc + 3) ls rest)) : W p l e R s m args below meth c H locs cells slots Q (F0 m pc ls (va_rf r :: rest)) := by
  cases r with
  | none => exact lv_ifnullN hexec hb hdg ht (kt rfl)
  | some x => exact lv_ifnull hexec hb hdg (kf (fun h => by cases h))
theorem xl_ifnonnull (hexec : p.tables.exec = Jvm.exec) (hb : c.code = cc) {r : Option Nat} {off : Int} {tgt : Nat} (hdg : decode cc pc = .ok (.ifnonnull off, 3)) (ht : (pc : Int) + off = (tgt : Int))
    (kt : ¬ r = none → W p l e R s m args below meth c H locs cells slots Q (F0 m tgt ls rest)) (kf : r = none → W p l e R s m args below meth c H locs cells slots Q (F0 m (pc + 3) ls rest)) : W p l e R s m args below meth c H locs cells slots Q (F0 m pc ls (va_rf r :: rest)) := by
  cases r with
  | none => exact lv_ifnonnullN hexec hb hdg (kf rfl)
  | some x => exact lv_ifnonnull hexec hb hdg ht (kt (fun h => by cases h))
end XR2
end
section
/-! lcmp and the branch behind it, in one row -/
section XLC
variable {p : Program} {l : Launch} {e : Env} {R : Room} {s : State} {m : MethodId} {args : Array Value} {below : List Frame} {meth : Method} {c : Code} {H : Heap} {locs : List Loc} {cells slots : Nat} {Q : State → Prop} {cc : ByteArray} {pc : Nat} {ls : Array Slot} {rest : List Value}
theorem xl_lc_eq (hexec : p.tables.exec = Jvm.exec) (hb : c.code = cc) {x y : Int64} {off : Int} {tgt : Nat} (hd1 : decode cc pc = .ok (.lcmp, 1)) (hd2 : decode cc (pc + 1) = .ok (.ifCond .eq off, 3)) (ht : ((pc + 1 : Nat) : Int) + off = (tgt : Int))
    (kt : x = y → W p l e R s m args below meth c H locs cells slots Q (F0 m tgt ls rest)) (kf : ¬ x = y → W p l e R s m args below meth c H locs cells slots Q (F0 m (pc + 1 + 3) ls rest)) : W p l e R s m args below meth c H locs cells slots Q (F0 m pc ls (.long y :: .long x :: rest)) :=
  W.lcmp hexec hb hd1 (lv_if_eq hexec hb hd2 ht (fun h => kt ((lg_cmp_eq x y).mp h)) (fun h => kf (fun q => h ((lg_cmp_eq x y).mpr q))))
theorem xl_lc_ne (hexec : p.tables.exec = Jvm.exec) (hb : c.code = cc) {x y : Int64} {off : Int} {tgt : Nat} (hd1 : decode cc pc = .ok (.lcmp, 1)) (hd2 : decode cc (pc + 1) = .ok (.ifCond .ne off, 3)) (ht : ((pc + 1 : Nat) : Int) + off = (tgt : Int))
    (kt : ¬ x = y → W p l e R s m args below meth c H locs cells slots Q (F0 m tgt ls rest)) (kf : x = y → W p l e R s m args below meth c H locs cells slots Q (F0 m (pc + 1 + 3) ls rest)) : W p l e R s m args below meth c H locs cells slots Q (F0 m pc ls (.long y :: .long x :: rest)) :=
  W.lcmp hexec hb hd1 (lv_if_ne hexec hb hd2 ht (fun h => kt (fun q => h ((lg_cmp_eq x y).mpr q))) (fun h => kf ((lg_cmp_eq x y).mp h)))
theorem xl_lc_lt (hexec : p.tables.exec = Jvm.exec) (hb : c.code = cc) {x y : Int64} {off : Int} {tgt : Nat} (hd1 : decode cc pc = .ok (.lcmp, 1)) (hd2 : decode cc (pc + 1) = .ok (.ifCond .lt off, 3)) (ht : ((pc + 1 : Nat) : Int) + off = (tgt : Int))
    (kt : x < y → W p l e R s m args below meth c H locs cells slots Q (F0 m tgt ls rest)) (kf : ¬ x < y → W p l e R s m args below meth c H locs cells slots Q (F0 m (pc + 1 + 3) ls rest)) : W p l e R s m args below meth c H locs cells slots Q (F0 m pc ls (.long y :: .long x :: rest)) :=
  W.lcmp hexec hb hd1 (lv_if_lt hexec hb hd2 ht (fun h => kt ((lg_cmp_lt x y).mp h)) (fun h => kf (fun q => h ((lg_cmp_lt x y).mpr q))))
theorem xl_lc_ge (hexec : p.tables.exec = Jvm.exec) (hb : c.code = cc) {x y : Int64} {off : Int} {tgt : Nat} (hd1 : decode cc pc = .ok (.lcmp, 1)) (hd2 : decode cc (pc + 1) = .ok (.ifCond .ge off, 3)) (ht : ((pc + 1 : Nat) : Int) + off = (tgt : Int))
    (kt : y ≤ x → W p l e R s m args below meth c H locs cells slots Q (F0 m tgt ls rest)) (kf : ¬ y ≤ x → W p l e R s m args below meth c H locs cells slots Q (F0 m (pc + 1 + 3) ls rest)) : W p l e R s m args below meth c H locs cells slots Q (F0 m pc ls (.long y :: .long x :: rest)) :=
  W.lcmp hexec hb hd1 (lv_if_ge hexec hb hd2 ht (fun h => kt ((lg_cmp_ge x y).mp h)) (fun h => kf (fun q => h ((lg_cmp_ge x y).mpr q))))
theorem xl_lc_gt (hexec : p.tables.exec = Jvm.exec) (hb : c.code = cc) {x y : Int64} {off : Int} {tgt : Nat} (hd1 : decode cc pc = .ok (.lcmp, 1)) (hd2 : decode cc (pc + 1) = .ok (.ifCond .gt off, 3)) (ht : ((pc + 1 : Nat) : Int) + off = (tgt : Int))
    (kt : y < x → W p l e R s m args below meth c H locs cells slots Q (F0 m tgt ls rest)) (kf : ¬ y < x → W p l e R s m args below meth c H locs cells slots Q (F0 m (pc + 1 + 3) ls rest)) : W p l e R s m args below meth c H locs cells slots Q (F0 m pc ls (.long y :: .long x :: rest)) :=
  W.lcmp hexec hb hd1 (lv_if_gt hexec hb hd2 ht (fun h => kt ((lg_cmp_gt x y).mp h)) (fun h => kf (fun q => h ((lg_cmp_gt x y).mpr q))))
theorem xl_lc_le (hexec : p.tables.exec = Jvm.exec) (hb : c.code = cc) {x y : Int64} {off : Int} {tgt : Nat} (hd1 : decode cc pc = .ok (.lcmp, 1)) (hd2 : decode cc (pc + 1) = .ok (.ifCond .le off, 3)) (ht : ((pc + 1 : Nat) : Int) + off = (tgt : Int))
    (kt : x ≤ y → W p l e R s m args below meth c H locs cells slots Q (F0 m tgt ls rest)) (kf : ¬ x ≤ y → W p l e R s m args below meth c H locs cells slots Q (F0 m (pc + 1 + 3) ls rest)) : W p l e R s m args below meth c H locs cells slots Q (F0 m pc ls (.long y :: .long x :: rest)) :=
  W.lcmp hexec hb hd1 (lv_if_le hexec hb hd2 ht (fun h => kt ((lg_cmp_le x y).mp h)) (fun h => kf (fun q => h ((lg_cmp_le x y).mpr q))))
end XLC
end
section
/-! CALLS AND ENDS OVER THE MAP -/
/-- a method's start and end: the map stands -/
def xB (D : va_G) (A : Nat → Prop) (w : xw_T) (t : State) : Prop := ∃ ws : va_W, xw_in w ws ∧ va_P D vwCl ws t.heap ∧ va_D A ws
def xP (D : va_G) (E : xE_T) (A : Nat → Prop) (w : xw_T) (U : State) : Prop := (xB D A w U ∧ ∀ q : Nat, U.heap.size ≤ q → A q) ∧ va_K D vwCl (xtys E) U ∧ xF E A U
section XC
variable {p : Program} {l : Launch} {e : Env} {R : Room} {s : State} {m : MethodId} {args : Array Value} {below : List Frame} {meth : Method} {c : Code} {H : Heap} {locs : List Loc} {cells slots : Nat} {Q : State → Prop}
variable {cc : ByteArray} {pc : Nat} {ls : Array Slot} {rest st0 : List Value} {D : va_G} {E : xE_T} {A : Nat → Prop} {w : xw_T} {mc ms : Nat} {a : Array Value}
theorem xw_S0 (h : xB D A w s ∧ ∀ q : Nat, s.heap.size ≤ q → A q) : xw_S D vwCl A s.heap w s.heap [] := ⟨h.1, va_S.rf, h.2⟩
theorem xP_of {U : State} (hw : xw_S D vwCl A s.heap w H locs) (hK : va_K D vwCl (xtys E) s) (hE : xF E A s) (hU : U.heap = H) (hW : s.WarmedH U.vm) : xP D E A w U := by
  obtain ⟨⟨ws, h1, h2, h3⟩, hS, hA⟩ := hw
  refine ⟨⟨⟨ws, h1, by rw [hU]; exact h2, h3⟩, fun q hq => hA q (Nat.le_trans hS.1 (by rw [← hU]; exact hq))⟩, va_K.moved hW.alike hK, xF_of hE hW (by rw [hU]; exact hS)⟩
theorem xP_blind {U : State} {g : JFrame} {mk : MethodId} {a : Array Value} (h : xP D E A w U) : xP D E A w (U.calling g mk a) :=
  ⟨h.1, va_K.moved (u := U) (U := U.calling g mk a) (Vm.Alike.refl U.vm) h.2.1, xF_call h.2.2⟩
theorem xw_preV {ci : Nat} {q : vw_C} {b : Nat} {fs : List Value} {As : List Value} (hw : xw_S D vwCl A s.heap w H locs) (hK : va_K D vwCl (xtys E) s) (hE : xF E A s) (hc : vwCl[ci]? = some q) (hk : w b = some (.inr (ci, fs))) : PreV s H q.1 b (va_Pc (.ref b :: As) (xP D E A w)) As :=
  ⟨fun _ _ _ _ h => ⟨h.1, xP_blind h.2⟩, xw_recv hK hw hc hk, fun _ hU hW => ⟨rfl, xP_of hw hK hE hU hW⟩⟩
theorem xw_preS {As : List Value} (hw : xw_S D vwCl A s.heap w H locs) (hK : va_K D vwCl (xtys E) s) (hE : xF E A s) : PreS s H (va_Pc As (xP D E A w)) As :=
  ⟨fun _ _ _ _ h => ⟨h.1, xP_blind h.2⟩, fun _ hU hW => ⟨rfl, xP_of hw hK hE hU hW⟩⟩
theorem xB_of {t : State} {H1 : Heap} (ht : t.heap = H1) (hB : xB D A w t) : ∃ ws : va_W, xw_in w ws ∧ va_P D vwCl ws H1 ∧ va_D A ws := by
  obtain ⟨ws, h1, h2, h3⟩ := hB
  exact ⟨ws, h1, by rw [← ht]; exact h2, h3⟩
theorem xw_calli {w0 : xw_T} {post : Int32 → xw_T → Prop} (hr : va_Run p l e R s m args below meth c H locs cells slots mc ms (F0 m pc ls st0) rest (va_Qi post (xB D A) A a) A) (hw : xw_S D vwCl A s.heap w0 H locs)
    (kk : ∀ (r : Int32) (w1 : xw_T) (H1 : Heap) (locs1 : List Loc), post r w1 → xw_S D vwCl A s.heap w1 H1 locs1 → W p l e R s m args below meth c H1 locs1 (cells + mc) (slots + ms) Q (F0 m (pc + 3) ls (.int r :: rest))) : W p l e R s m args below meth c H locs cells slots Q (F0 m pc ls st0) :=
  va_calli hr hw.2.1 (fun _ _ h => h) (fun _ h => h) (fun r u _ H1 locs1 ht _ hp hB _ _ hS => kk r u H1 locs1 hp ⟨xB_of ht hB, hS, hw.2.2⟩)
theorem xw_calll {w0 : xw_T} {post : Int64 → xw_T → Prop} (hr : va_Run p l e R s m args below meth c H locs cells slots mc ms (F0 m pc ls st0) rest (va_Ql post (xB D A) A a) A) (hw : xw_S D vwCl A s.heap w0 H locs)
    (kk : ∀ (r : Int64) (w1 : xw_T) (H1 : Heap) (locs1 : List Loc), post r w1 → xw_S D vwCl A s.heap w1 H1 locs1 → W p l e R s m args below meth c H1 locs1 (cells + mc) (slots + ms) Q (F0 m (pc + 3) ls (.long r :: rest))) : W p l e R s m args below meth c H locs cells slots Q (F0 m pc ls st0) :=
  va_calll hr hw.2.1 (fun _ _ h => h) (fun _ h => h) (fun r u _ H1 locs1 ht _ hp hB _ _ hS => kk r u H1 locs1 hp ⟨xB_of ht hB, hS, hw.2.2⟩)
theorem xw_callq {w0 : xw_T} {post : Option Nat → xw_T → Prop} (hr : va_Run p l e R s m args below meth c H locs cells slots mc ms (F0 m pc ls st0) rest (va_Qq post (xB D A) A a) A) (hw : xw_S D vwCl A s.heap w0 H locs)
    (kk : ∀ (r : Option Nat) (w1 : xw_T) (H1 : Heap) (locs1 : List Loc), post r w1 → xw_S D vwCl A s.heap w1 H1 locs1 → W p l e R s m args below meth c H1 locs1 (cells + mc) (slots + ms) Q (F0 m (pc + 3) ls (va_rf r :: rest))) : W p l e R s m args below meth c H locs cells slots Q (F0 m pc ls st0) :=
  va_callq hr hw.2.1 (fun _ _ h => h) (fun _ h => h) (fun r u _ H1 locs1 ht _ hp hB _ _ hS => kk r u H1 locs1 hp ⟨xB_of ht hB, hS, hw.2.2⟩)
theorem xw_callv {w0 : xw_T} {post : xw_T → Prop} (hr : va_Run p l e R s m args below meth c H locs cells slots mc ms (F0 m pc ls st0) rest (va_Qv post (xB D A) A a) A) (hw : xw_S D vwCl A s.heap w0 H locs)
    (kk : ∀ (w1 : xw_T) (H1 : Heap) (locs1 : List Loc), post w1 → xw_S D vwCl A s.heap w1 H1 locs1 → W p l e R s m args below meth c H1 locs1 (cells + mc) (slots + ms) Q (F0 m (pc + 3) ls rest)) : W p l e R s m args below meth c H locs cells slots Q (F0 m pc ls st0) :=
  va_callv hr hw.2.1 (fun _ _ h => h) (fun _ h => h) (fun u _ H1 locs1 ht _ hp hB _ _ hS => kk u H1 locs1 hp ⟨xB_of ht hB, hS, hw.2.2⟩)
theorem xw_iret {post : Int32 → xw_T → Prop} {v : Int32} (hx : p.tables.exec = Jvm.exec) (hb : c.code = cc) (hr : meth.sig.returnType = some .int) (hlocks : meth.locks = false) (hw : xw_S D vwCl A s.heap w H locs) (h : post v w) (hdg : decode cc pc = .ok (.ireturn, 1)) : W p l e R s m args below meth c H locs cells slots (MQ below (va_Qi post (xB D A) A) args s cells slots A) (F0 m pc ls [.int v]) :=
  W.iret hx hb hr (fun t ht _ => ⟨⟨v, w, rfl, h, xB_of (H1 := t.heap) rfl (by rw [← ht] at hw; exact hw.1)⟩, hw.2.1.F ht⟩) hw.2.1.2.2 hdg hlocks
theorem xw_zret {post : Int32 → xw_T → Prop} {v : Int32} {ty : FieldType} (hn : narrow ty (.int v) = .int v) (hx : p.tables.exec = Jvm.exec) (hb : c.code = cc) (hr : meth.sig.returnType = some ty) (hlocks : meth.locks = false) (hw : xw_S D vwCl A s.heap w H locs) (h : post v w) (hdg : decode cc pc = .ok (.ireturn, 1)) : W p l e R s m args below meth c H locs cells slots (MQ below (va_Qi post (xB D A) A) args s cells slots A) (F0 m pc ls [.int v]) :=
  W.zret hx hb hr hn (fun t ht _ => ⟨⟨v, w, rfl, h, xB_of (H1 := t.heap) rfl (by rw [← ht] at hw; exact hw.1)⟩, hw.2.1.F ht⟩) hw.2.1.2.2 hdg hlocks
theorem xw_lret {post : Int64 → xw_T → Prop} {v : Int64} (hx : p.tables.exec = Jvm.exec) (hb : c.code = cc) (hr : meth.sig.returnType = some .long) (hlocks : meth.locks = false) (hw : xw_S D vwCl A s.heap w H locs) (h : post v w) (hdg : decode cc pc = .ok (.lreturn, 1)) : W p l e R s m args below meth c H locs cells slots (MQ below (va_Ql post (xB D A) A) args s cells slots A) (F0 m pc ls [.long v]) :=
  W.lret hx hb hr (fun t ht _ => ⟨⟨v, w, rfl, h, xB_of (H1 := t.heap) rfl (by rw [← ht] at hw; exact hw.1)⟩, hw.2.1.F ht⟩) hw.2.1.2.2 hdg hlocks
theorem xw_vret {post : xw_T → Prop} (hx : p.tables.exec = Jvm.exec) (hb : c.code = cc) (hr : meth.sig.returnType = none) (hlocks : meth.locks = false) (hw : xw_S D vwCl A s.heap w H locs) (h : post w) (hdg : decode cc pc = .ok (.return_, 1)) : W p l e R s m args below meth c H locs cells slots (MQ below (va_Qv post (xB D A) A) args s cells slots A) (F0 m pc ls []) :=
  W.vret hx hb hr (fun t ht _ => ⟨⟨w, rfl, h, xB_of (H1 := t.heap) rfl (by rw [← ht] at hw; exact hw.1)⟩, hw.2.1.F ht⟩) hw.2.1.2.2 hdg hlocks
theorem xw_aret {post : Option Nat → xw_T → Prop} {r : Option Nat} {rt : FieldType} (hrt : (∃ n, rt = .object n) ∨ ∃ t, rt = .array t) (hx : p.tables.exec = Jvm.exec) (hb : c.code = cc) (hr : meth.sig.returnType = some rt) (hlocks : meth.locks = false) (hw : xw_S D vwCl A s.heap w H locs) (h : post r w) (hdg : decode cc pc = .ok (.areturn, 1)) : W p l e R s m args below meth c H locs cells slots (MQ below (va_Qq post (xB D A) A) args s cells slots A) (F0 m pc ls [va_rf r]) :=
  W.aret hx hb hr hrt (by cases r with | none => exact Or.inl rfl | some x => exact Or.inr ⟨x, rfl⟩) (fun t ht _ => ⟨⟨r, w, rfl, h, xB_of (H1 := t.heap) rfl (by rw [← ht] at hw; exact hw.1)⟩, hw.2.1.F ht⟩) hw.2.1.2.2 hdg hlocks
theorem xl_start {vs : List Value} {n : Nat} {lvs : List (Nat × Value)} (h1 : (lg_sl vs).length ≤ n) (h2 : lv_args 0 vs = lvs) (kk : ∀ ls : Array Slot, lv_has ls n lvs → W p l e R s m args below meth c H locs cells slots Q (F0 m 0 ls [])) : W p l e R s m args below meth c H locs cells slots Q (entryFrame m vs.toArray n) := by
  have hl := lv_entry vs (n := n) h1
  rw [h2] at hl
  rw [lg_entry_eq]
  exact kk _ hl
end XC
theorem xn_rf (r : Option Nat) (ty : FieldType) (h : (∃ n, ty = .object n) ∨ ∃ t, ty = .array t) : narrow ty (va_rf r) = va_rf r := by
  rcases h with ⟨n, rfl⟩ | ⟨t, rfl⟩ <;> cases r <;> rfl
theorem xf_rf (r : Option Nat) (ty : FieldType) (h : (∃ n, ty = .object n) ∨ ∃ t, ty = .array t) : fits ty (va_rf r) = true := by
  rcases h with ⟨n, rfl⟩ | ⟨t, rfl⟩ <;> cases r <;> rfl
end
section
/-! ROWS OF THEIR OWN: new arrays, the length of an array that may be the empty static one, getClass, the mirror, arraycopy -/
/-- the length of an array: our own, or the static empty one -/
def xlen (E : xE_T) (w : xw_T) (a : Nat) (t : Nat) : Option Nat := if a = E.2 6 ∧ t = 0 then some 0 else (xaE w a (E.1 t)).map (fun x => x.1)
theorem xq6 {E : xE_T} {A : Nat → Prop} {s : State} {q : Nat} (hE : xF E A s) (h : A q) : q ≠ E.2 6 := fun e => hE.2.2.2.2.1.2.out (by rw [← e]; exact h)
section XS
variable {p : Program} {l : Launch} {e : Env} {R : Room} {s : State} {m : MethodId} {args : Array Value} {below : List Frame} {meth : Method} {c : Code} {H : Heap} {locs : List Loc} {cells slots : Nat} {Q : State → Prop}
variable {cc : ByteArray} {pc : Nat} {ls : Array Slot} {rest : List Value} {D : va_G} {E : xE_T} {A : Nat → Prop} {a : Nat} {w : xw_T}
theorem xw_len (hx : p.tables.exec = Jvm.exec) (hb : c.code = cc) (hK : va_K D vwCl (xtys E) s) (hE : xF E A s) (hw : xw_S D vwCl A s.heap w H locs) (t : Nat) (ht : t < 4) {n : Nat} (hn : xlen E w a t = some n) (hdg : decode cc pc = .ok (.arraylength, 1))
    (kk : W p l e R s m args below meth c H locs cells slots Q (F0 m (pc + 1) ls (.int (nI n) :: rest))) : W p l e R s m args below meth c H locs cells slots Q (F0 m pc ls (.ref a :: rest)) := by
  unfold xlen at hn
  by_cases h0 : a = E.2 6 ∧ t = 0
  · rw [if_pos h0] at hn
    cases hn
    rw [h0.1]
    exact va_tlen hx hb hE.2.2.2.2.1.2 hw.2.1 rfl hdg kk
  · rw [if_neg h0] at hn
    cases hx2 : xaE w a (E.1 t) with
    | none => rw [hx2] at hn; cases hn
    | some y =>
      rw [hx2] at hn
      cases hn
      have ha := xaE_spec hx2
      match t, ht with
      | 0, _ => exact xw_alen hx hb hK hw 0 rfl ha hdg kk
      | 1, _ => exact xw_alen hx hb hK hw 1 rfl ha hdg kk
      | 2, _ => exact xw_alen hx hb hK hw 2 rfl ha hdg kk
      | 3, _ => exact xw_alen hx hb hK hw 3 rfl ha hdg kk
theorem xw_newq (hx : p.tables.exec = Jvm.exec) (hb : c.code = cc) {own : String} {index : Nat} (hown : s.vm.findClass own = some m.cls) (hclink : (Cond.classLink own index "java/lang/Object").before args s = true) (hK : va_K D vwCl (xtys E) s) (hE : xF E A s) (hw : xw_S D vwCl A s.heap w H locs)
    {n : Int32} {N' : Nat} (hn : ¬ n < 0) (hN : n.toNatClampNeg = N') (hbytes : N' * 4 ≤ 536870912) (hcells : cells + 1 ≤ R.cells) (hslots : slots + N' ≤ R.slots) (hdg : decode cc pc = .ok (.anewarray index, 3))
    (kk : ∀ (q : Nat) (H1 : Heap), w q = none → A q → xw_S D vwCl A s.heap (va_up w q (some (xcQ (E.1 0) N' (fun _ => none)))) H1 locs → W p l e R s m args below meth c H1 locs (cells + 1) (slots + N') Q (F0 m (pc + 3) ls (.ref q :: rest))) : W p l e R s m args below meth c H locs cells slots Q (F0 m pc ls (.int n :: rest)) := by
  obtain ⟨⟨ws, hi, hP, hD⟩, hS, hA⟩ := hw
  refine va_newq hx hb hown hclink hE.2.1.1 hK hP hD hS hA hn hN hbytes hcells hslots hdg (fun q cA H1 hK1 hP1 hD1 hS1 => ?_)
  have h1 : va_RA s (E.1 0) (.object "java/lang/Object") := (hK.2 0 _ rfl).2
  have h2 : va_RA s cA (.object "java/lang/Object") := (hK1.2 4 _ rfl).2
  have hc : cA = E.1 0 := Option.some.inj ((va_nmO h2 rfl).symm.trans (va_nmO h1 rfl))
  subst hc
  exact kk q H1 (xw_in_fresh hi hD1) (xw_in_A hD1) ⟨⟨_, xw_in_push hi hD1, hP1, hD1⟩, hS1, hA⟩
theorem xw_newi (hx : p.tables.exec = Jvm.exec) (hb : c.code = cc) (harr : (Cond.arrayClass .int).before args s = true) (hK : va_K D vwCl (xtys E) s) (hw : xw_S D vwCl A s.heap w H locs)
    {n : Int32} {N' : Nat} (hn : ¬ n < 0) (hN : n.toNatClampNeg = N') (hbytes : N' * componentBytes .int ≤ 536870912) (hcells : cells + 1 ≤ R.cells) (hslots : slots + N' ≤ R.slots) (hdg : decode cc pc = .ok (.newarray .int, 2))
    (kk : ∀ (q : Nat) (H1 : Heap), w q = none → A q → xw_S D vwCl A s.heap (va_up w q (some (xcI (E.1 1) N' (fun _ => 0)))) H1 locs → W p l e R s m args below meth c H1 locs (cells + 1) (slots + N') Q (F0 m (pc + 2) ls (.ref q :: rest))) : W p l e R s m args below meth c H locs cells slots Q (F0 m pc ls (.int n :: rest)) := by
  obtain ⟨⟨ws, hi, hP, hD⟩, hS, hA⟩ := hw
  refine va_newa (atype := .int) (a0 := (N', .inl (fun _ => 0))) (ty := .int) hx hb harr rfl hK hP hD hS hA (fun _ => rfl) hn hN hbytes hcells hslots hdg (fun q cA H1 hK1 hP1 hD1 hS1 => ?_)
  have h1 : va_RA s (E.1 1) .int := (hK.2 1 _ rfl).2
  have h2 : va_RA s cA .int := (hK1.2 4 _ rfl).2
  have hc : cA = E.1 1 := Option.some.inj (h2.symm.trans h1)
  subst hc
  exact kk q H1 (xw_in_fresh hi hD1) (xw_in_A hD1) ⟨⟨_, xw_in_push hi hD1, hP1, hD1⟩, hS1, hA⟩
theorem xw_newl (hx : p.tables.exec = Jvm.exec) (hb : c.code = cc) (harr : (Cond.arrayClass .long).before args s = true) (hK : va_K D vwCl (xtys E) s) (hw : xw_S D vwCl A s.heap w H locs)
    {n : Int32} {N' : Nat} (hn : ¬ n < 0) (hN : n.toNatClampNeg = N') (hbytes : N' * componentBytes .long ≤ 536870912) (hcells : cells + 1 ≤ R.cells) (hslots : slots + N' ≤ R.slots) (hdg : decode cc pc = .ok (.newarray .long, 2))
    (kk : ∀ (q : Nat) (H1 : Heap), w q = none → A q → xw_S D vwCl A s.heap (va_up w q (some (xcL (E.1 2) N' (fun _ => 0)))) H1 locs → W p l e R s m args below meth c H1 locs (cells + 1) (slots + N') Q (F0 m (pc + 2) ls (.ref q :: rest))) : W p l e R s m args below meth c H locs cells slots Q (F0 m pc ls (.int n :: rest)) := by
  obtain ⟨⟨ws, hi, hP, hD⟩, hS, hA⟩ := hw
  refine va_newa (atype := .long) (a0 := (N', .inr (.inl (fun _ => 0)))) (ty := .long) hx hb harr rfl hK hP hD hS hA (fun _ => rfl) hn hN hbytes hcells hslots hdg (fun q cA H1 hK1 hP1 hD1 hS1 => ?_)
  have h1 : va_RA s (E.1 2) .long := (hK.2 2 _ rfl).2
  have h2 : va_RA s cA .long := (hK1.2 4 _ rfl).2
  have hc : cA = E.1 2 := Option.some.inj (h2.symm.trans h1)
  subst hc
  exact kk q H1 (xw_in_fresh hi hD1) (xw_in_A hD1) ⟨⟨_, xw_in_push hi hD1, hP1, hD1⟩, hS1, hA⟩
theorem xw_newz (hx : p.tables.exec = Jvm.exec) (hb : c.code = cc) (harr : (Cond.arrayClass .boolean).before args s = true) (hK : va_K D vwCl (xtys E) s) (hw : xw_S D vwCl A s.heap w H locs)
    {n : Int32} {N' : Nat} (hn : ¬ n < 0) (hN : n.toNatClampNeg = N') (hbytes : N' * componentBytes .boolean ≤ 536870912) (hcells : cells + 1 ≤ R.cells) (hslots : slots + N' ≤ R.slots) (hdg : decode cc pc = .ok (.newarray .boolean, 2))
    (kk : ∀ (q : Nat) (H1 : Heap), w q = none → A q → xw_S D vwCl A s.heap (va_up w q (some (xcI (E.1 3) N' (fun _ => 0)))) H1 locs → W p l e R s m args below meth c H1 locs (cells + 1) (slots + N') Q (F0 m (pc + 2) ls (.ref q :: rest))) : W p l e R s m args below meth c H locs cells slots Q (F0 m pc ls (.int n :: rest)) := by
  obtain ⟨⟨ws, hi, hP, hD⟩, hS, hA⟩ := hw
  refine va_newa (atype := .boolean) (a0 := (N', .inl (fun _ => 0))) (ty := .boolean) hx hb harr rfl hK hP hD hS hA (fun _ => rfl) hn hN hbytes hcells hslots hdg (fun q cA H1 hK1 hP1 hD1 hS1 => ?_)
  have h1 : va_RA s (E.1 3) .boolean := (hK.2 3 _ rfl).2
  have h2 : va_RA s cA .boolean := (hK1.2 4 _ rfl).2
  have hc : cA = E.1 3 := Option.some.inj (h2.symm.trans h1)
  subst hc
  exact kk q H1 (xw_in_fresh hi hD1) (xw_in_A hD1) ⟨⟨_, xw_in_push hi hD1, hP1, hD1⟩, hS1, hA⟩
/-- our own array of Objects: a cell of its kind -/
theorem xw_recvQ (hK : va_K D vwCl (xtys E) s) (hw : xw_S D vwCl A s.heap w H locs) {n : Nat} {f : Nat → Option Nat} (ha : xaQ w a (E.1 0) = some (n, f)) : ∃ cell : Cell, H[a]? = some cell ∧ cell.vm.isStatics = false ∧ s.vm.findClass "[Ljava/lang/Object;" = some cell.cls := by
  obtain ⟨⟨ws, hi, hP, hD⟩, hS, hA⟩ := hw
  obtain ⟨q0, hq⟩ := (hi _ _).mp (xaQ_spec ha)
  have h1 : va_RA s (E.1 0) (.object "java/lang/Object") := (hK.2 0 _ rfl).2
  exact ⟨_, hP q0 _ hq, rfl, va_nmO h1 rfl⟩
/-- an object of the world, or an element of an array of Objects that holds such: can be stored into an array of Objects -/
theorem xw_any {E0 : String} (hK : va_K D vwCl (xtys E) s) (hw : xw_S D vwCl A s.heap w H locs) {v ci : Nat} {vs : List Value} {r : vw_C} (hv : w v = some (.inr (ci, vs))) (hc : vwCl[ci]? = some r) (hca : va_Nw (.castable r.1 E0) s) : va_Any E0 s H v := by
  obtain ⟨⟨ws, hi, hP, hD⟩, hS, hA⟩ := hw
  obtain ⟨qk, hqk⟩ := (hi _ _).mp hv
  exact va_rAny hK hP hqk hc (vb_asgC hca)
/-- what may lie in our arrays of Objects: accounts, batches, rows -/
def xOb (w : xw_T) (v : Nat) : Prop := ∃ vs : List Value, w v = some (.inr (1, vs)) ∨ w v = some (.inr (2, vs)) ∨ w v = some (.inr (3, vs))
theorem xw_anyO (hK : va_K D vwCl (xtys E) s) (hE : xF E A s) (hw : xw_S D vwCl A s.heap w H locs) {v : Nat} (hv : xOb w v) : va_Any "java/lang/Object" s H v := by
  obtain ⟨vs, h | h | h⟩ := hv
  · exact xw_any hK hw (ci := 1) h rfl hE.1.2.1
  · exact xw_any hK hw (ci := 2) h rfl hE.1.2.2
  · exact xw_any hK hw (ci := 3) h rfl hE.1.1
theorem xw_aasO (hx : p.tables.exec = Jvm.exec) (hb : c.code = cc) (hK : va_K D vwCl (xtys E) s) (hE : xF E A s) (hw : xw_S D vwCl A s.heap w H locs) {n : Nat} {f : Nat → Option Nat} (ha : xaQ w a (E.1 0) = some (n, f)) {v : Nat} (hv : xOb w v) {i : Int32} (hin : vp_in i n) (hdg : decode cc pc = .ok (.aastore, 1))
    (kk : ∀ (H1 : Heap) (locs1 : List Loc), xw_S D vwCl A s.heap (va_up w a (some (xcQ (E.1 0) n (va_up f i.toNatClampNeg (some v))))) H1 locs1 → W p l e R s m args below meth c H1 locs1 cells slots Q (F0 m (pc + 1) ls rest)) : W p l e R s m args below meth c H locs cells slots Q (F0 m pc ls (.ref v :: .int i :: .ref a :: rest)) := by
  have hany := xw_anyO hK hE hw hv
  obtain ⟨⟨ws, hi, hP, hD⟩, hS, hA⟩ := hw
  obtain ⟨q0, hq⟩ := (hi _ _).mp (xaQ_spec ha)
  exact va_astqM hx hb hK hP hD hS q0 0 hq rfl hany hin hdg (fun H1 locs1 hP1 hD1 hS1 => kk H1 locs1 (xw_S_set hi hD hA hq hP1 hD1 hS1))
theorem xw_copy (hx : p.tables.exec = Jvm.exec) (hb : c.code = cc) (hml : c.maxLocals = ls.size) {own : String} {index : Nat} (hown : s.vm.findClass own = some m.cls) (hlink : (Cond.methodLink own index arraycopyName).before args s = true) (hnat : (Cond.native arraycopyName).before args s = true) (hstat : (Cond.static arraycopyName).before args s = true) (hini : (Cond.initialized "java/lang/System").before args s = true)
    (hK : va_K D vwCl (xtys E) s) (hE : xF E A s) (hw : xw_S D vwCl A s.heap w H locs) {a0 : Nat} {n0 n1 : Nat} {f g : Nat → Option Nat} (ha0 : xaQ w a0 (E.1 0) = some (n0, f)) (ha1 : xaQ w a (E.1 0) = some (n1, g))
    {sp dp n : Int32} (hc : ¬ sp < 0 ∧ ¬ dp < 0 ∧ ¬ n < 0 ∧ sp.toNatClampNeg + n.toNatClampNeg ≤ n0 ∧ dp.toNatClampNeg + n.toNatClampNeg ≤ n1) (hel : ∀ i : Nat, i < n.toNatClampNeg → ∀ y : Nat, f (sp.toNatClampNeg + i) = some y → xOb w y)
    (hframes : 1 ≤ R.frames) (hlocals : (rest.map fun v => v.category).sum + (nativeFrameWords "java/lang/System" "arraycopy" 5 + 11) ≤ R.locals) (hdg : decode cc pc = .ok (.invokestatic index, 3))
    (kk : ∀ (H1 : Heap) (locs1 : List Loc), xw_S D vwCl A s.heap (va_up w a (some (xcQ (E.1 0) n1 (va_cpy f g sp.toNatClampNeg dp.toNatClampNeg n.toNatClampNeg)))) H1 locs1 → W p l e R s m args below meth c H1 locs1 cells slots Q (F0 m (pc + 3) ls rest)) : W p l e R s m args below meth c H locs cells slots Q (F0 m pc ls (.int n :: .int dp :: .ref a :: .int sp :: .ref a0 :: rest)) := by
  have hany : ∀ i : Nat, i < n.toNatClampNeg → ∀ y : Nat, f (sp.toNatClampNeg + i) = some y → va_Any "java/lang/Object" s H y := fun i hi y hy => xw_anyO hK hE hw (hel i hi y hy)
  obtain ⟨⟨ws, hi, hP, hD⟩, hS, hA⟩ := hw
  obtain ⟨q0, hq0⟩ := (hi _ _).mp (xaQ_spec ha0)
  obtain ⟨q1, hq1⟩ := (hi _ _).mp (xaQ_spec ha1)
  obtain ⟨h1, h2, h3, h4, h5⟩ := hc
  exact va_copyM hx hb hml hown hlink hnat hstat hini hK hP hD hS q0 q1 0 0 hq0 hq1 rfl rfl h1 h2 h3 h4 h5 hany hframes hlocals hdg (fun H1 locs1 hP1 hD1 hS1 => kk H1 locs1 (xw_S_set hi hD hA hq1 hP1 hD1 hS1))
end XS
end
section
/-! A HEAP BY NAMES: every object of the two systems has a name (a triple of numbers), an address (ad), a content (ct). Names that are alive have addresses of their own. -/
abbrev xR : Type := Nat × Nat × Nat
def xup {α : Type} (f : xR → α) (r : xR) (v : α) : xR → α := fun z => if z = r then v else f z
theorem xup_self {α : Type} (f : xR → α) (r : xR) (v : α) : xup f r v r = v := if_pos rfl
theorem xup_ne {α : Type} (f : xR → α) {r z : xR} (v : α) (h : z ≠ r) : xup f r v z = f z := if_neg h
def xRp (w : xw_T) (ad : xR → Nat) (ct : xR → Option va_E) : Prop := (∀ (r : xR) (e : va_E), ct r = some e → w (ad r) = some e) ∧ ∀ r z : xR, ct r ≠ none → ct z ≠ none → ad r = ad z → r = z
theorem xRp.at {w : xw_T} {ad : xR → Nat} {ct : xR → Option va_E} (h : xRp w ad ct) {r : xR} {e : va_E} (he : ct r = some e) : w (ad r) = some e := h.1 r e he
theorem xRp.set {w : xw_T} {ad : xR → Nat} {ct : xR → Option va_E} (h : xRp w ad ct) {r : xR} {e0 : va_E} (he : ct r = some e0) (e : va_E) : xRp (va_up w (ad r) (some e)) ad (xup ct r (some e)) := by
  have hl : ∀ z, xup ct r (some e) z ≠ none → ct z ≠ none := by
    intro z hz
    by_cases q : z = r
    · rw [q, he]; exact fun x => by cases x
    · rw [xup_ne _ _ q] at hz; exact hz
  refine ⟨fun z e' hz => ?_, fun z y hz hy e' => h.2 z y (hl z hz) (hl y hy) e'⟩
  by_cases q : z = r
  · subst q
    rw [xup_self] at hz
    rw [va_up_self]; exact hz
  · have hz' := hz
    rw [xup_ne _ _ q] at hz
    have ha : ad z ≠ ad r := fun x => q (h.2 z r (by rw [hz]; exact fun x => by cases x) (by rw [he]; exact fun x => by cases x) x)
    rw [va_up_ne _ _ ha]
    exact h.1 z e' hz
theorem xRp.new {w : xw_T} {ad : xR → Nat} {ct : xR → Option va_E} (h : xRp w ad ct) {r : xR} {q : Nat} (hr : ct r = none) (hq : w q = none) (e : va_E) : xRp (va_up w q (some e)) (xup ad r q) (xup ct r (some e)) := by
  have hne : ∀ z e', ct z = some e' → ad z ≠ q := by
    intro z e' hz x
    have := h.1 z e' hz
    rw [x, hq] at this
    cases this
  refine ⟨fun z e' hz => ?_, fun z y hz hy x => ?_⟩
  · by_cases k : z = r
    · subst k
      rw [xup_self] at hz
      rw [xup_self, va_up_self]; exact hz
    · rw [xup_ne _ _ k] at hz
      rw [xup_ne _ _ k, va_up_ne _ _ (hne z e' hz)]
      exact h.1 z e' hz
  · by_cases k : z = r
    · by_cases k2 : y = r
      · rw [k, k2]
      · rw [xup_ne _ _ k2] at hy
        rw [k, xup_self, xup_ne _ _ k2] at x
        obtain ⟨e', he'⟩ := Option.ne_none_iff_exists'.mp hy
        exact absurd x.symm (hne y e' he')
    · rw [xup_ne _ _ k] at hz
      obtain ⟨e', he'⟩ := Option.ne_none_iff_exists'.mp hz
      by_cases k2 : y = r
      · rw [k2, xup_self, xup_ne _ _ k] at x
        exact absurd x (hne z e' he')
      · rw [xup_ne _ _ k2] at hy
        rw [xup_ne _ _ k, xup_ne _ _ k2] at x
        exact h.2 z y hz hy x
/-- another table of contents that says no more -/
theorem xRp.mono {w : xw_T} {ad ad' : xR → Nat} {ct ct' : xR → Option va_E} (h : xRp w ad ct) (hc : ∀ r e, ct' r = some e → ct r = some e) (ha : ∀ r, ct' r ≠ none → ad' r = ad r) : xRp w ad' ct' := by
  have hl : ∀ z, ct' z ≠ none → ct z ≠ none := by
    intro z hz
    obtain ⟨e, he⟩ := Option.ne_none_iff_exists'.mp hz
    rw [hc z e he]; exact fun x => by cases x
  refine ⟨fun r e he => ?_, fun r z hr hz x => h.2 r z (hl r hr) (hl z hz) (by rw [← ha r hr, ← ha z hz]; exact x)⟩
  rw [ha r (by rw [he]; exact fun x => by cases x)]
  exact h.1 r e (hc r e he)
end
section
/-! meanings and walks: JDK 0 -/
def wp_AN_init (E : xE_T) (post : xw_T → Prop) (w : xw_T) (h0 : Nat) : Prop := post w
set_option maxHeartbeats 4000000 in
set_option maxRecDepth 100000 in
theorem c_AN_init (l : Launch) (D : va_G) (E : xE_T) (A : Nat → Prop) (post : xw_T → Prop) (w : xw_T) (h0 : Nat) (h : wp_AN_init E post w h0) : Met l yAN_init (xW yAN_init cAN_init 1 none) ({ frames := 1, cells := 0, slots := 0, locals := 12 } : Room) (va_Pc [.ref h0] (xP D E A w)) (va_Qv post (xB D A) A) 0 0 A := by
  refine Met.ofW (cc := cAN_init) (maxL := 1) (ret := none) (by decide) rfl ?_
  intro p e s m args below meth c s₁ B hml hv
  obtain ⟨rfl, hw, hK, hE⟩ := hv
  have hx := B.exec
  have hb := B.bytes
  have hr := B.returns
  have hts : ∀ w ∈ xTB, w.before _ s = true := fun w hw => atoms_spec (ws := xW yAN_init cAN_init 1 none) B.pre w (List.mem_cons_of_mem _ hw)
  have hown : s.vm.findClass RAN = some m.cls := findClass_of_methodNamed B.named
  have hlocks := B.notSynchronized
  have hin : meth.name = "<init>" := (name_of_methodNamed B.named B.method).1
  have hw : xw_S D vwCl A s.heap w s.heap [] := xw_S0 hw
  refine xl_start (lvs := [(0, .ref h0)]) (by first | exact Nat.le_of_ble_eq_true rfl | simp [lg_sl, va_rf_cat, xcat_i, xcat_l, xcat_r, xcat_n]) (by first | rfl | simp [lv_args, va_rf_cat, xcat_i, xcat_l, xcat_r, xcat_n]) (fun ls hl => ?_)
  unfold wp_AN_init at h
  refine lv_aload_n hx hb dAN_init_0 rfl (lv_at hl 0 rfl) ?_
  refine W.objInit hx hb hown (hts _ mw_0) (hts _ mw_1) (hts _ mw_2) rfl (by rw [hml]; exact hl.1) rfl dAN_init_1 (Nat.le_of_ble_eq_true rfl) (Nat.le_of_ble_eq_true rfl) ?_
  refine W.widen (k := 0) (n := 0) (Nat.le_of_ble_eq_true rfl) (Nat.le_of_ble_eq_true rfl) ?_
  exact xw_vret hx hb hr hlocks hw h dAN_init_4
def wp_AB_init (E : xE_T) (post : xw_T → Prop) (w : xw_T) (h0 : Nat) : Prop := wp_AN_init E (fun w2 => (∃ v0, xg w2 h0 0 0 = some v0) ∧ ∀ w3, w3 = xp w2 h0 0 (.int 0) → (post w3)) w h0
set_option maxHeartbeats 4000000 in
set_option maxRecDepth 100000 in
theorem c_AB_init (l : Launch) (D : va_G) (E : xE_T) (A : Nat → Prop) (post : xw_T → Prop) (w : xw_T) (h0 : Nat) (h : wp_AB_init E post w h0) : Met l yAB_init (xW yAB_init cAB_init 1 none) ({ frames := 2, cells := 0, slots := 0, locals := 32 } : Room) (va_Pc [.ref h0] (xP D E A w)) (va_Qv post (xB D A) A) 0 0 A := by
  refine Met.ofW (cc := cAB_init) (maxL := 1) (ret := none) (by decide) rfl ?_
  intro p e s m args below meth c s₁ B hml hv
  obtain ⟨rfl, hw, hK, hE⟩ := hv
  have hx := B.exec
  have hb := B.bytes
  have hr := B.returns
  have hts : ∀ w ∈ xTB, w.before _ s = true := fun w hw => atoms_spec (ws := xW yAB_init cAB_init 1 none) B.pre w (List.mem_cons_of_mem _ hw)
  have hown : s.vm.findClass RAB = some m.cls := findClass_of_methodNamed B.named
  have hlocks := B.notSynchronized
  have hin : meth.name = "<init>" := (name_of_methodNamed B.named B.method).1
  have hw : xw_S D vwCl A s.heap w s.heap [] := xw_S0 hw
  refine xl_start (lvs := [(0, .ref h0)]) (by first | exact Nat.le_of_ble_eq_true rfl | simp [lg_sl, va_rf_cat, xcat_i, xcat_l, xcat_r, xcat_n]) (by first | rfl | simp [lv_args, va_rf_cat, xcat_i, xcat_l, xcat_r, xcat_n]) (fun ls hl => ?_)
  unfold wp_AB_init at h
  refine lv_aload_n hx hb dAB_init_0 rfl (lv_at hl 0 rfl) ?_
  have hcall := h
  clear h
  refine xw_callv (va_runI (As := []) (rest := []) ⟨hx, hb, hml, hown, hts⟩ (c_AN_init l D E A _ w h0 hcall) (cwI 0 hts (xG_I mw_5) rfl rfl rfl (hts _ mw_6) (hts _ mw_4) (hts _ mw_7) rfl (by decide +kernel) ⟨(Nat.le_of_ble_eq_true rfl), (Nat.le_of_ble_eq_true rfl)⟩) (xw_preS hw hK hE) rfl rfl hl.1 rfl (lv_room (by first | exact Nat.le_of_ble_eq_true rfl | simp [va_rf_cat, xcat_i, xcat_l, xcat_r, xcat_n])) dAB_init_1 ⟨(Nat.le_of_ble_eq_true rfl), (Nat.le_of_ble_eq_true rfl)⟩) hw (fun w2 H locs h hw => ?_)
  clear hcall
  refine lv_aload_n hx hb dAB_init_4 rfl (lv_at hl 0 rfl) ?_
  refine lv_iconst (v := 0) hx hb dAB_init_5 (by decide) ?_
  obtain ⟨hv, h⟩ := h
  refine xw_put (ty := (.int)) (C := RAL) (T := TAL) (N := 3) (ref := "java/util/AbstractList") hx hb hts inAL tyAL tyAL_ok nmAL hown hK hw rfl 0 (by decide) (hts _ mw_3) (fun _ h9 => h9) rfl (by decide +kernel) rfl rfl hv dAB_init_6 (fun H locs hw => ?_)
  replace h := h _ rfl
  generalize xp w2 h0 0 (.int 0) = w3 at hw h
  refine W.widen (k := 0) (n := 0) (Nat.le_of_ble_eq_true rfl) (Nat.le_of_ble_eq_true rfl) ?_
  exact xw_vret hx hb hr hlocks hw h dAB_init_9
def wp_AL_init (E : xE_T) (post : xw_T → Prop) (w : xw_T) (h0 : Nat) : Prop := wp_AB_init E (fun w2 => (∃ v0, xg w2 h0 0 1 = some v0) ∧ ∀ w3, w3 = xp w2 h0 1 (.ref (E.2 6)) → (post w3)) w h0
set_option maxHeartbeats 4000000 in
set_option maxRecDepth 100000 in
theorem c_AL_init (l : Launch) (D : va_G) (E : xE_T) (A : Nat → Prop) (post : xw_T → Prop) (w : xw_T) (h0 : Nat) (h : wp_AL_init E post w h0) : Met l yAL_init (xW yAL_init cAL_init 1 none) ({ frames := 3, cells := 0, slots := 0, locals := 52 } : Room) (va_Pc [.ref h0] (xP D E A w)) (va_Qv post (xB D A) A) 0 0 A := by
  refine Met.ofW (cc := cAL_init) (maxL := 1) (ret := none) (by decide) rfl ?_
  intro p e s m args below meth c s₁ B hml hv
  obtain ⟨rfl, hw, hK, hE⟩ := hv
  have hx := B.exec
  have hb := B.bytes
  have hr := B.returns
  have hts : ∀ w ∈ xTB, w.before _ s = true := fun w hw => atoms_spec (ws := xW yAL_init cAL_init 1 none) B.pre w (List.mem_cons_of_mem _ hw)
  have hown : s.vm.findClass RAL = some m.cls := findClass_of_methodNamed B.named
  have hlocks := B.notSynchronized
  have hin : meth.name = "<init>" := (name_of_methodNamed B.named B.method).1
  have hw : xw_S D vwCl A s.heap w s.heap [] := xw_S0 hw
  refine xl_start (lvs := [(0, .ref h0)]) (by first | exact Nat.le_of_ble_eq_true rfl | simp [lg_sl, va_rf_cat, xcat_i, xcat_l, xcat_r, xcat_n]) (by first | rfl | simp [lv_args, va_rf_cat, xcat_i, xcat_l, xcat_r, xcat_n]) (fun ls hl => ?_)
  unfold wp_AL_init at h
  refine lv_aload_n hx hb dAL_init_0 rfl (lv_at hl 0 rfl) ?_
  have hcall := h
  clear h
  refine xw_callv (va_runI (As := []) (rest := []) ⟨hx, hb, hml, hown, hts⟩ (c_AB_init l D E A _ w h0 hcall) (cwI 0 hts (xG_I mw_11) rfl rfl rfl (hts _ mw_12) (hts _ mw_10) (hts _ mw_13) rfl (by decide +kernel) ⟨(Nat.le_of_ble_eq_true rfl), (Nat.le_of_ble_eq_true rfl)⟩) (xw_preS hw hK hE) rfl rfl hl.1 rfl (lv_room (by first | exact Nat.le_of_ble_eq_true rfl | simp [va_rf_cat, xcat_i, xcat_l, xcat_r, xcat_n])) dAL_init_1 ⟨(Nat.le_of_ble_eq_true rfl), (Nat.le_of_ble_eq_true rfl)⟩) hw (fun w2 H locs h hw => ?_)
  clear hcall
  refine lv_aload_n hx hb dAL_init_4 rfl (lv_at hl 0 rfl) ?_
  refine va_gets hx hb hE.2.2.2.2.1.1 hw.2.1 hown (hts _ mw_9) (fun _ h9 => h9) dAL_init_5 ?_
  obtain ⟨hv, h⟩ := h
  refine xw_put (ty := (.array (.object "java/lang/Object"))) (C := RAL) (T := TAL) (N := 3) (ref := RAL) hx hb hts inAL tyAL tyAL_ok nmAL hown hK hw rfl 1 (by decide) (hts _ mw_8) (fun _ h9 => h9) rfl (by decide +kernel) rfl rfl hv dAL_init_8 (fun H locs hw => ?_)
  replace h := h _ rfl
  generalize xp w2 h0 1 (.ref (E.2 6)) = w3 at hw h
  refine W.widen (k := 0) (n := 0) (Nat.le_of_ble_eq_true rfl) (Nat.le_of_ble_eq_true rfl) ?_
  exact xw_vret hx hb hr hlocks hw h dAL_init_11
def wp_AL_size (E : xE_T) (post : Int32 → xw_T → Prop) (w : xw_T) (h0 : Nat) : Prop := ∃ v1, xgI w h0 0 2 = some v1 ∧ (post v1 w)
set_option maxHeartbeats 4000000 in
set_option maxRecDepth 100000 in
theorem c_AL_size (l : Launch) (D : va_G) (E : xE_T) (A : Nat → Prop) (post : Int32 → xw_T → Prop) (w : xw_T) (h0 : Nat) (h : wp_AL_size E post w h0) : Met l yAL_size (xW yAL_size cAL_size 1 (some (.int))) ({ frames := 0, cells := 0, slots := 0, locals := 0 } : Room) (va_Pc [.ref h0] (xP D E A w)) (va_Qi post (xB D A) A) 0 0 A := by
  refine Met.ofW (cc := cAL_size) (maxL := 1) (ret := (some (.int))) (by decide) rfl ?_
  intro p e s m args below meth c s₁ B hml hv
  obtain ⟨rfl, hw, hK, hE⟩ := hv
  have hx := B.exec
  have hb := B.bytes
  have hr := B.returns
  have hts : ∀ w ∈ xTB, w.before _ s = true := fun w hw => atoms_spec (ws := xW yAL_size cAL_size 1 (some (.int))) B.pre w (List.mem_cons_of_mem _ hw)
  have hown : s.vm.findClass RAL = some m.cls := findClass_of_methodNamed B.named
  have hlocks := B.notSynchronized
  have hw : xw_S D vwCl A s.heap w s.heap [] := xw_S0 hw
  refine xl_start (lvs := [(0, .ref h0)]) (by first | exact Nat.le_of_ble_eq_true rfl | simp [lg_sl, va_rf_cat, xcat_i, xcat_l, xcat_r, xcat_n]) (by first | rfl | simp [lv_args, va_rf_cat, xcat_i, xcat_l, xcat_r, xcat_n]) (fun ls hl => ?_)
  unfold wp_AL_size at h
  refine lv_aload_n hx hb dAL_size_0 rfl (lv_at hl 0 rfl) ?_
  obtain ⟨v1, hv, h⟩ := h
  refine xw_getI (C := RAL) (T := TAL) (N := 3) (ref := RAL) hx hb hts inAL hown hK hw rfl 2 (by decide) (hts _ mw_25) (fun _ h9 => h9) hv dAL_size_1 ?_
  refine W.widen (k := 0) (n := 0) (Nat.le_of_ble_eq_true rfl) (Nat.le_of_ble_eq_true rfl) ?_
  exact xw_iret hx hb hr hlocks hw h dAL_size_4
def wp_AS_hugeLength (E : xE_T) (post : Int32 → xw_T → Prop) (w : xw_T) (p0 : Int32) (p1 : Int32) : Prop := (0 ≤ (p0 + p1) → ((2147483639 < (p0 + p1) → (post (p0 + p1) w)) ∧ (¬ 2147483639 < (p0 + p1) → (post 2147483639 w)))) ∧ (¬ 0 ≤ (p0 + p1) → (False))
set_option maxHeartbeats 4000000 in
set_option maxRecDepth 100000 in
theorem c_AS_hugeLength (l : Launch) (D : va_G) (E : xE_T) (A : Nat → Prop) (post : Int32 → xw_T → Prop) (w : xw_T) (p0 : Int32) (p1 : Int32) (h : wp_AS_hugeLength E post w p0 p1) : Met l yAS_hugeLength (xW yAS_hugeLength cAS_hugeLength 3 (some (.int))) ({ frames := 0, cells := 0, slots := 0, locals := 0 } : Room) (va_Pc [.int p0, .int p1] (xP D E A w)) (va_Qi post (xB D A) A) 0 0 A := by
  refine Met.ofW (cc := cAS_hugeLength) (maxL := 3) (ret := (some (.int))) (by decide) rfl ?_
  intro p e s m args below meth c s₁ B hml hv
  obtain ⟨rfl, hw, hK, hE⟩ := hv
  have hx := B.exec
  have hb := B.bytes
  have hr := B.returns
  have hts : ∀ w ∈ xTB, w.before _ s = true := fun w hw => atoms_spec (ws := xW yAS_hugeLength cAS_hugeLength 3 (some (.int))) B.pre w (List.mem_cons_of_mem _ hw)
  have hown : s.vm.findClass RAS = some m.cls := findClass_of_methodNamed B.named
  have hlocks := B.notSynchronized
  have hw : xw_S D vwCl A s.heap w s.heap [] := xw_S0 hw
  refine xl_start (lvs := [(0, .int p0), (1, .int p1)]) (by first | exact Nat.le_of_ble_eq_true rfl | simp [lg_sl, va_rf_cat, xcat_i, xcat_l, xcat_r, xcat_n]) (by first | rfl | simp [lv_args, va_rf_cat, xcat_i, xcat_l, xcat_r, xcat_n]) (fun ls hl => ?_)
  unfold wp_AS_hugeLength at h
  refine lv_iload_n hx hb dAS_hugeLength_0 rfl (lv_at hl 0 rfl) ?_
  refine lv_iload_n hx hb dAS_hugeLength_1 rfl (lv_at hl 1 rfl) ?_
  refine lv_iadd hx hb dAS_hugeLength_2 ?_
  refine lv_istore_n (i := 2) (lv' := [(2, .int (p0 + p1)), (0, .int p0), (1, .int p1)]) hx hb dAS_hugeLength_3 rfl hl (by decide) (by first | rfl | simp [va_rf_cat, xcat_i, xcat_l, xcat_r, xcat_n]) (fun ls hl => ?_)
  refine lv_iload_n hx hb dAS_hugeLength_4 rfl (lv_at hl 0 rfl) ?_
  refine lv_if_ge (tgt := 49) hx hb dAS_hugeLength_5 rfl (fun hc => ?_) (fun hc => ?_)
  · replace h := h.1 hc
    refine lv_iload_n hx hb dAS_hugeLength_49 rfl (lv_at hl 0 rfl) ?_
    refine lv_ldc (v := 2147483639) hx hb hown (hts _ mw_29) dAS_hugeLength_50 ?_
    refine lv_icmp_gt (tgt := 58) hx hb dAS_hugeLength_52 rfl (fun hc => ?_) (fun hc => ?_)
    · replace h := h.1 hc
      refine lv_iload_n hx hb dAS_hugeLength_58 rfl (lv_at hl 0 rfl) ?_
      refine W.widen (k := 0) (n := 0) (Nat.le_of_ble_eq_true rfl) (Nat.le_of_ble_eq_true rfl) ?_
      exact xw_iret hx hb hr hlocks hw h dAS_hugeLength_59
    · replace h := h.2 hc
      refine lv_ldc (v := 2147483639) hx hb hown (hts _ mw_29) dAS_hugeLength_55 ?_
      refine W.widen (k := 0) (n := 0) (Nat.le_of_ble_eq_true rfl) (Nat.le_of_ble_eq_true rfl) ?_
      exact xw_iret hx hb hr hlocks hw h dAS_hugeLength_57
  · replace h := h.2 hc
    exact h.elim
def wp_AS_newLength (E : xE_T) (post : Int32 → xw_T → Prop) (w : xw_T) (p0 : Int32) (p1 : Int32) (p2 : Int32) : Prop := ∀ r1 : Int32, r1 = (if p1 < p2 then p2 else p1) → (((p0 + r1) ≤ 0 → (wp_AS_hugeLength E (fun r2 w3 => post r2 w3) w p0 p1)) ∧ (¬ (p0 + r1) ≤ 0 → ((2147483639 < (p0 + r1) → (wp_AS_hugeLength E (fun r4 w5 => post r4 w5) w p0 p1)) ∧ (¬ 2147483639 < (p0 + r1) → (post (p0 + r1) w)))))
set_option maxHeartbeats 4000000 in
set_option maxRecDepth 100000 in
theorem c_AS_newLength (l : Launch) (D : va_G) (E : xE_T) (A : Nat → Prop) (post : Int32 → xw_T → Prop) (w : xw_T) (p0 : Int32) (p1 : Int32) (p2 : Int32) (h : wp_AS_newLength E post w p0 p1 p2) : Met l yAS_newLength (xW yAS_newLength cAS_newLength 4 (some (.int))) ({ frames := 1, cells := 0, slots := 0, locals := 22 } : Room) (va_Pc [.int p0, .int p1, .int p2] (xP D E A w)) (va_Qi post (xB D A) A) 0 0 A := by
  refine Met.ofW (cc := cAS_newLength) (maxL := 4) (ret := (some (.int))) (by decide) rfl ?_
  intro p e s m args below meth c s₁ B hml hv
  obtain ⟨rfl, hw, hK, hE⟩ := hv
  have hx := B.exec
  have hb := B.bytes
  have hr := B.returns
  have hts : ∀ w ∈ xTB, w.before _ s = true := fun w hw => atoms_spec (ws := xW yAS_newLength cAS_newLength 4 (some (.int))) B.pre w (List.mem_cons_of_mem _ hw)
  have hown : s.vm.findClass RAS = some m.cls := findClass_of_methodNamed B.named
  have hlocks := B.notSynchronized
  have hw : xw_S D vwCl A s.heap w s.heap [] := xw_S0 hw
  refine xl_start (lvs := [(0, .int p0), (1, .int p1), (2, .int p2)]) (by first | exact Nat.le_of_ble_eq_true rfl | simp [lg_sl, va_rf_cat, xcat_i, xcat_l, xcat_r, xcat_n]) (by first | rfl | simp [lv_args, va_rf_cat, xcat_i, xcat_l, xcat_r, xcat_n]) (fun ls hl => ?_)
  unfold wp_AS_newLength at h
  refine lv_iload_n hx hb dAS_newLength_0 rfl (lv_at hl 0 rfl) ?_
  refine lv_iload_n hx hb dAS_newLength_1 rfl (lv_at hl 1 rfl) ?_
  refine lv_iload_n hx hb dAS_newLength_2 rfl (lv_at hl 2 rfl) ?_
  refine va_mmax hx hb (hml.trans hl.1.symm) hown (hts _ mw_35) (hts _ mw_36) (hts _ mw_37) (hts _ mw_34) (Nat.le_of_ble_eq_true rfl) (by first | exact Nat.le_of_ble_eq_true rfl | simp [va_rf_cat, xcat_i, xcat_l, xcat_r, xcat_n]) (Nat.le_of_ble_eq_true rfl) (Nat.le_of_ble_eq_true rfl) dAS_newLength_3 ?_
  replace h := h _ rfl
  generalize (if p1 < p2 then p2 else p1) = r1 at h ⊢
  refine lv_iadd hx hb dAS_newLength_6 ?_
  refine lv_istore_n (i := 3) (lv' := [(3, .int (p0 + r1)), (0, .int p0), (1, .int p1), (2, .int p2)]) hx hb dAS_newLength_7 rfl hl (by decide) (by first | rfl | simp [va_rf_cat, xcat_i, xcat_l, xcat_r, xcat_n]) (fun ls hl => ?_)
  refine lv_iconst (v := 0) hx hb dAS_newLength_8 (by decide) ?_
  refine lv_iload_n hx hb dAS_newLength_9 rfl (lv_at hl 0 rfl) ?_
  refine lv_icmp_ge (tgt := 21) hx hb dAS_newLength_10 rfl (fun hc => ?_) (fun hc => ?_)
  · replace h := h.1 hc
    refine lv_iload_n hx hb dAS_newLength_21 rfl (lv_at hl 1 rfl) ?_
    refine lv_iload_n hx hb dAS_newLength_22 rfl (lv_at hl 2 rfl) ?_
    have hcall := h
    clear h
    refine xw_calli (va_runS (As := [.int p0, .int p1]) (rest := []) ⟨hx, hb, hml, hown, hts⟩ (c_AS_hugeLength l D E A _ w p0 p1 hcall) (va_cwS 2 hts (xG_S mw_30 mw_31 mw_32 mw_33) rfl rfl rfl (by decide +kernel) ⟨(Nat.le_of_ble_eq_true rfl), (Nat.le_of_ble_eq_true rfl)⟩) (xw_preS hw hK hE) rfl rfl hl.1 rfl (lv_room (by first | exact Nat.le_of_ble_eq_true rfl | simp [va_rf_cat, xcat_i, xcat_l, xcat_r, xcat_n])) dAS_newLength_23 ⟨(Nat.le_of_ble_eq_true rfl), (Nat.le_of_ble_eq_true rfl)⟩) hw (fun r2 w3 H locs h hw => ?_)
    clear hcall
    refine W.widen (k := 0) (n := 0) (Nat.le_of_ble_eq_true rfl) (Nat.le_of_ble_eq_true rfl) ?_
    exact xw_iret hx hb hr hlocks hw h dAS_newLength_26
  · replace h := h.2 hc
    refine lv_iload_n hx hb dAS_newLength_13 rfl (lv_at hl 0 rfl) ?_
    refine lv_ldc (v := 2147483639) hx hb hown (hts _ mw_29) dAS_newLength_14 ?_
    refine lv_icmp_gt (tgt := 21) hx hb dAS_newLength_16 rfl (fun hc => ?_) (fun hc => ?_)
    · replace h := h.1 hc
      refine lv_iload_n hx hb dAS_newLength_21 rfl (lv_at hl 1 rfl) ?_
      refine lv_iload_n hx hb dAS_newLength_22 rfl (lv_at hl 2 rfl) ?_
      have hcall := h
      clear h
      refine xw_calli (va_runS (As := [.int p0, .int p1]) (rest := []) ⟨hx, hb, hml, hown, hts⟩ (c_AS_hugeLength l D E A _ w p0 p1 hcall) (va_cwS 2 hts (xG_S mw_30 mw_31 mw_32 mw_33) rfl rfl rfl (by decide +kernel) ⟨(Nat.le_of_ble_eq_true rfl), (Nat.le_of_ble_eq_true rfl)⟩) (xw_preS hw hK hE) rfl rfl hl.1 rfl (lv_room (by first | exact Nat.le_of_ble_eq_true rfl | simp [va_rf_cat, xcat_i, xcat_l, xcat_r, xcat_n])) dAS_newLength_23 ⟨(Nat.le_of_ble_eq_true rfl), (Nat.le_of_ble_eq_true rfl)⟩) hw (fun r4 w5 H locs h hw => ?_)
      clear hcall
      refine W.widen (k := 0) (n := 0) (Nat.le_of_ble_eq_true rfl) (Nat.le_of_ble_eq_true rfl) ?_
      exact xw_iret hx hb hr hlocks hw h dAS_newLength_26
    · replace h := h.2 hc
      refine lv_iload_n hx hb dAS_newLength_19 rfl (lv_at hl 0 rfl) ?_
      refine W.widen (k := 0) (n := 0) (Nat.le_of_ble_eq_true rfl) (Nat.le_of_ble_eq_true rfl) ?_
      exact xw_iret hx hb hr hlocks hw h dAS_newLength_20
def wp_AR_copyOf2 (E : xE_T) (post : Option Nat → xw_T → Prop) (w : xw_T) (p0 : Option Nat) (p1 : Int32) (p2 : Option Nat) : Prop := (¬ p2 = (some (E.2 7)) → (False)) ∧ (p2 = (some (E.2 7)) → (∃ n3 : Nat, ¬ p1 < 0 ∧ p1.toNatClampNeg = n3 ∧ n3 ≤ 366 ∧ ∀ q1 : Nat, (w q1 = none ∧ q1 ≠ E.2 6) → ∀ w2, w2 = va_up w q1 (some (xcQ (E.1 0) n3 (fun _ => none))) → (∃ a4 : Nat, p0 = some a4 ∧ (∃ n5 : Nat, xlen E w2 a4 0 = some n5 ∧ (∀ r6 : Int32, r6 = (if p1 < (nI n5) then p1 else (nI n5)) → (∃ n7 f8 n9 f10, xaQ w2 a4 (E.1 0) = some (n7, f8) ∧ xaQ w2 q1 (E.1 0) = some (n9, f10) ∧ (¬ (0 : Int32) < 0 ∧ ¬ (0 : Int32) < 0 ∧ ¬ r6 < 0 ∧ (0 : Int32).toNatClampNeg + r6.toNatClampNeg ≤ n7 ∧ (0 : Int32).toNatClampNeg + r6.toNatClampNeg ≤ n9) ∧ (∀ i : Nat, i < r6.toNatClampNeg → ∀ y : Nat, f8 ((0 : Int32).toNatClampNeg + i) = some y → xOb w2 y) ∧ ∀ w11, w11 = va_up w2 q1 (some (xcQ (E.1 0) n9 (va_cpy f8 f10 (0 : Int32).toNatClampNeg (0 : Int32).toNatClampNeg r6.toNatClampNeg))) → (post (some q1) w11)))))))
set_option maxHeartbeats 4000000 in
set_option maxRecDepth 100000 in
theorem c_AR_copyOf2 (l : Launch) (D : va_G) (E : xE_T) (A : Nat → Prop) (post : Option Nat → xw_T → Prop) (w : xw_T) (p0 : Option Nat) (p1 : Int32) (p2 : Option Nat) (h : wp_AR_copyOf2 E post w p0 p1 p2) : Met l yAR_copyOf2 (xW yAR_copyOf2 cAR_copyOf2 4 (some (.array (.object "java/lang/Object")))) ({ frames := 1, cells := 1, slots := 366, locals := 18 } : Room) (va_Pc [va_rf p0, .int p1, va_rf p2] (xP D E A w)) (va_Qq post (xB D A) A) 1 366 A := by
  refine Met.ofW (cc := cAR_copyOf2) (maxL := 4) (ret := (some (.array (.object "java/lang/Object")))) (by decide) rfl ?_
  intro p e s m args below meth c s₁ B hml hv
  obtain ⟨rfl, hw, hK, hE⟩ := hv
  have hx := B.exec
  have hb := B.bytes
  have hr := B.returns
  have hts : ∀ w ∈ xTB, w.before _ s = true := fun w hw => atoms_spec (ws := xW yAR_copyOf2 cAR_copyOf2 4 (some (.array (.object "java/lang/Object")))) B.pre w (List.mem_cons_of_mem _ hw)
  have hown : s.vm.findClass RAR = some m.cls := findClass_of_methodNamed B.named
  have hlocks := B.notSynchronized
  have hw : xw_S D vwCl A s.heap w s.heap [] := xw_S0 hw
  refine xl_start (lvs := [(0, va_rf p0), (1, .int p1), (2, va_rf p2)]) (by first | exact Nat.le_of_ble_eq_true rfl | simp [lg_sl, va_rf_cat, xcat_i, xcat_l, xcat_r, xcat_n]) (by first | rfl | simp [lv_args, va_rf_cat, xcat_i, xcat_l, xcat_r, xcat_n]) (fun ls hl => ?_)
  unfold wp_AR_copyOf2 at h
  refine xl_aload_n hx hb dAR_copyOf2_0 rfl (lv_at hl 2 rfl) ?_
  refine va_ldcM (C := "[Ljava/lang/Object;") hx hb hown (hts _ mw_46) hE.2.1.2.2.1 dAR_copyOf2_1 ?_
  refine lv_acmp_ne (rx := p2) (ry := (some (E.2 7))) (tgt := 13) hx hb dAR_copyOf2_3 rfl (fun hc => ?_) (fun hc => ?_)
  · replace h := h.1 hc
    refine xl_aload_n hx hb dAR_copyOf2_13 rfl (lv_at hl 2 rfl) ?_
    exact h.elim
  · replace h := h.2 hc
    refine lv_iload_n hx hb dAR_copyOf2_6 rfl (lv_at hl 1 rfl) ?_
    obtain ⟨n3, hn0, hn1, hn2, h⟩ := h
    refine xw_newq (N' := n3) hx hb hown (hts _ mw_45) hK hE hw hn0 hn1 (by omega) (Nat.le_of_ble_eq_true rfl) (Nat.le_trans (Nat.add_le_add_left hn2 _) (Nat.le_of_ble_eq_true rfl)) dAR_copyOf2_7 (fun q1 H hq hqA hw => ?_)
    refine W.widen (k := 1) (n := 366) (Nat.le_of_ble_eq_true rfl) (Nat.add_le_add_left hn2 _) ?_
    replace h := h _ ⟨hq, xq6 hE hqA⟩ _ rfl
    generalize va_up w q1 (some (xcQ (E.1 0) n3 (fun _ => none))) = w2 at hw h
    refine lv_goto (tgt := 24) hx hb dAR_copyOf2_10 rfl ?_
    refine lv_astore_n (i := 3) (lv' := [(3, .ref q1), (0, va_rf p0), (1, .int p1), (2, va_rf p2)]) hx hb dAR_copyOf2_24 rfl hl (by decide) (by first | rfl | simp [va_rf_cat, xcat_i, xcat_l, xcat_r, xcat_n]) (fun ls hl => ?_)
    refine xl_aload_n hx hb dAR_copyOf2_25 rfl (lv_at hl 1 rfl) ?_
    refine lv_iconst (v := 0) hx hb dAR_copyOf2_26 (by decide) ?_
    refine lv_aload_n hx hb dAR_copyOf2_27 rfl (lv_at hl 0 rfl) ?_
    refine lv_iconst (v := 0) hx hb dAR_copyOf2_28 (by decide) ?_
    refine xl_aload_n hx hb dAR_copyOf2_29 rfl (lv_at hl 1 rfl) ?_
    obtain ⟨a4, rfl, h⟩ := h
    obtain ⟨n5, hn, h⟩ := h
    refine xw_len hx hb hK hE hw 0 (by decide) hn dAR_copyOf2_30 ?_
    refine lv_iload_n hx hb dAR_copyOf2_31 rfl (lv_at hl 2 rfl) ?_
    refine va_mmin hx hb (hml.trans hl.1.symm) hown (hts _ mw_43) (hts _ mw_44) (hts _ mw_37) (hts _ mw_42) (Nat.le_of_ble_eq_true rfl) (by first | exact Nat.le_of_ble_eq_true rfl | simp [va_rf_cat, xcat_i, xcat_l, xcat_r, xcat_n]) (Nat.le_of_ble_eq_true rfl) (Nat.le_of_ble_eq_true rfl) dAR_copyOf2_32 ?_
    replace h := h _ rfl
    generalize (if p1 < (nI n5) then p1 else (nI n5)) = r6 at h ⊢
    obtain ⟨n7, f8, n9, f10, ha0, ha1, hcc, hel, h⟩ := h
    refine xw_copy hx hb (hml.trans hl.1.symm) hown (hts _ mw_38) (hts _ mw_39) (hts _ mw_40) (hts _ mw_41) hK hE hw ha0 ha1 hcc hel (Nat.le_of_ble_eq_true rfl) (by first | exact Nat.le_of_ble_eq_true rfl | simp [nativeFrameWords, va_rf_cat, xcat_i, xcat_l, xcat_r, xcat_n]) dAR_copyOf2_35 (fun H locs hw => ?_)
    replace h := h _ rfl
    generalize va_up w2 q1 (some (xcQ (E.1 0) n9 (va_cpy f8 f10 (0 : Int32).toNatClampNeg (0 : Int32).toNatClampNeg r6.toNatClampNeg))) = w11 at hw h
    refine lv_aload_n hx hb dAR_copyOf2_38 rfl (lv_at hl 0 rfl) ?_
    refine W.widen (k := 1) (n := 366) (Nat.le_of_ble_eq_true rfl) (Nat.le_of_ble_eq_true rfl) ?_
    exact xw_aret (r := (some q1)) (Or.inr ⟨_, rfl⟩) hx hb hr hlocks hw h dAR_copyOf2_39
def wp_AR_copyOf (E : xE_T) (post : Option Nat → xw_T → Prop) (w : xw_T) (p0 : Option Nat) (p1 : Int32) : Prop := ∃ a1 : Nat, p0 = some a1 ∧ ((∃ n2 f3, xaQ w a1 (E.1 0) = some (n2, f3)) ∧ (wp_AR_copyOf2 E (fun r4 w5 => post r4 w5) w (some a1) p1 (some (E.2 7))))
set_option maxHeartbeats 4000000 in
set_option maxRecDepth 100000 in
theorem c_AR_copyOf (l : Launch) (D : va_G) (E : xE_T) (A : Nat → Prop) (post : Option Nat → xw_T → Prop) (w : xw_T) (p0 : Option Nat) (p1 : Int32) (h : wp_AR_copyOf E post w p0 p1) : Met l yAR_copyOf (xW yAR_copyOf cAR_copyOf 2 (some (.array (.object "java/lang/Object")))) ({ frames := 2, cells := 1, slots := 366, locals := 41 } : Room) (va_Pc [va_rf p0, .int p1] (xP D E A w)) (va_Qq post (xB D A) A) 1 366 A := by
  refine Met.ofW (cc := cAR_copyOf) (maxL := 2) (ret := (some (.array (.object "java/lang/Object")))) (by decide) rfl ?_
  intro p e s m args below meth c s₁ B hml hv
  obtain ⟨rfl, hw, hK, hE⟩ := hv
  have hx := B.exec
  have hb := B.bytes
  have hr := B.returns
  have hts : ∀ w ∈ xTB, w.before _ s = true := fun w hw => atoms_spec (ws := xW yAR_copyOf cAR_copyOf 2 (some (.array (.object "java/lang/Object")))) B.pre w (List.mem_cons_of_mem _ hw)
  have hown : s.vm.findClass RAR = some m.cls := findClass_of_methodNamed B.named
  have hlocks := B.notSynchronized
  have hw : xw_S D vwCl A s.heap w s.heap [] := xw_S0 hw
  refine xl_start (lvs := [(0, va_rf p0), (1, .int p1)]) (by first | exact Nat.le_of_ble_eq_true rfl | simp [lg_sl, va_rf_cat, xcat_i, xcat_l, xcat_r, xcat_n]) (by first | rfl | simp [lv_args, va_rf_cat, xcat_i, xcat_l, xcat_r, xcat_n]) (fun ls hl => ?_)
  unfold wp_AR_copyOf at h
  refine xl_aload_n hx hb dAR_copyOf_0 rfl (lv_at hl 0 rfl) ?_
  refine lv_iload_n hx hb dAR_copyOf_1 rfl (lv_at hl 1 rfl) ?_
  refine xl_aload_n hx hb dAR_copyOf_2 rfl (lv_at hl 0 rfl) ?_
  obtain ⟨a1, rfl, h⟩ := h
  obtain ⟨⟨n2, f3, ha⟩, h⟩ := h
  refine va_getC (C := "[Ljava/lang/Object;") hx hb (hml.trans hl.1.symm) hown (hts _ mw_51) hE.2.1.2.1.use (hts _ mw_52) (hts _ mw_53) (hts _ mw_54) hE.2.1.2.2.1 (xw_recvQ hK hw ha) (Nat.le_of_ble_eq_true rfl) (by first | exact Nat.le_of_ble_eq_true rfl | simp [va_rf_cat, xcat_i, xcat_l, xcat_r, xcat_n]) dAR_copyOf_3 ?_
  have hcall := h
  clear h
  refine xw_callq (va_runS (As := [.ref a1, .int p1, .ref (E.2 7)]) (rest := []) ⟨hx, hb, hml, hown, hts⟩ (c_AR_copyOf2 l D E A _ w (some a1) p1 (some (E.2 7)) hcall) (va_cwS 3 hts (xG_S mw_47 mw_48 mw_49 mw_50) rfl rfl rfl (by decide +kernel) ⟨(Nat.le_of_ble_eq_true rfl), (Nat.le_of_ble_eq_true rfl)⟩) (xw_preS hw hK hE) rfl rfl hl.1 rfl (lv_room (by first | exact Nat.le_of_ble_eq_true rfl | simp [va_rf_cat, xcat_i, xcat_l, xcat_r, xcat_n])) dAR_copyOf_6 ⟨(Nat.le_of_ble_eq_true rfl), (Nat.le_of_ble_eq_true rfl)⟩) hw (fun r4 w5 H locs h hw => ?_)
  clear hcall
  refine W.widen (k := 1) (n := 366) (Nat.le_of_ble_eq_true rfl) (Nat.le_of_ble_eq_true rfl) ?_
  exact xw_aret (r := r4) (Or.inr ⟨_, rfl⟩) hx hb hr hlocks hw h dAR_copyOf_9
def wp_AL_grow2 (E : xE_T) (post : Option Nat → xw_T → Prop) (w : xw_T) (h0 : Nat) (p0 : Int32) : Prop := ∃ v1, xgR w h0 0 1 = some v1 ∧ (∃ a2 : Nat, v1 = some a2 ∧ (∃ n3 : Nat, xlen E w a2 0 = some n3 ∧ ((0 < (nI n3) → (wp_AS_newLength E (fun r4 w5 => ∃ v6, xgR w5 h0 0 1 = some v6 ∧ (wp_AR_copyOf E (fun r7 w8 => (∃ v0, xg w8 h0 0 1 = some v0) ∧ ∀ w9, w9 = xp w8 h0 1 (va_rf r7) → (post r7 w9)) w5 v6 r4)) w (nI n3) (p0 - (nI n3)) ((nI n3) >>> (1 &&& 31)))) ∧ (¬ 0 < (nI n3) → (∃ v10, xgR w h0 0 1 = some v10 ∧ ((v10 = (some (E.2 6)) → (∀ r11 : Int32, r11 = (if 10 < p0 then p0 else 10) → (∃ n14 : Nat, ¬ r11 < 0 ∧ r11.toNatClampNeg = n14 ∧ n14 ≤ 366 ∧ ∀ q12 : Nat, (w q12 = none ∧ q12 ≠ E.2 6) → ∀ w13, w13 = va_up w q12 (some (xcQ (E.1 0) n14 (fun _ => none))) → ((∃ v0, xg w13 h0 0 1 = some v0) ∧ ∀ w15, w15 = xp w13 h0 1 (.ref q12) → (post (some q12) w15))))) ∧ (¬ v10 = (some (E.2 6)) → (wp_AS_newLength E (fun r16 w17 => ∃ v18, xgR w17 h0 0 1 = some v18 ∧ (wp_AR_copyOf E (fun r19 w20 => (∃ v0, xg w20 h0 0 1 = some v0) ∧ ∀ w21, w21 = xp w20 h0 1 (va_rf r19) → (post r19 w21)) w17 v18 r16)) w (nI n3) (p0 - (nI n3)) ((nI n3) >>> (1 &&& 31))))))))))
set_option maxHeartbeats 4000000 in
set_option maxRecDepth 100000 in
theorem c_AL_grow2 (l : Launch) (D : va_G) (E : xE_T) (A : Nat → Prop) (post : Option Nat → xw_T → Prop) (w : xw_T) (h0 : Nat) (p0 : Int32) (h : wp_AL_grow2 E post w h0 p0) : Met l yAL_grow2 (xW yAL_grow2 cAL_grow2 4 (some (.array (.object "java/lang/Object")))) ({ frames := 3, cells := 1, slots := 366, locals := 62 } : Room) (va_Pc [.ref h0, .int p0] (xP D E A w)) (va_Qq post (xB D A) A) 1 366 A := by
  refine Met.ofW (cc := cAL_grow2) (maxL := 4) (ret := (some (.array (.object "java/lang/Object")))) (by decide) rfl ?_
  intro p e s m args below meth c s₁ B hml hv
  obtain ⟨rfl, hw, hK, hE⟩ := hv
  have hx := B.exec
  have hb := B.bytes
  have hr := B.returns
  have hts : ∀ w ∈ xTB, w.before _ s = true := fun w hw => atoms_spec (ws := xW yAL_grow2 cAL_grow2 4 (some (.array (.object "java/lang/Object")))) B.pre w (List.mem_cons_of_mem _ hw)
  have hown : s.vm.findClass RAL = some m.cls := findClass_of_methodNamed B.named
  have hlocks := B.notSynchronized
  have hw : xw_S D vwCl A s.heap w s.heap [] := xw_S0 hw
  refine xl_start (lvs := [(0, .ref h0), (1, .int p0)]) (by first | exact Nat.le_of_ble_eq_true rfl | simp [lg_sl, va_rf_cat, xcat_i, xcat_l, xcat_r, xcat_n]) (by first | rfl | simp [lv_args, va_rf_cat, xcat_i, xcat_l, xcat_r, xcat_n]) (fun ls hl => ?_)
  unfold wp_AL_grow2 at h
  refine lv_aload_n hx hb dAL_grow2_0 rfl (lv_at hl 0 rfl) ?_
  obtain ⟨v1, hv, h⟩ := h
  refine xw_getR (C := RAL) (T := TAL) (N := 3) (ref := RAL) hx hb hts inAL hown hK hw rfl 1 (by decide) (hts _ mw_8) (fun _ h9 => h9) hv dAL_grow2_1 ?_
  obtain ⟨a2, rfl, h⟩ := h
  obtain ⟨n3, hn, h⟩ := h
  refine xw_len hx hb hK hE hw 0 (by decide) hn dAL_grow2_4 ?_
  refine lv_istore_n (i := 2) (lv' := [(2, .int (nI n3)), (0, .ref h0), (1, .int p0)]) hx hb dAL_grow2_5 rfl hl (by decide) (by first | rfl | simp [va_rf_cat, xcat_i, xcat_l, xcat_r, xcat_n]) (fun ls hl => ?_)
  refine lv_iload_n hx hb dAL_grow2_6 rfl (lv_at hl 0 rfl) ?_
  refine lv_if_gt (tgt := 20) hx hb dAL_grow2_7 rfl (fun hc => ?_) (fun hc => ?_)
  · replace h := h.1 hc
    refine lv_iload_n hx hb dAL_grow2_20 rfl (lv_at hl 0 rfl) ?_
    refine lv_iload_n hx hb dAL_grow2_21 rfl (lv_at hl 2 rfl) ?_
    refine lv_iload_n hx hb dAL_grow2_22 rfl (lv_at hl 0 rfl) ?_
    refine lv_isub hx hb dAL_grow2_23 ?_
    refine lv_iload_n hx hb dAL_grow2_24 rfl (lv_at hl 0 rfl) ?_
    refine lv_iconst (v := 1) hx hb dAL_grow2_25 (by decide) ?_
    refine lv_ishr hx hb dAL_grow2_26 ?_
    have hcall := h
    clear h
    refine xw_calli (va_runS (As := [.int (nI n3), .int (p0 - (nI n3)), .int ((nI n3) >>> (1 &&& 31))]) (rest := []) ⟨hx, hb, hml, hown, hts⟩ (c_AS_newLength l D E A _ w (nI n3) (p0 - (nI n3)) ((nI n3) >>> (1 &&& 31)) hcall) (va_cwS 3 hts (xG_S mw_58 mw_59 mw_32 mw_60) rfl rfl rfl (by decide +kernel) ⟨(Nat.le_of_ble_eq_true rfl), (Nat.le_of_ble_eq_true rfl)⟩) (xw_preS hw hK hE) rfl rfl hl.1 rfl (lv_room (by first | exact Nat.le_of_ble_eq_true rfl | simp [va_rf_cat, xcat_i, xcat_l, xcat_r, xcat_n])) dAL_grow2_27 ⟨(Nat.le_of_ble_eq_true rfl), (Nat.le_of_ble_eq_true rfl)⟩) hw (fun r4 w5 H locs h hw => ?_)
    clear hcall
    refine lv_istore_n (i := 3) (lv' := [(3, .int r4), (2, .int (nI n3)), (0, .ref h0), (1, .int p0)]) hx hb dAL_grow2_30 rfl hl (by decide) (by first | rfl | simp [va_rf_cat, xcat_i, xcat_l, xcat_r, xcat_n]) (fun ls hl => ?_)
    refine lv_aload_n hx hb dAL_grow2_31 rfl (lv_at hl 2 rfl) ?_
    refine lv_aload_n hx hb dAL_grow2_32 rfl (lv_at hl 2 rfl) ?_
    obtain ⟨v6, hv, h⟩ := h
    refine xw_getR (C := RAL) (T := TAL) (N := 3) (ref := RAL) hx hb hts inAL hown hK hw rfl 1 (by decide) (hts _ mw_8) (fun _ h9 => h9) hv dAL_grow2_33 ?_
    refine lv_iload_n hx hb dAL_grow2_36 rfl (lv_at hl 0 rfl) ?_
    have hcall := h
    clear h
    refine xw_callq (va_runS (As := [va_rf v6, .int r4]) (rest := [.ref h0]) ⟨hx, hb, hml, hown, hts⟩ (c_AR_copyOf l D E A _ w5 v6 r4 hcall) (va_cwS 2 hts (xG_S mw_55 mw_56 mw_49 mw_57) rfl rfl rfl (by decide +kernel) ⟨(Nat.le_of_ble_eq_true rfl), (Nat.le_of_ble_eq_true rfl)⟩) (xw_preS hw hK hE) rfl rfl hl.1 rfl (lv_room (by first | exact Nat.le_of_ble_eq_true rfl | simp [va_rf_cat, xcat_i, xcat_l, xcat_r, xcat_n])) dAL_grow2_37 ⟨(Nat.le_of_ble_eq_true rfl), (Nat.le_of_ble_eq_true rfl)⟩) hw (fun r7 w8 H locs h hw => ?_)
    clear hcall
    refine lv_dup_x1 hx hb dAL_grow2_40 (va_rf_cat _) rfl ?_
    obtain ⟨hv, h⟩ := h
    refine xw_put (ty := (.array (.object "java/lang/Object"))) (C := RAL) (T := TAL) (N := 3) (ref := RAL) hx hb hts inAL tyAL tyAL_ok nmAL hown hK hw rfl 1 (by decide) (hts _ mw_8) (fun _ h9 => h9) rfl (by decide +kernel) (xn_rf _ _ (Or.inr ⟨_, rfl⟩)) (xf_rf _ _ (Or.inr ⟨_, rfl⟩)) hv dAL_grow2_41 (fun H locs hw => ?_)
    replace h := h _ rfl
    generalize xp w8 h0 1 (va_rf r7) = w9 at hw h
    refine W.widen (k := 1) (n := 366) (Nat.le_of_ble_eq_true rfl) (Nat.le_of_ble_eq_true rfl) ?_
    exact xw_aret (r := r7) (Or.inr ⟨_, rfl⟩) hx hb hr hlocks hw h dAL_grow2_44
  · replace h := h.2 hc
    refine lv_aload_n hx hb dAL_grow2_10 rfl (lv_at hl 1 rfl) ?_
    obtain ⟨v10, hv, h⟩ := h
    refine xw_getR (C := RAL) (T := TAL) (N := 3) (ref := RAL) hx hb hts inAL hown hK hw rfl 1 (by decide) (hts _ mw_8) (fun _ h9 => h9) hv dAL_grow2_11 ?_
    refine va_gets hx hb hE.2.2.2.2.1.1 hw.2.1 hown (hts _ mw_9) (fun _ h9 => h9) dAL_grow2_14 ?_
    refine lv_acmp_eq (rx := v10) (ry := (some (E.2 6))) (tgt := 45) hx hb dAL_grow2_17 rfl (fun hc => ?_) (fun hc => ?_)
    · replace h := h.1 hc
      refine lv_aload_n hx hb dAL_grow2_45 rfl (lv_at hl 1 rfl) ?_
      refine lv_bipush (v := 10) hx hb dAL_grow2_46 (by decide) ?_
      refine lv_iload_n hx hb dAL_grow2_48 rfl (lv_at hl 2 rfl) ?_
      refine va_mmax hx hb (hml.trans hl.1.symm) hown (hts _ mw_62) (hts _ mw_36) (hts _ mw_37) (hts _ mw_34) (Nat.le_of_ble_eq_true rfl) (by first | exact Nat.le_of_ble_eq_true rfl | simp [va_rf_cat, xcat_i, xcat_l, xcat_r, xcat_n]) (Nat.le_of_ble_eq_true rfl) (Nat.le_of_ble_eq_true rfl) dAL_grow2_49 ?_
      replace h := h _ rfl
      generalize (if 10 < p0 then p0 else 10) = r11 at h ⊢
      obtain ⟨n14, hn0, hn1, hn2, h⟩ := h
      refine xw_newq (N' := n14) hx hb hown (hts _ mw_61) hK hE hw hn0 hn1 (by omega) (Nat.le_of_ble_eq_true rfl) (Nat.le_trans (Nat.add_le_add_left hn2 _) (Nat.le_of_ble_eq_true rfl)) dAL_grow2_52 (fun q12 H hq hqA hw => ?_)
      refine W.widen (k := 1) (n := 366) (Nat.le_of_ble_eq_true rfl) (Nat.add_le_add_left hn2 _) ?_
      replace h := h _ ⟨hq, xq6 hE hqA⟩ _ rfl
      generalize va_up w q12 (some (xcQ (E.1 0) n14 (fun _ => none))) = w13 at hw h
      refine lv_dup_x1 hx hb dAL_grow2_55 rfl rfl ?_
      obtain ⟨hv, h⟩ := h
      refine xw_put (ty := (.array (.object "java/lang/Object"))) (C := RAL) (T := TAL) (N := 3) (ref := RAL) hx hb hts inAL tyAL tyAL_ok nmAL hown hK hw rfl 1 (by decide) (hts _ mw_8) (fun _ h9 => h9) rfl (by decide +kernel) rfl rfl hv dAL_grow2_56 (fun H locs hw => ?_)
      replace h := h _ rfl
      generalize xp w13 h0 1 (.ref q12) = w15 at hw h
      refine W.widen (k := 1) (n := 366) (Nat.le_of_ble_eq_true rfl) (Nat.le_of_ble_eq_true rfl) ?_
      exact xw_aret (r := (some q12)) (Or.inr ⟨_, rfl⟩) hx hb hr hlocks hw h dAL_grow2_59
    · replace h := h.2 hc
      refine lv_iload_n hx hb dAL_grow2_20 rfl (lv_at hl 0 rfl) ?_
      refine lv_iload_n hx hb dAL_grow2_21 rfl (lv_at hl 2 rfl) ?_
      refine lv_iload_n hx hb dAL_grow2_22 rfl (lv_at hl 0 rfl) ?_
      refine lv_isub hx hb dAL_grow2_23 ?_
      refine lv_iload_n hx hb dAL_grow2_24 rfl (lv_at hl 0 rfl) ?_
      refine lv_iconst (v := 1) hx hb dAL_grow2_25 (by decide) ?_
      refine lv_ishr hx hb dAL_grow2_26 ?_
      have hcall := h
      clear h
      refine xw_calli (va_runS (As := [.int (nI n3), .int (p0 - (nI n3)), .int ((nI n3) >>> (1 &&& 31))]) (rest := []) ⟨hx, hb, hml, hown, hts⟩ (c_AS_newLength l D E A _ w (nI n3) (p0 - (nI n3)) ((nI n3) >>> (1 &&& 31)) hcall) (va_cwS 3 hts (xG_S mw_58 mw_59 mw_32 mw_60) rfl rfl rfl (by decide +kernel) ⟨(Nat.le_of_ble_eq_true rfl), (Nat.le_of_ble_eq_true rfl)⟩) (xw_preS hw hK hE) rfl rfl hl.1 rfl (lv_room (by first | exact Nat.le_of_ble_eq_true rfl | simp [va_rf_cat, xcat_i, xcat_l, xcat_r, xcat_n])) dAL_grow2_27 ⟨(Nat.le_of_ble_eq_true rfl), (Nat.le_of_ble_eq_true rfl)⟩) hw (fun r16 w17 H locs h hw => ?_)
      clear hcall
      refine lv_istore_n (i := 3) (lv' := [(3, .int r16), (2, .int (nI n3)), (0, .ref h0), (1, .int p0)]) hx hb dAL_grow2_30 rfl hl (by decide) (by first | rfl | simp [va_rf_cat, xcat_i, xcat_l, xcat_r, xcat_n]) (fun ls hl => ?_)
      refine lv_aload_n hx hb dAL_grow2_31 rfl (lv_at hl 2 rfl) ?_
      refine lv_aload_n hx hb dAL_grow2_32 rfl (lv_at hl 2 rfl) ?_
      obtain ⟨v18, hv, h⟩ := h
      refine xw_getR (C := RAL) (T := TAL) (N := 3) (ref := RAL) hx hb hts inAL hown hK hw rfl 1 (by decide) (hts _ mw_8) (fun _ h9 => h9) hv dAL_grow2_33 ?_
      refine lv_iload_n hx hb dAL_grow2_36 rfl (lv_at hl 0 rfl) ?_
      have hcall := h
      clear h
      refine xw_callq (va_runS (As := [va_rf v18, .int r16]) (rest := [.ref h0]) ⟨hx, hb, hml, hown, hts⟩ (c_AR_copyOf l D E A _ w17 v18 r16 hcall) (va_cwS 2 hts (xG_S mw_55 mw_56 mw_49 mw_57) rfl rfl rfl (by decide +kernel) ⟨(Nat.le_of_ble_eq_true rfl), (Nat.le_of_ble_eq_true rfl)⟩) (xw_preS hw hK hE) rfl rfl hl.1 rfl (lv_room (by first | exact Nat.le_of_ble_eq_true rfl | simp [va_rf_cat, xcat_i, xcat_l, xcat_r, xcat_n])) dAL_grow2_37 ⟨(Nat.le_of_ble_eq_true rfl), (Nat.le_of_ble_eq_true rfl)⟩) hw (fun r19 w20 H locs h hw => ?_)
      clear hcall
      refine lv_dup_x1 hx hb dAL_grow2_40 (va_rf_cat _) rfl ?_
      obtain ⟨hv, h⟩ := h
      refine xw_put (ty := (.array (.object "java/lang/Object"))) (C := RAL) (T := TAL) (N := 3) (ref := RAL) hx hb hts inAL tyAL tyAL_ok nmAL hown hK hw rfl 1 (by decide) (hts _ mw_8) (fun _ h9 => h9) rfl (by decide +kernel) (xn_rf _ _ (Or.inr ⟨_, rfl⟩)) (xf_rf _ _ (Or.inr ⟨_, rfl⟩)) hv dAL_grow2_41 (fun H locs hw => ?_)
      replace h := h _ rfl
      generalize xp w20 h0 1 (va_rf r19) = w21 at hw h
      refine W.widen (k := 1) (n := 366) (Nat.le_of_ble_eq_true rfl) (Nat.le_of_ble_eq_true rfl) ?_
      exact xw_aret (r := r19) (Or.inr ⟨_, rfl⟩) hx hb hr hlocks hw h dAL_grow2_44
def wp_AL_grow (E : xE_T) (post : Option Nat → xw_T → Prop) (w : xw_T) (h0 : Nat) : Prop := ∃ v1, xgI w h0 0 2 = some v1 ∧ ((∃ fs, w h0 = some (.inr (0, fs))) ∧ wp_AL_grow2 E (fun r2 w3 => post r2 w3) w h0 (v1 + 1))
set_option maxHeartbeats 4000000 in
set_option maxRecDepth 100000 in
theorem c_AL_grow (l : Launch) (D : va_G) (E : xE_T) (A : Nat → Prop) (post : Option Nat → xw_T → Prop) (w : xw_T) (h0 : Nat) (h : wp_AL_grow E post w h0) : Met l yAL_grow (xW yAL_grow cAL_grow 1 (some (.array (.object "java/lang/Object")))) ({ frames := 4, cells := 1, slots := 366, locals := 85 } : Room) (va_Pc [.ref h0] (xP D E A w)) (va_Qq post (xB D A) A) 1 366 A := by
  refine Met.ofW (cc := cAL_grow) (maxL := 1) (ret := (some (.array (.object "java/lang/Object")))) (by decide) rfl ?_
  intro p e s m args below meth c s₁ B hml hv
  obtain ⟨rfl, hw, hK, hE⟩ := hv
  have hx := B.exec
  have hb := B.bytes
  have hr := B.returns
  have hts : ∀ w ∈ xTB, w.before _ s = true := fun w hw => atoms_spec (ws := xW yAL_grow cAL_grow 1 (some (.array (.object "java/lang/Object")))) B.pre w (List.mem_cons_of_mem _ hw)
  have hown : s.vm.findClass RAL = some m.cls := findClass_of_methodNamed B.named
  have hlocks := B.notSynchronized
  have hw : xw_S D vwCl A s.heap w s.heap [] := xw_S0 hw
  refine xl_start (lvs := [(0, .ref h0)]) (by first | exact Nat.le_of_ble_eq_true rfl | simp [lg_sl, va_rf_cat, xcat_i, xcat_l, xcat_r, xcat_n]) (by first | rfl | simp [lv_args, va_rf_cat, xcat_i, xcat_l, xcat_r, xcat_n]) (fun ls hl => ?_)
  unfold wp_AL_grow at h
  refine lv_aload_n hx hb dAL_grow_0 rfl (lv_at hl 0 rfl) ?_
  refine lv_aload_n hx hb dAL_grow_1 rfl (lv_at hl 0 rfl) ?_
  obtain ⟨v1, hv, h⟩ := h
  refine xw_getI (C := RAL) (T := TAL) (N := 3) (ref := RAL) hx hb hts inAL hown hK hw rfl 2 (by decide) (hts _ mw_25) (fun _ h9 => h9) hv dAL_grow_2 ?_
  refine lv_iconst (v := 1) hx hb dAL_grow_5 (by decide) ?_
  refine lv_iadd hx hb dAL_grow_6 ?_
  obtain ⟨⟨fs, hk⟩, h⟩ := h
  have hcall := h
  clear h
  refine xw_callq (va_runV (As := [.int (v1 + 1)]) (rest := []) ⟨hx, hb, hml, hown, hts⟩ (c_AL_grow2 l D E A _ w h0 (v1 + 1) hcall) (cwV 1 hts (xG_V mw_63 mw_64 mw_65 mw_19 mw_66) rfl rfl rfl (by decide +kernel) ⟨(Nat.le_of_ble_eq_true rfl), (Nat.le_of_ble_eq_true rfl)⟩) (xw_preV (ci := 0) hw hK hE rfl hk) rfl rfl hl.1 rfl (lv_room (by first | exact Nat.le_of_ble_eq_true rfl | simp [va_rf_cat, xcat_i, xcat_l, xcat_r, xcat_n])) dAL_grow_7 ⟨(Nat.le_of_ble_eq_true rfl), (Nat.le_of_ble_eq_true rfl)⟩) hw (fun r2 w3 H locs h hw => ?_)
  clear hcall
  refine W.widen (k := 1) (n := 366) (Nat.le_of_ble_eq_true rfl) (Nat.le_of_ble_eq_true rfl) ?_
  exact xw_aret (r := r2) (Or.inr ⟨_, rfl⟩) hx hb hr hlocks hw h dAL_grow_10
def wp_AL_add2 (E : xE_T) (post : xw_T → Prop) (w : xw_T) (h0 : Nat) (p0 : Option Nat) (p1 : Option Nat) (p2 : Int32) : Prop := ∃ a1 : Nat, p1 = some a1 ∧ (∃ n2 : Nat, xlen E w a1 0 = some n2 ∧ ((¬ p2 = (nI n2) → (∃ a3 : Nat, p0 = some a3 ∧ (∃ n4 f5, xaQ w a1 (E.1 0) = some (n4, f5) ∧ xOb w a3 ∧ vp_in p2 n4 ∧ ∀ w6, w6 = va_up w a1 (some (xcQ (E.1 0) n4 (va_up f5 p2.toNatClampNeg (some a3)))) → ((∃ v0, xg w6 h0 0 2 = some v0) ∧ ∀ w7, w7 = xp w6 h0 2 (.int (p2 + 1)) → (post w7))))) ∧ (p2 = (nI n2) → ((∃ fs, w h0 = some (.inr (0, fs))) ∧ wp_AL_grow E (fun r8 w9 => ∃ a10 : Nat, p0 = some a10 ∧ (∃ a11 : Nat, r8 = some a11 ∧ (∃ n12 f13, xaQ w9 a11 (E.1 0) = some (n12, f13) ∧ xOb w9 a10 ∧ vp_in p2 n12 ∧ ∀ w14, w14 = va_up w9 a11 (some (xcQ (E.1 0) n12 (va_up f13 p2.toNatClampNeg (some a10)))) → ((∃ v0, xg w14 h0 0 2 = some v0) ∧ ∀ w15, w15 = xp w14 h0 2 (.int (p2 + 1)) → (post w15))))) w h0))))
set_option maxHeartbeats 4000000 in
set_option maxRecDepth 100000 in
theorem c_AL_add2 (l : Launch) (D : va_G) (E : xE_T) (A : Nat → Prop) (post : xw_T → Prop) (w : xw_T) (h0 : Nat) (p0 : Option Nat) (p1 : Option Nat) (p2 : Int32) (h : wp_AL_add2 E post w h0 p0 p1 p2) : Met l yAL_add2 (xW yAL_add2 cAL_add2 4 none) ({ frames := 5, cells := 1, slots := 366, locals := 105 } : Room) (va_Pc [.ref h0, va_rf p0, va_rf p1, .int p2] (xP D E A w)) (va_Qv post (xB D A) A) 1 366 A := by
  refine Met.ofW (cc := cAL_add2) (maxL := 4) (ret := none) (by decide) rfl ?_
  intro p e s m args below meth c s₁ B hml hv
  obtain ⟨rfl, hw, hK, hE⟩ := hv
  have hx := B.exec
  have hb := B.bytes
  have hr := B.returns
  have hts : ∀ w ∈ xTB, w.before _ s = true := fun w hw => atoms_spec (ws := xW yAL_add2 cAL_add2 4 none) B.pre w (List.mem_cons_of_mem _ hw)
  have hown : s.vm.findClass RAL = some m.cls := findClass_of_methodNamed B.named
  have hlocks := B.notSynchronized
  have hw : xw_S D vwCl A s.heap w s.heap [] := xw_S0 hw
  refine xl_start (lvs := [(0, .ref h0), (1, va_rf p0), (2, va_rf p1), (3, .int p2)]) (by first | exact Nat.le_of_ble_eq_true rfl | simp [lg_sl, va_rf_cat, xcat_i, xcat_l, xcat_r, xcat_n]) (by first | rfl | simp [lv_args, va_rf_cat, xcat_i, xcat_l, xcat_r, xcat_n]) (fun ls hl => ?_)
  unfold wp_AL_add2 at h
  refine lv_iload_n hx hb dAL_add2_0 rfl (lv_at hl 3 rfl) ?_
  refine xl_aload_n hx hb dAL_add2_1 rfl (lv_at hl 2 rfl) ?_
  obtain ⟨a1, rfl, h⟩ := h
  obtain ⟨n2, hn, h⟩ := h
  refine xw_len hx hb hK hE hw 0 (by decide) hn dAL_add2_2 ?_
  refine lv_icmp_ne (tgt := 11) hx hb dAL_add2_3 rfl (fun hc => ?_) (fun hc => ?_)
  · replace h := h.1 hc
    refine lv_aload_n hx hb dAL_add2_11 rfl (lv_at hl 2 rfl) ?_
    refine lv_iload_n hx hb dAL_add2_12 rfl (lv_at hl 3 rfl) ?_
    refine xl_aload_n hx hb dAL_add2_13 rfl (lv_at hl 1 rfl) ?_
    obtain ⟨a3, rfl, h⟩ := h
    obtain ⟨n4, f5, ha, hob, hin9, h⟩ := h
    refine xw_aasO hx hb hK hE hw ha hob hin9 dAL_add2_14 (fun H locs hw => ?_)
    replace h := h _ rfl
    generalize va_up w a1 (some (xcQ (E.1 0) n4 (va_up f5 p2.toNatClampNeg (some a3)))) = w6 at hw h
    refine lv_aload_n hx hb dAL_add2_15 rfl (lv_at hl 0 rfl) ?_
    refine lv_iload_n hx hb dAL_add2_16 rfl (lv_at hl 3 rfl) ?_
    refine lv_iconst (v := 1) hx hb dAL_add2_17 (by decide) ?_
    refine lv_iadd hx hb dAL_add2_18 ?_
    obtain ⟨hv, h⟩ := h
    refine xw_put (ty := (.int)) (C := RAL) (T := TAL) (N := 3) (ref := RAL) hx hb hts inAL tyAL tyAL_ok nmAL hown hK hw rfl 2 (by decide) (hts _ mw_25) (fun _ h9 => h9) rfl (by decide +kernel) rfl rfl hv dAL_add2_19 (fun H locs hw => ?_)
    replace h := h _ rfl
    generalize xp w6 h0 2 (.int (p2 + 1)) = w7 at hw h
    refine W.widen (k := 1) (n := 366) (Nat.le_of_ble_eq_true rfl) (Nat.le_of_ble_eq_true rfl) ?_
    exact xw_vret hx hb hr hlocks hw h dAL_add2_22
  · replace h := h.2 hc
    refine lv_aload_n hx hb dAL_add2_6 rfl (lv_at hl 0 rfl) ?_
    obtain ⟨⟨fs, hk⟩, h⟩ := h
    have hcall := h
    clear h
    refine xw_callq (va_runV (As := []) (rest := []) ⟨hx, hb, hml, hown, hts⟩ (c_AL_grow l D E A _ w h0 hcall) (cwV 0 hts (xG_V mw_67 mw_68 mw_69 mw_19 mw_70) rfl rfl rfl (by decide +kernel) ⟨(Nat.le_of_ble_eq_true rfl), (Nat.le_of_ble_eq_true rfl)⟩) (xw_preV (ci := 0) hw hK hE rfl hk) rfl rfl hl.1 rfl (lv_room (by first | exact Nat.le_of_ble_eq_true rfl | simp [va_rf_cat, xcat_i, xcat_l, xcat_r, xcat_n])) dAL_add2_7 ⟨(Nat.le_of_ble_eq_true rfl), (Nat.le_of_ble_eq_true rfl)⟩) hw (fun r8 w9 H locs h hw => ?_)
    clear hcall
    refine xl_astore_n (i := 2) (lv' := [(2, va_rf r8), (0, .ref h0), (1, va_rf p0), (3, .int p2)]) hx hb dAL_add2_10 rfl hl (by decide) (by first | rfl | simp [va_rf_cat, xcat_i, xcat_l, xcat_r, xcat_n]) (fun ls hl => ?_)
    refine xl_aload_n hx hb dAL_add2_11 rfl (lv_at hl 0 rfl) ?_
    refine lv_iload_n hx hb dAL_add2_12 rfl (lv_at hl 3 rfl) ?_
    refine xl_aload_n hx hb dAL_add2_13 rfl (lv_at hl 2 rfl) ?_
    obtain ⟨a10, rfl, h⟩ := h
    obtain ⟨a11, rfl, h⟩ := h
    obtain ⟨n12, f13, ha, hob, hin9, h⟩ := h
    refine xw_aasO hx hb hK hE hw ha hob hin9 dAL_add2_14 (fun H locs hw => ?_)
    replace h := h _ rfl
    generalize va_up w9 a11 (some (xcQ (E.1 0) n12 (va_up f13 p2.toNatClampNeg (some a10)))) = w14 at hw h
    refine lv_aload_n hx hb dAL_add2_15 rfl (lv_at hl 1 rfl) ?_
    refine lv_iload_n hx hb dAL_add2_16 rfl (lv_at hl 3 rfl) ?_
    refine lv_iconst (v := 1) hx hb dAL_add2_17 (by decide) ?_
    refine lv_iadd hx hb dAL_add2_18 ?_
    obtain ⟨hv, h⟩ := h
    refine xw_put (ty := (.int)) (C := RAL) (T := TAL) (N := 3) (ref := RAL) hx hb hts inAL tyAL tyAL_ok nmAL hown hK hw rfl 2 (by decide) (hts _ mw_25) (fun _ h9 => h9) rfl (by decide +kernel) rfl rfl hv dAL_add2_19 (fun H locs hw => ?_)
    replace h := h _ rfl
    generalize xp w14 h0 2 (.int (p2 + 1)) = w15 at hw h
    refine W.widen (k := 1) (n := 366) (Nat.le_of_ble_eq_true rfl) (Nat.le_of_ble_eq_true rfl) ?_
    exact xw_vret hx hb hr hlocks hw h dAL_add2_22
def wp_AL_add (E : xE_T) (post : Int32 → xw_T → Prop) (w : xw_T) (h0 : Nat) (p0 : Option Nat) : Prop := ∃ v1, xgI w h0 0 0 = some v1 ∧ ((∃ v0, xg w h0 0 0 = some v0) ∧ ∀ w2, w2 = xp w h0 0 (.int (v1 + 1)) → (∃ v3, xgR w2 h0 0 1 = some v3 ∧ (∃ v4, xgI w2 h0 0 2 = some v4 ∧ ((∃ fs, w2 h0 = some (.inr (0, fs))) ∧ wp_AL_add2 E (fun w6 => post 1 w6) w2 h0 p0 v3 v4))))
set_option maxHeartbeats 4000000 in
set_option maxRecDepth 100000 in
theorem c_AL_add (l : Launch) (D : va_G) (E : xE_T) (A : Nat → Prop) (post : Int32 → xw_T → Prop) (w : xw_T) (h0 : Nat) (p0 : Option Nat) (h : wp_AL_add E post w h0 p0) : Met l yAL_add (xW yAL_add cAL_add 2 (some (.boolean))) ({ frames := 6, cells := 1, slots := 366, locals := 128 } : Room) (va_Pc [.ref h0, va_rf p0] (xP D E A w)) (va_Qi post (xB D A) A) 1 366 A := by
  refine Met.ofW (cc := cAL_add) (maxL := 2) (ret := (some (.boolean))) (by decide) rfl ?_
  intro p e s m args below meth c s₁ B hml hv
  obtain ⟨rfl, hw, hK, hE⟩ := hv
  have hx := B.exec
  have hb := B.bytes
  have hr := B.returns
  have hts : ∀ w ∈ xTB, w.before _ s = true := fun w hw => atoms_spec (ws := xW yAL_add cAL_add 2 (some (.boolean))) B.pre w (List.mem_cons_of_mem _ hw)
  have hown : s.vm.findClass RAL = some m.cls := findClass_of_methodNamed B.named
  have hlocks := B.notSynchronized
  have hw : xw_S D vwCl A s.heap w s.heap [] := xw_S0 hw
  refine xl_start (lvs := [(0, .ref h0), (1, va_rf p0)]) (by first | exact Nat.le_of_ble_eq_true rfl | simp [lg_sl, va_rf_cat, xcat_i, xcat_l, xcat_r, xcat_n]) (by first | rfl | simp [lv_args, va_rf_cat, xcat_i, xcat_l, xcat_r, xcat_n]) (fun ls hl => ?_)
  unfold wp_AL_add at h
  refine lv_aload_n hx hb dAL_add_0 rfl (lv_at hl 0 rfl) ?_
  refine lv_dup hx hb dAL_add_1 rfl ?_
  obtain ⟨v1, hv, h⟩ := h
  refine xw_getI (C := RAL) (T := TAL) (N := 3) (ref := RAL) hx hb hts inAL hown hK hw rfl 0 (by decide) (hts _ mw_75) (fun x h9 => u_same (hts _ mw_76) x h9) hv dAL_add_2 ?_
  refine lv_iconst (v := 1) hx hb dAL_add_5 (by decide) ?_
  refine lv_iadd hx hb dAL_add_6 ?_
  obtain ⟨hv, h⟩ := h
  refine xw_put (ty := (.int)) (C := RAL) (T := TAL) (N := 3) (ref := RAL) hx hb hts inAL tyAL tyAL_ok nmAL hown hK hw rfl 0 (by decide) (hts _ mw_75) (fun x h9 => u_same (hts _ mw_76) x h9) rfl (by decide +kernel) rfl rfl hv dAL_add_7 (fun H locs hw => ?_)
  replace h := h _ rfl
  generalize xp w h0 0 (.int (v1 + 1)) = w2 at hw h
  refine lv_aload_n hx hb dAL_add_10 rfl (lv_at hl 0 rfl) ?_
  refine xl_aload_n hx hb dAL_add_11 rfl (lv_at hl 1 rfl) ?_
  refine lv_aload_n hx hb dAL_add_12 rfl (lv_at hl 0 rfl) ?_
  obtain ⟨v3, hv, h⟩ := h
  refine xw_getR (C := RAL) (T := TAL) (N := 3) (ref := RAL) hx hb hts inAL hown hK hw rfl 1 (by decide) (hts _ mw_8) (fun _ h9 => h9) hv dAL_add_13 ?_
  refine lv_aload_n hx hb dAL_add_16 rfl (lv_at hl 0 rfl) ?_
  obtain ⟨v4, hv, h⟩ := h
  refine xw_getI (C := RAL) (T := TAL) (N := 3) (ref := RAL) hx hb hts inAL hown hK hw rfl 2 (by decide) (hts _ mw_25) (fun _ h9 => h9) hv dAL_add_17 ?_
  obtain ⟨⟨fs, hk⟩, h⟩ := h
  have hcall := h
  clear h
  refine xw_callv (va_runV (As := [va_rf p0, va_rf v3, .int v4]) (rest := []) ⟨hx, hb, hml, hown, hts⟩ (c_AL_add2 l D E A _ w2 h0 p0 v3 v4 hcall) (cwV 3 hts (xG_V mw_71 mw_72 mw_73 mw_19 mw_74) rfl rfl rfl (by decide +kernel) ⟨(Nat.le_of_ble_eq_true rfl), (Nat.le_of_ble_eq_true rfl)⟩) (xw_preV (ci := 0) hw hK hE rfl hk) rfl rfl hl.1 rfl (lv_room (by first | exact Nat.le_of_ble_eq_true rfl | simp [va_rf_cat, xcat_i, xcat_l, xcat_r, xcat_n])) dAL_add_20 ⟨(Nat.le_of_ble_eq_true rfl), (Nat.le_of_ble_eq_true rfl)⟩) hw (fun w6 H locs h hw => ?_)
  clear hcall
  refine lv_iconst (v := 1) hx hb dAL_add_23 (by decide) ?_
  refine W.widen (k := 1) (n := 366) (Nat.le_of_ble_eq_true rfl) (Nat.le_of_ble_eq_true rfl) ?_
  exact xw_zret (by decide) hx hb hr hlocks hw h dAL_add_24
def wp_PC_checkIndex (E : xE_T) (post : Int32 → xw_T → Prop) (w : xw_T) (p0 : Int32) (p1 : Int32) (p2 : Option Nat) : Prop := (p0 < 0 → (False)) ∧ (¬ p0 < 0 → ((p0 < p1 → (post p0 w)) ∧ (¬ p0 < p1 → (False))))
set_option maxHeartbeats 4000000 in
set_option maxRecDepth 100000 in
theorem c_PC_checkIndex (l : Launch) (D : va_G) (E : xE_T) (A : Nat → Prop) (post : Int32 → xw_T → Prop) (w : xw_T) (p0 : Int32) (p1 : Int32) (p2 : Option Nat) (h : wp_PC_checkIndex E post w p0 p1 p2) : Met l yPC_checkIndex (xW yPC_checkIndex cPC_checkIndex 3 (some (.int))) ({ frames := 0, cells := 0, slots := 0, locals := 0 } : Room) (va_Pc [.int p0, .int p1, va_rf p2] (xP D E A w)) (va_Qi post (xB D A) A) 0 0 A := by
  refine Met.ofW (cc := cPC_checkIndex) (maxL := 3) (ret := (some (.int))) (by decide) rfl ?_
  intro p e s m args below meth c s₁ B hml hv
  obtain ⟨rfl, hw, hK, hE⟩ := hv
  have hx := B.exec
  have hb := B.bytes
  have hr := B.returns
  have hts : ∀ w ∈ xTB, w.before _ s = true := fun w hw => atoms_spec (ws := xW yPC_checkIndex cPC_checkIndex 3 (some (.int))) B.pre w (List.mem_cons_of_mem _ hw)
  have hown : s.vm.findClass RPC = some m.cls := findClass_of_methodNamed B.named
  have hlocks := B.notSynchronized
  have hw : xw_S D vwCl A s.heap w s.heap [] := xw_S0 hw
  refine xl_start (lvs := [(0, .int p0), (1, .int p1), (2, va_rf p2)]) (by first | exact Nat.le_of_ble_eq_true rfl | simp [lg_sl, va_rf_cat, xcat_i, xcat_l, xcat_r, xcat_n]) (by first | rfl | simp [lv_args, va_rf_cat, xcat_i, xcat_l, xcat_r, xcat_n]) (fun ls hl => ?_)
  unfold wp_PC_checkIndex at h
  refine lv_iload_n hx hb dPC_checkIndex_0 rfl (lv_at hl 0 rfl) ?_
  refine lv_if_lt (tgt := 9) hx hb dPC_checkIndex_1 rfl (fun hc => ?_) (fun hc => ?_)
  · replace h := h.1 hc
    refine xl_aload_n hx hb dPC_checkIndex_9 rfl (lv_at hl 2 rfl) ?_
    refine lv_iload_n hx hb dPC_checkIndex_10 rfl (lv_at hl 0 rfl) ?_
    refine lv_iload_n hx hb dPC_checkIndex_11 rfl (lv_at hl 1 rfl) ?_
    exact h.elim
  · replace h := h.2 hc
    refine lv_iload_n hx hb dPC_checkIndex_4 rfl (lv_at hl 0 rfl) ?_
    refine lv_iload_n hx hb dPC_checkIndex_5 rfl (lv_at hl 1 rfl) ?_
    refine lv_icmp_lt (tgt := 16) hx hb dPC_checkIndex_6 rfl (fun hc => ?_) (fun hc => ?_)
    · replace h := h.1 hc
      refine lv_iload_n hx hb dPC_checkIndex_16 rfl (lv_at hl 0 rfl) ?_
      refine W.widen (k := 0) (n := 0) (Nat.le_of_ble_eq_true rfl) (Nat.le_of_ble_eq_true rfl) ?_
      exact xw_iret hx hb hr hlocks hw h dPC_checkIndex_17
    · replace h := h.2 hc
      refine xl_aload_n hx hb dPC_checkIndex_9 rfl (lv_at hl 2 rfl) ?_
      refine lv_iload_n hx hb dPC_checkIndex_10 rfl (lv_at hl 0 rfl) ?_
      refine lv_iload_n hx hb dPC_checkIndex_11 rfl (lv_at hl 1 rfl) ?_
      exact h.elim
def wp_OB_checkIndex (E : xE_T) (post : Int32 → xw_T → Prop) (w : xw_T) (p0 : Int32) (p1 : Int32) : Prop := wp_PC_checkIndex E (fun r1 w2 => post r1 w2) w p0 p1 none
set_option maxHeartbeats 4000000 in
set_option maxRecDepth 100000 in
theorem c_OB_checkIndex (l : Launch) (D : va_G) (E : xE_T) (A : Nat → Prop) (post : Int32 → xw_T → Prop) (w : xw_T) (p0 : Int32) (p1 : Int32) (h : wp_OB_checkIndex E post w p0 p1) : Met l yOB_checkIndex (xW yOB_checkIndex cOB_checkIndex 2 (some (.int))) ({ frames := 1, cells := 0, slots := 0, locals := 22 } : Room) (va_Pc [.int p0, .int p1] (xP D E A w)) (va_Qi post (xB D A) A) 0 0 A := by
  refine Met.ofW (cc := cOB_checkIndex) (maxL := 2) (ret := (some (.int))) (by decide) rfl ?_
  intro p e s m args below meth c s₁ B hml hv
  obtain ⟨rfl, hw, hK, hE⟩ := hv
  have hx := B.exec
  have hb := B.bytes
  have hr := B.returns
  have hts : ∀ w ∈ xTB, w.before _ s = true := fun w hw => atoms_spec (ws := xW yOB_checkIndex cOB_checkIndex 2 (some (.int))) B.pre w (List.mem_cons_of_mem _ hw)
  have hown : s.vm.findClass ROB = some m.cls := findClass_of_methodNamed B.named
  have hlocks := B.notSynchronized
  have hw : xw_S D vwCl A s.heap w s.heap [] := xw_S0 hw
  refine xl_start (lvs := [(0, .int p0), (1, .int p1)]) (by first | exact Nat.le_of_ble_eq_true rfl | simp [lg_sl, va_rf_cat, xcat_i, xcat_l, xcat_r, xcat_n]) (by first | rfl | simp [lv_args, va_rf_cat, xcat_i, xcat_l, xcat_r, xcat_n]) (fun ls hl => ?_)
  unfold wp_OB_checkIndex at h
  refine lv_iload_n hx hb dOB_checkIndex_0 rfl (lv_at hl 0 rfl) ?_
  refine lv_iload_n hx hb dOB_checkIndex_1 rfl (lv_at hl 1 rfl) ?_
  refine lv_null hx hb dOB_checkIndex_2 ?_
  have hcall := h
  clear h
  refine xw_calli (va_runS (As := [.int p0, .int p1, va_rf none]) (rest := []) ⟨hx, hb, hml, hown, hts⟩ (c_PC_checkIndex l D E A _ w p0 p1 none hcall) (va_cwS 3 hts (xG_S mw_126 mw_127 mw_128 mw_129) rfl rfl rfl (by decide +kernel) ⟨(Nat.le_of_ble_eq_true rfl), (Nat.le_of_ble_eq_true rfl)⟩) (xw_preS hw hK hE) rfl rfl hl.1 rfl (lv_room (by first | exact Nat.le_of_ble_eq_true rfl | simp [va_rf_cat, xcat_i, xcat_l, xcat_r, xcat_n])) dOB_checkIndex_3 ⟨(Nat.le_of_ble_eq_true rfl), (Nat.le_of_ble_eq_true rfl)⟩) hw (fun r1 w2 H locs h hw => ?_)
  clear hcall
  refine W.widen (k := 0) (n := 0) (Nat.le_of_ble_eq_true rfl) (Nat.le_of_ble_eq_true rfl) ?_
  exact xw_iret hx hb hr hlocks hw h dOB_checkIndex_6
def wp_AL_elementData (E : xE_T) (post : Option Nat → xw_T → Prop) (w : xw_T) (h0 : Nat) (p0 : Int32) : Prop := ∃ v1, xgR w h0 0 1 = some v1 ∧ (∃ a2 : Nat, v1 = some a2 ∧ (∃ n3 f4, xaQ w a2 (E.1 0) = some (n3, f4) ∧ vp_in p0 n3 ∧ ∃ v5, f4 p0.toNatClampNeg = v5 ∧ (post v5 w)))
set_option maxHeartbeats 4000000 in
set_option maxRecDepth 100000 in
theorem c_AL_elementData (l : Launch) (D : va_G) (E : xE_T) (A : Nat → Prop) (post : Option Nat → xw_T → Prop) (w : xw_T) (h0 : Nat) (p0 : Int32) (h : wp_AL_elementData E post w h0 p0) : Met l yAL_elementData (xW yAL_elementData cAL_elementData 2 (some (.object "java/lang/Object"))) ({ frames := 0, cells := 0, slots := 0, locals := 0 } : Room) (va_Pc [.ref h0, .int p0] (xP D E A w)) (va_Qq post (xB D A) A) 0 0 A := by
  refine Met.ofW (cc := cAL_elementData) (maxL := 2) (ret := (some (.object "java/lang/Object"))) (by decide) rfl ?_
  intro p e s m args below meth c s₁ B hml hv
  obtain ⟨rfl, hw, hK, hE⟩ := hv
  have hx := B.exec
  have hb := B.bytes
  have hr := B.returns
  have hts : ∀ w ∈ xTB, w.before _ s = true := fun w hw => atoms_spec (ws := xW yAL_elementData cAL_elementData 2 (some (.object "java/lang/Object"))) B.pre w (List.mem_cons_of_mem _ hw)
  have hown : s.vm.findClass RAL = some m.cls := findClass_of_methodNamed B.named
  have hlocks := B.notSynchronized
  have hw : xw_S D vwCl A s.heap w s.heap [] := xw_S0 hw
  refine xl_start (lvs := [(0, .ref h0), (1, .int p0)]) (by first | exact Nat.le_of_ble_eq_true rfl | simp [lg_sl, va_rf_cat, xcat_i, xcat_l, xcat_r, xcat_n]) (by first | rfl | simp [lv_args, va_rf_cat, xcat_i, xcat_l, xcat_r, xcat_n]) (fun ls hl => ?_)
  unfold wp_AL_elementData at h
  refine lv_aload_n hx hb dAL_elementData_0 rfl (lv_at hl 0 rfl) ?_
  obtain ⟨v1, hv, h⟩ := h
  refine xw_getR (C := RAL) (T := TAL) (N := 3) (ref := RAL) hx hb hts inAL hown hK hw rfl 1 (by decide) (hts _ mw_8) (fun _ h9 => h9) hv dAL_elementData_1 ?_
  refine lv_iload_n hx hb dAL_elementData_4 rfl (lv_at hl 1 rfl) ?_
  obtain ⟨a2, rfl, h⟩ := h
  obtain ⟨n3, f4, ha, hin9, v5, ev, h⟩ := h
  refine xw_aald hx hb hK hw 0 rfl ha hin9 dAL_elementData_5 ?_
  rw [ev]
  refine W.widen (k := 0) (n := 0) (Nat.le_of_ble_eq_true rfl) (Nat.le_of_ble_eq_true rfl) ?_
  exact xw_aret (r := v5) (Or.inl ⟨_, rfl⟩) hx hb hr hlocks hw h dAL_elementData_6
def wp_AL_get (E : xE_T) (post : Option Nat → xw_T → Prop) (w : xw_T) (h0 : Nat) (p0 : Int32) : Prop := ∃ v1, xgI w h0 0 2 = some v1 ∧ (wp_OB_checkIndex E (fun r2 w3 => (∃ fs, w3 h0 = some (.inr (0, fs))) ∧ wp_AL_elementData E (fun r4 w5 => post r4 w5) w3 h0 p0) w p0 v1)
set_option maxHeartbeats 4000000 in
set_option maxRecDepth 100000 in
theorem c_AL_get (l : Launch) (D : va_G) (E : xE_T) (A : Nat → Prop) (post : Option Nat → xw_T → Prop) (w : xw_T) (h0 : Nat) (p0 : Int32) (h : wp_AL_get E post w h0 p0) : Met l yAL_get (xW yAL_get cAL_get 2 (some (.object "java/lang/Object"))) ({ frames := 2, cells := 0, slots := 0, locals := 43 } : Room) (va_Pc [.ref h0, .int p0] (xP D E A w)) (va_Qq post (xB D A) A) 0 0 A := by
  refine Met.ofW (cc := cAL_get) (maxL := 2) (ret := (some (.object "java/lang/Object"))) (by decide) rfl ?_
  intro p e s m args below meth c s₁ B hml hv
  obtain ⟨rfl, hw, hK, hE⟩ := hv
  have hx := B.exec
  have hb := B.bytes
  have hr := B.returns
  have hts : ∀ w ∈ xTB, w.before _ s = true := fun w hw => atoms_spec (ws := xW yAL_get cAL_get 2 (some (.object "java/lang/Object"))) B.pre w (List.mem_cons_of_mem _ hw)
  have hown : s.vm.findClass RAL = some m.cls := findClass_of_methodNamed B.named
  have hlocks := B.notSynchronized
  have hw : xw_S D vwCl A s.heap w s.heap [] := xw_S0 hw
  refine xl_start (lvs := [(0, .ref h0), (1, .int p0)]) (by first | exact Nat.le_of_ble_eq_true rfl | simp [lg_sl, va_rf_cat, xcat_i, xcat_l, xcat_r, xcat_n]) (by first | rfl | simp [lv_args, va_rf_cat, xcat_i, xcat_l, xcat_r, xcat_n]) (fun ls hl => ?_)
  unfold wp_AL_get at h
  refine lv_iload_n hx hb dAL_get_0 rfl (lv_at hl 1 rfl) ?_
  refine lv_aload_n hx hb dAL_get_1 rfl (lv_at hl 0 rfl) ?_
  obtain ⟨v1, hv, h⟩ := h
  refine xw_getI (C := RAL) (T := TAL) (N := 3) (ref := RAL) hx hb hts inAL hown hK hw rfl 2 (by decide) (hts _ mw_25) (fun _ h9 => h9) hv dAL_get_2 ?_
  have hcall := h
  clear h
  refine xw_calli (va_runS (As := [.int p0, .int v1]) (rest := []) ⟨hx, hb, hml, hown, hts⟩ (c_OB_checkIndex l D E A _ w p0 v1 hcall) (va_cwS 2 hts (xG_S mw_134 mw_135 mw_136 mw_137) rfl rfl rfl (by decide +kernel) ⟨(Nat.le_of_ble_eq_true rfl), (Nat.le_of_ble_eq_true rfl)⟩) (xw_preS hw hK hE) rfl rfl hl.1 rfl (lv_room (by first | exact Nat.le_of_ble_eq_true rfl | simp [va_rf_cat, xcat_i, xcat_l, xcat_r, xcat_n])) dAL_get_5 ⟨(Nat.le_of_ble_eq_true rfl), (Nat.le_of_ble_eq_true rfl)⟩) hw (fun r2 w3 H locs h hw => ?_)
  clear hcall
  refine lv_pop hx hb dAL_get_8 rfl ?_
  refine lv_aload_n hx hb dAL_get_9 rfl (lv_at hl 0 rfl) ?_
  refine lv_iload_n hx hb dAL_get_10 rfl (lv_at hl 1 rfl) ?_
  obtain ⟨⟨fs, hk⟩, h⟩ := h
  have hcall := h
  clear h
  refine xw_callq (va_runV (As := [.int p0]) (rest := []) ⟨hx, hb, hml, hown, hts⟩ (c_AL_elementData l D E A _ w3 h0 p0 hcall) (cwV 1 hts (xG_V mw_130 mw_131 mw_132 mw_19 mw_133) rfl rfl rfl (by decide +kernel) ⟨(Nat.le_of_ble_eq_true rfl), (Nat.le_of_ble_eq_true rfl)⟩) (xw_preV (ci := 0) hw hK hE rfl hk) rfl rfl hl.1 rfl (lv_room (by first | exact Nat.le_of_ble_eq_true rfl | simp [va_rf_cat, xcat_i, xcat_l, xcat_r, xcat_n])) dAL_get_11 ⟨(Nat.le_of_ble_eq_true rfl), (Nat.le_of_ble_eq_true rfl)⟩) hw (fun r4 w5 H locs h hw => ?_)
  clear hcall
  refine W.widen (k := 0) (n := 0) (Nat.le_of_ble_eq_true rfl) (Nat.le_of_ble_eq_true rfl) ?_
  exact xw_aret (r := r4) (Or.inl ⟨_, rfl⟩) hx hb hr hlocks hw h dAL_get_14
def wp_AL_isEmpty (E : xE_T) (post : Int32 → xw_T → Prop) (w : xw_T) (h0 : Nat) : Prop := ∃ v1, xgI w h0 0 2 = some v1 ∧ ((¬ v1 = 0 → (post 0 w)) ∧ (v1 = 0 → (post 1 w)))
set_option maxHeartbeats 4000000 in
set_option maxRecDepth 100000 in
theorem c_AL_isEmpty (l : Launch) (D : va_G) (E : xE_T) (A : Nat → Prop) (post : Int32 → xw_T → Prop) (w : xw_T) (h0 : Nat) (h : wp_AL_isEmpty E post w h0) : Met l yAL_isEmpty (xW yAL_isEmpty cAL_isEmpty 1 (some (.boolean))) ({ frames := 0, cells := 0, slots := 0, locals := 0 } : Room) (va_Pc [.ref h0] (xP D E A w)) (va_Qi post (xB D A) A) 0 0 A := by
  refine Met.ofW (cc := cAL_isEmpty) (maxL := 1) (ret := (some (.boolean))) (by decide) rfl ?_
  intro p e s m args below meth c s₁ B hml hv
  obtain ⟨rfl, hw, hK, hE⟩ := hv
  have hx := B.exec
  have hb := B.bytes
  have hr := B.returns
  have hts : ∀ w ∈ xTB, w.before _ s = true := fun w hw => atoms_spec (ws := xW yAL_isEmpty cAL_isEmpty 1 (some (.boolean))) B.pre w (List.mem_cons_of_mem _ hw)
  have hown : s.vm.findClass RAL = some m.cls := findClass_of_methodNamed B.named
  have hlocks := B.notSynchronized
  have hw : xw_S D vwCl A s.heap w s.heap [] := xw_S0 hw
  refine xl_start (lvs := [(0, .ref h0)]) (by first | exact Nat.le_of_ble_eq_true rfl | simp [lg_sl, va_rf_cat, xcat_i, xcat_l, xcat_r, xcat_n]) (by first | rfl | simp [lv_args, va_rf_cat, xcat_i, xcat_l, xcat_r, xcat_n]) (fun ls hl => ?_)
  unfold wp_AL_isEmpty at h
  refine lv_aload_n hx hb dAL_isEmpty_0 rfl (lv_at hl 0 rfl) ?_
  obtain ⟨v1, hv, h⟩ := h
  refine xw_getI (C := RAL) (T := TAL) (N := 3) (ref := RAL) hx hb hts inAL hown hK hw rfl 2 (by decide) (hts _ mw_25) (fun _ h9 => h9) hv dAL_isEmpty_1 ?_
  refine lv_if_ne (tgt := 11) hx hb dAL_isEmpty_4 rfl (fun hc => ?_) (fun hc => ?_)
  · replace h := h.1 hc
    refine lv_iconst (v := 0) hx hb dAL_isEmpty_11 (by decide) ?_
    refine W.widen (k := 0) (n := 0) (Nat.le_of_ble_eq_true rfl) (Nat.le_of_ble_eq_true rfl) ?_
    exact xw_zret (by decide) hx hb hr hlocks hw h dAL_isEmpty_12
  · replace h := h.2 hc
    refine lv_iconst (v := 1) hx hb dAL_isEmpty_7 (by decide) ?_
    refine lv_goto (tgt := 12) hx hb dAL_isEmpty_8 rfl ?_
    refine W.widen (k := 0) (n := 0) (Nat.le_of_ble_eq_true rfl) (Nat.le_of_ble_eq_true rfl) ?_
    exact xw_zret (by decide) hx hb hr hlocks hw h dAL_isEmpty_12
end
section
/-! meanings and walks: CLS 0 -/
def wp_PL_init (E : xE_T) (post : xw_T → Prop) (w : xw_T) (h0 : Nat) : Prop := ∀ q1 : Nat, (w q1 = none ∧ q1 ≠ E.2 6) → ∀ w2, w2 = va_up w q1 (some (.inr (0, [.int 0, .null, .int 0]))) → (wp_AL_init E (fun w4 => (∃ v0, xg w4 h0 4 0 = some v0) ∧ ∀ w5, w5 = xp w4 h0 0 (.ref q1) → (∀ q6 : Nat, (w5 q6 = none ∧ q6 ≠ E.2 6) → ∀ w7, w7 = va_up w5 q6 (some (.inr (0, [.int 0, .null, .int 0]))) → (wp_AL_init E (fun w9 => (∃ v0, xg w9 h0 4 1 = some v0) ∧ ∀ w10, w10 = xp w9 h0 1 (.ref q6) → ((∃ v0, xg w10 h0 4 2 = some v0) ∧ ∀ w11, w11 = xp w10 h0 2 (.int 0) → ((∃ v0, xg w11 h0 4 3 = some v0) ∧ ∀ w12, w12 = xp w11 h0 3 (.int 0) → (post w12)))) w7 q6))) w2 q1)
set_option maxHeartbeats 4000000 in
set_option maxRecDepth 100000 in
theorem c_PL_init (l : Launch) (D : va_G) (E : xE_T) (A : Nat → Prop) (post : xw_T → Prop) (w : xw_T) (h0 : Nat) (h : wp_PL_init E post w h0) : Met l yPL_init (xW yPL_init cPL_init 1 none) ({ frames := 4, cells := 2, slots := 6, locals := 72 } : Room) (va_Pc [.ref h0] (xP D E A w)) (va_Qv post (xB D A) A) 2 6 A := by
  refine Met.ofW (cc := cPL_init) (maxL := 1) (ret := none) (by decide) rfl ?_
  intro p e s m args below meth c s₁ B hml hv
  obtain ⟨rfl, hw, hK, hE⟩ := hv
  have hx := B.exec
  have hb := B.bytes
  have hr := B.returns
  have hts : ∀ w ∈ xTB, w.before _ s = true := fun w hw => atoms_spec (ws := xW yPL_init cPL_init 1 none) B.pre w (List.mem_cons_of_mem _ hw)
  have hown : s.vm.findClass RPL = some m.cls := findClass_of_methodNamed B.named
  have hlocks := B.notSynchronized
  have hin : meth.name = "<init>" := (name_of_methodNamed B.named B.method).1
  have hw : xw_S D vwCl A s.heap w s.heap [] := xw_S0 hw
  refine xl_start (lvs := [(0, .ref h0)]) (by first | exact Nat.le_of_ble_eq_true rfl | simp [lg_sl, va_rf_cat, xcat_i, xcat_l, xcat_r, xcat_n]) (by first | rfl | simp [lv_args, va_rf_cat, xcat_i, xcat_l, xcat_r, xcat_n]) (fun ls hl => ?_)
  unfold wp_PL_init at h
  refine lv_aload_n hx hb dPL_init_0 rfl (lv_at hl 0 rfl) ?_
  refine W.objInit hx hb hown (hts _ mw_24) (hts _ mw_1) (hts _ mw_2) rfl (by rw [hml]; exact hl.1) rfl dPL_init_1 (Nat.le_of_ble_eq_true rfl) (Nat.le_of_ble_eq_true rfl) ?_
  refine lv_aload_n hx hb dPL_init_4 rfl (lv_at hl 0 rfl) ?_
  refine xw_new (ci := 0) (fs := [.int 0, .null, .int 0]) (C := RAL) (T := TAL) (N := 3) hx hb hts inAL tyAL tyAL_ok hown (hts _ mw_21) (hts _ mw_22) (hts _ mw_19) hK hw rfl (by decide +kernel) (Nat.le_of_ble_eq_true rfl) (Nat.le_of_ble_eq_true rfl) dPL_init_5 (fun q1 H hq hqA hw => ?_)
  replace h := h _ ⟨hq, xq6 hE hqA⟩ _ rfl
  generalize va_up w q1 (some (.inr (0, [.int 0, .null, .int 0]))) = w2 at hw h
  refine lv_dup hx hb dPL_init_8 rfl ?_
  have hcall := h
  clear h
  refine xw_callv (va_runI (As := []) (rest := [.ref q1, .ref h0]) ⟨hx, hb, hml, hown, hts⟩ (c_AL_init l D E A _ w2 q1 hcall) (cwI 0 hts (xG_I mw_18) rfl rfl rfl (hts _ mw_19) (hts _ mw_17) (hts _ mw_20) rfl (by decide +kernel) ⟨(Nat.le_of_ble_eq_true rfl), (Nat.le_of_ble_eq_true rfl)⟩) (xw_preS hw hK hE) rfl rfl hl.1 rfl (lv_room (by first | exact Nat.le_of_ble_eq_true rfl | simp [va_rf_cat, xcat_i, xcat_l, xcat_r, xcat_n])) dPL_init_9 ⟨(Nat.le_of_ble_eq_true rfl), (Nat.le_of_ble_eq_true rfl)⟩) hw (fun w4 H locs h hw => ?_)
  clear hcall
  obtain ⟨hv, h⟩ := h
  refine xw_putF (ty := (.object "java/util/ArrayList")) (C := RPL) (T := TPL) (N := 4) (ref := RPL) hx hb hts inPL tyPL tyPL_ok nmPL hown hK hw rfl 0 (by decide) (hts _ mw_23) (fun _ h9 => h9) rfl hin rfl (by decide +kernel) rfl rfl hv dPL_init_12 (fun H locs hw => ?_)
  replace h := h _ rfl
  generalize xp w4 h0 0 (.ref q1) = w5 at hw h
  refine lv_aload_n hx hb dPL_init_15 rfl (lv_at hl 0 rfl) ?_
  refine xw_new (ci := 0) (fs := [.int 0, .null, .int 0]) (C := RAL) (T := TAL) (N := 3) hx hb hts inAL tyAL tyAL_ok hown (hts _ mw_21) (hts _ mw_22) (hts _ mw_19) hK hw rfl (by decide +kernel) (Nat.le_of_ble_eq_true rfl) (Nat.le_of_ble_eq_true rfl) dPL_init_16 (fun q6 H hq hqA hw => ?_)
  replace h := h _ ⟨hq, xq6 hE hqA⟩ _ rfl
  generalize va_up w5 q6 (some (.inr (0, [.int 0, .null, .int 0]))) = w7 at hw h
  refine lv_dup hx hb dPL_init_19 rfl ?_
  have hcall := h
  clear h
  refine xw_callv (va_runI (As := []) (rest := [.ref q6, .ref h0]) ⟨hx, hb, hml, hown, hts⟩ (c_AL_init l D E A _ w7 q6 hcall) (cwI 0 hts (xG_I mw_18) rfl rfl rfl (hts _ mw_19) (hts _ mw_17) (hts _ mw_20) rfl (by decide +kernel) ⟨(Nat.le_of_ble_eq_true rfl), (Nat.le_of_ble_eq_true rfl)⟩) (xw_preS hw hK hE) rfl rfl hl.1 rfl (lv_room (by first | exact Nat.le_of_ble_eq_true rfl | simp [va_rf_cat, xcat_i, xcat_l, xcat_r, xcat_n])) dPL_init_20 ⟨(Nat.le_of_ble_eq_true rfl), (Nat.le_of_ble_eq_true rfl)⟩) hw (fun w9 H locs h hw => ?_)
  clear hcall
  obtain ⟨hv, h⟩ := h
  refine xw_putF (ty := (.object "java/util/ArrayList")) (C := RPL) (T := TPL) (N := 4) (ref := RPL) hx hb hts inPL tyPL tyPL_ok nmPL hown hK hw rfl 1 (by decide) (hts _ mw_16) (fun _ h9 => h9) rfl hin rfl (by decide +kernel) rfl rfl hv dPL_init_23 (fun H locs hw => ?_)
  replace h := h _ rfl
  generalize xp w9 h0 1 (.ref q6) = w10 at hw h
  refine lv_aload_n hx hb dPL_init_26 rfl (lv_at hl 0 rfl) ?_
  refine lv_iconst (v := 0) hx hb dPL_init_27 (by decide) ?_
  obtain ⟨hv, h⟩ := h
  refine xw_put (ty := (.int)) (C := RPL) (T := TPL) (N := 4) (ref := RPL) hx hb hts inPL tyPL tyPL_ok nmPL hown hK hw rfl 2 (by decide) (hts _ mw_15) (fun _ h9 => h9) rfl (by decide +kernel) rfl rfl hv dPL_init_28 (fun H locs hw => ?_)
  replace h := h _ rfl
  generalize xp w10 h0 2 (.int 0) = w11 at hw h
  refine lv_aload_n hx hb dPL_init_31 rfl (lv_at hl 0 rfl) ?_
  refine lv_iconst (v := 0) hx hb dPL_init_32 (by decide) ?_
  obtain ⟨hv, h⟩ := h
  refine xw_put (ty := (.int)) (C := RPL) (T := TPL) (N := 4) (ref := RPL) hx hb hts inPL tyPL tyPL_ok nmPL hown hK hw rfl 3 (by decide) (hts _ mw_14) (fun _ h9 => h9) rfl (by decide +kernel) rfl rfl hv dPL_init_33 (fun H locs hw => ?_)
  replace h := h _ rfl
  generalize xp w11 h0 3 (.int 0) = w12 at hw h
  refine W.widen (k := 2) (n := 6) (Nat.le_of_ble_eq_true rfl) (Nat.le_of_ble_eq_true rfl) ?_
  exact xw_vret hx hb hr hlocks hw h dPL_init_36
def wp_PL_isOffice (E : xE_T) (post : Int32 → xw_T → Prop) (w : xw_T) (p0 : Int32) : Prop := (p0 < 0 → (post 0 w)) ∧ (¬ p0 < 0 → ((10 ≤ p0 → (post 0 w)) ∧ (¬ 10 ≤ p0 → (post 1 w))))
set_option maxHeartbeats 4000000 in
set_option maxRecDepth 100000 in
theorem c_PL_isOffice (l : Launch) (D : va_G) (E : xE_T) (A : Nat → Prop) (post : Int32 → xw_T → Prop) (w : xw_T) (p0 : Int32) (h : wp_PL_isOffice E post w p0) : Met l yPL_isOffice (xW yPL_isOffice cPL_isOffice 1 (some (.boolean))) ({ frames := 0, cells := 0, slots := 0, locals := 0 } : Room) (va_Pc [.int p0] (xP D E A w)) (va_Qi post (xB D A) A) 0 0 A := by
  refine Met.ofW (cc := cPL_isOffice) (maxL := 1) (ret := (some (.boolean))) (by decide) rfl ?_
  intro p e s m args below meth c s₁ B hml hv
  obtain ⟨rfl, hw, hK, hE⟩ := hv
  have hx := B.exec
  have hb := B.bytes
  have hr := B.returns
  have hts : ∀ w ∈ xTB, w.before _ s = true := fun w hw => atoms_spec (ws := xW yPL_isOffice cPL_isOffice 1 (some (.boolean))) B.pre w (List.mem_cons_of_mem _ hw)
  have hown : s.vm.findClass RPL = some m.cls := findClass_of_methodNamed B.named
  have hlocks := B.notSynchronized
  have hw : xw_S D vwCl A s.heap w s.heap [] := xw_S0 hw
  refine xl_start (lvs := [(0, .int p0)]) (by first | exact Nat.le_of_ble_eq_true rfl | simp [lg_sl, va_rf_cat, xcat_i, xcat_l, xcat_r, xcat_n]) (by first | rfl | simp [lv_args, va_rf_cat, xcat_i, xcat_l, xcat_r, xcat_n]) (fun ls hl => ?_)
  unfold wp_PL_isOffice at h
  refine lv_iload_n hx hb dPL_isOffice_0 rfl (lv_at hl 0 rfl) ?_
  refine lv_if_lt (tgt := 14) hx hb dPL_isOffice_1 rfl (fun hc => ?_) (fun hc => ?_)
  · replace h := h.1 hc
    refine lv_iconst (v := 0) hx hb dPL_isOffice_14 (by decide) ?_
    refine W.widen (k := 0) (n := 0) (Nat.le_of_ble_eq_true rfl) (Nat.le_of_ble_eq_true rfl) ?_
    exact xw_zret (by decide) hx hb hr hlocks hw h dPL_isOffice_15
  · replace h := h.2 hc
    refine lv_iload_n hx hb dPL_isOffice_4 rfl (lv_at hl 0 rfl) ?_
    refine lv_bipush (v := 10) hx hb dPL_isOffice_5 (by decide) ?_
    refine lv_icmp_ge (tgt := 14) hx hb dPL_isOffice_7 rfl (fun hc => ?_) (fun hc => ?_)
    · replace h := h.1 hc
      refine lv_iconst (v := 0) hx hb dPL_isOffice_14 (by decide) ?_
      refine W.widen (k := 0) (n := 0) (Nat.le_of_ble_eq_true rfl) (Nat.le_of_ble_eq_true rfl) ?_
      exact xw_zret (by decide) hx hb hr hlocks hw h dPL_isOffice_15
    · replace h := h.2 hc
      refine lv_iconst (v := 1) hx hb dPL_isOffice_10 (by decide) ?_
      refine lv_goto (tgt := 15) hx hb dPL_isOffice_11 rfl ?_
      refine W.widen (k := 0) (n := 0) (Nat.le_of_ble_eq_true rfl) (Nat.le_of_ble_eq_true rfl) ?_
      exact xw_zret (by decide) hx hb hr hlocks hw h dPL_isOffice_15
def wp_AC_init (E : xE_T) (post : xw_T → Prop) (w : xw_T) (h0 : Nat) (p0 : Int32) (p1 : Int32) : Prop := (∃ v0, xg w h0 1 0 = some v0) ∧ ∀ w1, w1 = xp w h0 0 (.int p0) → ((∃ v0, xg w1 h0 1 1 = some v0) ∧ ∀ w2, w2 = xp w1 h0 1 (.int p1) → (post w2))
set_option maxHeartbeats 4000000 in
set_option maxRecDepth 100000 in
theorem c_AC_init (l : Launch) (D : va_G) (E : xE_T) (A : Nat → Prop) (post : xw_T → Prop) (w : xw_T) (h0 : Nat) (p0 : Int32) (p1 : Int32) (h : wp_AC_init E post w h0 p0 p1) : Met l yAC_init (xW yAC_init cAC_init 3 none) ({ frames := 1, cells := 0, slots := 0, locals := 12 } : Room) (va_Pc [.ref h0, .int p0, .int p1] (xP D E A w)) (va_Qv post (xB D A) A) 0 0 A := by
  refine Met.ofW (cc := cAC_init) (maxL := 3) (ret := none) (by decide) rfl ?_
  intro p e s m args below meth c s₁ B hml hv
  obtain ⟨rfl, hw, hK, hE⟩ := hv
  have hx := B.exec
  have hb := B.bytes
  have hr := B.returns
  have hts : ∀ w ∈ xTB, w.before _ s = true := fun w hw => atoms_spec (ws := xW yAC_init cAC_init 3 none) B.pre w (List.mem_cons_of_mem _ hw)
  have hown : s.vm.findClass RAC = some m.cls := findClass_of_methodNamed B.named
  have hlocks := B.notSynchronized
  have hin : meth.name = "<init>" := (name_of_methodNamed B.named B.method).1
  have hw : xw_S D vwCl A s.heap w s.heap [] := xw_S0 hw
  refine xl_start (lvs := [(0, .ref h0), (1, .int p0), (2, .int p1)]) (by first | exact Nat.le_of_ble_eq_true rfl | simp [lg_sl, va_rf_cat, xcat_i, xcat_l, xcat_r, xcat_n]) (by first | rfl | simp [lv_args, va_rf_cat, xcat_i, xcat_l, xcat_r, xcat_n]) (fun ls hl => ?_)
  unfold wp_AC_init at h
  refine lv_aload_n hx hb dAC_init_0 rfl (lv_at hl 0 rfl) ?_
  refine W.objInit hx hb hown (hts _ mw_28) (hts _ mw_1) (hts _ mw_2) rfl (by rw [hml]; exact hl.1) rfl dAC_init_1 (Nat.le_of_ble_eq_true rfl) (Nat.le_of_ble_eq_true rfl) ?_
  refine lv_aload_n hx hb dAC_init_4 rfl (lv_at hl 0 rfl) ?_
  refine lv_iload_n hx hb dAC_init_5 rfl (lv_at hl 1 rfl) ?_
  obtain ⟨hv, h⟩ := h
  refine xw_putF (ty := (.int)) (C := RAC) (T := TAC) (N := 4) (ref := RAC) hx hb hts inAC tyAC tyAC_ok nmAC hown hK hw rfl 0 (by decide) (hts _ mw_27) (fun _ h9 => h9) rfl hin rfl (by decide +kernel) rfl rfl hv dAC_init_6 (fun H locs hw => ?_)
  replace h := h _ rfl
  generalize xp w h0 0 (.int p0) = w1 at hw h
  refine lv_aload_n hx hb dAC_init_9 rfl (lv_at hl 0 rfl) ?_
  refine lv_iload_n hx hb dAC_init_10 rfl (lv_at hl 2 rfl) ?_
  obtain ⟨hv, h⟩ := h
  refine xw_putF (ty := (.int)) (C := RAC) (T := TAC) (N := 4) (ref := RAC) hx hb hts inAC tyAC tyAC_ok nmAC hown hK hw rfl 1 (by decide) (hts _ mw_26) (fun _ h9 => h9) rfl hin rfl (by decide +kernel) rfl rfl hv dAC_init_11 (fun H locs hw => ?_)
  replace h := h _ rfl
  generalize xp w1 h0 1 (.int p1) = w2 at hw h
  refine W.widen (k := 0) (n := 0) (Nat.le_of_ble_eq_true rfl) (Nat.le_of_ble_eq_true rfl) ?_
  exact xw_vret hx hb hr hlocks hw h dAC_init_14
def wp_PL_account (E : xE_T) (post : Int32 → xw_T → Prop) (w : xw_T) (h0 : Nat) (p0 : Int32) (p1 : Int32) : Prop := wp_PL_isOffice E (fun r1 w2 => (r1 = 0 → (post (-2000000002) w2)) ∧ (¬ r1 = 0 → ((p1 < 0 → (post (-2000000002) w2)) ∧ (¬ p1 < 0 → ((p1 < 6 → (∃ v3, xgR w2 h0 4 0 = some v3 ∧ (∃ a4 : Nat, v3 = some a4 ∧ ((∃ fs, w2 a4 = some (.inr (0, fs))) ∧ wp_AL_size E (fun r5 w6 => (r5 < 60 → (∃ v7, xgR w6 h0 4 0 = some v7 ∧ (∀ q8 : Nat, (w6 q8 = none ∧ q8 ≠ E.2 6) → ∀ w9, w9 = va_up w6 q8 (some (.inr (1, [.int 0, .int 0, .int 0, .long 0]))) → (wp_AC_init E (fun w11 => ∃ a12 : Nat, v7 = some a12 ∧ ((∃ fs, w11 a12 = some (.inr (0, fs))) ∧ wp_AL_add E (fun r13 w14 => ∃ v15, xgR w14 h0 4 0 = some v15 ∧ (∃ a16 : Nat, v15 = some a16 ∧ ((∃ fs, w14 a16 = some (.inr (0, fs))) ∧ wp_AL_size E (fun r17 w18 => post r17 w18) w14 a16))) w11 a12 (some q8))) w9 q8 p0 p1)))) ∧ (¬ r5 < 60 → (post (-2000000004) w6))) w2 a4)))) ∧ (¬ p1 < 6 → (post (-2000000002) w2))))))) w p0
set_option maxHeartbeats 4000000 in
set_option maxRecDepth 100000 in
theorem c_PL_account (l : Launch) (D : va_G) (E : xE_T) (A : Nat → Prop) (post : Int32 → xw_T → Prop) (w : xw_T) (h0 : Nat) (p0 : Int32) (p1 : Int32) (h : wp_PL_account E post w h0 p0 p1) : Met l yPL_account (xW yPL_account cPL_account 3 (some (.int))) ({ frames := 7, cells := 2, slots := 370, locals := 149 } : Room) (va_Pc [.ref h0, .int p0, .int p1] (xP D E A w)) (va_Qi post (xB D A) A) 2 370 A := by
  refine Met.ofW (cc := cPL_account) (maxL := 3) (ret := (some (.int))) (by decide) rfl ?_
  intro p e s m args below meth c s₁ B hml hv
  obtain ⟨rfl, hw, hK, hE⟩ := hv
  have hx := B.exec
  have hb := B.bytes
  have hr := B.returns
  have hts : ∀ w ∈ xTB, w.before _ s = true := fun w hw => atoms_spec (ws := xW yPL_account cPL_account 3 (some (.int))) B.pre w (List.mem_cons_of_mem _ hw)
  have hown : s.vm.findClass RPL = some m.cls := findClass_of_methodNamed B.named
  have hlocks := B.notSynchronized
  have hw : xw_S D vwCl A s.heap w s.heap [] := xw_S0 hw
  refine xl_start (lvs := [(0, .ref h0), (1, .int p0), (2, .int p1)]) (by first | exact Nat.le_of_ble_eq_true rfl | simp [lg_sl, va_rf_cat, xcat_i, xcat_l, xcat_r, xcat_n]) (by first | rfl | simp [lv_args, va_rf_cat, xcat_i, xcat_l, xcat_r, xcat_n]) (fun ls hl => ?_)
  unfold wp_PL_account at h
  refine lv_iload_n hx hb dPL_account_0 rfl (lv_at hl 1 rfl) ?_
  have hcall := h
  clear h
  refine xw_calli (va_runS (As := [.int p0]) (rest := []) ⟨hx, hb, hml, hown, hts⟩ (c_PL_isOffice l D E A _ w p0 hcall) (va_cwS 1 hts (xG_S mw_93 mw_94 mw_95 mw_96) rfl rfl rfl (by decide +kernel) ⟨(Nat.le_of_ble_eq_true rfl), (Nat.le_of_ble_eq_true rfl)⟩) (xw_preS hw hK hE) rfl rfl hl.1 rfl (lv_room (by first | exact Nat.le_of_ble_eq_true rfl | simp [va_rf_cat, xcat_i, xcat_l, xcat_r, xcat_n])) dPL_account_1 ⟨(Nat.le_of_ble_eq_true rfl), (Nat.le_of_ble_eq_true rfl)⟩) hw (fun r1 w2 H locs h hw => ?_)
  clear hcall
  refine lv_if_eq (tgt := 17) hx hb dPL_account_4 rfl (fun hc => ?_) (fun hc => ?_)
  · replace h := h.1 hc
    refine lv_ldc (v := (-2000000002)) hx hb hown (hts _ mw_77) dPL_account_17 ?_
    refine W.widen (k := 2) (n := 370) (Nat.le_of_ble_eq_true rfl) (Nat.le_of_ble_eq_true rfl) ?_
    exact xw_iret hx hb hr hlocks hw h dPL_account_19
  · replace h := h.2 hc
    refine lv_iload_n hx hb dPL_account_7 rfl (lv_at hl 2 rfl) ?_
    refine lv_if_lt (tgt := 17) hx hb dPL_account_8 rfl (fun hc => ?_) (fun hc => ?_)
    · replace h := h.1 hc
      refine lv_ldc (v := (-2000000002)) hx hb hown (hts _ mw_77) dPL_account_17 ?_
      refine W.widen (k := 2) (n := 370) (Nat.le_of_ble_eq_true rfl) (Nat.le_of_ble_eq_true rfl) ?_
      exact xw_iret hx hb hr hlocks hw h dPL_account_19
    · replace h := h.2 hc
      refine lv_iload_n hx hb dPL_account_11 rfl (lv_at hl 2 rfl) ?_
      refine lv_bipush (v := 6) hx hb dPL_account_12 (by decide) ?_
      refine lv_icmp_lt (tgt := 20) hx hb dPL_account_14 rfl (fun hc => ?_) (fun hc => ?_)
      · replace h := h.1 hc
        refine lv_aload_n hx hb dPL_account_20 rfl (lv_at hl 0 rfl) ?_
        obtain ⟨v3, hv, h⟩ := h
        refine xw_getR (C := RPL) (T := TPL) (N := 4) (ref := RPL) hx hb hts inPL hown hK hw rfl 0 (by decide) (hts _ mw_23) (fun _ h9 => h9) hv dPL_account_21 ?_
        obtain ⟨a4, rfl, h⟩ := h
        obtain ⟨⟨fs, hk⟩, h⟩ := h
        have hcall := h
        clear h
        refine xw_calli (va_runV (As := []) (rest := []) ⟨hx, hb, hml, hown, hts⟩ (c_AL_size l D E A _ w2 a4 hcall) (cwV 0 hts (xG_V mw_78 mw_79 mw_80 mw_19 mw_81) rfl rfl rfl (by decide +kernel) ⟨(Nat.le_of_ble_eq_true rfl), (Nat.le_of_ble_eq_true rfl)⟩) (xw_preV (ci := 0) hw hK hE rfl hk) rfl rfl hl.1 rfl (lv_room (by first | exact Nat.le_of_ble_eq_true rfl | simp [va_rf_cat, xcat_i, xcat_l, xcat_r, xcat_n])) dPL_account_24 ⟨(Nat.le_of_ble_eq_true rfl), (Nat.le_of_ble_eq_true rfl)⟩) hw (fun r5 w6 H locs h hw => ?_)
        clear hcall
        refine lv_bipush (v := 60) hx hb dPL_account_27 (by decide) ?_
        refine lv_icmp_lt (tgt := 35) hx hb dPL_account_29 rfl (fun hc => ?_) (fun hc => ?_)
        · replace h := h.1 hc
          refine lv_aload_n hx hb dPL_account_35 rfl (lv_at hl 0 rfl) ?_
          obtain ⟨v7, hv, h⟩ := h
          refine xw_getR (C := RPL) (T := TPL) (N := 4) (ref := RPL) hx hb hts inPL hown hK hw rfl 0 (by decide) (hts _ mw_23) (fun _ h9 => h9) hv dPL_account_36 ?_
          refine xw_new (ci := 1) (fs := [.int 0, .int 0, .int 0, .long 0]) (C := RAC) (T := TAC) (N := 4) hx hb hts inAC tyAC tyAC_ok hown (hts _ mw_90) (hts _ mw_91) (hts _ mw_88) hK hw rfl (by decide +kernel) (Nat.le_of_ble_eq_true rfl) (Nat.le_of_ble_eq_true rfl) dPL_account_39 (fun q8 H hq hqA hw => ?_)
          replace h := h _ ⟨hq, xq6 hE hqA⟩ _ rfl
          generalize va_up w6 q8 (some (.inr (1, [.int 0, .int 0, .int 0, .long 0]))) = w9 at hw h
          refine lv_dup hx hb dPL_account_42 rfl ?_
          refine lv_iload_n hx hb dPL_account_43 rfl (lv_at hl 1 rfl) ?_
          refine lv_iload_n hx hb dPL_account_44 rfl (lv_at hl 2 rfl) ?_
          have hcall := h
          clear h
          refine xw_callv (va_runI (As := [.int p0, .int p1]) (rest := [.ref q8, va_rf v7]) ⟨hx, hb, hml, hown, hts⟩ (c_AC_init l D E A _ w9 q8 p0 p1 hcall) (cwI 2 hts (xG_I mw_87) rfl rfl rfl (hts _ mw_88) (hts _ mw_86) (hts _ mw_89) rfl (by decide +kernel) ⟨(Nat.le_of_ble_eq_true rfl), (Nat.le_of_ble_eq_true rfl)⟩) (xw_preS hw hK hE) rfl rfl hl.1 rfl (lv_room (by first | exact Nat.le_of_ble_eq_true rfl | simp [va_rf_cat, xcat_i, xcat_l, xcat_r, xcat_n])) dPL_account_45 ⟨(Nat.le_of_ble_eq_true rfl), (Nat.le_of_ble_eq_true rfl)⟩) hw (fun w11 H locs h hw => ?_)
          clear hcall
          obtain ⟨a12, rfl, h⟩ := h
          obtain ⟨⟨fs, hk⟩, h⟩ := h
          have hcall := h
          clear h
          refine xw_calli (va_runV (As := [.ref q8]) (rest := []) ⟨hx, hb, hml, hown, hts⟩ (c_AL_add l D E A _ w11 a12 (some q8) hcall) (cwV 1 hts (xG_V mw_82 mw_83 mw_84 mw_19 mw_85) rfl rfl rfl (by decide +kernel) ⟨(Nat.le_of_ble_eq_true rfl), (Nat.le_of_ble_eq_true rfl)⟩) (xw_preV (ci := 0) hw hK hE rfl hk) rfl rfl hl.1 rfl (lv_room (by first | exact Nat.le_of_ble_eq_true rfl | simp [va_rf_cat, xcat_i, xcat_l, xcat_r, xcat_n])) dPL_account_48 ⟨(Nat.le_of_ble_eq_true rfl), (Nat.le_of_ble_eq_true rfl)⟩) hw (fun r13 w14 H locs h hw => ?_)
          clear hcall
          refine lv_pop hx hb dPL_account_51 rfl ?_
          refine lv_aload_n hx hb dPL_account_52 rfl (lv_at hl 0 rfl) ?_
          obtain ⟨v15, hv, h⟩ := h
          refine xw_getR (C := RPL) (T := TPL) (N := 4) (ref := RPL) hx hb hts inPL hown hK hw rfl 0 (by decide) (hts _ mw_23) (fun _ h9 => h9) hv dPL_account_53 ?_
          obtain ⟨a16, rfl, h⟩ := h
          obtain ⟨⟨fs, hk⟩, h⟩ := h
          have hcall := h
          clear h
          refine xw_calli (va_runV (As := []) (rest := []) ⟨hx, hb, hml, hown, hts⟩ (c_AL_size l D E A _ w14 a16 hcall) (cwV 0 hts (xG_V mw_78 mw_79 mw_80 mw_19 mw_81) rfl rfl rfl (by decide +kernel) ⟨(Nat.le_of_ble_eq_true rfl), (Nat.le_of_ble_eq_true rfl)⟩) (xw_preV (ci := 0) hw hK hE rfl hk) rfl rfl hl.1 rfl (lv_room (by first | exact Nat.le_of_ble_eq_true rfl | simp [va_rf_cat, xcat_i, xcat_l, xcat_r, xcat_n])) dPL_account_56 ⟨(Nat.le_of_ble_eq_true rfl), (Nat.le_of_ble_eq_true rfl)⟩) hw (fun r17 w18 H locs h hw => ?_)
          clear hcall
          refine W.widen (k := 2) (n := 370) (Nat.le_of_ble_eq_true rfl) (Nat.le_of_ble_eq_true rfl) ?_
          exact xw_iret hx hb hr hlocks hw h dPL_account_59
        · replace h := h.2 hc
          refine lv_ldc (v := (-2000000004)) hx hb hown (hts _ mw_92) dPL_account_32 ?_
          refine W.widen (k := 2) (n := 370) (Nat.le_of_ble_eq_true rfl) (Nat.le_of_ble_eq_true rfl) ?_
          exact xw_iret hx hb hr hlocks hw h dPL_account_34
      · replace h := h.2 hc
        refine lv_ldc (v := (-2000000002)) hx hb hown (hts _ mw_77) dPL_account_17 ?_
        refine W.widen (k := 2) (n := 370) (Nat.le_of_ble_eq_true rfl) (Nat.le_of_ble_eq_true rfl) ?_
        exact xw_iret hx hb hr hlocks hw h dPL_account_19
def wp_PL_isWithin (E : xE_T) (post : Int32 → xw_T → Prop) (w : xw_T) (p0 : Int64) (p1 : Int64) (p2 : Int64) : Prop := (p0 < p1 → (post 0 w)) ∧ (¬ p0 < p1 → ((p2 < p0 → (post 0 w)) ∧ (¬ p2 < p0 → (post 1 w))))
set_option maxHeartbeats 4000000 in
set_option maxRecDepth 100000 in
theorem c_PL_isWithin (l : Launch) (D : va_G) (E : xE_T) (A : Nat → Prop) (post : Int32 → xw_T → Prop) (w : xw_T) (p0 : Int64) (p1 : Int64) (p2 : Int64) (h : wp_PL_isWithin E post w p0 p1 p2) : Met l yPL_isWithin (xW yPL_isWithin cPL_isWithin 6 (some (.boolean))) ({ frames := 0, cells := 0, slots := 0, locals := 0 } : Room) (va_Pc [.long p0, .long p1, .long p2] (xP D E A w)) (va_Qi post (xB D A) A) 0 0 A := by
  refine Met.ofW (cc := cPL_isWithin) (maxL := 6) (ret := (some (.boolean))) (by decide) rfl ?_
  intro p e s m args below meth c s₁ B hml hv
  obtain ⟨rfl, hw, hK, hE⟩ := hv
  have hx := B.exec
  have hb := B.bytes
  have hr := B.returns
  have hts : ∀ w ∈ xTB, w.before _ s = true := fun w hw => atoms_spec (ws := xW yPL_isWithin cPL_isWithin 6 (some (.boolean))) B.pre w (List.mem_cons_of_mem _ hw)
  have hown : s.vm.findClass RPL = some m.cls := findClass_of_methodNamed B.named
  have hlocks := B.notSynchronized
  have hw : xw_S D vwCl A s.heap w s.heap [] := xw_S0 hw
  refine xl_start (lvs := [(0, .long p0), (2, .long p1), (4, .long p2)]) (by first | exact Nat.le_of_ble_eq_true rfl | simp [lg_sl, va_rf_cat, xcat_i, xcat_l, xcat_r, xcat_n]) (by first | rfl | simp [lv_args, va_rf_cat, xcat_i, xcat_l, xcat_r, xcat_n]) (fun ls hl => ?_)
  unfold wp_PL_isWithin at h
  refine lv_lload_n hx hb dPL_isWithin_0 rfl (lv_at hl 0 rfl) ?_
  refine lv_lload_n hx hb dPL_isWithin_1 rfl (lv_at hl 1 rfl) ?_
  refine xl_lc_lt (tgt := 17) hx hb dPL_isWithin_2 dPL_isWithin_3 rfl (fun hc => ?_) (fun hc => ?_)
  · replace h := h.1 hc
    refine lv_iconst (v := 0) hx hb dPL_isWithin_17 (by decide) ?_
    refine W.widen (k := 0) (n := 0) (Nat.le_of_ble_eq_true rfl) (Nat.le_of_ble_eq_true rfl) ?_
    exact xw_zret (by decide) hx hb hr hlocks hw h dPL_isWithin_18
  · replace h := h.2 hc
    refine lv_lload_n hx hb dPL_isWithin_6 rfl (lv_at hl 0 rfl) ?_
    refine lv_lload hx hb dPL_isWithin_7 (lv_at hl 2 rfl) ?_
    refine xl_lc_gt (tgt := 17) hx hb dPL_isWithin_9 dPL_isWithin_10 rfl (fun hc => ?_) (fun hc => ?_)
    · replace h := h.1 hc
      refine lv_iconst (v := 0) hx hb dPL_isWithin_17 (by decide) ?_
      refine W.widen (k := 0) (n := 0) (Nat.le_of_ble_eq_true rfl) (Nat.le_of_ble_eq_true rfl) ?_
      exact xw_zret (by decide) hx hb hr hlocks hw h dPL_isWithin_18
    · replace h := h.2 hc
      refine lv_iconst (v := 1) hx hb dPL_isWithin_13 (by decide) ?_
      refine lv_goto (tgt := 18) hx hb dPL_isWithin_14 rfl ?_
      refine W.widen (k := 0) (n := 0) (Nat.le_of_ble_eq_true rfl) (Nat.le_of_ble_eq_true rfl) ?_
      exact xw_zret (by decide) hx hb hr hlocks hw h dPL_isWithin_18
def wp_PL_isDay (E : xE_T) (post : Int32 → xw_T → Prop) (w : xw_T) (p0 : Int64) : Prop := wp_PL_isWithin E (fun r1 w2 => narrow (.boolean) (.int r1) = .int r1 ∧ post r1 w2) w p0 0 20000
set_option maxHeartbeats 4000000 in
set_option maxRecDepth 100000 in
theorem c_PL_isDay (l : Launch) (D : va_G) (E : xE_T) (A : Nat → Prop) (post : Int32 → xw_T → Prop) (w : xw_T) (p0 : Int64) (h : wp_PL_isDay E post w p0) : Met l yPL_isDay (xW yPL_isDay cPL_isDay 2 (some (.boolean))) ({ frames := 1, cells := 0, slots := 0, locals := 25 } : Room) (va_Pc [.long p0] (xP D E A w)) (va_Qi post (xB D A) A) 0 0 A := by
  refine Met.ofW (cc := cPL_isDay) (maxL := 2) (ret := (some (.boolean))) (by decide) rfl ?_
  intro p e s m args below meth c s₁ B hml hv
  obtain ⟨rfl, hw, hK, hE⟩ := hv
  have hx := B.exec
  have hb := B.bytes
  have hr := B.returns
  have hts : ∀ w ∈ xTB, w.before _ s = true := fun w hw => atoms_spec (ws := xW yPL_isDay cPL_isDay 2 (some (.boolean))) B.pre w (List.mem_cons_of_mem _ hw)
  have hown : s.vm.findClass RPL = some m.cls := findClass_of_methodNamed B.named
  have hlocks := B.notSynchronized
  have hw : xw_S D vwCl A s.heap w s.heap [] := xw_S0 hw
  refine xl_start (lvs := [(0, .long p0)]) (by first | exact Nat.le_of_ble_eq_true rfl | simp [lg_sl, va_rf_cat, xcat_i, xcat_l, xcat_r, xcat_n]) (by first | rfl | simp [lv_args, va_rf_cat, xcat_i, xcat_l, xcat_r, xcat_n]) (fun ls hl => ?_)
  unfold wp_PL_isDay at h
  refine lv_lload_n hx hb dPL_isDay_0 rfl (lv_at hl 0 rfl) ?_
  refine lv_lconst (v := 0) hx hb dPL_isDay_1 (by decide) ?_
  refine lv_ldc2 (v := 20000) hx hb hown (hts _ mw_100) dPL_isDay_2 ?_
  have hcall := h
  clear h
  refine xw_calli (va_runS (As := [.long p0, .long 0, .long 20000]) (rest := []) ⟨hx, hb, hml, hown, hts⟩ (c_PL_isWithin l D E A _ w p0 0 20000 hcall) (va_cwS 3 hts (xG_S mw_97 mw_98 mw_95 mw_99) rfl rfl rfl (by decide +kernel) ⟨(Nat.le_of_ble_eq_true rfl), (Nat.le_of_ble_eq_true rfl)⟩) (xw_preS hw hK hE) rfl rfl hl.1 rfl (lv_room (by first | exact Nat.le_of_ble_eq_true rfl | simp [va_rf_cat, xcat_i, xcat_l, xcat_r, xcat_n])) dPL_isDay_5 ⟨(Nat.le_of_ble_eq_true rfl), (Nat.le_of_ble_eq_true rfl)⟩) hw (fun r1 w2 H locs h hw => ?_)
  clear hcall
  obtain ⟨hnz, h⟩ := h
  refine W.widen (k := 0) (n := 0) (Nat.le_of_ble_eq_true rfl) (Nat.le_of_ble_eq_true rfl) ?_
  exact xw_zret hnz hx hb hr hlocks hw h dPL_isDay_8
def wp_PL_isClosed (E : xE_T) (post : Int32 → xw_T → Prop) (w : xw_T) (h0 : Nat) (p0 : Int64) : Prop := ∃ v1, xgI w h0 4 2 = some v1 ∧ ((v1.toInt64 ≤ p0 → (post 0 w)) ∧ (¬ v1.toInt64 ≤ p0 → (post 1 w)))
set_option maxHeartbeats 4000000 in
set_option maxRecDepth 100000 in
theorem c_PL_isClosed (l : Launch) (D : va_G) (E : xE_T) (A : Nat → Prop) (post : Int32 → xw_T → Prop) (w : xw_T) (h0 : Nat) (p0 : Int64) (h : wp_PL_isClosed E post w h0 p0) : Met l yPL_isClosed (xW yPL_isClosed cPL_isClosed 3 (some (.boolean))) ({ frames := 0, cells := 0, slots := 0, locals := 0 } : Room) (va_Pc [.ref h0, .long p0] (xP D E A w)) (va_Qi post (xB D A) A) 0 0 A := by
  refine Met.ofW (cc := cPL_isClosed) (maxL := 3) (ret := (some (.boolean))) (by decide) rfl ?_
  intro p e s m args below meth c s₁ B hml hv
  obtain ⟨rfl, hw, hK, hE⟩ := hv
  have hx := B.exec
  have hb := B.bytes
  have hr := B.returns
  have hts : ∀ w ∈ xTB, w.before _ s = true := fun w hw => atoms_spec (ws := xW yPL_isClosed cPL_isClosed 3 (some (.boolean))) B.pre w (List.mem_cons_of_mem _ hw)
  have hown : s.vm.findClass RPL = some m.cls := findClass_of_methodNamed B.named
  have hlocks := B.notSynchronized
  have hw : xw_S D vwCl A s.heap w s.heap [] := xw_S0 hw
  refine xl_start (lvs := [(0, .ref h0), (1, .long p0)]) (by first | exact Nat.le_of_ble_eq_true rfl | simp [lg_sl, va_rf_cat, xcat_i, xcat_l, xcat_r, xcat_n]) (by first | rfl | simp [lv_args, va_rf_cat, xcat_i, xcat_l, xcat_r, xcat_n]) (fun ls hl => ?_)
  unfold wp_PL_isClosed at h
  refine lv_lload_n hx hb dPL_isClosed_0 rfl (lv_at hl 1 rfl) ?_
  refine lv_aload_n hx hb dPL_isClosed_1 rfl (lv_at hl 0 rfl) ?_
  obtain ⟨v1, hv, h⟩ := h
  refine xw_getI (C := RPL) (T := TPL) (N := 4) (ref := RPL) hx hb hts inPL hown hK hw rfl 2 (by decide) (hts _ mw_15) (fun _ h9 => h9) hv dPL_isClosed_2 ?_
  refine lv_i2l hx hb dPL_isClosed_5 rfl ?_
  refine xl_lc_ge (tgt := 14) hx hb dPL_isClosed_6 dPL_isClosed_7 rfl (fun hc => ?_) (fun hc => ?_)
  · replace h := h.1 hc
    refine lv_iconst (v := 0) hx hb dPL_isClosed_14 (by decide) ?_
    refine W.widen (k := 0) (n := 0) (Nat.le_of_ble_eq_true rfl) (Nat.le_of_ble_eq_true rfl) ?_
    exact xw_zret (by decide) hx hb hr hlocks hw h dPL_isClosed_15
  · replace h := h.2 hc
    refine lv_iconst (v := 1) hx hb dPL_isClosed_10 (by decide) ?_
    refine lv_goto (tgt := 15) hx hb dPL_isClosed_11 rfl ?_
    refine W.widen (k := 0) (n := 0) (Nat.le_of_ble_eq_true rfl) (Nat.le_of_ble_eq_true rfl) ?_
    exact xw_zret (by decide) hx hb hr hlocks hw h dPL_isClosed_15
def wp_PL_hasRoomForBatch (E : xE_T) (post : Int32 → xw_T → Prop) (w : xw_T) (h0 : Nat) : Prop := ∃ v1, xgR w h0 4 1 = some v1 ∧ (∃ a2 : Nat, v1 = some a2 ∧ ((∃ fs, w a2 = some (.inr (0, fs))) ∧ wp_AL_size E (fun r3 w4 => (300 ≤ r3 → (post 0 w4)) ∧ (¬ 300 ≤ r3 → (post 1 w4))) w a2))
set_option maxHeartbeats 4000000 in
set_option maxRecDepth 100000 in
theorem c_PL_hasRoomForBatch (l : Launch) (D : va_G) (E : xE_T) (A : Nat → Prop) (post : Int32 → xw_T → Prop) (w : xw_T) (h0 : Nat) (h : wp_PL_hasRoomForBatch E post w h0) : Met l yPL_hasRoomForBatch (xW yPL_hasRoomForBatch cPL_hasRoomForBatch 1 (some (.boolean))) ({ frames := 1, cells := 0, slots := 0, locals := 20 } : Room) (va_Pc [.ref h0] (xP D E A w)) (va_Qi post (xB D A) A) 0 0 A := by
  refine Met.ofW (cc := cPL_hasRoomForBatch) (maxL := 1) (ret := (some (.boolean))) (by decide) rfl ?_
  intro p e s m args below meth c s₁ B hml hv
  obtain ⟨rfl, hw, hK, hE⟩ := hv
  have hx := B.exec
  have hb := B.bytes
  have hr := B.returns
  have hts : ∀ w ∈ xTB, w.before _ s = true := fun w hw => atoms_spec (ws := xW yPL_hasRoomForBatch cPL_hasRoomForBatch 1 (some (.boolean))) B.pre w (List.mem_cons_of_mem _ hw)
  have hown : s.vm.findClass RPL = some m.cls := findClass_of_methodNamed B.named
  have hlocks := B.notSynchronized
  have hw : xw_S D vwCl A s.heap w s.heap [] := xw_S0 hw
  refine xl_start (lvs := [(0, .ref h0)]) (by first | exact Nat.le_of_ble_eq_true rfl | simp [lg_sl, va_rf_cat, xcat_i, xcat_l, xcat_r, xcat_n]) (by first | rfl | simp [lv_args, va_rf_cat, xcat_i, xcat_l, xcat_r, xcat_n]) (fun ls hl => ?_)
  unfold wp_PL_hasRoomForBatch at h
  refine lv_aload_n hx hb dPL_hasRoomForBatch_0 rfl (lv_at hl 0 rfl) ?_
  obtain ⟨v1, hv, h⟩ := h
  refine xw_getR (C := RPL) (T := TPL) (N := 4) (ref := RPL) hx hb hts inPL hown hK hw rfl 1 (by decide) (hts _ mw_16) (fun _ h9 => h9) hv dPL_hasRoomForBatch_1 ?_
  obtain ⟨a2, rfl, h⟩ := h
  obtain ⟨⟨fs, hk⟩, h⟩ := h
  have hcall := h
  clear h
  refine xw_calli (va_runV (As := []) (rest := []) ⟨hx, hb, hml, hown, hts⟩ (c_AL_size l D E A _ w a2 hcall) (cwV 0 hts (xG_V mw_78 mw_79 mw_80 mw_19 mw_81) rfl rfl rfl (by decide +kernel) ⟨(Nat.le_of_ble_eq_true rfl), (Nat.le_of_ble_eq_true rfl)⟩) (xw_preV (ci := 0) hw hK hE rfl hk) rfl rfl hl.1 rfl (lv_room (by first | exact Nat.le_of_ble_eq_true rfl | simp [va_rf_cat, xcat_i, xcat_l, xcat_r, xcat_n])) dPL_hasRoomForBatch_4 ⟨(Nat.le_of_ble_eq_true rfl), (Nat.le_of_ble_eq_true rfl)⟩) hw (fun r3 w4 H locs h hw => ?_)
  clear hcall
  refine lv_sipush (v := 300) hx hb dPL_hasRoomForBatch_7 (by decide) ?_
  refine lv_icmp_ge (tgt := 17) hx hb dPL_hasRoomForBatch_10 rfl (fun hc => ?_) (fun hc => ?_)
  · replace h := h.1 hc
    refine lv_iconst (v := 0) hx hb dPL_hasRoomForBatch_17 (by decide) ?_
    refine W.widen (k := 0) (n := 0) (Nat.le_of_ble_eq_true rfl) (Nat.le_of_ble_eq_true rfl) ?_
    exact xw_zret (by decide) hx hb hr hlocks hw h dPL_hasRoomForBatch_18
  · replace h := h.2 hc
    refine lv_iconst (v := 1) hx hb dPL_hasRoomForBatch_13 (by decide) ?_
    refine lv_goto (tgt := 18) hx hb dPL_hasRoomForBatch_14 rfl ?_
    refine W.widen (k := 0) (n := 0) (Nat.le_of_ble_eq_true rfl) (Nat.le_of_ble_eq_true rfl) ?_
    exact xw_zret (by decide) hx hb hr hlocks hw h dPL_hasRoomForBatch_18
def wp_BA_init (E : xE_T) (post : xw_T → Prop) (w : xw_T) (h0 : Nat) (p0 : Int32) : Prop := (∃ v0, xg w h0 2 0 = some v0) ∧ ∀ w1, w1 = xp w h0 0 (.int p0) → (∀ q2 : Nat, (w1 q2 = none ∧ q2 ≠ E.2 6) → ∀ w3, w3 = va_up w1 q2 (some (.inr (0, [.int 0, .null, .int 0]))) → (wp_AL_init E (fun w5 => (∃ v0, xg w5 h0 2 1 = some v0) ∧ ∀ w6, w6 = xp w5 h0 1 (.ref q2) → ((∃ v0, xg w6 h0 2 2 = some v0) ∧ ∀ w7, w7 = xp w6 h0 2 (.ref (E.2 0)) → (post w7))) w3 q2))
set_option maxHeartbeats 4000000 in
set_option maxRecDepth 100000 in
theorem c_BA_init (l : Launch) (D : va_G) (E : xE_T) (A : Nat → Prop) (post : xw_T → Prop) (w : xw_T) (h0 : Nat) (p0 : Int32) (h : wp_BA_init E post w h0 p0) : Met l yBA_init (xW yBA_init cBA_init 2 none) ({ frames := 4, cells := 1, slots := 3, locals := 72 } : Room) (va_Pc [.ref h0, .int p0] (xP D E A w)) (va_Qv post (xB D A) A) 1 3 A := by
  refine Met.ofW (cc := cBA_init) (maxL := 2) (ret := none) (by decide) rfl ?_
  intro p e s m args below meth c s₁ B hml hv
  obtain ⟨rfl, hw, hK, hE⟩ := hv
  have hx := B.exec
  have hb := B.bytes
  have hr := B.returns
  have hts : ∀ w ∈ xTB, w.before _ s = true := fun w hw => atoms_spec (ws := xW yBA_init cBA_init 2 none) B.pre w (List.mem_cons_of_mem _ hw)
  have hown : s.vm.findClass RBA = some m.cls := findClass_of_methodNamed B.named
  have hlocks := B.notSynchronized
  have hin : meth.name = "<init>" := (name_of_methodNamed B.named B.method).1
  have hw : xw_S D vwCl A s.heap w s.heap [] := xw_S0 hw
  refine xl_start (lvs := [(0, .ref h0), (1, .int p0)]) (by first | exact Nat.le_of_ble_eq_true rfl | simp [lg_sl, va_rf_cat, xcat_i, xcat_l, xcat_r, xcat_n]) (by first | rfl | simp [lv_args, va_rf_cat, xcat_i, xcat_l, xcat_r, xcat_n]) (fun ls hl => ?_)
  unfold wp_BA_init at h
  refine lv_aload_n hx hb dBA_init_0 rfl (lv_at hl 0 rfl) ?_
  refine W.objInit hx hb hown (hts _ mw_107) (hts _ mw_1) (hts _ mw_2) rfl (by rw [hml]; exact hl.1) rfl dBA_init_1 (Nat.le_of_ble_eq_true rfl) (Nat.le_of_ble_eq_true rfl) ?_
  refine lv_aload_n hx hb dBA_init_4 rfl (lv_at hl 0 rfl) ?_
  refine lv_iload_n hx hb dBA_init_5 rfl (lv_at hl 1 rfl) ?_
  obtain ⟨hv, h⟩ := h
  refine xw_putF (ty := (.int)) (C := RBA) (T := TBA) (N := 6) (ref := RBA) hx hb hts inBA tyBA tyBA_ok nmBA hown hK hw rfl 0 (by decide) (hts _ mw_106) (fun _ h9 => h9) rfl hin rfl (by decide +kernel) rfl rfl hv dBA_init_6 (fun H locs hw => ?_)
  replace h := h _ rfl
  generalize xp w h0 0 (.int p0) = w1 at hw h
  refine lv_aload_n hx hb dBA_init_9 rfl (lv_at hl 0 rfl) ?_
  refine xw_new (ci := 0) (fs := [.int 0, .null, .int 0]) (C := RAL) (T := TAL) (N := 3) hx hb hts inAL tyAL tyAL_ok hown (hts _ mw_105) (hts _ mw_22) (hts _ mw_19) hK hw rfl (by decide +kernel) (Nat.le_of_ble_eq_true rfl) (Nat.le_of_ble_eq_true rfl) dBA_init_10 (fun q2 H hq hqA hw => ?_)
  replace h := h _ ⟨hq, xq6 hE hqA⟩ _ rfl
  generalize va_up w1 q2 (some (.inr (0, [.int 0, .null, .int 0]))) = w3 at hw h
  refine lv_dup hx hb dBA_init_13 rfl ?_
  have hcall := h
  clear h
  refine xw_callv (va_runI (As := []) (rest := [.ref q2, .ref h0]) ⟨hx, hb, hml, hown, hts⟩ (c_AL_init l D E A _ w3 q2 hcall) (cwI 0 hts (xG_I mw_18) rfl rfl rfl (hts _ mw_19) (hts _ mw_104) (hts _ mw_20) rfl (by decide +kernel) ⟨(Nat.le_of_ble_eq_true rfl), (Nat.le_of_ble_eq_true rfl)⟩) (xw_preS hw hK hE) rfl rfl hl.1 rfl (lv_room (by first | exact Nat.le_of_ble_eq_true rfl | simp [va_rf_cat, xcat_i, xcat_l, xcat_r, xcat_n])) dBA_init_14 ⟨(Nat.le_of_ble_eq_true rfl), (Nat.le_of_ble_eq_true rfl)⟩) hw (fun w5 H locs h hw => ?_)
  clear hcall
  obtain ⟨hv, h⟩ := h
  refine xw_putF (ty := (.object "java/util/ArrayList")) (C := RBA) (T := TBA) (N := 6) (ref := RBA) hx hb hts inBA tyBA tyBA_ok nmBA hown hK hw rfl 1 (by decide) (hts _ mw_103) (fun _ h9 => h9) rfl hin rfl (by decide +kernel) rfl rfl hv dBA_init_17 (fun H locs hw => ?_)
  replace h := h _ rfl
  generalize xp w5 h0 1 (.ref q2) = w6 at hw h
  refine lv_aload_n hx hb dBA_init_20 rfl (lv_at hl 0 rfl) ?_
  refine va_gets hx hb hE.2.2.1.1 hw.2.1 hown (hts _ mw_102) (fun _ h9 => h9) dBA_init_21 ?_
  obtain ⟨hv, h⟩ := h
  refine xw_put (ty := (.object "PostLedger$Standing")) (C := RBA) (T := TBA) (N := 6) (ref := RBA) hx hb hts inBA tyBA tyBA_ok nmBA hown hK hw rfl 2 (by decide) (hts _ mw_101) (fun _ h9 => h9) rfl (by decide +kernel) rfl rfl hv dBA_init_24 (fun H locs hw => ?_)
  replace h := h _ rfl
  generalize xp w6 h0 2 (.ref (E.2 0)) = w7 at hw h
  refine W.widen (k := 1) (n := 3) (Nat.le_of_ble_eq_true rfl) (Nat.le_of_ble_eq_true rfl) ?_
  exact xw_vret hx hb hr hlocks hw h dBA_init_27
def wp_PL_batch (E : xE_T) (post : Int32 → xw_T → Prop) (w : xw_T) (h0 : Nat) (p0 : Int64) : Prop := wp_PL_isDay E (fun r1 w2 => (¬ r1 = 0 → ((∃ fs, w2 h0 = some (.inr (4, fs))) ∧ wp_PL_isClosed E (fun r3 w4 => (r3 = 0 → ((∃ fs, w4 h0 = some (.inr (4, fs))) ∧ wp_PL_hasRoomForBatch E (fun r5 w6 => (¬ r5 = 0 → (∃ v7, xgR w6 h0 4 1 = some v7 ∧ (∀ q8 : Nat, (w6 q8 = none ∧ q8 ≠ E.2 6) → ∀ w9, w9 = va_up w6 q8 (some (.inr (2, [.int 0, .null, .null, .int 0, .int 0, .int 0]))) → (wp_BA_init E (fun w11 => ∃ a12 : Nat, v7 = some a12 ∧ ((∃ fs, w11 a12 = some (.inr (0, fs))) ∧ wp_AL_add E (fun r13 w14 => ∃ v15, xgR w14 h0 4 1 = some v15 ∧ (∃ a16 : Nat, v15 = some a16 ∧ ((∃ fs, w14 a16 = some (.inr (0, fs))) ∧ wp_AL_size E (fun r17 w18 => post r17 w18) w14 a16))) w11 a12 (some q8))) w9 q8 p0.toInt32)))) ∧ (r5 = 0 → (post (-2000000004) w6))) w4 h0)) ∧ (¬ r3 = 0 → (post (-2000000003) w4))) w2 h0 p0)) ∧ (r1 = 0 → (post (-2000000002) w2))) w p0
set_option maxHeartbeats 4000000 in
set_option maxRecDepth 100000 in
theorem c_PL_batch (l : Launch) (D : va_G) (E : xE_T) (A : Nat → Prop) (post : Int32 → xw_T → Prop) (w : xw_T) (h0 : Nat) (p0 : Int64) (h : wp_PL_batch E post w h0 p0) : Met l yPL_batch (xW yPL_batch cPL_batch 3 (some (.int))) ({ frames := 7, cells := 3, slots := 375, locals := 149 } : Room) (va_Pc [.ref h0, .long p0] (xP D E A w)) (va_Qi post (xB D A) A) 3 375 A := by
  refine Met.ofW (cc := cPL_batch) (maxL := 3) (ret := (some (.int))) (by decide) rfl ?_
  intro p e s m args below meth c s₁ B hml hv
  obtain ⟨rfl, hw, hK, hE⟩ := hv
  have hx := B.exec
  have hb := B.bytes
  have hr := B.returns
  have hts : ∀ w ∈ xTB, w.before _ s = true := fun w hw => atoms_spec (ws := xW yPL_batch cPL_batch 3 (some (.int))) B.pre w (List.mem_cons_of_mem _ hw)
  have hown : s.vm.findClass RPL = some m.cls := findClass_of_methodNamed B.named
  have hlocks := B.notSynchronized
  have hw : xw_S D vwCl A s.heap w s.heap [] := xw_S0 hw
  refine xl_start (lvs := [(0, .ref h0), (1, .long p0)]) (by first | exact Nat.le_of_ble_eq_true rfl | simp [lg_sl, va_rf_cat, xcat_i, xcat_l, xcat_r, xcat_n]) (by first | rfl | simp [lv_args, va_rf_cat, xcat_i, xcat_l, xcat_r, xcat_n]) (fun ls hl => ?_)
  unfold wp_PL_batch at h
  refine lv_lload_n hx hb dPL_batch_0 rfl (lv_at hl 1 rfl) ?_
  have hcall := h
  clear h
  refine xw_calli (va_runS (As := [.long p0]) (rest := []) ⟨hx, hb, hml, hown, hts⟩ (c_PL_isDay l D E A _ w p0 hcall) (va_cwS 1 hts (xG_S mw_123 mw_124 mw_95 mw_125) rfl rfl rfl (by decide +kernel) ⟨(Nat.le_of_ble_eq_true rfl), (Nat.le_of_ble_eq_true rfl)⟩) (xw_preS hw hK hE) rfl rfl hl.1 rfl (lv_room (by first | exact Nat.le_of_ble_eq_true rfl | simp [va_rf_cat, xcat_i, xcat_l, xcat_r, xcat_n])) dPL_batch_1 ⟨(Nat.le_of_ble_eq_true rfl), (Nat.le_of_ble_eq_true rfl)⟩) hw (fun r1 w2 H locs h hw => ?_)
  clear hcall
  refine lv_if_ne (tgt := 10) hx hb dPL_batch_4 rfl (fun hc => ?_) (fun hc => ?_)
  · replace h := h.1 hc
    refine lv_aload_n hx hb dPL_batch_10 rfl (lv_at hl 0 rfl) ?_
    refine lv_lload_n hx hb dPL_batch_11 rfl (lv_at hl 1 rfl) ?_
    obtain ⟨⟨fs, hk⟩, h⟩ := h
    have hcall := h
    clear h
    refine xw_calli (va_runV (As := [.long p0]) (rest := []) ⟨hx, hb, hml, hown, hts⟩ (c_PL_isClosed l D E A _ w2 h0 p0 hcall) (cwV 1 hts (xG_V mw_119 mw_120 mw_121 mw_95 mw_122) rfl rfl rfl (by decide +kernel) ⟨(Nat.le_of_ble_eq_true rfl), (Nat.le_of_ble_eq_true rfl)⟩) (xw_preV (ci := 4) hw hK hE rfl hk) rfl rfl hl.1 rfl (lv_room (by first | exact Nat.le_of_ble_eq_true rfl | simp [va_rf_cat, xcat_i, xcat_l, xcat_r, xcat_n])) dPL_batch_12 ⟨(Nat.le_of_ble_eq_true rfl), (Nat.le_of_ble_eq_true rfl)⟩) hw (fun r3 w4 H locs h hw => ?_)
    clear hcall
    refine lv_if_eq (tgt := 21) hx hb dPL_batch_15 rfl (fun hc => ?_) (fun hc => ?_)
    · replace h := h.1 hc
      refine lv_aload_n hx hb dPL_batch_21 rfl (lv_at hl 0 rfl) ?_
      obtain ⟨⟨fs, hk⟩, h⟩ := h
      have hcall := h
      clear h
      refine xw_calli (va_runV (As := []) (rest := []) ⟨hx, hb, hml, hown, hts⟩ (c_PL_hasRoomForBatch l D E A _ w4 h0 hcall) (cwV 0 hts (xG_V mw_114 mw_115 mw_116 mw_95 mw_117) rfl rfl rfl (by decide +kernel) ⟨(Nat.le_of_ble_eq_true rfl), (Nat.le_of_ble_eq_true rfl)⟩) (xw_preV (ci := 4) hw hK hE rfl hk) rfl rfl hl.1 rfl (lv_room (by first | exact Nat.le_of_ble_eq_true rfl | simp [va_rf_cat, xcat_i, xcat_l, xcat_r, xcat_n])) dPL_batch_22 ⟨(Nat.le_of_ble_eq_true rfl), (Nat.le_of_ble_eq_true rfl)⟩) hw (fun r5 w6 H locs h hw => ?_)
      clear hcall
      refine lv_if_ne (tgt := 31) hx hb dPL_batch_25 rfl (fun hc => ?_) (fun hc => ?_)
      · replace h := h.1 hc
        refine lv_aload_n hx hb dPL_batch_31 rfl (lv_at hl 0 rfl) ?_
        obtain ⟨v7, hv, h⟩ := h
        refine xw_getR (C := RPL) (T := TPL) (N := 4) (ref := RPL) hx hb hts inPL hown hK hw rfl 1 (by decide) (hts _ mw_16) (fun _ h9 => h9) hv dPL_batch_32 ?_
        refine xw_new (ci := 2) (fs := [.int 0, .null, .null, .int 0, .int 0, .int 0]) (C := RBA) (T := TBA) (N := 6) hx hb hts inBA tyBA tyBA_ok hown (hts _ mw_112) (hts _ mw_113) (hts _ mw_110) hK hw rfl (by decide +kernel) (Nat.le_of_ble_eq_true rfl) (Nat.le_of_ble_eq_true rfl) dPL_batch_35 (fun q8 H hq hqA hw => ?_)
        replace h := h _ ⟨hq, xq6 hE hqA⟩ _ rfl
        generalize va_up w6 q8 (some (.inr (2, [.int 0, .null, .null, .int 0, .int 0, .int 0]))) = w9 at hw h
        refine lv_dup hx hb dPL_batch_38 rfl ?_
        refine lv_lload_n hx hb dPL_batch_39 rfl (lv_at hl 1 rfl) ?_
        refine lv_l2i hx hb dPL_batch_40 rfl ?_
        have hcall := h
        clear h
        refine xw_callv (va_runI (As := [.int p0.toInt32]) (rest := [.ref q8, va_rf v7]) ⟨hx, hb, hml, hown, hts⟩ (c_BA_init l D E A _ w9 q8 p0.toInt32 hcall) (cwI 1 hts (xG_I mw_109) rfl rfl rfl (hts _ mw_110) (hts _ mw_108) (hts _ mw_111) rfl (by decide +kernel) ⟨(Nat.le_of_ble_eq_true rfl), (Nat.le_of_ble_eq_true rfl)⟩) (xw_preS hw hK hE) rfl rfl hl.1 rfl (lv_room (by first | exact Nat.le_of_ble_eq_true rfl | simp [va_rf_cat, xcat_i, xcat_l, xcat_r, xcat_n])) dPL_batch_41 ⟨(Nat.le_of_ble_eq_true rfl), (Nat.le_of_ble_eq_true rfl)⟩) hw (fun w11 H locs h hw => ?_)
        clear hcall
        obtain ⟨a12, rfl, h⟩ := h
        obtain ⟨⟨fs, hk⟩, h⟩ := h
        have hcall := h
        clear h
        refine xw_calli (va_runV (As := [.ref q8]) (rest := []) ⟨hx, hb, hml, hown, hts⟩ (c_AL_add l D E A _ w11 a12 (some q8) hcall) (cwV 1 hts (xG_V mw_82 mw_83 mw_84 mw_19 mw_85) rfl rfl rfl (by decide +kernel) ⟨(Nat.le_of_ble_eq_true rfl), (Nat.le_of_ble_eq_true rfl)⟩) (xw_preV (ci := 0) hw hK hE rfl hk) rfl rfl hl.1 rfl (lv_room (by first | exact Nat.le_of_ble_eq_true rfl | simp [va_rf_cat, xcat_i, xcat_l, xcat_r, xcat_n])) dPL_batch_44 ⟨(Nat.le_of_ble_eq_true rfl), (Nat.le_of_ble_eq_true rfl)⟩) hw (fun r13 w14 H locs h hw => ?_)
        clear hcall
        refine lv_pop hx hb dPL_batch_47 rfl ?_
        refine lv_aload_n hx hb dPL_batch_48 rfl (lv_at hl 0 rfl) ?_
        obtain ⟨v15, hv, h⟩ := h
        refine xw_getR (C := RPL) (T := TPL) (N := 4) (ref := RPL) hx hb hts inPL hown hK hw rfl 1 (by decide) (hts _ mw_16) (fun _ h9 => h9) hv dPL_batch_49 ?_
        obtain ⟨a16, rfl, h⟩ := h
        obtain ⟨⟨fs, hk⟩, h⟩ := h
        have hcall := h
        clear h
        refine xw_calli (va_runV (As := []) (rest := []) ⟨hx, hb, hml, hown, hts⟩ (c_AL_size l D E A _ w14 a16 hcall) (cwV 0 hts (xG_V mw_78 mw_79 mw_80 mw_19 mw_81) rfl rfl rfl (by decide +kernel) ⟨(Nat.le_of_ble_eq_true rfl), (Nat.le_of_ble_eq_true rfl)⟩) (xw_preV (ci := 0) hw hK hE rfl hk) rfl rfl hl.1 rfl (lv_room (by first | exact Nat.le_of_ble_eq_true rfl | simp [va_rf_cat, xcat_i, xcat_l, xcat_r, xcat_n])) dPL_batch_52 ⟨(Nat.le_of_ble_eq_true rfl), (Nat.le_of_ble_eq_true rfl)⟩) hw (fun r17 w18 H locs h hw => ?_)
        clear hcall
        refine W.widen (k := 3) (n := 375) (Nat.le_of_ble_eq_true rfl) (Nat.le_of_ble_eq_true rfl) ?_
        exact xw_iret hx hb hr hlocks hw h dPL_batch_55
      · replace h := h.2 hc
        refine lv_ldc (v := (-2000000004)) hx hb hown (hts _ mw_92) dPL_batch_28 ?_
        refine W.widen (k := 3) (n := 375) (Nat.le_of_ble_eq_true rfl) (Nat.le_of_ble_eq_true rfl) ?_
        exact xw_iret hx hb hr hlocks hw h dPL_batch_30
    · replace h := h.2 hc
      refine lv_ldc (v := (-2000000003)) hx hb hown (hts _ mw_118) dPL_batch_18 ?_
      refine W.widen (k := 3) (n := 375) (Nat.le_of_ble_eq_true rfl) (Nat.le_of_ble_eq_true rfl) ?_
      exact xw_iret hx hb hr hlocks hw h dPL_batch_20
  · replace h := h.2 hc
    refine lv_ldc (v := (-2000000002)) hx hb hown (hts _ mw_77) dPL_batch_7 ?_
    refine W.widen (k := 3) (n := 375) (Nat.le_of_ble_eq_true rfl) (Nat.le_of_ble_eq_true rfl) ?_
    exact xw_iret hx hb hr hlocks hw h dPL_batch_9
def wp_PL_findBatch (E : xE_T) (post : Option Nat → xw_T → Prop) (w : xw_T) (h0 : Nat) (p0 : Int32) : Prop := (p0 < 1 → (post none w)) ∧ (¬ p0 < 1 → (∃ v1, xgR w h0 4 1 = some v1 ∧ (∃ a2 : Nat, v1 = some a2 ∧ ((∃ fs, w a2 = some (.inr (0, fs))) ∧ wp_AL_size E (fun r3 w4 => (r3 < p0 → (post none w4)) ∧ (¬ r3 < p0 → (∃ v5, xgR w4 h0 4 1 = some v5 ∧ (∃ a6 : Nat, v5 = some a6 ∧ ((∃ fs, w4 a6 = some (.inr (0, fs))) ∧ wp_AL_get E (fun r7 w8 => ∃ a9 : Nat, r7 = some a9 ∧ ((∃ fs, w8 a9 = some (.inr (2, fs))) ∧ (post (some a9) w8))) w4 a6 (p0 - 1)))))) w a2))))
set_option maxHeartbeats 4000000 in
set_option maxRecDepth 100000 in
theorem c_PL_findBatch (l : Launch) (D : va_G) (E : xE_T) (A : Nat → Prop) (post : Option Nat → xw_T → Prop) (w : xw_T) (h0 : Nat) (p0 : Int32) (h : wp_PL_findBatch E post w h0 p0) : Met l yPL_findBatch (xW yPL_findBatch cPL_findBatch 2 (some (.object "PostLedger$Batch"))) ({ frames := 3, cells := 0, slots := 0, locals := 64 } : Room) (va_Pc [.ref h0, .int p0] (xP D E A w)) (va_Qq post (xB D A) A) 0 0 A := by
  refine Met.ofW (cc := cPL_findBatch) (maxL := 2) (ret := (some (.object "PostLedger$Batch"))) (by decide) rfl ?_
  intro p e s m args below meth c s₁ B hml hv
  obtain ⟨rfl, hw, hK, hE⟩ := hv
  have hx := B.exec
  have hb := B.bytes
  have hr := B.returns
  have hts : ∀ w ∈ xTB, w.before _ s = true := fun w hw => atoms_spec (ws := xW yPL_findBatch cPL_findBatch 2 (some (.object "PostLedger$Batch"))) B.pre w (List.mem_cons_of_mem _ hw)
  have hown : s.vm.findClass RPL = some m.cls := findClass_of_methodNamed B.named
  have hlocks := B.notSynchronized
  have hw : xw_S D vwCl A s.heap w s.heap [] := xw_S0 hw
  refine xl_start (lvs := [(0, .ref h0), (1, .int p0)]) (by first | exact Nat.le_of_ble_eq_true rfl | simp [lg_sl, va_rf_cat, xcat_i, xcat_l, xcat_r, xcat_n]) (by first | rfl | simp [lv_args, va_rf_cat, xcat_i, xcat_l, xcat_r, xcat_n]) (fun ls hl => ?_)
  unfold wp_PL_findBatch at h
  refine lv_iload_n hx hb dPL_findBatch_0 rfl (lv_at hl 1 rfl) ?_
  refine lv_iconst (v := 1) hx hb dPL_findBatch_1 (by decide) ?_
  refine lv_icmp_lt (tgt := 32) hx hb dPL_findBatch_2 rfl (fun hc => ?_) (fun hc => ?_)
  · replace h := h.1 hc
    refine lv_null hx hb dPL_findBatch_32 ?_
    refine W.widen (k := 0) (n := 0) (Nat.le_of_ble_eq_true rfl) (Nat.le_of_ble_eq_true rfl) ?_
    exact xw_aret (r := none) (Or.inl ⟨_, rfl⟩) hx hb hr hlocks hw h dPL_findBatch_33
  · replace h := h.2 hc
    refine lv_iload_n hx hb dPL_findBatch_5 rfl (lv_at hl 1 rfl) ?_
    refine lv_aload_n hx hb dPL_findBatch_6 rfl (lv_at hl 0 rfl) ?_
    obtain ⟨v1, hv, h⟩ := h
    refine xw_getR (C := RPL) (T := TPL) (N := 4) (ref := RPL) hx hb hts inPL hown hK hw rfl 1 (by decide) (hts _ mw_16) (fun _ h9 => h9) hv dPL_findBatch_7 ?_
    obtain ⟨a2, rfl, h⟩ := h
    obtain ⟨⟨fs, hk⟩, h⟩ := h
    have hcall := h
    clear h
    refine xw_calli (va_runV (As := []) (rest := [.int p0]) ⟨hx, hb, hml, hown, hts⟩ (c_AL_size l D E A _ w a2 hcall) (cwV 0 hts (xG_V mw_78 mw_79 mw_80 mw_19 mw_81) rfl rfl rfl (by decide +kernel) ⟨(Nat.le_of_ble_eq_true rfl), (Nat.le_of_ble_eq_true rfl)⟩) (xw_preV (ci := 0) hw hK hE rfl hk) rfl rfl hl.1 rfl (lv_room (by first | exact Nat.le_of_ble_eq_true rfl | simp [va_rf_cat, xcat_i, xcat_l, xcat_r, xcat_n])) dPL_findBatch_10 ⟨(Nat.le_of_ble_eq_true rfl), (Nat.le_of_ble_eq_true rfl)⟩) hw (fun r3 w4 H locs h hw => ?_)
    clear hcall
    refine lv_icmp_gt (tgt := 32) hx hb dPL_findBatch_13 rfl (fun hc => ?_) (fun hc => ?_)
    · replace h := h.1 hc
      refine lv_null hx hb dPL_findBatch_32 ?_
      refine W.widen (k := 0) (n := 0) (Nat.le_of_ble_eq_true rfl) (Nat.le_of_ble_eq_true rfl) ?_
      exact xw_aret (r := none) (Or.inl ⟨_, rfl⟩) hx hb hr hlocks hw h dPL_findBatch_33
    · replace h := h.2 hc
      refine lv_aload_n hx hb dPL_findBatch_16 rfl (lv_at hl 0 rfl) ?_
      obtain ⟨v5, hv, h⟩ := h
      refine xw_getR (C := RPL) (T := TPL) (N := 4) (ref := RPL) hx hb hts inPL hown hK hw rfl 1 (by decide) (hts _ mw_16) (fun _ h9 => h9) hv dPL_findBatch_17 ?_
      refine lv_iload_n hx hb dPL_findBatch_20 rfl (lv_at hl 1 rfl) ?_
      refine lv_iconst (v := 1) hx hb dPL_findBatch_21 (by decide) ?_
      refine lv_isub hx hb dPL_findBatch_22 ?_
      obtain ⟨a6, rfl, h⟩ := h
      obtain ⟨⟨fs, hk⟩, h⟩ := h
      have hcall := h
      clear h
      refine xw_callq (va_runV (As := [.int (p0 - 1)]) (rest := []) ⟨hx, hb, hml, hown, hts⟩ (c_AL_get l D E A _ w4 a6 (p0 - 1) hcall) (cwV 1 hts (xG_V mw_138 mw_139 mw_140 mw_19 mw_141) rfl rfl rfl (by decide +kernel) ⟨(Nat.le_of_ble_eq_true rfl), (Nat.le_of_ble_eq_true rfl)⟩) (xw_preV (ci := 0) hw hK hE rfl hk) rfl rfl hl.1 rfl (lv_room (by first | exact Nat.le_of_ble_eq_true rfl | simp [va_rf_cat, xcat_i, xcat_l, xcat_r, xcat_n])) dPL_findBatch_23 ⟨(Nat.le_of_ble_eq_true rfl), (Nat.le_of_ble_eq_true rfl)⟩) hw (fun r7 w8 H locs h hw => ?_)
      clear hcall
      obtain ⟨a9, rfl, h⟩ := h
      obtain ⟨⟨fs, hk⟩, h⟩ := h
      refine va_castS hx hb hown (hts _ mw_112) (hK.1 2 _ rfl).2 (xw_recv hK hw (ci := 2) rfl hk) dPL_findBatch_26 ?_
      refine lv_goto (tgt := 33) hx hb dPL_findBatch_29 rfl ?_
      refine W.widen (k := 0) (n := 0) (Nat.le_of_ble_eq_true rfl) (Nat.le_of_ble_eq_true rfl) ?_
      exact xw_aret (r := (some a9)) (Or.inl ⟨_, rfl⟩) hx hb hr hlocks hw h dPL_findBatch_33
def wp_PL_findAccount (E : xE_T) (post : Option Nat → xw_T → Prop) (w : xw_T) (h0 : Nat) (p0 : Int32) : Prop := (p0 < 1 → (post none w)) ∧ (¬ p0 < 1 → (∃ v1, xgR w h0 4 0 = some v1 ∧ (∃ a2 : Nat, v1 = some a2 ∧ ((∃ fs, w a2 = some (.inr (0, fs))) ∧ wp_AL_size E (fun r3 w4 => (r3 < p0 → (post none w4)) ∧ (¬ r3 < p0 → (∃ v5, xgR w4 h0 4 0 = some v5 ∧ (∃ a6 : Nat, v5 = some a6 ∧ ((∃ fs, w4 a6 = some (.inr (0, fs))) ∧ wp_AL_get E (fun r7 w8 => ∃ a9 : Nat, r7 = some a9 ∧ ((∃ fs, w8 a9 = some (.inr (1, fs))) ∧ (post (some a9) w8))) w4 a6 (p0 - 1)))))) w a2))))
set_option maxHeartbeats 4000000 in
set_option maxRecDepth 100000 in
theorem c_PL_findAccount (l : Launch) (D : va_G) (E : xE_T) (A : Nat → Prop) (post : Option Nat → xw_T → Prop) (w : xw_T) (h0 : Nat) (p0 : Int32) (h : wp_PL_findAccount E post w h0 p0) : Met l yPL_findAccount (xW yPL_findAccount cPL_findAccount 2 (some (.object "PostLedger$Account"))) ({ frames := 3, cells := 0, slots := 0, locals := 64 } : Room) (va_Pc [.ref h0, .int p0] (xP D E A w)) (va_Qq post (xB D A) A) 0 0 A := by
  refine Met.ofW (cc := cPL_findAccount) (maxL := 2) (ret := (some (.object "PostLedger$Account"))) (by decide) rfl ?_
  intro p e s m args below meth c s₁ B hml hv
  obtain ⟨rfl, hw, hK, hE⟩ := hv
  have hx := B.exec
  have hb := B.bytes
  have hr := B.returns
  have hts : ∀ w ∈ xTB, w.before _ s = true := fun w hw => atoms_spec (ws := xW yPL_findAccount cPL_findAccount 2 (some (.object "PostLedger$Account"))) B.pre w (List.mem_cons_of_mem _ hw)
  have hown : s.vm.findClass RPL = some m.cls := findClass_of_methodNamed B.named
  have hlocks := B.notSynchronized
  have hw : xw_S D vwCl A s.heap w s.heap [] := xw_S0 hw
  refine xl_start (lvs := [(0, .ref h0), (1, .int p0)]) (by first | exact Nat.le_of_ble_eq_true rfl | simp [lg_sl, va_rf_cat, xcat_i, xcat_l, xcat_r, xcat_n]) (by first | rfl | simp [lv_args, va_rf_cat, xcat_i, xcat_l, xcat_r, xcat_n]) (fun ls hl => ?_)
  unfold wp_PL_findAccount at h
  refine lv_iload_n hx hb dPL_findAccount_0 rfl (lv_at hl 1 rfl) ?_
  refine lv_iconst (v := 1) hx hb dPL_findAccount_1 (by decide) ?_
  refine lv_icmp_lt (tgt := 32) hx hb dPL_findAccount_2 rfl (fun hc => ?_) (fun hc => ?_)
  · replace h := h.1 hc
    refine lv_null hx hb dPL_findAccount_32 ?_
    refine W.widen (k := 0) (n := 0) (Nat.le_of_ble_eq_true rfl) (Nat.le_of_ble_eq_true rfl) ?_
    exact xw_aret (r := none) (Or.inl ⟨_, rfl⟩) hx hb hr hlocks hw h dPL_findAccount_33
  · replace h := h.2 hc
    refine lv_iload_n hx hb dPL_findAccount_5 rfl (lv_at hl 1 rfl) ?_
    refine lv_aload_n hx hb dPL_findAccount_6 rfl (lv_at hl 0 rfl) ?_
    obtain ⟨v1, hv, h⟩ := h
    refine xw_getR (C := RPL) (T := TPL) (N := 4) (ref := RPL) hx hb hts inPL hown hK hw rfl 0 (by decide) (hts _ mw_23) (fun _ h9 => h9) hv dPL_findAccount_7 ?_
    obtain ⟨a2, rfl, h⟩ := h
    obtain ⟨⟨fs, hk⟩, h⟩ := h
    have hcall := h
    clear h
    refine xw_calli (va_runV (As := []) (rest := [.int p0]) ⟨hx, hb, hml, hown, hts⟩ (c_AL_size l D E A _ w a2 hcall) (cwV 0 hts (xG_V mw_78 mw_79 mw_80 mw_19 mw_81) rfl rfl rfl (by decide +kernel) ⟨(Nat.le_of_ble_eq_true rfl), (Nat.le_of_ble_eq_true rfl)⟩) (xw_preV (ci := 0) hw hK hE rfl hk) rfl rfl hl.1 rfl (lv_room (by first | exact Nat.le_of_ble_eq_true rfl | simp [va_rf_cat, xcat_i, xcat_l, xcat_r, xcat_n])) dPL_findAccount_10 ⟨(Nat.le_of_ble_eq_true rfl), (Nat.le_of_ble_eq_true rfl)⟩) hw (fun r3 w4 H locs h hw => ?_)
    clear hcall
    refine lv_icmp_gt (tgt := 32) hx hb dPL_findAccount_13 rfl (fun hc => ?_) (fun hc => ?_)
    · replace h := h.1 hc
      refine lv_null hx hb dPL_findAccount_32 ?_
      refine W.widen (k := 0) (n := 0) (Nat.le_of_ble_eq_true rfl) (Nat.le_of_ble_eq_true rfl) ?_
      exact xw_aret (r := none) (Or.inl ⟨_, rfl⟩) hx hb hr hlocks hw h dPL_findAccount_33
    · replace h := h.2 hc
      refine lv_aload_n hx hb dPL_findAccount_16 rfl (lv_at hl 0 rfl) ?_
      obtain ⟨v5, hv, h⟩ := h
      refine xw_getR (C := RPL) (T := TPL) (N := 4) (ref := RPL) hx hb hts inPL hown hK hw rfl 0 (by decide) (hts _ mw_23) (fun _ h9 => h9) hv dPL_findAccount_17 ?_
      refine lv_iload_n hx hb dPL_findAccount_20 rfl (lv_at hl 1 rfl) ?_
      refine lv_iconst (v := 1) hx hb dPL_findAccount_21 (by decide) ?_
      refine lv_isub hx hb dPL_findAccount_22 ?_
      obtain ⟨a6, rfl, h⟩ := h
      obtain ⟨⟨fs, hk⟩, h⟩ := h
      have hcall := h
      clear h
      refine xw_callq (va_runV (As := [.int (p0 - 1)]) (rest := []) ⟨hx, hb, hml, hown, hts⟩ (c_AL_get l D E A _ w4 a6 (p0 - 1) hcall) (cwV 1 hts (xG_V mw_138 mw_139 mw_140 mw_19 mw_141) rfl rfl rfl (by decide +kernel) ⟨(Nat.le_of_ble_eq_true rfl), (Nat.le_of_ble_eq_true rfl)⟩) (xw_preV (ci := 0) hw hK hE rfl hk) rfl rfl hl.1 rfl (lv_room (by first | exact Nat.le_of_ble_eq_true rfl | simp [va_rf_cat, xcat_i, xcat_l, xcat_r, xcat_n])) dPL_findAccount_23 ⟨(Nat.le_of_ble_eq_true rfl), (Nat.le_of_ble_eq_true rfl)⟩) hw (fun r7 w8 H locs h hw => ?_)
      clear hcall
      obtain ⟨a9, rfl, h⟩ := h
      obtain ⟨⟨fs, hk⟩, h⟩ := h
      refine va_castS hx hb hown (hts _ mw_90) (hK.1 1 _ rfl).2 (xw_recv hK hw (ci := 1) rfl hk) dPL_findAccount_26 ?_
      refine lv_goto (tgt := 33) hx hb dPL_findAccount_29 rfl ?_
      refine W.widen (k := 0) (n := 0) (Nat.le_of_ble_eq_true rfl) (Nat.le_of_ble_eq_true rfl) ?_
      exact xw_aret (r := (some a9)) (Or.inl ⟨_, rfl⟩) hx hb hr hlocks hw h dPL_findAccount_33
def wp_BA_isOpen (E : xE_T) (post : Int32 → xw_T → Prop) (w : xw_T) (h0 : Nat) : Prop := ∃ v1, xgR w h0 2 2 = some v1 ∧ ((¬ v1 = (some (E.2 0)) → (post 0 w)) ∧ (v1 = (some (E.2 0)) → (post 1 w)))
set_option maxHeartbeats 4000000 in
set_option maxRecDepth 100000 in
theorem c_BA_isOpen (l : Launch) (D : va_G) (E : xE_T) (A : Nat → Prop) (post : Int32 → xw_T → Prop) (w : xw_T) (h0 : Nat) (h : wp_BA_isOpen E post w h0) : Met l yBA_isOpen (xW yBA_isOpen cBA_isOpen 1 (some (.boolean))) ({ frames := 0, cells := 0, slots := 0, locals := 0 } : Room) (va_Pc [.ref h0] (xP D E A w)) (va_Qi post (xB D A) A) 0 0 A := by
  refine Met.ofW (cc := cBA_isOpen) (maxL := 1) (ret := (some (.boolean))) (by decide) rfl ?_
  intro p e s m args below meth c s₁ B hml hv
  obtain ⟨rfl, hw, hK, hE⟩ := hv
  have hx := B.exec
  have hb := B.bytes
  have hr := B.returns
  have hts : ∀ w ∈ xTB, w.before _ s = true := fun w hw => atoms_spec (ws := xW yBA_isOpen cBA_isOpen 1 (some (.boolean))) B.pre w (List.mem_cons_of_mem _ hw)
  have hown : s.vm.findClass RBA = some m.cls := findClass_of_methodNamed B.named
  have hlocks := B.notSynchronized
  have hw : xw_S D vwCl A s.heap w s.heap [] := xw_S0 hw
  refine xl_start (lvs := [(0, .ref h0)]) (by first | exact Nat.le_of_ble_eq_true rfl | simp [lg_sl, va_rf_cat, xcat_i, xcat_l, xcat_r, xcat_n]) (by first | rfl | simp [lv_args, va_rf_cat, xcat_i, xcat_l, xcat_r, xcat_n]) (fun ls hl => ?_)
  unfold wp_BA_isOpen at h
  refine lv_aload_n hx hb dBA_isOpen_0 rfl (lv_at hl 0 rfl) ?_
  obtain ⟨v1, hv, h⟩ := h
  refine xw_getR (C := RBA) (T := TBA) (N := 6) (ref := RBA) hx hb hts inBA hown hK hw rfl 2 (by decide) (hts _ mw_101) (fun _ h9 => h9) hv dBA_isOpen_1 ?_
  refine va_gets hx hb hE.2.2.1.1 hw.2.1 hown (hts _ mw_102) (fun _ h9 => h9) dBA_isOpen_4 ?_
  refine lv_acmp_ne (rx := v1) (ry := (some (E.2 0))) (tgt := 14) hx hb dBA_isOpen_7 rfl (fun hc => ?_) (fun hc => ?_)
  · replace h := h.1 hc
    refine lv_iconst (v := 0) hx hb dBA_isOpen_14 (by decide) ?_
    refine W.widen (k := 0) (n := 0) (Nat.le_of_ble_eq_true rfl) (Nat.le_of_ble_eq_true rfl) ?_
    exact xw_zret (by decide) hx hb hr hlocks hw h dBA_isOpen_15
  · replace h := h.2 hc
    refine lv_iconst (v := 1) hx hb dBA_isOpen_10 (by decide) ?_
    refine lv_goto (tgt := 15) hx hb dBA_isOpen_11 rfl ?_
    refine W.widen (k := 0) (n := 0) (Nat.le_of_ble_eq_true rfl) (Nat.le_of_ble_eq_true rfl) ?_
    exact xw_zret (by decide) hx hb hr hlocks hw h dBA_isOpen_15
def wp_BA_isFull (E : xE_T) (post : Int32 → xw_T → Prop) (w : xw_T) (h0 : Nat) : Prop := ∃ v1, xgR w h0 2 1 = some v1 ∧ (∃ a2 : Nat, v1 = some a2 ∧ ((∃ fs, w a2 = some (.inr (0, fs))) ∧ wp_AL_size E (fun r3 w4 => (r3 < 12 → (post 0 w4)) ∧ (¬ r3 < 12 → (post 1 w4))) w a2))
set_option maxHeartbeats 4000000 in
set_option maxRecDepth 100000 in
theorem c_BA_isFull (l : Launch) (D : va_G) (E : xE_T) (A : Nat → Prop) (post : Int32 → xw_T → Prop) (w : xw_T) (h0 : Nat) (h : wp_BA_isFull E post w h0) : Met l yBA_isFull (xW yBA_isFull cBA_isFull 1 (some (.boolean))) ({ frames := 1, cells := 0, slots := 0, locals := 20 } : Room) (va_Pc [.ref h0] (xP D E A w)) (va_Qi post (xB D A) A) 0 0 A := by
  refine Met.ofW (cc := cBA_isFull) (maxL := 1) (ret := (some (.boolean))) (by decide) rfl ?_
  intro p e s m args below meth c s₁ B hml hv
  obtain ⟨rfl, hw, hK, hE⟩ := hv
  have hx := B.exec
  have hb := B.bytes
  have hr := B.returns
  have hts : ∀ w ∈ xTB, w.before _ s = true := fun w hw => atoms_spec (ws := xW yBA_isFull cBA_isFull 1 (some (.boolean))) B.pre w (List.mem_cons_of_mem _ hw)
  have hown : s.vm.findClass RBA = some m.cls := findClass_of_methodNamed B.named
  have hlocks := B.notSynchronized
  have hw : xw_S D vwCl A s.heap w s.heap [] := xw_S0 hw
  refine xl_start (lvs := [(0, .ref h0)]) (by first | exact Nat.le_of_ble_eq_true rfl | simp [lg_sl, va_rf_cat, xcat_i, xcat_l, xcat_r, xcat_n]) (by first | rfl | simp [lv_args, va_rf_cat, xcat_i, xcat_l, xcat_r, xcat_n]) (fun ls hl => ?_)
  unfold wp_BA_isFull at h
  refine lv_aload_n hx hb dBA_isFull_0 rfl (lv_at hl 0 rfl) ?_
  obtain ⟨v1, hv, h⟩ := h
  refine xw_getR (C := RBA) (T := TBA) (N := 6) (ref := RBA) hx hb hts inBA hown hK hw rfl 1 (by decide) (hts _ mw_103) (fun _ h9 => h9) hv dBA_isFull_1 ?_
  obtain ⟨a2, rfl, h⟩ := h
  obtain ⟨⟨fs, hk⟩, h⟩ := h
  have hcall := h
  clear h
  refine xw_calli (va_runV (As := []) (rest := []) ⟨hx, hb, hml, hown, hts⟩ (c_AL_size l D E A _ w a2 hcall) (cwV 0 hts (xG_V mw_142 mw_79 mw_80 mw_19 mw_81) rfl rfl rfl (by decide +kernel) ⟨(Nat.le_of_ble_eq_true rfl), (Nat.le_of_ble_eq_true rfl)⟩) (xw_preV (ci := 0) hw hK hE rfl hk) rfl rfl hl.1 rfl (lv_room (by first | exact Nat.le_of_ble_eq_true rfl | simp [va_rf_cat, xcat_i, xcat_l, xcat_r, xcat_n])) dBA_isFull_4 ⟨(Nat.le_of_ble_eq_true rfl), (Nat.le_of_ble_eq_true rfl)⟩) hw (fun r3 w4 H locs h hw => ?_)
  clear hcall
  refine lv_bipush (v := 12) hx hb dBA_isFull_7 (by decide) ?_
  refine lv_icmp_lt (tgt := 16) hx hb dBA_isFull_9 rfl (fun hc => ?_) (fun hc => ?_)
  · replace h := h.1 hc
    refine lv_iconst (v := 0) hx hb dBA_isFull_16 (by decide) ?_
    refine W.widen (k := 0) (n := 0) (Nat.le_of_ble_eq_true rfl) (Nat.le_of_ble_eq_true rfl) ?_
    exact xw_zret (by decide) hx hb hr hlocks hw h dBA_isFull_17
  · replace h := h.2 hc
    refine lv_iconst (v := 1) hx hb dBA_isFull_12 (by decide) ?_
    refine lv_goto (tgt := 17) hx hb dBA_isFull_13 rfl ?_
    refine W.widen (k := 0) (n := 0) (Nat.le_of_ble_eq_true rfl) (Nat.le_of_ble_eq_true rfl) ?_
    exact xw_zret (by decide) hx hb hr hlocks hw h dBA_isFull_17
end
section
/-! meanings and walks: CLS 1 -/
def wp_RW_init (E : xE_T) (post : xw_T → Prop) (w : xw_T) (h0 : Nat) (p0 : Option Nat) (p1 : Int64) : Prop := (∃ v0, xg w h0 3 0 = some v0) ∧ ∀ w1, w1 = xp w h0 0 (va_rf p0) → ((∃ v0, xg w1 h0 3 1 = some v0) ∧ ∀ w2, w2 = xp w1 h0 1 (.long p1) → (post w2))
set_option maxHeartbeats 4000000 in
set_option maxRecDepth 100000 in
theorem c_RW_init (l : Launch) (D : va_G) (E : xE_T) (A : Nat → Prop) (post : xw_T → Prop) (w : xw_T) (h0 : Nat) (p0 : Option Nat) (p1 : Int64) (h : wp_RW_init E post w h0 p0 p1) : Met l yRW_init (xW yRW_init cRW_init 4 none) ({ frames := 1, cells := 0, slots := 0, locals := 12 } : Room) (va_Pc [.ref h0, va_rf p0, .long p1] (xP D E A w)) (va_Qv post (xB D A) A) 0 0 A := by
  refine Met.ofW (cc := cRW_init) (maxL := 4) (ret := none) (by decide) rfl ?_
  intro p e s m args below meth c s₁ B hml hv
  obtain ⟨rfl, hw, hK, hE⟩ := hv
  have hx := B.exec
  have hb := B.bytes
  have hr := B.returns
  have hts : ∀ w ∈ xTB, w.before _ s = true := fun w hw => atoms_spec (ws := xW yRW_init cRW_init 4 none) B.pre w (List.mem_cons_of_mem _ hw)
  have hown : s.vm.findClass RRW = some m.cls := findClass_of_methodNamed B.named
  have hlocks := B.notSynchronized
  have hin : meth.name = "<init>" := (name_of_methodNamed B.named B.method).1
  have hw : xw_S D vwCl A s.heap w s.heap [] := xw_S0 hw
  refine xl_start (lvs := [(0, .ref h0), (1, va_rf p0), (2, .long p1)]) (by first | exact Nat.le_of_ble_eq_true rfl | simp [lg_sl, va_rf_cat, xcat_i, xcat_l, xcat_r, xcat_n]) (by first | rfl | simp [lv_args, va_rf_cat, xcat_i, xcat_l, xcat_r, xcat_n]) (fun ls hl => ?_)
  unfold wp_RW_init at h
  refine lv_aload_n hx hb dRW_init_0 rfl (lv_at hl 0 rfl) ?_
  refine W.objInit hx hb hown (hts _ mw_145) (hts _ mw_1) (hts _ mw_2) rfl (by rw [hml]; exact hl.1) rfl dRW_init_1 (Nat.le_of_ble_eq_true rfl) (Nat.le_of_ble_eq_true rfl) ?_
  refine lv_aload_n hx hb dRW_init_4 rfl (lv_at hl 0 rfl) ?_
  refine xl_aload_n hx hb dRW_init_5 rfl (lv_at hl 1 rfl) ?_
  obtain ⟨hv, h⟩ := h
  refine xw_putF (ty := (.object "PostLedger$Account")) (C := RRW) (T := TRW) (N := 2) (ref := RRW) hx hb hts inRW tyRW tyRW_ok nmRW hown hK hw rfl 0 (by decide) (hts _ mw_144) (fun _ h9 => h9) rfl hin rfl (by decide +kernel) (xn_rf _ _ (Or.inl ⟨_, rfl⟩)) (xf_rf _ _ (Or.inl ⟨_, rfl⟩)) hv dRW_init_6 (fun H locs hw => ?_)
  replace h := h _ rfl
  generalize xp w h0 0 (va_rf p0) = w1 at hw h
  refine lv_aload_n hx hb dRW_init_9 rfl (lv_at hl 0 rfl) ?_
  refine lv_lload_n hx hb dRW_init_10 rfl (lv_at hl 2 rfl) ?_
  obtain ⟨hv, h⟩ := h
  refine xw_putF (ty := (.long)) (C := RRW) (T := TRW) (N := 2) (ref := RRW) hx hb hts inRW tyRW tyRW_ok nmRW hown hK hw rfl 1 (by decide) (hts _ mw_143) (fun _ h9 => h9) rfl hin rfl (by decide +kernel) rfl rfl hv dRW_init_11 (fun H locs hw => ?_)
  replace h := h _ rfl
  generalize xp w1 h0 1 (.long p1) = w2 at hw h
  refine W.widen (k := 0) (n := 0) (Nat.le_of_ble_eq_true rfl) (Nat.le_of_ble_eq_true rfl) ?_
  exact xw_vret hx hb hr hlocks hw h dRW_init_14
def wp_BA_addRow (E : xE_T) (post : xw_T → Prop) (w : xw_T) (h0 : Nat) (p0 : Option Nat) (p1 : Int64) : Prop := ∃ v1, xgR w h0 2 1 = some v1 ∧ (∀ q2 : Nat, (w q2 = none ∧ q2 ≠ E.2 6) → ∀ w3, w3 = va_up w q2 (some (.inr (3, [.null, .long 0]))) → (wp_RW_init E (fun w5 => ∃ a6 : Nat, v1 = some a6 ∧ ((∃ fs, w5 a6 = some (.inr (0, fs))) ∧ wp_AL_add E (fun r7 w8 => post w8) w5 a6 (some q2))) w3 q2 p0 p1))
set_option maxHeartbeats 4000000 in
set_option maxRecDepth 100000 in
theorem c_BA_addRow (l : Launch) (D : va_G) (E : xE_T) (A : Nat → Prop) (post : xw_T → Prop) (w : xw_T) (h0 : Nat) (p0 : Option Nat) (p1 : Int64) (h : wp_BA_addRow E post w h0 p0 p1) : Met l yBA_addRow (xW yBA_addRow cBA_addRow 4 none) ({ frames := 7, cells := 2, slots := 368, locals := 149 } : Room) (va_Pc [.ref h0, va_rf p0, .long p1] (xP D E A w)) (va_Qv post (xB D A) A) 2 368 A := by
  refine Met.ofW (cc := cBA_addRow) (maxL := 4) (ret := none) (by decide) rfl ?_
  intro p e s m args below meth c s₁ B hml hv
  obtain ⟨rfl, hw, hK, hE⟩ := hv
  have hx := B.exec
  have hb := B.bytes
  have hr := B.returns
  have hts : ∀ w ∈ xTB, w.before _ s = true := fun w hw => atoms_spec (ws := xW yBA_addRow cBA_addRow 4 none) B.pre w (List.mem_cons_of_mem _ hw)
  have hown : s.vm.findClass RBA = some m.cls := findClass_of_methodNamed B.named
  have hlocks := B.notSynchronized
  have hw : xw_S D vwCl A s.heap w s.heap [] := xw_S0 hw
  refine xl_start (lvs := [(0, .ref h0), (1, va_rf p0), (2, .long p1)]) (by first | exact Nat.le_of_ble_eq_true rfl | simp [lg_sl, va_rf_cat, xcat_i, xcat_l, xcat_r, xcat_n]) (by first | rfl | simp [lv_args, va_rf_cat, xcat_i, xcat_l, xcat_r, xcat_n]) (fun ls hl => ?_)
  unfold wp_BA_addRow at h
  refine lv_aload_n hx hb dBA_addRow_0 rfl (lv_at hl 0 rfl) ?_
  obtain ⟨v1, hv, h⟩ := h
  refine xw_getR (C := RBA) (T := TBA) (N := 6) (ref := RBA) hx hb hts inBA hown hK hw rfl 1 (by decide) (hts _ mw_103) (fun _ h9 => h9) hv dBA_addRow_1 ?_
  refine xw_new (ci := 3) (fs := [.null, .long 0]) (C := RRW) (T := TRW) (N := 2) hx hb hts inRW tyRW tyRW_ok hown (hts _ mw_151) (hts _ mw_152) (hts _ mw_149) hK hw rfl (by decide +kernel) (Nat.le_of_ble_eq_true rfl) (Nat.le_of_ble_eq_true rfl) dBA_addRow_4 (fun q2 H hq hqA hw => ?_)
  replace h := h _ ⟨hq, xq6 hE hqA⟩ _ rfl
  generalize va_up w q2 (some (.inr (3, [.null, .long 0]))) = w3 at hw h
  refine lv_dup hx hb dBA_addRow_7 rfl ?_
  refine xl_aload_n hx hb dBA_addRow_8 rfl (lv_at hl 1 rfl) ?_
  refine lv_lload_n hx hb dBA_addRow_9 rfl (lv_at hl 2 rfl) ?_
  have hcall := h
  clear h
  refine xw_callv (va_runI (As := [va_rf p0, .long p1]) (rest := [.ref q2, va_rf v1]) ⟨hx, hb, hml, hown, hts⟩ (c_RW_init l D E A _ w3 q2 p0 p1 hcall) (cwI 2 hts (xG_I mw_148) rfl rfl rfl (hts _ mw_149) (hts _ mw_147) (hts _ mw_150) rfl (by decide +kernel) ⟨(Nat.le_of_ble_eq_true rfl), (Nat.le_of_ble_eq_true rfl)⟩) (xw_preS hw hK hE) rfl rfl hl.1 rfl (lv_room (by first | exact Nat.le_of_ble_eq_true rfl | simp [va_rf_cat, xcat_i, xcat_l, xcat_r, xcat_n])) dBA_addRow_10 ⟨(Nat.le_of_ble_eq_true rfl), (Nat.le_of_ble_eq_true rfl)⟩) hw (fun w5 H locs h hw => ?_)
  clear hcall
  obtain ⟨a6, rfl, h⟩ := h
  obtain ⟨⟨fs, hk⟩, h⟩ := h
  have hcall := h
  clear h
  refine xw_calli (va_runV (As := [.ref q2]) (rest := []) ⟨hx, hb, hml, hown, hts⟩ (c_AL_add l D E A _ w5 a6 (some q2) hcall) (cwV 1 hts (xG_V mw_146 mw_83 mw_84 mw_19 mw_85) rfl rfl rfl (by decide +kernel) ⟨(Nat.le_of_ble_eq_true rfl), (Nat.le_of_ble_eq_true rfl)⟩) (xw_preV (ci := 0) hw hK hE rfl hk) rfl rfl hl.1 rfl (lv_room (by first | exact Nat.le_of_ble_eq_true rfl | simp [va_rf_cat, xcat_i, xcat_l, xcat_r, xcat_n])) dBA_addRow_13 ⟨(Nat.le_of_ble_eq_true rfl), (Nat.le_of_ble_eq_true rfl)⟩) hw (fun r7 w8 H locs h hw => ?_)
  clear hcall
  refine lv_pop hx hb dBA_addRow_16 rfl ?_
  refine W.widen (k := 2) (n := 368) (Nat.le_of_ble_eq_true rfl) (Nat.le_of_ble_eq_true rfl) ?_
  exact xw_vret hx hb hr hlocks hw h dBA_addRow_17
def wp_PL_row (E : xE_T) (post : Int32 → xw_T → Prop) (w : xw_T) (h0 : Nat) (p0 : Int32) (p1 : Int32) (p2 : Int64) : Prop := (∃ fs, w h0 = some (.inr (4, fs))) ∧ wp_PL_findBatch E (fun r1 w2 => (∃ fs, w2 h0 = some (.inr (4, fs))) ∧ wp_PL_findAccount E (fun r3 w4 => (r1 = none → (post 0 w4)) ∧ (¬ r1 = none → ((r3 = none → (post 0 w4)) ∧ (¬ r3 = none → (∃ a5 : Nat, r1 = some a5 ∧ ((∃ fs, w4 a5 = some (.inr (2, fs))) ∧ wp_BA_isOpen E (fun r6 w7 => (r6 = 0 → (post 0 w7)) ∧ (¬ r6 = 0 → ((∃ fs, w7 a5 = some (.inr (2, fs))) ∧ wp_BA_isFull E (fun r8 w9 => (r8 = 0 → ((p2 = 0 → (post 0 w9)) ∧ (¬ p2 = 0 → (wp_PL_isWithin E (fun r10 w11 => (¬ r10 = 0 → ((∃ fs, w11 a5 = some (.inr (2, fs))) ∧ wp_BA_addRow E (fun w13 => post 1 w13) w11 a5 r3 p2)) ∧ (r10 = 0 → (post 0 w11))) w9 p2 (-100000000) 100000000)))) ∧ (¬ r8 = 0 → (post 0 w9))) w7 a5))) w4 a5)))))) w2 h0 p1) w h0 p0
set_option maxHeartbeats 4000000 in
set_option maxRecDepth 100000 in
theorem c_PL_row (l : Launch) (D : va_G) (E : xE_T) (A : Nat → Prop) (post : Int32 → xw_T → Prop) (w : xw_T) (h0 : Nat) (p0 : Int32) (p1 : Int32) (p2 : Int64) (h : wp_PL_row E post w h0 p0 p1 p2) : Met l yPL_row (xW yPL_row cPL_row 7 (some (.boolean))) ({ frames := 8, cells := 2, slots := 368, locals := 172 } : Room) (va_Pc [.ref h0, .int p0, .int p1, .long p2] (xP D E A w)) (va_Qi post (xB D A) A) 2 368 A := by
  refine Met.ofW (cc := cPL_row) (maxL := 7) (ret := (some (.boolean))) (by decide) rfl ?_
  intro p e s m args below meth c s₁ B hml hv
  obtain ⟨rfl, hw, hK, hE⟩ := hv
  have hx := B.exec
  have hb := B.bytes
  have hr := B.returns
  have hts : ∀ w ∈ xTB, w.before _ s = true := fun w hw => atoms_spec (ws := xW yPL_row cPL_row 7 (some (.boolean))) B.pre w (List.mem_cons_of_mem _ hw)
  have hown : s.vm.findClass RPL = some m.cls := findClass_of_methodNamed B.named
  have hlocks := B.notSynchronized
  have hw : xw_S D vwCl A s.heap w s.heap [] := xw_S0 hw
  refine xl_start (lvs := [(0, .ref h0), (1, .int p0), (2, .int p1), (3, .long p2)]) (by first | exact Nat.le_of_ble_eq_true rfl | simp [lg_sl, va_rf_cat, xcat_i, xcat_l, xcat_r, xcat_n]) (by first | rfl | simp [lv_args, va_rf_cat, xcat_i, xcat_l, xcat_r, xcat_n]) (fun ls hl => ?_)
  unfold wp_PL_row at h
  refine lv_aload_n hx hb dPL_row_0 rfl (lv_at hl 0 rfl) ?_
  refine lv_iload_n hx hb dPL_row_1 rfl (lv_at hl 1 rfl) ?_
  obtain ⟨⟨fs, hk⟩, h⟩ := h
  have hcall := h
  clear h
  refine xw_callq (va_runV (As := [.int p0]) (rest := []) ⟨hx, hb, hml, hown, hts⟩ (c_PL_findBatch l D E A _ w h0 p0 hcall) (cwV 1 hts (xG_V mw_171 mw_172 mw_173 mw_95 mw_174) rfl rfl rfl (by decide +kernel) ⟨(Nat.le_of_ble_eq_true rfl), (Nat.le_of_ble_eq_true rfl)⟩) (xw_preV (ci := 4) hw hK hE rfl hk) rfl rfl hl.1 rfl (lv_room (by first | exact Nat.le_of_ble_eq_true rfl | simp [va_rf_cat, xcat_i, xcat_l, xcat_r, xcat_n])) dPL_row_2 ⟨(Nat.le_of_ble_eq_true rfl), (Nat.le_of_ble_eq_true rfl)⟩) hw (fun r1 w2 H locs h hw => ?_)
  clear hcall
  refine xl_astore (i := 5) (lv' := [(5, va_rf r1), (0, .ref h0), (1, .int p0), (2, .int p1), (3, .long p2)]) hx hb dPL_row_5 hl (by decide) (by first | rfl | simp [va_rf_cat, xcat_i, xcat_l, xcat_r, xcat_n]) (fun ls hl => ?_)
  refine lv_aload_n hx hb dPL_row_7 rfl (lv_at hl 1 rfl) ?_
  refine lv_iload_n hx hb dPL_row_8 rfl (lv_at hl 3 rfl) ?_
  obtain ⟨⟨fs, hk⟩, h⟩ := h
  have hcall := h
  clear h
  refine xw_callq (va_runV (As := [.int p1]) (rest := []) ⟨hx, hb, hml, hown, hts⟩ (c_PL_findAccount l D E A _ w2 h0 p1 hcall) (cwV 1 hts (xG_V mw_167 mw_168 mw_169 mw_95 mw_170) rfl rfl rfl (by decide +kernel) ⟨(Nat.le_of_ble_eq_true rfl), (Nat.le_of_ble_eq_true rfl)⟩) (xw_preV (ci := 4) hw hK hE rfl hk) rfl rfl hl.1 rfl (lv_room (by first | exact Nat.le_of_ble_eq_true rfl | simp [va_rf_cat, xcat_i, xcat_l, xcat_r, xcat_n])) dPL_row_9 ⟨(Nat.le_of_ble_eq_true rfl), (Nat.le_of_ble_eq_true rfl)⟩) hw (fun r3 w4 H locs h hw => ?_)
  clear hcall
  refine xl_astore (i := 6) (lv' := [(6, va_rf r3), (5, va_rf r1), (0, .ref h0), (1, .int p0), (2, .int p1), (3, .long p2)]) hx hb dPL_row_12 hl (by decide) (by first | rfl | simp [va_rf_cat, xcat_i, xcat_l, xcat_r, xcat_n]) (fun ls hl => ?_)
  refine xl_aload hx hb dPL_row_14 (lv_at hl 1 rfl) ?_
  refine xl_ifnull (tgt := 40) hx hb dPL_row_16 rfl (fun hc => ?_) (fun hc => ?_)
  · replace h := h.1 hc
    refine lv_iconst (v := 0) hx hb dPL_row_40 (by decide) ?_
    refine W.widen (k := 2) (n := 368) (Nat.le_of_ble_eq_true rfl) (Nat.le_of_ble_eq_true rfl) ?_
    exact xw_zret (by decide) hx hb hr hlocks hw h dPL_row_41
  · replace h := h.2 hc
    refine xl_aload hx hb dPL_row_19 (lv_at hl 0 rfl) ?_
    refine xl_ifnull (tgt := 40) hx hb dPL_row_21 rfl (fun hc => ?_) (fun hc => ?_)
    · replace h := h.1 hc
      refine lv_iconst (v := 0) hx hb dPL_row_40 (by decide) ?_
      refine W.widen (k := 2) (n := 368) (Nat.le_of_ble_eq_true rfl) (Nat.le_of_ble_eq_true rfl) ?_
      exact xw_zret (by decide) hx hb hr hlocks hw h dPL_row_41
    · replace h := h.2 hc
      refine xl_aload hx hb dPL_row_24 (lv_at hl 1 rfl) ?_
      obtain ⟨a5, rfl, h⟩ := h
      obtain ⟨⟨fs, hk⟩, h⟩ := h
      have hcall := h
      clear h
      refine xw_calli (va_runV (As := []) (rest := []) ⟨hx, hb, hml, hown, hts⟩ (c_BA_isOpen l D E A _ w4 a5 hcall) (cwV 0 hts (xG_V mw_163 mw_164 mw_165 mw_110 mw_166) rfl rfl rfl (by decide +kernel) ⟨(Nat.le_of_ble_eq_true rfl), (Nat.le_of_ble_eq_true rfl)⟩) (xw_preV (ci := 2) hw hK hE rfl hk) rfl rfl hl.1 rfl (lv_room (by first | exact Nat.le_of_ble_eq_true rfl | simp [va_rf_cat, xcat_i, xcat_l, xcat_r, xcat_n])) dPL_row_26 ⟨(Nat.le_of_ble_eq_true rfl), (Nat.le_of_ble_eq_true rfl)⟩) hw (fun r6 w7 H locs h hw => ?_)
      clear hcall
      refine lv_if_eq (tgt := 40) hx hb dPL_row_29 rfl (fun hc => ?_) (fun hc => ?_)
      · replace h := h.1 hc
        refine lv_iconst (v := 0) hx hb dPL_row_40 (by decide) ?_
        refine W.widen (k := 2) (n := 368) (Nat.le_of_ble_eq_true rfl) (Nat.le_of_ble_eq_true rfl) ?_
        exact xw_zret (by decide) hx hb hr hlocks hw h dPL_row_41
      · replace h := h.2 hc
        refine lv_aload hx hb dPL_row_32 (lv_at hl 1 rfl) ?_
        obtain ⟨⟨fs, hk⟩, h⟩ := h
        have hcall := h
        clear h
        refine xw_calli (va_runV (As := []) (rest := []) ⟨hx, hb, hml, hown, hts⟩ (c_BA_isFull l D E A _ w7 a5 hcall) (cwV 0 hts (xG_V mw_159 mw_160 mw_161 mw_110 mw_162) rfl rfl rfl (by decide +kernel) ⟨(Nat.le_of_ble_eq_true rfl), (Nat.le_of_ble_eq_true rfl)⟩) (xw_preV (ci := 2) hw hK hE rfl hk) rfl rfl hl.1 rfl (lv_room (by first | exact Nat.le_of_ble_eq_true rfl | simp [va_rf_cat, xcat_i, xcat_l, xcat_r, xcat_n])) dPL_row_34 ⟨(Nat.le_of_ble_eq_true rfl), (Nat.le_of_ble_eq_true rfl)⟩) hw (fun r8 w9 H locs h hw => ?_)
        clear hcall
        refine lv_if_eq (tgt := 42) hx hb dPL_row_37 rfl (fun hc => ?_) (fun hc => ?_)
        · replace h := h.1 hc
          refine lv_lload_n hx hb dPL_row_42 rfl (lv_at hl 5 rfl) ?_
          refine lv_lconst (v := 0) hx hb dPL_row_43 (by decide) ?_
          refine xl_lc_eq (tgt := 61) hx hb dPL_row_44 dPL_row_45 rfl (fun hc => ?_) (fun hc => ?_)
          · replace h := h.1 hc
            refine lv_iconst (v := 0) hx hb dPL_row_61 (by decide) ?_
            refine W.widen (k := 2) (n := 368) (Nat.le_of_ble_eq_true rfl) (Nat.le_of_ble_eq_true rfl) ?_
            exact xw_zret (by decide) hx hb hr hlocks hw h dPL_row_62
          · replace h := h.2 hc
            refine lv_lload_n hx hb dPL_row_48 rfl (lv_at hl 5 rfl) ?_
            refine lv_ldc2 (v := (-100000000)) hx hb hown (hts _ mw_158) dPL_row_49 ?_
            refine lv_ldc2 (v := 100000000) hx hb hown (hts _ mw_157) dPL_row_52 ?_
            have hcall := h
            clear h
            refine xw_calli (va_runS (As := [.long p2, .long (-100000000), .long 100000000]) (rest := []) ⟨hx, hb, hml, hown, hts⟩ (c_PL_isWithin l D E A _ w9 p2 (-100000000) 100000000 hcall) (va_cwS 3 hts (xG_S mw_97 mw_98 mw_95 mw_99) rfl rfl rfl (by decide +kernel) ⟨(Nat.le_of_ble_eq_true rfl), (Nat.le_of_ble_eq_true rfl)⟩) (xw_preS hw hK hE) rfl rfl hl.1 rfl (lv_room (by first | exact Nat.le_of_ble_eq_true rfl | simp [va_rf_cat, xcat_i, xcat_l, xcat_r, xcat_n])) dPL_row_55 ⟨(Nat.le_of_ble_eq_true rfl), (Nat.le_of_ble_eq_true rfl)⟩) hw (fun r10 w11 H locs h hw => ?_)
            clear hcall
            refine lv_if_ne (tgt := 63) hx hb dPL_row_58 rfl (fun hc => ?_) (fun hc => ?_)
            · replace h := h.1 hc
              refine lv_aload hx hb dPL_row_63 (lv_at hl 1 rfl) ?_
              refine xl_aload hx hb dPL_row_65 (lv_at hl 0 rfl) ?_
              refine lv_lload_n hx hb dPL_row_67 rfl (lv_at hl 5 rfl) ?_
              obtain ⟨⟨fs, hk⟩, h⟩ := h
              have hcall := h
              clear h
              refine xw_callv (va_runV (As := [va_rf r3, .long p2]) (rest := []) ⟨hx, hb, hml, hown, hts⟩ (c_BA_addRow l D E A _ w11 a5 r3 p2 hcall) (cwV 2 hts (xG_V mw_153 mw_154 mw_155 mw_110 mw_156) rfl rfl rfl (by decide +kernel) ⟨(Nat.le_of_ble_eq_true rfl), (Nat.le_of_ble_eq_true rfl)⟩) (xw_preV (ci := 2) hw hK hE rfl hk) rfl rfl hl.1 rfl (lv_room (by first | exact Nat.le_of_ble_eq_true rfl | simp [va_rf_cat, xcat_i, xcat_l, xcat_r, xcat_n])) dPL_row_68 ⟨(Nat.le_of_ble_eq_true rfl), (Nat.le_of_ble_eq_true rfl)⟩) hw (fun w13 H locs h hw => ?_)
              clear hcall
              refine lv_iconst (v := 1) hx hb dPL_row_71 (by decide) ?_
              refine W.widen (k := 2) (n := 368) (Nat.le_of_ble_eq_true rfl) (Nat.le_of_ble_eq_true rfl) ?_
              exact xw_zret (by decide) hx hb hr hlocks hw h dPL_row_72
            · replace h := h.2 hc
              refine lv_iconst (v := 0) hx hb dPL_row_61 (by decide) ?_
              refine W.widen (k := 2) (n := 368) (Nat.le_of_ble_eq_true rfl) (Nat.le_of_ble_eq_true rfl) ?_
              exact xw_zret (by decide) hx hb hr hlocks hw h dPL_row_62
        · replace h := h.2 hc
          refine lv_iconst (v := 0) hx hb dPL_row_40 (by decide) ?_
          refine W.widen (k := 2) (n := 368) (Nat.le_of_ble_eq_true rfl) (Nat.le_of_ble_eq_true rfl) ?_
          exact xw_zret (by decide) hx hb hr hlocks hw h dPL_row_41
def wp_BA_size (E : xE_T) (post : Int32 → xw_T → Prop) (w : xw_T) (h0 : Nat) : Prop := ∃ v1, xgR w h0 2 1 = some v1 ∧ (∃ a2 : Nat, v1 = some a2 ∧ ((∃ fs, w a2 = some (.inr (0, fs))) ∧ wp_AL_size E (fun r3 w4 => post r3 w4) w a2))
set_option maxHeartbeats 4000000 in
set_option maxRecDepth 100000 in
theorem c_BA_size (l : Launch) (D : va_G) (E : xE_T) (A : Nat → Prop) (post : Int32 → xw_T → Prop) (w : xw_T) (h0 : Nat) (h : wp_BA_size E post w h0) : Met l yBA_size (xW yBA_size cBA_size 1 (some (.int))) ({ frames := 1, cells := 0, slots := 0, locals := 20 } : Room) (va_Pc [.ref h0] (xP D E A w)) (va_Qi post (xB D A) A) 0 0 A := by
  refine Met.ofW (cc := cBA_size) (maxL := 1) (ret := (some (.int))) (by decide) rfl ?_
  intro p e s m args below meth c s₁ B hml hv
  obtain ⟨rfl, hw, hK, hE⟩ := hv
  have hx := B.exec
  have hb := B.bytes
  have hr := B.returns
  have hts : ∀ w ∈ xTB, w.before _ s = true := fun w hw => atoms_spec (ws := xW yBA_size cBA_size 1 (some (.int))) B.pre w (List.mem_cons_of_mem _ hw)
  have hown : s.vm.findClass RBA = some m.cls := findClass_of_methodNamed B.named
  have hlocks := B.notSynchronized
  have hw : xw_S D vwCl A s.heap w s.heap [] := xw_S0 hw
  refine xl_start (lvs := [(0, .ref h0)]) (by first | exact Nat.le_of_ble_eq_true rfl | simp [lg_sl, va_rf_cat, xcat_i, xcat_l, xcat_r, xcat_n]) (by first | rfl | simp [lv_args, va_rf_cat, xcat_i, xcat_l, xcat_r, xcat_n]) (fun ls hl => ?_)
  unfold wp_BA_size at h
  refine lv_aload_n hx hb dBA_size_0 rfl (lv_at hl 0 rfl) ?_
  obtain ⟨v1, hv, h⟩ := h
  refine xw_getR (C := RBA) (T := TBA) (N := 6) (ref := RBA) hx hb hts inBA hown hK hw rfl 1 (by decide) (hts _ mw_103) (fun _ h9 => h9) hv dBA_size_1 ?_
  obtain ⟨a2, rfl, h⟩ := h
  obtain ⟨⟨fs, hk⟩, h⟩ := h
  have hcall := h
  clear h
  refine xw_calli (va_runV (As := []) (rest := []) ⟨hx, hb, hml, hown, hts⟩ (c_AL_size l D E A _ w a2 hcall) (cwV 0 hts (xG_V mw_142 mw_79 mw_80 mw_19 mw_81) rfl rfl rfl (by decide +kernel) ⟨(Nat.le_of_ble_eq_true rfl), (Nat.le_of_ble_eq_true rfl)⟩) (xw_preV (ci := 0) hw hK hE rfl hk) rfl rfl hl.1 rfl (lv_room (by first | exact Nat.le_of_ble_eq_true rfl | simp [va_rf_cat, xcat_i, xcat_l, xcat_r, xcat_n])) dBA_size_4 ⟨(Nat.le_of_ble_eq_true rfl), (Nat.le_of_ble_eq_true rfl)⟩) hw (fun r3 w4 H locs h hw => ?_)
  clear hcall
  refine W.widen (k := 0) (n := 0) (Nat.le_of_ble_eq_true rfl) (Nat.le_of_ble_eq_true rfl) ?_
  exact xw_iret hx hb hr hlocks hw h dBA_size_7
def wl_BA_sumForAccount_5 (E : xE_T) (post : Int64 → xw_T → Prop) : Nat → xw_T → Nat → Option Nat → Int32 → Int64 → Int32 → Prop
  | 0 => fun _ _ _ _ _ _ => False
  | n5 + 1 => fun w x0 x1 x2 x3 x5 => (x2 ≤ x5 → (post x3 w)) ∧ (¬ x2 ≤ x5 → (∃ v1, xgR w x0 2 1 = some v1 ∧ (∃ a2 : Nat, v1 = some a2 ∧ ((∃ fs, w a2 = some (.inr (0, fs))) ∧ wp_AL_size E (fun r3 w4 => (r3 ≤ x5 → (post x3 w4)) ∧ (¬ r3 ≤ x5 → (∃ v5, xgR w4 x0 2 1 = some v5 ∧ (∃ a6 : Nat, v5 = some a6 ∧ ((∃ fs, w4 a6 = some (.inr (0, fs))) ∧ wp_AL_get E (fun r7 w8 => ∃ a9 : Nat, r7 = some a9 ∧ ((∃ fs, w8 a9 = some (.inr (3, fs))) ∧ (∃ v10, xgR w8 a9 3 0 = some v10 ∧ ((¬ v10 = x1 → (wl_BA_sumForAccount_5 E post n5 w8 x0 x1 x2 x3 (x5 + 1))) ∧ (v10 = x1 → (∃ v11, xgL w8 a9 3 1 = some v11 ∧ (wl_BA_sumForAccount_5 E post n5 w8 x0 x1 x2 (x3 + v11) (x5 + 1)))))))) w4 a6 x5))))) w a2))))
def wp_BA_sumForAccount (E : xE_T) (post : Int64 → xw_T → Prop) (w : xw_T) (h0 : Nat) (p0 : Option Nat) (p1 : Int32) : Prop := ∃ n5, wl_BA_sumForAccount_5 E post n5 w h0 p0 p1 0 0
set_option maxHeartbeats 4000000 in
set_option maxRecDepth 100000 in
theorem c_BA_sumForAccount (l : Launch) (D : va_G) (E : xE_T) (A : Nat → Prop) (post : Int64 → xw_T → Prop) (w : xw_T) (h0 : Nat) (p0 : Option Nat) (p1 : Int32) (h : wp_BA_sumForAccount E post w h0 p0 p1) : Met l yBA_sumForAccount (xW yBA_sumForAccount cBA_sumForAccount 7 (some (.long))) ({ frames := 3, cells := 0, slots := 0, locals := 64 } : Room) (va_Pc [.ref h0, va_rf p0, .int p1] (xP D E A w)) (va_Ql post (xB D A) A) 0 0 A := by
  refine Met.ofW (cc := cBA_sumForAccount) (maxL := 7) (ret := (some (.long))) (by decide) rfl ?_
  intro p e s m args below meth c s₁ B hml hv
  obtain ⟨rfl, hw, hK, hE⟩ := hv
  have hx := B.exec
  have hb := B.bytes
  have hr := B.returns
  have hts : ∀ w ∈ xTB, w.before _ s = true := fun w hw => atoms_spec (ws := xW yBA_sumForAccount cBA_sumForAccount 7 (some (.long))) B.pre w (List.mem_cons_of_mem _ hw)
  have hown : s.vm.findClass RBA = some m.cls := findClass_of_methodNamed B.named
  have hlocks := B.notSynchronized
  have hw : xw_S D vwCl A s.heap w s.heap [] := xw_S0 hw
  have lo_5 : ∀ (n5 : Nat) (w : xw_T) (x0 : Nat) (x1 : Option Nat) (x2 : Int32) (x3 : Int64) (x5 : Int32) (H : Heap) (locs : List Loc) (ls : Array Slot), lv_has ls 7 [(0, .ref x0), (1, va_rf x1), (2, .int x2), (3, .long x3), (5, .int x5)] → xw_S D vwCl A s.heap w H locs → wl_BA_sumForAccount_5 E post n5 w x0 x1 x2 x3 x5 → W p l e (headSpec (xW yBA_sumForAccount cBA_sumForAccount 7 (some (.long))) ({ frames := 3, cells := 0, slots := 0, locals := 64 } : Room)).room s m ([.ref h0, va_rf p0, .int p1] : List Value).toArray below meth c H locs 0 0 (MQ below (va_Ql post (xB D A) A) ([.ref h0, va_rf p0, .int p1] : List Value).toArray s 0 0 A) (F0 m 5 ls []) := by
    intro n5
    induction n5 with
    | zero => intro w x0 x1 x2 x3 x5 H locs ls hl hw h; exact h.elim
    | succ n5 ih5 =>
      intro w x0 x1 x2 x3 x5 H locs ls hl hw h
      dsimp only [wl_BA_sumForAccount_5] at h
      refine lv_iload hx hb dBA_sumForAccount_5 (lv_at hl 4 rfl) ?_
      refine lv_iload_n hx hb dBA_sumForAccount_7 rfl (lv_at hl 2 rfl) ?_
      refine lv_icmp_ge (tgt := 60) hx hb dBA_sumForAccount_8 rfl (fun hc => ?_) (fun hc => ?_)
      · replace h := h.1 hc
        refine lv_lload_n hx hb dBA_sumForAccount_60 rfl (lv_at hl 3 rfl) ?_
        refine W.widen (k := 0) (n := 0) (Nat.le_of_ble_eq_true rfl) (Nat.le_of_ble_eq_true rfl) ?_
        exact xw_lret hx hb hr hlocks hw h dBA_sumForAccount_61
      · replace h := h.2 hc
        refine lv_iload hx hb dBA_sumForAccount_11 (lv_at hl 4 rfl) ?_
        refine lv_aload_n hx hb dBA_sumForAccount_13 rfl (lv_at hl 0 rfl) ?_
        obtain ⟨v1, hv, h⟩ := h
        refine xw_getR (C := RBA) (T := TBA) (N := 6) (ref := RBA) hx hb hts inBA hown hK hw rfl 1 (by decide) (hts _ mw_103) (fun _ h9 => h9) hv dBA_sumForAccount_14 ?_
        obtain ⟨a2, rfl, h⟩ := h
        obtain ⟨⟨fs, hk⟩, h⟩ := h
        have hcall := h
        clear h
        refine xw_calli (va_runV (As := []) (rest := [.int x5]) ⟨hx, hb, hml, hown, hts⟩ (c_AL_size l D E A _ w a2 hcall) (cwV 0 hts (xG_V mw_142 mw_79 mw_80 mw_19 mw_81) rfl rfl rfl (by decide +kernel) ⟨(Nat.le_of_ble_eq_true rfl), (Nat.le_of_ble_eq_true rfl)⟩) (xw_preV (ci := 0) hw hK hE rfl hk) rfl rfl hl.1 rfl (lv_room (by first | exact Nat.le_of_ble_eq_true rfl | simp [va_rf_cat, xcat_i, xcat_l, xcat_r, xcat_n])) dBA_sumForAccount_17 ⟨(Nat.le_of_ble_eq_true rfl), (Nat.le_of_ble_eq_true rfl)⟩) hw (fun r3 w4 H locs h hw => ?_)
        clear hcall
        refine lv_icmp_ge (tgt := 60) hx hb dBA_sumForAccount_20 rfl (fun hc => ?_) (fun hc => ?_)
        · replace h := h.1 hc
          refine lv_lload_n hx hb dBA_sumForAccount_60 rfl (lv_at hl 3 rfl) ?_
          refine W.widen (k := 0) (n := 0) (Nat.le_of_ble_eq_true rfl) (Nat.le_of_ble_eq_true rfl) ?_
          exact xw_lret hx hb hr hlocks hw h dBA_sumForAccount_61
        · replace h := h.2 hc
          refine lv_aload_n hx hb dBA_sumForAccount_23 rfl (lv_at hl 0 rfl) ?_
          obtain ⟨v5, hv, h⟩ := h
          refine xw_getR (C := RBA) (T := TBA) (N := 6) (ref := RBA) hx hb hts inBA hown hK hw rfl 1 (by decide) (hts _ mw_103) (fun _ h9 => h9) hv dBA_sumForAccount_24 ?_
          refine lv_iload hx hb dBA_sumForAccount_27 (lv_at hl 4 rfl) ?_
          obtain ⟨a6, rfl, h⟩ := h
          obtain ⟨⟨fs, hk⟩, h⟩ := h
          have hcall := h
          clear h
          refine xw_callq (va_runV (As := [.int x5]) (rest := []) ⟨hx, hb, hml, hown, hts⟩ (c_AL_get l D E A _ w4 a6 x5 hcall) (cwV 1 hts (xG_V mw_177 mw_139 mw_140 mw_19 mw_141) rfl rfl rfl (by decide +kernel) ⟨(Nat.le_of_ble_eq_true rfl), (Nat.le_of_ble_eq_true rfl)⟩) (xw_preV (ci := 0) hw hK hE rfl hk) rfl rfl hl.1 rfl (lv_room (by first | exact Nat.le_of_ble_eq_true rfl | simp [va_rf_cat, xcat_i, xcat_l, xcat_r, xcat_n])) dBA_sumForAccount_29 ⟨(Nat.le_of_ble_eq_true rfl), (Nat.le_of_ble_eq_true rfl)⟩) hw (fun r7 w8 H locs h hw => ?_)
          clear hcall
          obtain ⟨a9, rfl, h⟩ := h
          obtain ⟨⟨fs, hk⟩, h⟩ := h
          refine va_castS hx hb hown (hts _ mw_151) (hK.1 3 _ rfl).2 (xw_recv hK hw (ci := 3) rfl hk) dBA_sumForAccount_32 ?_
          refine lv_astore (i := 6) (lv' := [(6, .ref a9), (0, .ref x0), (1, va_rf x1), (2, .int x2), (3, .long x3), (5, .int x5)]) hx hb dBA_sumForAccount_35 hl (by decide) (by first | rfl | simp [va_rf_cat, xcat_i, xcat_l, xcat_r, xcat_n]) (fun ls hl => ?_)
          refine lv_aload hx hb dBA_sumForAccount_37 (lv_at hl 0 rfl) ?_
          obtain ⟨v10, hv, h⟩ := h
          refine xw_getR (C := RRW) (T := TRW) (N := 2) (ref := RRW) hx hb hts inRW hown hK hw rfl 0 (by decide) (hts _ mw_176) (fun _ h9 => h9) hv dBA_sumForAccount_39 ?_
          refine xl_aload_n hx hb dBA_sumForAccount_42 rfl (lv_at hl 2 rfl) ?_
          refine lv_acmp_ne (rx := v10) (ry := x1) (tgt := 54) hx hb dBA_sumForAccount_43 rfl (fun hc => ?_) (fun hc => ?_)
          · replace h := h.1 hc
            refine lv_iinc (k := 5) (v := x5 + 1) (lv' := [(5, .int (x5 + 1)), (6, .ref a9), (0, .ref x0), (1, va_rf x1), (2, .int x2), (3, .long x3)]) hx hb dBA_sumForAccount_54 hl rfl rfl (by decide) (by first | rfl | simp [va_rf_cat, xcat_i, xcat_l, xcat_r, xcat_n]) (fun ls hl => ?_)
            refine lv_goto (tgt := 5) hx hb dBA_sumForAccount_57 rfl ?_
            exact ih5 _ x0 x1 x2 x3 (x5 + 1) _ _ _ (lv_sub hl [2, 3, 4, 5, 0] rfl) hw h
          · replace h := h.2 hc
            refine lv_lload_n hx hb dBA_sumForAccount_46 rfl (lv_at hl 4 rfl) ?_
            refine lv_aload hx hb dBA_sumForAccount_47 (lv_at hl 0 rfl) ?_
            obtain ⟨v11, hv, h⟩ := h
            refine xw_getL (C := RRW) (T := TRW) (N := 2) (ref := RRW) hx hb hts inRW hown hK hw rfl 1 (by decide) (hts _ mw_175) (fun _ h9 => h9) hv dBA_sumForAccount_49 ?_
            refine lv_ladd hx hb dBA_sumForAccount_52 ?_
            refine lv_lstore_n (i := 3) (lv' := [(3, .long (x3 + v11)), (6, .ref a9), (0, .ref x0), (1, va_rf x1), (2, .int x2), (5, .int x5)]) hx hb dBA_sumForAccount_53 rfl hl (by decide) (by first | rfl | simp [va_rf_cat, xcat_i, xcat_l, xcat_r, xcat_n]) (fun ls hl => ?_)
            refine lv_iinc (k := 5) (v := x5 + 1) (lv' := [(5, .int (x5 + 1)), (3, .long (x3 + v11)), (6, .ref a9), (0, .ref x0), (1, va_rf x1), (2, .int x2)]) hx hb dBA_sumForAccount_54 hl rfl rfl (by decide) (by first | rfl | simp [va_rf_cat, xcat_i, xcat_l, xcat_r, xcat_n]) (fun ls hl => ?_)
            refine lv_goto (tgt := 5) hx hb dBA_sumForAccount_57 rfl ?_
            exact ih5 _ x0 x1 x2 (x3 + v11) (x5 + 1) _ _ _ (lv_sub hl [3, 4, 5, 1, 0] rfl) hw h
  refine xl_start (lvs := [(0, .ref h0), (1, va_rf p0), (2, .int p1)]) (by first | exact Nat.le_of_ble_eq_true rfl | simp [lg_sl, va_rf_cat, xcat_i, xcat_l, xcat_r, xcat_n]) (by first | rfl | simp [lv_args, va_rf_cat, xcat_i, xcat_l, xcat_r, xcat_n]) (fun ls hl => ?_)
  unfold wp_BA_sumForAccount at h
  refine lv_lconst (v := 0) hx hb dBA_sumForAccount_0 (by decide) ?_
  refine lv_lstore_n (i := 3) (lv' := [(3, .long 0), (0, .ref h0), (1, va_rf p0), (2, .int p1)]) hx hb dBA_sumForAccount_1 rfl hl (by decide) (by first | rfl | simp [va_rf_cat, xcat_i, xcat_l, xcat_r, xcat_n]) (fun ls hl => ?_)
  refine lv_iconst (v := 0) hx hb dBA_sumForAccount_2 (by decide) ?_
  refine lv_istore (i := 5) (lv' := [(5, .int 0), (3, .long 0), (0, .ref h0), (1, va_rf p0), (2, .int p1)]) hx hb dBA_sumForAccount_3 hl (by decide) (by first | rfl | simp [va_rf_cat, xcat_i, xcat_l, xcat_r, xcat_n]) (fun ls hl => ?_)
  obtain ⟨n5, h⟩ := h
  refine W.widen (k := 0) (n := 0) (Nat.le_of_ble_eq_true rfl) (Nat.le_of_ble_eq_true rfl) ?_
  exact lo_5 n5 _ h0 p0 p1 0 0 _ _ _ (lv_sub hl [2, 3, 4, 1, 0] rfl) hw h
def wl_PL_balance_22 (E : xE_T) (post : Int64 → xw_T → Prop) : Nat → xw_T → Nat → Int64 → Option Nat → Int64 → Int32 → Prop
  | 0 => fun _ _ _ _ _ _ => False
  | n22 + 1 => fun w x0 x2 x4 x5 x7 => ∃ v1, xgR w x0 4 1 = some v1 ∧ (∃ a2 : Nat, v1 = some a2 ∧ ((∃ fs, w a2 = some (.inr (0, fs))) ∧ wp_AL_size E (fun r3 w4 => (r3 ≤ x7 → (post x5 w4)) ∧ (¬ r3 ≤ x7 → (∃ v5, xgR w4 x0 4 1 = some v5 ∧ (∃ a6 : Nat, v5 = some a6 ∧ ((∃ fs, w4 a6 = some (.inr (0, fs))) ∧ wp_AL_get E (fun r7 w8 => ∃ a9 : Nat, r7 = some a9 ∧ ((∃ fs, w8 a9 = some (.inr (2, fs))) ∧ (∃ v10, xgR w8 a9 2 2 = some v10 ∧ ((¬ v10 = (some (E.2 1)) → (wl_PL_balance_22 E post n22 w8 x0 x2 x4 x5 (x7 + 1))) ∧ (v10 = (some (E.2 1)) → (∃ v11, xgI w8 a9 2 0 = some v11 ∧ ((x2 < v11.toInt64 → (wl_PL_balance_22 E post n22 w8 x0 x2 x4 x5 (x7 + 1))) ∧ (¬ x2 < v11.toInt64 → ((∃ fs, w8 a9 = some (.inr (2, fs))) ∧ wp_BA_size E (fun r12 w13 => (∃ fs, w13 a9 = some (.inr (2, fs))) ∧ wp_BA_sumForAccount E (fun r14 w15 => wl_PL_balance_22 E post n22 w15 x0 x2 x4 (x5 + r14) (x7 + 1)) w13 a9 x4 r12) w8 a9))))))))) w4 a6 x7))))) w a2))
def wp_PL_balance (E : xE_T) (post : Int64 → xw_T → Prop) (w : xw_T) (h0 : Nat) (p0 : Int32) (p1 : Int64) : Prop := (∃ fs, w h0 = some (.inr (4, fs))) ∧ wp_PL_findAccount E (fun r16 w17 => (¬ r16 = none → (∃ n22, wl_PL_balance_22 E post n22 w17 h0 p1 r16 0 0)) ∧ (r16 = none → (post (-2000000001) w17))) w h0 p0
set_option maxHeartbeats 4000000 in
set_option maxRecDepth 100000 in
theorem c_PL_balance (l : Launch) (D : va_G) (E : xE_T) (A : Nat → Prop) (post : Int64 → xw_T → Prop) (w : xw_T) (h0 : Nat) (p0 : Int32) (p1 : Int64) (h : wp_PL_balance E post w h0 p0 p1) : Met l yPL_balance (xW yPL_balance cPL_balance 9 (some (.long))) ({ frames := 4, cells := 0, slots := 0, locals := 90 } : Room) (va_Pc [.ref h0, .int p0, .long p1] (xP D E A w)) (va_Ql post (xB D A) A) 0 0 A := by
  refine Met.ofW (cc := cPL_balance) (maxL := 9) (ret := (some (.long))) (by decide) rfl ?_
  intro p e s m args below meth c s₁ B hml hv
  obtain ⟨rfl, hw, hK, hE⟩ := hv
  have hx := B.exec
  have hb := B.bytes
  have hr := B.returns
  have hts : ∀ w ∈ xTB, w.before _ s = true := fun w hw => atoms_spec (ws := xW yPL_balance cPL_balance 9 (some (.long))) B.pre w (List.mem_cons_of_mem _ hw)
  have hown : s.vm.findClass RPL = some m.cls := findClass_of_methodNamed B.named
  have hlocks := B.notSynchronized
  have hw : xw_S D vwCl A s.heap w s.heap [] := xw_S0 hw
  have lo_22 : ∀ (n22 : Nat) (w : xw_T) (x0 : Nat) (x2 : Int64) (x4 : Option Nat) (x5 : Int64) (x7 : Int32) (H : Heap) (locs : List Loc) (ls : Array Slot), lv_has ls 9 [(0, .ref x0), (2, .long x2), (4, va_rf x4), (5, .long x5), (7, .int x7)] → xw_S D vwCl A s.heap w H locs → wl_PL_balance_22 E post n22 w x0 x2 x4 x5 x7 → W p l e (headSpec (xW yPL_balance cPL_balance 9 (some (.long))) ({ frames := 4, cells := 0, slots := 0, locals := 90 } : Room)).room s m ([.ref h0, .int p0, .long p1] : List Value).toArray below meth c H locs 0 0 (MQ below (va_Ql post (xB D A) A) ([.ref h0, .int p0, .long p1] : List Value).toArray s 0 0 A) (F0 m 22 ls []) := by
    intro n22
    induction n22 with
    | zero => intro w x0 x2 x4 x5 x7 H locs ls hl hw h; exact h.elim
    | succ n22 ih22 =>
      intro w x0 x2 x4 x5 x7 H locs ls hl hw h
      dsimp only [wl_PL_balance_22] at h
      refine lv_iload hx hb dPL_balance_22 (lv_at hl 4 rfl) ?_
      refine lv_aload_n hx hb dPL_balance_24 rfl (lv_at hl 0 rfl) ?_
      obtain ⟨v1, hv, h⟩ := h
      refine xw_getR (C := RPL) (T := TPL) (N := 4) (ref := RPL) hx hb hts inPL hown hK hw rfl 1 (by decide) (hts _ mw_16) (fun _ h9 => h9) hv dPL_balance_25 ?_
      obtain ⟨a2, rfl, h⟩ := h
      obtain ⟨⟨fs, hk⟩, h⟩ := h
      have hcall := h
      clear h
      refine xw_calli (va_runV (As := []) (rest := [.int x7]) ⟨hx, hb, hml, hown, hts⟩ (c_AL_size l D E A _ w a2 hcall) (cwV 0 hts (xG_V mw_78 mw_79 mw_80 mw_19 mw_81) rfl rfl rfl (by decide +kernel) ⟨(Nat.le_of_ble_eq_true rfl), (Nat.le_of_ble_eq_true rfl)⟩) (xw_preV (ci := 0) hw hK hE rfl hk) rfl rfl hl.1 rfl (lv_room (by first | exact Nat.le_of_ble_eq_true rfl | simp [va_rf_cat, xcat_i, xcat_l, xcat_r, xcat_n])) dPL_balance_28 ⟨(Nat.le_of_ble_eq_true rfl), (Nat.le_of_ble_eq_true rfl)⟩) hw (fun r3 w4 H locs h hw => ?_)
      clear hcall
      refine lv_icmp_ge (tgt := 93) hx hb dPL_balance_31 rfl (fun hc => ?_) (fun hc => ?_)
      · replace h := h.1 hc
        refine lv_lload hx hb dPL_balance_93 (lv_at hl 3 rfl) ?_
        refine W.widen (k := 0) (n := 0) (Nat.le_of_ble_eq_true rfl) (Nat.le_of_ble_eq_true rfl) ?_
        exact xw_lret hx hb hr hlocks hw h dPL_balance_95
      · replace h := h.2 hc
        refine lv_aload_n hx hb dPL_balance_34 rfl (lv_at hl 0 rfl) ?_
        obtain ⟨v5, hv, h⟩ := h
        refine xw_getR (C := RPL) (T := TPL) (N := 4) (ref := RPL) hx hb hts inPL hown hK hw rfl 1 (by decide) (hts _ mw_16) (fun _ h9 => h9) hv dPL_balance_35 ?_
        refine lv_iload hx hb dPL_balance_38 (lv_at hl 4 rfl) ?_
        obtain ⟨a6, rfl, h⟩ := h
        obtain ⟨⟨fs, hk⟩, h⟩ := h
        have hcall := h
        clear h
        refine xw_callq (va_runV (As := [.int x7]) (rest := []) ⟨hx, hb, hml, hown, hts⟩ (c_AL_get l D E A _ w4 a6 x7 hcall) (cwV 1 hts (xG_V mw_138 mw_139 mw_140 mw_19 mw_141) rfl rfl rfl (by decide +kernel) ⟨(Nat.le_of_ble_eq_true rfl), (Nat.le_of_ble_eq_true rfl)⟩) (xw_preV (ci := 0) hw hK hE rfl hk) rfl rfl hl.1 rfl (lv_room (by first | exact Nat.le_of_ble_eq_true rfl | simp [va_rf_cat, xcat_i, xcat_l, xcat_r, xcat_n])) dPL_balance_40 ⟨(Nat.le_of_ble_eq_true rfl), (Nat.le_of_ble_eq_true rfl)⟩) hw (fun r7 w8 H locs h hw => ?_)
        clear hcall
        obtain ⟨a9, rfl, h⟩ := h
        obtain ⟨⟨fs, hk⟩, h⟩ := h
        refine va_castS hx hb hown (hts _ mw_112) (hK.1 2 _ rfl).2 (xw_recv hK hw (ci := 2) rfl hk) dPL_balance_43 ?_
        refine lv_astore (i := 8) (lv' := [(8, .ref a9), (0, .ref x0), (2, .long x2), (4, va_rf x4), (5, .long x5), (7, .int x7)]) hx hb dPL_balance_46 hl (by decide) (by first | rfl | simp [va_rf_cat, xcat_i, xcat_l, xcat_r, xcat_n]) (fun ls hl => ?_)
        refine lv_aload hx hb dPL_balance_48 (lv_at hl 0 rfl) ?_
        obtain ⟨v10, hv, h⟩ := h
        refine xw_getR (C := RBA) (T := TBA) (N := 6) (ref := RBA) hx hb hts inBA hown hK hw rfl 2 (by decide) (hts _ mw_188) (fun _ h9 => h9) hv dPL_balance_50 ?_
        refine va_gets hx hb hE.2.2.1.2.1 hw.2.1 hown (hts _ mw_187) (fun _ h9 => h9) dPL_balance_53 ?_
        refine lv_acmp_ne (rx := v10) (ry := (some (E.2 1))) (tgt := 87) hx hb dPL_balance_56 rfl (fun hc => ?_) (fun hc => ?_)
        · replace h := h.1 hc
          refine lv_iinc (k := 5) (v := x7 + 1) (lv' := [(7, .int (x7 + 1)), (8, .ref a9), (0, .ref x0), (2, .long x2), (4, va_rf x4), (5, .long x5)]) hx hb dPL_balance_87 hl rfl rfl (by decide) (by first | rfl | simp [va_rf_cat, xcat_i, xcat_l, xcat_r, xcat_n]) (fun ls hl => ?_)
          refine lv_goto (tgt := 22) hx hb dPL_balance_90 rfl ?_
          exact ih22 _ x0 x2 x4 x5 (x7 + 1) _ _ _ (lv_sub hl [2, 3, 4, 5, 0] rfl) hw h
        · replace h := h.2 hc
          refine lv_aload hx hb dPL_balance_59 (lv_at hl 0 rfl) ?_
          obtain ⟨v11, hv, h⟩ := h
          refine xw_getI (C := RBA) (T := TBA) (N := 6) (ref := RBA) hx hb hts inBA hown hK hw rfl 0 (by decide) (hts _ mw_186) (fun _ h9 => h9) hv dPL_balance_61 ?_
          refine lv_i2l hx hb dPL_balance_64 rfl ?_
          refine lv_lload_n hx hb dPL_balance_65 rfl (lv_at hl 2 rfl) ?_
          refine xl_lc_gt (tgt := 87) hx hb dPL_balance_66 dPL_balance_67 rfl (fun hc => ?_) (fun hc => ?_)
          · replace h := h.1 hc
            refine lv_iinc (k := 5) (v := x7 + 1) (lv' := [(7, .int (x7 + 1)), (8, .ref a9), (0, .ref x0), (2, .long x2), (4, va_rf x4), (5, .long x5)]) hx hb dPL_balance_87 hl rfl rfl (by decide) (by first | rfl | simp [va_rf_cat, xcat_i, xcat_l, xcat_r, xcat_n]) (fun ls hl => ?_)
            refine lv_goto (tgt := 22) hx hb dPL_balance_90 rfl ?_
            exact ih22 _ x0 x2 x4 x5 (x7 + 1) _ _ _ (lv_sub hl [2, 3, 4, 5, 0] rfl) hw h
          · replace h := h.2 hc
            refine lv_lload hx hb dPL_balance_70 (lv_at hl 4 rfl) ?_
            refine lv_aload hx hb dPL_balance_72 (lv_at hl 0 rfl) ?_
            refine xl_aload hx hb dPL_balance_74 (lv_at hl 3 rfl) ?_
            refine lv_aload hx hb dPL_balance_76 (lv_at hl 0 rfl) ?_
            obtain ⟨⟨fs, hk⟩, h⟩ := h
            have hcall := h
            clear h
            refine xw_calli (va_runV (As := []) (rest := [va_rf x4, .ref a9, .long x5]) ⟨hx, hb, hml, hown, hts⟩ (c_BA_size l D E A _ w8 a9 hcall) (cwV 0 hts (xG_V mw_182 mw_183 mw_184 mw_110 mw_185) rfl rfl rfl (by decide +kernel) ⟨(Nat.le_of_ble_eq_true rfl), (Nat.le_of_ble_eq_true rfl)⟩) (xw_preV (ci := 2) hw hK hE rfl hk) rfl rfl hl.1 rfl (lv_room (by first | exact Nat.le_of_ble_eq_true rfl | simp [va_rf_cat, xcat_i, xcat_l, xcat_r, xcat_n])) dPL_balance_78 ⟨(Nat.le_of_ble_eq_true rfl), (Nat.le_of_ble_eq_true rfl)⟩) hw (fun r12 w13 H locs h hw => ?_)
            clear hcall
            obtain ⟨⟨fs, hk⟩, h⟩ := h
            have hcall := h
            clear h
            refine xw_calll (va_runV (As := [va_rf x4, .int r12]) (rest := [.long x5]) ⟨hx, hb, hml, hown, hts⟩ (c_BA_sumForAccount l D E A _ w13 a9 x4 r12 hcall) (cwV 2 hts (xG_V mw_178 mw_179 mw_180 mw_110 mw_181) rfl rfl rfl (by decide +kernel) ⟨(Nat.le_of_ble_eq_true rfl), (Nat.le_of_ble_eq_true rfl)⟩) (xw_preV (ci := 2) hw hK hE rfl hk) rfl rfl hl.1 rfl (lv_room (by first | exact Nat.le_of_ble_eq_true rfl | simp [va_rf_cat, xcat_i, xcat_l, xcat_r, xcat_n])) dPL_balance_81 ⟨(Nat.le_of_ble_eq_true rfl), (Nat.le_of_ble_eq_true rfl)⟩) hw (fun r14 w15 H locs h hw => ?_)
            clear hcall
            refine lv_ladd hx hb dPL_balance_84 ?_
            refine lv_lstore (i := 5) (lv' := [(5, .long (x5 + r14)), (8, .ref a9), (0, .ref x0), (2, .long x2), (4, va_rf x4), (7, .int x7)]) hx hb dPL_balance_85 hl (by decide) (by first | rfl | simp [va_rf_cat, xcat_i, xcat_l, xcat_r, xcat_n]) (fun ls hl => ?_)
            refine lv_iinc (k := 5) (v := x7 + 1) (lv' := [(7, .int (x7 + 1)), (5, .long (x5 + r14)), (8, .ref a9), (0, .ref x0), (2, .long x2), (4, va_rf x4)]) hx hb dPL_balance_87 hl rfl rfl (by decide) (by first | rfl | simp [va_rf_cat, xcat_i, xcat_l, xcat_r, xcat_n]) (fun ls hl => ?_)
            refine lv_goto (tgt := 22) hx hb dPL_balance_90 rfl ?_
            exact ih22 _ x0 x2 x4 (x5 + r14) (x7 + 1) _ _ _ (lv_sub hl [3, 4, 5, 1, 0] rfl) hw h
  refine xl_start (lvs := [(0, .ref h0), (1, .int p0), (2, .long p1)]) (by first | exact Nat.le_of_ble_eq_true rfl | simp [lg_sl, va_rf_cat, xcat_i, xcat_l, xcat_r, xcat_n]) (by first | rfl | simp [lv_args, va_rf_cat, xcat_i, xcat_l, xcat_r, xcat_n]) (fun ls hl => ?_)
  unfold wp_PL_balance at h
  refine lv_aload_n hx hb dPL_balance_0 rfl (lv_at hl 0 rfl) ?_
  refine lv_iload_n hx hb dPL_balance_1 rfl (lv_at hl 1 rfl) ?_
  obtain ⟨⟨fs, hk⟩, h⟩ := h
  have hcall := h
  clear h
  refine xw_callq (va_runV (As := [.int p0]) (rest := []) ⟨hx, hb, hml, hown, hts⟩ (c_PL_findAccount l D E A _ w h0 p0 hcall) (cwV 1 hts (xG_V mw_167 mw_168 mw_169 mw_95 mw_170) rfl rfl rfl (by decide +kernel) ⟨(Nat.le_of_ble_eq_true rfl), (Nat.le_of_ble_eq_true rfl)⟩) (xw_preV (ci := 4) hw hK hE rfl hk) rfl rfl hl.1 rfl (lv_room (by first | exact Nat.le_of_ble_eq_true rfl | simp [va_rf_cat, xcat_i, xcat_l, xcat_r, xcat_n])) dPL_balance_2 ⟨(Nat.le_of_ble_eq_true rfl), (Nat.le_of_ble_eq_true rfl)⟩) hw (fun r16 w17 H locs h hw => ?_)
  clear hcall
  refine xl_astore (i := 4) (lv' := [(4, va_rf r16), (0, .ref h0), (1, .int p0), (2, .long p1)]) hx hb dPL_balance_5 hl (by decide) (by first | rfl | simp [va_rf_cat, xcat_i, xcat_l, xcat_r, xcat_n]) (fun ls hl => ?_)
  refine xl_aload hx hb dPL_balance_7 (lv_at hl 0 rfl) ?_
  refine xl_ifnonnull (tgt := 16) hx hb dPL_balance_9 rfl (fun hc => ?_) (fun hc => ?_)
  · replace h := h.1 hc
    refine lv_lconst (v := 0) hx hb dPL_balance_16 (by decide) ?_
    refine lv_lstore (i := 5) (lv' := [(5, .long 0), (4, va_rf r16), (0, .ref h0), (1, .int p0), (2, .long p1)]) hx hb dPL_balance_17 hl (by decide) (by first | rfl | simp [va_rf_cat, xcat_i, xcat_l, xcat_r, xcat_n]) (fun ls hl => ?_)
    refine lv_iconst (v := 0) hx hb dPL_balance_19 (by decide) ?_
    refine lv_istore (i := 7) (lv' := [(7, .int 0), (5, .long 0), (4, va_rf r16), (0, .ref h0), (1, .int p0), (2, .long p1)]) hx hb dPL_balance_20 hl (by decide) (by first | rfl | simp [va_rf_cat, xcat_i, xcat_l, xcat_r, xcat_n]) (fun ls hl => ?_)
    obtain ⟨n22, h⟩ := h
    refine W.widen (k := 0) (n := 0) (Nat.le_of_ble_eq_true rfl) (Nat.le_of_ble_eq_true rfl) ?_
    exact lo_22 n22 _ h0 p1 r16 0 0 _ _ _ (lv_sub hl [3, 5, 2, 1, 0] rfl) hw h
  · replace h := h.2 hc
    refine lv_ldc2 (v := (-2000000001)) hx hb hown (hts _ mw_189) dPL_balance_12 ?_
    refine W.widen (k := 0) (n := 0) (Nat.le_of_ble_eq_true rfl) (Nat.le_of_ble_eq_true rfl) ?_
    exact xw_lret hx hb hr hlocks hw h dPL_balance_15
def wp_PL_close (E : xE_T) (post : Int32 → xw_T → Prop) (w : xw_T) (h0 : Nat) (p0 : Int64) : Prop := wp_PL_isDay E (fun r1 w2 => (¬ r1 = 0 → ((∃ fs, w2 h0 = some (.inr (4, fs))) ∧ wp_PL_isClosed E (fun r3 w4 => (r3 = 0 → (∃ v5, xgI w4 h0 4 2 = some v5 ∧ ((∃ v0, xg w4 h0 4 2 = some v0) ∧ ∀ w6, w6 = xp w4 h0 2 (.int (p0.toInt32 + 1)) → (∃ v7, xgI w6 h0 4 2 = some v7 ∧ (post (v7 - v5) w6))))) ∧ (¬ r3 = 0 → (post 0 w4))) w2 h0 p0)) ∧ (r1 = 0 → (post (-2000000002) w2))) w p0
set_option maxHeartbeats 4000000 in
set_option maxRecDepth 100000 in
theorem c_PL_close (l : Launch) (D : va_G) (E : xE_T) (A : Nat → Prop) (post : Int32 → xw_T → Prop) (w : xw_T) (h0 : Nat) (p0 : Int64) (h : wp_PL_close E post w h0 p0) : Met l yPL_close (xW yPL_close cPL_close 4 (some (.int))) ({ frames := 2, cells := 0, slots := 0, locals := 46 } : Room) (va_Pc [.ref h0, .long p0] (xP D E A w)) (va_Qi post (xB D A) A) 0 0 A := by
  refine Met.ofW (cc := cPL_close) (maxL := 4) (ret := (some (.int))) (by decide) rfl ?_
  intro p e s m args below meth c s₁ B hml hv
  obtain ⟨rfl, hw, hK, hE⟩ := hv
  have hx := B.exec
  have hb := B.bytes
  have hr := B.returns
  have hts : ∀ w ∈ xTB, w.before _ s = true := fun w hw => atoms_spec (ws := xW yPL_close cPL_close 4 (some (.int))) B.pre w (List.mem_cons_of_mem _ hw)
  have hown : s.vm.findClass RPL = some m.cls := findClass_of_methodNamed B.named
  have hlocks := B.notSynchronized
  have hw : xw_S D vwCl A s.heap w s.heap [] := xw_S0 hw
  refine xl_start (lvs := [(0, .ref h0), (1, .long p0)]) (by first | exact Nat.le_of_ble_eq_true rfl | simp [lg_sl, va_rf_cat, xcat_i, xcat_l, xcat_r, xcat_n]) (by first | rfl | simp [lv_args, va_rf_cat, xcat_i, xcat_l, xcat_r, xcat_n]) (fun ls hl => ?_)
  unfold wp_PL_close at h
  refine lv_lload_n hx hb dPL_close_0 rfl (lv_at hl 1 rfl) ?_
  have hcall := h
  clear h
  refine xw_calli (va_runS (As := [.long p0]) (rest := []) ⟨hx, hb, hml, hown, hts⟩ (c_PL_isDay l D E A _ w p0 hcall) (va_cwS 1 hts (xG_S mw_123 mw_124 mw_95 mw_125) rfl rfl rfl (by decide +kernel) ⟨(Nat.le_of_ble_eq_true rfl), (Nat.le_of_ble_eq_true rfl)⟩) (xw_preS hw hK hE) rfl rfl hl.1 rfl (lv_room (by first | exact Nat.le_of_ble_eq_true rfl | simp [va_rf_cat, xcat_i, xcat_l, xcat_r, xcat_n])) dPL_close_1 ⟨(Nat.le_of_ble_eq_true rfl), (Nat.le_of_ble_eq_true rfl)⟩) hw (fun r1 w2 H locs h hw => ?_)
  clear hcall
  refine lv_if_ne (tgt := 10) hx hb dPL_close_4 rfl (fun hc => ?_) (fun hc => ?_)
  · replace h := h.1 hc
    refine lv_aload_n hx hb dPL_close_10 rfl (lv_at hl 0 rfl) ?_
    refine lv_lload_n hx hb dPL_close_11 rfl (lv_at hl 1 rfl) ?_
    obtain ⟨⟨fs, hk⟩, h⟩ := h
    have hcall := h
    clear h
    refine xw_calli (va_runV (As := [.long p0]) (rest := []) ⟨hx, hb, hml, hown, hts⟩ (c_PL_isClosed l D E A _ w2 h0 p0 hcall) (cwV 1 hts (xG_V mw_119 mw_120 mw_121 mw_95 mw_122) rfl rfl rfl (by decide +kernel) ⟨(Nat.le_of_ble_eq_true rfl), (Nat.le_of_ble_eq_true rfl)⟩) (xw_preV (ci := 4) hw hK hE rfl hk) rfl rfl hl.1 rfl (lv_room (by first | exact Nat.le_of_ble_eq_true rfl | simp [va_rf_cat, xcat_i, xcat_l, xcat_r, xcat_n])) dPL_close_12 ⟨(Nat.le_of_ble_eq_true rfl), (Nat.le_of_ble_eq_true rfl)⟩) hw (fun r3 w4 H locs h hw => ?_)
    clear hcall
    refine lv_if_eq (tgt := 20) hx hb dPL_close_15 rfl (fun hc => ?_) (fun hc => ?_)
    · replace h := h.1 hc
      refine lv_aload_n hx hb dPL_close_20 rfl (lv_at hl 0 rfl) ?_
      obtain ⟨v5, hv, h⟩ := h
      refine xw_getI (C := RPL) (T := TPL) (N := 4) (ref := RPL) hx hb hts inPL hown hK hw rfl 2 (by decide) (hts _ mw_15) (fun _ h9 => h9) hv dPL_close_21 ?_
      refine lv_istore_n (i := 3) (lv' := [(3, .int v5), (0, .ref h0), (1, .long p0)]) hx hb dPL_close_24 rfl hl (by decide) (by first | rfl | simp [va_rf_cat, xcat_i, xcat_l, xcat_r, xcat_n]) (fun ls hl => ?_)
      refine lv_aload_n hx hb dPL_close_25 rfl (lv_at hl 1 rfl) ?_
      refine lv_lload_n hx hb dPL_close_26 rfl (lv_at hl 2 rfl) ?_
      refine lv_l2i hx hb dPL_close_27 rfl ?_
      refine lv_iconst (v := 1) hx hb dPL_close_28 (by decide) ?_
      refine lv_iadd hx hb dPL_close_29 ?_
      obtain ⟨hv, h⟩ := h
      refine xw_put (ty := (.int)) (C := RPL) (T := TPL) (N := 4) (ref := RPL) hx hb hts inPL tyPL tyPL_ok nmPL hown hK hw rfl 2 (by decide) (hts _ mw_15) (fun _ h9 => h9) rfl (by decide +kernel) rfl rfl hv dPL_close_30 (fun H locs hw => ?_)
      replace h := h _ rfl
      generalize xp w4 h0 2 (.int (p0.toInt32 + 1)) = w6 at hw h
      refine lv_aload_n hx hb dPL_close_33 rfl (lv_at hl 1 rfl) ?_
      obtain ⟨v7, hv, h⟩ := h
      refine xw_getI (C := RPL) (T := TPL) (N := 4) (ref := RPL) hx hb hts inPL hown hK hw rfl 2 (by decide) (hts _ mw_15) (fun _ h9 => h9) hv dPL_close_34 ?_
      refine lv_iload_n hx hb dPL_close_37 rfl (lv_at hl 0 rfl) ?_
      refine lv_isub hx hb dPL_close_38 ?_
      refine W.widen (k := 0) (n := 0) (Nat.le_of_ble_eq_true rfl) (Nat.le_of_ble_eq_true rfl) ?_
      exact xw_iret hx hb hr hlocks hw h dPL_close_39
    · replace h := h.2 hc
      refine lv_iconst (v := 0) hx hb dPL_close_18 (by decide) ?_
      refine W.widen (k := 0) (n := 0) (Nat.le_of_ble_eq_true rfl) (Nat.le_of_ble_eq_true rfl) ?_
      exact xw_iret hx hb hr hlocks hw h dPL_close_19
  · replace h := h.2 hc
    refine lv_ldc (v := (-2000000002)) hx hb hown (hts _ mw_77) dPL_close_7 ?_
    refine W.widen (k := 0) (n := 0) (Nat.le_of_ble_eq_true rfl) (Nat.le_of_ble_eq_true rfl) ?_
    exact xw_iret hx hb hr hlocks hw h dPL_close_9
def wp_BA_hasRowNumber (E : xE_T) (post : Int32 → xw_T → Prop) (w : xw_T) (h0 : Nat) (p0 : Int32) : Prop := ∃ v1, xgI w h0 2 5 = some v1 ∧ ((p0 < v1 → (post 0 w)) ∧ (¬ p0 < v1 → (∃ v2, xgI w h0 2 5 = some v2 ∧ (∃ v3, xgR w h0 2 1 = some v3 ∧ (∃ a4 : Nat, v3 = some a4 ∧ ((∃ fs, w a4 = some (.inr (0, fs))) ∧ wp_AL_size E (fun r5 w6 => ((v2 + r5) ≤ p0 → (post 0 w6)) ∧ (¬ (v2 + r5) ≤ p0 → (post 1 w6))) w a4))))))
set_option maxHeartbeats 4000000 in
set_option maxRecDepth 100000 in
theorem c_BA_hasRowNumber (l : Launch) (D : va_G) (E : xE_T) (A : Nat → Prop) (post : Int32 → xw_T → Prop) (w : xw_T) (h0 : Nat) (p0 : Int32) (h : wp_BA_hasRowNumber E post w h0 p0) : Met l yBA_hasRowNumber (xW yBA_hasRowNumber cBA_hasRowNumber 2 (some (.boolean))) ({ frames := 1, cells := 0, slots := 0, locals := 20 } : Room) (va_Pc [.ref h0, .int p0] (xP D E A w)) (va_Qi post (xB D A) A) 0 0 A := by
  refine Met.ofW (cc := cBA_hasRowNumber) (maxL := 2) (ret := (some (.boolean))) (by decide) rfl ?_
  intro p e s m args below meth c s₁ B hml hv
  obtain ⟨rfl, hw, hK, hE⟩ := hv
  have hx := B.exec
  have hb := B.bytes
  have hr := B.returns
  have hts : ∀ w ∈ xTB, w.before _ s = true := fun w hw => atoms_spec (ws := xW yBA_hasRowNumber cBA_hasRowNumber 2 (some (.boolean))) B.pre w (List.mem_cons_of_mem _ hw)
  have hown : s.vm.findClass RBA = some m.cls := findClass_of_methodNamed B.named
  have hlocks := B.notSynchronized
  have hw : xw_S D vwCl A s.heap w s.heap [] := xw_S0 hw
  refine xl_start (lvs := [(0, .ref h0), (1, .int p0)]) (by first | exact Nat.le_of_ble_eq_true rfl | simp [lg_sl, va_rf_cat, xcat_i, xcat_l, xcat_r, xcat_n]) (by first | rfl | simp [lv_args, va_rf_cat, xcat_i, xcat_l, xcat_r, xcat_n]) (fun ls hl => ?_)
  unfold wp_BA_hasRowNumber at h
  refine lv_iload_n hx hb dBA_hasRowNumber_0 rfl (lv_at hl 1 rfl) ?_
  refine lv_aload_n hx hb dBA_hasRowNumber_1 rfl (lv_at hl 0 rfl) ?_
  obtain ⟨v1, hv, h⟩ := h
  refine xw_getI (C := RBA) (T := TBA) (N := 6) (ref := RBA) hx hb hts inBA hown hK hw rfl 5 (by decide) (hts _ mw_190) (fun _ h9 => h9) hv dBA_hasRowNumber_2 ?_
  refine lv_icmp_lt (tgt := 28) hx hb dBA_hasRowNumber_5 rfl (fun hc => ?_) (fun hc => ?_)
  · replace h := h.1 hc
    refine lv_iconst (v := 0) hx hb dBA_hasRowNumber_28 (by decide) ?_
    refine W.widen (k := 0) (n := 0) (Nat.le_of_ble_eq_true rfl) (Nat.le_of_ble_eq_true rfl) ?_
    exact xw_zret (by decide) hx hb hr hlocks hw h dBA_hasRowNumber_29
  · replace h := h.2 hc
    refine lv_iload_n hx hb dBA_hasRowNumber_8 rfl (lv_at hl 1 rfl) ?_
    refine lv_aload_n hx hb dBA_hasRowNumber_9 rfl (lv_at hl 0 rfl) ?_
    obtain ⟨v2, hv, h⟩ := h
    refine xw_getI (C := RBA) (T := TBA) (N := 6) (ref := RBA) hx hb hts inBA hown hK hw rfl 5 (by decide) (hts _ mw_190) (fun _ h9 => h9) hv dBA_hasRowNumber_10 ?_
    refine lv_aload_n hx hb dBA_hasRowNumber_13 rfl (lv_at hl 0 rfl) ?_
    obtain ⟨v3, hv, h⟩ := h
    refine xw_getR (C := RBA) (T := TBA) (N := 6) (ref := RBA) hx hb hts inBA hown hK hw rfl 1 (by decide) (hts _ mw_103) (fun _ h9 => h9) hv dBA_hasRowNumber_14 ?_
    obtain ⟨a4, rfl, h⟩ := h
    obtain ⟨⟨fs, hk⟩, h⟩ := h
    have hcall := h
    clear h
    refine xw_calli (va_runV (As := []) (rest := [.int v2, .int p0]) ⟨hx, hb, hml, hown, hts⟩ (c_AL_size l D E A _ w a4 hcall) (cwV 0 hts (xG_V mw_142 mw_79 mw_80 mw_19 mw_81) rfl rfl rfl (by decide +kernel) ⟨(Nat.le_of_ble_eq_true rfl), (Nat.le_of_ble_eq_true rfl)⟩) (xw_preV (ci := 0) hw hK hE rfl hk) rfl rfl hl.1 rfl (lv_room (by first | exact Nat.le_of_ble_eq_true rfl | simp [va_rf_cat, xcat_i, xcat_l, xcat_r, xcat_n])) dBA_hasRowNumber_17 ⟨(Nat.le_of_ble_eq_true rfl), (Nat.le_of_ble_eq_true rfl)⟩) hw (fun r5 w6 H locs h hw => ?_)
    clear hcall
    refine lv_iadd hx hb dBA_hasRowNumber_20 ?_
    refine lv_icmp_ge (tgt := 28) hx hb dBA_hasRowNumber_21 rfl (fun hc => ?_) (fun hc => ?_)
    · replace h := h.1 hc
      refine lv_iconst (v := 0) hx hb dBA_hasRowNumber_28 (by decide) ?_
      refine W.widen (k := 0) (n := 0) (Nat.le_of_ble_eq_true rfl) (Nat.le_of_ble_eq_true rfl) ?_
      exact xw_zret (by decide) hx hb hr hlocks hw h dBA_hasRowNumber_29
    · replace h := h.2 hc
      refine lv_iconst (v := 1) hx hb dBA_hasRowNumber_24 (by decide) ?_
      refine lv_goto (tgt := 29) hx hb dBA_hasRowNumber_25 rfl ?_
      refine W.widen (k := 0) (n := 0) (Nat.le_of_ble_eq_true rfl) (Nat.le_of_ble_eq_true rfl) ?_
      exact xw_zret (by decide) hx hb hr hlocks hw h dBA_hasRowNumber_29
def wl_PL_findBatchOfRow_2 (E : xE_T) (post : Option Nat → xw_T → Prop) : Nat → xw_T → Nat → Int32 → Int32 → Prop
  | 0 => fun _ _ _ _ => False
  | n2 + 1 => fun w x0 x1 x2 => ∃ v1, xgR w x0 4 1 = some v1 ∧ (∃ a2 : Nat, v1 = some a2 ∧ ((∃ fs, w a2 = some (.inr (0, fs))) ∧ wp_AL_size E (fun r3 w4 => (r3 ≤ x2 → (post none w4)) ∧ (¬ r3 ≤ x2 → (∃ v5, xgR w4 x0 4 1 = some v5 ∧ (∃ a6 : Nat, v5 = some a6 ∧ ((∃ fs, w4 a6 = some (.inr (0, fs))) ∧ wp_AL_get E (fun r7 w8 => ∃ a9 : Nat, r7 = some a9 ∧ ((∃ fs, w8 a9 = some (.inr (2, fs))) ∧ (∃ v10, xgR w8 a9 2 2 = some v10 ∧ ((¬ v10 = (some (E.2 1)) → (wl_PL_findBatchOfRow_2 E post n2 w8 x0 x1 (x2 + 1))) ∧ (v10 = (some (E.2 1)) → ((∃ fs, w8 a9 = some (.inr (2, fs))) ∧ wp_BA_hasRowNumber E (fun r11 w12 => (r11 = 0 → (wl_PL_findBatchOfRow_2 E post n2 w12 x0 x1 (x2 + 1))) ∧ (¬ r11 = 0 → (post (some a9) w12))) w8 a9 x1)))))) w4 a6 x2))))) w a2))
def wp_PL_findBatchOfRow (E : xE_T) (post : Option Nat → xw_T → Prop) (w : xw_T) (h0 : Nat) (p0 : Int32) : Prop := ∃ n2, wl_PL_findBatchOfRow_2 E post n2 w h0 p0 0
set_option maxHeartbeats 4000000 in
set_option maxRecDepth 100000 in
theorem c_PL_findBatchOfRow (l : Launch) (D : va_G) (E : xE_T) (A : Nat → Prop) (post : Option Nat → xw_T → Prop) (w : xw_T) (h0 : Nat) (p0 : Int32) (h : wp_PL_findBatchOfRow E post w h0 p0) : Met l yPL_findBatchOfRow (xW yPL_findBatchOfRow cPL_findBatchOfRow 4 (some (.object "PostLedger$Batch"))) ({ frames := 3, cells := 0, slots := 0, locals := 64 } : Room) (va_Pc [.ref h0, .int p0] (xP D E A w)) (va_Qq post (xB D A) A) 0 0 A := by
  refine Met.ofW (cc := cPL_findBatchOfRow) (maxL := 4) (ret := (some (.object "PostLedger$Batch"))) (by decide) rfl ?_
  intro p e s m args below meth c s₁ B hml hv
  obtain ⟨rfl, hw, hK, hE⟩ := hv
  have hx := B.exec
  have hb := B.bytes
  have hr := B.returns
  have hts : ∀ w ∈ xTB, w.before _ s = true := fun w hw => atoms_spec (ws := xW yPL_findBatchOfRow cPL_findBatchOfRow 4 (some (.object "PostLedger$Batch"))) B.pre w (List.mem_cons_of_mem _ hw)
  have hown : s.vm.findClass RPL = some m.cls := findClass_of_methodNamed B.named
  have hlocks := B.notSynchronized
  have hw : xw_S D vwCl A s.heap w s.heap [] := xw_S0 hw
  have lo_2 : ∀ (n2 : Nat) (w : xw_T) (x0 : Nat) (x1 : Int32) (x2 : Int32) (H : Heap) (locs : List Loc) (ls : Array Slot), lv_has ls 4 [(0, .ref x0), (1, .int x1), (2, .int x2)] → xw_S D vwCl A s.heap w H locs → wl_PL_findBatchOfRow_2 E post n2 w x0 x1 x2 → W p l e (headSpec (xW yPL_findBatchOfRow cPL_findBatchOfRow 4 (some (.object "PostLedger$Batch"))) ({ frames := 3, cells := 0, slots := 0, locals := 64 } : Room)).room s m ([.ref h0, .int p0] : List Value).toArray below meth c H locs 0 0 (MQ below (va_Qq post (xB D A) A) ([.ref h0, .int p0] : List Value).toArray s 0 0 A) (F0 m 2 ls []) := by
    intro n2
    induction n2 with
    | zero => intro w x0 x1 x2 H locs ls hl hw h; exact h.elim
    | succ n2 ih2 =>
      intro w x0 x1 x2 H locs ls hl hw h
      dsimp only [wl_PL_findBatchOfRow_2] at h
      refine lv_iload_n hx hb dPL_findBatchOfRow_2 rfl (lv_at hl 2 rfl) ?_
      refine lv_aload_n hx hb dPL_findBatchOfRow_3 rfl (lv_at hl 0 rfl) ?_
      obtain ⟨v1, hv, h⟩ := h
      refine xw_getR (C := RPL) (T := TPL) (N := 4) (ref := RPL) hx hb hts inPL hown hK hw rfl 1 (by decide) (hts _ mw_16) (fun _ h9 => h9) hv dPL_findBatchOfRow_4 ?_
      obtain ⟨a2, rfl, h⟩ := h
      obtain ⟨⟨fs, hk⟩, h⟩ := h
      have hcall := h
      clear h
      refine xw_calli (va_runV (As := []) (rest := [.int x2]) ⟨hx, hb, hml, hown, hts⟩ (c_AL_size l D E A _ w a2 hcall) (cwV 0 hts (xG_V mw_78 mw_79 mw_80 mw_19 mw_81) rfl rfl rfl (by decide +kernel) ⟨(Nat.le_of_ble_eq_true rfl), (Nat.le_of_ble_eq_true rfl)⟩) (xw_preV (ci := 0) hw hK hE rfl hk) rfl rfl hl.1 rfl (lv_room (by first | exact Nat.le_of_ble_eq_true rfl | simp [va_rf_cat, xcat_i, xcat_l, xcat_r, xcat_n])) dPL_findBatchOfRow_7 ⟨(Nat.le_of_ble_eq_true rfl), (Nat.le_of_ble_eq_true rfl)⟩) hw (fun r3 w4 H locs h hw => ?_)
      clear hcall
      refine lv_icmp_ge (tgt := 51) hx hb dPL_findBatchOfRow_10 rfl (fun hc => ?_) (fun hc => ?_)
      · replace h := h.1 hc
        refine lv_null hx hb dPL_findBatchOfRow_51 ?_
        refine W.widen (k := 0) (n := 0) (Nat.le_of_ble_eq_true rfl) (Nat.le_of_ble_eq_true rfl) ?_
        exact xw_aret (r := none) (Or.inl ⟨_, rfl⟩) hx hb hr hlocks hw h dPL_findBatchOfRow_52
      · replace h := h.2 hc
        refine lv_aload_n hx hb dPL_findBatchOfRow_13 rfl (lv_at hl 0 rfl) ?_
        obtain ⟨v5, hv, h⟩ := h
        refine xw_getR (C := RPL) (T := TPL) (N := 4) (ref := RPL) hx hb hts inPL hown hK hw rfl 1 (by decide) (hts _ mw_16) (fun _ h9 => h9) hv dPL_findBatchOfRow_14 ?_
        refine lv_iload_n hx hb dPL_findBatchOfRow_17 rfl (lv_at hl 2 rfl) ?_
        obtain ⟨a6, rfl, h⟩ := h
        obtain ⟨⟨fs, hk⟩, h⟩ := h
        have hcall := h
        clear h
        refine xw_callq (va_runV (As := [.int x2]) (rest := []) ⟨hx, hb, hml, hown, hts⟩ (c_AL_get l D E A _ w4 a6 x2 hcall) (cwV 1 hts (xG_V mw_138 mw_139 mw_140 mw_19 mw_141) rfl rfl rfl (by decide +kernel) ⟨(Nat.le_of_ble_eq_true rfl), (Nat.le_of_ble_eq_true rfl)⟩) (xw_preV (ci := 0) hw hK hE rfl hk) rfl rfl hl.1 rfl (lv_room (by first | exact Nat.le_of_ble_eq_true rfl | simp [va_rf_cat, xcat_i, xcat_l, xcat_r, xcat_n])) dPL_findBatchOfRow_18 ⟨(Nat.le_of_ble_eq_true rfl), (Nat.le_of_ble_eq_true rfl)⟩) hw (fun r7 w8 H locs h hw => ?_)
        clear hcall
        obtain ⟨a9, rfl, h⟩ := h
        obtain ⟨⟨fs, hk⟩, h⟩ := h
        refine va_castS hx hb hown (hts _ mw_112) (hK.1 2 _ rfl).2 (xw_recv hK hw (ci := 2) rfl hk) dPL_findBatchOfRow_21 ?_
        refine lv_astore_n (i := 3) (lv' := [(3, .ref a9), (0, .ref x0), (1, .int x1), (2, .int x2)]) hx hb dPL_findBatchOfRow_24 rfl hl (by decide) (by first | rfl | simp [va_rf_cat, xcat_i, xcat_l, xcat_r, xcat_n]) (fun ls hl => ?_)
        refine lv_aload_n hx hb dPL_findBatchOfRow_25 rfl (lv_at hl 0 rfl) ?_
        obtain ⟨v10, hv, h⟩ := h
        refine xw_getR (C := RBA) (T := TBA) (N := 6) (ref := RBA) hx hb hts inBA hown hK hw rfl 2 (by decide) (hts _ mw_188) (fun _ h9 => h9) hv dPL_findBatchOfRow_26 ?_
        refine va_gets hx hb hE.2.2.1.2.1 hw.2.1 hown (hts _ mw_187) (fun _ h9 => h9) dPL_findBatchOfRow_29 ?_
        refine lv_acmp_ne (rx := v10) (ry := (some (E.2 1))) (tgt := 45) hx hb dPL_findBatchOfRow_32 rfl (fun hc => ?_) (fun hc => ?_)
        · replace h := h.1 hc
          refine lv_iinc (k := 3) (v := x2 + 1) (lv' := [(2, .int (x2 + 1)), (3, .ref a9), (0, .ref x0), (1, .int x1)]) hx hb dPL_findBatchOfRow_45 hl rfl rfl (by decide) (by first | rfl | simp [va_rf_cat, xcat_i, xcat_l, xcat_r, xcat_n]) (fun ls hl => ?_)
          refine lv_goto (tgt := 2) hx hb dPL_findBatchOfRow_48 rfl ?_
          exact ih2 _ x0 x1 (x2 + 1) _ _ _ (lv_sub hl [2, 3, 0] rfl) hw h
        · replace h := h.2 hc
          refine lv_aload_n hx hb dPL_findBatchOfRow_35 rfl (lv_at hl 0 rfl) ?_
          refine lv_iload_n hx hb dPL_findBatchOfRow_36 rfl (lv_at hl 2 rfl) ?_
          obtain ⟨⟨fs, hk⟩, h⟩ := h
          have hcall := h
          clear h
          refine xw_calli (va_runV (As := [.int x1]) (rest := []) ⟨hx, hb, hml, hown, hts⟩ (c_BA_hasRowNumber l D E A _ w8 a9 x1 hcall) (cwV 1 hts (xG_V mw_191 mw_192 mw_193 mw_110 mw_194) rfl rfl rfl (by decide +kernel) ⟨(Nat.le_of_ble_eq_true rfl), (Nat.le_of_ble_eq_true rfl)⟩) (xw_preV (ci := 2) hw hK hE rfl hk) rfl rfl hl.1 rfl (lv_room (by first | exact Nat.le_of_ble_eq_true rfl | simp [va_rf_cat, xcat_i, xcat_l, xcat_r, xcat_n])) dPL_findBatchOfRow_37 ⟨(Nat.le_of_ble_eq_true rfl), (Nat.le_of_ble_eq_true rfl)⟩) hw (fun r11 w12 H locs h hw => ?_)
          clear hcall
          refine lv_if_eq (tgt := 45) hx hb dPL_findBatchOfRow_40 rfl (fun hc => ?_) (fun hc => ?_)
          · replace h := h.1 hc
            refine lv_iinc (k := 3) (v := x2 + 1) (lv' := [(2, .int (x2 + 1)), (3, .ref a9), (0, .ref x0), (1, .int x1)]) hx hb dPL_findBatchOfRow_45 hl rfl rfl (by decide) (by first | rfl | simp [va_rf_cat, xcat_i, xcat_l, xcat_r, xcat_n]) (fun ls hl => ?_)
            refine lv_goto (tgt := 2) hx hb dPL_findBatchOfRow_48 rfl ?_
            exact ih2 _ x0 x1 (x2 + 1) _ _ _ (lv_sub hl [2, 3, 0] rfl) hw h
          · replace h := h.2 hc
            refine lv_aload_n hx hb dPL_findBatchOfRow_43 rfl (lv_at hl 0 rfl) ?_
            refine W.widen (k := 0) (n := 0) (Nat.le_of_ble_eq_true rfl) (Nat.le_of_ble_eq_true rfl) ?_
            exact xw_aret (r := (some a9)) (Or.inl ⟨_, rfl⟩) hx hb hr hlocks hw h dPL_findBatchOfRow_44
  refine xl_start (lvs := [(0, .ref h0), (1, .int p0)]) (by first | exact Nat.le_of_ble_eq_true rfl | simp [lg_sl, va_rf_cat, xcat_i, xcat_l, xcat_r, xcat_n]) (by first | rfl | simp [lv_args, va_rf_cat, xcat_i, xcat_l, xcat_r, xcat_n]) (fun ls hl => ?_)
  unfold wp_PL_findBatchOfRow at h
  refine lv_iconst (v := 0) hx hb dPL_findBatchOfRow_0 (by decide) ?_
  refine lv_istore_n (i := 2) (lv' := [(2, .int 0), (0, .ref h0), (1, .int p0)]) hx hb dPL_findBatchOfRow_1 rfl hl (by decide) (by first | rfl | simp [va_rf_cat, xcat_i, xcat_l, xcat_r, xcat_n]) (fun ls hl => ?_)
  obtain ⟨n2, h⟩ := h
  refine W.widen (k := 0) (n := 0) (Nat.le_of_ble_eq_true rfl) (Nat.le_of_ble_eq_true rfl) ?_
  exact lo_2 n2 _ h0 p0 0 _ _ _ (lv_sub hl [1, 2, 0] rfl) hw h
def wl_BA_addRowsWithOtherSign_10 (E : xE_T) (post : xw_T → Prop) : Nat → xw_T → Nat → Nat → Option Nat → Int32 → Int32 → Prop
  | 0 => fun _ _ _ _ _ _ => False
  | n10 + 1 => fun w k x0 x1 x2 x3 => k ≤ 12 ∧ ((x2 ≤ x3 → (post w)) ∧ (¬ x2 ≤ x3 → (∃ a1 : Nat, x1 = some a1 ∧ (∃ v2, xgR w a1 2 1 = some v2 ∧ (∃ a3 : Nat, v2 = some a3 ∧ ((∃ fs, w a3 = some (.inr (0, fs))) ∧ wp_AL_get E (fun r4 w5 => ∃ a6 : Nat, r4 = some a6 ∧ ((∃ fs, w5 a6 = some (.inr (3, fs))) ∧ (∃ v7, xgR w5 a6 3 0 = some v7 ∧ (∃ v8, xgL w5 a6 3 1 = some v8 ∧ (k < 12 ∧ ((∃ fs, w5 x0 = some (.inr (2, fs))) ∧ wp_BA_addRow E (fun w10 => wl_BA_addRowsWithOtherSign_10 E post n10 w10 (k + 1) x0 (some a1) x2 (x3 + 1)) w5 x0 v7 (-v8))))))) w a3 x3))))))
def wp_BA_addRowsWithOtherSign (E : xE_T) (post : xw_T → Prop) (w : xw_T) (h0 : Nat) (p0 : Option Nat) : Prop := ∃ a11 : Nat, p0 = some a11 ∧ (∃ v12, xgR w a11 2 1 = some v12 ∧ (∃ a13 : Nat, v12 = some a13 ∧ ((∃ fs, w a13 = some (.inr (0, fs))) ∧ wp_AL_size E (fun r14 w15 => ∃ n10, wl_BA_addRowsWithOtherSign_10 E post n10 w15 0 h0 (some a11) r14 0) w a13)))
set_option maxHeartbeats 4000000 in
set_option maxRecDepth 100000 in
theorem c_BA_addRowsWithOtherSign (l : Launch) (D : va_G) (E : xE_T) (A : Nat → Prop) (post : xw_T → Prop) (w : xw_T) (h0 : Nat) (p0 : Option Nat) (h : wp_BA_addRowsWithOtherSign E post w h0 p0) : Met l yBA_addRowsWithOtherSign (xW yBA_addRowsWithOtherSign cBA_addRowsWithOtherSign 5 none) ({ frames := 8, cells := 24, slots := 4416, locals := 172 } : Room) (va_Pc [.ref h0, va_rf p0] (xP D E A w)) (va_Qv post (xB D A) A) 24 4416 A := by
  refine Met.ofW (cc := cBA_addRowsWithOtherSign) (maxL := 5) (ret := none) (by decide) rfl ?_
  intro p e s m args below meth c s₁ B hml hv
  obtain ⟨rfl, hw, hK, hE⟩ := hv
  have hx := B.exec
  have hb := B.bytes
  have hr := B.returns
  have hts : ∀ w ∈ xTB, w.before _ s = true := fun w hw => atoms_spec (ws := xW yBA_addRowsWithOtherSign cBA_addRowsWithOtherSign 5 none) B.pre w (List.mem_cons_of_mem _ hw)
  have hown : s.vm.findClass RBA = some m.cls := findClass_of_methodNamed B.named
  have hlocks := B.notSynchronized
  have hw : xw_S D vwCl A s.heap w s.heap [] := xw_S0 hw
  have lo_10 : ∀ (n10 : Nat) (w : xw_T) (k : Nat) (x0 : Nat) (x1 : Option Nat) (x2 : Int32) (x3 : Int32) (H : Heap) (locs : List Loc) (ls : Array Slot), lv_has ls 5 [(0, .ref x0), (1, va_rf x1), (2, .int x2), (3, .int x3)] → xw_S D vwCl A s.heap w H locs → wl_BA_addRowsWithOtherSign_10 E post n10 w k x0 x1 x2 x3 → W p l e (headSpec (xW yBA_addRowsWithOtherSign cBA_addRowsWithOtherSign 5 none) ({ frames := 8, cells := 24, slots := 4416, locals := 172 } : Room)).room s m ([.ref h0, va_rf p0] : List Value).toArray below meth c H locs (2 * k) (368 * k) (MQ below (va_Qv post (xB D A) A) ([.ref h0, va_rf p0] : List Value).toArray s 24 4416 A) (F0 m 10 ls []) := by
    intro n10
    induction n10 with
    | zero => intro w k x0 x1 x2 x3 H locs ls hl hw h; exact h.elim
    | succ n10 ih10 =>
      intro w k x0 x1 x2 x3 H locs ls hl hw h
      dsimp only [wl_BA_addRowsWithOtherSign_10] at h
      obtain ⟨hkk, h⟩ := h
      refine lv_iload_n hx hb dBA_addRowsWithOtherSign_10 rfl (lv_at hl 3 rfl) ?_
      refine lv_iload_n hx hb dBA_addRowsWithOtherSign_11 rfl (lv_at hl 2 rfl) ?_
      refine lv_icmp_ge (tgt := 49) hx hb dBA_addRowsWithOtherSign_12 rfl (fun hc => ?_) (fun hc => ?_)
      · replace h := h.1 hc
        refine W.widen (k := 24) (n := 4416) (Nat.mul_le_mul_left _ hkk) (Nat.mul_le_mul_left _ hkk) ?_
        exact xw_vret hx hb hr hlocks hw h dBA_addRowsWithOtherSign_49
      · replace h := h.2 hc
        refine xl_aload_n hx hb dBA_addRowsWithOtherSign_15 rfl (lv_at hl 1 rfl) ?_
        obtain ⟨a1, rfl, h⟩ := h
        obtain ⟨v2, hv, h⟩ := h
        refine xw_getR (C := RBA) (T := TBA) (N := 6) (ref := RBA) hx hb hts inBA hown hK hw rfl 1 (by decide) (hts _ mw_103) (fun _ h9 => h9) hv dBA_addRowsWithOtherSign_16 ?_
        refine lv_iload_n hx hb dBA_addRowsWithOtherSign_19 rfl (lv_at hl 3 rfl) ?_
        obtain ⟨a3, rfl, h⟩ := h
        obtain ⟨⟨fs, hk⟩, h⟩ := h
        have hcall := h
        clear h
        refine xw_callq (va_runV (As := [.int x3]) (rest := []) ⟨hx, hb, hml, hown, hts⟩ (c_AL_get l D E A _ w a3 x3 hcall) (cwV 1 hts (xG_V mw_177 mw_139 mw_140 mw_19 mw_141) rfl rfl rfl (by decide +kernel) ⟨(Nat.le_of_ble_eq_true rfl), (Nat.le_of_ble_eq_true rfl)⟩) (xw_preV (ci := 0) hw hK hE rfl hk) rfl rfl hl.1 rfl (lv_room (by first | exact Nat.le_of_ble_eq_true rfl | simp [va_rf_cat, xcat_i, xcat_l, xcat_r, xcat_n])) dBA_addRowsWithOtherSign_20 ⟨Nat.le_trans (Nat.mul_le_mul_left _ hkk) (Nat.le_of_ble_eq_true rfl), Nat.le_trans (Nat.mul_le_mul_left _ hkk) (Nat.le_of_ble_eq_true rfl)⟩) hw (fun r4 w5 H locs h hw => ?_)
        clear hcall
        obtain ⟨a6, rfl, h⟩ := h
        obtain ⟨⟨fs, hk⟩, h⟩ := h
        refine va_castS hx hb hown (hts _ mw_151) (hK.1 3 _ rfl).2 (xw_recv hK hw (ci := 3) rfl hk) dBA_addRowsWithOtherSign_23 ?_
        refine lv_astore (i := 4) (lv' := [(4, .ref a6), (0, .ref x0), (1, .ref a1), (2, .int x2), (3, .int x3)]) hx hb dBA_addRowsWithOtherSign_26 hl (by decide) (by first | rfl | simp [va_rf_cat, xcat_i, xcat_l, xcat_r, xcat_n]) (fun ls hl => ?_)
        refine lv_aload_n hx hb dBA_addRowsWithOtherSign_28 rfl (lv_at hl 1 rfl) ?_
        refine lv_aload hx hb dBA_addRowsWithOtherSign_29 (lv_at hl 0 rfl) ?_
        obtain ⟨v7, hv, h⟩ := h
        refine xw_getR (C := RRW) (T := TRW) (N := 2) (ref := RRW) hx hb hts inRW hown hK hw rfl 0 (by decide) (hts _ mw_176) (fun _ h9 => h9) hv dBA_addRowsWithOtherSign_31 ?_
        refine lv_aload hx hb dBA_addRowsWithOtherSign_34 (lv_at hl 0 rfl) ?_
        obtain ⟨v8, hv, h⟩ := h
        refine xw_getL (C := RRW) (T := TRW) (N := 2) (ref := RRW) hx hb hts inRW hown hK hw rfl 1 (by decide) (hts _ mw_175) (fun _ h9 => h9) hv dBA_addRowsWithOtherSign_36 ?_
        refine lv_lneg hx hb dBA_addRowsWithOtherSign_39 ?_
        obtain ⟨hk12, h⟩ := h
        obtain ⟨⟨fs, hk⟩, h⟩ := h
        have hcall := h
        clear h
        refine xw_callv (va_runV (As := [va_rf v7, .long (-v8)]) (rest := []) ⟨hx, hb, hml, hown, hts⟩ (c_BA_addRow l D E A _ w5 x0 v7 (-v8) hcall) (cwV 2 hts (xG_V mw_195 mw_154 mw_155 mw_110 mw_156) rfl rfl rfl (by decide +kernel) ⟨(Nat.le_of_ble_eq_true rfl), (Nat.le_of_ble_eq_true rfl)⟩) (xw_preV (ci := 2) hw hK hE rfl hk) rfl rfl hl.1 rfl (lv_room (by first | exact Nat.le_of_ble_eq_true rfl | simp [va_rf_cat, xcat_i, xcat_l, xcat_r, xcat_n])) dBA_addRowsWithOtherSign_40 ⟨Nat.mul_le_mul_left 2 hk12, Nat.mul_le_mul_left 368 hk12⟩) hw (fun w10 H locs h hw => ?_)
        clear hcall
        refine lv_iinc (k := 4) (v := x3 + 1) (lv' := [(3, .int (x3 + 1)), (4, .ref a6), (0, .ref x0), (1, .ref a1), (2, .int x2)]) hx hb dBA_addRowsWithOtherSign_43 hl rfl rfl (by decide) (by first | rfl | simp [va_rf_cat, xcat_i, xcat_l, xcat_r, xcat_n]) (fun ls hl => ?_)
        refine lv_goto (tgt := 10) hx hb dBA_addRowsWithOtherSign_46 rfl ?_
        refine W.widen (k := 2 * (k + 1)) (n := 368 * (k + 1)) (by omega) (by omega) ?_
        exact ih10 _ (k + 1) x0 (some a1) x2 (x3 + 1) _ _ _ (lv_sub hl [2, 3, 4, 0] rfl) hw h
  refine xl_start (lvs := [(0, .ref h0), (1, va_rf p0)]) (by first | exact Nat.le_of_ble_eq_true rfl | simp [lg_sl, va_rf_cat, xcat_i, xcat_l, xcat_r, xcat_n]) (by first | rfl | simp [lv_args, va_rf_cat, xcat_i, xcat_l, xcat_r, xcat_n]) (fun ls hl => ?_)
  unfold wp_BA_addRowsWithOtherSign at h
  refine xl_aload_n hx hb dBA_addRowsWithOtherSign_0 rfl (lv_at hl 1 rfl) ?_
  obtain ⟨a11, rfl, h⟩ := h
  obtain ⟨v12, hv, h⟩ := h
  refine xw_getR (C := RBA) (T := TBA) (N := 6) (ref := RBA) hx hb hts inBA hown hK hw rfl 1 (by decide) (hts _ mw_103) (fun _ h9 => h9) hv dBA_addRowsWithOtherSign_1 ?_
  obtain ⟨a13, rfl, h⟩ := h
  obtain ⟨⟨fs, hk⟩, h⟩ := h
  have hcall := h
  clear h
  refine xw_calli (va_runV (As := []) (rest := []) ⟨hx, hb, hml, hown, hts⟩ (c_AL_size l D E A _ w a13 hcall) (cwV 0 hts (xG_V mw_142 mw_79 mw_80 mw_19 mw_81) rfl rfl rfl (by decide +kernel) ⟨(Nat.le_of_ble_eq_true rfl), (Nat.le_of_ble_eq_true rfl)⟩) (xw_preV (ci := 0) hw hK hE rfl hk) rfl rfl hl.1 rfl (lv_room (by first | exact Nat.le_of_ble_eq_true rfl | simp [va_rf_cat, xcat_i, xcat_l, xcat_r, xcat_n])) dBA_addRowsWithOtherSign_4 ⟨(Nat.le_of_ble_eq_true rfl), (Nat.le_of_ble_eq_true rfl)⟩) hw (fun r14 w15 H locs h hw => ?_)
  clear hcall
  refine lv_istore_n (i := 2) (lv' := [(2, .int r14), (0, .ref h0), (1, .ref a11)]) hx hb dBA_addRowsWithOtherSign_7 rfl hl (by decide) (by first | rfl | simp [va_rf_cat, xcat_i, xcat_l, xcat_r, xcat_n]) (fun ls hl => ?_)
  refine lv_iconst (v := 0) hx hb dBA_addRowsWithOtherSign_8 (by decide) ?_
  refine lv_istore_n (i := 3) (lv' := [(3, .int 0), (2, .int r14), (0, .ref h0), (1, .ref a11)]) hx hb dBA_addRowsWithOtherSign_9 rfl hl (by decide) (by first | rfl | simp [va_rf_cat, xcat_i, xcat_l, xcat_r, xcat_n]) (fun ls hl => ?_)
  obtain ⟨n10, h⟩ := h
  refine W.widen (k := 2 * 0) (n := 368 * 0) (Nat.le_of_ble_eq_true rfl) (Nat.le_of_ble_eq_true rfl) ?_
  exact lo_10 n10 _ 0 h0 (some a11) r14 0 _ _ _ (lv_sub hl [2, 3, 1, 0] rfl) hw h
def wl_BA_addToTotals_2 (E : xE_T) (post : xw_T → Prop) : Nat → xw_T → Nat → Int32 → Prop
  | 0 => fun _ _ _ => False
  | n2 + 1 => fun w x0 x1 => ∃ v1, xgR w x0 2 1 = some v1 ∧ (∃ a2 : Nat, v1 = some a2 ∧ ((∃ fs, w a2 = some (.inr (0, fs))) ∧ wp_AL_size E (fun r3 w4 => (r3 ≤ x1 → (post w4)) ∧ (¬ r3 ≤ x1 → (∃ v5, xgR w4 x0 2 1 = some v5 ∧ (∃ a6 : Nat, v5 = some a6 ∧ ((∃ fs, w4 a6 = some (.inr (0, fs))) ∧ wp_AL_get E (fun r7 w8 => ∃ a9 : Nat, r7 = some a9 ∧ ((∃ fs, w8 a9 = some (.inr (3, fs))) ∧ (∃ v10, xgR w8 a9 3 0 = some v10 ∧ (∃ a11 : Nat, v10 = some a11 ∧ (∃ v12, xgL w8 a11 1 3 = some v12 ∧ (∃ v13, xgL w8 a9 3 1 = some v13 ∧ ((∃ v0, xg w8 a11 1 3 = some v0) ∧ ∀ w14, w14 = xp w8 a11 3 (.long (v12 + v13)) → (wl_BA_addToTotals_2 E post n2 w14 x0 (x1 + 1))))))))) w4 a6 x1))))) w a2))
def wp_BA_addToTotals (E : xE_T) (post : xw_T → Prop) (w : xw_T) (h0 : Nat) : Prop := ∃ n2, wl_BA_addToTotals_2 E post n2 w h0 0
set_option maxHeartbeats 4000000 in
set_option maxRecDepth 100000 in
theorem c_BA_addToTotals (l : Launch) (D : va_G) (E : xE_T) (A : Nat → Prop) (post : xw_T → Prop) (w : xw_T) (h0 : Nat) (h : wp_BA_addToTotals E post w h0) : Met l yBA_addToTotals (xW yBA_addToTotals cBA_addToTotals 3 none) ({ frames := 3, cells := 0, slots := 0, locals := 64 } : Room) (va_Pc [.ref h0] (xP D E A w)) (va_Qv post (xB D A) A) 0 0 A := by
  refine Met.ofW (cc := cBA_addToTotals) (maxL := 3) (ret := none) (by decide) rfl ?_
  intro p e s m args below meth c s₁ B hml hv
  obtain ⟨rfl, hw, hK, hE⟩ := hv
  have hx := B.exec
  have hb := B.bytes
  have hr := B.returns
  have hts : ∀ w ∈ xTB, w.before _ s = true := fun w hw => atoms_spec (ws := xW yBA_addToTotals cBA_addToTotals 3 none) B.pre w (List.mem_cons_of_mem _ hw)
  have hown : s.vm.findClass RBA = some m.cls := findClass_of_methodNamed B.named
  have hlocks := B.notSynchronized
  have hw : xw_S D vwCl A s.heap w s.heap [] := xw_S0 hw
  have lo_2 : ∀ (n2 : Nat) (w : xw_T) (x0 : Nat) (x1 : Int32) (H : Heap) (locs : List Loc) (ls : Array Slot), lv_has ls 3 [(0, .ref x0), (1, .int x1)] → xw_S D vwCl A s.heap w H locs → wl_BA_addToTotals_2 E post n2 w x0 x1 → W p l e (headSpec (xW yBA_addToTotals cBA_addToTotals 3 none) ({ frames := 3, cells := 0, slots := 0, locals := 64 } : Room)).room s m ([.ref h0] : List Value).toArray below meth c H locs 0 0 (MQ below (va_Qv post (xB D A) A) ([.ref h0] : List Value).toArray s 0 0 A) (F0 m 2 ls []) := by
    intro n2
    induction n2 with
    | zero => intro w x0 x1 H locs ls hl hw h; exact h.elim
    | succ n2 ih2 =>
      intro w x0 x1 H locs ls hl hw h
      dsimp only [wl_BA_addToTotals_2] at h
      refine lv_iload_n hx hb dBA_addToTotals_2 rfl (lv_at hl 1 rfl) ?_
      refine lv_aload_n hx hb dBA_addToTotals_3 rfl (lv_at hl 0 rfl) ?_
      obtain ⟨v1, hv, h⟩ := h
      refine xw_getR (C := RBA) (T := TBA) (N := 6) (ref := RBA) hx hb hts inBA hown hK hw rfl 1 (by decide) (hts _ mw_103) (fun _ h9 => h9) hv dBA_addToTotals_4 ?_
      obtain ⟨a2, rfl, h⟩ := h
      obtain ⟨⟨fs, hk⟩, h⟩ := h
      have hcall := h
      clear h
      refine xw_calli (va_runV (As := []) (rest := [.int x1]) ⟨hx, hb, hml, hown, hts⟩ (c_AL_size l D E A _ w a2 hcall) (cwV 0 hts (xG_V mw_142 mw_79 mw_80 mw_19 mw_81) rfl rfl rfl (by decide +kernel) ⟨(Nat.le_of_ble_eq_true rfl), (Nat.le_of_ble_eq_true rfl)⟩) (xw_preV (ci := 0) hw hK hE rfl hk) rfl rfl hl.1 rfl (lv_room (by first | exact Nat.le_of_ble_eq_true rfl | simp [va_rf_cat, xcat_i, xcat_l, xcat_r, xcat_n])) dBA_addToTotals_7 ⟨(Nat.le_of_ble_eq_true rfl), (Nat.le_of_ble_eq_true rfl)⟩) hw (fun r3 w4 H locs h hw => ?_)
      clear hcall
      refine lv_icmp_ge (tgt := 47) hx hb dBA_addToTotals_10 rfl (fun hc => ?_) (fun hc => ?_)
      · replace h := h.1 hc
        refine W.widen (k := 0) (n := 0) (Nat.le_of_ble_eq_true rfl) (Nat.le_of_ble_eq_true rfl) ?_
        exact xw_vret hx hb hr hlocks hw h dBA_addToTotals_47
      · replace h := h.2 hc
        refine lv_aload_n hx hb dBA_addToTotals_13 rfl (lv_at hl 0 rfl) ?_
        obtain ⟨v5, hv, h⟩ := h
        refine xw_getR (C := RBA) (T := TBA) (N := 6) (ref := RBA) hx hb hts inBA hown hK hw rfl 1 (by decide) (hts _ mw_103) (fun _ h9 => h9) hv dBA_addToTotals_14 ?_
        refine lv_iload_n hx hb dBA_addToTotals_17 rfl (lv_at hl 1 rfl) ?_
        obtain ⟨a6, rfl, h⟩ := h
        obtain ⟨⟨fs, hk⟩, h⟩ := h
        have hcall := h
        clear h
        refine xw_callq (va_runV (As := [.int x1]) (rest := []) ⟨hx, hb, hml, hown, hts⟩ (c_AL_get l D E A _ w4 a6 x1 hcall) (cwV 1 hts (xG_V mw_177 mw_139 mw_140 mw_19 mw_141) rfl rfl rfl (by decide +kernel) ⟨(Nat.le_of_ble_eq_true rfl), (Nat.le_of_ble_eq_true rfl)⟩) (xw_preV (ci := 0) hw hK hE rfl hk) rfl rfl hl.1 rfl (lv_room (by first | exact Nat.le_of_ble_eq_true rfl | simp [va_rf_cat, xcat_i, xcat_l, xcat_r, xcat_n])) dBA_addToTotals_18 ⟨(Nat.le_of_ble_eq_true rfl), (Nat.le_of_ble_eq_true rfl)⟩) hw (fun r7 w8 H locs h hw => ?_)
        clear hcall
        obtain ⟨a9, rfl, h⟩ := h
        obtain ⟨⟨fs, hk⟩, h⟩ := h
        refine va_castS hx hb hown (hts _ mw_151) (hK.1 3 _ rfl).2 (xw_recv hK hw (ci := 3) rfl hk) dBA_addToTotals_21 ?_
        refine lv_astore_n (i := 2) (lv' := [(2, .ref a9), (0, .ref x0), (1, .int x1)]) hx hb dBA_addToTotals_24 rfl hl (by decide) (by first | rfl | simp [va_rf_cat, xcat_i, xcat_l, xcat_r, xcat_n]) (fun ls hl => ?_)
        refine lv_aload_n hx hb dBA_addToTotals_25 rfl (lv_at hl 0 rfl) ?_
        obtain ⟨v10, hv, h⟩ := h
        refine xw_getR (C := RRW) (T := TRW) (N := 2) (ref := RRW) hx hb hts inRW hown hK hw rfl 0 (by decide) (hts _ mw_176) (fun _ h9 => h9) hv dBA_addToTotals_26 ?_
        refine lv_dup hx hb dBA_addToTotals_29 (va_rf_cat _) ?_
        obtain ⟨a11, rfl, h⟩ := h
        obtain ⟨v12, hv, h⟩ := h
        refine xw_getL (C := RAC) (T := TAC) (N := 4) (ref := RAC) hx hb hts inAC hown hK hw rfl 3 (by decide) (hts _ mw_196) (fun _ h9 => h9) hv dBA_addToTotals_30 ?_
        refine lv_aload_n hx hb dBA_addToTotals_33 rfl (lv_at hl 0 rfl) ?_
        obtain ⟨v13, hv, h⟩ := h
        refine xw_getL (C := RRW) (T := TRW) (N := 2) (ref := RRW) hx hb hts inRW hown hK hw rfl 1 (by decide) (hts _ mw_175) (fun _ h9 => h9) hv dBA_addToTotals_34 ?_
        refine lv_ladd hx hb dBA_addToTotals_37 ?_
        obtain ⟨hv, h⟩ := h
        refine xw_put (ty := (.long)) (C := RAC) (T := TAC) (N := 4) (ref := RAC) hx hb hts inAC tyAC tyAC_ok nmAC hown hK hw rfl 3 (by decide) (hts _ mw_196) (fun _ h9 => h9) rfl (by decide +kernel) rfl rfl hv dBA_addToTotals_38 (fun H locs hw => ?_)
        replace h := h _ rfl
        generalize xp w8 a11 3 (.long (v12 + v13)) = w14 at hw h
        refine lv_iinc (k := 2) (v := x1 + 1) (lv' := [(1, .int (x1 + 1)), (2, .ref a9), (0, .ref x0)]) hx hb dBA_addToTotals_41 hl rfl rfl (by decide) (by first | rfl | simp [va_rf_cat, xcat_i, xcat_l, xcat_r, xcat_n]) (fun ls hl => ?_)
        refine lv_goto (tgt := 2) hx hb dBA_addToTotals_44 rfl ?_
        exact ih2 _ x0 (x1 + 1) _ _ _ (lv_sub hl [2, 0] rfl) hw h
  refine xl_start (lvs := [(0, .ref h0)]) (by first | exact Nat.le_of_ble_eq_true rfl | simp [lg_sl, va_rf_cat, xcat_i, xcat_l, xcat_r, xcat_n]) (by first | rfl | simp [lv_args, va_rf_cat, xcat_i, xcat_l, xcat_r, xcat_n]) (fun ls hl => ?_)
  unfold wp_BA_addToTotals at h
  refine lv_iconst (v := 0) hx hb dBA_addToTotals_0 (by decide) ?_
  refine lv_istore_n (i := 1) (lv' := [(1, .int 0), (0, .ref h0)]) hx hb dBA_addToTotals_1 rfl hl (by decide) (by first | rfl | simp [va_rf_cat, xcat_i, xcat_l, xcat_r, xcat_n]) (fun ls hl => ?_)
  obtain ⟨n2, h⟩ := h
  refine W.widen (k := 0) (n := 0) (Nat.le_of_ble_eq_true rfl) (Nat.le_of_ble_eq_true rfl) ?_
  exact lo_2 n2 _ h0 0 _ _ _ (lv_sub hl [1, 0] rfl) hw h
def wp_PL_enterIntoBooks (E : xE_T) (post : xw_T → Prop) (w : xw_T) (h0 : Nat) (p0 : Option Nat) : Prop := ∃ a1 : Nat, p0 = some a1 ∧ ((∃ v0, xg w a1 2 2 = some v0) ∧ ∀ w2, w2 = xp w a1 2 (.ref (E.2 1)) → (∃ v3, xgI w2 h0 4 3 = some v3 ∧ ((∃ v0, xg w2 a1 2 5 = some v0) ∧ ∀ w4, w4 = xp w2 a1 5 (.int (v3 + 1)) → (∃ v5, xgI w4 h0 4 3 = some v5 ∧ ((∃ fs, w4 a1 = some (.inr (2, fs))) ∧ wp_BA_size E (fun r6 w7 => (∃ v0, xg w7 h0 4 3 = some v0) ∧ ∀ w8, w8 = xp w7 h0 3 (.int (v5 + r6)) → ((∃ fs, w8 a1 = some (.inr (2, fs))) ∧ wp_BA_addToTotals E (fun w10 => post w10) w8 a1)) w4 a1)))))
set_option maxHeartbeats 4000000 in
set_option maxRecDepth 100000 in
theorem c_PL_enterIntoBooks (l : Launch) (D : va_G) (E : xE_T) (A : Nat → Prop) (post : xw_T → Prop) (w : xw_T) (h0 : Nat) (p0 : Option Nat) (h : wp_PL_enterIntoBooks E post w h0 p0) : Met l yPL_enterIntoBooks (xW yPL_enterIntoBooks cPL_enterIntoBooks 2 none) ({ frames := 4, cells := 0, slots := 0, locals := 86 } : Room) (va_Pc [.ref h0, va_rf p0] (xP D E A w)) (va_Qv post (xB D A) A) 0 0 A := by
  refine Met.ofW (cc := cPL_enterIntoBooks) (maxL := 2) (ret := none) (by decide) rfl ?_
  intro p e s m args below meth c s₁ B hml hv
  obtain ⟨rfl, hw, hK, hE⟩ := hv
  have hx := B.exec
  have hb := B.bytes
  have hr := B.returns
  have hts : ∀ w ∈ xTB, w.before _ s = true := fun w hw => atoms_spec (ws := xW yPL_enterIntoBooks cPL_enterIntoBooks 2 none) B.pre w (List.mem_cons_of_mem _ hw)
  have hown : s.vm.findClass RPL = some m.cls := findClass_of_methodNamed B.named
  have hlocks := B.notSynchronized
  have hw : xw_S D vwCl A s.heap w s.heap [] := xw_S0 hw
  refine xl_start (lvs := [(0, .ref h0), (1, va_rf p0)]) (by first | exact Nat.le_of_ble_eq_true rfl | simp [lg_sl, va_rf_cat, xcat_i, xcat_l, xcat_r, xcat_n]) (by first | rfl | simp [lv_args, va_rf_cat, xcat_i, xcat_l, xcat_r, xcat_n]) (fun ls hl => ?_)
  unfold wp_PL_enterIntoBooks at h
  refine xl_aload_n hx hb dPL_enterIntoBooks_0 rfl (lv_at hl 1 rfl) ?_
  refine va_gets hx hb hE.2.2.1.2.1 hw.2.1 hown (hts _ mw_187) (fun _ h9 => h9) dPL_enterIntoBooks_1 ?_
  obtain ⟨a1, rfl, h⟩ := h
  obtain ⟨hv, h⟩ := h
  refine xw_put (ty := (.object "PostLedger$Standing")) (C := RBA) (T := TBA) (N := 6) (ref := RBA) hx hb hts inBA tyBA tyBA_ok nmBA hown hK hw rfl 2 (by decide) (hts _ mw_188) (fun _ h9 => h9) rfl (by decide +kernel) rfl rfl hv dPL_enterIntoBooks_4 (fun H locs hw => ?_)
  replace h := h _ rfl
  generalize xp w a1 2 (.ref (E.2 1)) = w2 at hw h
  refine lv_aload_n hx hb dPL_enterIntoBooks_7 rfl (lv_at hl 1 rfl) ?_
  refine lv_aload_n hx hb dPL_enterIntoBooks_8 rfl (lv_at hl 0 rfl) ?_
  obtain ⟨v3, hv, h⟩ := h
  refine xw_getI (C := RPL) (T := TPL) (N := 4) (ref := RPL) hx hb hts inPL hown hK hw rfl 3 (by decide) (hts _ mw_14) (fun _ h9 => h9) hv dPL_enterIntoBooks_9 ?_
  refine lv_iconst (v := 1) hx hb dPL_enterIntoBooks_12 (by decide) ?_
  refine lv_iadd hx hb dPL_enterIntoBooks_13 ?_
  obtain ⟨hv, h⟩ := h
  refine xw_put (ty := (.int)) (C := RBA) (T := TBA) (N := 6) (ref := RBA) hx hb hts inBA tyBA tyBA_ok nmBA hown hK hw rfl 5 (by decide) (hts _ mw_201) (fun _ h9 => h9) rfl (by decide +kernel) rfl rfl hv dPL_enterIntoBooks_14 (fun H locs hw => ?_)
  replace h := h _ rfl
  generalize xp w2 a1 5 (.int (v3 + 1)) = w4 at hw h
  refine lv_aload_n hx hb dPL_enterIntoBooks_17 rfl (lv_at hl 0 rfl) ?_
  refine lv_dup hx hb dPL_enterIntoBooks_18 rfl ?_
  obtain ⟨v5, hv, h⟩ := h
  refine xw_getI (C := RPL) (T := TPL) (N := 4) (ref := RPL) hx hb hts inPL hown hK hw rfl 3 (by decide) (hts _ mw_14) (fun _ h9 => h9) hv dPL_enterIntoBooks_19 ?_
  refine lv_aload_n hx hb dPL_enterIntoBooks_22 rfl (lv_at hl 1 rfl) ?_
  obtain ⟨⟨fs, hk⟩, h⟩ := h
  have hcall := h
  clear h
  refine xw_calli (va_runV (As := []) (rest := [.int v5, .ref h0]) ⟨hx, hb, hml, hown, hts⟩ (c_BA_size l D E A _ w4 a1 hcall) (cwV 0 hts (xG_V mw_182 mw_183 mw_184 mw_110 mw_185) rfl rfl rfl (by decide +kernel) ⟨(Nat.le_of_ble_eq_true rfl), (Nat.le_of_ble_eq_true rfl)⟩) (xw_preV (ci := 2) hw hK hE rfl hk) rfl rfl hl.1 rfl (lv_room (by first | exact Nat.le_of_ble_eq_true rfl | simp [va_rf_cat, xcat_i, xcat_l, xcat_r, xcat_n])) dPL_enterIntoBooks_23 ⟨(Nat.le_of_ble_eq_true rfl), (Nat.le_of_ble_eq_true rfl)⟩) hw (fun r6 w7 H locs h hw => ?_)
  clear hcall
  refine lv_iadd hx hb dPL_enterIntoBooks_26 ?_
  obtain ⟨hv, h⟩ := h
  refine xw_put (ty := (.int)) (C := RPL) (T := TPL) (N := 4) (ref := RPL) hx hb hts inPL tyPL tyPL_ok nmPL hown hK hw rfl 3 (by decide) (hts _ mw_14) (fun _ h9 => h9) rfl (by decide +kernel) rfl rfl hv dPL_enterIntoBooks_27 (fun H locs hw => ?_)
  replace h := h _ rfl
  generalize xp w7 h0 3 (.int (v5 + r6)) = w8 at hw h
  refine lv_aload_n hx hb dPL_enterIntoBooks_30 rfl (lv_at hl 1 rfl) ?_
  obtain ⟨⟨fs, hk⟩, h⟩ := h
  have hcall := h
  clear h
  refine xw_callv (va_runV (As := []) (rest := []) ⟨hx, hb, hml, hown, hts⟩ (c_BA_addToTotals l D E A _ w8 a1 hcall) (cwV 0 hts (xG_V mw_197 mw_198 mw_199 mw_110 mw_200) rfl rfl rfl (by decide +kernel) ⟨(Nat.le_of_ble_eq_true rfl), (Nat.le_of_ble_eq_true rfl)⟩) (xw_preV (ci := 2) hw hK hE rfl hk) rfl rfl hl.1 rfl (lv_room (by first | exact Nat.le_of_ble_eq_true rfl | simp [va_rf_cat, xcat_i, xcat_l, xcat_r, xcat_n])) dPL_enterIntoBooks_31 ⟨(Nat.le_of_ble_eq_true rfl), (Nat.le_of_ble_eq_true rfl)⟩) hw (fun w10 H locs h hw => ?_)
  clear hcall
  refine W.widen (k := 0) (n := 0) (Nat.le_of_ble_eq_true rfl) (Nat.le_of_ble_eq_true rfl) ?_
  exact xw_vret hx hb hr hlocks hw h dPL_enterIntoBooks_34
def wp_PL_reverse (E : xE_T) (post : Int32 → xw_T → Prop) (w : xw_T) (h0 : Nat) (p0 : Int32) : Prop := (∃ fs, w h0 = some (.inr (4, fs))) ∧ wp_PL_findBatchOfRow E (fun r1 w2 => (r1 = none → (post 0 w2)) ∧ (¬ r1 = none → (∃ a3 : Nat, r1 = some a3 ∧ (∃ v4, xgI w2 a3 2 4 = some v4 ∧ ((v4 = 0 → ((∃ fs, w2 h0 = some (.inr (4, fs))) ∧ wp_PL_hasRoomForBatch E (fun r5 w6 => (¬ r5 = 0 → (∀ q7 : Nat, (w6 q7 = none ∧ q7 ≠ E.2 6) → ∀ w8, w8 = va_up w6 q7 (some (.inr (2, [.int 0, .null, .null, .int 0, .int 0, .int 0]))) → (∃ v9, xgI w8 a3 2 0 = some v9 ∧ (∃ v10, xgI w8 h0 4 2 = some v10 ∧ (∀ r11 : Int32, r11 = (if v9 < v10 then v10 else v9) → (wp_BA_init E (fun w13 => (∃ fs, w13 q7 = some (.inr (2, fs))) ∧ wp_BA_addRowsWithOtherSign E (fun w15 => (∃ v0, xg w15 a3 2 4 = some v0) ∧ ∀ w16, w16 = xp w15 a3 4 (.int 1) → ((∃ v0, xg w16 q7 2 4 = some v0) ∧ ∀ w17, w17 = xp w16 q7 4 (.int 1) → (∃ v18, xgR w17 h0 4 1 = some v18 ∧ (∃ a19 : Nat, v18 = some a19 ∧ ((∃ fs, w17 a19 = some (.inr (0, fs))) ∧ wp_AL_add E (fun r20 w21 => (∃ fs, w21 h0 = some (.inr (4, fs))) ∧ wp_PL_enterIntoBooks E (fun w23 => post 1 w23) w21 h0 (some q7)) w17 a19 (some q7)))))) w13 q7 (some a3)) w8 q7 r11)))))) ∧ (r5 = 0 → (post (-2000000004) w6))) w2 h0)) ∧ (¬ v4 = 0 → (post 0 w2))))))) w h0 p0
set_option maxHeartbeats 4000000 in
set_option maxRecDepth 100000 in
theorem c_PL_reverse (l : Launch) (D : va_G) (E : xE_T) (A : Nat → Prop) (post : Int32 → xw_T → Prop) (w : xw_T) (h0 : Nat) (p0 : Int32) (h : wp_PL_reverse E post w h0 p0) : Met l yPL_reverse (xW yPL_reverse cPL_reverse 4 (some (.int))) ({ frames := 9, cells := 27, slots := 4791, locals := 196 } : Room) (va_Pc [.ref h0, .int p0] (xP D E A w)) (va_Qi post (xB D A) A) 27 4791 A := by
  refine Met.ofW (cc := cPL_reverse) (maxL := 4) (ret := (some (.int))) (by decide) rfl ?_
  intro p e s m args below meth c s₁ B hml hv
  obtain ⟨rfl, hw, hK, hE⟩ := hv
  have hx := B.exec
  have hb := B.bytes
  have hr := B.returns
  have hts : ∀ w ∈ xTB, w.before _ s = true := fun w hw => atoms_spec (ws := xW yPL_reverse cPL_reverse 4 (some (.int))) B.pre w (List.mem_cons_of_mem _ hw)
  have hown : s.vm.findClass RPL = some m.cls := findClass_of_methodNamed B.named
  have hlocks := B.notSynchronized
  have hw : xw_S D vwCl A s.heap w s.heap [] := xw_S0 hw
  refine xl_start (lvs := [(0, .ref h0), (1, .int p0)]) (by first | exact Nat.le_of_ble_eq_true rfl | simp [lg_sl, va_rf_cat, xcat_i, xcat_l, xcat_r, xcat_n]) (by first | rfl | simp [lv_args, va_rf_cat, xcat_i, xcat_l, xcat_r, xcat_n]) (fun ls hl => ?_)
  unfold wp_PL_reverse at h
  refine lv_aload_n hx hb dPL_reverse_0 rfl (lv_at hl 0 rfl) ?_
  refine lv_iload_n hx hb dPL_reverse_1 rfl (lv_at hl 1 rfl) ?_
  obtain ⟨⟨fs, hk⟩, h⟩ := h
  have hcall := h
  clear h
  refine xw_callq (va_runV (As := [.int p0]) (rest := []) ⟨hx, hb, hml, hown, hts⟩ (c_PL_findBatchOfRow l D E A _ w h0 p0 hcall) (cwV 1 hts (xG_V mw_212 mw_213 mw_214 mw_95 mw_215) rfl rfl rfl (by decide +kernel) ⟨(Nat.le_of_ble_eq_true rfl), (Nat.le_of_ble_eq_true rfl)⟩) (xw_preV (ci := 4) hw hK hE rfl hk) rfl rfl hl.1 rfl (lv_room (by first | exact Nat.le_of_ble_eq_true rfl | simp [va_rf_cat, xcat_i, xcat_l, xcat_r, xcat_n])) dPL_reverse_2 ⟨(Nat.le_of_ble_eq_true rfl), (Nat.le_of_ble_eq_true rfl)⟩) hw (fun r1 w2 H locs h hw => ?_)
  clear hcall
  refine xl_astore_n (i := 2) (lv' := [(2, va_rf r1), (0, .ref h0), (1, .int p0)]) hx hb dPL_reverse_5 rfl hl (by decide) (by first | rfl | simp [va_rf_cat, xcat_i, xcat_l, xcat_r, xcat_n]) (fun ls hl => ?_)
  refine xl_aload_n hx hb dPL_reverse_6 rfl (lv_at hl 0 rfl) ?_
  refine xl_ifnull (tgt := 17) hx hb dPL_reverse_7 rfl (fun hc => ?_) (fun hc => ?_)
  · replace h := h.1 hc
    refine lv_iconst (v := 0) hx hb dPL_reverse_17 (by decide) ?_
    refine W.widen (k := 27) (n := 4791) (Nat.le_of_ble_eq_true rfl) (Nat.le_of_ble_eq_true rfl) ?_
    exact xw_iret hx hb hr hlocks hw h dPL_reverse_18
  · replace h := h.2 hc
    refine xl_aload_n hx hb dPL_reverse_10 rfl (lv_at hl 0 rfl) ?_
    obtain ⟨a3, rfl, h⟩ := h
    obtain ⟨v4, hv, h⟩ := h
    refine xw_getI (C := RBA) (T := TBA) (N := 6) (ref := RBA) hx hb hts inBA hown hK hw rfl 4 (by decide) (hts _ mw_206) (fun _ h9 => h9) hv dPL_reverse_11 ?_
    refine lv_if_eq (tgt := 19) hx hb dPL_reverse_14 rfl (fun hc => ?_) (fun hc => ?_)
    · replace h := h.1 hc
      refine lv_aload_n hx hb dPL_reverse_19 rfl (lv_at hl 1 rfl) ?_
      obtain ⟨⟨fs, hk⟩, h⟩ := h
      have hcall := h
      clear h
      refine xw_calli (va_runV (As := []) (rest := []) ⟨hx, hb, hml, hown, hts⟩ (c_PL_hasRoomForBatch l D E A _ w2 h0 hcall) (cwV 0 hts (xG_V mw_114 mw_115 mw_116 mw_95 mw_117) rfl rfl rfl (by decide +kernel) ⟨(Nat.le_of_ble_eq_true rfl), (Nat.le_of_ble_eq_true rfl)⟩) (xw_preV (ci := 4) hw hK hE rfl hk) rfl rfl hl.1 rfl (lv_room (by first | exact Nat.le_of_ble_eq_true rfl | simp [va_rf_cat, xcat_i, xcat_l, xcat_r, xcat_n])) dPL_reverse_20 ⟨(Nat.le_of_ble_eq_true rfl), (Nat.le_of_ble_eq_true rfl)⟩) hw (fun r5 w6 H locs h hw => ?_)
      clear hcall
      refine lv_if_ne (tgt := 29) hx hb dPL_reverse_23 rfl (fun hc => ?_) (fun hc => ?_)
      · replace h := h.1 hc
        refine xw_new (ci := 2) (fs := [.int 0, .null, .null, .int 0, .int 0, .int 0]) (C := RBA) (T := TBA) (N := 6) hx hb hts inBA tyBA tyBA_ok hown (hts _ mw_112) (hts _ mw_113) (hts _ mw_110) hK hw rfl (by decide +kernel) (Nat.le_of_ble_eq_true rfl) (Nat.le_of_ble_eq_true rfl) dPL_reverse_29 (fun q7 H hq hqA hw => ?_)
        replace h := h _ ⟨hq, xq6 hE hqA⟩ _ rfl
        generalize va_up w6 q7 (some (.inr (2, [.int 0, .null, .null, .int 0, .int 0, .int 0]))) = w8 at hw h
        refine lv_dup hx hb dPL_reverse_32 rfl ?_
        refine lv_aload_n hx hb dPL_reverse_33 rfl (lv_at hl 0 rfl) ?_
        obtain ⟨v9, hv, h⟩ := h
        refine xw_getI (C := RBA) (T := TBA) (N := 6) (ref := RBA) hx hb hts inBA hown hK hw rfl 0 (by decide) (hts _ mw_186) (fun _ h9 => h9) hv dPL_reverse_34 ?_
        refine lv_aload_n hx hb dPL_reverse_37 rfl (lv_at hl 1 rfl) ?_
        obtain ⟨v10, hv, h⟩ := h
        refine xw_getI (C := RPL) (T := TPL) (N := 4) (ref := RPL) hx hb hts inPL hown hK hw rfl 2 (by decide) (hts _ mw_15) (fun _ h9 => h9) hv dPL_reverse_38 ?_
        refine va_mmax hx hb (hml.trans hl.1.symm) hown (hts _ mw_211) (hts _ mw_36) (hts _ mw_37) (hts _ mw_34) (Nat.le_of_ble_eq_true rfl) (by first | exact Nat.le_of_ble_eq_true rfl | simp [va_rf_cat, xcat_i, xcat_l, xcat_r, xcat_n]) (Nat.le_of_ble_eq_true rfl) (Nat.le_of_ble_eq_true rfl) dPL_reverse_41 ?_
        replace h := h _ rfl
        generalize (if v9 < v10 then v10 else v9) = r11 at h ⊢
        have hcall := h
        clear h
        refine xw_callv (va_runI (As := [.int r11]) (rest := [.ref q7]) ⟨hx, hb, hml, hown, hts⟩ (c_BA_init l D E A _ w8 q7 r11 hcall) (cwI 1 hts (xG_I mw_109) rfl rfl rfl (hts _ mw_110) (hts _ mw_108) (hts _ mw_111) rfl (by decide +kernel) ⟨(Nat.le_of_ble_eq_true rfl), (Nat.le_of_ble_eq_true rfl)⟩) (xw_preS hw hK hE) rfl rfl hl.1 rfl (lv_room (by first | exact Nat.le_of_ble_eq_true rfl | simp [va_rf_cat, xcat_i, xcat_l, xcat_r, xcat_n])) dPL_reverse_44 ⟨(Nat.le_of_ble_eq_true rfl), (Nat.le_of_ble_eq_true rfl)⟩) hw (fun w13 H locs h hw => ?_)
        clear hcall
        refine lv_astore_n (i := 3) (lv' := [(3, .ref q7), (2, .ref a3), (0, .ref h0), (1, .int p0)]) hx hb dPL_reverse_47 rfl hl (by decide) (by first | rfl | simp [va_rf_cat, xcat_i, xcat_l, xcat_r, xcat_n]) (fun ls hl => ?_)
        refine lv_aload_n hx hb dPL_reverse_48 rfl (lv_at hl 0 rfl) ?_
        refine lv_aload_n hx hb dPL_reverse_49 rfl (lv_at hl 1 rfl) ?_
        obtain ⟨⟨fs, hk⟩, h⟩ := h
        have hcall := h
        clear h
        refine xw_callv (va_runV (As := [.ref a3]) (rest := []) ⟨hx, hb, hml, hown, hts⟩ (c_BA_addRowsWithOtherSign l D E A _ w13 q7 (some a3) hcall) (cwV 1 hts (xG_V mw_207 mw_208 mw_209 mw_110 mw_210) rfl rfl rfl (by decide +kernel) ⟨(Nat.le_of_ble_eq_true rfl), (Nat.le_of_ble_eq_true rfl)⟩) (xw_preV (ci := 2) hw hK hE rfl hk) rfl rfl hl.1 rfl (lv_room (by first | exact Nat.le_of_ble_eq_true rfl | simp [va_rf_cat, xcat_i, xcat_l, xcat_r, xcat_n])) dPL_reverse_50 ⟨(Nat.le_of_ble_eq_true rfl), (Nat.le_of_ble_eq_true rfl)⟩) hw (fun w15 H locs h hw => ?_)
        clear hcall
        refine lv_aload_n hx hb dPL_reverse_53 rfl (lv_at hl 1 rfl) ?_
        refine lv_iconst (v := 1) hx hb dPL_reverse_54 (by decide) ?_
        obtain ⟨hv, h⟩ := h
        refine xw_put (ty := (.boolean)) (C := RBA) (T := TBA) (N := 6) (ref := RBA) hx hb hts inBA tyBA tyBA_ok nmBA hown hK hw rfl 4 (by decide) (hts _ mw_206) (fun _ h9 => h9) rfl (by decide +kernel) (by decide) (by decide) hv dPL_reverse_55 (fun H locs hw => ?_)
        replace h := h _ rfl
        generalize xp w15 a3 4 (.int 1) = w16 at hw h
        refine lv_aload_n hx hb dPL_reverse_58 rfl (lv_at hl 0 rfl) ?_
        refine lv_iconst (v := 1) hx hb dPL_reverse_59 (by decide) ?_
        obtain ⟨hv, h⟩ := h
        refine xw_put (ty := (.boolean)) (C := RBA) (T := TBA) (N := 6) (ref := RBA) hx hb hts inBA tyBA tyBA_ok nmBA hown hK hw rfl 4 (by decide) (hts _ mw_206) (fun _ h9 => h9) rfl (by decide +kernel) (by decide) (by decide) hv dPL_reverse_60 (fun H locs hw => ?_)
        replace h := h _ rfl
        generalize xp w16 q7 4 (.int 1) = w17 at hw h
        refine lv_aload_n hx hb dPL_reverse_63 rfl (lv_at hl 2 rfl) ?_
        obtain ⟨v18, hv, h⟩ := h
        refine xw_getR (C := RPL) (T := TPL) (N := 4) (ref := RPL) hx hb hts inPL hown hK hw rfl 1 (by decide) (hts _ mw_16) (fun _ h9 => h9) hv dPL_reverse_64 ?_
        refine lv_aload_n hx hb dPL_reverse_67 rfl (lv_at hl 0 rfl) ?_
        obtain ⟨a19, rfl, h⟩ := h
        obtain ⟨⟨fs, hk⟩, h⟩ := h
        have hcall := h
        clear h
        refine xw_calli (va_runV (As := [.ref q7]) (rest := []) ⟨hx, hb, hml, hown, hts⟩ (c_AL_add l D E A _ w17 a19 (some q7) hcall) (cwV 1 hts (xG_V mw_82 mw_83 mw_84 mw_19 mw_85) rfl rfl rfl (by decide +kernel) ⟨(Nat.le_of_ble_eq_true rfl), (Nat.le_of_ble_eq_true rfl)⟩) (xw_preV (ci := 0) hw hK hE rfl hk) rfl rfl hl.1 rfl (lv_room (by first | exact Nat.le_of_ble_eq_true rfl | simp [va_rf_cat, xcat_i, xcat_l, xcat_r, xcat_n])) dPL_reverse_68 ⟨(Nat.le_of_ble_eq_true rfl), (Nat.le_of_ble_eq_true rfl)⟩) hw (fun r20 w21 H locs h hw => ?_)
        clear hcall
        refine lv_pop hx hb dPL_reverse_71 rfl ?_
        refine lv_aload_n hx hb dPL_reverse_72 rfl (lv_at hl 2 rfl) ?_
        refine lv_aload_n hx hb dPL_reverse_73 rfl (lv_at hl 0 rfl) ?_
        obtain ⟨⟨fs, hk⟩, h⟩ := h
        have hcall := h
        clear h
        refine xw_callv (va_runV (As := [.ref q7]) (rest := []) ⟨hx, hb, hml, hown, hts⟩ (c_PL_enterIntoBooks l D E A _ w21 h0 (some q7) hcall) (cwV 1 hts (xG_V mw_202 mw_203 mw_204 mw_95 mw_205) rfl rfl rfl (by decide +kernel) ⟨(Nat.le_of_ble_eq_true rfl), (Nat.le_of_ble_eq_true rfl)⟩) (xw_preV (ci := 4) hw hK hE rfl hk) rfl rfl hl.1 rfl (lv_room (by first | exact Nat.le_of_ble_eq_true rfl | simp [va_rf_cat, xcat_i, xcat_l, xcat_r, xcat_n])) dPL_reverse_74 ⟨(Nat.le_of_ble_eq_true rfl), (Nat.le_of_ble_eq_true rfl)⟩) hw (fun w23 H locs h hw => ?_)
        clear hcall
        refine lv_iconst (v := 1) hx hb dPL_reverse_77 (by decide) ?_
        refine W.widen (k := 27) (n := 4791) (Nat.le_of_ble_eq_true rfl) (Nat.le_of_ble_eq_true rfl) ?_
        exact xw_iret hx hb hr hlocks hw h dPL_reverse_78
      · replace h := h.2 hc
        refine lv_ldc (v := (-2000000004)) hx hb hown (hts _ mw_92) dPL_reverse_26 ?_
        refine W.widen (k := 27) (n := 4791) (Nat.le_of_ble_eq_true rfl) (Nat.le_of_ble_eq_true rfl) ?_
        exact xw_iret hx hb hr hlocks hw h dPL_reverse_28
    · replace h := h.2 hc
      refine lv_iconst (v := 0) hx hb dPL_reverse_17 (by decide) ?_
      refine W.widen (k := 27) (n := 4791) (Nat.le_of_ble_eq_true rfl) (Nat.le_of_ble_eq_true rfl) ?_
      exact xw_iret hx hb hr hlocks hw h dPL_reverse_18
def wp_AC_isOfKind (E : xE_T) (post : Int32 → xw_T → Prop) (w : xw_T) (h0 : Nat) (p0 : Int32) (p1 : Int32) : Prop := ∃ v1, xgI w h0 1 0 = some v1 ∧ ((¬ v1 = p0 → (post 0 w)) ∧ (v1 = p0 → (∃ v2, xgI w h0 1 1 = some v2 ∧ ((¬ v2 = p1 → (post 0 w)) ∧ (v2 = p1 → (post 1 w))))))
set_option maxHeartbeats 4000000 in
set_option maxRecDepth 100000 in
theorem c_AC_isOfKind (l : Launch) (D : va_G) (E : xE_T) (A : Nat → Prop) (post : Int32 → xw_T → Prop) (w : xw_T) (h0 : Nat) (p0 : Int32) (p1 : Int32) (h : wp_AC_isOfKind E post w h0 p0 p1) : Met l yAC_isOfKind (xW yAC_isOfKind cAC_isOfKind 3 (some (.boolean))) ({ frames := 0, cells := 0, slots := 0, locals := 0 } : Room) (va_Pc [.ref h0, .int p0, .int p1] (xP D E A w)) (va_Qi post (xB D A) A) 0 0 A := by
  refine Met.ofW (cc := cAC_isOfKind) (maxL := 3) (ret := (some (.boolean))) (by decide) rfl ?_
  intro p e s m args below meth c s₁ B hml hv
  obtain ⟨rfl, hw, hK, hE⟩ := hv
  have hx := B.exec
  have hb := B.bytes
  have hr := B.returns
  have hts : ∀ w ∈ xTB, w.before _ s = true := fun w hw => atoms_spec (ws := xW yAC_isOfKind cAC_isOfKind 3 (some (.boolean))) B.pre w (List.mem_cons_of_mem _ hw)
  have hown : s.vm.findClass RAC = some m.cls := findClass_of_methodNamed B.named
  have hlocks := B.notSynchronized
  have hw : xw_S D vwCl A s.heap w s.heap [] := xw_S0 hw
  refine xl_start (lvs := [(0, .ref h0), (1, .int p0), (2, .int p1)]) (by first | exact Nat.le_of_ble_eq_true rfl | simp [lg_sl, va_rf_cat, xcat_i, xcat_l, xcat_r, xcat_n]) (by first | rfl | simp [lv_args, va_rf_cat, xcat_i, xcat_l, xcat_r, xcat_n]) (fun ls hl => ?_)
  unfold wp_AC_isOfKind at h
  refine lv_aload_n hx hb dAC_isOfKind_0 rfl (lv_at hl 0 rfl) ?_
  obtain ⟨v1, hv, h⟩ := h
  refine xw_getI (C := RAC) (T := TAC) (N := 4) (ref := RAC) hx hb hts inAC hown hK hw rfl 0 (by decide) (hts _ mw_27) (fun _ h9 => h9) hv dAC_isOfKind_1 ?_
  refine lv_iload_n hx hb dAC_isOfKind_4 rfl (lv_at hl 1 rfl) ?_
  refine lv_icmp_ne (tgt := 20) hx hb dAC_isOfKind_5 rfl (fun hc => ?_) (fun hc => ?_)
  · replace h := h.1 hc
    refine lv_iconst (v := 0) hx hb dAC_isOfKind_20 (by decide) ?_
    refine W.widen (k := 0) (n := 0) (Nat.le_of_ble_eq_true rfl) (Nat.le_of_ble_eq_true rfl) ?_
    exact xw_zret (by decide) hx hb hr hlocks hw h dAC_isOfKind_21
  · replace h := h.2 hc
    refine lv_aload_n hx hb dAC_isOfKind_8 rfl (lv_at hl 0 rfl) ?_
    obtain ⟨v2, hv, h⟩ := h
    refine xw_getI (C := RAC) (T := TAC) (N := 4) (ref := RAC) hx hb hts inAC hown hK hw rfl 1 (by decide) (hts _ mw_26) (fun _ h9 => h9) hv dAC_isOfKind_9 ?_
    refine lv_iload_n hx hb dAC_isOfKind_12 rfl (lv_at hl 2 rfl) ?_
    refine lv_icmp_ne (tgt := 20) hx hb dAC_isOfKind_13 rfl (fun hc => ?_) (fun hc => ?_)
    · replace h := h.1 hc
      refine lv_iconst (v := 0) hx hb dAC_isOfKind_20 (by decide) ?_
      refine W.widen (k := 0) (n := 0) (Nat.le_of_ble_eq_true rfl) (Nat.le_of_ble_eq_true rfl) ?_
      exact xw_zret (by decide) hx hb hr hlocks hw h dAC_isOfKind_21
    · replace h := h.2 hc
      refine lv_iconst (v := 1) hx hb dAC_isOfKind_16 (by decide) ?_
      refine lv_goto (tgt := 21) hx hb dAC_isOfKind_17 rfl ?_
      refine W.widen (k := 0) (n := 0) (Nat.le_of_ble_eq_true rfl) (Nat.le_of_ble_eq_true rfl) ?_
      exact xw_zret (by decide) hx hb hr hlocks hw h dAC_isOfKind_21
end
section
/-! meanings and walks: CLS 2 -/
def wl_PL_totalOfKind_5 (E : xE_T) (post : Int64 → xw_T → Prop) : Nat → xw_T → Nat → Int32 → Int32 → Int64 → Int32 → Prop
  | 0 => fun _ _ _ _ _ _ => False
  | n5 + 1 => fun w x0 x1 x2 x3 x5 => ∃ v1, xgR w x0 4 0 = some v1 ∧ (∃ a2 : Nat, v1 = some a2 ∧ ((∃ fs, w a2 = some (.inr (0, fs))) ∧ wp_AL_size E (fun r3 w4 => (r3 ≤ x5 → (post x3 w4)) ∧ (¬ r3 ≤ x5 → (∃ v5, xgR w4 x0 4 0 = some v5 ∧ (∃ a6 : Nat, v5 = some a6 ∧ ((∃ fs, w4 a6 = some (.inr (0, fs))) ∧ wp_AL_get E (fun r7 w8 => ∃ a9 : Nat, r7 = some a9 ∧ ((∃ fs, w8 a9 = some (.inr (1, fs))) ∧ ((∃ fs, w8 a9 = some (.inr (1, fs))) ∧ wp_AC_isOfKind E (fun r10 w11 => (r10 = 0 → (wl_PL_totalOfKind_5 E post n5 w11 x0 x1 x2 x3 (x5 + 1))) ∧ (¬ r10 = 0 → (∃ v12, xgL w11 a9 1 3 = some v12 ∧ (wl_PL_totalOfKind_5 E post n5 w11 x0 x1 x2 (x3 + v12) (x5 + 1))))) w8 a9 x1 x2))) w4 a6 x5))))) w a2))
def wp_PL_totalOfKind (E : xE_T) (post : Int64 → xw_T → Prop) (w : xw_T) (h0 : Nat) (p0 : Int32) (p1 : Int32) : Prop := ∃ n5, wl_PL_totalOfKind_5 E post n5 w h0 p0 p1 0 0
set_option maxHeartbeats 4000000 in
set_option maxRecDepth 100000 in
theorem c_PL_totalOfKind (l : Launch) (D : va_G) (E : xE_T) (A : Nat → Prop) (post : Int64 → xw_T → Prop) (w : xw_T) (h0 : Nat) (p0 : Int32) (p1 : Int32) (h : wp_PL_totalOfKind E post w h0 p0 p1) : Met l yPL_totalOfKind (xW yPL_totalOfKind cPL_totalOfKind 7 (some (.long))) ({ frames := 3, cells := 0, slots := 0, locals := 64 } : Room) (va_Pc [.ref h0, .int p0, .int p1] (xP D E A w)) (va_Ql post (xB D A) A) 0 0 A := by
  refine Met.ofW (cc := cPL_totalOfKind) (maxL := 7) (ret := (some (.long))) (by decide) rfl ?_
  intro p e s m args below meth c s₁ B hml hv
  obtain ⟨rfl, hw, hK, hE⟩ := hv
  have hx := B.exec
  have hb := B.bytes
  have hr := B.returns
  have hts : ∀ w ∈ xTB, w.before _ s = true := fun w hw => atoms_spec (ws := xW yPL_totalOfKind cPL_totalOfKind 7 (some (.long))) B.pre w (List.mem_cons_of_mem _ hw)
  have hown : s.vm.findClass RPL = some m.cls := findClass_of_methodNamed B.named
  have hlocks := B.notSynchronized
  have hw : xw_S D vwCl A s.heap w s.heap [] := xw_S0 hw
  have lo_5 : ∀ (n5 : Nat) (w : xw_T) (x0 : Nat) (x1 : Int32) (x2 : Int32) (x3 : Int64) (x5 : Int32) (H : Heap) (locs : List Loc) (ls : Array Slot), lv_has ls 7 [(0, .ref x0), (1, .int x1), (2, .int x2), (3, .long x3), (5, .int x5)] → xw_S D vwCl A s.heap w H locs → wl_PL_totalOfKind_5 E post n5 w x0 x1 x2 x3 x5 → W p l e (headSpec (xW yPL_totalOfKind cPL_totalOfKind 7 (some (.long))) ({ frames := 3, cells := 0, slots := 0, locals := 64 } : Room)).room s m ([.ref h0, .int p0, .int p1] : List Value).toArray below meth c H locs 0 0 (MQ below (va_Ql post (xB D A) A) ([.ref h0, .int p0, .int p1] : List Value).toArray s 0 0 A) (F0 m 5 ls []) := by
    intro n5
    induction n5 with
    | zero => intro w x0 x1 x2 x3 x5 H locs ls hl hw h; exact h.elim
    | succ n5 ih5 =>
      intro w x0 x1 x2 x3 x5 H locs ls hl hw h
      dsimp only [wl_PL_totalOfKind_5] at h
      refine lv_iload hx hb dPL_totalOfKind_5 (lv_at hl 4 rfl) ?_
      refine lv_aload_n hx hb dPL_totalOfKind_7 rfl (lv_at hl 0 rfl) ?_
      obtain ⟨v1, hv, h⟩ := h
      refine xw_getR (C := RPL) (T := TPL) (N := 4) (ref := RPL) hx hb hts inPL hown hK hw rfl 0 (by decide) (hts _ mw_23) (fun _ h9 => h9) hv dPL_totalOfKind_8 ?_
      obtain ⟨a2, rfl, h⟩ := h
      obtain ⟨⟨fs, hk⟩, h⟩ := h
      have hcall := h
      clear h
      refine xw_calli (va_runV (As := []) (rest := [.int x5]) ⟨hx, hb, hml, hown, hts⟩ (c_AL_size l D E A _ w a2 hcall) (cwV 0 hts (xG_V mw_78 mw_79 mw_80 mw_19 mw_81) rfl rfl rfl (by decide +kernel) ⟨(Nat.le_of_ble_eq_true rfl), (Nat.le_of_ble_eq_true rfl)⟩) (xw_preV (ci := 0) hw hK hE rfl hk) rfl rfl hl.1 rfl (lv_room (by first | exact Nat.le_of_ble_eq_true rfl | simp [va_rf_cat, xcat_i, xcat_l, xcat_r, xcat_n])) dPL_totalOfKind_11 ⟨(Nat.le_of_ble_eq_true rfl), (Nat.le_of_ble_eq_true rfl)⟩) hw (fun r3 w4 H locs h hw => ?_)
      clear hcall
      refine lv_icmp_ge (tgt := 55) hx hb dPL_totalOfKind_14 rfl (fun hc => ?_) (fun hc => ?_)
      · replace h := h.1 hc
        refine lv_lload_n hx hb dPL_totalOfKind_55 rfl (lv_at hl 3 rfl) ?_
        refine W.widen (k := 0) (n := 0) (Nat.le_of_ble_eq_true rfl) (Nat.le_of_ble_eq_true rfl) ?_
        exact xw_lret hx hb hr hlocks hw h dPL_totalOfKind_56
      · replace h := h.2 hc
        refine lv_aload_n hx hb dPL_totalOfKind_17 rfl (lv_at hl 0 rfl) ?_
        obtain ⟨v5, hv, h⟩ := h
        refine xw_getR (C := RPL) (T := TPL) (N := 4) (ref := RPL) hx hb hts inPL hown hK hw rfl 0 (by decide) (hts _ mw_23) (fun _ h9 => h9) hv dPL_totalOfKind_18 ?_
        refine lv_iload hx hb dPL_totalOfKind_21 (lv_at hl 4 rfl) ?_
        obtain ⟨a6, rfl, h⟩ := h
        obtain ⟨⟨fs, hk⟩, h⟩ := h
        have hcall := h
        clear h
        refine xw_callq (va_runV (As := [.int x5]) (rest := []) ⟨hx, hb, hml, hown, hts⟩ (c_AL_get l D E A _ w4 a6 x5 hcall) (cwV 1 hts (xG_V mw_138 mw_139 mw_140 mw_19 mw_141) rfl rfl rfl (by decide +kernel) ⟨(Nat.le_of_ble_eq_true rfl), (Nat.le_of_ble_eq_true rfl)⟩) (xw_preV (ci := 0) hw hK hE rfl hk) rfl rfl hl.1 rfl (lv_room (by first | exact Nat.le_of_ble_eq_true rfl | simp [va_rf_cat, xcat_i, xcat_l, xcat_r, xcat_n])) dPL_totalOfKind_23 ⟨(Nat.le_of_ble_eq_true rfl), (Nat.le_of_ble_eq_true rfl)⟩) hw (fun r7 w8 H locs h hw => ?_)
        clear hcall
        obtain ⟨a9, rfl, h⟩ := h
        obtain ⟨⟨fs, hk⟩, h⟩ := h
        refine va_castS hx hb hown (hts _ mw_90) (hK.1 1 _ rfl).2 (xw_recv hK hw (ci := 1) rfl hk) dPL_totalOfKind_26 ?_
        refine lv_astore (i := 6) (lv' := [(6, .ref a9), (0, .ref x0), (1, .int x1), (2, .int x2), (3, .long x3), (5, .int x5)]) hx hb dPL_totalOfKind_29 hl (by decide) (by first | rfl | simp [va_rf_cat, xcat_i, xcat_l, xcat_r, xcat_n]) (fun ls hl => ?_)
        refine lv_aload hx hb dPL_totalOfKind_31 (lv_at hl 0 rfl) ?_
        refine lv_iload_n hx hb dPL_totalOfKind_33 rfl (lv_at hl 2 rfl) ?_
        refine lv_iload_n hx hb dPL_totalOfKind_34 rfl (lv_at hl 3 rfl) ?_
        obtain ⟨⟨fs, hk⟩, h⟩ := h
        have hcall := h
        clear h
        refine xw_calli (va_runV (As := [.int x1, .int x2]) (rest := []) ⟨hx, hb, hml, hown, hts⟩ (c_AC_isOfKind l D E A _ w8 a9 x1 x2 hcall) (cwV 2 hts (xG_V mw_217 mw_218 mw_219 mw_88 mw_220) rfl rfl rfl (by decide +kernel) ⟨(Nat.le_of_ble_eq_true rfl), (Nat.le_of_ble_eq_true rfl)⟩) (xw_preV (ci := 1) hw hK hE rfl hk) rfl rfl hl.1 rfl (lv_room (by first | exact Nat.le_of_ble_eq_true rfl | simp [va_rf_cat, xcat_i, xcat_l, xcat_r, xcat_n])) dPL_totalOfKind_35 ⟨(Nat.le_of_ble_eq_true rfl), (Nat.le_of_ble_eq_true rfl)⟩) hw (fun r10 w11 H locs h hw => ?_)
        clear hcall
        refine lv_if_eq (tgt := 49) hx hb dPL_totalOfKind_38 rfl (fun hc => ?_) (fun hc => ?_)
        · replace h := h.1 hc
          refine lv_iinc (k := 5) (v := x5 + 1) (lv' := [(5, .int (x5 + 1)), (6, .ref a9), (0, .ref x0), (1, .int x1), (2, .int x2), (3, .long x3)]) hx hb dPL_totalOfKind_49 hl rfl rfl (by decide) (by first | rfl | simp [va_rf_cat, xcat_i, xcat_l, xcat_r, xcat_n]) (fun ls hl => ?_)
          refine lv_goto (tgt := 5) hx hb dPL_totalOfKind_52 rfl ?_
          exact ih5 _ x0 x1 x2 x3 (x5 + 1) _ _ _ (lv_sub hl [2, 3, 4, 5, 0] rfl) hw h
        · replace h := h.2 hc
          refine lv_lload_n hx hb dPL_totalOfKind_41 rfl (lv_at hl 4 rfl) ?_
          refine lv_aload hx hb dPL_totalOfKind_42 (lv_at hl 0 rfl) ?_
          obtain ⟨v12, hv, h⟩ := h
          refine xw_getL (C := RAC) (T := TAC) (N := 4) (ref := RAC) hx hb hts inAC hown hK hw rfl 3 (by decide) (hts _ mw_216) (fun _ h9 => h9) hv dPL_totalOfKind_44 ?_
          refine lv_ladd hx hb dPL_totalOfKind_47 ?_
          refine lv_lstore_n (i := 3) (lv' := [(3, .long (x3 + v12)), (6, .ref a9), (0, .ref x0), (1, .int x1), (2, .int x2), (5, .int x5)]) hx hb dPL_totalOfKind_48 rfl hl (by decide) (by first | rfl | simp [va_rf_cat, xcat_i, xcat_l, xcat_r, xcat_n]) (fun ls hl => ?_)
          refine lv_iinc (k := 5) (v := x5 + 1) (lv' := [(5, .int (x5 + 1)), (3, .long (x3 + v12)), (6, .ref a9), (0, .ref x0), (1, .int x1), (2, .int x2)]) hx hb dPL_totalOfKind_49 hl rfl rfl (by decide) (by first | rfl | simp [va_rf_cat, xcat_i, xcat_l, xcat_r, xcat_n]) (fun ls hl => ?_)
          refine lv_goto (tgt := 5) hx hb dPL_totalOfKind_52 rfl ?_
          exact ih5 _ x0 x1 x2 (x3 + v12) (x5 + 1) _ _ _ (lv_sub hl [3, 4, 5, 1, 0] rfl) hw h
  refine xl_start (lvs := [(0, .ref h0), (1, .int p0), (2, .int p1)]) (by first | exact Nat.le_of_ble_eq_true rfl | simp [lg_sl, va_rf_cat, xcat_i, xcat_l, xcat_r, xcat_n]) (by first | rfl | simp [lv_args, va_rf_cat, xcat_i, xcat_l, xcat_r, xcat_n]) (fun ls hl => ?_)
  unfold wp_PL_totalOfKind at h
  refine lv_lconst (v := 0) hx hb dPL_totalOfKind_0 (by decide) ?_
  refine lv_lstore_n (i := 3) (lv' := [(3, .long 0), (0, .ref h0), (1, .int p0), (2, .int p1)]) hx hb dPL_totalOfKind_1 rfl hl (by decide) (by first | rfl | simp [va_rf_cat, xcat_i, xcat_l, xcat_r, xcat_n]) (fun ls hl => ?_)
  refine lv_iconst (v := 0) hx hb dPL_totalOfKind_2 (by decide) ?_
  refine lv_istore (i := 5) (lv' := [(5, .int 0), (3, .long 0), (0, .ref h0), (1, .int p0), (2, .int p1)]) hx hb dPL_totalOfKind_3 hl (by decide) (by first | rfl | simp [va_rf_cat, xcat_i, xcat_l, xcat_r, xcat_n]) (fun ls hl => ?_)
  obtain ⟨n5, h⟩ := h
  refine W.widen (k := 0) (n := 0) (Nat.le_of_ble_eq_true rfl) (Nat.le_of_ble_eq_true rfl) ?_
  exact lo_5 n5 _ h0 p0 p1 0 0 _ _ _ (lv_sub hl [2, 3, 4, 1, 0] rfl) hw h
def wl_PL_firstOfKind_2 (E : xE_T) (post : Option Nat → xw_T → Prop) : Nat → xw_T → Nat → Int32 → Int32 → Int32 → Prop
  | 0 => fun _ _ _ _ _ => False
  | n2 + 1 => fun w x0 x1 x2 x3 => ∃ v1, xgR w x0 4 0 = some v1 ∧ (∃ a2 : Nat, v1 = some a2 ∧ ((∃ fs, w a2 = some (.inr (0, fs))) ∧ wp_AL_size E (fun r3 w4 => (r3 ≤ x3 → (post none w4)) ∧ (¬ r3 ≤ x3 → (∃ v5, xgR w4 x0 4 0 = some v5 ∧ (∃ a6 : Nat, v5 = some a6 ∧ ((∃ fs, w4 a6 = some (.inr (0, fs))) ∧ wp_AL_get E (fun r7 w8 => ∃ a9 : Nat, r7 = some a9 ∧ ((∃ fs, w8 a9 = some (.inr (1, fs))) ∧ ((∃ fs, w8 a9 = some (.inr (1, fs))) ∧ wp_AC_isOfKind E (fun r10 w11 => (r10 = 0 → (wl_PL_firstOfKind_2 E post n2 w11 x0 x1 x2 (x3 + 1))) ∧ (¬ r10 = 0 → (post (some a9) w11))) w8 a9 x1 x2))) w4 a6 x3))))) w a2))
def wp_PL_firstOfKind (E : xE_T) (post : Option Nat → xw_T → Prop) (w : xw_T) (h0 : Nat) (p0 : Int32) (p1 : Int32) : Prop := ∃ n2, wl_PL_firstOfKind_2 E post n2 w h0 p0 p1 0
set_option maxHeartbeats 4000000 in
set_option maxRecDepth 100000 in
theorem c_PL_firstOfKind (l : Launch) (D : va_G) (E : xE_T) (A : Nat → Prop) (post : Option Nat → xw_T → Prop) (w : xw_T) (h0 : Nat) (p0 : Int32) (p1 : Int32) (h : wp_PL_firstOfKind E post w h0 p0 p1) : Met l yPL_firstOfKind (xW yPL_firstOfKind cPL_firstOfKind 5 (some (.object "PostLedger$Account"))) ({ frames := 3, cells := 0, slots := 0, locals := 64 } : Room) (va_Pc [.ref h0, .int p0, .int p1] (xP D E A w)) (va_Qq post (xB D A) A) 0 0 A := by
  refine Met.ofW (cc := cPL_firstOfKind) (maxL := 5) (ret := (some (.object "PostLedger$Account"))) (by decide) rfl ?_
  intro p e s m args below meth c s₁ B hml hv
  obtain ⟨rfl, hw, hK, hE⟩ := hv
  have hx := B.exec
  have hb := B.bytes
  have hr := B.returns
  have hts : ∀ w ∈ xTB, w.before _ s = true := fun w hw => atoms_spec (ws := xW yPL_firstOfKind cPL_firstOfKind 5 (some (.object "PostLedger$Account"))) B.pre w (List.mem_cons_of_mem _ hw)
  have hown : s.vm.findClass RPL = some m.cls := findClass_of_methodNamed B.named
  have hlocks := B.notSynchronized
  have hw : xw_S D vwCl A s.heap w s.heap [] := xw_S0 hw
  have lo_2 : ∀ (n2 : Nat) (w : xw_T) (x0 : Nat) (x1 : Int32) (x2 : Int32) (x3 : Int32) (H : Heap) (locs : List Loc) (ls : Array Slot), lv_has ls 5 [(0, .ref x0), (1, .int x1), (2, .int x2), (3, .int x3)] → xw_S D vwCl A s.heap w H locs → wl_PL_firstOfKind_2 E post n2 w x0 x1 x2 x3 → W p l e (headSpec (xW yPL_firstOfKind cPL_firstOfKind 5 (some (.object "PostLedger$Account"))) ({ frames := 3, cells := 0, slots := 0, locals := 64 } : Room)).room s m ([.ref h0, .int p0, .int p1] : List Value).toArray below meth c H locs 0 0 (MQ below (va_Qq post (xB D A) A) ([.ref h0, .int p0, .int p1] : List Value).toArray s 0 0 A) (F0 m 2 ls []) := by
    intro n2
    induction n2 with
    | zero => intro w x0 x1 x2 x3 H locs ls hl hw h; exact h.elim
    | succ n2 ih2 =>
      intro w x0 x1 x2 x3 H locs ls hl hw h
      dsimp only [wl_PL_firstOfKind_2] at h
      refine lv_iload_n hx hb dPL_firstOfKind_2 rfl (lv_at hl 3 rfl) ?_
      refine lv_aload_n hx hb dPL_firstOfKind_3 rfl (lv_at hl 0 rfl) ?_
      obtain ⟨v1, hv, h⟩ := h
      refine xw_getR (C := RPL) (T := TPL) (N := 4) (ref := RPL) hx hb hts inPL hown hK hw rfl 0 (by decide) (hts _ mw_23) (fun _ h9 => h9) hv dPL_firstOfKind_4 ?_
      obtain ⟨a2, rfl, h⟩ := h
      obtain ⟨⟨fs, hk⟩, h⟩ := h
      have hcall := h
      clear h
      refine xw_calli (va_runV (As := []) (rest := [.int x3]) ⟨hx, hb, hml, hown, hts⟩ (c_AL_size l D E A _ w a2 hcall) (cwV 0 hts (xG_V mw_78 mw_79 mw_80 mw_19 mw_81) rfl rfl rfl (by decide +kernel) ⟨(Nat.le_of_ble_eq_true rfl), (Nat.le_of_ble_eq_true rfl)⟩) (xw_preV (ci := 0) hw hK hE rfl hk) rfl rfl hl.1 rfl (lv_room (by first | exact Nat.le_of_ble_eq_true rfl | simp [va_rf_cat, xcat_i, xcat_l, xcat_r, xcat_n])) dPL_firstOfKind_7 ⟨(Nat.le_of_ble_eq_true rfl), (Nat.le_of_ble_eq_true rfl)⟩) hw (fun r3 w4 H locs h hw => ?_)
      clear hcall
      refine lv_icmp_ge (tgt := 45) hx hb dPL_firstOfKind_10 rfl (fun hc => ?_) (fun hc => ?_)
      · replace h := h.1 hc
        refine lv_null hx hb dPL_firstOfKind_45 ?_
        refine W.widen (k := 0) (n := 0) (Nat.le_of_ble_eq_true rfl) (Nat.le_of_ble_eq_true rfl) ?_
        exact xw_aret (r := none) (Or.inl ⟨_, rfl⟩) hx hb hr hlocks hw h dPL_firstOfKind_46
      · replace h := h.2 hc
        refine lv_aload_n hx hb dPL_firstOfKind_13 rfl (lv_at hl 0 rfl) ?_
        obtain ⟨v5, hv, h⟩ := h
        refine xw_getR (C := RPL) (T := TPL) (N := 4) (ref := RPL) hx hb hts inPL hown hK hw rfl 0 (by decide) (hts _ mw_23) (fun _ h9 => h9) hv dPL_firstOfKind_14 ?_
        refine lv_iload_n hx hb dPL_firstOfKind_17 rfl (lv_at hl 3 rfl) ?_
        obtain ⟨a6, rfl, h⟩ := h
        obtain ⟨⟨fs, hk⟩, h⟩ := h
        have hcall := h
        clear h
        refine xw_callq (va_runV (As := [.int x3]) (rest := []) ⟨hx, hb, hml, hown, hts⟩ (c_AL_get l D E A _ w4 a6 x3 hcall) (cwV 1 hts (xG_V mw_138 mw_139 mw_140 mw_19 mw_141) rfl rfl rfl (by decide +kernel) ⟨(Nat.le_of_ble_eq_true rfl), (Nat.le_of_ble_eq_true rfl)⟩) (xw_preV (ci := 0) hw hK hE rfl hk) rfl rfl hl.1 rfl (lv_room (by first | exact Nat.le_of_ble_eq_true rfl | simp [va_rf_cat, xcat_i, xcat_l, xcat_r, xcat_n])) dPL_firstOfKind_18 ⟨(Nat.le_of_ble_eq_true rfl), (Nat.le_of_ble_eq_true rfl)⟩) hw (fun r7 w8 H locs h hw => ?_)
        clear hcall
        obtain ⟨a9, rfl, h⟩ := h
        obtain ⟨⟨fs, hk⟩, h⟩ := h
        refine va_castS hx hb hown (hts _ mw_90) (hK.1 1 _ rfl).2 (xw_recv hK hw (ci := 1) rfl hk) dPL_firstOfKind_21 ?_
        refine lv_astore (i := 4) (lv' := [(4, .ref a9), (0, .ref x0), (1, .int x1), (2, .int x2), (3, .int x3)]) hx hb dPL_firstOfKind_24 hl (by decide) (by first | rfl | simp [va_rf_cat, xcat_i, xcat_l, xcat_r, xcat_n]) (fun ls hl => ?_)
        refine lv_aload hx hb dPL_firstOfKind_26 (lv_at hl 0 rfl) ?_
        refine lv_iload_n hx hb dPL_firstOfKind_28 rfl (lv_at hl 2 rfl) ?_
        refine lv_iload_n hx hb dPL_firstOfKind_29 rfl (lv_at hl 3 rfl) ?_
        obtain ⟨⟨fs, hk⟩, h⟩ := h
        have hcall := h
        clear h
        refine xw_calli (va_runV (As := [.int x1, .int x2]) (rest := []) ⟨hx, hb, hml, hown, hts⟩ (c_AC_isOfKind l D E A _ w8 a9 x1 x2 hcall) (cwV 2 hts (xG_V mw_217 mw_218 mw_219 mw_88 mw_220) rfl rfl rfl (by decide +kernel) ⟨(Nat.le_of_ble_eq_true rfl), (Nat.le_of_ble_eq_true rfl)⟩) (xw_preV (ci := 1) hw hK hE rfl hk) rfl rfl hl.1 rfl (lv_room (by first | exact Nat.le_of_ble_eq_true rfl | simp [va_rf_cat, xcat_i, xcat_l, xcat_r, xcat_n])) dPL_firstOfKind_30 ⟨(Nat.le_of_ble_eq_true rfl), (Nat.le_of_ble_eq_true rfl)⟩) hw (fun r10 w11 H locs h hw => ?_)
        clear hcall
        refine lv_if_eq (tgt := 39) hx hb dPL_firstOfKind_33 rfl (fun hc => ?_) (fun hc => ?_)
        · replace h := h.1 hc
          refine lv_iinc (k := 4) (v := x3 + 1) (lv' := [(3, .int (x3 + 1)), (4, .ref a9), (0, .ref x0), (1, .int x1), (2, .int x2)]) hx hb dPL_firstOfKind_39 hl rfl rfl (by decide) (by first | rfl | simp [va_rf_cat, xcat_i, xcat_l, xcat_r, xcat_n]) (fun ls hl => ?_)
          refine lv_goto (tgt := 2) hx hb dPL_firstOfKind_42 rfl ?_
          exact ih2 _ x0 x1 x2 (x3 + 1) _ _ _ (lv_sub hl [2, 3, 4, 0] rfl) hw h
        · replace h := h.2 hc
          refine lv_aload hx hb dPL_firstOfKind_36 (lv_at hl 0 rfl) ?_
          refine W.widen (k := 0) (n := 0) (Nat.le_of_ble_eq_true rfl) (Nat.le_of_ble_eq_true rfl) ?_
          exact xw_aret (r := (some a9)) (Or.inl ⟨_, rfl⟩) hx hb hr hlocks hw h dPL_firstOfKind_38
  refine xl_start (lvs := [(0, .ref h0), (1, .int p0), (2, .int p1)]) (by first | exact Nat.le_of_ble_eq_true rfl | simp [lg_sl, va_rf_cat, xcat_i, xcat_l, xcat_r, xcat_n]) (by first | rfl | simp [lv_args, va_rf_cat, xcat_i, xcat_l, xcat_r, xcat_n]) (fun ls hl => ?_)
  unfold wp_PL_firstOfKind at h
  refine lv_iconst (v := 0) hx hb dPL_firstOfKind_0 (by decide) ?_
  refine lv_istore_n (i := 3) (lv' := [(3, .int 0), (0, .ref h0), (1, .int p0), (2, .int p1)]) hx hb dPL_firstOfKind_1 rfl hl (by decide) (by first | rfl | simp [va_rf_cat, xcat_i, xcat_l, xcat_r, xcat_n]) (fun ls hl => ?_)
  obtain ⟨n2, h⟩ := h
  refine W.widen (k := 0) (n := 0) (Nat.le_of_ble_eq_true rfl) (Nat.le_of_ble_eq_true rfl) ?_
  exact lo_2 n2 _ h0 p0 p1 0 _ _ _ (lv_sub hl [1, 2, 3, 0] rfl) hw h
def wp_PL_stock (E : xE_T) (post : Int32 → xw_T → Prop) (w : xw_T) (h0 : Nat) (p0 : Int32) (p1 : Int32) (p2 : Int64) : Prop := wp_PL_isOffice E (fun r1 w2 => (r1 = 0 → (post (-2000000002) w2)) ∧ (¬ r1 = 0 → ((p1 < 0 → (post (-2000000002) w2)) ∧ (¬ p1 < 0 → ((5 ≤ p1 → (post (-2000000002) w2)) ∧ (¬ 5 ≤ p1 → (wp_PL_isWithin E (fun r3 w4 => (¬ r3 = 0 → ((∃ fs, w4 h0 = some (.inr (4, fs))) ∧ wp_PL_totalOfKind E (fun r5 w6 => (¬ (p2 - r5) = 0 → ((∃ fs, w6 h0 = some (.inr (4, fs))) ∧ wp_PL_firstOfKind E (fun r7 w8 => (∃ fs, w8 h0 = some (.inr (4, fs))) ∧ wp_PL_firstOfKind E (fun r9 w10 => (r7 = none → (post (-2000000003) w10)) ∧ (¬ r7 = none → ((r9 = none → (post (-2000000003) w10)) ∧ (¬ r9 = none → (wp_PL_isWithin E (fun r11 w12 => (¬ r11 = 0 → ((∃ fs, w12 h0 = some (.inr (4, fs))) ∧ wp_PL_hasRoomForBatch E (fun r13 w14 => (¬ r13 = 0 → (∀ q15 : Nat, (w14 q15 = none ∧ q15 ≠ E.2 6) → ∀ w16, w16 = va_up w14 q15 (some (.inr (2, [.int 0, .null, .null, .int 0, .int 0, .int 0]))) → (∃ v17, xgI w16 h0 4 2 = some v17 ∧ (wp_BA_init E (fun w19 => (∃ fs, w19 q15 = some (.inr (2, fs))) ∧ wp_BA_addRow E (fun w21 => (∃ fs, w21 q15 = some (.inr (2, fs))) ∧ wp_BA_addRow E (fun w23 => ∃ v24, xgR w23 h0 4 1 = some v24 ∧ (∃ a25 : Nat, v24 = some a25 ∧ ((∃ fs, w23 a25 = some (.inr (0, fs))) ∧ wp_AL_add E (fun r26 w27 => (∃ fs, w27 h0 = some (.inr (4, fs))) ∧ wp_PL_enterIntoBooks E (fun w29 => post ((p2 - r5).toInt32) w29) w27 h0 (some q15)) w23 a25 (some q15)))) w21 q15 r9 (-(p2 - r5))) w19 q15 r7 (p2 - r5)) w16 q15 v17)))) ∧ (r13 = 0 → (post (-2000000004) w14))) w12 h0)) ∧ (r11 = 0 → (post (-2000000003) w12))) w10 (p2 - r5) (-1000000000) 1000000000))))) w8 h0 p0 5) w6 h0 p0 p1)) ∧ ((p2 - r5) = 0 → (post 0 w6))) w4 h0 p0 p1)) ∧ (r3 = 0 → (post (-2000000002) w4))) w2 p2 (-100000000) 100000000))))))) w p0
set_option maxHeartbeats 4000000 in
set_option maxRecDepth 100000 in
theorem c_PL_stock (l : Launch) (D : va_G) (E : xE_T) (A : Nat → Prop) (post : Int32 → xw_T → Prop) (w : xw_T) (h0 : Nat) (p0 : Int32) (p1 : Int32) (p2 : Int64) (h : wp_PL_stock E post w h0 p0 p1 p2) : Met l yPL_stock (xW yPL_stock cPL_stock 10 (some (.int))) ({ frames := 8, cells := 7, slots := 1111, locals := 172 } : Room) (va_Pc [.ref h0, .int p0, .int p1, .long p2] (xP D E A w)) (va_Qi post (xB D A) A) 7 1111 A := by
  refine Met.ofW (cc := cPL_stock) (maxL := 10) (ret := (some (.int))) (by decide) rfl ?_
  intro p e s m args below meth c s₁ B hml hv
  obtain ⟨rfl, hw, hK, hE⟩ := hv
  have hx := B.exec
  have hb := B.bytes
  have hr := B.returns
  have hts : ∀ w ∈ xTB, w.before _ s = true := fun w hw => atoms_spec (ws := xW yPL_stock cPL_stock 10 (some (.int))) B.pre w (List.mem_cons_of_mem _ hw)
  have hown : s.vm.findClass RPL = some m.cls := findClass_of_methodNamed B.named
  have hlocks := B.notSynchronized
  have hw : xw_S D vwCl A s.heap w s.heap [] := xw_S0 hw
  refine xl_start (lvs := [(0, .ref h0), (1, .int p0), (2, .int p1), (3, .long p2)]) (by first | exact Nat.le_of_ble_eq_true rfl | simp [lg_sl, va_rf_cat, xcat_i, xcat_l, xcat_r, xcat_n]) (by first | rfl | simp [lv_args, va_rf_cat, xcat_i, xcat_l, xcat_r, xcat_n]) (fun ls hl => ?_)
  unfold wp_PL_stock at h
  refine lv_iload_n hx hb dPL_stock_0 rfl (lv_at hl 1 rfl) ?_
  have hcall := h
  clear h
  refine xw_calli (va_runS (As := [.int p0]) (rest := []) ⟨hx, hb, hml, hown, hts⟩ (c_PL_isOffice l D E A _ w p0 hcall) (va_cwS 1 hts (xG_S mw_93 mw_94 mw_95 mw_96) rfl rfl rfl (by decide +kernel) ⟨(Nat.le_of_ble_eq_true rfl), (Nat.le_of_ble_eq_true rfl)⟩) (xw_preS hw hK hE) rfl rfl hl.1 rfl (lv_room (by first | exact Nat.le_of_ble_eq_true rfl | simp [va_rf_cat, xcat_i, xcat_l, xcat_r, xcat_n])) dPL_stock_1 ⟨(Nat.le_of_ble_eq_true rfl), (Nat.le_of_ble_eq_true rfl)⟩) hw (fun r1 w2 H locs h hw => ?_)
  clear hcall
  refine lv_if_eq (tgt := 29) hx hb dPL_stock_4 rfl (fun hc => ?_) (fun hc => ?_)
  · replace h := h.1 hc
    refine lv_ldc (v := (-2000000002)) hx hb hown (hts _ mw_77) dPL_stock_29 ?_
    refine W.widen (k := 7) (n := 1111) (Nat.le_of_ble_eq_true rfl) (Nat.le_of_ble_eq_true rfl) ?_
    exact xw_iret hx hb hr hlocks hw h dPL_stock_31
  · replace h := h.2 hc
    refine lv_iload_n hx hb dPL_stock_7 rfl (lv_at hl 2 rfl) ?_
    refine lv_if_lt (tgt := 29) hx hb dPL_stock_8 rfl (fun hc => ?_) (fun hc => ?_)
    · replace h := h.1 hc
      refine lv_ldc (v := (-2000000002)) hx hb hown (hts _ mw_77) dPL_stock_29 ?_
      refine W.widen (k := 7) (n := 1111) (Nat.le_of_ble_eq_true rfl) (Nat.le_of_ble_eq_true rfl) ?_
      exact xw_iret hx hb hr hlocks hw h dPL_stock_31
    · replace h := h.2 hc
      refine lv_iload_n hx hb dPL_stock_11 rfl (lv_at hl 2 rfl) ?_
      refine lv_iconst (v := 5) hx hb dPL_stock_12 (by decide) ?_
      refine lv_icmp_ge (tgt := 29) hx hb dPL_stock_13 rfl (fun hc => ?_) (fun hc => ?_)
      · replace h := h.1 hc
        refine lv_ldc (v := (-2000000002)) hx hb hown (hts _ mw_77) dPL_stock_29 ?_
        refine W.widen (k := 7) (n := 1111) (Nat.le_of_ble_eq_true rfl) (Nat.le_of_ble_eq_true rfl) ?_
        exact xw_iret hx hb hr hlocks hw h dPL_stock_31
      · replace h := h.2 hc
        refine lv_lload_n hx hb dPL_stock_16 rfl (lv_at hl 3 rfl) ?_
        refine lv_ldc2 (v := (-100000000)) hx hb hown (hts _ mw_158) dPL_stock_17 ?_
        refine lv_ldc2 (v := 100000000) hx hb hown (hts _ mw_157) dPL_stock_20 ?_
        have hcall := h
        clear h
        refine xw_calli (va_runS (As := [.long p2, .long (-100000000), .long 100000000]) (rest := []) ⟨hx, hb, hml, hown, hts⟩ (c_PL_isWithin l D E A _ w2 p2 (-100000000) 100000000 hcall) (va_cwS 3 hts (xG_S mw_97 mw_98 mw_95 mw_99) rfl rfl rfl (by decide +kernel) ⟨(Nat.le_of_ble_eq_true rfl), (Nat.le_of_ble_eq_true rfl)⟩) (xw_preS hw hK hE) rfl rfl hl.1 rfl (lv_room (by first | exact Nat.le_of_ble_eq_true rfl | simp [va_rf_cat, xcat_i, xcat_l, xcat_r, xcat_n])) dPL_stock_23 ⟨(Nat.le_of_ble_eq_true rfl), (Nat.le_of_ble_eq_true rfl)⟩) hw (fun r3 w4 H locs h hw => ?_)
        clear hcall
        refine lv_if_ne (tgt := 32) hx hb dPL_stock_26 rfl (fun hc => ?_) (fun hc => ?_)
        · replace h := h.1 hc
          refine lv_lload_n hx hb dPL_stock_32 rfl (lv_at hl 3 rfl) ?_
          refine lv_aload_n hx hb dPL_stock_33 rfl (lv_at hl 0 rfl) ?_
          refine lv_iload_n hx hb dPL_stock_34 rfl (lv_at hl 1 rfl) ?_
          refine lv_iload_n hx hb dPL_stock_35 rfl (lv_at hl 2 rfl) ?_
          obtain ⟨⟨fs, hk⟩, h⟩ := h
          have hcall := h
          clear h
          refine xw_calll (va_runV (As := [.int p0, .int p1]) (rest := [.long p2]) ⟨hx, hb, hml, hown, hts⟩ (c_PL_totalOfKind l D E A _ w4 h0 p0 p1 hcall) (cwV 2 hts (xG_V mw_227 mw_228 mw_229 mw_95 mw_230) rfl rfl rfl (by decide +kernel) ⟨(Nat.le_of_ble_eq_true rfl), (Nat.le_of_ble_eq_true rfl)⟩) (xw_preV (ci := 4) hw hK hE rfl hk) rfl rfl hl.1 rfl (lv_room (by first | exact Nat.le_of_ble_eq_true rfl | simp [va_rf_cat, xcat_i, xcat_l, xcat_r, xcat_n])) dPL_stock_36 ⟨(Nat.le_of_ble_eq_true rfl), (Nat.le_of_ble_eq_true rfl)⟩) hw (fun r5 w6 H locs h hw => ?_)
          clear hcall
          refine lv_lsub hx hb dPL_stock_39 ?_
          refine lv_lstore (i := 5) (lv' := [(5, .long (p2 - r5)), (0, .ref h0), (1, .int p0), (2, .int p1), (3, .long p2)]) hx hb dPL_stock_40 hl (by decide) (by first | rfl | simp [va_rf_cat, xcat_i, xcat_l, xcat_r, xcat_n]) (fun ls hl => ?_)
          refine lv_lload hx hb dPL_stock_42 (lv_at hl 0 rfl) ?_
          refine lv_lconst (v := 0) hx hb dPL_stock_44 (by decide) ?_
          refine xl_lc_ne (tgt := 51) hx hb dPL_stock_45 dPL_stock_46 rfl (fun hc => ?_) (fun hc => ?_)
          · replace h := h.1 hc
            refine lv_aload_n hx hb dPL_stock_51 rfl (lv_at hl 1 rfl) ?_
            refine lv_iload_n hx hb dPL_stock_52 rfl (lv_at hl 2 rfl) ?_
            refine lv_iload_n hx hb dPL_stock_53 rfl (lv_at hl 3 rfl) ?_
            obtain ⟨⟨fs, hk⟩, h⟩ := h
            have hcall := h
            clear h
            refine xw_callq (va_runV (As := [.int p0, .int p1]) (rest := []) ⟨hx, hb, hml, hown, hts⟩ (c_PL_firstOfKind l D E A _ w6 h0 p0 p1 hcall) (cwV 2 hts (xG_V mw_223 mw_224 mw_225 mw_95 mw_226) rfl rfl rfl (by decide +kernel) ⟨(Nat.le_of_ble_eq_true rfl), (Nat.le_of_ble_eq_true rfl)⟩) (xw_preV (ci := 4) hw hK hE rfl hk) rfl rfl hl.1 rfl (lv_room (by first | exact Nat.le_of_ble_eq_true rfl | simp [va_rf_cat, xcat_i, xcat_l, xcat_r, xcat_n])) dPL_stock_54 ⟨(Nat.le_of_ble_eq_true rfl), (Nat.le_of_ble_eq_true rfl)⟩) hw (fun r7 w8 H locs h hw => ?_)
            clear hcall
            refine xl_astore (i := 7) (lv' := [(7, va_rf r7), (5, .long (p2 - r5)), (0, .ref h0), (1, .int p0), (2, .int p1), (3, .long p2)]) hx hb dPL_stock_57 hl (by decide) (by first | rfl | simp [va_rf_cat, xcat_i, xcat_l, xcat_r, xcat_n]) (fun ls hl => ?_)
            refine lv_aload_n hx hb dPL_stock_59 rfl (lv_at hl 2 rfl) ?_
            refine lv_iload_n hx hb dPL_stock_60 rfl (lv_at hl 3 rfl) ?_
            refine lv_iconst (v := 5) hx hb dPL_stock_61 (by decide) ?_
            obtain ⟨⟨fs, hk⟩, h⟩ := h
            have hcall := h
            clear h
            refine xw_callq (va_runV (As := [.int p0, .int 5]) (rest := []) ⟨hx, hb, hml, hown, hts⟩ (c_PL_firstOfKind l D E A _ w8 h0 p0 5 hcall) (cwV 2 hts (xG_V mw_223 mw_224 mw_225 mw_95 mw_226) rfl rfl rfl (by decide +kernel) ⟨(Nat.le_of_ble_eq_true rfl), (Nat.le_of_ble_eq_true rfl)⟩) (xw_preV (ci := 4) hw hK hE rfl hk) rfl rfl hl.1 rfl (lv_room (by first | exact Nat.le_of_ble_eq_true rfl | simp [va_rf_cat, xcat_i, xcat_l, xcat_r, xcat_n])) dPL_stock_62 ⟨(Nat.le_of_ble_eq_true rfl), (Nat.le_of_ble_eq_true rfl)⟩) hw (fun r9 w10 H locs h hw => ?_)
            clear hcall
            refine xl_astore (i := 8) (lv' := [(8, va_rf r9), (7, va_rf r7), (5, .long (p2 - r5)), (0, .ref h0), (1, .int p0), (2, .int p1), (3, .long p2)]) hx hb dPL_stock_65 hl (by decide) (by first | rfl | simp [va_rf_cat, xcat_i, xcat_l, xcat_r, xcat_n]) (fun ls hl => ?_)
            refine xl_aload hx hb dPL_stock_67 (lv_at hl 1 rfl) ?_
            refine xl_ifnull (tgt := 91) hx hb dPL_stock_69 rfl (fun hc => ?_) (fun hc => ?_)
            · replace h := h.1 hc
              refine lv_ldc (v := (-2000000003)) hx hb hown (hts _ mw_118) dPL_stock_91 ?_
              refine W.widen (k := 7) (n := 1111) (Nat.le_of_ble_eq_true rfl) (Nat.le_of_ble_eq_true rfl) ?_
              exact xw_iret hx hb hr hlocks hw h dPL_stock_93
            · replace h := h.2 hc
              refine xl_aload hx hb dPL_stock_72 (lv_at hl 0 rfl) ?_
              refine xl_ifnull (tgt := 91) hx hb dPL_stock_74 rfl (fun hc => ?_) (fun hc => ?_)
              · replace h := h.1 hc
                refine lv_ldc (v := (-2000000003)) hx hb hown (hts _ mw_118) dPL_stock_91 ?_
                refine W.widen (k := 7) (n := 1111) (Nat.le_of_ble_eq_true rfl) (Nat.le_of_ble_eq_true rfl) ?_
                exact xw_iret hx hb hr hlocks hw h dPL_stock_93
              · replace h := h.2 hc
                refine lv_lload hx hb dPL_stock_77 (lv_at hl 2 rfl) ?_
                refine lv_ldc2 (v := (-1000000000)) hx hb hown (hts _ mw_222) dPL_stock_79 ?_
                refine lv_ldc2 (v := 1000000000) hx hb hown (hts _ mw_221) dPL_stock_82 ?_
                have hcall := h
                clear h
                refine xw_calli (va_runS (As := [.long (p2 - r5), .long (-1000000000), .long 1000000000]) (rest := []) ⟨hx, hb, hml, hown, hts⟩ (c_PL_isWithin l D E A _ w10 (p2 - r5) (-1000000000) 1000000000 hcall) (va_cwS 3 hts (xG_S mw_97 mw_98 mw_95 mw_99) rfl rfl rfl (by decide +kernel) ⟨(Nat.le_of_ble_eq_true rfl), (Nat.le_of_ble_eq_true rfl)⟩) (xw_preS hw hK hE) rfl rfl hl.1 rfl (lv_room (by first | exact Nat.le_of_ble_eq_true rfl | simp [va_rf_cat, xcat_i, xcat_l, xcat_r, xcat_n])) dPL_stock_85 ⟨(Nat.le_of_ble_eq_true rfl), (Nat.le_of_ble_eq_true rfl)⟩) hw (fun r11 w12 H locs h hw => ?_)
                clear hcall
                refine lv_if_ne (tgt := 94) hx hb dPL_stock_88 rfl (fun hc => ?_) (fun hc => ?_)
                · replace h := h.1 hc
                  refine lv_aload_n hx hb dPL_stock_94 rfl (lv_at hl 3 rfl) ?_
                  obtain ⟨⟨fs, hk⟩, h⟩ := h
                  have hcall := h
                  clear h
                  refine xw_calli (va_runV (As := []) (rest := []) ⟨hx, hb, hml, hown, hts⟩ (c_PL_hasRoomForBatch l D E A _ w12 h0 hcall) (cwV 0 hts (xG_V mw_114 mw_115 mw_116 mw_95 mw_117) rfl rfl rfl (by decide +kernel) ⟨(Nat.le_of_ble_eq_true rfl), (Nat.le_of_ble_eq_true rfl)⟩) (xw_preV (ci := 4) hw hK hE rfl hk) rfl rfl hl.1 rfl (lv_room (by first | exact Nat.le_of_ble_eq_true rfl | simp [va_rf_cat, xcat_i, xcat_l, xcat_r, xcat_n])) dPL_stock_95 ⟨(Nat.le_of_ble_eq_true rfl), (Nat.le_of_ble_eq_true rfl)⟩) hw (fun r13 w14 H locs h hw => ?_)
                  clear hcall
                  refine lv_if_ne (tgt := 104) hx hb dPL_stock_98 rfl (fun hc => ?_) (fun hc => ?_)
                  · replace h := h.1 hc
                    refine xw_new (ci := 2) (fs := [.int 0, .null, .null, .int 0, .int 0, .int 0]) (C := RBA) (T := TBA) (N := 6) hx hb hts inBA tyBA tyBA_ok hown (hts _ mw_112) (hts _ mw_113) (hts _ mw_110) hK hw rfl (by decide +kernel) (Nat.le_of_ble_eq_true rfl) (Nat.le_of_ble_eq_true rfl) dPL_stock_104 (fun q15 H hq hqA hw => ?_)
                    replace h := h _ ⟨hq, xq6 hE hqA⟩ _ rfl
                    generalize va_up w14 q15 (some (.inr (2, [.int 0, .null, .null, .int 0, .int 0, .int 0]))) = w16 at hw h
                    refine lv_dup hx hb dPL_stock_107 rfl ?_
                    refine lv_aload_n hx hb dPL_stock_108 rfl (lv_at hl 3 rfl) ?_
                    obtain ⟨v17, hv, h⟩ := h
                    refine xw_getI (C := RPL) (T := TPL) (N := 4) (ref := RPL) hx hb hts inPL hown hK hw rfl 2 (by decide) (hts _ mw_15) (fun _ h9 => h9) hv dPL_stock_109 ?_
                    have hcall := h
                    clear h
                    refine xw_callv (va_runI (As := [.int v17]) (rest := [.ref q15]) ⟨hx, hb, hml, hown, hts⟩ (c_BA_init l D E A _ w16 q15 v17 hcall) (cwI 1 hts (xG_I mw_109) rfl rfl rfl (hts _ mw_110) (hts _ mw_108) (hts _ mw_111) rfl (by decide +kernel) ⟨(Nat.le_of_ble_eq_true rfl), (Nat.le_of_ble_eq_true rfl)⟩) (xw_preS hw hK hE) rfl rfl hl.1 rfl (lv_room (by first | exact Nat.le_of_ble_eq_true rfl | simp [va_rf_cat, xcat_i, xcat_l, xcat_r, xcat_n])) dPL_stock_112 ⟨(Nat.le_of_ble_eq_true rfl), (Nat.le_of_ble_eq_true rfl)⟩) hw (fun w19 H locs h hw => ?_)
                    clear hcall
                    refine lv_astore (i := 9) (lv' := [(9, .ref q15), (8, va_rf r9), (7, va_rf r7), (5, .long (p2 - r5)), (0, .ref h0), (1, .int p0), (2, .int p1), (3, .long p2)]) hx hb dPL_stock_115 hl (by decide) (by first | rfl | simp [va_rf_cat, xcat_i, xcat_l, xcat_r, xcat_n]) (fun ls hl => ?_)
                    refine lv_aload hx hb dPL_stock_117 (lv_at hl 0 rfl) ?_
                    refine xl_aload hx hb dPL_stock_119 (lv_at hl 2 rfl) ?_
                    refine lv_lload hx hb dPL_stock_121 (lv_at hl 3 rfl) ?_
                    obtain ⟨⟨fs, hk⟩, h⟩ := h
                    have hcall := h
                    clear h
                    refine xw_callv (va_runV (As := [va_rf r7, .long (p2 - r5)]) (rest := []) ⟨hx, hb, hml, hown, hts⟩ (c_BA_addRow l D E A _ w19 q15 r7 (p2 - r5) hcall) (cwV 2 hts (xG_V mw_153 mw_154 mw_155 mw_110 mw_156) rfl rfl rfl (by decide +kernel) ⟨(Nat.le_of_ble_eq_true rfl), (Nat.le_of_ble_eq_true rfl)⟩) (xw_preV (ci := 2) hw hK hE rfl hk) rfl rfl hl.1 rfl (lv_room (by first | exact Nat.le_of_ble_eq_true rfl | simp [va_rf_cat, xcat_i, xcat_l, xcat_r, xcat_n])) dPL_stock_123 ⟨(Nat.le_of_ble_eq_true rfl), (Nat.le_of_ble_eq_true rfl)⟩) hw (fun w21 H locs h hw => ?_)
                    clear hcall
                    refine lv_aload hx hb dPL_stock_126 (lv_at hl 0 rfl) ?_
                    refine xl_aload hx hb dPL_stock_128 (lv_at hl 1 rfl) ?_
                    refine lv_lload hx hb dPL_stock_130 (lv_at hl 3 rfl) ?_
                    refine lv_lneg hx hb dPL_stock_132 ?_
                    obtain ⟨⟨fs, hk⟩, h⟩ := h
                    have hcall := h
                    clear h
                    refine xw_callv (va_runV (As := [va_rf r9, .long (-(p2 - r5))]) (rest := []) ⟨hx, hb, hml, hown, hts⟩ (c_BA_addRow l D E A _ w21 q15 r9 (-(p2 - r5)) hcall) (cwV 2 hts (xG_V mw_153 mw_154 mw_155 mw_110 mw_156) rfl rfl rfl (by decide +kernel) ⟨(Nat.le_of_ble_eq_true rfl), (Nat.le_of_ble_eq_true rfl)⟩) (xw_preV (ci := 2) hw hK hE rfl hk) rfl rfl hl.1 rfl (lv_room (by first | exact Nat.le_of_ble_eq_true rfl | simp [va_rf_cat, xcat_i, xcat_l, xcat_r, xcat_n])) dPL_stock_133 ⟨(Nat.le_of_ble_eq_true rfl), (Nat.le_of_ble_eq_true rfl)⟩) hw (fun w23 H locs h hw => ?_)
                    clear hcall
                    refine lv_aload_n hx hb dPL_stock_136 rfl (lv_at hl 4 rfl) ?_
                    obtain ⟨v24, hv, h⟩ := h
                    refine xw_getR (C := RPL) (T := TPL) (N := 4) (ref := RPL) hx hb hts inPL hown hK hw rfl 1 (by decide) (hts _ mw_16) (fun _ h9 => h9) hv dPL_stock_137 ?_
                    refine lv_aload hx hb dPL_stock_140 (lv_at hl 0 rfl) ?_
                    obtain ⟨a25, rfl, h⟩ := h
                    obtain ⟨⟨fs, hk⟩, h⟩ := h
                    have hcall := h
                    clear h
                    refine xw_calli (va_runV (As := [.ref q15]) (rest := []) ⟨hx, hb, hml, hown, hts⟩ (c_AL_add l D E A _ w23 a25 (some q15) hcall) (cwV 1 hts (xG_V mw_82 mw_83 mw_84 mw_19 mw_85) rfl rfl rfl (by decide +kernel) ⟨(Nat.le_of_ble_eq_true rfl), (Nat.le_of_ble_eq_true rfl)⟩) (xw_preV (ci := 0) hw hK hE rfl hk) rfl rfl hl.1 rfl (lv_room (by first | exact Nat.le_of_ble_eq_true rfl | simp [va_rf_cat, xcat_i, xcat_l, xcat_r, xcat_n])) dPL_stock_142 ⟨(Nat.le_of_ble_eq_true rfl), (Nat.le_of_ble_eq_true rfl)⟩) hw (fun r26 w27 H locs h hw => ?_)
                    clear hcall
                    refine lv_pop hx hb dPL_stock_145 rfl ?_
                    refine lv_aload_n hx hb dPL_stock_146 rfl (lv_at hl 4 rfl) ?_
                    refine lv_aload hx hb dPL_stock_147 (lv_at hl 0 rfl) ?_
                    obtain ⟨⟨fs, hk⟩, h⟩ := h
                    have hcall := h
                    clear h
                    refine xw_callv (va_runV (As := [.ref q15]) (rest := []) ⟨hx, hb, hml, hown, hts⟩ (c_PL_enterIntoBooks l D E A _ w27 h0 (some q15) hcall) (cwV 1 hts (xG_V mw_202 mw_203 mw_204 mw_95 mw_205) rfl rfl rfl (by decide +kernel) ⟨(Nat.le_of_ble_eq_true rfl), (Nat.le_of_ble_eq_true rfl)⟩) (xw_preV (ci := 4) hw hK hE rfl hk) rfl rfl hl.1 rfl (lv_room (by first | exact Nat.le_of_ble_eq_true rfl | simp [va_rf_cat, xcat_i, xcat_l, xcat_r, xcat_n])) dPL_stock_149 ⟨(Nat.le_of_ble_eq_true rfl), (Nat.le_of_ble_eq_true rfl)⟩) hw (fun w29 H locs h hw => ?_)
                    clear hcall
                    refine lv_lload hx hb dPL_stock_152 (lv_at hl 3 rfl) ?_
                    refine lv_l2i hx hb dPL_stock_154 rfl ?_
                    refine W.widen (k := 7) (n := 1111) (Nat.le_of_ble_eq_true rfl) (Nat.le_of_ble_eq_true rfl) ?_
                    exact xw_iret hx hb hr hlocks hw h dPL_stock_155
                  · replace h := h.2 hc
                    refine lv_ldc (v := (-2000000004)) hx hb hown (hts _ mw_92) dPL_stock_101 ?_
                    refine W.widen (k := 7) (n := 1111) (Nat.le_of_ble_eq_true rfl) (Nat.le_of_ble_eq_true rfl) ?_
                    exact xw_iret hx hb hr hlocks hw h dPL_stock_103
                · replace h := h.2 hc
                  refine lv_ldc (v := (-2000000003)) hx hb hown (hts _ mw_118) dPL_stock_91 ?_
                  refine W.widen (k := 7) (n := 1111) (Nat.le_of_ble_eq_true rfl) (Nat.le_of_ble_eq_true rfl) ?_
                  exact xw_iret hx hb hr hlocks hw h dPL_stock_93
          · replace h := h.2 hc
            refine lv_iconst (v := 0) hx hb dPL_stock_49 (by decide) ?_
            refine W.widen (k := 7) (n := 1111) (Nat.le_of_ble_eq_true rfl) (Nat.le_of_ble_eq_true rfl) ?_
            exact xw_iret hx hb hr hlocks hw h dPL_stock_50
        · replace h := h.2 hc
          refine lv_ldc (v := (-2000000002)) hx hb hown (hts _ mw_77) dPL_stock_29 ?_
          refine W.widen (k := 7) (n := 1111) (Nat.le_of_ble_eq_true rfl) (Nat.le_of_ble_eq_true rfl) ?_
          exact xw_iret hx hb hr hlocks hw h dPL_stock_31
def wp_PL_limit (E : xE_T) (post : Int32 → xw_T → Prop) (w : xw_T) (h0 : Nat) (p0 : Int32) (p1 : Int64) : Prop := (∃ fs, w h0 = some (.inr (4, fs))) ∧ wp_PL_findAccount E (fun r1 w2 => (¬ r1 = none → (wp_PL_isWithin E (fun r3 w4 => (¬ r3 = 0 → (∃ a5 : Nat, r1 = some a5 ∧ (∃ v6, xgI w4 a5 1 2 = some v6 ∧ ((∃ v0, xg w4 a5 1 2 = some v0) ∧ ∀ w7, w7 = xp w4 a5 2 (.int p1.toInt32) → (post v6 w7))))) ∧ (r3 = 0 → (post (-2000000002) w4))) w2 p1 0 100000000)) ∧ (r1 = none → (post (-2000000001) w2))) w h0 p0
set_option maxHeartbeats 4000000 in
set_option maxRecDepth 100000 in
theorem c_PL_limit (l : Launch) (D : va_G) (E : xE_T) (A : Nat → Prop) (post : Int32 → xw_T → Prop) (w : xw_T) (h0 : Nat) (p0 : Int32) (p1 : Int64) (h : wp_PL_limit E post w h0 p0 p1) : Met l yPL_limit (xW yPL_limit cPL_limit 6 (some (.int))) ({ frames := 4, cells := 0, slots := 0, locals := 85 } : Room) (va_Pc [.ref h0, .int p0, .long p1] (xP D E A w)) (va_Qi post (xB D A) A) 0 0 A := by
  refine Met.ofW (cc := cPL_limit) (maxL := 6) (ret := (some (.int))) (by decide) rfl ?_
  intro p e s m args below meth c s₁ B hml hv
  obtain ⟨rfl, hw, hK, hE⟩ := hv
  have hx := B.exec
  have hb := B.bytes
  have hr := B.returns
  have hts : ∀ w ∈ xTB, w.before _ s = true := fun w hw => atoms_spec (ws := xW yPL_limit cPL_limit 6 (some (.int))) B.pre w (List.mem_cons_of_mem _ hw)
  have hown : s.vm.findClass RPL = some m.cls := findClass_of_methodNamed B.named
  have hlocks := B.notSynchronized
  have hw : xw_S D vwCl A s.heap w s.heap [] := xw_S0 hw
  refine xl_start (lvs := [(0, .ref h0), (1, .int p0), (2, .long p1)]) (by first | exact Nat.le_of_ble_eq_true rfl | simp [lg_sl, va_rf_cat, xcat_i, xcat_l, xcat_r, xcat_n]) (by first | rfl | simp [lv_args, va_rf_cat, xcat_i, xcat_l, xcat_r, xcat_n]) (fun ls hl => ?_)
  unfold wp_PL_limit at h
  refine lv_aload_n hx hb dPL_limit_0 rfl (lv_at hl 0 rfl) ?_
  refine lv_iload_n hx hb dPL_limit_1 rfl (lv_at hl 1 rfl) ?_
  obtain ⟨⟨fs, hk⟩, h⟩ := h
  have hcall := h
  clear h
  refine xw_callq (va_runV (As := [.int p0]) (rest := []) ⟨hx, hb, hml, hown, hts⟩ (c_PL_findAccount l D E A _ w h0 p0 hcall) (cwV 1 hts (xG_V mw_167 mw_168 mw_169 mw_95 mw_170) rfl rfl rfl (by decide +kernel) ⟨(Nat.le_of_ble_eq_true rfl), (Nat.le_of_ble_eq_true rfl)⟩) (xw_preV (ci := 4) hw hK hE rfl hk) rfl rfl hl.1 rfl (lv_room (by first | exact Nat.le_of_ble_eq_true rfl | simp [va_rf_cat, xcat_i, xcat_l, xcat_r, xcat_n])) dPL_limit_2 ⟨(Nat.le_of_ble_eq_true rfl), (Nat.le_of_ble_eq_true rfl)⟩) hw (fun r1 w2 H locs h hw => ?_)
  clear hcall
  refine xl_astore (i := 4) (lv' := [(4, va_rf r1), (0, .ref h0), (1, .int p0), (2, .long p1)]) hx hb dPL_limit_5 hl (by decide) (by first | rfl | simp [va_rf_cat, xcat_i, xcat_l, xcat_r, xcat_n]) (fun ls hl => ?_)
  refine xl_aload hx hb dPL_limit_7 (lv_at hl 0 rfl) ?_
  refine xl_ifnonnull (tgt := 15) hx hb dPL_limit_9 rfl (fun hc => ?_) (fun hc => ?_)
  · replace h := h.1 hc
    refine lv_lload_n hx hb dPL_limit_15 rfl (lv_at hl 3 rfl) ?_
    refine lv_lconst (v := 0) hx hb dPL_limit_16 (by decide) ?_
    refine lv_ldc2 (v := 100000000) hx hb hown (hts _ mw_157) dPL_limit_17 ?_
    have hcall := h
    clear h
    refine xw_calli (va_runS (As := [.long p1, .long 0, .long 100000000]) (rest := []) ⟨hx, hb, hml, hown, hts⟩ (c_PL_isWithin l D E A _ w2 p1 0 100000000 hcall) (va_cwS 3 hts (xG_S mw_97 mw_98 mw_95 mw_99) rfl rfl rfl (by decide +kernel) ⟨(Nat.le_of_ble_eq_true rfl), (Nat.le_of_ble_eq_true rfl)⟩) (xw_preS hw hK hE) rfl rfl hl.1 rfl (lv_room (by first | exact Nat.le_of_ble_eq_true rfl | simp [va_rf_cat, xcat_i, xcat_l, xcat_r, xcat_n])) dPL_limit_20 ⟨(Nat.le_of_ble_eq_true rfl), (Nat.le_of_ble_eq_true rfl)⟩) hw (fun r3 w4 H locs h hw => ?_)
    clear hcall
    refine lv_if_ne (tgt := 29) hx hb dPL_limit_23 rfl (fun hc => ?_) (fun hc => ?_)
    · replace h := h.1 hc
      refine xl_aload hx hb dPL_limit_29 (lv_at hl 0 rfl) ?_
      obtain ⟨a5, rfl, h⟩ := h
      obtain ⟨v6, hv, h⟩ := h
      refine xw_getI (C := RAC) (T := TAC) (N := 4) (ref := RAC) hx hb hts inAC hown hK hw rfl 2 (by decide) (hts _ mw_231) (fun _ h9 => h9) hv dPL_limit_31 ?_
      refine lv_istore (i := 5) (lv' := [(5, .int v6), (4, .ref a5), (0, .ref h0), (1, .int p0), (2, .long p1)]) hx hb dPL_limit_34 hl (by decide) (by first | rfl | simp [va_rf_cat, xcat_i, xcat_l, xcat_r, xcat_n]) (fun ls hl => ?_)
      refine lv_aload hx hb dPL_limit_36 (lv_at hl 1 rfl) ?_
      refine lv_lload_n hx hb dPL_limit_38 rfl (lv_at hl 4 rfl) ?_
      refine lv_l2i hx hb dPL_limit_39 rfl ?_
      obtain ⟨hv, h⟩ := h
      refine xw_put (ty := (.int)) (C := RAC) (T := TAC) (N := 4) (ref := RAC) hx hb hts inAC tyAC tyAC_ok nmAC hown hK hw rfl 2 (by decide) (hts _ mw_231) (fun _ h9 => h9) rfl (by decide +kernel) rfl rfl hv dPL_limit_40 (fun H locs hw => ?_)
      replace h := h _ rfl
      generalize xp w4 a5 2 (.int p1.toInt32) = w7 at hw h
      refine lv_iload hx hb dPL_limit_43 (lv_at hl 0 rfl) ?_
      refine W.widen (k := 0) (n := 0) (Nat.le_of_ble_eq_true rfl) (Nat.le_of_ble_eq_true rfl) ?_
      exact xw_iret hx hb hr hlocks hw h dPL_limit_45
    · replace h := h.2 hc
      refine lv_ldc (v := (-2000000002)) hx hb hown (hts _ mw_77) dPL_limit_26 ?_
      refine W.widen (k := 0) (n := 0) (Nat.le_of_ble_eq_true rfl) (Nat.le_of_ble_eq_true rfl) ?_
      exact xw_iret hx hb hr hlocks hw h dPL_limit_28
  · replace h := h.2 hc
    refine lv_ldc (v := (-2000000001)) hx hb hown (hts _ mw_232) dPL_limit_12 ?_
    refine W.widen (k := 0) (n := 0) (Nat.le_of_ble_eq_true rfl) (Nat.le_of_ble_eq_true rfl) ?_
    exact xw_iret hx hb hr hlocks hw h dPL_limit_14
def wp_PL_fails (E : xE_T) (post : Int32 → xw_T → Prop) (w : xw_T) (h0 : Nat) (p0 : Int32) (p1 : Int32) : Prop := (∃ fs, w h0 = some (.inr (4, fs))) ∧ wp_PL_findBatch E (fun r1 w2 => (r1 = none → (post 0 w2)) ∧ (¬ r1 = none → (∃ a3 : Nat, r1 = some a3 ∧ ((∃ fs, w2 a3 = some (.inr (2, fs))) ∧ wp_BA_isOpen E (fun r4 w5 => (r4 = 0 → (post 0 w5)) ∧ (¬ r4 = 0 → (∃ v6, xgI w5 a3 2 3 = some v6 ∧ ((¬ v6 = p1 → ((narrow (.boolean) (.int p1) = .int p1 ∧ fits (.boolean) (.int p1) = true) ∧ (∃ v0, xg w5 a3 2 3 = some v0) ∧ ∀ w7, w7 = xp w5 a3 3 (.int p1) → (post 1 w7))) ∧ (v6 = p1 → (post 0 w5)))))) w2 a3)))) w h0 p0
set_option maxHeartbeats 4000000 in
set_option maxRecDepth 100000 in
theorem c_PL_fails (l : Launch) (D : va_G) (E : xE_T) (A : Nat → Prop) (post : Int32 → xw_T → Prop) (w : xw_T) (h0 : Nat) (p0 : Int32) (p1 : Int32) (h : wp_PL_fails E post w h0 p0 p1) : Met l yPL_fails (xW yPL_fails cPL_fails 4 (some (.boolean))) ({ frames := 4, cells := 0, slots := 0, locals := 85 } : Room) (va_Pc [.ref h0, .int p0, .int p1] (xP D E A w)) (va_Qi post (xB D A) A) 0 0 A := by
  refine Met.ofW (cc := cPL_fails) (maxL := 4) (ret := (some (.boolean))) (by decide) rfl ?_
  intro p e s m args below meth c s₁ B hml hv
  obtain ⟨rfl, hw, hK, hE⟩ := hv
  have hx := B.exec
  have hb := B.bytes
  have hr := B.returns
  have hts : ∀ w ∈ xTB, w.before _ s = true := fun w hw => atoms_spec (ws := xW yPL_fails cPL_fails 4 (some (.boolean))) B.pre w (List.mem_cons_of_mem _ hw)
  have hown : s.vm.findClass RPL = some m.cls := findClass_of_methodNamed B.named
  have hlocks := B.notSynchronized
  have hw : xw_S D vwCl A s.heap w s.heap [] := xw_S0 hw
  refine xl_start (lvs := [(0, .ref h0), (1, .int p0), (2, .int p1)]) (by first | exact Nat.le_of_ble_eq_true rfl | simp [lg_sl, va_rf_cat, xcat_i, xcat_l, xcat_r, xcat_n]) (by first | rfl | simp [lv_args, va_rf_cat, xcat_i, xcat_l, xcat_r, xcat_n]) (fun ls hl => ?_)
  unfold wp_PL_fails at h
  refine lv_aload_n hx hb dPL_fails_0 rfl (lv_at hl 0 rfl) ?_
  refine lv_iload_n hx hb dPL_fails_1 rfl (lv_at hl 1 rfl) ?_
  obtain ⟨⟨fs, hk⟩, h⟩ := h
  have hcall := h
  clear h
  refine xw_callq (va_runV (As := [.int p0]) (rest := []) ⟨hx, hb, hml, hown, hts⟩ (c_PL_findBatch l D E A _ w h0 p0 hcall) (cwV 1 hts (xG_V mw_171 mw_172 mw_173 mw_95 mw_174) rfl rfl rfl (by decide +kernel) ⟨(Nat.le_of_ble_eq_true rfl), (Nat.le_of_ble_eq_true rfl)⟩) (xw_preV (ci := 4) hw hK hE rfl hk) rfl rfl hl.1 rfl (lv_room (by first | exact Nat.le_of_ble_eq_true rfl | simp [va_rf_cat, xcat_i, xcat_l, xcat_r, xcat_n])) dPL_fails_2 ⟨(Nat.le_of_ble_eq_true rfl), (Nat.le_of_ble_eq_true rfl)⟩) hw (fun r1 w2 H locs h hw => ?_)
  clear hcall
  refine xl_astore_n (i := 3) (lv' := [(3, va_rf r1), (0, .ref h0), (1, .int p0), (2, .int p1)]) hx hb dPL_fails_5 rfl hl (by decide) (by first | rfl | simp [va_rf_cat, xcat_i, xcat_l, xcat_r, xcat_n]) (fun ls hl => ?_)
  refine xl_aload_n hx hb dPL_fails_6 rfl (lv_at hl 0 rfl) ?_
  refine xl_ifnull (tgt := 25) hx hb dPL_fails_7 rfl (fun hc => ?_) (fun hc => ?_)
  · replace h := h.1 hc
    refine lv_iconst (v := 0) hx hb dPL_fails_25 (by decide) ?_
    refine W.widen (k := 0) (n := 0) (Nat.le_of_ble_eq_true rfl) (Nat.le_of_ble_eq_true rfl) ?_
    exact xw_zret (by decide) hx hb hr hlocks hw h dPL_fails_26
  · replace h := h.2 hc
    refine xl_aload_n hx hb dPL_fails_10 rfl (lv_at hl 0 rfl) ?_
    obtain ⟨a3, rfl, h⟩ := h
    obtain ⟨⟨fs, hk⟩, h⟩ := h
    have hcall := h
    clear h
    refine xw_calli (va_runV (As := []) (rest := []) ⟨hx, hb, hml, hown, hts⟩ (c_BA_isOpen l D E A _ w2 a3 hcall) (cwV 0 hts (xG_V mw_163 mw_164 mw_165 mw_110 mw_166) rfl rfl rfl (by decide +kernel) ⟨(Nat.le_of_ble_eq_true rfl), (Nat.le_of_ble_eq_true rfl)⟩) (xw_preV (ci := 2) hw hK hE rfl hk) rfl rfl hl.1 rfl (lv_room (by first | exact Nat.le_of_ble_eq_true rfl | simp [va_rf_cat, xcat_i, xcat_l, xcat_r, xcat_n])) dPL_fails_11 ⟨(Nat.le_of_ble_eq_true rfl), (Nat.le_of_ble_eq_true rfl)⟩) hw (fun r4 w5 H locs h hw => ?_)
    clear hcall
    refine lv_if_eq (tgt := 25) hx hb dPL_fails_14 rfl (fun hc => ?_) (fun hc => ?_)
    · replace h := h.1 hc
      refine lv_iconst (v := 0) hx hb dPL_fails_25 (by decide) ?_
      refine W.widen (k := 0) (n := 0) (Nat.le_of_ble_eq_true rfl) (Nat.le_of_ble_eq_true rfl) ?_
      exact xw_zret (by decide) hx hb hr hlocks hw h dPL_fails_26
    · replace h := h.2 hc
      refine lv_aload_n hx hb dPL_fails_17 rfl (lv_at hl 0 rfl) ?_
      obtain ⟨v6, hv, h⟩ := h
      refine xw_getI (C := RBA) (T := TBA) (N := 6) (ref := RBA) hx hb hts inBA hown hK hw rfl 3 (by decide) (hts _ mw_233) (fun _ h9 => h9) hv dPL_fails_18 ?_
      refine lv_iload_n hx hb dPL_fails_21 rfl (lv_at hl 3 rfl) ?_
      refine lv_icmp_ne (tgt := 27) hx hb dPL_fails_22 rfl (fun hc => ?_) (fun hc => ?_)
      · replace h := h.1 hc
        refine lv_aload_n hx hb dPL_fails_27 rfl (lv_at hl 0 rfl) ?_
        refine lv_iload_n hx hb dPL_fails_28 rfl (lv_at hl 3 rfl) ?_
        obtain ⟨hnf, h⟩ := h
        obtain ⟨hv, h⟩ := h
        refine xw_put (ty := (.boolean)) (C := RBA) (T := TBA) (N := 6) (ref := RBA) hx hb hts inBA tyBA tyBA_ok nmBA hown hK hw rfl 3 (by decide) (hts _ mw_233) (fun _ h9 => h9) rfl (by decide +kernel) hnf.1 hnf.2 hv dPL_fails_29 (fun H locs hw => ?_)
        replace h := h _ rfl
        generalize xp w5 a3 3 (.int p1) = w7 at hw h
        refine lv_iconst (v := 1) hx hb dPL_fails_32 (by decide) ?_
        refine W.widen (k := 0) (n := 0) (Nat.le_of_ble_eq_true rfl) (Nat.le_of_ble_eq_true rfl) ?_
        exact xw_zret (by decide) hx hb hr hlocks hw h dPL_fails_33
      · replace h := h.2 hc
        refine lv_iconst (v := 0) hx hb dPL_fails_25 (by decide) ?_
        refine W.widen (k := 0) (n := 0) (Nat.le_of_ble_eq_true rfl) (Nat.le_of_ble_eq_true rfl) ?_
        exact xw_zret (by decide) hx hb hr hlocks hw h dPL_fails_26
def wl_BA_takenFromAccount_5 (E : xE_T) (post : Int64 → xw_T → Prop) : Nat → xw_T → Nat → Option Nat → Int64 → Int32 → Prop
  | 0 => fun _ _ _ _ _ => False
  | n5 + 1 => fun w x0 x1 x2 x4 => ∃ v1, xgR w x0 2 1 = some v1 ∧ (∃ a2 : Nat, v1 = some a2 ∧ ((∃ fs, w a2 = some (.inr (0, fs))) ∧ wp_AL_size E (fun r3 w4 => (r3 ≤ x4 → (post x2 w4)) ∧ (¬ r3 ≤ x4 → (∃ v5, xgR w4 x0 2 1 = some v5 ∧ (∃ a6 : Nat, v5 = some a6 ∧ ((∃ fs, w4 a6 = some (.inr (0, fs))) ∧ wp_AL_get E (fun r7 w8 => ∃ a9 : Nat, r7 = some a9 ∧ ((∃ fs, w8 a9 = some (.inr (3, fs))) ∧ (∃ v10, xgR w8 a9 3 0 = some v10 ∧ ((¬ v10 = x1 → (wl_BA_takenFromAccount_5 E post n5 w8 x0 x1 x2 (x4 + 1))) ∧ (v10 = x1 → (∃ v11, xgL w8 a9 3 1 = some v11 ∧ ((0 ≤ v11 → (wl_BA_takenFromAccount_5 E post n5 w8 x0 x1 x2 (x4 + 1))) ∧ (¬ 0 ≤ v11 → (∃ v12, xgL w8 a9 3 1 = some v12 ∧ (wl_BA_takenFromAccount_5 E post n5 w8 x0 x1 (x2 - v12) (x4 + 1))))))))))) w4 a6 x4))))) w a2))
def wp_BA_takenFromAccount (E : xE_T) (post : Int64 → xw_T → Prop) (w : xw_T) (h0 : Nat) (p0 : Option Nat) : Prop := ∃ n5, wl_BA_takenFromAccount_5 E post n5 w h0 p0 0 0
set_option maxHeartbeats 4000000 in
set_option maxRecDepth 100000 in
theorem c_BA_takenFromAccount (l : Launch) (D : va_G) (E : xE_T) (A : Nat → Prop) (post : Int64 → xw_T → Prop) (w : xw_T) (h0 : Nat) (p0 : Option Nat) (h : wp_BA_takenFromAccount E post w h0 p0) : Met l yBA_takenFromAccount (xW yBA_takenFromAccount cBA_takenFromAccount 6 (some (.long))) ({ frames := 3, cells := 0, slots := 0, locals := 64 } : Room) (va_Pc [.ref h0, va_rf p0] (xP D E A w)) (va_Ql post (xB D A) A) 0 0 A := by
  refine Met.ofW (cc := cBA_takenFromAccount) (maxL := 6) (ret := (some (.long))) (by decide) rfl ?_
  intro p e s m args below meth c s₁ B hml hv
  obtain ⟨rfl, hw, hK, hE⟩ := hv
  have hx := B.exec
  have hb := B.bytes
  have hr := B.returns
  have hts : ∀ w ∈ xTB, w.before _ s = true := fun w hw => atoms_spec (ws := xW yBA_takenFromAccount cBA_takenFromAccount 6 (some (.long))) B.pre w (List.mem_cons_of_mem _ hw)
  have hown : s.vm.findClass RBA = some m.cls := findClass_of_methodNamed B.named
  have hlocks := B.notSynchronized
  have hw : xw_S D vwCl A s.heap w s.heap [] := xw_S0 hw
  have lo_5 : ∀ (n5 : Nat) (w : xw_T) (x0 : Nat) (x1 : Option Nat) (x2 : Int64) (x4 : Int32) (H : Heap) (locs : List Loc) (ls : Array Slot), lv_has ls 6 [(0, .ref x0), (1, va_rf x1), (2, .long x2), (4, .int x4)] → xw_S D vwCl A s.heap w H locs → wl_BA_takenFromAccount_5 E post n5 w x0 x1 x2 x4 → W p l e (headSpec (xW yBA_takenFromAccount cBA_takenFromAccount 6 (some (.long))) ({ frames := 3, cells := 0, slots := 0, locals := 64 } : Room)).room s m ([.ref h0, va_rf p0] : List Value).toArray below meth c H locs 0 0 (MQ below (va_Ql post (xB D A) A) ([.ref h0, va_rf p0] : List Value).toArray s 0 0 A) (F0 m 5 ls []) := by
    intro n5
    induction n5 with
    | zero => intro w x0 x1 x2 x4 H locs ls hl hw h; exact h.elim
    | succ n5 ih5 =>
      intro w x0 x1 x2 x4 H locs ls hl hw h
      dsimp only [wl_BA_takenFromAccount_5] at h
      refine lv_iload hx hb dBA_takenFromAccount_5 (lv_at hl 3 rfl) ?_
      refine lv_aload_n hx hb dBA_takenFromAccount_7 rfl (lv_at hl 0 rfl) ?_
      obtain ⟨v1, hv, h⟩ := h
      refine xw_getR (C := RBA) (T := TBA) (N := 6) (ref := RBA) hx hb hts inBA hown hK hw rfl 1 (by decide) (hts _ mw_103) (fun _ h9 => h9) hv dBA_takenFromAccount_8 ?_
      obtain ⟨a2, rfl, h⟩ := h
      obtain ⟨⟨fs, hk⟩, h⟩ := h
      have hcall := h
      clear h
      refine xw_calli (va_runV (As := []) (rest := [.int x4]) ⟨hx, hb, hml, hown, hts⟩ (c_AL_size l D E A _ w a2 hcall) (cwV 0 hts (xG_V mw_142 mw_79 mw_80 mw_19 mw_81) rfl rfl rfl (by decide +kernel) ⟨(Nat.le_of_ble_eq_true rfl), (Nat.le_of_ble_eq_true rfl)⟩) (xw_preV (ci := 0) hw hK hE rfl hk) rfl rfl hl.1 rfl (lv_room (by first | exact Nat.le_of_ble_eq_true rfl | simp [va_rf_cat, xcat_i, xcat_l, xcat_r, xcat_n])) dBA_takenFromAccount_11 ⟨(Nat.le_of_ble_eq_true rfl), (Nat.le_of_ble_eq_true rfl)⟩) hw (fun r3 w4 H locs h hw => ?_)
      clear hcall
      refine lv_icmp_ge (tgt := 64) hx hb dBA_takenFromAccount_14 rfl (fun hc => ?_) (fun hc => ?_)
      · replace h := h.1 hc
        refine lv_lload_n hx hb dBA_takenFromAccount_64 rfl (lv_at hl 2 rfl) ?_
        refine W.widen (k := 0) (n := 0) (Nat.le_of_ble_eq_true rfl) (Nat.le_of_ble_eq_true rfl) ?_
        exact xw_lret hx hb hr hlocks hw h dBA_takenFromAccount_65
      · replace h := h.2 hc
        refine lv_aload_n hx hb dBA_takenFromAccount_17 rfl (lv_at hl 0 rfl) ?_
        obtain ⟨v5, hv, h⟩ := h
        refine xw_getR (C := RBA) (T := TBA) (N := 6) (ref := RBA) hx hb hts inBA hown hK hw rfl 1 (by decide) (hts _ mw_103) (fun _ h9 => h9) hv dBA_takenFromAccount_18 ?_
        refine lv_iload hx hb dBA_takenFromAccount_21 (lv_at hl 3 rfl) ?_
        obtain ⟨a6, rfl, h⟩ := h
        obtain ⟨⟨fs, hk⟩, h⟩ := h
        have hcall := h
        clear h
        refine xw_callq (va_runV (As := [.int x4]) (rest := []) ⟨hx, hb, hml, hown, hts⟩ (c_AL_get l D E A _ w4 a6 x4 hcall) (cwV 1 hts (xG_V mw_177 mw_139 mw_140 mw_19 mw_141) rfl rfl rfl (by decide +kernel) ⟨(Nat.le_of_ble_eq_true rfl), (Nat.le_of_ble_eq_true rfl)⟩) (xw_preV (ci := 0) hw hK hE rfl hk) rfl rfl hl.1 rfl (lv_room (by first | exact Nat.le_of_ble_eq_true rfl | simp [va_rf_cat, xcat_i, xcat_l, xcat_r, xcat_n])) dBA_takenFromAccount_23 ⟨(Nat.le_of_ble_eq_true rfl), (Nat.le_of_ble_eq_true rfl)⟩) hw (fun r7 w8 H locs h hw => ?_)
        clear hcall
        obtain ⟨a9, rfl, h⟩ := h
        obtain ⟨⟨fs, hk⟩, h⟩ := h
        refine va_castS hx hb hown (hts _ mw_151) (hK.1 3 _ rfl).2 (xw_recv hK hw (ci := 3) rfl hk) dBA_takenFromAccount_26 ?_
        refine lv_astore (i := 5) (lv' := [(5, .ref a9), (0, .ref x0), (1, va_rf x1), (2, .long x2), (4, .int x4)]) hx hb dBA_takenFromAccount_29 hl (by decide) (by first | rfl | simp [va_rf_cat, xcat_i, xcat_l, xcat_r, xcat_n]) (fun ls hl => ?_)
        refine lv_aload hx hb dBA_takenFromAccount_31 (lv_at hl 0 rfl) ?_
        obtain ⟨v10, hv, h⟩ := h
        refine xw_getR (C := RRW) (T := TRW) (N := 2) (ref := RRW) hx hb hts inRW hown hK hw rfl 0 (by decide) (hts _ mw_176) (fun _ h9 => h9) hv dBA_takenFromAccount_33 ?_
        refine xl_aload_n hx hb dBA_takenFromAccount_36 rfl (lv_at hl 2 rfl) ?_
        refine lv_acmp_ne (rx := v10) (ry := x1) (tgt := 58) hx hb dBA_takenFromAccount_37 rfl (fun hc => ?_) (fun hc => ?_)
        · replace h := h.1 hc
          refine lv_iinc (k := 4) (v := x4 + 1) (lv' := [(4, .int (x4 + 1)), (5, .ref a9), (0, .ref x0), (1, va_rf x1), (2, .long x2)]) hx hb dBA_takenFromAccount_58 hl rfl rfl (by decide) (by first | rfl | simp [va_rf_cat, xcat_i, xcat_l, xcat_r, xcat_n]) (fun ls hl => ?_)
          refine lv_goto (tgt := 5) hx hb dBA_takenFromAccount_61 rfl ?_
          exact ih5 _ x0 x1 x2 (x4 + 1) _ _ _ (lv_sub hl [2, 3, 4, 0] rfl) hw h
        · replace h := h.2 hc
          refine lv_aload hx hb dBA_takenFromAccount_40 (lv_at hl 0 rfl) ?_
          obtain ⟨v11, hv, h⟩ := h
          refine xw_getL (C := RRW) (T := TRW) (N := 2) (ref := RRW) hx hb hts inRW hown hK hw rfl 1 (by decide) (hts _ mw_175) (fun _ h9 => h9) hv dBA_takenFromAccount_42 ?_
          refine lv_lconst (v := 0) hx hb dBA_takenFromAccount_45 (by decide) ?_
          refine xl_lc_ge (tgt := 58) hx hb dBA_takenFromAccount_46 dBA_takenFromAccount_47 rfl (fun hc => ?_) (fun hc => ?_)
          · replace h := h.1 hc
            refine lv_iinc (k := 4) (v := x4 + 1) (lv' := [(4, .int (x4 + 1)), (5, .ref a9), (0, .ref x0), (1, va_rf x1), (2, .long x2)]) hx hb dBA_takenFromAccount_58 hl rfl rfl (by decide) (by first | rfl | simp [va_rf_cat, xcat_i, xcat_l, xcat_r, xcat_n]) (fun ls hl => ?_)
            refine lv_goto (tgt := 5) hx hb dBA_takenFromAccount_61 rfl ?_
            exact ih5 _ x0 x1 x2 (x4 + 1) _ _ _ (lv_sub hl [2, 3, 4, 0] rfl) hw h
          · replace h := h.2 hc
            refine lv_lload_n hx hb dBA_takenFromAccount_50 rfl (lv_at hl 3 rfl) ?_
            refine lv_aload hx hb dBA_takenFromAccount_51 (lv_at hl 0 rfl) ?_
            obtain ⟨v12, hv, h⟩ := h
            refine xw_getL (C := RRW) (T := TRW) (N := 2) (ref := RRW) hx hb hts inRW hown hK hw rfl 1 (by decide) (hts _ mw_175) (fun _ h9 => h9) hv dBA_takenFromAccount_53 ?_
            refine lv_lsub hx hb dBA_takenFromAccount_56 ?_
            refine lv_lstore_n (i := 2) (lv' := [(2, .long (x2 - v12)), (5, .ref a9), (0, .ref x0), (1, va_rf x1), (4, .int x4)]) hx hb dBA_takenFromAccount_57 rfl hl (by decide) (by first | rfl | simp [va_rf_cat, xcat_i, xcat_l, xcat_r, xcat_n]) (fun ls hl => ?_)
            refine lv_iinc (k := 4) (v := x4 + 1) (lv' := [(4, .int (x4 + 1)), (2, .long (x2 - v12)), (5, .ref a9), (0, .ref x0), (1, va_rf x1)]) hx hb dBA_takenFromAccount_58 hl rfl rfl (by decide) (by first | rfl | simp [va_rf_cat, xcat_i, xcat_l, xcat_r, xcat_n]) (fun ls hl => ?_)
            refine lv_goto (tgt := 5) hx hb dBA_takenFromAccount_61 rfl ?_
            exact ih5 _ x0 x1 (x2 - v12) (x4 + 1) _ _ _ (lv_sub hl [3, 4, 1, 0] rfl) hw h
  refine xl_start (lvs := [(0, .ref h0), (1, va_rf p0)]) (by first | exact Nat.le_of_ble_eq_true rfl | simp [lg_sl, va_rf_cat, xcat_i, xcat_l, xcat_r, xcat_n]) (by first | rfl | simp [lv_args, va_rf_cat, xcat_i, xcat_l, xcat_r, xcat_n]) (fun ls hl => ?_)
  unfold wp_BA_takenFromAccount at h
  refine lv_lconst (v := 0) hx hb dBA_takenFromAccount_0 (by decide) ?_
  refine lv_lstore_n (i := 2) (lv' := [(2, .long 0), (0, .ref h0), (1, va_rf p0)]) hx hb dBA_takenFromAccount_1 rfl hl (by decide) (by first | rfl | simp [va_rf_cat, xcat_i, xcat_l, xcat_r, xcat_n]) (fun ls hl => ?_)
  refine lv_iconst (v := 0) hx hb dBA_takenFromAccount_2 (by decide) ?_
  refine lv_istore (i := 4) (lv' := [(4, .int 0), (2, .long 0), (0, .ref h0), (1, va_rf p0)]) hx hb dBA_takenFromAccount_3 hl (by decide) (by first | rfl | simp [va_rf_cat, xcat_i, xcat_l, xcat_r, xcat_n]) (fun ls hl => ?_)
  obtain ⟨n5, h⟩ := h
  refine W.widen (k := 0) (n := 0) (Nat.le_of_ble_eq_true rfl) (Nat.le_of_ble_eq_true rfl) ?_
  exact lo_5 n5 _ h0 p0 0 0 _ _ _ (lv_sub hl [2, 3, 1, 0] rfl) hw h
def wl_PL_hold_19 (E : xE_T) (post : Int64 → xw_T → Prop) : Nat → xw_T → Nat → Option Nat → Int64 → Int32 → Prop
  | 0 => fun _ _ _ _ _ => False
  | n19 + 1 => fun w x0 x2 x3 x5 => ∃ v1, xgR w x0 4 1 = some v1 ∧ (∃ a2 : Nat, v1 = some a2 ∧ ((∃ fs, w a2 = some (.inr (0, fs))) ∧ wp_AL_size E (fun r3 w4 => (r3 ≤ x5 → (post x3 w4)) ∧ (¬ r3 ≤ x5 → (∃ v5, xgR w4 x0 4 1 = some v5 ∧ (∃ a6 : Nat, v5 = some a6 ∧ ((∃ fs, w4 a6 = some (.inr (0, fs))) ∧ wp_AL_get E (fun r7 w8 => ∃ a9 : Nat, r7 = some a9 ∧ ((∃ fs, w8 a9 = some (.inr (2, fs))) ∧ ((∃ fs, w8 a9 = some (.inr (2, fs))) ∧ wp_BA_isOpen E (fun r10 w11 => (r10 = 0 → (wl_PL_hold_19 E post n19 w11 x0 x2 x3 (x5 + 1))) ∧ (¬ r10 = 0 → ((∃ fs, w11 a9 = some (.inr (2, fs))) ∧ wp_BA_takenFromAccount E (fun r12 w13 => wl_PL_hold_19 E post n19 w13 x0 x2 (x3 + r12) (x5 + 1)) w11 a9 x2))) w8 a9))) w4 a6 x5))))) w a2))
def wp_PL_hold (E : xE_T) (post : Int64 → xw_T → Prop) (w : xw_T) (h0 : Nat) (p0 : Int32) : Prop := (∃ fs, w h0 = some (.inr (4, fs))) ∧ wp_PL_findAccount E (fun r14 w15 => (¬ r14 = none → (∃ n19, wl_PL_hold_19 E post n19 w15 h0 r14 0 0)) ∧ (r14 = none → (post (-2000000001) w15))) w h0 p0
set_option maxHeartbeats 4000000 in
set_option maxRecDepth 100000 in
theorem c_PL_hold (l : Launch) (D : va_G) (E : xE_T) (A : Nat → Prop) (post : Int64 → xw_T → Prop) (w : xw_T) (h0 : Nat) (p0 : Int32) (h : wp_PL_hold E post w h0 p0) : Met l yPL_hold (xW yPL_hold cPL_hold 7 (some (.long))) ({ frames := 4, cells := 0, slots := 0, locals := 89 } : Room) (va_Pc [.ref h0, .int p0] (xP D E A w)) (va_Ql post (xB D A) A) 0 0 A := by
  refine Met.ofW (cc := cPL_hold) (maxL := 7) (ret := (some (.long))) (by decide) rfl ?_
  intro p e s m args below meth c s₁ B hml hv
  obtain ⟨rfl, hw, hK, hE⟩ := hv
  have hx := B.exec
  have hb := B.bytes
  have hr := B.returns
  have hts : ∀ w ∈ xTB, w.before _ s = true := fun w hw => atoms_spec (ws := xW yPL_hold cPL_hold 7 (some (.long))) B.pre w (List.mem_cons_of_mem _ hw)
  have hown : s.vm.findClass RPL = some m.cls := findClass_of_methodNamed B.named
  have hlocks := B.notSynchronized
  have hw : xw_S D vwCl A s.heap w s.heap [] := xw_S0 hw
  have lo_19 : ∀ (n19 : Nat) (w : xw_T) (x0 : Nat) (x2 : Option Nat) (x3 : Int64) (x5 : Int32) (H : Heap) (locs : List Loc) (ls : Array Slot), lv_has ls 7 [(0, .ref x0), (2, va_rf x2), (3, .long x3), (5, .int x5)] → xw_S D vwCl A s.heap w H locs → wl_PL_hold_19 E post n19 w x0 x2 x3 x5 → W p l e (headSpec (xW yPL_hold cPL_hold 7 (some (.long))) ({ frames := 4, cells := 0, slots := 0, locals := 89 } : Room)).room s m ([.ref h0, .int p0] : List Value).toArray below meth c H locs 0 0 (MQ below (va_Ql post (xB D A) A) ([.ref h0, .int p0] : List Value).toArray s 0 0 A) (F0 m 19 ls []) := by
    intro n19
    induction n19 with
    | zero => intro w x0 x2 x3 x5 H locs ls hl hw h; exact h.elim
    | succ n19 ih19 =>
      intro w x0 x2 x3 x5 H locs ls hl hw h
      dsimp only [wl_PL_hold_19] at h
      refine lv_iload hx hb dPL_hold_19 (lv_at hl 3 rfl) ?_
      refine lv_aload_n hx hb dPL_hold_21 rfl (lv_at hl 0 rfl) ?_
      obtain ⟨v1, hv, h⟩ := h
      refine xw_getR (C := RPL) (T := TPL) (N := 4) (ref := RPL) hx hb hts inPL hown hK hw rfl 1 (by decide) (hts _ mw_16) (fun _ h9 => h9) hv dPL_hold_22 ?_
      obtain ⟨a2, rfl, h⟩ := h
      obtain ⟨⟨fs, hk⟩, h⟩ := h
      have hcall := h
      clear h
      refine xw_calli (va_runV (As := []) (rest := [.int x5]) ⟨hx, hb, hml, hown, hts⟩ (c_AL_size l D E A _ w a2 hcall) (cwV 0 hts (xG_V mw_78 mw_79 mw_80 mw_19 mw_81) rfl rfl rfl (by decide +kernel) ⟨(Nat.le_of_ble_eq_true rfl), (Nat.le_of_ble_eq_true rfl)⟩) (xw_preV (ci := 0) hw hK hE rfl hk) rfl rfl hl.1 rfl (lv_room (by first | exact Nat.le_of_ble_eq_true rfl | simp [va_rf_cat, xcat_i, xcat_l, xcat_r, xcat_n])) dPL_hold_25 ⟨(Nat.le_of_ble_eq_true rfl), (Nat.le_of_ble_eq_true rfl)⟩) hw (fun r3 w4 H locs h hw => ?_)
      clear hcall
      refine lv_icmp_ge (tgt := 68) hx hb dPL_hold_28 rfl (fun hc => ?_) (fun hc => ?_)
      · replace h := h.1 hc
        refine lv_lload_n hx hb dPL_hold_68 rfl (lv_at hl 2 rfl) ?_
        refine W.widen (k := 0) (n := 0) (Nat.le_of_ble_eq_true rfl) (Nat.le_of_ble_eq_true rfl) ?_
        exact xw_lret hx hb hr hlocks hw h dPL_hold_69
      · replace h := h.2 hc
        refine lv_aload_n hx hb dPL_hold_31 rfl (lv_at hl 0 rfl) ?_
        obtain ⟨v5, hv, h⟩ := h
        refine xw_getR (C := RPL) (T := TPL) (N := 4) (ref := RPL) hx hb hts inPL hown hK hw rfl 1 (by decide) (hts _ mw_16) (fun _ h9 => h9) hv dPL_hold_32 ?_
        refine lv_iload hx hb dPL_hold_35 (lv_at hl 3 rfl) ?_
        obtain ⟨a6, rfl, h⟩ := h
        obtain ⟨⟨fs, hk⟩, h⟩ := h
        have hcall := h
        clear h
        refine xw_callq (va_runV (As := [.int x5]) (rest := []) ⟨hx, hb, hml, hown, hts⟩ (c_AL_get l D E A _ w4 a6 x5 hcall) (cwV 1 hts (xG_V mw_138 mw_139 mw_140 mw_19 mw_141) rfl rfl rfl (by decide +kernel) ⟨(Nat.le_of_ble_eq_true rfl), (Nat.le_of_ble_eq_true rfl)⟩) (xw_preV (ci := 0) hw hK hE rfl hk) rfl rfl hl.1 rfl (lv_room (by first | exact Nat.le_of_ble_eq_true rfl | simp [va_rf_cat, xcat_i, xcat_l, xcat_r, xcat_n])) dPL_hold_37 ⟨(Nat.le_of_ble_eq_true rfl), (Nat.le_of_ble_eq_true rfl)⟩) hw (fun r7 w8 H locs h hw => ?_)
        clear hcall
        obtain ⟨a9, rfl, h⟩ := h
        obtain ⟨⟨fs, hk⟩, h⟩ := h
        refine va_castS hx hb hown (hts _ mw_112) (hK.1 2 _ rfl).2 (xw_recv hK hw (ci := 2) rfl hk) dPL_hold_40 ?_
        refine lv_astore (i := 6) (lv' := [(6, .ref a9), (0, .ref x0), (2, va_rf x2), (3, .long x3), (5, .int x5)]) hx hb dPL_hold_43 hl (by decide) (by first | rfl | simp [va_rf_cat, xcat_i, xcat_l, xcat_r, xcat_n]) (fun ls hl => ?_)
        refine lv_aload hx hb dPL_hold_45 (lv_at hl 0 rfl) ?_
        obtain ⟨⟨fs, hk⟩, h⟩ := h
        have hcall := h
        clear h
        refine xw_calli (va_runV (As := []) (rest := []) ⟨hx, hb, hml, hown, hts⟩ (c_BA_isOpen l D E A _ w8 a9 hcall) (cwV 0 hts (xG_V mw_163 mw_164 mw_165 mw_110 mw_166) rfl rfl rfl (by decide +kernel) ⟨(Nat.le_of_ble_eq_true rfl), (Nat.le_of_ble_eq_true rfl)⟩) (xw_preV (ci := 2) hw hK hE rfl hk) rfl rfl hl.1 rfl (lv_room (by first | exact Nat.le_of_ble_eq_true rfl | simp [va_rf_cat, xcat_i, xcat_l, xcat_r, xcat_n])) dPL_hold_47 ⟨(Nat.le_of_ble_eq_true rfl), (Nat.le_of_ble_eq_true rfl)⟩) hw (fun r10 w11 H locs h hw => ?_)
        clear hcall
        refine lv_if_eq (tgt := 62) hx hb dPL_hold_50 rfl (fun hc => ?_) (fun hc => ?_)
        · replace h := h.1 hc
          refine lv_iinc (k := 4) (v := x5 + 1) (lv' := [(5, .int (x5 + 1)), (6, .ref a9), (0, .ref x0), (2, va_rf x2), (3, .long x3)]) hx hb dPL_hold_62 hl rfl rfl (by decide) (by first | rfl | simp [va_rf_cat, xcat_i, xcat_l, xcat_r, xcat_n]) (fun ls hl => ?_)
          refine lv_goto (tgt := 19) hx hb dPL_hold_65 rfl ?_
          exact ih19 _ x0 x2 x3 (x5 + 1) _ _ _ (lv_sub hl [2, 3, 4, 0] rfl) hw h
        · replace h := h.2 hc
          refine lv_lload_n hx hb dPL_hold_53 rfl (lv_at hl 3 rfl) ?_
          refine lv_aload hx hb dPL_hold_54 (lv_at hl 0 rfl) ?_
          refine xl_aload_n hx hb dPL_hold_56 rfl (lv_at hl 2 rfl) ?_
          obtain ⟨⟨fs, hk⟩, h⟩ := h
          have hcall := h
          clear h
          refine xw_calll (va_runV (As := [va_rf x2]) (rest := [.long x3]) ⟨hx, hb, hml, hown, hts⟩ (c_BA_takenFromAccount l D E A _ w11 a9 x2 hcall) (cwV 1 hts (xG_V mw_234 mw_235 mw_236 mw_110 mw_237) rfl rfl rfl (by decide +kernel) ⟨(Nat.le_of_ble_eq_true rfl), (Nat.le_of_ble_eq_true rfl)⟩) (xw_preV (ci := 2) hw hK hE rfl hk) rfl rfl hl.1 rfl (lv_room (by first | exact Nat.le_of_ble_eq_true rfl | simp [va_rf_cat, xcat_i, xcat_l, xcat_r, xcat_n])) dPL_hold_57 ⟨(Nat.le_of_ble_eq_true rfl), (Nat.le_of_ble_eq_true rfl)⟩) hw (fun r12 w13 H locs h hw => ?_)
          clear hcall
          refine lv_ladd hx hb dPL_hold_60 ?_
          refine lv_lstore_n (i := 3) (lv' := [(3, .long (x3 + r12)), (6, .ref a9), (0, .ref x0), (2, va_rf x2), (5, .int x5)]) hx hb dPL_hold_61 rfl hl (by decide) (by first | rfl | simp [va_rf_cat, xcat_i, xcat_l, xcat_r, xcat_n]) (fun ls hl => ?_)
          refine lv_iinc (k := 4) (v := x5 + 1) (lv' := [(5, .int (x5 + 1)), (3, .long (x3 + r12)), (6, .ref a9), (0, .ref x0), (2, va_rf x2)]) hx hb dPL_hold_62 hl rfl rfl (by decide) (by first | rfl | simp [va_rf_cat, xcat_i, xcat_l, xcat_r, xcat_n]) (fun ls hl => ?_)
          refine lv_goto (tgt := 19) hx hb dPL_hold_65 rfl ?_
          exact ih19 _ x0 x2 (x3 + r12) (x5 + 1) _ _ _ (lv_sub hl [3, 4, 1, 0] rfl) hw h
  refine xl_start (lvs := [(0, .ref h0), (1, .int p0)]) (by first | exact Nat.le_of_ble_eq_true rfl | simp [lg_sl, va_rf_cat, xcat_i, xcat_l, xcat_r, xcat_n]) (by first | rfl | simp [lv_args, va_rf_cat, xcat_i, xcat_l, xcat_r, xcat_n]) (fun ls hl => ?_)
  unfold wp_PL_hold at h
  refine lv_aload_n hx hb dPL_hold_0 rfl (lv_at hl 0 rfl) ?_
  refine lv_iload_n hx hb dPL_hold_1 rfl (lv_at hl 1 rfl) ?_
  obtain ⟨⟨fs, hk⟩, h⟩ := h
  have hcall := h
  clear h
  refine xw_callq (va_runV (As := [.int p0]) (rest := []) ⟨hx, hb, hml, hown, hts⟩ (c_PL_findAccount l D E A _ w h0 p0 hcall) (cwV 1 hts (xG_V mw_167 mw_168 mw_169 mw_95 mw_170) rfl rfl rfl (by decide +kernel) ⟨(Nat.le_of_ble_eq_true rfl), (Nat.le_of_ble_eq_true rfl)⟩) (xw_preV (ci := 4) hw hK hE rfl hk) rfl rfl hl.1 rfl (lv_room (by first | exact Nat.le_of_ble_eq_true rfl | simp [va_rf_cat, xcat_i, xcat_l, xcat_r, xcat_n])) dPL_hold_2 ⟨(Nat.le_of_ble_eq_true rfl), (Nat.le_of_ble_eq_true rfl)⟩) hw (fun r14 w15 H locs h hw => ?_)
  clear hcall
  refine xl_astore_n (i := 2) (lv' := [(2, va_rf r14), (0, .ref h0), (1, .int p0)]) hx hb dPL_hold_5 rfl hl (by decide) (by first | rfl | simp [va_rf_cat, xcat_i, xcat_l, xcat_r, xcat_n]) (fun ls hl => ?_)
  refine xl_aload_n hx hb dPL_hold_6 rfl (lv_at hl 0 rfl) ?_
  refine xl_ifnonnull (tgt := 14) hx hb dPL_hold_7 rfl (fun hc => ?_) (fun hc => ?_)
  · replace h := h.1 hc
    refine lv_lconst (v := 0) hx hb dPL_hold_14 (by decide) ?_
    refine lv_lstore_n (i := 3) (lv' := [(3, .long 0), (2, va_rf r14), (0, .ref h0), (1, .int p0)]) hx hb dPL_hold_15 rfl hl (by decide) (by first | rfl | simp [va_rf_cat, xcat_i, xcat_l, xcat_r, xcat_n]) (fun ls hl => ?_)
    refine lv_iconst (v := 0) hx hb dPL_hold_16 (by decide) ?_
    refine lv_istore (i := 5) (lv' := [(5, .int 0), (3, .long 0), (2, va_rf r14), (0, .ref h0), (1, .int p0)]) hx hb dPL_hold_17 hl (by decide) (by first | rfl | simp [va_rf_cat, xcat_i, xcat_l, xcat_r, xcat_n]) (fun ls hl => ?_)
    obtain ⟨n19, h⟩ := h
    refine W.widen (k := 0) (n := 0) (Nat.le_of_ble_eq_true rfl) (Nat.le_of_ble_eq_true rfl) ?_
    exact lo_19 n19 _ h0 r14 0 0 _ _ _ (lv_sub hl [3, 2, 1, 0] rfl) hw h
  · replace h := h.2 hc
    refine lv_ldc2 (v := (-2000000001)) hx hb hown (hts _ mw_189) dPL_hold_10 ?_
    refine W.widen (k := 0) (n := 0) (Nat.le_of_ble_eq_true rfl) (Nat.le_of_ble_eq_true rfl) ?_
    exact xw_lret hx hb hr hlocks hw h dPL_hold_13
def wp_PL_rows (E : xE_T) (post : Int32 → xw_T → Prop) (w : xw_T) (h0 : Nat) : Prop := ∃ v1, xgI w h0 4 3 = some v1 ∧ (post v1 w)
set_option maxHeartbeats 4000000 in
set_option maxRecDepth 100000 in
theorem c_PL_rows (l : Launch) (D : va_G) (E : xE_T) (A : Nat → Prop) (post : Int32 → xw_T → Prop) (w : xw_T) (h0 : Nat) (h : wp_PL_rows E post w h0) : Met l yPL_rows (xW yPL_rows cPL_rows 1 (some (.int))) ({ frames := 0, cells := 0, slots := 0, locals := 0 } : Room) (va_Pc [.ref h0] (xP D E A w)) (va_Qi post (xB D A) A) 0 0 A := by
  refine Met.ofW (cc := cPL_rows) (maxL := 1) (ret := (some (.int))) (by decide) rfl ?_
  intro p e s m args below meth c s₁ B hml hv
  obtain ⟨rfl, hw, hK, hE⟩ := hv
  have hx := B.exec
  have hb := B.bytes
  have hr := B.returns
  have hts : ∀ w ∈ xTB, w.before _ s = true := fun w hw => atoms_spec (ws := xW yPL_rows cPL_rows 1 (some (.int))) B.pre w (List.mem_cons_of_mem _ hw)
  have hown : s.vm.findClass RPL = some m.cls := findClass_of_methodNamed B.named
  have hlocks := B.notSynchronized
  have hw : xw_S D vwCl A s.heap w s.heap [] := xw_S0 hw
  refine xl_start (lvs := [(0, .ref h0)]) (by first | exact Nat.le_of_ble_eq_true rfl | simp [lg_sl, va_rf_cat, xcat_i, xcat_l, xcat_r, xcat_n]) (by first | rfl | simp [lv_args, va_rf_cat, xcat_i, xcat_l, xcat_r, xcat_n]) (fun ls hl => ?_)
  unfold wp_PL_rows at h
  refine lv_aload_n hx hb dPL_rows_0 rfl (lv_at hl 0 rfl) ?_
  obtain ⟨v1, hv, h⟩ := h
  refine xw_getI (C := RPL) (T := TPL) (N := 4) (ref := RPL) hx hb hts inPL hown hK hw rfl 3 (by decide) (hts _ mw_14) (fun _ h9 => h9) hv dPL_rows_1 ?_
  refine W.widen (k := 0) (n := 0) (Nat.le_of_ble_eq_true rfl) (Nat.le_of_ble_eq_true rfl) ?_
  exact xw_iret hx hb hr hlocks hw h dPL_rows_4
def wl_PL_all_4 (E : xE_T) (post : Int64 → xw_T → Prop) : Nat → xw_T → Nat → Int64 → Int32 → Prop
  | 0 => fun _ _ _ _ => False
  | n4 + 1 => fun w x0 x1 x3 => ∃ v1, xgR w x0 4 0 = some v1 ∧ (∃ a2 : Nat, v1 = some a2 ∧ ((∃ fs, w a2 = some (.inr (0, fs))) ∧ wp_AL_size E (fun r3 w4 => (r3 ≤ x3 → (post x1 w4)) ∧ (¬ r3 ≤ x3 → (∃ v5, xgR w4 x0 4 0 = some v5 ∧ (∃ a6 : Nat, v5 = some a6 ∧ ((∃ fs, w4 a6 = some (.inr (0, fs))) ∧ wp_AL_get E (fun r7 w8 => ∃ a9 : Nat, r7 = some a9 ∧ ((∃ fs, w8 a9 = some (.inr (1, fs))) ∧ (∃ v10, xgL w8 a9 1 3 = some v10 ∧ (wl_PL_all_4 E post n4 w8 x0 (x1 + v10) (x3 + 1))))) w4 a6 x3))))) w a2))
def wp_PL_all (E : xE_T) (post : Int64 → xw_T → Prop) (w : xw_T) (h0 : Nat) : Prop := ∃ n4, wl_PL_all_4 E post n4 w h0 0 0
set_option maxHeartbeats 4000000 in
set_option maxRecDepth 100000 in
theorem c_PL_all (l : Launch) (D : va_G) (E : xE_T) (A : Nat → Prop) (post : Int64 → xw_T → Prop) (w : xw_T) (h0 : Nat) (h : wp_PL_all E post w h0) : Met l yPL_all (xW yPL_all cPL_all 4 (some (.long))) ({ frames := 3, cells := 0, slots := 0, locals := 64 } : Room) (va_Pc [.ref h0] (xP D E A w)) (va_Ql post (xB D A) A) 0 0 A := by
  refine Met.ofW (cc := cPL_all) (maxL := 4) (ret := (some (.long))) (by decide) rfl ?_
  intro p e s m args below meth c s₁ B hml hv
  obtain ⟨rfl, hw, hK, hE⟩ := hv
  have hx := B.exec
  have hb := B.bytes
  have hr := B.returns
  have hts : ∀ w ∈ xTB, w.before _ s = true := fun w hw => atoms_spec (ws := xW yPL_all cPL_all 4 (some (.long))) B.pre w (List.mem_cons_of_mem _ hw)
  have hown : s.vm.findClass RPL = some m.cls := findClass_of_methodNamed B.named
  have hlocks := B.notSynchronized
  have hw : xw_S D vwCl A s.heap w s.heap [] := xw_S0 hw
  have lo_4 : ∀ (n4 : Nat) (w : xw_T) (x0 : Nat) (x1 : Int64) (x3 : Int32) (H : Heap) (locs : List Loc) (ls : Array Slot), lv_has ls 4 [(0, .ref x0), (1, .long x1), (3, .int x3)] → xw_S D vwCl A s.heap w H locs → wl_PL_all_4 E post n4 w x0 x1 x3 → W p l e (headSpec (xW yPL_all cPL_all 4 (some (.long))) ({ frames := 3, cells := 0, slots := 0, locals := 64 } : Room)).room s m ([.ref h0] : List Value).toArray below meth c H locs 0 0 (MQ below (va_Ql post (xB D A) A) ([.ref h0] : List Value).toArray s 0 0 A) (F0 m 4 ls []) := by
    intro n4
    induction n4 with
    | zero => intro w x0 x1 x3 H locs ls hl hw h; exact h.elim
    | succ n4 ih4 =>
      intro w x0 x1 x3 H locs ls hl hw h
      dsimp only [wl_PL_all_4] at h
      refine lv_iload_n hx hb dPL_all_4 rfl (lv_at hl 2 rfl) ?_
      refine lv_aload_n hx hb dPL_all_5 rfl (lv_at hl 0 rfl) ?_
      obtain ⟨v1, hv, h⟩ := h
      refine xw_getR (C := RPL) (T := TPL) (N := 4) (ref := RPL) hx hb hts inPL hown hK hw rfl 0 (by decide) (hts _ mw_23) (fun _ h9 => h9) hv dPL_all_6 ?_
      obtain ⟨a2, rfl, h⟩ := h
      obtain ⟨⟨fs, hk⟩, h⟩ := h
      have hcall := h
      clear h
      refine xw_calli (va_runV (As := []) (rest := [.int x3]) ⟨hx, hb, hml, hown, hts⟩ (c_AL_size l D E A _ w a2 hcall) (cwV 0 hts (xG_V mw_78 mw_79 mw_80 mw_19 mw_81) rfl rfl rfl (by decide +kernel) ⟨(Nat.le_of_ble_eq_true rfl), (Nat.le_of_ble_eq_true rfl)⟩) (xw_preV (ci := 0) hw hK hE rfl hk) rfl rfl hl.1 rfl (lv_room (by first | exact Nat.le_of_ble_eq_true rfl | simp [va_rf_cat, xcat_i, xcat_l, xcat_r, xcat_n])) dPL_all_9 ⟨(Nat.le_of_ble_eq_true rfl), (Nat.le_of_ble_eq_true rfl)⟩) hw (fun r3 w4 H locs h hw => ?_)
      clear hcall
      refine lv_icmp_ge (tgt := 38) hx hb dPL_all_12 rfl (fun hc => ?_) (fun hc => ?_)
      · replace h := h.1 hc
        refine lv_lload_n hx hb dPL_all_38 rfl (lv_at hl 1 rfl) ?_
        refine W.widen (k := 0) (n := 0) (Nat.le_of_ble_eq_true rfl) (Nat.le_of_ble_eq_true rfl) ?_
        exact xw_lret hx hb hr hlocks hw h dPL_all_39
      · replace h := h.2 hc
        refine lv_lload_n hx hb dPL_all_15 rfl (lv_at hl 1 rfl) ?_
        refine lv_aload_n hx hb dPL_all_16 rfl (lv_at hl 0 rfl) ?_
        obtain ⟨v5, hv, h⟩ := h
        refine xw_getR (C := RPL) (T := TPL) (N := 4) (ref := RPL) hx hb hts inPL hown hK hw rfl 0 (by decide) (hts _ mw_23) (fun _ h9 => h9) hv dPL_all_17 ?_
        refine lv_iload_n hx hb dPL_all_20 rfl (lv_at hl 2 rfl) ?_
        obtain ⟨a6, rfl, h⟩ := h
        obtain ⟨⟨fs, hk⟩, h⟩ := h
        have hcall := h
        clear h
        refine xw_callq (va_runV (As := [.int x3]) (rest := [.long x1]) ⟨hx, hb, hml, hown, hts⟩ (c_AL_get l D E A _ w4 a6 x3 hcall) (cwV 1 hts (xG_V mw_138 mw_139 mw_140 mw_19 mw_141) rfl rfl rfl (by decide +kernel) ⟨(Nat.le_of_ble_eq_true rfl), (Nat.le_of_ble_eq_true rfl)⟩) (xw_preV (ci := 0) hw hK hE rfl hk) rfl rfl hl.1 rfl (lv_room (by first | exact Nat.le_of_ble_eq_true rfl | simp [va_rf_cat, xcat_i, xcat_l, xcat_r, xcat_n])) dPL_all_21 ⟨(Nat.le_of_ble_eq_true rfl), (Nat.le_of_ble_eq_true rfl)⟩) hw (fun r7 w8 H locs h hw => ?_)
        clear hcall
        obtain ⟨a9, rfl, h⟩ := h
        obtain ⟨⟨fs, hk⟩, h⟩ := h
        refine va_castS hx hb hown (hts _ mw_90) (hK.1 1 _ rfl).2 (xw_recv hK hw (ci := 1) rfl hk) dPL_all_24 ?_
        obtain ⟨v10, hv, h⟩ := h
        refine xw_getL (C := RAC) (T := TAC) (N := 4) (ref := RAC) hx hb hts inAC hown hK hw rfl 3 (by decide) (hts _ mw_216) (fun _ h9 => h9) hv dPL_all_27 ?_
        refine lv_ladd hx hb dPL_all_30 ?_
        refine lv_lstore_n (i := 1) (lv' := [(1, .long (x1 + v10)), (0, .ref x0), (3, .int x3)]) hx hb dPL_all_31 rfl hl (by decide) (by first | rfl | simp [va_rf_cat, xcat_i, xcat_l, xcat_r, xcat_n]) (fun ls hl => ?_)
        refine lv_iinc (k := 2) (v := x3 + 1) (lv' := [(3, .int (x3 + 1)), (1, .long (x1 + v10)), (0, .ref x0)]) hx hb dPL_all_32 hl rfl rfl (by decide) (by first | rfl | simp [va_rf_cat, xcat_i, xcat_l, xcat_r, xcat_n]) (fun ls hl => ?_)
        refine lv_goto (tgt := 4) hx hb dPL_all_35 rfl ?_
        exact ih4 _ x0 (x1 + v10) (x3 + 1) _ _ _ (lv_sub hl [2, 1, 0] rfl) hw h
  refine xl_start (lvs := [(0, .ref h0)]) (by first | exact Nat.le_of_ble_eq_true rfl | simp [lg_sl, va_rf_cat, xcat_i, xcat_l, xcat_r, xcat_n]) (by first | rfl | simp [lv_args, va_rf_cat, xcat_i, xcat_l, xcat_r, xcat_n]) (fun ls hl => ?_)
  unfold wp_PL_all at h
  refine lv_lconst (v := 0) hx hb dPL_all_0 (by decide) ?_
  refine lv_lstore_n (i := 1) (lv' := [(1, .long 0), (0, .ref h0)]) hx hb dPL_all_1 rfl hl (by decide) (by first | rfl | simp [va_rf_cat, xcat_i, xcat_l, xcat_r, xcat_n]) (fun ls hl => ?_)
  refine lv_iconst (v := 0) hx hb dPL_all_2 (by decide) ?_
  refine lv_istore_n (i := 3) (lv' := [(3, .int 0), (1, .long 0), (0, .ref h0)]) hx hb dPL_all_3 rfl hl (by decide) (by first | rfl | simp [va_rf_cat, xcat_i, xcat_l, xcat_r, xcat_n]) (fun ls hl => ?_)
  obtain ⟨n4, h⟩ := h
  refine W.widen (k := 0) (n := 0) (Nat.le_of_ble_eq_true rfl) (Nat.le_of_ble_eq_true rfl) ?_
  exact lo_4 n4 _ h0 0 0 _ _ _ (lv_sub hl [2, 1, 0] rfl) hw h
def wl_BA_sumOfRows_4 (E : xE_T) (post : Int64 → xw_T → Prop) : Nat → xw_T → Nat → Int64 → Int32 → Prop
  | 0 => fun _ _ _ _ => False
  | n4 + 1 => fun w x0 x1 x3 => ∃ v1, xgR w x0 2 1 = some v1 ∧ (∃ a2 : Nat, v1 = some a2 ∧ ((∃ fs, w a2 = some (.inr (0, fs))) ∧ wp_AL_size E (fun r3 w4 => (r3 ≤ x3 → (post x1 w4)) ∧ (¬ r3 ≤ x3 → (∃ v5, xgR w4 x0 2 1 = some v5 ∧ (∃ a6 : Nat, v5 = some a6 ∧ ((∃ fs, w4 a6 = some (.inr (0, fs))) ∧ wp_AL_get E (fun r7 w8 => ∃ a9 : Nat, r7 = some a9 ∧ ((∃ fs, w8 a9 = some (.inr (3, fs))) ∧ (∃ v10, xgL w8 a9 3 1 = some v10 ∧ (wl_BA_sumOfRows_4 E post n4 w8 x0 (x1 + v10) (x3 + 1))))) w4 a6 x3))))) w a2))
def wp_BA_sumOfRows (E : xE_T) (post : Int64 → xw_T → Prop) (w : xw_T) (h0 : Nat) : Prop := ∃ n4, wl_BA_sumOfRows_4 E post n4 w h0 0 0
set_option maxHeartbeats 4000000 in
set_option maxRecDepth 100000 in
theorem c_BA_sumOfRows (l : Launch) (D : va_G) (E : xE_T) (A : Nat → Prop) (post : Int64 → xw_T → Prop) (w : xw_T) (h0 : Nat) (h : wp_BA_sumOfRows E post w h0) : Met l yBA_sumOfRows (xW yBA_sumOfRows cBA_sumOfRows 4 (some (.long))) ({ frames := 3, cells := 0, slots := 0, locals := 64 } : Room) (va_Pc [.ref h0] (xP D E A w)) (va_Ql post (xB D A) A) 0 0 A := by
  refine Met.ofW (cc := cBA_sumOfRows) (maxL := 4) (ret := (some (.long))) (by decide) rfl ?_
  intro p e s m args below meth c s₁ B hml hv
  obtain ⟨rfl, hw, hK, hE⟩ := hv
  have hx := B.exec
  have hb := B.bytes
  have hr := B.returns
  have hts : ∀ w ∈ xTB, w.before _ s = true := fun w hw => atoms_spec (ws := xW yBA_sumOfRows cBA_sumOfRows 4 (some (.long))) B.pre w (List.mem_cons_of_mem _ hw)
  have hown : s.vm.findClass RBA = some m.cls := findClass_of_methodNamed B.named
  have hlocks := B.notSynchronized
  have hw : xw_S D vwCl A s.heap w s.heap [] := xw_S0 hw
  have lo_4 : ∀ (n4 : Nat) (w : xw_T) (x0 : Nat) (x1 : Int64) (x3 : Int32) (H : Heap) (locs : List Loc) (ls : Array Slot), lv_has ls 4 [(0, .ref x0), (1, .long x1), (3, .int x3)] → xw_S D vwCl A s.heap w H locs → wl_BA_sumOfRows_4 E post n4 w x0 x1 x3 → W p l e (headSpec (xW yBA_sumOfRows cBA_sumOfRows 4 (some (.long))) ({ frames := 3, cells := 0, slots := 0, locals := 64 } : Room)).room s m ([.ref h0] : List Value).toArray below meth c H locs 0 0 (MQ below (va_Ql post (xB D A) A) ([.ref h0] : List Value).toArray s 0 0 A) (F0 m 4 ls []) := by
    intro n4
    induction n4 with
    | zero => intro w x0 x1 x3 H locs ls hl hw h; exact h.elim
    | succ n4 ih4 =>
      intro w x0 x1 x3 H locs ls hl hw h
      dsimp only [wl_BA_sumOfRows_4] at h
      refine lv_iload_n hx hb dBA_sumOfRows_4 rfl (lv_at hl 2 rfl) ?_
      refine lv_aload_n hx hb dBA_sumOfRows_5 rfl (lv_at hl 0 rfl) ?_
      obtain ⟨v1, hv, h⟩ := h
      refine xw_getR (C := RBA) (T := TBA) (N := 6) (ref := RBA) hx hb hts inBA hown hK hw rfl 1 (by decide) (hts _ mw_103) (fun _ h9 => h9) hv dBA_sumOfRows_6 ?_
      obtain ⟨a2, rfl, h⟩ := h
      obtain ⟨⟨fs, hk⟩, h⟩ := h
      have hcall := h
      clear h
      refine xw_calli (va_runV (As := []) (rest := [.int x3]) ⟨hx, hb, hml, hown, hts⟩ (c_AL_size l D E A _ w a2 hcall) (cwV 0 hts (xG_V mw_142 mw_79 mw_80 mw_19 mw_81) rfl rfl rfl (by decide +kernel) ⟨(Nat.le_of_ble_eq_true rfl), (Nat.le_of_ble_eq_true rfl)⟩) (xw_preV (ci := 0) hw hK hE rfl hk) rfl rfl hl.1 rfl (lv_room (by first | exact Nat.le_of_ble_eq_true rfl | simp [va_rf_cat, xcat_i, xcat_l, xcat_r, xcat_n])) dBA_sumOfRows_9 ⟨(Nat.le_of_ble_eq_true rfl), (Nat.le_of_ble_eq_true rfl)⟩) hw (fun r3 w4 H locs h hw => ?_)
      clear hcall
      refine lv_icmp_ge (tgt := 38) hx hb dBA_sumOfRows_12 rfl (fun hc => ?_) (fun hc => ?_)
      · replace h := h.1 hc
        refine lv_lload_n hx hb dBA_sumOfRows_38 rfl (lv_at hl 1 rfl) ?_
        refine W.widen (k := 0) (n := 0) (Nat.le_of_ble_eq_true rfl) (Nat.le_of_ble_eq_true rfl) ?_
        exact xw_lret hx hb hr hlocks hw h dBA_sumOfRows_39
      · replace h := h.2 hc
        refine lv_lload_n hx hb dBA_sumOfRows_15 rfl (lv_at hl 1 rfl) ?_
        refine lv_aload_n hx hb dBA_sumOfRows_16 rfl (lv_at hl 0 rfl) ?_
        obtain ⟨v5, hv, h⟩ := h
        refine xw_getR (C := RBA) (T := TBA) (N := 6) (ref := RBA) hx hb hts inBA hown hK hw rfl 1 (by decide) (hts _ mw_103) (fun _ h9 => h9) hv dBA_sumOfRows_17 ?_
        refine lv_iload_n hx hb dBA_sumOfRows_20 rfl (lv_at hl 2 rfl) ?_
        obtain ⟨a6, rfl, h⟩ := h
        obtain ⟨⟨fs, hk⟩, h⟩ := h
        have hcall := h
        clear h
        refine xw_callq (va_runV (As := [.int x3]) (rest := [.long x1]) ⟨hx, hb, hml, hown, hts⟩ (c_AL_get l D E A _ w4 a6 x3 hcall) (cwV 1 hts (xG_V mw_177 mw_139 mw_140 mw_19 mw_141) rfl rfl rfl (by decide +kernel) ⟨(Nat.le_of_ble_eq_true rfl), (Nat.le_of_ble_eq_true rfl)⟩) (xw_preV (ci := 0) hw hK hE rfl hk) rfl rfl hl.1 rfl (lv_room (by first | exact Nat.le_of_ble_eq_true rfl | simp [va_rf_cat, xcat_i, xcat_l, xcat_r, xcat_n])) dBA_sumOfRows_21 ⟨(Nat.le_of_ble_eq_true rfl), (Nat.le_of_ble_eq_true rfl)⟩) hw (fun r7 w8 H locs h hw => ?_)
        clear hcall
        obtain ⟨a9, rfl, h⟩ := h
        obtain ⟨⟨fs, hk⟩, h⟩ := h
        refine va_castS hx hb hown (hts _ mw_151) (hK.1 3 _ rfl).2 (xw_recv hK hw (ci := 3) rfl hk) dBA_sumOfRows_24 ?_
        obtain ⟨v10, hv, h⟩ := h
        refine xw_getL (C := RRW) (T := TRW) (N := 2) (ref := RRW) hx hb hts inRW hown hK hw rfl 1 (by decide) (hts _ mw_175) (fun _ h9 => h9) hv dBA_sumOfRows_27 ?_
        refine lv_ladd hx hb dBA_sumOfRows_30 ?_
        refine lv_lstore_n (i := 1) (lv' := [(1, .long (x1 + v10)), (0, .ref x0), (3, .int x3)]) hx hb dBA_sumOfRows_31 rfl hl (by decide) (by first | rfl | simp [va_rf_cat, xcat_i, xcat_l, xcat_r, xcat_n]) (fun ls hl => ?_)
        refine lv_iinc (k := 2) (v := x3 + 1) (lv' := [(3, .int (x3 + 1)), (1, .long (x1 + v10)), (0, .ref x0)]) hx hb dBA_sumOfRows_32 hl rfl rfl (by decide) (by first | rfl | simp [va_rf_cat, xcat_i, xcat_l, xcat_r, xcat_n]) (fun ls hl => ?_)
        refine lv_goto (tgt := 4) hx hb dBA_sumOfRows_35 rfl ?_
        exact ih4 _ x0 (x1 + v10) (x3 + 1) _ _ _ (lv_sub hl [2, 1, 0] rfl) hw h
  refine xl_start (lvs := [(0, .ref h0)]) (by first | exact Nat.le_of_ble_eq_true rfl | simp [lg_sl, va_rf_cat, xcat_i, xcat_l, xcat_r, xcat_n]) (by first | rfl | simp [lv_args, va_rf_cat, xcat_i, xcat_l, xcat_r, xcat_n]) (fun ls hl => ?_)
  unfold wp_BA_sumOfRows at h
  refine lv_lconst (v := 0) hx hb dBA_sumOfRows_0 (by decide) ?_
  refine lv_lstore_n (i := 1) (lv' := [(1, .long 0), (0, .ref h0)]) hx hb dBA_sumOfRows_1 rfl hl (by decide) (by first | rfl | simp [va_rf_cat, xcat_i, xcat_l, xcat_r, xcat_n]) (fun ls hl => ?_)
  refine lv_iconst (v := 0) hx hb dBA_sumOfRows_2 (by decide) ?_
  refine lv_istore_n (i := 3) (lv' := [(3, .int 0), (1, .long 0), (0, .ref h0)]) hx hb dBA_sumOfRows_3 rfl hl (by decide) (by first | rfl | simp [va_rf_cat, xcat_i, xcat_l, xcat_r, xcat_n]) (fun ls hl => ?_)
  obtain ⟨n4, h⟩ := h
  refine W.widen (k := 0) (n := 0) (Nat.le_of_ble_eq_true rfl) (Nat.le_of_ble_eq_true rfl) ?_
  exact lo_4 n4 _ h0 0 0 _ _ _ (lv_sub hl [2, 1, 0] rfl) hw h
def wp_RW_takesFromCustomer (E : xE_T) (post : Int32 → xw_T → Prop) (w : xw_T) (h0 : Nat) : Prop := ∃ v1, xgL w h0 3 1 = some v1 ∧ ((0 ≤ v1 → (post 0 w)) ∧ (¬ 0 ≤ v1 → (∃ v2, xgR w h0 3 0 = some v2 ∧ (∃ a3 : Nat, v2 = some a3 ∧ (∃ v4, xgI w a3 1 1 = some v4 ∧ ((¬ v4 = 3 → (post 0 w)) ∧ (v4 = 3 → (post 1 w))))))))
set_option maxHeartbeats 4000000 in
set_option maxRecDepth 100000 in
theorem c_RW_takesFromCustomer (l : Launch) (D : va_G) (E : xE_T) (A : Nat → Prop) (post : Int32 → xw_T → Prop) (w : xw_T) (h0 : Nat) (h : wp_RW_takesFromCustomer E post w h0) : Met l yRW_takesFromCustomer (xW yRW_takesFromCustomer cRW_takesFromCustomer 1 (some (.boolean))) ({ frames := 0, cells := 0, slots := 0, locals := 0 } : Room) (va_Pc [.ref h0] (xP D E A w)) (va_Qi post (xB D A) A) 0 0 A := by
  refine Met.ofW (cc := cRW_takesFromCustomer) (maxL := 1) (ret := (some (.boolean))) (by decide) rfl ?_
  intro p e s m args below meth c s₁ B hml hv
  obtain ⟨rfl, hw, hK, hE⟩ := hv
  have hx := B.exec
  have hb := B.bytes
  have hr := B.returns
  have hts : ∀ w ∈ xTB, w.before _ s = true := fun w hw => atoms_spec (ws := xW yRW_takesFromCustomer cRW_takesFromCustomer 1 (some (.boolean))) B.pre w (List.mem_cons_of_mem _ hw)
  have hown : s.vm.findClass RRW = some m.cls := findClass_of_methodNamed B.named
  have hlocks := B.notSynchronized
  have hw : xw_S D vwCl A s.heap w s.heap [] := xw_S0 hw
  refine xl_start (lvs := [(0, .ref h0)]) (by first | exact Nat.le_of_ble_eq_true rfl | simp [lg_sl, va_rf_cat, xcat_i, xcat_l, xcat_r, xcat_n]) (by first | rfl | simp [lv_args, va_rf_cat, xcat_i, xcat_l, xcat_r, xcat_n]) (fun ls hl => ?_)
  unfold wp_RW_takesFromCustomer at h
  refine lv_aload_n hx hb dRW_takesFromCustomer_0 rfl (lv_at hl 0 rfl) ?_
  obtain ⟨v1, hv, h⟩ := h
  refine xw_getL (C := RRW) (T := TRW) (N := 2) (ref := RRW) hx hb hts inRW hown hK hw rfl 1 (by decide) (hts _ mw_143) (fun _ h9 => h9) hv dRW_takesFromCustomer_1 ?_
  refine lv_lconst (v := 0) hx hb dRW_takesFromCustomer_4 (by decide) ?_
  refine xl_lc_ge (tgt := 24) hx hb dRW_takesFromCustomer_5 dRW_takesFromCustomer_6 rfl (fun hc => ?_) (fun hc => ?_)
  · replace h := h.1 hc
    refine lv_iconst (v := 0) hx hb dRW_takesFromCustomer_24 (by decide) ?_
    refine W.widen (k := 0) (n := 0) (Nat.le_of_ble_eq_true rfl) (Nat.le_of_ble_eq_true rfl) ?_
    exact xw_zret (by decide) hx hb hr hlocks hw h dRW_takesFromCustomer_25
  · replace h := h.2 hc
    refine lv_aload_n hx hb dRW_takesFromCustomer_9 rfl (lv_at hl 0 rfl) ?_
    obtain ⟨v2, hv, h⟩ := h
    refine xw_getR (C := RRW) (T := TRW) (N := 2) (ref := RRW) hx hb hts inRW hown hK hw rfl 0 (by decide) (hts _ mw_144) (fun _ h9 => h9) hv dRW_takesFromCustomer_10 ?_
    obtain ⟨a3, rfl, h⟩ := h
    obtain ⟨v4, hv, h⟩ := h
    refine xw_getI (C := RAC) (T := TAC) (N := 4) (ref := RAC) hx hb hts inAC hown hK hw rfl 1 (by decide) (hts _ mw_238) (fun _ h9 => h9) hv dRW_takesFromCustomer_13 ?_
    refine lv_iconst (v := 3) hx hb dRW_takesFromCustomer_16 (by decide) ?_
    refine lv_icmp_ne (tgt := 24) hx hb dRW_takesFromCustomer_17 rfl (fun hc => ?_) (fun hc => ?_)
    · replace h := h.1 hc
      refine lv_iconst (v := 0) hx hb dRW_takesFromCustomer_24 (by decide) ?_
      refine W.widen (k := 0) (n := 0) (Nat.le_of_ble_eq_true rfl) (Nat.le_of_ble_eq_true rfl) ?_
      exact xw_zret (by decide) hx hb hr hlocks hw h dRW_takesFromCustomer_25
    · replace h := h.2 hc
      refine lv_iconst (v := 1) hx hb dRW_takesFromCustomer_20 (by decide) ?_
      refine lv_goto (tgt := 25) hx hb dRW_takesFromCustomer_21 rfl ?_
      refine W.widen (k := 0) (n := 0) (Nat.le_of_ble_eq_true rfl) (Nat.le_of_ble_eq_true rfl) ?_
      exact xw_zret (by decide) hx hb hr hlocks hw h dRW_takesFromCustomer_25
def wp_BA_breaksLimit (E : xE_T) (post : Int32 → xw_T → Prop) (w : xw_T) (h0 : Nat) (p0 : Option Nat) (p1 : Int32) : Prop := ∃ a1 : Nat, p0 = some a1 ∧ (∃ v2, xgR w a1 3 0 = some v2 ∧ ((∃ fs, w a1 = some (.inr (3, fs))) ∧ wp_RW_takesFromCustomer E (fun r3 w4 => (r3 = 0 → (post 0 w4)) ∧ (¬ r3 = 0 → (∃ a5 : Nat, v2 = some a5 ∧ (∃ v6, xgL w4 a5 1 3 = some v6 ∧ ((∃ fs, w4 h0 = some (.inr (2, fs))) ∧ wp_BA_sumForAccount E (fun r7 w8 => ∃ v9, xgI w8 a5 1 2 = some v9 ∧ ((((-v9).toInt64) ≤ (v6 + r7) → (post 0 w8)) ∧ (¬ ((-v9).toInt64) ≤ (v6 + r7) → (post 1 w8)))) w4 h0 (some a5) p1))))) w a1))
set_option maxHeartbeats 4000000 in
set_option maxRecDepth 100000 in
theorem c_BA_breaksLimit (l : Launch) (D : va_G) (E : xE_T) (A : Nat → Prop) (post : Int32 → xw_T → Prop) (w : xw_T) (h0 : Nat) (p0 : Option Nat) (p1 : Int32) (h : wp_BA_breaksLimit E post w h0 p0 p1) : Met l yBA_breaksLimit (xW yBA_breaksLimit cBA_breaksLimit 4 (some (.boolean))) ({ frames := 4, cells := 0, slots := 0, locals := 90 } : Room) (va_Pc [.ref h0, va_rf p0, .int p1] (xP D E A w)) (va_Qi post (xB D A) A) 0 0 A := by
  refine Met.ofW (cc := cBA_breaksLimit) (maxL := 4) (ret := (some (.boolean))) (by decide) rfl ?_
  intro p e s m args below meth c s₁ B hml hv
  obtain ⟨rfl, hw, hK, hE⟩ := hv
  have hx := B.exec
  have hb := B.bytes
  have hr := B.returns
  have hts : ∀ w ∈ xTB, w.before _ s = true := fun w hw => atoms_spec (ws := xW yBA_breaksLimit cBA_breaksLimit 4 (some (.boolean))) B.pre w (List.mem_cons_of_mem _ hw)
  have hown : s.vm.findClass RBA = some m.cls := findClass_of_methodNamed B.named
  have hlocks := B.notSynchronized
  have hw : xw_S D vwCl A s.heap w s.heap [] := xw_S0 hw
  refine xl_start (lvs := [(0, .ref h0), (1, va_rf p0), (2, .int p1)]) (by first | exact Nat.le_of_ble_eq_true rfl | simp [lg_sl, va_rf_cat, xcat_i, xcat_l, xcat_r, xcat_n]) (by first | rfl | simp [lv_args, va_rf_cat, xcat_i, xcat_l, xcat_r, xcat_n]) (fun ls hl => ?_)
  unfold wp_BA_breaksLimit at h
  refine xl_aload_n hx hb dBA_breaksLimit_0 rfl (lv_at hl 1 rfl) ?_
  obtain ⟨a1, rfl, h⟩ := h
  obtain ⟨v2, hv, h⟩ := h
  refine xw_getR (C := RRW) (T := TRW) (N := 2) (ref := RRW) hx hb hts inRW hown hK hw rfl 0 (by decide) (hts _ mw_176) (fun _ h9 => h9) hv dBA_breaksLimit_1 ?_
  refine xl_astore_n (i := 3) (lv' := [(3, va_rf v2), (0, .ref h0), (1, .ref a1), (2, .int p1)]) hx hb dBA_breaksLimit_4 rfl hl (by decide) (by first | rfl | simp [va_rf_cat, xcat_i, xcat_l, xcat_r, xcat_n]) (fun ls hl => ?_)
  refine lv_aload_n hx hb dBA_breaksLimit_5 rfl (lv_at hl 2 rfl) ?_
  obtain ⟨⟨fs, hk⟩, h⟩ := h
  have hcall := h
  clear h
  refine xw_calli (va_runV (As := []) (rest := []) ⟨hx, hb, hml, hown, hts⟩ (c_RW_takesFromCustomer l D E A _ w a1 hcall) (cwV 0 hts (xG_V mw_241 mw_242 mw_243 mw_149 mw_244) rfl rfl rfl (by decide +kernel) ⟨(Nat.le_of_ble_eq_true rfl), (Nat.le_of_ble_eq_true rfl)⟩) (xw_preV (ci := 3) hw hK hE rfl hk) rfl rfl hl.1 rfl (lv_room (by first | exact Nat.le_of_ble_eq_true rfl | simp [va_rf_cat, xcat_i, xcat_l, xcat_r, xcat_n])) dBA_breaksLimit_6 ⟨(Nat.le_of_ble_eq_true rfl), (Nat.le_of_ble_eq_true rfl)⟩) hw (fun r3 w4 H locs h hw => ?_)
  clear hcall
  refine lv_if_eq (tgt := 37) hx hb dBA_breaksLimit_9 rfl (fun hc => ?_) (fun hc => ?_)
  · replace h := h.1 hc
    refine lv_iconst (v := 0) hx hb dBA_breaksLimit_37 (by decide) ?_
    refine W.widen (k := 0) (n := 0) (Nat.le_of_ble_eq_true rfl) (Nat.le_of_ble_eq_true rfl) ?_
    exact xw_zret (by decide) hx hb hr hlocks hw h dBA_breaksLimit_38
  · replace h := h.2 hc
    refine xl_aload_n hx hb dBA_breaksLimit_12 rfl (lv_at hl 0 rfl) ?_
    obtain ⟨a5, rfl, h⟩ := h
    obtain ⟨v6, hv, h⟩ := h
    refine xw_getL (C := RAC) (T := TAC) (N := 4) (ref := RAC) hx hb hts inAC hown hK hw rfl 3 (by decide) (hts _ mw_196) (fun _ h9 => h9) hv dBA_breaksLimit_13 ?_
    refine lv_aload_n hx hb dBA_breaksLimit_16 rfl (lv_at hl 1 rfl) ?_
    refine lv_aload_n hx hb dBA_breaksLimit_17 rfl (lv_at hl 0 rfl) ?_
    refine lv_iload_n hx hb dBA_breaksLimit_18 rfl (lv_at hl 3 rfl) ?_
    obtain ⟨⟨fs, hk⟩, h⟩ := h
    have hcall := h
    clear h
    refine xw_calll (va_runV (As := [.ref a5, .int p1]) (rest := [.long v6]) ⟨hx, hb, hml, hown, hts⟩ (c_BA_sumForAccount l D E A _ w4 h0 (some a5) p1 hcall) (cwV 2 hts (xG_V mw_240 mw_179 mw_180 mw_110 mw_181) rfl rfl rfl (by decide +kernel) ⟨(Nat.le_of_ble_eq_true rfl), (Nat.le_of_ble_eq_true rfl)⟩) (xw_preV (ci := 2) hw hK hE rfl hk) rfl rfl hl.1 rfl (lv_room (by first | exact Nat.le_of_ble_eq_true rfl | simp [va_rf_cat, xcat_i, xcat_l, xcat_r, xcat_n])) dBA_breaksLimit_19 ⟨(Nat.le_of_ble_eq_true rfl), (Nat.le_of_ble_eq_true rfl)⟩) hw (fun r7 w8 H locs h hw => ?_)
    clear hcall
    refine lv_ladd hx hb dBA_breaksLimit_22 ?_
    refine lv_aload_n hx hb dBA_breaksLimit_23 rfl (lv_at hl 0 rfl) ?_
    obtain ⟨v9, hv, h⟩ := h
    refine xw_getI (C := RAC) (T := TAC) (N := 4) (ref := RAC) hx hb hts inAC hown hK hw rfl 2 (by decide) (hts _ mw_239) (fun _ h9 => h9) hv dBA_breaksLimit_24 ?_
    refine lv_ineg hx hb dBA_breaksLimit_27 ?_
    refine lv_i2l hx hb dBA_breaksLimit_28 rfl ?_
    refine xl_lc_ge (tgt := 37) hx hb dBA_breaksLimit_29 dBA_breaksLimit_30 rfl (fun hc => ?_) (fun hc => ?_)
    · replace h := h.1 hc
      refine lv_iconst (v := 0) hx hb dBA_breaksLimit_37 (by decide) ?_
      refine W.widen (k := 0) (n := 0) (Nat.le_of_ble_eq_true rfl) (Nat.le_of_ble_eq_true rfl) ?_
      exact xw_zret (by decide) hx hb hr hlocks hw h dBA_breaksLimit_38
    · replace h := h.2 hc
      refine lv_iconst (v := 1) hx hb dBA_breaksLimit_33 (by decide) ?_
      refine lv_goto (tgt := 38) hx hb dBA_breaksLimit_34 rfl ?_
      refine W.widen (k := 0) (n := 0) (Nat.le_of_ble_eq_true rfl) (Nat.le_of_ble_eq_true rfl) ?_
      exact xw_zret (by decide) hx hb hr hlocks hw h dBA_breaksLimit_38
def wl_BA_outcomeOfPosting_25 (E : xE_T) (post : Option Nat → xw_T → Prop) : Nat → xw_T → Nat → Int32 → Prop
  | 0 => fun _ _ _ => False
  | n25 + 1 => fun w x0 x1 => ∃ v1, xgR w x0 2 1 = some v1 ∧ (∃ a2 : Nat, v1 = some a2 ∧ ((∃ fs, w a2 = some (.inr (0, fs))) ∧ wp_AL_size E (fun r3 w4 => (r3 ≤ x1 → (post (some (E.2 3)) w4)) ∧ (¬ r3 ≤ x1 → (∃ v5, xgR w4 x0 2 1 = some v5 ∧ (∃ a6 : Nat, v5 = some a6 ∧ ((∃ fs, w4 a6 = some (.inr (0, fs))) ∧ wp_AL_get E (fun r7 w8 => ∃ a9 : Nat, r7 = some a9 ∧ ((∃ fs, w8 a9 = some (.inr (3, fs))) ∧ ((∃ fs, w8 x0 = some (.inr (2, fs))) ∧ wp_BA_breaksLimit E (fun r10 w11 => (r10 = 0 → (∃ v12, xgI w11 x0 2 3 = some v12 ∧ ((v12 = 0 → (wl_BA_outcomeOfPosting_25 E post n25 w11 x0 (x1 + 1))) ∧ (¬ v12 = 0 → (post (some (E.2 4)) w11))))) ∧ (¬ r10 = 0 → (post (some (E.2 5)) w11))) w8 x0 (some a9) (x1 + 1)))) w4 a6 x1))))) w a2))
def wp_BA_outcomeOfPosting (E : xE_T) (post : Option Nat → xw_T → Prop) (w : xw_T) (h0 : Nat) : Prop := ∃ v13, xgR w h0 2 1 = some v13 ∧ (∃ a14 : Nat, v13 = some a14 ∧ ((∃ fs, w a14 = some (.inr (0, fs))) ∧ wp_AL_isEmpty E (fun r15 w16 => (¬ r15 = 0 → (post (some (E.2 5)) w16)) ∧ (r15 = 0 → ((∃ fs, w16 h0 = some (.inr (2, fs))) ∧ wp_BA_sumOfRows E (fun r17 w18 => (r17 = 0 → (∃ n25, wl_BA_outcomeOfPosting_25 E post n25 w18 h0 0)) ∧ (¬ r17 = 0 → (post (some (E.2 5)) w18))) w16 h0))) w a14))
set_option maxHeartbeats 4000000 in
set_option maxRecDepth 100000 in
theorem c_BA_outcomeOfPosting (l : Launch) (D : va_G) (E : xE_T) (A : Nat → Prop) (post : Option Nat → xw_T → Prop) (w : xw_T) (h0 : Nat) (h : wp_BA_outcomeOfPosting E post w h0) : Met l yBA_outcomeOfPosting (xW yBA_outcomeOfPosting cBA_outcomeOfPosting 2 (some (.object "PostLedger$Outcome"))) ({ frames := 5, cells := 0, slots := 0, locals := 113 } : Room) (va_Pc [.ref h0] (xP D E A w)) (va_Qq post (xB D A) A) 0 0 A := by
  refine Met.ofW (cc := cBA_outcomeOfPosting) (maxL := 2) (ret := (some (.object "PostLedger$Outcome"))) (by decide) rfl ?_
  intro p e s m args below meth c s₁ B hml hv
  obtain ⟨rfl, hw, hK, hE⟩ := hv
  have hx := B.exec
  have hb := B.bytes
  have hr := B.returns
  have hts : ∀ w ∈ xTB, w.before _ s = true := fun w hw => atoms_spec (ws := xW yBA_outcomeOfPosting cBA_outcomeOfPosting 2 (some (.object "PostLedger$Outcome"))) B.pre w (List.mem_cons_of_mem _ hw)
  have hown : s.vm.findClass RBA = some m.cls := findClass_of_methodNamed B.named
  have hlocks := B.notSynchronized
  have hw : xw_S D vwCl A s.heap w s.heap [] := xw_S0 hw
  have lo_25 : ∀ (n25 : Nat) (w : xw_T) (x0 : Nat) (x1 : Int32) (H : Heap) (locs : List Loc) (ls : Array Slot), lv_has ls 2 [(0, .ref x0), (1, .int x1)] → xw_S D vwCl A s.heap w H locs → wl_BA_outcomeOfPosting_25 E post n25 w x0 x1 → W p l e (headSpec (xW yBA_outcomeOfPosting cBA_outcomeOfPosting 2 (some (.object "PostLedger$Outcome"))) ({ frames := 5, cells := 0, slots := 0, locals := 113 } : Room)).room s m ([.ref h0] : List Value).toArray below meth c H locs 0 0 (MQ below (va_Qq post (xB D A) A) ([.ref h0] : List Value).toArray s 0 0 A) (F0 m 25 ls []) := by
    intro n25
    induction n25 with
    | zero => intro w x0 x1 H locs ls hl hw h; exact h.elim
    | succ n25 ih25 =>
      intro w x0 x1 H locs ls hl hw h
      dsimp only [wl_BA_outcomeOfPosting_25] at h
      refine lv_iload_n hx hb dBA_outcomeOfPosting_25 rfl (lv_at hl 1 rfl) ?_
      refine lv_aload_n hx hb dBA_outcomeOfPosting_26 rfl (lv_at hl 0 rfl) ?_
      obtain ⟨v1, hv, h⟩ := h
      refine xw_getR (C := RBA) (T := TBA) (N := 6) (ref := RBA) hx hb hts inBA hown hK hw rfl 1 (by decide) (hts _ mw_103) (fun _ h9 => h9) hv dBA_outcomeOfPosting_27 ?_
      obtain ⟨a2, rfl, h⟩ := h
      obtain ⟨⟨fs, hk⟩, h⟩ := h
      have hcall := h
      clear h
      refine xw_calli (va_runV (As := []) (rest := [.int x1]) ⟨hx, hb, hml, hown, hts⟩ (c_AL_size l D E A _ w a2 hcall) (cwV 0 hts (xG_V mw_142 mw_79 mw_80 mw_19 mw_81) rfl rfl rfl (by decide +kernel) ⟨(Nat.le_of_ble_eq_true rfl), (Nat.le_of_ble_eq_true rfl)⟩) (xw_preV (ci := 0) hw hK hE rfl hk) rfl rfl hl.1 rfl (lv_room (by first | exact Nat.le_of_ble_eq_true rfl | simp [va_rf_cat, xcat_i, xcat_l, xcat_r, xcat_n])) dBA_outcomeOfPosting_30 ⟨(Nat.le_of_ble_eq_true rfl), (Nat.le_of_ble_eq_true rfl)⟩) hw (fun r3 w4 H locs h hw => ?_)
      clear hcall
      refine lv_icmp_ge (tgt := 78) hx hb dBA_outcomeOfPosting_33 rfl (fun hc => ?_) (fun hc => ?_)
      · replace h := h.1 hc
        refine va_gets hx hb hE.2.2.2.1.1 hw.2.1 hown (hts _ mw_245) (fun _ h9 => h9) dBA_outcomeOfPosting_78 ?_
        refine W.widen (k := 0) (n := 0) (Nat.le_of_ble_eq_true rfl) (Nat.le_of_ble_eq_true rfl) ?_
        exact xw_aret (r := (some (E.2 3))) (Or.inl ⟨_, rfl⟩) hx hb hr hlocks hw h dBA_outcomeOfPosting_81
      · replace h := h.2 hc
        refine lv_aload_n hx hb dBA_outcomeOfPosting_36 rfl (lv_at hl 0 rfl) ?_
        refine lv_aload_n hx hb dBA_outcomeOfPosting_37 rfl (lv_at hl 0 rfl) ?_
        obtain ⟨v5, hv, h⟩ := h
        refine xw_getR (C := RBA) (T := TBA) (N := 6) (ref := RBA) hx hb hts inBA hown hK hw rfl 1 (by decide) (hts _ mw_103) (fun _ h9 => h9) hv dBA_outcomeOfPosting_38 ?_
        refine lv_iload_n hx hb dBA_outcomeOfPosting_41 rfl (lv_at hl 1 rfl) ?_
        obtain ⟨a6, rfl, h⟩ := h
        obtain ⟨⟨fs, hk⟩, h⟩ := h
        have hcall := h
        clear h
        refine xw_callq (va_runV (As := [.int x1]) (rest := [.ref x0]) ⟨hx, hb, hml, hown, hts⟩ (c_AL_get l D E A _ w4 a6 x1 hcall) (cwV 1 hts (xG_V mw_177 mw_139 mw_140 mw_19 mw_141) rfl rfl rfl (by decide +kernel) ⟨(Nat.le_of_ble_eq_true rfl), (Nat.le_of_ble_eq_true rfl)⟩) (xw_preV (ci := 0) hw hK hE rfl hk) rfl rfl hl.1 rfl (lv_room (by first | exact Nat.le_of_ble_eq_true rfl | simp [va_rf_cat, xcat_i, xcat_l, xcat_r, xcat_n])) dBA_outcomeOfPosting_42 ⟨(Nat.le_of_ble_eq_true rfl), (Nat.le_of_ble_eq_true rfl)⟩) hw (fun r7 w8 H locs h hw => ?_)
        clear hcall
        obtain ⟨a9, rfl, h⟩ := h
        obtain ⟨⟨fs, hk⟩, h⟩ := h
        refine va_castS hx hb hown (hts _ mw_151) (hK.1 3 _ rfl).2 (xw_recv hK hw (ci := 3) rfl hk) dBA_outcomeOfPosting_45 ?_
        refine lv_iload_n hx hb dBA_outcomeOfPosting_48 rfl (lv_at hl 1 rfl) ?_
        refine lv_iconst (v := 1) hx hb dBA_outcomeOfPosting_49 (by decide) ?_
        refine lv_iadd hx hb dBA_outcomeOfPosting_50 ?_
        obtain ⟨⟨fs, hk⟩, h⟩ := h
        have hcall := h
        clear h
        refine xw_calli (va_runV (As := [.ref a9, .int (x1 + 1)]) (rest := []) ⟨hx, hb, hml, hown, hts⟩ (c_BA_breaksLimit l D E A _ w8 x0 (some a9) (x1 + 1) hcall) (cwV 2 hts (xG_V mw_249 mw_250 mw_251 mw_110 mw_252) rfl rfl rfl (by decide +kernel) ⟨(Nat.le_of_ble_eq_true rfl), (Nat.le_of_ble_eq_true rfl)⟩) (xw_preV (ci := 2) hw hK hE rfl hk) rfl rfl hl.1 rfl (lv_room (by first | exact Nat.le_of_ble_eq_true rfl | simp [va_rf_cat, xcat_i, xcat_l, xcat_r, xcat_n])) dBA_outcomeOfPosting_51 ⟨(Nat.le_of_ble_eq_true rfl), (Nat.le_of_ble_eq_true rfl)⟩) hw (fun r10 w11 H locs h hw => ?_)
        clear hcall
        refine lv_if_eq (tgt := 61) hx hb dBA_outcomeOfPosting_54 rfl (fun hc => ?_) (fun hc => ?_)
        · replace h := h.1 hc
          refine lv_aload_n hx hb dBA_outcomeOfPosting_61 rfl (lv_at hl 0 rfl) ?_
          obtain ⟨v12, hv, h⟩ := h
          refine xw_getI (C := RBA) (T := TBA) (N := 6) (ref := RBA) hx hb hts inBA hown hK hw rfl 3 (by decide) (hts _ mw_247) (fun _ h9 => h9) hv dBA_outcomeOfPosting_62 ?_
          refine lv_if_eq (tgt := 72) hx hb dBA_outcomeOfPosting_65 rfl (fun hc => ?_) (fun hc => ?_)
          · replace h := h.1 hc
            refine lv_iinc (k := 1) (v := x1 + 1) (lv' := [(1, .int (x1 + 1)), (0, .ref x0)]) hx hb dBA_outcomeOfPosting_72 hl rfl rfl (by decide) (by first | rfl | simp [va_rf_cat, xcat_i, xcat_l, xcat_r, xcat_n]) (fun ls hl => ?_)
            refine lv_goto (tgt := 25) hx hb dBA_outcomeOfPosting_75 rfl ?_
            exact ih25 _ x0 (x1 + 1) _ _ _ (lv_sub hl [1, 0] rfl) hw h
          · replace h := h.2 hc
            refine va_gets hx hb hE.2.2.2.1.2.1 hw.2.1 hown (hts _ mw_246) (fun _ h9 => h9) dBA_outcomeOfPosting_68 ?_
            refine W.widen (k := 0) (n := 0) (Nat.le_of_ble_eq_true rfl) (Nat.le_of_ble_eq_true rfl) ?_
            exact xw_aret (r := (some (E.2 4))) (Or.inl ⟨_, rfl⟩) hx hb hr hlocks hw h dBA_outcomeOfPosting_71
        · replace h := h.2 hc
          refine va_gets hx hb hE.2.2.2.1.2.2 hw.2.1 hown (hts _ mw_248) (fun _ h9 => h9) dBA_outcomeOfPosting_57 ?_
          refine W.widen (k := 0) (n := 0) (Nat.le_of_ble_eq_true rfl) (Nat.le_of_ble_eq_true rfl) ?_
          exact xw_aret (r := (some (E.2 5))) (Or.inl ⟨_, rfl⟩) hx hb hr hlocks hw h dBA_outcomeOfPosting_60
  refine xl_start (lvs := [(0, .ref h0)]) (by first | exact Nat.le_of_ble_eq_true rfl | simp [lg_sl, va_rf_cat, xcat_i, xcat_l, xcat_r, xcat_n]) (by first | rfl | simp [lv_args, va_rf_cat, xcat_i, xcat_l, xcat_r, xcat_n]) (fun ls hl => ?_)
  unfold wp_BA_outcomeOfPosting at h
  refine lv_aload_n hx hb dBA_outcomeOfPosting_0 rfl (lv_at hl 0 rfl) ?_
  obtain ⟨v13, hv, h⟩ := h
  refine xw_getR (C := RBA) (T := TBA) (N := 6) (ref := RBA) hx hb hts inBA hown hK hw rfl 1 (by decide) (hts _ mw_103) (fun _ h9 => h9) hv dBA_outcomeOfPosting_1 ?_
  obtain ⟨a14, rfl, h⟩ := h
  obtain ⟨⟨fs, hk⟩, h⟩ := h
  have hcall := h
  clear h
  refine xw_calli (va_runV (As := []) (rest := []) ⟨hx, hb, hml, hown, hts⟩ (c_AL_isEmpty l D E A _ w a14 hcall) (cwV 0 hts (xG_V mw_257 mw_258 mw_259 mw_19 mw_260) rfl rfl rfl (by decide +kernel) ⟨(Nat.le_of_ble_eq_true rfl), (Nat.le_of_ble_eq_true rfl)⟩) (xw_preV (ci := 0) hw hK hE rfl hk) rfl rfl hl.1 rfl (lv_room (by first | exact Nat.le_of_ble_eq_true rfl | simp [va_rf_cat, xcat_i, xcat_l, xcat_r, xcat_n])) dBA_outcomeOfPosting_4 ⟨(Nat.le_of_ble_eq_true rfl), (Nat.le_of_ble_eq_true rfl)⟩) hw (fun r15 w16 H locs h hw => ?_)
  clear hcall
  refine lv_if_ne (tgt := 19) hx hb dBA_outcomeOfPosting_7 rfl (fun hc => ?_) (fun hc => ?_)
  · replace h := h.1 hc
    refine va_gets hx hb hE.2.2.2.1.2.2 hw.2.1 hown (hts _ mw_248) (fun _ h9 => h9) dBA_outcomeOfPosting_19 ?_
    refine W.widen (k := 0) (n := 0) (Nat.le_of_ble_eq_true rfl) (Nat.le_of_ble_eq_true rfl) ?_
    exact xw_aret (r := (some (E.2 5))) (Or.inl ⟨_, rfl⟩) hx hb hr hlocks hw h dBA_outcomeOfPosting_22
  · replace h := h.2 hc
    refine lv_aload_n hx hb dBA_outcomeOfPosting_10 rfl (lv_at hl 0 rfl) ?_
    obtain ⟨⟨fs, hk⟩, h⟩ := h
    have hcall := h
    clear h
    refine xw_calll (va_runV (As := []) (rest := []) ⟨hx, hb, hml, hown, hts⟩ (c_BA_sumOfRows l D E A _ w16 h0 hcall) (cwV 0 hts (xG_V mw_253 mw_254 mw_255 mw_110 mw_256) rfl rfl rfl (by decide +kernel) ⟨(Nat.le_of_ble_eq_true rfl), (Nat.le_of_ble_eq_true rfl)⟩) (xw_preV (ci := 2) hw hK hE rfl hk) rfl rfl hl.1 rfl (lv_room (by first | exact Nat.le_of_ble_eq_true rfl | simp [va_rf_cat, xcat_i, xcat_l, xcat_r, xcat_n])) dBA_outcomeOfPosting_11 ⟨(Nat.le_of_ble_eq_true rfl), (Nat.le_of_ble_eq_true rfl)⟩) hw (fun r17 w18 H locs h hw => ?_)
    clear hcall
    refine lv_lconst (v := 0) hx hb dBA_outcomeOfPosting_14 (by decide) ?_
    refine xl_lc_eq (tgt := 23) hx hb dBA_outcomeOfPosting_15 dBA_outcomeOfPosting_16 rfl (fun hc => ?_) (fun hc => ?_)
    · replace h := h.1 hc
      refine lv_iconst (v := 0) hx hb dBA_outcomeOfPosting_23 (by decide) ?_
      refine lv_istore_n (i := 1) (lv' := [(1, .int 0), (0, .ref h0)]) hx hb dBA_outcomeOfPosting_24 rfl hl (by decide) (by first | rfl | simp [va_rf_cat, xcat_i, xcat_l, xcat_r, xcat_n]) (fun ls hl => ?_)
      obtain ⟨n25, h⟩ := h
      refine W.widen (k := 0) (n := 0) (Nat.le_of_ble_eq_true rfl) (Nat.le_of_ble_eq_true rfl) ?_
      exact lo_25 n25 _ h0 0 _ _ _ (lv_sub hl [1, 0] rfl) hw h
    · replace h := h.2 hc
      refine va_gets hx hb hE.2.2.2.1.2.2 hw.2.1 hown (hts _ mw_248) (fun _ h9 => h9) dBA_outcomeOfPosting_19 ?_
      refine W.widen (k := 0) (n := 0) (Nat.le_of_ble_eq_true rfl) (Nat.le_of_ble_eq_true rfl) ?_
      exact xw_aret (r := (some (E.2 5))) (Or.inl ⟨_, rfl⟩) hx hb hr hlocks hw h dBA_outcomeOfPosting_22
end
section
/-! meanings and walks: REF 0 -/
def wp_MO_init (E : xE_T) (post : xw_T → Prop) (w : xw_T) (h0 : Nat) : Prop := ∀ q1 : Nat, (w q1 = none ∧ q1 ≠ E.2 6) → ∀ w2, w2 = va_up w q1 (some (xcI (E.1 1) 61 (fun _ => 0))) → ((∃ v0, xg w2 h0 5 2 = some v0) ∧ ∀ w3, w3 = xp w2 h0 2 (.ref q1) → (∀ q4 : Nat, (w3 q4 = none ∧ q4 ≠ E.2 6) → ∀ w5, w5 = va_up w3 q4 (some (xcI (E.1 1) 61 (fun _ => 0))) → ((∃ v0, xg w5 h0 5 3 = some v0) ∧ ∀ w6, w6 = xp w5 h0 3 (.ref q4) → (∀ q7 : Nat, (w6 q7 = none ∧ q7 ≠ E.2 6) → ∀ w8, w8 = va_up w6 q7 (some (xcL (E.1 2) 61 (fun _ => 0))) → ((∃ v0, xg w8 h0 5 4 = some v0) ∧ ∀ w9, w9 = xp w8 h0 4 (.ref q7) → (∀ q10 : Nat, (w9 q10 = none ∧ q10 ≠ E.2 6) → ∀ w11, w11 = va_up w9 q10 (some (xcI (E.1 1) 301 (fun _ => 0))) → ((∃ v0, xg w11 h0 5 6 = some v0) ∧ ∀ w12, w12 = xp w11 h0 6 (.ref q10) → (∀ q13 : Nat, (w12 q13 = none ∧ q13 ≠ E.2 6) → ∀ w14, w14 = va_up w12 q13 (some (xcL (E.1 2) 301 (fun _ => 0))) → ((∃ v0, xg w14 h0 5 7 = some v0) ∧ ∀ w15, w15 = xp w14 h0 7 (.ref q13) → (∀ q16 : Nat, (w15 q16 = none ∧ q16 ≠ E.2 6) → ∀ w17, w17 = va_up w15 q16 (some (xcI (E.1 3) 301 (fun _ => 0))) → ((∃ v0, xg w17 h0 5 8 = some v0) ∧ ∀ w18, w18 = xp w17 h0 8 (.ref q16) → (∀ q19 : Nat, (w18 q19 = none ∧ q19 ≠ E.2 6) → ∀ w20, w20 = va_up w18 q19 (some (xcI (E.1 3) 301 (fun _ => 0))) → ((∃ v0, xg w20 h0 5 9 = some v0) ∧ ∀ w21, w21 = xp w20 h0 9 (.ref q19) → (∀ q22 : Nat, (w21 q22 = none ∧ q22 ≠ E.2 6) → ∀ w23, w23 = va_up w21 q22 (some (xcI (E.1 3) 301 (fun _ => 0))) → ((∃ v0, xg w23 h0 5 10 = some v0) ∧ ∀ w24, w24 = xp w23 h0 10 (.ref q22) → (∀ q25 : Nat, (w24 q25 = none ∧ q25 ≠ E.2 6) → ∀ w26, w26 = va_up w24 q25 (some (xcI (E.1 1) 301 (fun _ => 0))) → ((∃ v0, xg w26 h0 5 11 = some v0) ∧ ∀ w27, w27 = xp w26 h0 11 (.ref q25) → (∀ q28 : Nat, (w27 q28 = none ∧ q28 ≠ E.2 6) → ∀ w29, w29 = va_up w27 q28 (some (xcI (E.1 1) 3612 (fun _ => 0))) → ((∃ v0, xg w29 h0 5 12 = some v0) ∧ ∀ w30, w30 = xp w29 h0 12 (.ref q28) → (∀ q31 : Nat, (w30 q31 = none ∧ q31 ≠ E.2 6) → ∀ w32, w32 = va_up w30 q31 (some (xcL (E.1 2) 3612 (fun _ => 0))) → ((∃ v0, xg w32 h0 5 13 = some v0) ∧ ∀ w33, w33 = xp w32 h0 13 (.ref q31) → (∀ q34 : Nat, (w33 q34 = none ∧ q34 ≠ E.2 6) → ∀ w35, w35 = va_up w33 q34 (some (xcI (E.1 1) 300 (fun _ => 0))) → ((∃ v0, xg w35 h0 5 15 = some v0) ∧ ∀ w36, w36 = xp w35 h0 15 (.ref q34) → ((∃ v0, xg w36 h0 5 16 = some v0) ∧ ∀ w37, w37 = xp w36 h0 16 (.long (-1)) → ((∃ v0, xg w37 h0 5 16 = some v0) ∧ ∀ w38, w38 = xp w37 h0 16 (.long (-1)) → (post w38))))))))))))))))))))))))))
set_option maxHeartbeats 4000000 in
set_option maxRecDepth 100000 in
theorem c_MO_init (l : Launch) (D : va_G) (E : xE_T) (A : Nat → Prop) (post : xw_T → Prop) (w : xw_T) (h0 : Nat) (h : wp_MO_init E post w h0) : Met l yMO_init (xW yMO_init cMO_init 1 none) ({ frames := 1, cells := 12, slots := 9513, locals := 12 } : Room) (va_Pc [.ref h0] (xP D E A w)) (va_Qv post (xB D A) A) 12 9513 A := by
  refine Met.ofW (cc := cMO_init) (maxL := 1) (ret := none) (by decide) rfl ?_
  intro p e s m args below meth c s₁ B hml hv
  obtain ⟨rfl, hw, hK, hE⟩ := hv
  have hx := B.exec
  have hb := B.bytes
  have hr := B.returns
  have hts : ∀ w ∈ xTB, w.before _ s = true := fun w hw => atoms_spec (ws := xW yMO_init cMO_init 1 none) B.pre w (List.mem_cons_of_mem _ hw)
  have hown : s.vm.findClass RMO = some m.cls := findClass_of_methodNamed B.named
  have hlocks := B.notSynchronized
  have hin : meth.name = "<init>" := (name_of_methodNamed B.named B.method).1
  have hw : xw_S D vwCl A s.heap w s.heap [] := xw_S0 hw
  refine xl_start (lvs := [(0, .ref h0)]) (by first | exact Nat.le_of_ble_eq_true rfl | simp [lg_sl, va_rf_cat, xcat_i, xcat_l, xcat_r, xcat_n]) (by first | rfl | simp [lv_args, va_rf_cat, xcat_i, xcat_l, xcat_r, xcat_n]) (fun ls hl => ?_)
  unfold wp_MO_init at h
  refine lv_aload_n hx hb dMO_init_0 rfl (lv_at hl 0 rfl) ?_
  refine W.objInit hx hb hown (hts _ mw_287) (hts _ mw_1) (hts _ mw_2) rfl (by rw [hml]; exact hl.1) rfl dMO_init_1 (Nat.le_of_ble_eq_true rfl) (Nat.le_of_ble_eq_true rfl) ?_
  refine lv_aload_n hx hb dMO_init_4 rfl (lv_at hl 0 rfl) ?_
  refine lv_bipush (v := 61) hx hb dMO_init_5 (by decide) ?_
  refine xw_newi (N' := 61) hx hb (hts _ mw_273) hK hw (by decide) (by decide) (by decide) (Nat.le_of_ble_eq_true rfl) (Nat.le_of_ble_eq_true rfl) dMO_init_7 (fun q1 H hq hqA hw => ?_)
  replace h := h _ ⟨hq, xq6 hE hqA⟩ _ rfl
  generalize va_up w q1 (some (xcI (E.1 1) 61 (fun _ => 0))) = w2 at hw h
  obtain ⟨hv, h⟩ := h
  refine xw_putF (ty := (.array .int)) (C := RMO) (T := TMO) (N := 17) (ref := RMO) hx hb hts inMO tyMO tyMO_ok nmMO hown hK hw rfl 2 (by decide) (hts _ mw_286) (fun _ h9 => h9) rfl hin rfl (by decide +kernel) rfl rfl hv dMO_init_9 (fun H locs hw => ?_)
  replace h := h _ rfl
  generalize xp w2 h0 2 (.ref q1) = w3 at hw h
  refine lv_aload_n hx hb dMO_init_12 rfl (lv_at hl 0 rfl) ?_
  refine lv_bipush (v := 61) hx hb dMO_init_13 (by decide) ?_
  refine xw_newi (N' := 61) hx hb (hts _ mw_273) hK hw (by decide) (by decide) (by decide) (Nat.le_of_ble_eq_true rfl) (Nat.le_of_ble_eq_true rfl) dMO_init_15 (fun q4 H hq hqA hw => ?_)
  replace h := h _ ⟨hq, xq6 hE hqA⟩ _ rfl
  generalize va_up w3 q4 (some (xcI (E.1 1) 61 (fun _ => 0))) = w5 at hw h
  obtain ⟨hv, h⟩ := h
  refine xw_putF (ty := (.array .int)) (C := RMO) (T := TMO) (N := 17) (ref := RMO) hx hb hts inMO tyMO tyMO_ok nmMO hown hK hw rfl 3 (by decide) (hts _ mw_285) (fun _ h9 => h9) rfl hin rfl (by decide +kernel) rfl rfl hv dMO_init_17 (fun H locs hw => ?_)
  replace h := h _ rfl
  generalize xp w5 h0 3 (.ref q4) = w6 at hw h
  refine lv_aload_n hx hb dMO_init_20 rfl (lv_at hl 0 rfl) ?_
  refine lv_bipush (v := 61) hx hb dMO_init_21 (by decide) ?_
  refine xw_newl (N' := 61) hx hb (hts _ mw_275) hK hw (by decide) (by decide) (by decide) (Nat.le_of_ble_eq_true rfl) (Nat.le_of_ble_eq_true rfl) dMO_init_23 (fun q7 H hq hqA hw => ?_)
  replace h := h _ ⟨hq, xq6 hE hqA⟩ _ rfl
  generalize va_up w6 q7 (some (xcL (E.1 2) 61 (fun _ => 0))) = w8 at hw h
  obtain ⟨hv, h⟩ := h
  refine xw_putF (ty := (.array .long)) (C := RMO) (T := TMO) (N := 17) (ref := RMO) hx hb hts inMO tyMO tyMO_ok nmMO hown hK hw rfl 4 (by decide) (hts _ mw_284) (fun _ h9 => h9) rfl hin rfl (by decide +kernel) rfl rfl hv dMO_init_25 (fun H locs hw => ?_)
  replace h := h _ rfl
  generalize xp w8 h0 4 (.ref q7) = w9 at hw h
  refine lv_aload_n hx hb dMO_init_28 rfl (lv_at hl 0 rfl) ?_
  refine lv_sipush (v := 301) hx hb dMO_init_29 (by decide) ?_
  refine xw_newi (N' := 301) hx hb (hts _ mw_273) hK hw (by decide) (by decide) (by decide) (Nat.le_of_ble_eq_true rfl) (Nat.le_of_ble_eq_true rfl) dMO_init_32 (fun q10 H hq hqA hw => ?_)
  replace h := h _ ⟨hq, xq6 hE hqA⟩ _ rfl
  generalize va_up w9 q10 (some (xcI (E.1 1) 301 (fun _ => 0))) = w11 at hw h
  obtain ⟨hv, h⟩ := h
  refine xw_putF (ty := (.array .int)) (C := RMO) (T := TMO) (N := 17) (ref := RMO) hx hb hts inMO tyMO tyMO_ok nmMO hown hK hw rfl 6 (by decide) (hts _ mw_283) (fun _ h9 => h9) rfl hin rfl (by decide +kernel) rfl rfl hv dMO_init_34 (fun H locs hw => ?_)
  replace h := h _ rfl
  generalize xp w11 h0 6 (.ref q10) = w12 at hw h
  refine lv_aload_n hx hb dMO_init_37 rfl (lv_at hl 0 rfl) ?_
  refine lv_sipush (v := 301) hx hb dMO_init_38 (by decide) ?_
  refine xw_newl (N' := 301) hx hb (hts _ mw_275) hK hw (by decide) (by decide) (by decide) (Nat.le_of_ble_eq_true rfl) (Nat.le_of_ble_eq_true rfl) dMO_init_41 (fun q13 H hq hqA hw => ?_)
  replace h := h _ ⟨hq, xq6 hE hqA⟩ _ rfl
  generalize va_up w12 q13 (some (xcL (E.1 2) 301 (fun _ => 0))) = w14 at hw h
  obtain ⟨hv, h⟩ := h
  refine xw_putF (ty := (.array .long)) (C := RMO) (T := TMO) (N := 17) (ref := RMO) hx hb hts inMO tyMO tyMO_ok nmMO hown hK hw rfl 7 (by decide) (hts _ mw_282) (fun _ h9 => h9) rfl hin rfl (by decide +kernel) rfl rfl hv dMO_init_43 (fun H locs hw => ?_)
  replace h := h _ rfl
  generalize xp w14 h0 7 (.ref q13) = w15 at hw h
  refine lv_aload_n hx hb dMO_init_46 rfl (lv_at hl 0 rfl) ?_
  refine lv_sipush (v := 301) hx hb dMO_init_47 (by decide) ?_
  refine xw_newz (N' := 301) hx hb (hts _ mw_279) hK hw (by decide) (by decide) (by decide) (Nat.le_of_ble_eq_true rfl) (Nat.le_of_ble_eq_true rfl) dMO_init_50 (fun q16 H hq hqA hw => ?_)
  replace h := h _ ⟨hq, xq6 hE hqA⟩ _ rfl
  generalize va_up w15 q16 (some (xcI (E.1 3) 301 (fun _ => 0))) = w17 at hw h
  obtain ⟨hv, h⟩ := h
  refine xw_putF (ty := (.array .boolean)) (C := RMO) (T := TMO) (N := 17) (ref := RMO) hx hb hts inMO tyMO tyMO_ok nmMO hown hK hw rfl 8 (by decide) (hts _ mw_281) (fun _ h9 => h9) rfl hin rfl (by decide +kernel) rfl rfl hv dMO_init_52 (fun H locs hw => ?_)
  replace h := h _ rfl
  generalize xp w17 h0 8 (.ref q16) = w18 at hw h
  refine lv_aload_n hx hb dMO_init_55 rfl (lv_at hl 0 rfl) ?_
  refine lv_sipush (v := 301) hx hb dMO_init_56 (by decide) ?_
  refine xw_newz (N' := 301) hx hb (hts _ mw_279) hK hw (by decide) (by decide) (by decide) (Nat.le_of_ble_eq_true rfl) (Nat.le_of_ble_eq_true rfl) dMO_init_59 (fun q19 H hq hqA hw => ?_)
  replace h := h _ ⟨hq, xq6 hE hqA⟩ _ rfl
  generalize va_up w18 q19 (some (xcI (E.1 3) 301 (fun _ => 0))) = w20 at hw h
  obtain ⟨hv, h⟩ := h
  refine xw_putF (ty := (.array .boolean)) (C := RMO) (T := TMO) (N := 17) (ref := RMO) hx hb hts inMO tyMO tyMO_ok nmMO hown hK hw rfl 9 (by decide) (hts _ mw_280) (fun _ h9 => h9) rfl hin rfl (by decide +kernel) rfl rfl hv dMO_init_61 (fun H locs hw => ?_)
  replace h := h _ rfl
  generalize xp w20 h0 9 (.ref q19) = w21 at hw h
  refine lv_aload_n hx hb dMO_init_64 rfl (lv_at hl 0 rfl) ?_
  refine lv_sipush (v := 301) hx hb dMO_init_65 (by decide) ?_
  refine xw_newz (N' := 301) hx hb (hts _ mw_279) hK hw (by decide) (by decide) (by decide) (Nat.le_of_ble_eq_true rfl) (Nat.le_of_ble_eq_true rfl) dMO_init_68 (fun q22 H hq hqA hw => ?_)
  replace h := h _ ⟨hq, xq6 hE hqA⟩ _ rfl
  generalize va_up w21 q22 (some (xcI (E.1 3) 301 (fun _ => 0))) = w23 at hw h
  obtain ⟨hv, h⟩ := h
  refine xw_putF (ty := (.array .boolean)) (C := RMO) (T := TMO) (N := 17) (ref := RMO) hx hb hts inMO tyMO tyMO_ok nmMO hown hK hw rfl 10 (by decide) (hts _ mw_278) (fun _ h9 => h9) rfl hin rfl (by decide +kernel) rfl rfl hv dMO_init_70 (fun H locs hw => ?_)
  replace h := h _ rfl
  generalize xp w23 h0 10 (.ref q22) = w24 at hw h
  refine lv_aload_n hx hb dMO_init_73 rfl (lv_at hl 0 rfl) ?_
  refine lv_sipush (v := 301) hx hb dMO_init_74 (by decide) ?_
  refine xw_newi (N' := 301) hx hb (hts _ mw_273) hK hw (by decide) (by decide) (by decide) (Nat.le_of_ble_eq_true rfl) (Nat.le_of_ble_eq_true rfl) dMO_init_77 (fun q25 H hq hqA hw => ?_)
  replace h := h _ ⟨hq, xq6 hE hqA⟩ _ rfl
  generalize va_up w24 q25 (some (xcI (E.1 1) 301 (fun _ => 0))) = w26 at hw h
  obtain ⟨hv, h⟩ := h
  refine xw_putF (ty := (.array .int)) (C := RMO) (T := TMO) (N := 17) (ref := RMO) hx hb hts inMO tyMO tyMO_ok nmMO hown hK hw rfl 11 (by decide) (hts _ mw_277) (fun _ h9 => h9) rfl hin rfl (by decide +kernel) rfl rfl hv dMO_init_79 (fun H locs hw => ?_)
  replace h := h _ rfl
  generalize xp w26 h0 11 (.ref q25) = w27 at hw h
  refine lv_aload_n hx hb dMO_init_82 rfl (lv_at hl 0 rfl) ?_
  refine lv_sipush (v := 3612) hx hb dMO_init_83 (by decide) ?_
  refine xw_newi (N' := 3612) hx hb (hts _ mw_273) hK hw (by decide) (by decide) (by decide) (Nat.le_of_ble_eq_true rfl) (Nat.le_of_ble_eq_true rfl) dMO_init_86 (fun q28 H hq hqA hw => ?_)
  replace h := h _ ⟨hq, xq6 hE hqA⟩ _ rfl
  generalize va_up w27 q28 (some (xcI (E.1 1) 3612 (fun _ => 0))) = w29 at hw h
  obtain ⟨hv, h⟩ := h
  refine xw_putF (ty := (.array .int)) (C := RMO) (T := TMO) (N := 17) (ref := RMO) hx hb hts inMO tyMO tyMO_ok nmMO hown hK hw rfl 12 (by decide) (hts _ mw_276) (fun _ h9 => h9) rfl hin rfl (by decide +kernel) rfl rfl hv dMO_init_88 (fun H locs hw => ?_)
  replace h := h _ rfl
  generalize xp w29 h0 12 (.ref q28) = w30 at hw h
  refine lv_aload_n hx hb dMO_init_91 rfl (lv_at hl 0 rfl) ?_
  refine lv_sipush (v := 3612) hx hb dMO_init_92 (by decide) ?_
  refine xw_newl (N' := 3612) hx hb (hts _ mw_275) hK hw (by decide) (by decide) (by decide) (Nat.le_of_ble_eq_true rfl) (Nat.le_of_ble_eq_true rfl) dMO_init_95 (fun q31 H hq hqA hw => ?_)
  replace h := h _ ⟨hq, xq6 hE hqA⟩ _ rfl
  generalize va_up w30 q31 (some (xcL (E.1 2) 3612 (fun _ => 0))) = w32 at hw h
  obtain ⟨hv, h⟩ := h
  refine xw_putF (ty := (.array .long)) (C := RMO) (T := TMO) (N := 17) (ref := RMO) hx hb hts inMO tyMO tyMO_ok nmMO hown hK hw rfl 13 (by decide) (hts _ mw_274) (fun _ h9 => h9) rfl hin rfl (by decide +kernel) rfl rfl hv dMO_init_97 (fun H locs hw => ?_)
  replace h := h _ rfl
  generalize xp w32 h0 13 (.ref q31) = w33 at hw h
  refine lv_aload_n hx hb dMO_init_100 rfl (lv_at hl 0 rfl) ?_
  refine lv_sipush (v := 300) hx hb dMO_init_101 (by decide) ?_
  refine xw_newi (N' := 300) hx hb (hts _ mw_273) hK hw (by decide) (by decide) (by decide) (Nat.le_of_ble_eq_true rfl) (Nat.le_of_ble_eq_true rfl) dMO_init_104 (fun q34 H hq hqA hw => ?_)
  replace h := h _ ⟨hq, xq6 hE hqA⟩ _ rfl
  generalize va_up w33 q34 (some (xcI (E.1 1) 300 (fun _ => 0))) = w35 at hw h
  obtain ⟨hv, h⟩ := h
  refine xw_putF (ty := (.array .int)) (C := RMO) (T := TMO) (N := 17) (ref := RMO) hx hb hts inMO tyMO tyMO_ok nmMO hown hK hw rfl 15 (by decide) (hts _ mw_272) (fun _ h9 => h9) rfl hin rfl (by decide +kernel) rfl rfl hv dMO_init_106 (fun H locs hw => ?_)
  replace h := h _ rfl
  generalize xp w35 h0 15 (.ref q34) = w36 at hw h
  refine lv_aload_n hx hb dMO_init_109 rfl (lv_at hl 0 rfl) ?_
  refine lv_ldc2 (v := (-1)) hx hb hown (hts _ mw_271) dMO_init_110 ?_
  obtain ⟨hv, h⟩ := h
  refine xw_put (ty := (.long)) (C := RMO) (T := TMO) (N := 17) (ref := RMO) hx hb hts inMO tyMO tyMO_ok nmMO hown hK hw rfl 16 (by decide) (hts _ mw_270) (fun _ h9 => h9) rfl (by decide +kernel) rfl rfl hv dMO_init_113 (fun H locs hw => ?_)
  replace h := h _ rfl
  generalize xp w36 h0 16 (.long (-1)) = w37 at hw h
  refine lv_aload_n hx hb dMO_init_116 rfl (lv_at hl 0 rfl) ?_
  refine lv_ldc2 (v := (-1)) hx hb hown (hts _ mw_271) dMO_init_117 ?_
  obtain ⟨hv, h⟩ := h
  refine xw_put (ty := (.long)) (C := RMO) (T := TMO) (N := 17) (ref := RMO) hx hb hts inMO tyMO tyMO_ok nmMO hown hK hw rfl 16 (by decide) (hts _ mw_270) (fun _ h9 => h9) rfl (by decide +kernel) rfl rfl hv dMO_init_120 (fun H locs hw => ?_)
  replace h := h _ rfl
  generalize xp w37 h0 16 (.long (-1)) = w38 at hw h
  refine W.widen (k := 12) (n := 9513) (Nat.le_of_ble_eq_true rfl) (Nat.le_of_ble_eq_true rfl) ?_
  exact xw_vret hx hb hr hlocks hw h dMO_init_123
def wp_MO_thrown (E : xE_T) (post : Int32 → xw_T → Prop) (w : xw_T) (h0 : Nat) : Prop := ∃ v1, xgI w h0 5 0 = some v1 ∧ (post v1 w)
set_option maxHeartbeats 4000000 in
set_option maxRecDepth 100000 in
theorem c_MO_thrown (l : Launch) (D : va_G) (E : xE_T) (A : Nat → Prop) (post : Int32 → xw_T → Prop) (w : xw_T) (h0 : Nat) (h : wp_MO_thrown E post w h0) : Met l yMO_thrown (xW yMO_thrown cMO_thrown 1 (some (.int))) ({ frames := 0, cells := 0, slots := 0, locals := 0 } : Room) (va_Pc [.ref h0] (xP D E A w)) (va_Qi post (xB D A) A) 0 0 A := by
  refine Met.ofW (cc := cMO_thrown) (maxL := 1) (ret := (some (.int))) (by decide) rfl ?_
  intro p e s m args below meth c s₁ B hml hv
  obtain ⟨rfl, hw, hK, hE⟩ := hv
  have hx := B.exec
  have hb := B.bytes
  have hr := B.returns
  have hts : ∀ w ∈ xTB, w.before _ s = true := fun w hw => atoms_spec (ws := xW yMO_thrown cMO_thrown 1 (some (.int))) B.pre w (List.mem_cons_of_mem _ hw)
  have hown : s.vm.findClass RMO = some m.cls := findClass_of_methodNamed B.named
  have hlocks := B.notSynchronized
  have hw : xw_S D vwCl A s.heap w s.heap [] := xw_S0 hw
  refine xl_start (lvs := [(0, .ref h0)]) (by first | exact Nat.le_of_ble_eq_true rfl | simp [lg_sl, va_rf_cat, xcat_i, xcat_l, xcat_r, xcat_n]) (by first | rfl | simp [lv_args, va_rf_cat, xcat_i, xcat_l, xcat_r, xcat_n]) (fun ls hl => ?_)
  unfold wp_MO_thrown at h
  refine lv_aload_n hx hb dMO_thrown_0 rfl (lv_at hl 0 rfl) ?_
  obtain ⟨v1, hv, h⟩ := h
  refine xw_getI (C := RMO) (T := TMO) (N := 17) (ref := RMO) hx hb hts inMO hown hK hw rfl 0 (by decide) (hts _ mw_288) (fun _ h9 => h9) hv dMO_thrown_1 ?_
  refine W.widen (k := 0) (n := 0) (Nat.le_of_ble_eq_true rfl) (Nat.le_of_ble_eq_true rfl) ?_
  exact xw_iret hx hb hr hlocks hw h dMO_thrown_4
def wp_MO_isIn (E : xE_T) (post : Int32 → xw_T → Prop) (w : xw_T) (p0 : Int64) (p1 : Int64) (p2 : Int64) : Prop := (p0 < p1 → (post 0 w)) ∧ (¬ p0 < p1 → ((p2 < p0 → (post 0 w)) ∧ (¬ p2 < p0 → (post 1 w))))
set_option maxHeartbeats 4000000 in
set_option maxRecDepth 100000 in
theorem c_MO_isIn (l : Launch) (D : va_G) (E : xE_T) (A : Nat → Prop) (post : Int32 → xw_T → Prop) (w : xw_T) (p0 : Int64) (p1 : Int64) (p2 : Int64) (h : wp_MO_isIn E post w p0 p1 p2) : Met l yMO_isIn (xW yMO_isIn cMO_isIn 6 (some (.boolean))) ({ frames := 0, cells := 0, slots := 0, locals := 0 } : Room) (va_Pc [.long p0, .long p1, .long p2] (xP D E A w)) (va_Qi post (xB D A) A) 0 0 A := by
  refine Met.ofW (cc := cMO_isIn) (maxL := 6) (ret := (some (.boolean))) (by decide) rfl ?_
  intro p e s m args below meth c s₁ B hml hv
  obtain ⟨rfl, hw, hK, hE⟩ := hv
  have hx := B.exec
  have hb := B.bytes
  have hr := B.returns
  have hts : ∀ w ∈ xTB, w.before _ s = true := fun w hw => atoms_spec (ws := xW yMO_isIn cMO_isIn 6 (some (.boolean))) B.pre w (List.mem_cons_of_mem _ hw)
  have hown : s.vm.findClass RMO = some m.cls := findClass_of_methodNamed B.named
  have hlocks := B.notSynchronized
  have hw : xw_S D vwCl A s.heap w s.heap [] := xw_S0 hw
  refine xl_start (lvs := [(0, .long p0), (2, .long p1), (4, .long p2)]) (by first | exact Nat.le_of_ble_eq_true rfl | simp [lg_sl, va_rf_cat, xcat_i, xcat_l, xcat_r, xcat_n]) (by first | rfl | simp [lv_args, va_rf_cat, xcat_i, xcat_l, xcat_r, xcat_n]) (fun ls hl => ?_)
  unfold wp_MO_isIn at h
  refine lv_lload_n hx hb dMO_isIn_0 rfl (lv_at hl 0 rfl) ?_
  refine lv_lload_n hx hb dMO_isIn_1 rfl (lv_at hl 1 rfl) ?_
  refine xl_lc_lt (tgt := 17) hx hb dMO_isIn_2 dMO_isIn_3 rfl (fun hc => ?_) (fun hc => ?_)
  · replace h := h.1 hc
    refine lv_iconst (v := 0) hx hb dMO_isIn_17 (by decide) ?_
    refine W.widen (k := 0) (n := 0) (Nat.le_of_ble_eq_true rfl) (Nat.le_of_ble_eq_true rfl) ?_
    exact xw_zret (by decide) hx hb hr hlocks hw h dMO_isIn_18
  · replace h := h.2 hc
    refine lv_lload_n hx hb dMO_isIn_6 rfl (lv_at hl 0 rfl) ?_
    refine lv_lload hx hb dMO_isIn_7 (lv_at hl 2 rfl) ?_
    refine xl_lc_gt (tgt := 17) hx hb dMO_isIn_9 dMO_isIn_10 rfl (fun hc => ?_) (fun hc => ?_)
    · replace h := h.1 hc
      refine lv_iconst (v := 0) hx hb dMO_isIn_17 (by decide) ?_
      refine W.widen (k := 0) (n := 0) (Nat.le_of_ble_eq_true rfl) (Nat.le_of_ble_eq_true rfl) ?_
      exact xw_zret (by decide) hx hb hr hlocks hw h dMO_isIn_18
    · replace h := h.2 hc
      refine lv_iconst (v := 1) hx hb dMO_isIn_13 (by decide) ?_
      refine lv_goto (tgt := 18) hx hb dMO_isIn_14 rfl ?_
      refine W.widen (k := 0) (n := 0) (Nat.le_of_ble_eq_true rfl) (Nat.le_of_ble_eq_true rfl) ?_
      exact xw_zret (by decide) hx hb hr hlocks hw h dMO_isIn_18
def wp_MO_account (E : xE_T) (post : Int32 → xw_T → Prop) (w : xw_T) (h0 : Nat) (p0 : Int32) (p1 : Int32) : Prop := (∃ v0, xg w h0 5 0 = some v0) ∧ ∀ w1, w1 = xp w h0 0 (.int 0) → (wp_MO_isIn E (fun r2 w3 => (r2 = 0 → (post (-2000000002) w3)) ∧ (¬ r2 = 0 → (wp_MO_isIn E (fun r4 w5 => (¬ r4 = 0 → (∃ v6, xgI w5 h0 5 1 = some v6 ∧ ((¬ v6 = 60 → (∃ v7, xgI w5 h0 5 1 = some v7 ∧ ((∃ v0, xg w5 h0 5 1 = some v0) ∧ ∀ w8, w8 = xp w5 h0 1 (.int (v7 + 1)) → (∃ v9, xgR w8 h0 5 2 = some v9 ∧ (∃ v10, xgI w8 h0 5 1 = some v10 ∧ (∃ a11 : Nat, v9 = some a11 ∧ (∃ n12 f13, xaI w8 a11 (E.1 1) = some (n12, f13) ∧ vp_in v10 n12 ∧ ∀ w14, w14 = va_up w8 a11 (some (xcI (E.1 1) n12 (upd f13 v10.toNatClampNeg p0))) → (∃ v15, xgR w14 h0 5 3 = some v15 ∧ (∃ v16, xgI w14 h0 5 1 = some v16 ∧ (∃ a17 : Nat, v15 = some a17 ∧ (∃ n18 f19, xaI w14 a17 (E.1 1) = some (n18, f19) ∧ vp_in v16 n18 ∧ ∀ w20, w20 = va_up w14 a17 (some (xcI (E.1 1) n18 (upd f19 v16.toNatClampNeg p1))) → (∃ v21, xgI w20 h0 5 1 = some v21 ∧ (post v21 w20))))))))))))) ∧ (v6 = 60 → (post (-2000000004) w5))))) ∧ (r4 = 0 → (post (-2000000002) w5))) w3 p1.toInt64 0 5))) w1 p0.toInt64 0 9)
set_option maxHeartbeats 4000000 in
set_option maxRecDepth 100000 in
theorem c_MO_account (l : Launch) (D : va_G) (E : xE_T) (A : Nat → Prop) (post : Int32 → xw_T → Prop) (w : xw_T) (h0 : Nat) (p0 : Int32) (p1 : Int32) (h : wp_MO_account E post w h0 p0 p1) : Met l yMO_account (xW yMO_account cMO_account 3 (some (.int))) ({ frames := 1, cells := 0, slots := 0, locals := 25 } : Room) (va_Pc [.ref h0, .int p0, .int p1] (xP D E A w)) (va_Qi post (xB D A) A) 0 0 A := by
  refine Met.ofW (cc := cMO_account) (maxL := 3) (ret := (some (.int))) (by decide) rfl ?_
  intro p e s m args below meth c s₁ B hml hv
  obtain ⟨rfl, hw, hK, hE⟩ := hv
  have hx := B.exec
  have hb := B.bytes
  have hr := B.returns
  have hts : ∀ w ∈ xTB, w.before _ s = true := fun w hw => atoms_spec (ws := xW yMO_account cMO_account 3 (some (.int))) B.pre w (List.mem_cons_of_mem _ hw)
  have hown : s.vm.findClass RMO = some m.cls := findClass_of_methodNamed B.named
  have hlocks := B.notSynchronized
  have hw : xw_S D vwCl A s.heap w s.heap [] := xw_S0 hw
  refine xl_start (lvs := [(0, .ref h0), (1, .int p0), (2, .int p1)]) (by first | exact Nat.le_of_ble_eq_true rfl | simp [lg_sl, va_rf_cat, xcat_i, xcat_l, xcat_r, xcat_n]) (by first | rfl | simp [lv_args, va_rf_cat, xcat_i, xcat_l, xcat_r, xcat_n]) (fun ls hl => ?_)
  unfold wp_MO_account at h
  refine lv_aload_n hx hb dMO_account_0 rfl (lv_at hl 0 rfl) ?_
  refine lv_iconst (v := 0) hx hb dMO_account_1 (by decide) ?_
  obtain ⟨hv, h⟩ := h
  refine xw_put (ty := (.int)) (C := RMO) (T := TMO) (N := 17) (ref := RMO) hx hb hts inMO tyMO tyMO_ok nmMO hown hK hw rfl 0 (by decide) (hts _ mw_288) (fun _ h9 => h9) rfl (by decide +kernel) rfl rfl hv dMO_account_2 (fun H locs hw => ?_)
  replace h := h _ rfl
  generalize xp w h0 0 (.int 0) = w1 at hw h
  refine lv_iload_n hx hb dMO_account_5 rfl (lv_at hl 1 rfl) ?_
  refine lv_i2l hx hb dMO_account_6 rfl ?_
  refine lv_lconst (v := 0) hx hb dMO_account_7 (by decide) ?_
  refine lv_ldc2 (v := 9) hx hb hown (hts _ mw_297) dMO_account_8 ?_
  have hcall := h
  clear h
  refine xw_calli (va_runS (As := [.long p0.toInt64, .long 0, .long 9]) (rest := []) ⟨hx, hb, hml, hown, hts⟩ (c_MO_isIn l D E A _ w1 p0.toInt64 0 9 hcall) (va_cwS 3 hts (xG_S mw_292 mw_293 mw_294 mw_295) rfl rfl rfl (by decide +kernel) ⟨(Nat.le_of_ble_eq_true rfl), (Nat.le_of_ble_eq_true rfl)⟩) (xw_preS hw hK hE) rfl rfl hl.1 rfl (lv_room (by first | exact Nat.le_of_ble_eq_true rfl | simp [va_rf_cat, xcat_i, xcat_l, xcat_r, xcat_n])) dMO_account_11 ⟨(Nat.le_of_ble_eq_true rfl), (Nat.le_of_ble_eq_true rfl)⟩) hw (fun r2 w3 H locs h hw => ?_)
  clear hcall
  refine lv_if_eq (tgt := 29) hx hb dMO_account_14 rfl (fun hc => ?_) (fun hc => ?_)
  · replace h := h.1 hc
    refine lv_ldc (v := (-2000000002)) hx hb hown (hts _ mw_289) dMO_account_29 ?_
    refine W.widen (k := 0) (n := 0) (Nat.le_of_ble_eq_true rfl) (Nat.le_of_ble_eq_true rfl) ?_
    exact xw_iret hx hb hr hlocks hw h dMO_account_31
  · replace h := h.2 hc
    refine lv_iload_n hx hb dMO_account_17 rfl (lv_at hl 2 rfl) ?_
    refine lv_i2l hx hb dMO_account_18 rfl ?_
    refine lv_lconst (v := 0) hx hb dMO_account_19 (by decide) ?_
    refine lv_ldc2 (v := 5) hx hb hown (hts _ mw_296) dMO_account_20 ?_
    have hcall := h
    clear h
    refine xw_calli (va_runS (As := [.long p1.toInt64, .long 0, .long 5]) (rest := []) ⟨hx, hb, hml, hown, hts⟩ (c_MO_isIn l D E A _ w3 p1.toInt64 0 5 hcall) (va_cwS 3 hts (xG_S mw_292 mw_293 mw_294 mw_295) rfl rfl rfl (by decide +kernel) ⟨(Nat.le_of_ble_eq_true rfl), (Nat.le_of_ble_eq_true rfl)⟩) (xw_preS hw hK hE) rfl rfl hl.1 rfl (lv_room (by first | exact Nat.le_of_ble_eq_true rfl | simp [va_rf_cat, xcat_i, xcat_l, xcat_r, xcat_n])) dMO_account_23 ⟨(Nat.le_of_ble_eq_true rfl), (Nat.le_of_ble_eq_true rfl)⟩) hw (fun r4 w5 H locs h hw => ?_)
    clear hcall
    refine lv_if_ne (tgt := 32) hx hb dMO_account_26 rfl (fun hc => ?_) (fun hc => ?_)
    · replace h := h.1 hc
      refine lv_aload_n hx hb dMO_account_32 rfl (lv_at hl 0 rfl) ?_
      obtain ⟨v6, hv, h⟩ := h
      refine xw_getI (C := RMO) (T := TMO) (N := 17) (ref := RMO) hx hb hts inMO hown hK hw rfl 1 (by decide) (hts _ mw_290) (fun _ h9 => h9) hv dMO_account_33 ?_
      refine lv_bipush (v := 60) hx hb dMO_account_36 (by decide) ?_
      refine lv_icmp_ne (tgt := 44) hx hb dMO_account_38 rfl (fun hc => ?_) (fun hc => ?_)
      · replace h := h.1 hc
        refine lv_aload_n hx hb dMO_account_44 rfl (lv_at hl 0 rfl) ?_
        refine lv_dup hx hb dMO_account_45 rfl ?_
        obtain ⟨v7, hv, h⟩ := h
        refine xw_getI (C := RMO) (T := TMO) (N := 17) (ref := RMO) hx hb hts inMO hown hK hw rfl 1 (by decide) (hts _ mw_290) (fun _ h9 => h9) hv dMO_account_46 ?_
        refine lv_iconst (v := 1) hx hb dMO_account_49 (by decide) ?_
        refine lv_iadd hx hb dMO_account_50 ?_
        obtain ⟨hv, h⟩ := h
        refine xw_put (ty := (.int)) (C := RMO) (T := TMO) (N := 17) (ref := RMO) hx hb hts inMO tyMO tyMO_ok nmMO hown hK hw rfl 1 (by decide) (hts _ mw_290) (fun _ h9 => h9) rfl (by decide +kernel) rfl rfl hv dMO_account_51 (fun H locs hw => ?_)
        replace h := h _ rfl
        generalize xp w5 h0 1 (.int (v7 + 1)) = w8 at hw h
        refine lv_aload_n hx hb dMO_account_54 rfl (lv_at hl 0 rfl) ?_
        obtain ⟨v9, hv, h⟩ := h
        refine xw_getR (C := RMO) (T := TMO) (N := 17) (ref := RMO) hx hb hts inMO hown hK hw rfl 2 (by decide) (hts _ mw_286) (fun _ h9 => h9) hv dMO_account_55 ?_
        refine lv_aload_n hx hb dMO_account_58 rfl (lv_at hl 0 rfl) ?_
        obtain ⟨v10, hv, h⟩ := h
        refine xw_getI (C := RMO) (T := TMO) (N := 17) (ref := RMO) hx hb hts inMO hown hK hw rfl 1 (by decide) (hts _ mw_290) (fun _ h9 => h9) hv dMO_account_59 ?_
        refine lv_iload_n hx hb dMO_account_62 rfl (lv_at hl 1 rfl) ?_
        obtain ⟨a11, rfl, h⟩ := h
        obtain ⟨n12, f13, ha, hin9, h⟩ := h
        refine xw_iast hx hb hK hw 1 rfl ha hin9 dMO_account_63 (fun H locs hw => ?_)
        replace h := h _ rfl
        generalize va_up w8 a11 (some (xcI (E.1 1) n12 (upd f13 v10.toNatClampNeg p0))) = w14 at hw h
        refine lv_aload_n hx hb dMO_account_64 rfl (lv_at hl 0 rfl) ?_
        obtain ⟨v15, hv, h⟩ := h
        refine xw_getR (C := RMO) (T := TMO) (N := 17) (ref := RMO) hx hb hts inMO hown hK hw rfl 3 (by decide) (hts _ mw_285) (fun _ h9 => h9) hv dMO_account_65 ?_
        refine lv_aload_n hx hb dMO_account_68 rfl (lv_at hl 0 rfl) ?_
        obtain ⟨v16, hv, h⟩ := h
        refine xw_getI (C := RMO) (T := TMO) (N := 17) (ref := RMO) hx hb hts inMO hown hK hw rfl 1 (by decide) (hts _ mw_290) (fun _ h9 => h9) hv dMO_account_69 ?_
        refine lv_iload_n hx hb dMO_account_72 rfl (lv_at hl 2 rfl) ?_
        obtain ⟨a17, rfl, h⟩ := h
        obtain ⟨n18, f19, ha, hin9, h⟩ := h
        refine xw_iast hx hb hK hw 1 rfl ha hin9 dMO_account_73 (fun H locs hw => ?_)
        replace h := h _ rfl
        generalize va_up w14 a17 (some (xcI (E.1 1) n18 (upd f19 v16.toNatClampNeg p1))) = w20 at hw h
        refine lv_aload_n hx hb dMO_account_74 rfl (lv_at hl 0 rfl) ?_
        obtain ⟨v21, hv, h⟩ := h
        refine xw_getI (C := RMO) (T := TMO) (N := 17) (ref := RMO) hx hb hts inMO hown hK hw rfl 1 (by decide) (hts _ mw_290) (fun _ h9 => h9) hv dMO_account_75 ?_
        refine W.widen (k := 0) (n := 0) (Nat.le_of_ble_eq_true rfl) (Nat.le_of_ble_eq_true rfl) ?_
        exact xw_iret hx hb hr hlocks hw h dMO_account_78
      · replace h := h.2 hc
        refine lv_ldc (v := (-2000000004)) hx hb hown (hts _ mw_291) dMO_account_41 ?_
        refine W.widen (k := 0) (n := 0) (Nat.le_of_ble_eq_true rfl) (Nat.le_of_ble_eq_true rfl) ?_
        exact xw_iret hx hb hr hlocks hw h dMO_account_43
    · replace h := h.2 hc
      refine lv_ldc (v := (-2000000002)) hx hb hown (hts _ mw_289) dMO_account_29 ?_
      refine W.widen (k := 0) (n := 0) (Nat.le_of_ble_eq_true rfl) (Nat.le_of_ble_eq_true rfl) ?_
      exact xw_iret hx hb hr hlocks hw h dMO_account_31
def wp_MO_make (E : xE_T) (post : Int32 → xw_T → Prop) (w : xw_T) (h0 : Nat) (p0 : Int64) : Prop := ∃ v1, xgI w h0 5 5 = some v1 ∧ ((∃ v0, xg w h0 5 5 = some v0) ∧ ∀ w2, w2 = xp w h0 5 (.int (v1 + 1)) → (∃ v3, xgR w2 h0 5 6 = some v3 ∧ (∃ v4, xgI w2 h0 5 5 = some v4 ∧ (∃ a5 : Nat, v3 = some a5 ∧ (∃ n6 f7, xaI w2 a5 (E.1 1) = some (n6, f7) ∧ vp_in v4 n6 ∧ ∀ w8, w8 = va_up w2 a5 (some (xcI (E.1 1) n6 (upd f7 v4.toNatClampNeg 0))) → (∃ v9, xgR w8 h0 5 7 = some v9 ∧ (∃ v10, xgI w8 h0 5 5 = some v10 ∧ (∃ a11 : Nat, v9 = some a11 ∧ (∃ n12 f13, xaL w8 a11 (E.1 2) = some (n12, f13) ∧ vp_in v10 n12 ∧ ∀ w14, w14 = va_up w8 a11 (some (xcL (E.1 2) n12 (vp_updL f13 v10.toNatClampNeg p0))) → (∃ v15, xgI w14 h0 5 5 = some v15 ∧ (post v15 w14)))))))))))
set_option maxHeartbeats 4000000 in
set_option maxRecDepth 100000 in
theorem c_MO_make (l : Launch) (D : va_G) (E : xE_T) (A : Nat → Prop) (post : Int32 → xw_T → Prop) (w : xw_T) (h0 : Nat) (p0 : Int64) (h : wp_MO_make E post w h0 p0) : Met l yMO_make (xW yMO_make cMO_make 3 (some (.int))) ({ frames := 0, cells := 0, slots := 0, locals := 0 } : Room) (va_Pc [.ref h0, .long p0] (xP D E A w)) (va_Qi post (xB D A) A) 0 0 A := by
  refine Met.ofW (cc := cMO_make) (maxL := 3) (ret := (some (.int))) (by decide) rfl ?_
  intro p e s m args below meth c s₁ B hml hv
  obtain ⟨rfl, hw, hK, hE⟩ := hv
  have hx := B.exec
  have hb := B.bytes
  have hr := B.returns
  have hts : ∀ w ∈ xTB, w.before _ s = true := fun w hw => atoms_spec (ws := xW yMO_make cMO_make 3 (some (.int))) B.pre w (List.mem_cons_of_mem _ hw)
  have hown : s.vm.findClass RMO = some m.cls := findClass_of_methodNamed B.named
  have hlocks := B.notSynchronized
  have hw : xw_S D vwCl A s.heap w s.heap [] := xw_S0 hw
  refine xl_start (lvs := [(0, .ref h0), (1, .long p0)]) (by first | exact Nat.le_of_ble_eq_true rfl | simp [lg_sl, va_rf_cat, xcat_i, xcat_l, xcat_r, xcat_n]) (by first | rfl | simp [lv_args, va_rf_cat, xcat_i, xcat_l, xcat_r, xcat_n]) (fun ls hl => ?_)
  unfold wp_MO_make at h
  refine lv_aload_n hx hb dMO_make_0 rfl (lv_at hl 0 rfl) ?_
  refine lv_dup hx hb dMO_make_1 rfl ?_
  obtain ⟨v1, hv, h⟩ := h
  refine xw_getI (C := RMO) (T := TMO) (N := 17) (ref := RMO) hx hb hts inMO hown hK hw rfl 5 (by decide) (hts _ mw_298) (fun _ h9 => h9) hv dMO_make_2 ?_
  refine lv_iconst (v := 1) hx hb dMO_make_5 (by decide) ?_
  refine lv_iadd hx hb dMO_make_6 ?_
  obtain ⟨hv, h⟩ := h
  refine xw_put (ty := (.int)) (C := RMO) (T := TMO) (N := 17) (ref := RMO) hx hb hts inMO tyMO tyMO_ok nmMO hown hK hw rfl 5 (by decide) (hts _ mw_298) (fun _ h9 => h9) rfl (by decide +kernel) rfl rfl hv dMO_make_7 (fun H locs hw => ?_)
  replace h := h _ rfl
  generalize xp w h0 5 (.int (v1 + 1)) = w2 at hw h
  refine lv_aload_n hx hb dMO_make_10 rfl (lv_at hl 0 rfl) ?_
  obtain ⟨v3, hv, h⟩ := h
  refine xw_getR (C := RMO) (T := TMO) (N := 17) (ref := RMO) hx hb hts inMO hown hK hw rfl 6 (by decide) (hts _ mw_283) (fun _ h9 => h9) hv dMO_make_11 ?_
  refine lv_aload_n hx hb dMO_make_14 rfl (lv_at hl 0 rfl) ?_
  obtain ⟨v4, hv, h⟩ := h
  refine xw_getI (C := RMO) (T := TMO) (N := 17) (ref := RMO) hx hb hts inMO hown hK hw rfl 5 (by decide) (hts _ mw_298) (fun _ h9 => h9) hv dMO_make_15 ?_
  refine lv_iconst (v := 0) hx hb dMO_make_18 (by decide) ?_
  obtain ⟨a5, rfl, h⟩ := h
  obtain ⟨n6, f7, ha, hin9, h⟩ := h
  refine xw_iast hx hb hK hw 1 rfl ha hin9 dMO_make_19 (fun H locs hw => ?_)
  replace h := h _ rfl
  generalize va_up w2 a5 (some (xcI (E.1 1) n6 (upd f7 v4.toNatClampNeg 0))) = w8 at hw h
  refine lv_aload_n hx hb dMO_make_20 rfl (lv_at hl 0 rfl) ?_
  obtain ⟨v9, hv, h⟩ := h
  refine xw_getR (C := RMO) (T := TMO) (N := 17) (ref := RMO) hx hb hts inMO hown hK hw rfl 7 (by decide) (hts _ mw_282) (fun _ h9 => h9) hv dMO_make_21 ?_
  refine lv_aload_n hx hb dMO_make_24 rfl (lv_at hl 0 rfl) ?_
  obtain ⟨v10, hv, h⟩ := h
  refine xw_getI (C := RMO) (T := TMO) (N := 17) (ref := RMO) hx hb hts inMO hown hK hw rfl 5 (by decide) (hts _ mw_298) (fun _ h9 => h9) hv dMO_make_25 ?_
  refine lv_lload_n hx hb dMO_make_28 rfl (lv_at hl 1 rfl) ?_
  obtain ⟨a11, rfl, h⟩ := h
  obtain ⟨n12, f13, ha, hin9, h⟩ := h
  refine xw_last hx hb hK hw 2 rfl ha hin9 dMO_make_29 (fun H locs hw => ?_)
  replace h := h _ rfl
  generalize va_up w8 a11 (some (xcL (E.1 2) n12 (vp_updL f13 v10.toNatClampNeg p0))) = w14 at hw h
  refine lv_aload_n hx hb dMO_make_30 rfl (lv_at hl 0 rfl) ?_
  obtain ⟨v15, hv, h⟩ := h
  refine xw_getI (C := RMO) (T := TMO) (N := 17) (ref := RMO) hx hb hts inMO hown hK hw rfl 5 (by decide) (hts _ mw_298) (fun _ h9 => h9) hv dMO_make_31 ?_
  refine W.widen (k := 0) (n := 0) (Nat.le_of_ble_eq_true rfl) (Nat.le_of_ble_eq_true rfl) ?_
  exact xw_iret hx hb hr hlocks hw h dMO_make_34
def wp_MO_batch (E : xE_T) (post : Int32 → xw_T → Prop) (w : xw_T) (h0 : Nat) (p0 : Int64) : Prop := (∃ v0, xg w h0 5 0 = some v0) ∧ ∀ w1, w1 = xp w h0 0 (.int 0) → (wp_MO_isIn E (fun r2 w3 => (¬ r2 = 0 → (∃ v4, xgL w3 h0 5 16 = some v4 ∧ ((v4 < p0 → (∃ v5, xgI w3 h0 5 5 = some v5 ∧ ((¬ v5 = 300 → ((∃ fs, w3 h0 = some (.inr (5, fs))) ∧ wp_MO_make E (fun r6 w7 => post r6 w7) w3 h0 p0)) ∧ (v5 = 300 → (post (-2000000004) w3))))) ∧ (¬ v4 < p0 → (post (-2000000003) w3))))) ∧ (r2 = 0 → (post (-2000000002) w3))) w1 p0 0 20000)
set_option maxHeartbeats 4000000 in
set_option maxRecDepth 100000 in
theorem c_MO_batch (l : Launch) (D : va_G) (E : xE_T) (A : Nat → Prop) (post : Int32 → xw_T → Prop) (w : xw_T) (h0 : Nat) (p0 : Int64) (h : wp_MO_batch E post w h0 p0) : Met l yMO_batch (xW yMO_batch cMO_batch 3 (some (.int))) ({ frames := 1, cells := 0, slots := 0, locals := 25 } : Room) (va_Pc [.ref h0, .long p0] (xP D E A w)) (va_Qi post (xB D A) A) 0 0 A := by
  refine Met.ofW (cc := cMO_batch) (maxL := 3) (ret := (some (.int))) (by decide) rfl ?_
  intro p e s m args below meth c s₁ B hml hv
  obtain ⟨rfl, hw, hK, hE⟩ := hv
  have hx := B.exec
  have hb := B.bytes
  have hr := B.returns
  have hts : ∀ w ∈ xTB, w.before _ s = true := fun w hw => atoms_spec (ws := xW yMO_batch cMO_batch 3 (some (.int))) B.pre w (List.mem_cons_of_mem _ hw)
  have hown : s.vm.findClass RMO = some m.cls := findClass_of_methodNamed B.named
  have hlocks := B.notSynchronized
  have hw : xw_S D vwCl A s.heap w s.heap [] := xw_S0 hw
  refine xl_start (lvs := [(0, .ref h0), (1, .long p0)]) (by first | exact Nat.le_of_ble_eq_true rfl | simp [lg_sl, va_rf_cat, xcat_i, xcat_l, xcat_r, xcat_n]) (by first | rfl | simp [lv_args, va_rf_cat, xcat_i, xcat_l, xcat_r, xcat_n]) (fun ls hl => ?_)
  unfold wp_MO_batch at h
  refine lv_aload_n hx hb dMO_batch_0 rfl (lv_at hl 0 rfl) ?_
  refine lv_iconst (v := 0) hx hb dMO_batch_1 (by decide) ?_
  obtain ⟨hv, h⟩ := h
  refine xw_put (ty := (.int)) (C := RMO) (T := TMO) (N := 17) (ref := RMO) hx hb hts inMO tyMO tyMO_ok nmMO hown hK hw rfl 0 (by decide) (hts _ mw_288) (fun _ h9 => h9) rfl (by decide +kernel) rfl rfl hv dMO_batch_2 (fun H locs hw => ?_)
  replace h := h _ rfl
  generalize xp w h0 0 (.int 0) = w1 at hw h
  refine lv_lload_n hx hb dMO_batch_5 rfl (lv_at hl 1 rfl) ?_
  refine lv_lconst (v := 0) hx hb dMO_batch_6 (by decide) ?_
  refine lv_ldc2 (v := 20000) hx hb hown (hts _ mw_304) dMO_batch_7 ?_
  have hcall := h
  clear h
  refine xw_calli (va_runS (As := [.long p0, .long 0, .long 20000]) (rest := []) ⟨hx, hb, hml, hown, hts⟩ (c_MO_isIn l D E A _ w1 p0 0 20000 hcall) (va_cwS 3 hts (xG_S mw_292 mw_293 mw_294 mw_295) rfl rfl rfl (by decide +kernel) ⟨(Nat.le_of_ble_eq_true rfl), (Nat.le_of_ble_eq_true rfl)⟩) (xw_preS hw hK hE) rfl rfl hl.1 rfl (lv_room (by first | exact Nat.le_of_ble_eq_true rfl | simp [va_rf_cat, xcat_i, xcat_l, xcat_r, xcat_n])) dMO_batch_10 ⟨(Nat.le_of_ble_eq_true rfl), (Nat.le_of_ble_eq_true rfl)⟩) hw (fun r2 w3 H locs h hw => ?_)
  clear hcall
  refine lv_if_ne (tgt := 19) hx hb dMO_batch_13 rfl (fun hc => ?_) (fun hc => ?_)
  · replace h := h.1 hc
    refine lv_lload_n hx hb dMO_batch_19 rfl (lv_at hl 1 rfl) ?_
    refine lv_aload_n hx hb dMO_batch_20 rfl (lv_at hl 0 rfl) ?_
    obtain ⟨v4, hv, h⟩ := h
    refine xw_getL (C := RMO) (T := TMO) (N := 17) (ref := RMO) hx hb hts inMO hown hK hw rfl 16 (by decide) (hts _ mw_270) (fun _ h9 => h9) hv dMO_batch_21 ?_
    refine xl_lc_gt (tgt := 33) hx hb dMO_batch_24 dMO_batch_25 rfl (fun hc => ?_) (fun hc => ?_)
    · replace h := h.1 hc
      refine lv_aload_n hx hb dMO_batch_33 rfl (lv_at hl 0 rfl) ?_
      obtain ⟨v5, hv, h⟩ := h
      refine xw_getI (C := RMO) (T := TMO) (N := 17) (ref := RMO) hx hb hts inMO hown hK hw rfl 5 (by decide) (hts _ mw_298) (fun _ h9 => h9) hv dMO_batch_34 ?_
      refine lv_sipush (v := 300) hx hb dMO_batch_37 (by decide) ?_
      refine lv_icmp_ne (tgt := 48) hx hb dMO_batch_40 rfl (fun hc => ?_) (fun hc => ?_)
      · replace h := h.1 hc
        refine lv_aload_n hx hb dMO_batch_48 rfl (lv_at hl 0 rfl) ?_
        refine lv_lload_n hx hb dMO_batch_49 rfl (lv_at hl 1 rfl) ?_
        obtain ⟨⟨fs, hk⟩, h⟩ := h
        have hcall := h
        clear h
        refine xw_calli (va_runV (As := [.long p0]) (rest := []) ⟨hx, hb, hml, hown, hts⟩ (c_MO_make l D E A _ w3 h0 p0 hcall) (cwV 1 hts (xG_V mw_299 mw_300 mw_301 mw_294 mw_302) rfl rfl rfl (by decide +kernel) ⟨(Nat.le_of_ble_eq_true rfl), (Nat.le_of_ble_eq_true rfl)⟩) (xw_preV (ci := 5) hw hK hE rfl hk) rfl rfl hl.1 rfl (lv_room (by first | exact Nat.le_of_ble_eq_true rfl | simp [va_rf_cat, xcat_i, xcat_l, xcat_r, xcat_n])) dMO_batch_50 ⟨(Nat.le_of_ble_eq_true rfl), (Nat.le_of_ble_eq_true rfl)⟩) hw (fun r6 w7 H locs h hw => ?_)
        clear hcall
        refine W.widen (k := 0) (n := 0) (Nat.le_of_ble_eq_true rfl) (Nat.le_of_ble_eq_true rfl) ?_
        exact xw_iret hx hb hr hlocks hw h dMO_batch_53
      · replace h := h.2 hc
        refine lv_ldc (v := (-2000000004)) hx hb hown (hts _ mw_291) dMO_batch_43 ?_
        refine lv_goto (tgt := 53) hx hb dMO_batch_45 rfl ?_
        refine W.widen (k := 0) (n := 0) (Nat.le_of_ble_eq_true rfl) (Nat.le_of_ble_eq_true rfl) ?_
        exact xw_iret hx hb hr hlocks hw h dMO_batch_53
    · replace h := h.2 hc
      refine lv_ldc (v := (-2000000003)) hx hb hown (hts _ mw_303) dMO_batch_28 ?_
      refine lv_goto (tgt := 53) hx hb dMO_batch_30 rfl ?_
      refine W.widen (k := 0) (n := 0) (Nat.le_of_ble_eq_true rfl) (Nat.le_of_ble_eq_true rfl) ?_
      exact xw_iret hx hb hr hlocks hw h dMO_batch_53
  · replace h := h.2 hc
    refine lv_ldc (v := (-2000000002)) hx hb hown (hts _ mw_289) dMO_batch_16 ?_
    refine W.widen (k := 0) (n := 0) (Nat.le_of_ble_eq_true rfl) (Nat.le_of_ble_eq_true rfl) ?_
    exact xw_iret hx hb hr hlocks hw h dMO_batch_18
def wp_MO_isBatch (E : xE_T) (post : Int32 → xw_T → Prop) (w : xw_T) (h0 : Nat) (p0 : Int32) : Prop := ∃ v1, xgI w h0 5 5 = some v1 ∧ (wp_MO_isIn E (fun r2 w3 => narrow (.boolean) (.int r2) = .int r2 ∧ post r2 w3) w p0.toInt64 1 v1.toInt64)
set_option maxHeartbeats 4000000 in
set_option maxRecDepth 100000 in
theorem c_MO_isBatch (l : Launch) (D : va_G) (E : xE_T) (A : Nat → Prop) (post : Int32 → xw_T → Prop) (w : xw_T) (h0 : Nat) (p0 : Int32) (h : wp_MO_isBatch E post w h0 p0) : Met l yMO_isBatch (xW yMO_isBatch cMO_isBatch 2 (some (.boolean))) ({ frames := 1, cells := 0, slots := 0, locals := 25 } : Room) (va_Pc [.ref h0, .int p0] (xP D E A w)) (va_Qi post (xB D A) A) 0 0 A := by
  refine Met.ofW (cc := cMO_isBatch) (maxL := 2) (ret := (some (.boolean))) (by decide) rfl ?_
  intro p e s m args below meth c s₁ B hml hv
  obtain ⟨rfl, hw, hK, hE⟩ := hv
  have hx := B.exec
  have hb := B.bytes
  have hr := B.returns
  have hts : ∀ w ∈ xTB, w.before _ s = true := fun w hw => atoms_spec (ws := xW yMO_isBatch cMO_isBatch 2 (some (.boolean))) B.pre w (List.mem_cons_of_mem _ hw)
  have hown : s.vm.findClass RMO = some m.cls := findClass_of_methodNamed B.named
  have hlocks := B.notSynchronized
  have hw : xw_S D vwCl A s.heap w s.heap [] := xw_S0 hw
  refine xl_start (lvs := [(0, .ref h0), (1, .int p0)]) (by first | exact Nat.le_of_ble_eq_true rfl | simp [lg_sl, va_rf_cat, xcat_i, xcat_l, xcat_r, xcat_n]) (by first | rfl | simp [lv_args, va_rf_cat, xcat_i, xcat_l, xcat_r, xcat_n]) (fun ls hl => ?_)
  unfold wp_MO_isBatch at h
  refine lv_iload_n hx hb dMO_isBatch_0 rfl (lv_at hl 1 rfl) ?_
  refine lv_i2l hx hb dMO_isBatch_1 rfl ?_
  refine lv_lconst (v := 1) hx hb dMO_isBatch_2 (by decide) ?_
  refine lv_aload_n hx hb dMO_isBatch_3 rfl (lv_at hl 0 rfl) ?_
  obtain ⟨v1, hv, h⟩ := h
  refine xw_getI (C := RMO) (T := TMO) (N := 17) (ref := RMO) hx hb hts inMO hown hK hw rfl 5 (by decide) (hts _ mw_298) (fun _ h9 => h9) hv dMO_isBatch_4 ?_
  refine lv_i2l hx hb dMO_isBatch_7 rfl ?_
  have hcall := h
  clear h
  refine xw_calli (va_runS (As := [.long p0.toInt64, .long 1, .long v1.toInt64]) (rest := []) ⟨hx, hb, hml, hown, hts⟩ (c_MO_isIn l D E A _ w p0.toInt64 1 v1.toInt64 hcall) (va_cwS 3 hts (xG_S mw_292 mw_293 mw_294 mw_295) rfl rfl rfl (by decide +kernel) ⟨(Nat.le_of_ble_eq_true rfl), (Nat.le_of_ble_eq_true rfl)⟩) (xw_preS hw hK hE) rfl rfl hl.1 rfl (lv_room (by first | exact Nat.le_of_ble_eq_true rfl | simp [va_rf_cat, xcat_i, xcat_l, xcat_r, xcat_n])) dMO_isBatch_8 ⟨(Nat.le_of_ble_eq_true rfl), (Nat.le_of_ble_eq_true rfl)⟩) hw (fun r2 w3 H locs h hw => ?_)
  clear hcall
  obtain ⟨hnz, h⟩ := h
  refine W.widen (k := 0) (n := 0) (Nat.le_of_ble_eq_true rfl) (Nat.le_of_ble_eq_true rfl) ?_
  exact xw_zret hnz hx hb hr hlocks hw h dMO_isBatch_11
def wp_MO_isAccount (E : xE_T) (post : Int32 → xw_T → Prop) (w : xw_T) (h0 : Nat) (p0 : Int32) : Prop := ∃ v1, xgI w h0 5 1 = some v1 ∧ (wp_MO_isIn E (fun r2 w3 => narrow (.boolean) (.int r2) = .int r2 ∧ post r2 w3) w p0.toInt64 1 v1.toInt64)
set_option maxHeartbeats 4000000 in
set_option maxRecDepth 100000 in
theorem c_MO_isAccount (l : Launch) (D : va_G) (E : xE_T) (A : Nat → Prop) (post : Int32 → xw_T → Prop) (w : xw_T) (h0 : Nat) (p0 : Int32) (h : wp_MO_isAccount E post w h0 p0) : Met l yMO_isAccount (xW yMO_isAccount cMO_isAccount 2 (some (.boolean))) ({ frames := 1, cells := 0, slots := 0, locals := 25 } : Room) (va_Pc [.ref h0, .int p0] (xP D E A w)) (va_Qi post (xB D A) A) 0 0 A := by
  refine Met.ofW (cc := cMO_isAccount) (maxL := 2) (ret := (some (.boolean))) (by decide) rfl ?_
  intro p e s m args below meth c s₁ B hml hv
  obtain ⟨rfl, hw, hK, hE⟩ := hv
  have hx := B.exec
  have hb := B.bytes
  have hr := B.returns
  have hts : ∀ w ∈ xTB, w.before _ s = true := fun w hw => atoms_spec (ws := xW yMO_isAccount cMO_isAccount 2 (some (.boolean))) B.pre w (List.mem_cons_of_mem _ hw)
  have hown : s.vm.findClass RMO = some m.cls := findClass_of_methodNamed B.named
  have hlocks := B.notSynchronized
  have hw : xw_S D vwCl A s.heap w s.heap [] := xw_S0 hw
  refine xl_start (lvs := [(0, .ref h0), (1, .int p0)]) (by first | exact Nat.le_of_ble_eq_true rfl | simp [lg_sl, va_rf_cat, xcat_i, xcat_l, xcat_r, xcat_n]) (by first | rfl | simp [lv_args, va_rf_cat, xcat_i, xcat_l, xcat_r, xcat_n]) (fun ls hl => ?_)
  unfold wp_MO_isAccount at h
  refine lv_iload_n hx hb dMO_isAccount_0 rfl (lv_at hl 1 rfl) ?_
  refine lv_i2l hx hb dMO_isAccount_1 rfl ?_
  refine lv_lconst (v := 1) hx hb dMO_isAccount_2 (by decide) ?_
  refine lv_aload_n hx hb dMO_isAccount_3 rfl (lv_at hl 0 rfl) ?_
  obtain ⟨v1, hv, h⟩ := h
  refine xw_getI (C := RMO) (T := TMO) (N := 17) (ref := RMO) hx hb hts inMO hown hK hw rfl 1 (by decide) (hts _ mw_290) (fun _ h9 => h9) hv dMO_isAccount_4 ?_
  refine lv_i2l hx hb dMO_isAccount_7 rfl ?_
  have hcall := h
  clear h
  refine xw_calli (va_runS (As := [.long p0.toInt64, .long 1, .long v1.toInt64]) (rest := []) ⟨hx, hb, hml, hown, hts⟩ (c_MO_isIn l D E A _ w p0.toInt64 1 v1.toInt64 hcall) (va_cwS 3 hts (xG_S mw_292 mw_293 mw_294 mw_295) rfl rfl rfl (by decide +kernel) ⟨(Nat.le_of_ble_eq_true rfl), (Nat.le_of_ble_eq_true rfl)⟩) (xw_preS hw hK hE) rfl rfl hl.1 rfl (lv_room (by first | exact Nat.le_of_ble_eq_true rfl | simp [va_rf_cat, xcat_i, xcat_l, xcat_r, xcat_n])) dMO_isAccount_8 ⟨(Nat.le_of_ble_eq_true rfl), (Nat.le_of_ble_eq_true rfl)⟩) hw (fun r2 w3 H locs h hw => ?_)
  clear hcall
  obtain ⟨hnz, h⟩ := h
  refine W.widen (k := 0) (n := 0) (Nat.le_of_ble_eq_true rfl) (Nat.le_of_ble_eq_true rfl) ?_
  exact xw_zret hnz hx hb hr hlocks hw h dMO_isAccount_11
def wp_MO_put (E : xE_T) (post : xw_T → Prop) (w : xw_T) (h0 : Nat) (p0 : Int32) (p1 : Int32) (p2 : Int64) : Prop := ∃ v1, xgR w h0 5 12 = some v1 ∧ (∃ v2, xgR w h0 5 11 = some v2 ∧ (∃ a3 : Nat, v2 = some a3 ∧ (∃ n4 f5, xaI w a3 (E.1 1) = some (n4, f5) ∧ vp_in p0 n4 ∧ (∃ a6 : Nat, v1 = some a6 ∧ (∃ n7 f8, xaI w a6 (E.1 1) = some (n7, f8) ∧ vp_in ((12 * p0) + (f5 p0.toNatClampNeg)) n7 ∧ ∀ w9, w9 = va_up w a6 (some (xcI (E.1 1) n7 (upd f8 ((12 * p0) + (f5 p0.toNatClampNeg)).toNatClampNeg p1))) → (∃ v10, xgR w9 h0 5 13 = some v10 ∧ (∃ v11, xgR w9 h0 5 11 = some v11 ∧ (∃ a12 : Nat, v11 = some a12 ∧ (∃ n13 f14, xaI w9 a12 (E.1 1) = some (n13, f14) ∧ vp_in p0 n13 ∧ (∃ a15 : Nat, v10 = some a15 ∧ (∃ n16 f17, xaL w9 a15 (E.1 2) = some (n16, f17) ∧ vp_in ((12 * p0) + (f14 p0.toNatClampNeg)) n16 ∧ ∀ w18, w18 = va_up w9 a15 (some (xcL (E.1 2) n16 (vp_updL f17 ((12 * p0) + (f14 p0.toNatClampNeg)).toNatClampNeg p2))) → (∃ v19, xgR w18 h0 5 11 = some v19 ∧ (∃ a20 : Nat, v19 = some a20 ∧ (∃ n21 f22, xaI w18 a20 (E.1 1) = some (n21, f22) ∧ vp_in p0 n21 ∧ (∃ n23 f24, xaI w18 a20 (E.1 1) = some (n23, f24) ∧ vp_in p0 n23 ∧ ∀ w25, w25 = va_up w18 a20 (some (xcI (E.1 1) n23 (upd f24 p0.toNatClampNeg ((f22 p0.toNatClampNeg) + 1)))) → (post w25))))))))))))))))
set_option maxHeartbeats 4000000 in
set_option maxRecDepth 100000 in
theorem c_MO_put (l : Launch) (D : va_G) (E : xE_T) (A : Nat → Prop) (post : xw_T → Prop) (w : xw_T) (h0 : Nat) (p0 : Int32) (p1 : Int32) (p2 : Int64) (h : wp_MO_put E post w h0 p0 p1 p2) : Met l yMO_put (xW yMO_put cMO_put 5 none) ({ frames := 0, cells := 0, slots := 0, locals := 0 } : Room) (va_Pc [.ref h0, .int p0, .int p1, .long p2] (xP D E A w)) (va_Qv post (xB D A) A) 0 0 A := by
  refine Met.ofW (cc := cMO_put) (maxL := 5) (ret := none) (by decide) rfl ?_
  intro p e s m args below meth c s₁ B hml hv
  obtain ⟨rfl, hw, hK, hE⟩ := hv
  have hx := B.exec
  have hb := B.bytes
  have hr := B.returns
  have hts : ∀ w ∈ xTB, w.before _ s = true := fun w hw => atoms_spec (ws := xW yMO_put cMO_put 5 none) B.pre w (List.mem_cons_of_mem _ hw)
  have hown : s.vm.findClass RMO = some m.cls := findClass_of_methodNamed B.named
  have hlocks := B.notSynchronized
  have hw : xw_S D vwCl A s.heap w s.heap [] := xw_S0 hw
  refine xl_start (lvs := [(0, .ref h0), (1, .int p0), (2, .int p1), (3, .long p2)]) (by first | exact Nat.le_of_ble_eq_true rfl | simp [lg_sl, va_rf_cat, xcat_i, xcat_l, xcat_r, xcat_n]) (by first | rfl | simp [lv_args, va_rf_cat, xcat_i, xcat_l, xcat_r, xcat_n]) (fun ls hl => ?_)
  unfold wp_MO_put at h
  refine lv_aload_n hx hb dMO_put_0 rfl (lv_at hl 0 rfl) ?_
  obtain ⟨v1, hv, h⟩ := h
  refine xw_getR (C := RMO) (T := TMO) (N := 17) (ref := RMO) hx hb hts inMO hown hK hw rfl 12 (by decide) (hts _ mw_276) (fun _ h9 => h9) hv dMO_put_1 ?_
  refine lv_bipush (v := 12) hx hb dMO_put_4 (by decide) ?_
  refine lv_iload_n hx hb dMO_put_6 rfl (lv_at hl 1 rfl) ?_
  refine lv_imul hx hb dMO_put_7 ?_
  refine lv_aload_n hx hb dMO_put_8 rfl (lv_at hl 0 rfl) ?_
  obtain ⟨v2, hv, h⟩ := h
  refine xw_getR (C := RMO) (T := TMO) (N := 17) (ref := RMO) hx hb hts inMO hown hK hw rfl 11 (by decide) (hts _ mw_277) (fun _ h9 => h9) hv dMO_put_9 ?_
  refine lv_iload_n hx hb dMO_put_12 rfl (lv_at hl 1 rfl) ?_
  obtain ⟨a3, rfl, h⟩ := h
  obtain ⟨n4, f5, ha, hin9, h⟩ := h
  refine xw_iald hx hb hK hw 1 rfl ha hin9 dMO_put_13 ?_
  refine lv_iadd hx hb dMO_put_14 ?_
  refine lv_iload_n hx hb dMO_put_15 rfl (lv_at hl 2 rfl) ?_
  obtain ⟨a6, rfl, h⟩ := h
  obtain ⟨n7, f8, ha, hin9, h⟩ := h
  refine xw_iast hx hb hK hw 1 rfl ha hin9 dMO_put_16 (fun H locs hw => ?_)
  replace h := h _ rfl
  generalize va_up w a6 (some (xcI (E.1 1) n7 (upd f8 ((12 * p0) + (f5 p0.toNatClampNeg)).toNatClampNeg p1))) = w9 at hw h
  refine lv_aload_n hx hb dMO_put_17 rfl (lv_at hl 0 rfl) ?_
  obtain ⟨v10, hv, h⟩ := h
  refine xw_getR (C := RMO) (T := TMO) (N := 17) (ref := RMO) hx hb hts inMO hown hK hw rfl 13 (by decide) (hts _ mw_274) (fun _ h9 => h9) hv dMO_put_18 ?_
  refine lv_bipush (v := 12) hx hb dMO_put_21 (by decide) ?_
  refine lv_iload_n hx hb dMO_put_23 rfl (lv_at hl 1 rfl) ?_
  refine lv_imul hx hb dMO_put_24 ?_
  refine lv_aload_n hx hb dMO_put_25 rfl (lv_at hl 0 rfl) ?_
  obtain ⟨v11, hv, h⟩ := h
  refine xw_getR (C := RMO) (T := TMO) (N := 17) (ref := RMO) hx hb hts inMO hown hK hw rfl 11 (by decide) (hts _ mw_277) (fun _ h9 => h9) hv dMO_put_26 ?_
  refine lv_iload_n hx hb dMO_put_29 rfl (lv_at hl 1 rfl) ?_
  obtain ⟨a12, rfl, h⟩ := h
  obtain ⟨n13, f14, ha, hin9, h⟩ := h
  refine xw_iald hx hb hK hw 1 rfl ha hin9 dMO_put_30 ?_
  refine lv_iadd hx hb dMO_put_31 ?_
  refine lv_lload_n hx hb dMO_put_32 rfl (lv_at hl 3 rfl) ?_
  obtain ⟨a15, rfl, h⟩ := h
  obtain ⟨n16, f17, ha, hin9, h⟩ := h
  refine xw_last hx hb hK hw 2 rfl ha hin9 dMO_put_33 (fun H locs hw => ?_)
  replace h := h _ rfl
  generalize va_up w9 a15 (some (xcL (E.1 2) n16 (vp_updL f17 ((12 * p0) + (f14 p0.toNatClampNeg)).toNatClampNeg p2))) = w18 at hw h
  refine lv_aload_n hx hb dMO_put_34 rfl (lv_at hl 0 rfl) ?_
  obtain ⟨v19, hv, h⟩ := h
  refine xw_getR (C := RMO) (T := TMO) (N := 17) (ref := RMO) hx hb hts inMO hown hK hw rfl 11 (by decide) (hts _ mw_277) (fun _ h9 => h9) hv dMO_put_35 ?_
  refine lv_iload_n hx hb dMO_put_38 rfl (lv_at hl 1 rfl) ?_
  refine lv_dup2_11 hx hb dMO_put_39 rfl (va_rf_cat _) ?_
  obtain ⟨a20, rfl, h⟩ := h
  obtain ⟨n21, f22, ha, hin9, h⟩ := h
  refine xw_iald hx hb hK hw 1 rfl ha hin9 dMO_put_40 ?_
  refine lv_iconst (v := 1) hx hb dMO_put_41 (by decide) ?_
  refine lv_iadd hx hb dMO_put_42 ?_
  obtain ⟨n23, f24, ha, hin9, h⟩ := h
  refine xw_iast hx hb hK hw 1 rfl ha hin9 dMO_put_43 (fun H locs hw => ?_)
  replace h := h _ rfl
  generalize va_up w18 a20 (some (xcI (E.1 1) n23 (upd f24 p0.toNatClampNeg ((f22 p0.toNatClampNeg) + 1)))) = w25 at hw h
  refine W.widen (k := 0) (n := 0) (Nat.le_of_ble_eq_true rfl) (Nat.le_of_ble_eq_true rfl) ?_
  exact xw_vret hx hb hr hlocks hw h dMO_put_44
end
section
/-! meanings and walks: REF 1 -/
def wp_MO_row (E : xE_T) (post : Int32 → xw_T → Prop) (w : xw_T) (h0 : Nat) (p0 : Int32) (p1 : Int32) (p2 : Int64) : Prop := (∃ v0, xg w h0 5 0 = some v0) ∧ ∀ w1, w1 = xp w h0 0 (.int 0) → ((∃ fs, w1 h0 = some (.inr (5, fs))) ∧ wp_MO_isBatch E (fun r2 w3 => (r2 = 0 → (post 0 w3)) ∧ (¬ r2 = 0 → ((∃ fs, w3 h0 = some (.inr (5, fs))) ∧ wp_MO_isAccount E (fun r4 w5 => (r4 = 0 → (post 0 w5)) ∧ (¬ r4 = 0 → ((p2 = 0 → (post 0 w5)) ∧ (¬ p2 = 0 → (wp_MO_isIn E (fun r6 w7 => (r6 = 0 → (post 0 w7)) ∧ (¬ r6 = 0 → (∃ v8, xgR w7 h0 5 6 = some v8 ∧ (∃ a9 : Nat, v8 = some a9 ∧ (∃ n10 f11, xaI w7 a9 (E.1 1) = some (n10, f11) ∧ vp_in p0 n10 ∧ ((¬ (f11 p0.toNatClampNeg) = 0 → (post 0 w7)) ∧ ((f11 p0.toNatClampNeg) = 0 → (∃ v12, xgR w7 h0 5 11 = some v12 ∧ (∃ a13 : Nat, v12 = some a13 ∧ (∃ n14 f15, xaI w7 a13 (E.1 1) = some (n14, f15) ∧ vp_in p0 n14 ∧ ((12 ≤ (f15 p0.toNatClampNeg) → (post 0 w7)) ∧ (¬ 12 ≤ (f15 p0.toNatClampNeg) → ((∃ fs, w7 h0 = some (.inr (5, fs))) ∧ wp_MO_put E (fun w17 => post 1 w17) w7 h0 p0 p1 p2))))))))))))) w5 p2 (-100000000) 100000000))))) w3 h0 p1))) w1 h0 p0)
set_option maxHeartbeats 4000000 in
set_option maxRecDepth 100000 in
theorem c_MO_row (l : Launch) (D : va_G) (E : xE_T) (A : Nat → Prop) (post : Int32 → xw_T → Prop) (w : xw_T) (h0 : Nat) (p0 : Int32) (p1 : Int32) (p2 : Int64) (h : wp_MO_row E post w h0 p0 p1 p2) : Met l yMO_row (xW yMO_row cMO_row 6 (some (.boolean))) ({ frames := 2, cells := 0, slots := 0, locals := 46 } : Room) (va_Pc [.ref h0, .int p0, .int p1, .long p2] (xP D E A w)) (va_Qi post (xB D A) A) 0 0 A := by
  refine Met.ofW (cc := cMO_row) (maxL := 6) (ret := (some (.boolean))) (by decide) rfl ?_
  intro p e s m args below meth c s₁ B hml hv
  obtain ⟨rfl, hw, hK, hE⟩ := hv
  have hx := B.exec
  have hb := B.bytes
  have hr := B.returns
  have hts : ∀ w ∈ xTB, w.before _ s = true := fun w hw => atoms_spec (ws := xW yMO_row cMO_row 6 (some (.boolean))) B.pre w (List.mem_cons_of_mem _ hw)
  have hown : s.vm.findClass RMO = some m.cls := findClass_of_methodNamed B.named
  have hlocks := B.notSynchronized
  have hw : xw_S D vwCl A s.heap w s.heap [] := xw_S0 hw
  refine xl_start (lvs := [(0, .ref h0), (1, .int p0), (2, .int p1), (3, .long p2)]) (by first | exact Nat.le_of_ble_eq_true rfl | simp [lg_sl, va_rf_cat, xcat_i, xcat_l, xcat_r, xcat_n]) (by first | rfl | simp [lv_args, va_rf_cat, xcat_i, xcat_l, xcat_r, xcat_n]) (fun ls hl => ?_)
  unfold wp_MO_row at h
  refine lv_aload_n hx hb dMO_row_0 rfl (lv_at hl 0 rfl) ?_
  refine lv_iconst (v := 0) hx hb dMO_row_1 (by decide) ?_
  obtain ⟨hv, h⟩ := h
  refine xw_put (ty := (.int)) (C := RMO) (T := TMO) (N := 17) (ref := RMO) hx hb hts inMO tyMO tyMO_ok nmMO hown hK hw rfl 0 (by decide) (hts _ mw_288) (fun _ h9 => h9) rfl (by decide +kernel) rfl rfl hv dMO_row_2 (fun H locs hw => ?_)
  replace h := h _ rfl
  generalize xp w h0 0 (.int 0) = w1 at hw h
  refine lv_aload_n hx hb dMO_row_5 rfl (lv_at hl 0 rfl) ?_
  refine lv_iload_n hx hb dMO_row_6 rfl (lv_at hl 1 rfl) ?_
  obtain ⟨⟨fs, hk⟩, h⟩ := h
  have hcall := h
  clear h
  refine xw_calli (va_runV (As := [.int p0]) (rest := []) ⟨hx, hb, hml, hown, hts⟩ (c_MO_isBatch l D E A _ w1 h0 p0 hcall) (cwV 1 hts (xG_V mw_315 mw_316 mw_317 mw_294 mw_318) rfl rfl rfl (by decide +kernel) ⟨(Nat.le_of_ble_eq_true rfl), (Nat.le_of_ble_eq_true rfl)⟩) (xw_preV (ci := 5) hw hK hE rfl hk) rfl rfl hl.1 rfl (lv_room (by first | exact Nat.le_of_ble_eq_true rfl | simp [va_rf_cat, xcat_i, xcat_l, xcat_r, xcat_n])) dMO_row_7 ⟨(Nat.le_of_ble_eq_true rfl), (Nat.le_of_ble_eq_true rfl)⟩) hw (fun r2 w3 H locs h hw => ?_)
  clear hcall
  refine lv_if_eq (tgt := 44) hx hb dMO_row_10 rfl (fun hc => ?_) (fun hc => ?_)
  · replace h := h.1 hc
    refine lv_iconst (v := 0) hx hb dMO_row_44 (by decide) ?_
    refine lv_istore (i := 5) (lv' := [(5, .int 0), (0, .ref h0), (1, .int p0), (2, .int p1), (3, .long p2)]) hx hb dMO_row_45 hl (by decide) (by first | rfl | simp [va_rf_cat, xcat_i, xcat_l, xcat_r, xcat_n]) (fun ls hl => ?_)
    refine lv_iload hx hb dMO_row_47 (lv_at hl 0 rfl) ?_
    refine lv_if_eq (tgt := 76) hx hb dMO_row_49 rfl (fun _ => ?_) (fun hc => absurd hc (by decide))
    refine lv_iconst (v := 0) hx hb dMO_row_76 (by decide) ?_
    refine lv_istore (i := 5) (lv' := [(5, .int 0), (0, .ref h0), (1, .int p0), (2, .int p1), (3, .long p2)]) hx hb dMO_row_77 hl (by decide) (by first | rfl | simp [va_rf_cat, xcat_i, xcat_l, xcat_r, xcat_n]) (fun ls hl => ?_)
    refine lv_iload hx hb dMO_row_79 (lv_at hl 0 rfl) ?_
    refine lv_if_eq (tgt := 91) hx hb dMO_row_81 rfl (fun _ => ?_) (fun hc => absurd hc (by decide))
    refine lv_iload hx hb dMO_row_91 (lv_at hl 0 rfl) ?_
    refine W.widen (k := 0) (n := 0) (Nat.le_of_ble_eq_true rfl) (Nat.le_of_ble_eq_true rfl) ?_
    exact xw_zret (by decide) hx hb hr hlocks hw h dMO_row_93
  · replace h := h.2 hc
    refine lv_aload_n hx hb dMO_row_13 rfl (lv_at hl 0 rfl) ?_
    refine lv_iload_n hx hb dMO_row_14 rfl (lv_at hl 2 rfl) ?_
    obtain ⟨⟨fs, hk⟩, h⟩ := h
    have hcall := h
    clear h
    refine xw_calli (va_runV (As := [.int p1]) (rest := []) ⟨hx, hb, hml, hown, hts⟩ (c_MO_isAccount l D E A _ w3 h0 p1 hcall) (cwV 1 hts (xG_V mw_311 mw_312 mw_313 mw_294 mw_314) rfl rfl rfl (by decide +kernel) ⟨(Nat.le_of_ble_eq_true rfl), (Nat.le_of_ble_eq_true rfl)⟩) (xw_preV (ci := 5) hw hK hE rfl hk) rfl rfl hl.1 rfl (lv_room (by first | exact Nat.le_of_ble_eq_true rfl | simp [va_rf_cat, xcat_i, xcat_l, xcat_r, xcat_n])) dMO_row_15 ⟨(Nat.le_of_ble_eq_true rfl), (Nat.le_of_ble_eq_true rfl)⟩) hw (fun r4 w5 H locs h hw => ?_)
    clear hcall
    refine lv_if_eq (tgt := 44) hx hb dMO_row_18 rfl (fun hc => ?_) (fun hc => ?_)
    · replace h := h.1 hc
      refine lv_iconst (v := 0) hx hb dMO_row_44 (by decide) ?_
      refine lv_istore (i := 5) (lv' := [(5, .int 0), (0, .ref h0), (1, .int p0), (2, .int p1), (3, .long p2)]) hx hb dMO_row_45 hl (by decide) (by first | rfl | simp [va_rf_cat, xcat_i, xcat_l, xcat_r, xcat_n]) (fun ls hl => ?_)
      refine lv_iload hx hb dMO_row_47 (lv_at hl 0 rfl) ?_
      refine lv_if_eq (tgt := 76) hx hb dMO_row_49 rfl (fun _ => ?_) (fun hc => absurd hc (by decide))
      refine lv_iconst (v := 0) hx hb dMO_row_76 (by decide) ?_
      refine lv_istore (i := 5) (lv' := [(5, .int 0), (0, .ref h0), (1, .int p0), (2, .int p1), (3, .long p2)]) hx hb dMO_row_77 hl (by decide) (by first | rfl | simp [va_rf_cat, xcat_i, xcat_l, xcat_r, xcat_n]) (fun ls hl => ?_)
      refine lv_iload hx hb dMO_row_79 (lv_at hl 0 rfl) ?_
      refine lv_if_eq (tgt := 91) hx hb dMO_row_81 rfl (fun _ => ?_) (fun hc => absurd hc (by decide))
      refine lv_iload hx hb dMO_row_91 (lv_at hl 0 rfl) ?_
      refine W.widen (k := 0) (n := 0) (Nat.le_of_ble_eq_true rfl) (Nat.le_of_ble_eq_true rfl) ?_
      exact xw_zret (by decide) hx hb hr hlocks hw h dMO_row_93
    · replace h := h.2 hc
      refine lv_lload_n hx hb dMO_row_21 rfl (lv_at hl 3 rfl) ?_
      refine lv_lconst (v := 0) hx hb dMO_row_22 (by decide) ?_
      refine xl_lc_eq (tgt := 44) hx hb dMO_row_23 dMO_row_24 rfl (fun hc => ?_) (fun hc => ?_)
      · replace h := h.1 hc
        refine lv_iconst (v := 0) hx hb dMO_row_44 (by decide) ?_
        refine lv_istore (i := 5) (lv' := [(5, .int 0), (0, .ref h0), (1, .int p0), (2, .int p1), (3, .long p2)]) hx hb dMO_row_45 hl (by decide) (by first | rfl | simp [va_rf_cat, xcat_i, xcat_l, xcat_r, xcat_n]) (fun ls hl => ?_)
        refine lv_iload hx hb dMO_row_47 (lv_at hl 0 rfl) ?_
        refine lv_if_eq (tgt := 76) hx hb dMO_row_49 rfl (fun _ => ?_) (fun hc => absurd hc (by decide))
        refine lv_iconst (v := 0) hx hb dMO_row_76 (by decide) ?_
        refine lv_istore (i := 5) (lv' := [(5, .int 0), (0, .ref h0), (1, .int p0), (2, .int p1), (3, .long p2)]) hx hb dMO_row_77 hl (by decide) (by first | rfl | simp [va_rf_cat, xcat_i, xcat_l, xcat_r, xcat_n]) (fun ls hl => ?_)
        refine lv_iload hx hb dMO_row_79 (lv_at hl 0 rfl) ?_
        refine lv_if_eq (tgt := 91) hx hb dMO_row_81 rfl (fun _ => ?_) (fun hc => absurd hc (by decide))
        refine lv_iload hx hb dMO_row_91 (lv_at hl 0 rfl) ?_
        refine W.widen (k := 0) (n := 0) (Nat.le_of_ble_eq_true rfl) (Nat.le_of_ble_eq_true rfl) ?_
        exact xw_zret (by decide) hx hb hr hlocks hw h dMO_row_93
      · replace h := h.2 hc
        refine lv_lload_n hx hb dMO_row_27 rfl (lv_at hl 3 rfl) ?_
        refine lv_ldc2 (v := (-100000000)) hx hb hown (hts _ mw_310) dMO_row_28 ?_
        refine lv_ldc2 (v := 100000000) hx hb hown (hts _ mw_309) dMO_row_31 ?_
        have hcall := h
        clear h
        refine xw_calli (va_runS (As := [.long p2, .long (-100000000), .long 100000000]) (rest := []) ⟨hx, hb, hml, hown, hts⟩ (c_MO_isIn l D E A _ w5 p2 (-100000000) 100000000 hcall) (va_cwS 3 hts (xG_S mw_292 mw_293 mw_294 mw_295) rfl rfl rfl (by decide +kernel) ⟨(Nat.le_of_ble_eq_true rfl), (Nat.le_of_ble_eq_true rfl)⟩) (xw_preS hw hK hE) rfl rfl hl.1 rfl (lv_room (by first | exact Nat.le_of_ble_eq_true rfl | simp [va_rf_cat, xcat_i, xcat_l, xcat_r, xcat_n])) dMO_row_34 ⟨(Nat.le_of_ble_eq_true rfl), (Nat.le_of_ble_eq_true rfl)⟩) hw (fun r6 w7 H locs h hw => ?_)
        clear hcall
        refine lv_if_eq (tgt := 44) hx hb dMO_row_37 rfl (fun hc => ?_) (fun hc => ?_)
        · replace h := h.1 hc
          refine lv_iconst (v := 0) hx hb dMO_row_44 (by decide) ?_
          refine lv_istore (i := 5) (lv' := [(5, .int 0), (0, .ref h0), (1, .int p0), (2, .int p1), (3, .long p2)]) hx hb dMO_row_45 hl (by decide) (by first | rfl | simp [va_rf_cat, xcat_i, xcat_l, xcat_r, xcat_n]) (fun ls hl => ?_)
          refine lv_iload hx hb dMO_row_47 (lv_at hl 0 rfl) ?_
          refine lv_if_eq (tgt := 76) hx hb dMO_row_49 rfl (fun _ => ?_) (fun hc => absurd hc (by decide))
          refine lv_iconst (v := 0) hx hb dMO_row_76 (by decide) ?_
          refine lv_istore (i := 5) (lv' := [(5, .int 0), (0, .ref h0), (1, .int p0), (2, .int p1), (3, .long p2)]) hx hb dMO_row_77 hl (by decide) (by first | rfl | simp [va_rf_cat, xcat_i, xcat_l, xcat_r, xcat_n]) (fun ls hl => ?_)
          refine lv_iload hx hb dMO_row_79 (lv_at hl 0 rfl) ?_
          refine lv_if_eq (tgt := 91) hx hb dMO_row_81 rfl (fun _ => ?_) (fun hc => absurd hc (by decide))
          refine lv_iload hx hb dMO_row_91 (lv_at hl 0 rfl) ?_
          refine W.widen (k := 0) (n := 0) (Nat.le_of_ble_eq_true rfl) (Nat.le_of_ble_eq_true rfl) ?_
          exact xw_zret (by decide) hx hb hr hlocks hw h dMO_row_93
        · replace h := h.2 hc
          refine lv_iconst (v := 1) hx hb dMO_row_40 (by decide) ?_
          refine lv_goto (tgt := 45) hx hb dMO_row_41 rfl ?_
          refine lv_istore (i := 5) (lv' := [(5, .int 1), (0, .ref h0), (1, .int p0), (2, .int p1), (3, .long p2)]) hx hb dMO_row_45 hl (by decide) (by first | rfl | simp [va_rf_cat, xcat_i, xcat_l, xcat_r, xcat_n]) (fun ls hl => ?_)
          refine lv_iload hx hb dMO_row_47 (lv_at hl 0 rfl) ?_
          refine lv_if_eq (tgt := 76) hx hb dMO_row_49 rfl (fun hc => absurd hc (by decide)) (fun _ => ?_)
          refine lv_aload_n hx hb dMO_row_52 rfl (lv_at hl 1 rfl) ?_
          obtain ⟨v8, hv, h⟩ := h
          refine xw_getR (C := RMO) (T := TMO) (N := 17) (ref := RMO) hx hb hts inMO hown hK hw rfl 6 (by decide) (hts _ mw_283) (fun _ h9 => h9) hv dMO_row_53 ?_
          refine lv_iload_n hx hb dMO_row_56 rfl (lv_at hl 2 rfl) ?_
          obtain ⟨a9, rfl, h⟩ := h
          obtain ⟨n10, f11, ha, hin9, h⟩ := h
          refine xw_iald hx hb hK hw 1 rfl ha hin9 dMO_row_57 ?_
          refine lv_if_ne (tgt := 76) hx hb dMO_row_58 rfl (fun hc => ?_) (fun hc => ?_)
          · replace h := h.1 hc
            refine lv_iconst (v := 0) hx hb dMO_row_76 (by decide) ?_
            refine lv_istore (i := 5) (lv' := [(5, .int 0), (0, .ref h0), (1, .int p0), (2, .int p1), (3, .long p2)]) hx hb dMO_row_77 hl (by decide) (by first | rfl | simp [va_rf_cat, xcat_i, xcat_l, xcat_r, xcat_n]) (fun ls hl => ?_)
            refine lv_iload hx hb dMO_row_79 (lv_at hl 0 rfl) ?_
            refine lv_if_eq (tgt := 91) hx hb dMO_row_81 rfl (fun _ => ?_) (fun hc => absurd hc (by decide))
            refine lv_iload hx hb dMO_row_91 (lv_at hl 0 rfl) ?_
            refine W.widen (k := 0) (n := 0) (Nat.le_of_ble_eq_true rfl) (Nat.le_of_ble_eq_true rfl) ?_
            exact xw_zret (by decide) hx hb hr hlocks hw h dMO_row_93
          · replace h := h.2 hc
            refine lv_aload_n hx hb dMO_row_61 rfl (lv_at hl 1 rfl) ?_
            obtain ⟨v12, hv, h⟩ := h
            refine xw_getR (C := RMO) (T := TMO) (N := 17) (ref := RMO) hx hb hts inMO hown hK hw rfl 11 (by decide) (hts _ mw_277) (fun _ h9 => h9) hv dMO_row_62 ?_
            refine lv_iload_n hx hb dMO_row_65 rfl (lv_at hl 2 rfl) ?_
            obtain ⟨a13, rfl, h⟩ := h
            obtain ⟨n14, f15, ha, hin9, h⟩ := h
            refine xw_iald hx hb hK hw 1 rfl ha hin9 dMO_row_66 ?_
            refine lv_bipush (v := 12) hx hb dMO_row_67 (by decide) ?_
            refine lv_icmp_ge (tgt := 76) hx hb dMO_row_69 rfl (fun hc => ?_) (fun hc => ?_)
            · replace h := h.1 hc
              refine lv_iconst (v := 0) hx hb dMO_row_76 (by decide) ?_
              refine lv_istore (i := 5) (lv' := [(5, .int 0), (0, .ref h0), (1, .int p0), (2, .int p1), (3, .long p2)]) hx hb dMO_row_77 hl (by decide) (by first | rfl | simp [va_rf_cat, xcat_i, xcat_l, xcat_r, xcat_n]) (fun ls hl => ?_)
              refine lv_iload hx hb dMO_row_79 (lv_at hl 0 rfl) ?_
              refine lv_if_eq (tgt := 91) hx hb dMO_row_81 rfl (fun _ => ?_) (fun hc => absurd hc (by decide))
              refine lv_iload hx hb dMO_row_91 (lv_at hl 0 rfl) ?_
              refine W.widen (k := 0) (n := 0) (Nat.le_of_ble_eq_true rfl) (Nat.le_of_ble_eq_true rfl) ?_
              exact xw_zret (by decide) hx hb hr hlocks hw h dMO_row_93
            · replace h := h.2 hc
              refine lv_iconst (v := 1) hx hb dMO_row_72 (by decide) ?_
              refine lv_goto (tgt := 77) hx hb dMO_row_73 rfl ?_
              refine lv_istore (i := 5) (lv' := [(5, .int 1), (0, .ref h0), (1, .int p0), (2, .int p1), (3, .long p2)]) hx hb dMO_row_77 hl (by decide) (by first | rfl | simp [va_rf_cat, xcat_i, xcat_l, xcat_r, xcat_n]) (fun ls hl => ?_)
              refine lv_iload hx hb dMO_row_79 (lv_at hl 0 rfl) ?_
              refine lv_if_eq (tgt := 91) hx hb dMO_row_81 rfl (fun hc => absurd hc (by decide)) (fun _ => ?_)
              refine lv_aload_n hx hb dMO_row_84 rfl (lv_at hl 1 rfl) ?_
              refine lv_iload_n hx hb dMO_row_85 rfl (lv_at hl 2 rfl) ?_
              refine lv_iload_n hx hb dMO_row_86 rfl (lv_at hl 3 rfl) ?_
              refine lv_lload_n hx hb dMO_row_87 rfl (lv_at hl 4 rfl) ?_
              obtain ⟨⟨fs, hk⟩, h⟩ := h
              have hcall := h
              clear h
              refine xw_callv (va_runV (As := [.int p0, .int p1, .long p2]) (rest := []) ⟨hx, hb, hml, hown, hts⟩ (c_MO_put l D E A _ w7 h0 p0 p1 p2 hcall) (cwV 3 hts (xG_V mw_305 mw_306 mw_307 mw_294 mw_308) rfl rfl rfl (by decide +kernel) ⟨(Nat.le_of_ble_eq_true rfl), (Nat.le_of_ble_eq_true rfl)⟩) (xw_preV (ci := 5) hw hK hE rfl hk) rfl rfl hl.1 rfl (lv_room (by first | exact Nat.le_of_ble_eq_true rfl | simp [va_rf_cat, xcat_i, xcat_l, xcat_r, xcat_n])) dMO_row_88 ⟨(Nat.le_of_ble_eq_true rfl), (Nat.le_of_ble_eq_true rfl)⟩) hw (fun w17 H locs h hw => ?_)
              clear hcall
              refine lv_iload hx hb dMO_row_91 (lv_at hl 0 rfl) ?_
              refine W.widen (k := 0) (n := 0) (Nat.le_of_ble_eq_true rfl) (Nat.le_of_ble_eq_true rfl) ?_
              exact xw_zret (by decide) hx hb hr hlocks hw h dMO_row_93
def wl_MO_part_6 (E : xE_T) (post : Int64 → xw_T → Prop) : Nat → xw_T → Nat → Int32 → Int32 → Int32 → Int64 → Int32 → Prop
  | 0 => fun _ _ _ _ _ _ _ => False
  | n6 + 1 => fun w x0 x1 x2 x3 x4 x6 => (x2 ≤ x6 → (post x4 w)) ∧ (¬ x2 ≤ x6 → (∃ v1, xgR w x0 5 12 = some v1 ∧ (∃ a2 : Nat, v1 = some a2 ∧ (∃ n3 f4, xaI w a2 (E.1 1) = some (n3, f4) ∧ vp_in ((12 * x1) + x6) n3 ∧ ((¬ (f4 ((12 * x1) + x6).toNatClampNeg) = x3 → (wl_MO_part_6 E post n6 w x0 x1 x2 x3 x4 (x6 + 1))) ∧ ((f4 ((12 * x1) + x6).toNatClampNeg) = x3 → (∃ v5, xgR w x0 5 13 = some v5 ∧ (∃ a6 : Nat, v5 = some a6 ∧ (∃ n7 f8, xaL w a6 (E.1 2) = some (n7, f8) ∧ vp_in ((12 * x1) + x6) n7 ∧ (wl_MO_part_6 E post n6 w x0 x1 x2 x3 (x4 + (f8 ((12 * x1) + x6).toNatClampNeg)) (x6 + 1)))))))))))
def wp_MO_part (E : xE_T) (post : Int64 → xw_T → Prop) (w : xw_T) (h0 : Nat) (p0 : Int32) (p1 : Int32) (p2 : Int32) : Prop := ∃ n6, wl_MO_part_6 E post n6 w h0 p0 p1 p2 0 0
set_option maxHeartbeats 4000000 in
set_option maxRecDepth 100000 in
theorem c_MO_part (l : Launch) (D : va_G) (E : xE_T) (A : Nat → Prop) (post : Int64 → xw_T → Prop) (w : xw_T) (h0 : Nat) (p0 : Int32) (p1 : Int32) (p2 : Int32) (h : wp_MO_part E post w h0 p0 p1 p2) : Met l yMO_part (xW yMO_part cMO_part 7 (some (.long))) ({ frames := 0, cells := 0, slots := 0, locals := 0 } : Room) (va_Pc [.ref h0, .int p0, .int p1, .int p2] (xP D E A w)) (va_Ql post (xB D A) A) 0 0 A := by
  refine Met.ofW (cc := cMO_part) (maxL := 7) (ret := (some (.long))) (by decide) rfl ?_
  intro p e s m args below meth c s₁ B hml hv
  obtain ⟨rfl, hw, hK, hE⟩ := hv
  have hx := B.exec
  have hb := B.bytes
  have hr := B.returns
  have hts : ∀ w ∈ xTB, w.before _ s = true := fun w hw => atoms_spec (ws := xW yMO_part cMO_part 7 (some (.long))) B.pre w (List.mem_cons_of_mem _ hw)
  have hown : s.vm.findClass RMO = some m.cls := findClass_of_methodNamed B.named
  have hlocks := B.notSynchronized
  have hw : xw_S D vwCl A s.heap w s.heap [] := xw_S0 hw
  have lo_6 : ∀ (n6 : Nat) (w : xw_T) (x0 : Nat) (x1 : Int32) (x2 : Int32) (x3 : Int32) (x4 : Int64) (x6 : Int32) (H : Heap) (locs : List Loc) (ls : Array Slot), lv_has ls 7 [(0, .ref x0), (1, .int x1), (2, .int x2), (3, .int x3), (4, .long x4), (6, .int x6)] → xw_S D vwCl A s.heap w H locs → wl_MO_part_6 E post n6 w x0 x1 x2 x3 x4 x6 → W p l e (headSpec (xW yMO_part cMO_part 7 (some (.long))) ({ frames := 0, cells := 0, slots := 0, locals := 0 } : Room)).room s m ([.ref h0, .int p0, .int p1, .int p2] : List Value).toArray below meth c H locs 0 0 (MQ below (va_Ql post (xB D A) A) ([.ref h0, .int p0, .int p1, .int p2] : List Value).toArray s 0 0 A) (F0 m 6 ls []) := by
    intro n6
    induction n6 with
    | zero => intro w x0 x1 x2 x3 x4 x6 H locs ls hl hw h; exact h.elim
    | succ n6 ih6 =>
      intro w x0 x1 x2 x3 x4 x6 H locs ls hl hw h
      dsimp only [wl_MO_part_6] at h
      refine lv_iload hx hb dMO_part_6 (lv_at hl 5 rfl) ?_
      refine lv_iload_n hx hb dMO_part_8 rfl (lv_at hl 2 rfl) ?_
      refine lv_icmp_ge (tgt := 56) hx hb dMO_part_9 rfl (fun hc => ?_) (fun hc => ?_)
      · replace h := h.1 hc
        refine lv_lload hx hb dMO_part_56 (lv_at hl 4 rfl) ?_
        refine W.widen (k := 0) (n := 0) (Nat.le_of_ble_eq_true rfl) (Nat.le_of_ble_eq_true rfl) ?_
        exact xw_lret hx hb hr hlocks hw h dMO_part_58
      · replace h := h.2 hc
        refine lv_aload_n hx hb dMO_part_12 rfl (lv_at hl 0 rfl) ?_
        obtain ⟨v1, hv, h⟩ := h
        refine xw_getR (C := RMO) (T := TMO) (N := 17) (ref := RMO) hx hb hts inMO hown hK hw rfl 12 (by decide) (hts _ mw_276) (fun _ h9 => h9) hv dMO_part_13 ?_
        refine lv_bipush (v := 12) hx hb dMO_part_16 (by decide) ?_
        refine lv_iload_n hx hb dMO_part_18 rfl (lv_at hl 1 rfl) ?_
        refine lv_imul hx hb dMO_part_19 ?_
        refine lv_iload hx hb dMO_part_20 (lv_at hl 5 rfl) ?_
        refine lv_iadd hx hb dMO_part_22 ?_
        obtain ⟨a2, rfl, h⟩ := h
        obtain ⟨n3, f4, ha, hin9, h⟩ := h
        refine xw_iald hx hb hK hw 1 rfl ha hin9 dMO_part_23 ?_
        refine lv_iload_n hx hb dMO_part_24 rfl (lv_at hl 3 rfl) ?_
        refine lv_icmp_ne (tgt := 46) hx hb dMO_part_25 rfl (fun hc => ?_) (fun hc => ?_)
        · replace h := h.1 hc
          refine lv_lload hx hb dMO_part_46 (lv_at hl 4 rfl) ?_
          refine lv_lstore (i := 4) (lv' := [(4, .long x4), (0, .ref x0), (1, .int x1), (2, .int x2), (3, .int x3), (6, .int x6)]) hx hb dMO_part_48 hl (by decide) (by first | rfl | simp [va_rf_cat, xcat_i, xcat_l, xcat_r, xcat_n]) (fun ls hl => ?_)
          refine lv_iinc (k := 5) (v := x6 + 1) (lv' := [(6, .int (x6 + 1)), (4, .long x4), (0, .ref x0), (1, .int x1), (2, .int x2), (3, .int x3)]) hx hb dMO_part_50 hl rfl rfl (by decide) (by first | rfl | simp [va_rf_cat, xcat_i, xcat_l, xcat_r, xcat_n]) (fun ls hl => ?_)
          refine lv_goto (tgt := 6) hx hb dMO_part_53 rfl ?_
          exact ih6 _ x0 x1 x2 x3 x4 (x6 + 1) _ _ _ (lv_sub hl [2, 3, 4, 5, 1, 0] rfl) hw h
        · replace h := h.2 hc
          refine lv_lload hx hb dMO_part_28 (lv_at hl 4 rfl) ?_
          refine lv_aload_n hx hb dMO_part_30 rfl (lv_at hl 0 rfl) ?_
          obtain ⟨v5, hv, h⟩ := h
          refine xw_getR (C := RMO) (T := TMO) (N := 17) (ref := RMO) hx hb hts inMO hown hK hw rfl 13 (by decide) (hts _ mw_274) (fun _ h9 => h9) hv dMO_part_31 ?_
          refine lv_bipush (v := 12) hx hb dMO_part_34 (by decide) ?_
          refine lv_iload_n hx hb dMO_part_36 rfl (lv_at hl 1 rfl) ?_
          refine lv_imul hx hb dMO_part_37 ?_
          refine lv_iload hx hb dMO_part_38 (lv_at hl 5 rfl) ?_
          refine lv_iadd hx hb dMO_part_40 ?_
          obtain ⟨a6, rfl, h⟩ := h
          obtain ⟨n7, f8, ha, hin9, h⟩ := h
          refine xw_lald hx hb hK hw 2 rfl ha hin9 dMO_part_41 ?_
          refine lv_ladd hx hb dMO_part_42 ?_
          refine lv_goto (tgt := 48) hx hb dMO_part_43 rfl ?_
          refine lv_lstore (i := 4) (lv' := [(4, .long (x4 + (f8 ((12 * x1) + x6).toNatClampNeg))), (0, .ref x0), (1, .int x1), (2, .int x2), (3, .int x3), (6, .int x6)]) hx hb dMO_part_48 hl (by decide) (by first | rfl | simp [va_rf_cat, xcat_i, xcat_l, xcat_r, xcat_n]) (fun ls hl => ?_)
          refine lv_iinc (k := 5) (v := x6 + 1) (lv' := [(6, .int (x6 + 1)), (4, .long (x4 + (f8 ((12 * x1) + x6).toNatClampNeg))), (0, .ref x0), (1, .int x1), (2, .int x2), (3, .int x3)]) hx hb dMO_part_50 hl rfl rfl (by decide) (by first | rfl | simp [va_rf_cat, xcat_i, xcat_l, xcat_r, xcat_n]) (fun ls hl => ?_)
          refine lv_goto (tgt := 6) hx hb dMO_part_53 rfl ?_
          exact ih6 _ x0 x1 x2 x3 (x4 + (f8 ((12 * x1) + x6).toNatClampNeg)) (x6 + 1) _ _ _ (lv_sub hl [2, 3, 4, 5, 1, 0] rfl) hw h
  refine xl_start (lvs := [(0, .ref h0), (1, .int p0), (2, .int p1), (3, .int p2)]) (by first | exact Nat.le_of_ble_eq_true rfl | simp [lg_sl, va_rf_cat, xcat_i, xcat_l, xcat_r, xcat_n]) (by first | rfl | simp [lv_args, va_rf_cat, xcat_i, xcat_l, xcat_r, xcat_n]) (fun ls hl => ?_)
  unfold wp_MO_part at h
  refine lv_lconst (v := 0) hx hb dMO_part_0 (by decide) ?_
  refine lv_lstore (i := 4) (lv' := [(4, .long 0), (0, .ref h0), (1, .int p0), (2, .int p1), (3, .int p2)]) hx hb dMO_part_1 hl (by decide) (by first | rfl | simp [va_rf_cat, xcat_i, xcat_l, xcat_r, xcat_n]) (fun ls hl => ?_)
  refine lv_iconst (v := 0) hx hb dMO_part_3 (by decide) ?_
  refine lv_istore (i := 6) (lv' := [(6, .int 0), (4, .long 0), (0, .ref h0), (1, .int p0), (2, .int p1), (3, .int p2)]) hx hb dMO_part_4 hl (by decide) (by first | rfl | simp [va_rf_cat, xcat_i, xcat_l, xcat_r, xcat_n]) (fun ls hl => ?_)
  obtain ⟨n6, h⟩ := h
  refine W.widen (k := 0) (n := 0) (Nat.le_of_ble_eq_true rfl) (Nat.le_of_ble_eq_true rfl) ?_
  exact lo_6 n6 _ h0 p0 p1 p2 0 0 _ _ _ (lv_sub hl [2, 3, 4, 5, 1, 0] rfl) hw h
def wl_MO_balanceOf_6 (E : xE_T) (post : Int64 → xw_T → Prop) : Nat → xw_T → Nat → Int32 → Int64 → Int64 → Int32 → Prop
  | 0 => fun _ _ _ _ _ _ => False
  | n6 + 1 => fun w x0 x1 x2 x4 x6 => ∃ v1, xgI w x0 5 14 = some v1 ∧ ((v1 ≤ x6 → (post x4 w)) ∧ (¬ v1 ≤ x6 → (∃ v2, xgR w x0 5 15 = some v2 ∧ (∃ a3 : Nat, v2 = some a3 ∧ (∃ n4 f5, xaI w a3 (E.1 1) = some (n4, f5) ∧ vp_in x6 n4 ∧ (∃ v6, xgR w x0 5 7 = some v6 ∧ (∃ a7 : Nat, v6 = some a7 ∧ (∃ n8 f9, xaL w a7 (E.1 2) = some (n8, f9) ∧ vp_in (f5 x6.toNatClampNeg) n8 ∧ ((x2 < (f9 (f5 x6.toNatClampNeg).toNatClampNeg) → (wl_MO_balanceOf_6 E post n6 w x0 x1 x2 x4 (x6 + 1))) ∧ (¬ x2 < (f9 (f5 x6.toNatClampNeg).toNatClampNeg) → (∃ v10, xgR w x0 5 11 = some v10 ∧ (∃ a11 : Nat, v10 = some a11 ∧ (∃ n12 f13, xaI w a11 (E.1 1) = some (n12, f13) ∧ vp_in (f5 x6.toNatClampNeg) n12 ∧ ((∃ fs, w x0 = some (.inr (5, fs))) ∧ wp_MO_part E (fun r14 w15 => wl_MO_balanceOf_6 E post n6 w15 x0 x1 x2 (x4 + r14) (x6 + 1)) w x0 (f5 x6.toNatClampNeg) (f13 (f5 x6.toNatClampNeg).toNatClampNeg) x1))))))))))))))
def wp_MO_balanceOf (E : xE_T) (post : Int64 → xw_T → Prop) (w : xw_T) (h0 : Nat) (p0 : Int32) (p1 : Int64) : Prop := ∃ n6, wl_MO_balanceOf_6 E post n6 w h0 p0 p1 0 0
set_option maxHeartbeats 4000000 in
set_option maxRecDepth 100000 in
theorem c_MO_balanceOf (l : Launch) (D : va_G) (E : xE_T) (A : Nat → Prop) (post : Int64 → xw_T → Prop) (w : xw_T) (h0 : Nat) (p0 : Int32) (p1 : Int64) (h : wp_MO_balanceOf E post w h0 p0 p1) : Met l yMO_balanceOf (xW yMO_balanceOf cMO_balanceOf 8 (some (.long))) ({ frames := 1, cells := 0, slots := 0, locals := 26 } : Room) (va_Pc [.ref h0, .int p0, .long p1] (xP D E A w)) (va_Ql post (xB D A) A) 0 0 A := by
  refine Met.ofW (cc := cMO_balanceOf) (maxL := 8) (ret := (some (.long))) (by decide) rfl ?_
  intro p e s m args below meth c s₁ B hml hv
  obtain ⟨rfl, hw, hK, hE⟩ := hv
  have hx := B.exec
  have hb := B.bytes
  have hr := B.returns
  have hts : ∀ w ∈ xTB, w.before _ s = true := fun w hw => atoms_spec (ws := xW yMO_balanceOf cMO_balanceOf 8 (some (.long))) B.pre w (List.mem_cons_of_mem _ hw)
  have hown : s.vm.findClass RMO = some m.cls := findClass_of_methodNamed B.named
  have hlocks := B.notSynchronized
  have hw : xw_S D vwCl A s.heap w s.heap [] := xw_S0 hw
  have lo_6 : ∀ (n6 : Nat) (w : xw_T) (x0 : Nat) (x1 : Int32) (x2 : Int64) (x4 : Int64) (x6 : Int32) (H : Heap) (locs : List Loc) (ls : Array Slot), lv_has ls 8 [(0, .ref x0), (1, .int x1), (2, .long x2), (4, .long x4), (6, .int x6)] → xw_S D vwCl A s.heap w H locs → wl_MO_balanceOf_6 E post n6 w x0 x1 x2 x4 x6 → W p l e (headSpec (xW yMO_balanceOf cMO_balanceOf 8 (some (.long))) ({ frames := 1, cells := 0, slots := 0, locals := 26 } : Room)).room s m ([.ref h0, .int p0, .long p1] : List Value).toArray below meth c H locs 0 0 (MQ below (va_Ql post (xB D A) A) ([.ref h0, .int p0, .long p1] : List Value).toArray s 0 0 A) (F0 m 6 ls []) := by
    intro n6
    induction n6 with
    | zero => intro w x0 x1 x2 x4 x6 H locs ls hl hw h; exact h.elim
    | succ n6 ih6 =>
      intro w x0 x1 x2 x4 x6 H locs ls hl hw h
      dsimp only [wl_MO_balanceOf_6] at h
      refine lv_iload hx hb dMO_balanceOf_6 (lv_at hl 4 rfl) ?_
      refine lv_aload_n hx hb dMO_balanceOf_8 rfl (lv_at hl 0 rfl) ?_
      obtain ⟨v1, hv, h⟩ := h
      refine xw_getI (C := RMO) (T := TMO) (N := 17) (ref := RMO) hx hb hts inMO hown hK hw rfl 14 (by decide) (hts _ mw_323) (fun _ h9 => h9) hv dMO_balanceOf_9 ?_
      refine lv_icmp_ge (tgt := 66) hx hb dMO_balanceOf_12 rfl (fun hc => ?_) (fun hc => ?_)
      · replace h := h.1 hc
        refine lv_lload hx hb dMO_balanceOf_66 (lv_at hl 3 rfl) ?_
        refine W.widen (k := 0) (n := 0) (Nat.le_of_ble_eq_true rfl) (Nat.le_of_ble_eq_true rfl) ?_
        exact xw_lret hx hb hr hlocks hw h dMO_balanceOf_68
      · replace h := h.2 hc
        refine lv_aload_n hx hb dMO_balanceOf_15 rfl (lv_at hl 0 rfl) ?_
        obtain ⟨v2, hv, h⟩ := h
        refine xw_getR (C := RMO) (T := TMO) (N := 17) (ref := RMO) hx hb hts inMO hown hK hw rfl 15 (by decide) (hts _ mw_272) (fun _ h9 => h9) hv dMO_balanceOf_16 ?_
        refine lv_iload hx hb dMO_balanceOf_19 (lv_at hl 4 rfl) ?_
        obtain ⟨a3, rfl, h⟩ := h
        obtain ⟨n4, f5, ha, hin9, h⟩ := h
        refine xw_iald hx hb hK hw 1 rfl ha hin9 dMO_balanceOf_21 ?_
        refine lv_istore (i := 7) (lv' := [(7, .int (f5 x6.toNatClampNeg)), (0, .ref x0), (1, .int x1), (2, .long x2), (4, .long x4), (6, .int x6)]) hx hb dMO_balanceOf_22 hl (by decide) (by first | rfl | simp [va_rf_cat, xcat_i, xcat_l, xcat_r, xcat_n]) (fun ls hl => ?_)
        refine lv_aload_n hx hb dMO_balanceOf_24 rfl (lv_at hl 1 rfl) ?_
        obtain ⟨v6, hv, h⟩ := h
        refine xw_getR (C := RMO) (T := TMO) (N := 17) (ref := RMO) hx hb hts inMO hown hK hw rfl 7 (by decide) (hts _ mw_282) (fun _ h9 => h9) hv dMO_balanceOf_25 ?_
        refine lv_iload hx hb dMO_balanceOf_28 (lv_at hl 0 rfl) ?_
        obtain ⟨a7, rfl, h⟩ := h
        obtain ⟨n8, f9, ha, hin9, h⟩ := h
        refine xw_lald hx hb hK hw 2 rfl ha hin9 dMO_balanceOf_30 ?_
        refine lv_lload_n hx hb dMO_balanceOf_31 rfl (lv_at hl 3 rfl) ?_
        refine xl_lc_gt (tgt := 56) hx hb dMO_balanceOf_32 dMO_balanceOf_33 rfl (fun hc => ?_) (fun hc => ?_)
        · replace h := h.1 hc
          refine lv_lload hx hb dMO_balanceOf_56 (lv_at hl 4 rfl) ?_
          refine lv_lstore (i := 4) (lv' := [(4, .long x4), (7, .int (f5 x6.toNatClampNeg)), (0, .ref x0), (1, .int x1), (2, .long x2), (6, .int x6)]) hx hb dMO_balanceOf_58 hl (by decide) (by first | rfl | simp [va_rf_cat, xcat_i, xcat_l, xcat_r, xcat_n]) (fun ls hl => ?_)
          refine lv_iinc (k := 5) (v := x6 + 1) (lv' := [(6, .int (x6 + 1)), (4, .long x4), (7, .int (f5 x6.toNatClampNeg)), (0, .ref x0), (1, .int x1), (2, .long x2)]) hx hb dMO_balanceOf_60 hl rfl rfl (by decide) (by first | rfl | simp [va_rf_cat, xcat_i, xcat_l, xcat_r, xcat_n]) (fun ls hl => ?_)
          refine lv_goto (tgt := 6) hx hb dMO_balanceOf_63 rfl ?_
          exact ih6 _ x0 x1 x2 x4 (x6 + 1) _ _ _ (lv_sub hl [3, 4, 5, 1, 0] rfl) hw h
        · replace h := h.2 hc
          refine lv_lload hx hb dMO_balanceOf_36 (lv_at hl 4 rfl) ?_
          refine lv_aload_n hx hb dMO_balanceOf_38 rfl (lv_at hl 1 rfl) ?_
          refine lv_iload hx hb dMO_balanceOf_39 (lv_at hl 0 rfl) ?_
          refine lv_aload_n hx hb dMO_balanceOf_41 rfl (lv_at hl 1 rfl) ?_
          obtain ⟨v10, hv, h⟩ := h
          refine xw_getR (C := RMO) (T := TMO) (N := 17) (ref := RMO) hx hb hts inMO hown hK hw rfl 11 (by decide) (hts _ mw_277) (fun _ h9 => h9) hv dMO_balanceOf_42 ?_
          refine lv_iload hx hb dMO_balanceOf_45 (lv_at hl 0 rfl) ?_
          obtain ⟨a11, rfl, h⟩ := h
          obtain ⟨n12, f13, ha, hin9, h⟩ := h
          refine xw_iald hx hb hK hw 1 rfl ha hin9 dMO_balanceOf_47 ?_
          refine lv_iload_n hx hb dMO_balanceOf_48 rfl (lv_at hl 2 rfl) ?_
          obtain ⟨⟨fs, hk⟩, h⟩ := h
          have hcall := h
          clear h
          refine xw_calll (va_runV (As := [.int (f5 x6.toNatClampNeg), .int (f13 (f5 x6.toNatClampNeg).toNatClampNeg), .int x1]) (rest := [.long x4]) ⟨hx, hb, hml, hown, hts⟩ (c_MO_part l D E A _ w x0 (f5 x6.toNatClampNeg) (f13 (f5 x6.toNatClampNeg).toNatClampNeg) x1 hcall) (cwV 3 hts (xG_V mw_319 mw_320 mw_321 mw_294 mw_322) rfl rfl rfl (by decide +kernel) ⟨(Nat.le_of_ble_eq_true rfl), (Nat.le_of_ble_eq_true rfl)⟩) (xw_preV (ci := 5) hw hK hE rfl hk) rfl rfl hl.1 rfl (lv_room (by first | exact Nat.le_of_ble_eq_true rfl | simp [va_rf_cat, xcat_i, xcat_l, xcat_r, xcat_n])) dMO_balanceOf_49 ⟨(Nat.le_of_ble_eq_true rfl), (Nat.le_of_ble_eq_true rfl)⟩) hw (fun r14 w15 H locs h hw => ?_)
          clear hcall
          refine lv_ladd hx hb dMO_balanceOf_52 ?_
          refine lv_goto (tgt := 58) hx hb dMO_balanceOf_53 rfl ?_
          refine lv_lstore (i := 4) (lv' := [(4, .long (x4 + r14)), (7, .int (f5 x6.toNatClampNeg)), (0, .ref x0), (1, .int x1), (2, .long x2), (6, .int x6)]) hx hb dMO_balanceOf_58 hl (by decide) (by first | rfl | simp [va_rf_cat, xcat_i, xcat_l, xcat_r, xcat_n]) (fun ls hl => ?_)
          refine lv_iinc (k := 5) (v := x6 + 1) (lv' := [(6, .int (x6 + 1)), (4, .long (x4 + r14)), (7, .int (f5 x6.toNatClampNeg)), (0, .ref x0), (1, .int x1), (2, .long x2)]) hx hb dMO_balanceOf_60 hl rfl rfl (by decide) (by first | rfl | simp [va_rf_cat, xcat_i, xcat_l, xcat_r, xcat_n]) (fun ls hl => ?_)
          refine lv_goto (tgt := 6) hx hb dMO_balanceOf_63 rfl ?_
          exact ih6 _ x0 x1 x2 (x4 + r14) (x6 + 1) _ _ _ (lv_sub hl [3, 4, 5, 1, 0] rfl) hw h
  refine xl_start (lvs := [(0, .ref h0), (1, .int p0), (2, .long p1)]) (by first | exact Nat.le_of_ble_eq_true rfl | simp [lg_sl, va_rf_cat, xcat_i, xcat_l, xcat_r, xcat_n]) (by first | rfl | simp [lv_args, va_rf_cat, xcat_i, xcat_l, xcat_r, xcat_n]) (fun ls hl => ?_)
  unfold wp_MO_balanceOf at h
  refine lv_lconst (v := 0) hx hb dMO_balanceOf_0 (by decide) ?_
  refine lv_lstore (i := 4) (lv' := [(4, .long 0), (0, .ref h0), (1, .int p0), (2, .long p1)]) hx hb dMO_balanceOf_1 hl (by decide) (by first | rfl | simp [va_rf_cat, xcat_i, xcat_l, xcat_r, xcat_n]) (fun ls hl => ?_)
  refine lv_iconst (v := 0) hx hb dMO_balanceOf_3 (by decide) ?_
  refine lv_istore (i := 6) (lv' := [(6, .int 0), (4, .long 0), (0, .ref h0), (1, .int p0), (2, .long p1)]) hx hb dMO_balanceOf_4 hl (by decide) (by first | rfl | simp [va_rf_cat, xcat_i, xcat_l, xcat_r, xcat_n]) (fun ls hl => ?_)
  obtain ⟨n6, h⟩ := h
  refine W.widen (k := 0) (n := 0) (Nat.le_of_ble_eq_true rfl) (Nat.le_of_ble_eq_true rfl) ?_
  exact lo_6 n6 _ h0 p0 p1 0 0 _ _ _ (lv_sub hl [2, 3, 4, 1, 0] rfl) hw h
def wl_MO_stops_60 (E : xE_T) (post : Int32 → xw_T → Prop) : Nat → xw_T → Nat → Int32 → Int32 → Int32 → Prop
  | 0 => fun _ _ _ _ _ => False
  | n60 + 1 => fun w x0 x1 x4 x5 => ∃ v1, xgR w x0 5 11 = some v1 ∧ (∃ a2 : Nat, v1 = some a2 ∧ (∃ n3 f4, xaI w a2 (E.1 1) = some (n3, f4) ∧ vp_in x1 n3 ∧ (((f4 x1.toNatClampNeg) ≤ x4 → (post x4 w)) ∧ (¬ (f4 x1.toNatClampNeg) ≤ x4 → ((x5 = 0 → (post x4 w)) ∧ (¬ x5 = 0 → (∃ v5, xgR w x0 5 12 = some v5 ∧ (∃ a6 : Nat, v5 = some a6 ∧ (∃ n7 f8, xaI w a6 (E.1 1) = some (n7, f8) ∧ vp_in ((12 * x1) + x4) n7 ∧ (∃ v9, xgR w x0 5 9 = some v9 ∧ (∃ a10 : Nat, v9 = some a10 ∧ (∃ n11 f12, xaI w a10 (E.1 3) = some (n11, f12) ∧ vp_in x1 n11 ∧ ((¬ (f12 x1.toNatClampNeg) = 0 → (wl_MO_stops_60 E post n60 w x0 x1 (x4 + 1) 1)) ∧ ((f12 x1.toNatClampNeg) = 0 → (∃ v13, xgR w x0 5 3 = some v13 ∧ (∃ a14 : Nat, v13 = some a14 ∧ (∃ n15 f16, xaI w a14 (E.1 1) = some (n15, f16) ∧ vp_in (f8 ((12 * x1) + x4).toNatClampNeg) n15 ∧ ((¬ (f16 (f8 ((12 * x1) + x4).toNatClampNeg).toNatClampNeg) = 3 → (wl_MO_stops_60 E post n60 w x0 x1 (x4 + 1) 1)) ∧ ((f16 (f8 ((12 * x1) + x4).toNatClampNeg).toNatClampNeg) = 3 → (∃ v17, xgR w x0 5 13 = some v17 ∧ (∃ a18 : Nat, v17 = some a18 ∧ (∃ n19 f20, xaL w a18 (E.1 2) = some (n19, f20) ∧ vp_in ((12 * x1) + x4) n19 ∧ ((0 ≤ (f20 ((12 * x1) + x4).toNatClampNeg) → (wl_MO_stops_60 E post n60 w x0 x1 (x4 + 1) 1)) ∧ (¬ 0 ≤ (f20 ((12 * x1) + x4).toNatClampNeg) → ((∃ fs, w x0 = some (.inr (5, fs))) ∧ wp_MO_balanceOf E (fun r21 w22 => (∃ fs, w22 x0 = some (.inr (5, fs))) ∧ wp_MO_part E (fun r23 w24 => ∃ v25, xgR w24 x0 5 4 = some v25 ∧ (∃ a26 : Nat, v25 = some a26 ∧ (∃ n27 f28, xaL w24 a26 (E.1 2) = some (n27, f28) ∧ vp_in (f8 ((12 * x1) + x4).toNatClampNeg) n27 ∧ (((r21 + r23) < (-(f28 (f8 ((12 * x1) + x4).toNatClampNeg).toNatClampNeg)) → (wl_MO_stops_60 E post n60 w24 x0 x1 x4 0)) ∧ (¬ (r21 + r23) < (-(f28 (f8 ((12 * x1) + x4).toNatClampNeg).toNatClampNeg)) → (wl_MO_stops_60 E post n60 w24 x0 x1 (x4 + 1) 1)))))) w22 x0 x1 (x4 + 1) (f8 ((12 * x1) + x4).toNatClampNeg)) w x0 (f8 ((12 * x1) + x4).toNatClampNeg) 9223372036854775807)))))))))))))))))))))))))
def wl_MO_stops_5 (E : xE_T) (post : Int32 → xw_T → Prop) : Nat → xw_T → Nat → Int32 → Int64 → Int32 → Prop
  | 0 => fun _ _ _ _ _ => False
  | n5 + 1 => fun w x0 x1 x2 x4 => ∃ v29, xgR w x0 5 11 = some v29 ∧ (∃ a30 : Nat, v29 = some a30 ∧ (∃ n31 f32, xaI w a30 (E.1 1) = some (n31, f32) ∧ vp_in x1 n31 ∧ (((f32 x1.toNatClampNeg) ≤ x4 → (∃ v33, xgR w x0 5 11 = some v33 ∧ (∃ a34 : Nat, v33 = some a34 ∧ (∃ n35 f36, xaI w a34 (E.1 1) = some (n35, f36) ∧ vp_in x1 n35 ∧ (((f36 x1.toNatClampNeg) = 0 → (post (-1) w)) ∧ (¬ (f36 x1.toNatClampNeg) = 0 → ((x2 = 0 → (∃ n60, wl_MO_stops_60 E post n60 w x0 x1 0 1)) ∧ (¬ x2 = 0 → (post (-1) w))))))))) ∧ (¬ (f32 x1.toNatClampNeg) ≤ x4 → (∃ v37, xgR w x0 5 13 = some v37 ∧ (∃ a38 : Nat, v37 = some a38 ∧ (∃ n39 f40, xaL w a38 (E.1 2) = some (n39, f40) ∧ vp_in ((12 * x1) + x4) n39 ∧ (wl_MO_stops_5 E post n5 w x0 x1 (x2 + (f40 ((12 * x1) + x4).toNatClampNeg)) (x4 + 1)))))))))
def wp_MO_stops (E : xE_T) (post : Int32 → xw_T → Prop) (w : xw_T) (h0 : Nat) (p0 : Int32) : Prop := ∃ n5, wl_MO_stops_5 E post n5 w h0 p0 0 0
set_option maxHeartbeats 4000000 in
set_option maxRecDepth 100000 in
theorem c_MO_stops (l : Launch) (D : va_G) (E : xE_T) (A : Nat → Prop) (post : Int32 → xw_T → Prop) (w : xw_T) (h0 : Nat) (p0 : Int32) (h : wp_MO_stops E post w h0 p0) : Met l yMO_stops (xW yMO_stops cMO_stops 8 (some (.int))) ({ frames := 2, cells := 0, slots := 0, locals := 53 } : Room) (va_Pc [.ref h0, .int p0] (xP D E A w)) (va_Qi post (xB D A) A) 0 0 A := by
  refine Met.ofW (cc := cMO_stops) (maxL := 8) (ret := (some (.int))) (by decide) rfl ?_
  intro p e s m args below meth c s₁ B hml hv
  obtain ⟨rfl, hw, hK, hE⟩ := hv
  have hx := B.exec
  have hb := B.bytes
  have hr := B.returns
  have hts : ∀ w ∈ xTB, w.before _ s = true := fun w hw => atoms_spec (ws := xW yMO_stops cMO_stops 8 (some (.int))) B.pre w (List.mem_cons_of_mem _ hw)
  have hown : s.vm.findClass RMO = some m.cls := findClass_of_methodNamed B.named
  have hlocks := B.notSynchronized
  have hw : xw_S D vwCl A s.heap w s.heap [] := xw_S0 hw
  have lo_60 : ∀ (n60 : Nat) (w : xw_T) (x0 : Nat) (x1 : Int32) (x4 : Int32) (x5 : Int32) (H : Heap) (locs : List Loc) (ls : Array Slot), lv_has ls 8 [(0, .ref x0), (1, .int x1), (4, .int x4), (5, .int x5)] → xw_S D vwCl A s.heap w H locs → wl_MO_stops_60 E post n60 w x0 x1 x4 x5 → W p l e (headSpec (xW yMO_stops cMO_stops 8 (some (.int))) ({ frames := 2, cells := 0, slots := 0, locals := 53 } : Room)).room s m ([.ref h0, .int p0] : List Value).toArray below meth c H locs 0 0 (MQ below (va_Qi post (xB D A) A) ([.ref h0, .int p0] : List Value).toArray s 0 0 A) (F0 m 60 ls []) := by
    intro n60
    induction n60 with
    | zero => intro w x0 x1 x4 x5 H locs ls hl hw h; exact h.elim
    | succ n60 ih60 =>
      intro w x0 x1 x4 x5 H locs ls hl hw h
      dsimp only [wl_MO_stops_60] at h
      refine lv_iload hx hb dMO_stops_60 (lv_at hl 2 rfl) ?_
      refine lv_aload_n hx hb dMO_stops_62 rfl (lv_at hl 0 rfl) ?_
      obtain ⟨v1, hv, h⟩ := h
      refine xw_getR (C := RMO) (T := TMO) (N := 17) (ref := RMO) hx hb hts inMO hown hK hw rfl 11 (by decide) (hts _ mw_277) (fun _ h9 => h9) hv dMO_stops_63 ?_
      refine lv_iload_n hx hb dMO_stops_66 rfl (lv_at hl 1 rfl) ?_
      obtain ⟨a2, rfl, h⟩ := h
      obtain ⟨n3, f4, ha, hin9, h⟩ := h
      refine xw_iald hx hb hK hw 1 rfl ha hin9 dMO_stops_67 ?_
      refine lv_icmp_ge (tgt := 198) hx hb dMO_stops_68 rfl (fun hc => ?_) (fun hc => ?_)
      · replace h := h.1 hc
        refine lv_iload hx hb dMO_stops_198 (lv_at hl 2 rfl) ?_
        refine W.widen (k := 0) (n := 0) (Nat.le_of_ble_eq_true rfl) (Nat.le_of_ble_eq_true rfl) ?_
        exact xw_iret hx hb hr hlocks hw h dMO_stops_200
      · replace h := h.2 hc
        refine lv_iload hx hb dMO_stops_71 (lv_at hl 3 rfl) ?_
        refine lv_if_eq (tgt := 198) hx hb dMO_stops_73 rfl (fun hc => ?_) (fun hc => ?_)
        · replace h := h.1 hc
          refine lv_iload hx hb dMO_stops_198 (lv_at hl 2 rfl) ?_
          refine W.widen (k := 0) (n := 0) (Nat.le_of_ble_eq_true rfl) (Nat.le_of_ble_eq_true rfl) ?_
          exact xw_iret hx hb hr hlocks hw h dMO_stops_200
        · replace h := h.2 hc
          refine lv_aload_n hx hb dMO_stops_76 rfl (lv_at hl 0 rfl) ?_
          obtain ⟨v5, hv, h⟩ := h
          refine xw_getR (C := RMO) (T := TMO) (N := 17) (ref := RMO) hx hb hts inMO hown hK hw rfl 12 (by decide) (hts _ mw_276) (fun _ h9 => h9) hv dMO_stops_77 ?_
          refine lv_bipush (v := 12) hx hb dMO_stops_80 (by decide) ?_
          refine lv_iload_n hx hb dMO_stops_82 rfl (lv_at hl 1 rfl) ?_
          refine lv_imul hx hb dMO_stops_83 ?_
          refine lv_iload hx hb dMO_stops_84 (lv_at hl 2 rfl) ?_
          refine lv_iadd hx hb dMO_stops_86 ?_
          obtain ⟨a6, rfl, h⟩ := h
          obtain ⟨n7, f8, ha, hin9, h⟩ := h
          refine xw_iald hx hb hK hw 1 rfl ha hin9 dMO_stops_87 ?_
          refine lv_istore (i := 6) (lv' := [(6, .int (f8 ((12 * x1) + x4).toNatClampNeg)), (0, .ref x0), (1, .int x1), (4, .int x4), (5, .int x5)]) hx hb dMO_stops_88 hl (by decide) (by first | rfl | simp [va_rf_cat, xcat_i, xcat_l, xcat_r, xcat_n]) (fun ls hl => ?_)
          refine lv_aload_n hx hb dMO_stops_90 rfl (lv_at hl 1 rfl) ?_
          obtain ⟨v9, hv, h⟩ := h
          refine xw_getR (C := RMO) (T := TMO) (N := 17) (ref := RMO) hx hb hts inMO hown hK hw rfl 9 (by decide) (hts _ mw_280) (fun _ h9 => h9) hv dMO_stops_91 ?_
          refine lv_iload_n hx hb dMO_stops_94 rfl (lv_at hl 2 rfl) ?_
          obtain ⟨a10, rfl, h⟩ := h
          obtain ⟨n11, f12, ha, hin9, h⟩ := h
          refine xw_zald hx hb hK hw 3 rfl ha hin9 dMO_stops_95 ?_
          refine lv_if_ne (tgt := 131) hx hb dMO_stops_96 rfl (fun hc => ?_) (fun hc => ?_)
          · replace h := h.1 hc
            refine lv_iconst (v := 0) hx hb dMO_stops_131 (by decide) ?_
            refine lv_istore (i := 7) (lv' := [(7, .int 0), (6, .int (f8 ((12 * x1) + x4).toNatClampNeg)), (0, .ref x0), (1, .int x1), (4, .int x4), (5, .int x5)]) hx hb dMO_stops_132 hl (by decide) (by first | rfl | simp [va_rf_cat, xcat_i, xcat_l, xcat_r, xcat_n]) (fun ls hl => ?_)
            refine lv_iload hx hb dMO_stops_134 (lv_at hl 0 rfl) ?_
            refine lv_if_eq (tgt := 172) hx hb dMO_stops_136 rfl (fun _ => ?_) (fun hc => absurd hc (by decide))
            refine lv_iconst (v := 1) hx hb dMO_stops_172 (by decide) ?_
            refine lv_goto (tgt := 177) hx hb dMO_stops_173 rfl ?_
            refine lv_istore (i := 5) (lv' := [(5, .int 1), (7, .int 0), (6, .int (f8 ((12 * x1) + x4).toNatClampNeg)), (0, .ref x0), (1, .int x1), (4, .int x4)]) hx hb dMO_stops_177 hl (by decide) (by first | rfl | simp [va_rf_cat, xcat_i, xcat_l, xcat_r, xcat_n]) (fun ls hl => ?_)
            refine lv_iload hx hb dMO_stops_179 (lv_at hl 0 rfl) ?_
            refine lv_if_eq (tgt := 191) hx hb dMO_stops_181 rfl (fun hc => absurd hc (by decide)) (fun _ => ?_)
            refine lv_iload hx hb dMO_stops_184 (lv_at hl 5 rfl) ?_
            refine lv_iconst (v := 1) hx hb dMO_stops_186 (by decide) ?_
            refine lv_iadd hx hb dMO_stops_187 ?_
            refine lv_goto (tgt := 193) hx hb dMO_stops_188 rfl ?_
            refine lv_istore (i := 4) (lv' := [(4, .int (x4 + 1)), (5, .int 1), (7, .int 0), (6, .int (f8 ((12 * x1) + x4).toNatClampNeg)), (0, .ref x0), (1, .int x1)]) hx hb dMO_stops_193 hl (by decide) (by first | rfl | simp [va_rf_cat, xcat_i, xcat_l, xcat_r, xcat_n]) (fun ls hl => ?_)
            refine lv_goto (tgt := 60) hx hb dMO_stops_195 rfl ?_
            exact ih60 _ x0 x1 (x4 + 1) 1 _ _ _ (lv_sub hl [4, 5, 0, 1] rfl) hw h
          · replace h := h.2 hc
            refine lv_aload_n hx hb dMO_stops_99 rfl (lv_at hl 1 rfl) ?_
            obtain ⟨v13, hv, h⟩ := h
            refine xw_getR (C := RMO) (T := TMO) (N := 17) (ref := RMO) hx hb hts inMO hown hK hw rfl 3 (by decide) (hts _ mw_285) (fun _ h9 => h9) hv dMO_stops_100 ?_
            refine lv_iload hx hb dMO_stops_103 (lv_at hl 0 rfl) ?_
            obtain ⟨a14, rfl, h⟩ := h
            obtain ⟨n15, f16, ha, hin9, h⟩ := h
            refine xw_iald hx hb hK hw 1 rfl ha hin9 dMO_stops_105 ?_
            refine lv_iconst (v := 3) hx hb dMO_stops_106 (by decide) ?_
            refine lv_icmp_ne (tgt := 131) hx hb dMO_stops_107 rfl (fun hc => ?_) (fun hc => ?_)
            · replace h := h.1 hc
              refine lv_iconst (v := 0) hx hb dMO_stops_131 (by decide) ?_
              refine lv_istore (i := 7) (lv' := [(7, .int 0), (6, .int (f8 ((12 * x1) + x4).toNatClampNeg)), (0, .ref x0), (1, .int x1), (4, .int x4), (5, .int x5)]) hx hb dMO_stops_132 hl (by decide) (by first | rfl | simp [va_rf_cat, xcat_i, xcat_l, xcat_r, xcat_n]) (fun ls hl => ?_)
              refine lv_iload hx hb dMO_stops_134 (lv_at hl 0 rfl) ?_
              refine lv_if_eq (tgt := 172) hx hb dMO_stops_136 rfl (fun _ => ?_) (fun hc => absurd hc (by decide))
              refine lv_iconst (v := 1) hx hb dMO_stops_172 (by decide) ?_
              refine lv_goto (tgt := 177) hx hb dMO_stops_173 rfl ?_
              refine lv_istore (i := 5) (lv' := [(5, .int 1), (7, .int 0), (6, .int (f8 ((12 * x1) + x4).toNatClampNeg)), (0, .ref x0), (1, .int x1), (4, .int x4)]) hx hb dMO_stops_177 hl (by decide) (by first | rfl | simp [va_rf_cat, xcat_i, xcat_l, xcat_r, xcat_n]) (fun ls hl => ?_)
              refine lv_iload hx hb dMO_stops_179 (lv_at hl 0 rfl) ?_
              refine lv_if_eq (tgt := 191) hx hb dMO_stops_181 rfl (fun hc => absurd hc (by decide)) (fun _ => ?_)
              refine lv_iload hx hb dMO_stops_184 (lv_at hl 5 rfl) ?_
              refine lv_iconst (v := 1) hx hb dMO_stops_186 (by decide) ?_
              refine lv_iadd hx hb dMO_stops_187 ?_
              refine lv_goto (tgt := 193) hx hb dMO_stops_188 rfl ?_
              refine lv_istore (i := 4) (lv' := [(4, .int (x4 + 1)), (5, .int 1), (7, .int 0), (6, .int (f8 ((12 * x1) + x4).toNatClampNeg)), (0, .ref x0), (1, .int x1)]) hx hb dMO_stops_193 hl (by decide) (by first | rfl | simp [va_rf_cat, xcat_i, xcat_l, xcat_r, xcat_n]) (fun ls hl => ?_)
              refine lv_goto (tgt := 60) hx hb dMO_stops_195 rfl ?_
              exact ih60 _ x0 x1 (x4 + 1) 1 _ _ _ (lv_sub hl [4, 5, 0, 1] rfl) hw h
            · replace h := h.2 hc
              refine lv_aload_n hx hb dMO_stops_110 rfl (lv_at hl 1 rfl) ?_
              obtain ⟨v17, hv, h⟩ := h
              refine xw_getR (C := RMO) (T := TMO) (N := 17) (ref := RMO) hx hb hts inMO hown hK hw rfl 13 (by decide) (hts _ mw_274) (fun _ h9 => h9) hv dMO_stops_111 ?_
              refine lv_bipush (v := 12) hx hb dMO_stops_114 (by decide) ?_
              refine lv_iload_n hx hb dMO_stops_116 rfl (lv_at hl 2 rfl) ?_
              refine lv_imul hx hb dMO_stops_117 ?_
              refine lv_iload hx hb dMO_stops_118 (lv_at hl 3 rfl) ?_
              refine lv_iadd hx hb dMO_stops_120 ?_
              obtain ⟨a18, rfl, h⟩ := h
              obtain ⟨n19, f20, ha, hin9, h⟩ := h
              refine xw_lald hx hb hK hw 2 rfl ha hin9 dMO_stops_121 ?_
              refine lv_lconst (v := 0) hx hb dMO_stops_122 (by decide) ?_
              refine xl_lc_ge (tgt := 131) hx hb dMO_stops_123 dMO_stops_124 rfl (fun hc => ?_) (fun hc => ?_)
              · replace h := h.1 hc
                refine lv_iconst (v := 0) hx hb dMO_stops_131 (by decide) ?_
                refine lv_istore (i := 7) (lv' := [(7, .int 0), (6, .int (f8 ((12 * x1) + x4).toNatClampNeg)), (0, .ref x0), (1, .int x1), (4, .int x4), (5, .int x5)]) hx hb dMO_stops_132 hl (by decide) (by first | rfl | simp [va_rf_cat, xcat_i, xcat_l, xcat_r, xcat_n]) (fun ls hl => ?_)
                refine lv_iload hx hb dMO_stops_134 (lv_at hl 0 rfl) ?_
                refine lv_if_eq (tgt := 172) hx hb dMO_stops_136 rfl (fun _ => ?_) (fun hc => absurd hc (by decide))
                refine lv_iconst (v := 1) hx hb dMO_stops_172 (by decide) ?_
                refine lv_goto (tgt := 177) hx hb dMO_stops_173 rfl ?_
                refine lv_istore (i := 5) (lv' := [(5, .int 1), (7, .int 0), (6, .int (f8 ((12 * x1) + x4).toNatClampNeg)), (0, .ref x0), (1, .int x1), (4, .int x4)]) hx hb dMO_stops_177 hl (by decide) (by first | rfl | simp [va_rf_cat, xcat_i, xcat_l, xcat_r, xcat_n]) (fun ls hl => ?_)
                refine lv_iload hx hb dMO_stops_179 (lv_at hl 0 rfl) ?_
                refine lv_if_eq (tgt := 191) hx hb dMO_stops_181 rfl (fun hc => absurd hc (by decide)) (fun _ => ?_)
                refine lv_iload hx hb dMO_stops_184 (lv_at hl 5 rfl) ?_
                refine lv_iconst (v := 1) hx hb dMO_stops_186 (by decide) ?_
                refine lv_iadd hx hb dMO_stops_187 ?_
                refine lv_goto (tgt := 193) hx hb dMO_stops_188 rfl ?_
                refine lv_istore (i := 4) (lv' := [(4, .int (x4 + 1)), (5, .int 1), (7, .int 0), (6, .int (f8 ((12 * x1) + x4).toNatClampNeg)), (0, .ref x0), (1, .int x1)]) hx hb dMO_stops_193 hl (by decide) (by first | rfl | simp [va_rf_cat, xcat_i, xcat_l, xcat_r, xcat_n]) (fun ls hl => ?_)
                refine lv_goto (tgt := 60) hx hb dMO_stops_195 rfl ?_
                exact ih60 _ x0 x1 (x4 + 1) 1 _ _ _ (lv_sub hl [4, 5, 0, 1] rfl) hw h
              · replace h := h.2 hc
                refine lv_iconst (v := 1) hx hb dMO_stops_127 (by decide) ?_
                refine lv_goto (tgt := 132) hx hb dMO_stops_128 rfl ?_
                refine lv_istore (i := 7) (lv' := [(7, .int 1), (6, .int (f8 ((12 * x1) + x4).toNatClampNeg)), (0, .ref x0), (1, .int x1), (4, .int x4), (5, .int x5)]) hx hb dMO_stops_132 hl (by decide) (by first | rfl | simp [va_rf_cat, xcat_i, xcat_l, xcat_r, xcat_n]) (fun ls hl => ?_)
                refine lv_iload hx hb dMO_stops_134 (lv_at hl 0 rfl) ?_
                refine lv_if_eq (tgt := 172) hx hb dMO_stops_136 rfl (fun hc => absurd hc (by decide)) (fun _ => ?_)
                refine lv_aload_n hx hb dMO_stops_139 rfl (lv_at hl 2 rfl) ?_
                refine lv_iload hx hb dMO_stops_140 (lv_at hl 1 rfl) ?_
                refine lv_ldc2 (v := 9223372036854775807) hx hb hown (hts _ mw_328) dMO_stops_142 ?_
                obtain ⟨⟨fs, hk⟩, h⟩ := h
                have hcall := h
                clear h
                refine xw_calll (va_runV (As := [.int (f8 ((12 * x1) + x4).toNatClampNeg), .long 9223372036854775807]) (rest := []) ⟨hx, hb, hml, hown, hts⟩ (c_MO_balanceOf l D E A _ w x0 (f8 ((12 * x1) + x4).toNatClampNeg) 9223372036854775807 hcall) (cwV 2 hts (xG_V mw_324 mw_325 mw_326 mw_294 mw_327) rfl rfl rfl (by decide +kernel) ⟨(Nat.le_of_ble_eq_true rfl), (Nat.le_of_ble_eq_true rfl)⟩) (xw_preV (ci := 5) hw hK hE rfl hk) rfl rfl hl.1 rfl (lv_room (by first | exact Nat.le_of_ble_eq_true rfl | simp [va_rf_cat, xcat_i, xcat_l, xcat_r, xcat_n])) dMO_stops_145 ⟨(Nat.le_of_ble_eq_true rfl), (Nat.le_of_ble_eq_true rfl)⟩) hw (fun r21 w22 H locs h hw => ?_)
                clear hcall
                refine lv_aload_n hx hb dMO_stops_148 rfl (lv_at hl 2 rfl) ?_
                refine lv_iload_n hx hb dMO_stops_149 rfl (lv_at hl 3 rfl) ?_
                refine lv_iload hx hb dMO_stops_150 (lv_at hl 4 rfl) ?_
                refine lv_iconst (v := 1) hx hb dMO_stops_152 (by decide) ?_
                refine lv_iadd hx hb dMO_stops_153 ?_
                refine lv_iload hx hb dMO_stops_154 (lv_at hl 1 rfl) ?_
                obtain ⟨⟨fs, hk⟩, h⟩ := h
                have hcall := h
                clear h
                refine xw_calll (va_runV (As := [.int x1, .int (x4 + 1), .int (f8 ((12 * x1) + x4).toNatClampNeg)]) (rest := [.long r21]) ⟨hx, hb, hml, hown, hts⟩ (c_MO_part l D E A _ w22 x0 x1 (x4 + 1) (f8 ((12 * x1) + x4).toNatClampNeg) hcall) (cwV 3 hts (xG_V mw_319 mw_320 mw_321 mw_294 mw_322) rfl rfl rfl (by decide +kernel) ⟨(Nat.le_of_ble_eq_true rfl), (Nat.le_of_ble_eq_true rfl)⟩) (xw_preV (ci := 5) hw hK hE rfl hk) rfl rfl hl.1 rfl (lv_room (by first | exact Nat.le_of_ble_eq_true rfl | simp [va_rf_cat, xcat_i, xcat_l, xcat_r, xcat_n])) dMO_stops_156 ⟨(Nat.le_of_ble_eq_true rfl), (Nat.le_of_ble_eq_true rfl)⟩) hw (fun r23 w24 H locs h hw => ?_)
                clear hcall
                refine lv_ladd hx hb dMO_stops_159 ?_
                refine lv_aload_n hx hb dMO_stops_160 rfl (lv_at hl 2 rfl) ?_
                obtain ⟨v25, hv, h⟩ := h
                refine xw_getR (C := RMO) (T := TMO) (N := 17) (ref := RMO) hx hb hts inMO hown hK hw rfl 4 (by decide) (hts _ mw_284) (fun _ h9 => h9) hv dMO_stops_161 ?_
                refine lv_iload hx hb dMO_stops_164 (lv_at hl 1 rfl) ?_
                obtain ⟨a26, rfl, h⟩ := h
                obtain ⟨n27, f28, ha, hin9, h⟩ := h
                refine xw_lald hx hb hK hw 2 rfl ha hin9 dMO_stops_166 ?_
                refine lv_lneg hx hb dMO_stops_167 ?_
                refine xl_lc_lt (tgt := 176) hx hb dMO_stops_168 dMO_stops_169 rfl (fun hc => ?_) (fun hc => ?_)
                · replace h := h.1 hc
                  refine lv_iconst (v := 0) hx hb dMO_stops_176 (by decide) ?_
                  refine lv_istore (i := 5) (lv' := [(5, .int 0), (7, .int 1), (6, .int (f8 ((12 * x1) + x4).toNatClampNeg)), (0, .ref x0), (1, .int x1), (4, .int x4)]) hx hb dMO_stops_177 hl (by decide) (by first | rfl | simp [va_rf_cat, xcat_i, xcat_l, xcat_r, xcat_n]) (fun ls hl => ?_)
                  refine lv_iload hx hb dMO_stops_179 (lv_at hl 0 rfl) ?_
                  refine lv_if_eq (tgt := 191) hx hb dMO_stops_181 rfl (fun _ => ?_) (fun hc => absurd hc (by decide))
                  refine lv_iload hx hb dMO_stops_191 (lv_at hl 5 rfl) ?_
                  refine lv_istore (i := 4) (lv' := [(4, .int x4), (5, .int 0), (7, .int 1), (6, .int (f8 ((12 * x1) + x4).toNatClampNeg)), (0, .ref x0), (1, .int x1)]) hx hb dMO_stops_193 hl (by decide) (by first | rfl | simp [va_rf_cat, xcat_i, xcat_l, xcat_r, xcat_n]) (fun ls hl => ?_)
                  refine lv_goto (tgt := 60) hx hb dMO_stops_195 rfl ?_
                  exact ih60 _ x0 x1 x4 0 _ _ _ (lv_sub hl [4, 5, 0, 1] rfl) hw h
                · replace h := h.2 hc
                  refine lv_iconst (v := 1) hx hb dMO_stops_172 (by decide) ?_
                  refine lv_goto (tgt := 177) hx hb dMO_stops_173 rfl ?_
                  refine lv_istore (i := 5) (lv' := [(5, .int 1), (7, .int 1), (6, .int (f8 ((12 * x1) + x4).toNatClampNeg)), (0, .ref x0), (1, .int x1), (4, .int x4)]) hx hb dMO_stops_177 hl (by decide) (by first | rfl | simp [va_rf_cat, xcat_i, xcat_l, xcat_r, xcat_n]) (fun ls hl => ?_)
                  refine lv_iload hx hb dMO_stops_179 (lv_at hl 0 rfl) ?_
                  refine lv_if_eq (tgt := 191) hx hb dMO_stops_181 rfl (fun hc => absurd hc (by decide)) (fun _ => ?_)
                  refine lv_iload hx hb dMO_stops_184 (lv_at hl 5 rfl) ?_
                  refine lv_iconst (v := 1) hx hb dMO_stops_186 (by decide) ?_
                  refine lv_iadd hx hb dMO_stops_187 ?_
                  refine lv_goto (tgt := 193) hx hb dMO_stops_188 rfl ?_
                  refine lv_istore (i := 4) (lv' := [(4, .int (x4 + 1)), (5, .int 1), (7, .int 1), (6, .int (f8 ((12 * x1) + x4).toNatClampNeg)), (0, .ref x0), (1, .int x1)]) hx hb dMO_stops_193 hl (by decide) (by first | rfl | simp [va_rf_cat, xcat_i, xcat_l, xcat_r, xcat_n]) (fun ls hl => ?_)
                  refine lv_goto (tgt := 60) hx hb dMO_stops_195 rfl ?_
                  exact ih60 _ x0 x1 (x4 + 1) 1 _ _ _ (lv_sub hl [4, 5, 0, 1] rfl) hw h
  have lo_5 : ∀ (n5 : Nat) (w : xw_T) (x0 : Nat) (x1 : Int32) (x2 : Int64) (x4 : Int32) (H : Heap) (locs : List Loc) (ls : Array Slot), lv_has ls 8 [(0, .ref x0), (1, .int x1), (2, .long x2), (4, .int x4)] → xw_S D vwCl A s.heap w H locs → wl_MO_stops_5 E post n5 w x0 x1 x2 x4 → W p l e (headSpec (xW yMO_stops cMO_stops 8 (some (.int))) ({ frames := 2, cells := 0, slots := 0, locals := 53 } : Room)).room s m ([.ref h0, .int p0] : List Value).toArray below meth c H locs 0 0 (MQ below (va_Qi post (xB D A) A) ([.ref h0, .int p0] : List Value).toArray s 0 0 A) (F0 m 5 ls []) := by
    intro n5
    induction n5 with
    | zero => intro w x0 x1 x2 x4 H locs ls hl hw h; exact h.elim
    | succ n5 ih5 =>
      intro w x0 x1 x2 x4 H locs ls hl hw h
      dsimp only [wl_MO_stops_5] at h
      refine lv_iload hx hb dMO_stops_5 (lv_at hl 3 rfl) ?_
      refine lv_aload_n hx hb dMO_stops_7 rfl (lv_at hl 0 rfl) ?_
      obtain ⟨v29, hv, h⟩ := h
      refine xw_getR (C := RMO) (T := TMO) (N := 17) (ref := RMO) hx hb hts inMO hown hK hw rfl 11 (by decide) (hts _ mw_277) (fun _ h9 => h9) hv dMO_stops_8 ?_
      refine lv_iload_n hx hb dMO_stops_11 rfl (lv_at hl 1 rfl) ?_
      obtain ⟨a30, rfl, h⟩ := h
      obtain ⟨n31, f32, ha, hin9, h⟩ := h
      refine xw_iald hx hb hK hw 1 rfl ha hin9 dMO_stops_12 ?_
      refine lv_icmp_ge (tgt := 37) hx hb dMO_stops_13 rfl (fun hc => ?_) (fun hc => ?_)
      · replace h := h.1 hc
        refine lv_aload_n hx hb dMO_stops_37 rfl (lv_at hl 0 rfl) ?_
        obtain ⟨v33, hv, h⟩ := h
        refine xw_getR (C := RMO) (T := TMO) (N := 17) (ref := RMO) hx hb hts inMO hown hK hw rfl 11 (by decide) (hts _ mw_277) (fun _ h9 => h9) hv dMO_stops_38 ?_
        refine lv_iload_n hx hb dMO_stops_41 rfl (lv_at hl 1 rfl) ?_
        obtain ⟨a34, rfl, h⟩ := h
        obtain ⟨n35, f36, ha, hin9, h⟩ := h
        refine xw_iald hx hb hK hw 1 rfl ha hin9 dMO_stops_42 ?_
        refine lv_if_eq (tgt := 52) hx hb dMO_stops_43 rfl (fun hc => ?_) (fun hc => ?_)
        · replace h := h.1 hc
          refine lv_iconst (v := (-1)) hx hb dMO_stops_52 (by decide) ?_
          refine W.widen (k := 0) (n := 0) (Nat.le_of_ble_eq_true rfl) (Nat.le_of_ble_eq_true rfl) ?_
          exact xw_iret hx hb hr hlocks hw h dMO_stops_53
        · replace h := h.2 hc
          refine lv_lload_n hx hb dMO_stops_46 rfl (lv_at hl 2 rfl) ?_
          refine lv_lconst (v := 0) hx hb dMO_stops_47 (by decide) ?_
          refine xl_lc_eq (tgt := 54) hx hb dMO_stops_48 dMO_stops_49 rfl (fun hc => ?_) (fun hc => ?_)
          · replace h := h.1 hc
            refine lv_iconst (v := 0) hx hb dMO_stops_54 (by decide) ?_
            refine lv_istore (i := 4) (lv' := [(4, .int 0), (0, .ref x0), (1, .int x1), (2, .long x2)]) hx hb dMO_stops_55 hl (by decide) (by first | rfl | simp [va_rf_cat, xcat_i, xcat_l, xcat_r, xcat_n]) (fun ls hl => ?_)
            refine lv_iconst (v := 1) hx hb dMO_stops_57 (by decide) ?_
            refine lv_istore (i := 5) (lv' := [(5, .int 1), (4, .int 0), (0, .ref x0), (1, .int x1), (2, .long x2)]) hx hb dMO_stops_58 hl (by decide) (by first | rfl | simp [va_rf_cat, xcat_i, xcat_l, xcat_r, xcat_n]) (fun ls hl => ?_)
            obtain ⟨n60, h⟩ := h
            refine W.widen (k := 0) (n := 0) (Nat.le_of_ble_eq_true rfl) (Nat.le_of_ble_eq_true rfl) ?_
            exact lo_60 n60 _ x0 x1 0 1 _ _ _ (lv_sub hl [2, 3, 1, 0] rfl) hw h
          · replace h := h.2 hc
            refine lv_iconst (v := (-1)) hx hb dMO_stops_52 (by decide) ?_
            refine W.widen (k := 0) (n := 0) (Nat.le_of_ble_eq_true rfl) (Nat.le_of_ble_eq_true rfl) ?_
            exact xw_iret hx hb hr hlocks hw h dMO_stops_53
      · replace h := h.2 hc
        refine lv_lload_n hx hb dMO_stops_16 rfl (lv_at hl 2 rfl) ?_
        refine lv_aload_n hx hb dMO_stops_17 rfl (lv_at hl 0 rfl) ?_
        obtain ⟨v37, hv, h⟩ := h
        refine xw_getR (C := RMO) (T := TMO) (N := 17) (ref := RMO) hx hb hts inMO hown hK hw rfl 13 (by decide) (hts _ mw_274) (fun _ h9 => h9) hv dMO_stops_18 ?_
        refine lv_bipush (v := 12) hx hb dMO_stops_21 (by decide) ?_
        refine lv_iload_n hx hb dMO_stops_23 rfl (lv_at hl 1 rfl) ?_
        refine lv_imul hx hb dMO_stops_24 ?_
        refine lv_iload hx hb dMO_stops_25 (lv_at hl 3 rfl) ?_
        refine lv_iadd hx hb dMO_stops_27 ?_
        obtain ⟨a38, rfl, h⟩ := h
        obtain ⟨n39, f40, ha, hin9, h⟩ := h
        refine xw_lald hx hb hK hw 2 rfl ha hin9 dMO_stops_28 ?_
        refine lv_ladd hx hb dMO_stops_29 ?_
        refine lv_lstore_n (i := 2) (lv' := [(2, .long (x2 + (f40 ((12 * x1) + x4).toNatClampNeg))), (0, .ref x0), (1, .int x1), (4, .int x4)]) hx hb dMO_stops_30 rfl hl (by decide) (by first | rfl | simp [va_rf_cat, xcat_i, xcat_l, xcat_r, xcat_n]) (fun ls hl => ?_)
        refine lv_iinc (k := 3) (v := x4 + 1) (lv' := [(4, .int (x4 + 1)), (2, .long (x2 + (f40 ((12 * x1) + x4).toNatClampNeg))), (0, .ref x0), (1, .int x1)]) hx hb dMO_stops_31 hl rfl rfl (by decide) (by first | rfl | simp [va_rf_cat, xcat_i, xcat_l, xcat_r, xcat_n]) (fun ls hl => ?_)
        refine lv_goto (tgt := 5) hx hb dMO_stops_34 rfl ?_
        exact ih5 _ x0 x1 (x2 + (f40 ((12 * x1) + x4).toNatClampNeg)) (x4 + 1) _ _ _ (lv_sub hl [2, 3, 1, 0] rfl) hw h
  refine xl_start (lvs := [(0, .ref h0), (1, .int p0)]) (by first | exact Nat.le_of_ble_eq_true rfl | simp [lg_sl, va_rf_cat, xcat_i, xcat_l, xcat_r, xcat_n]) (by first | rfl | simp [lv_args, va_rf_cat, xcat_i, xcat_l, xcat_r, xcat_n]) (fun ls hl => ?_)
  unfold wp_MO_stops at h
  refine lv_lconst (v := 0) hx hb dMO_stops_0 (by decide) ?_
  refine lv_lstore_n (i := 2) (lv' := [(2, .long 0), (0, .ref h0), (1, .int p0)]) hx hb dMO_stops_1 rfl hl (by decide) (by first | rfl | simp [va_rf_cat, xcat_i, xcat_l, xcat_r, xcat_n]) (fun ls hl => ?_)
  refine lv_iconst (v := 0) hx hb dMO_stops_2 (by decide) ?_
  refine lv_istore (i := 4) (lv' := [(4, .int 0), (2, .long 0), (0, .ref h0), (1, .int p0)]) hx hb dMO_stops_3 hl (by decide) (by first | rfl | simp [va_rf_cat, xcat_i, xcat_l, xcat_r, xcat_n]) (fun ls hl => ?_)
  obtain ⟨n5, h⟩ := h
  refine W.widen (k := 0) (n := 0) (Nat.le_of_ble_eq_true rfl) (Nat.le_of_ble_eq_true rfl) ?_
  exact lo_5 n5 _ h0 p0 0 0 _ _ _ (lv_sub hl [2, 3, 1, 0] rfl) hw h
def wp_MO_go (E : xE_T) (post : Int32 → xw_T → Prop) (w : xw_T) (h0 : Nat) (p0 : Int32) : Prop := (∃ fs, w h0 = some (.inr (5, fs))) ∧ wp_MO_stops E (fun r1 w2 => ∃ v3, xgR w2 h0 5 6 = some v3 ∧ (∃ a4 : Nat, v3 = some a4 ∧ (∃ n5 f6, xaI w2 a4 (E.1 1) = some (n5, f6) ∧ vp_in p0 n5 ∧ ∀ w7, w7 = va_up w2 a4 (some (xcI (E.1 1) n5 (upd f6 p0.toNatClampNeg 2))) → ((r1 < 0 → (post (-1) w7)) ∧ (¬ r1 < 0 → (∃ v8, xgR w7 h0 5 11 = some v8 ∧ (∃ a9 : Nat, v8 = some a9 ∧ (∃ n10 f11, xaI w7 a9 (E.1 1) = some (n10, f11) ∧ vp_in p0 n10 ∧ (((f11 p0.toNatClampNeg) ≤ r1 → (∃ v12, xgR w7 h0 5 8 = some v12 ∧ (∃ a13 : Nat, v12 = some a13 ∧ (∃ n14 f15, xaI w7 a13 (E.1 3) = some (n14, f15) ∧ vp_in p0 n14 ∧ (((f15 p0.toNatClampNeg) = 0 → (∃ v16, xgR w7 h0 5 6 = some v16 ∧ (∃ a17 : Nat, v16 = some a17 ∧ (∃ n18 f19, xaI w7 a17 (E.1 1) = some (n18, f19) ∧ vp_in p0 n18 ∧ ∀ w20, w20 = va_up w7 a17 (some (xcI (E.1 1) n18 (upd f19 p0.toNatClampNeg 1))) → (∃ v21, xgR w20 h0 5 15 = some v21 ∧ (∃ v22, xgI w20 h0 5 14 = some v22 ∧ (∃ a23 : Nat, v21 = some a23 ∧ (∃ n24 f25, xaI w20 a23 (E.1 1) = some (n24, f25) ∧ vp_in v22 n24 ∧ ∀ w26, w26 = va_up w20 a23 (some (xcI (E.1 1) n24 (upd f25 v22.toNatClampNeg p0))) → (∃ v27, xgI w26 h0 5 14 = some v27 ∧ ((∃ v0, xg w26 h0 5 14 = some v0) ∧ ∀ w28, w28 = xp w26 h0 14 (.int (v27 + 1)) → (post 1 w28))))))))))) ∧ (¬ (f15 p0.toNatClampNeg) = 0 → (post 0 w7))))))) ∧ (¬ (f11 p0.toNatClampNeg) ≤ r1 → ((r1 = 0 → (post (-1) w7)) ∧ (¬ r1 = 0 → (∃ v29, xgR w7 h0 5 8 = some v29 ∧ (∃ a30 : Nat, v29 = some a30 ∧ (∃ n31 f32, xaI w7 a30 (E.1 3) = some (n31, f32) ∧ vp_in p0 n31 ∧ ((¬ (f32 p0.toNatClampNeg) = 0 → (∃ v33, xgR w7 h0 5 8 = some v33 ∧ (∃ a34 : Nat, v33 = some a34 ∧ (∃ n35 f36, xaI w7 a34 (E.1 3) = some (n35, f36) ∧ vp_in p0 n35 ∧ (((f36 p0.toNatClampNeg) = 0 → (∃ v37, xgR w7 h0 5 6 = some v37 ∧ (∃ a38 : Nat, v37 = some a38 ∧ (∃ n39 f40, xaI w7 a38 (E.1 1) = some (n39, f40) ∧ vp_in p0 n39 ∧ ∀ w41, w41 = va_up w7 a38 (some (xcI (E.1 1) n39 (upd f40 p0.toNatClampNeg 1))) → (∃ v42, xgR w41 h0 5 15 = some v42 ∧ (∃ v43, xgI w41 h0 5 14 = some v43 ∧ (∃ a44 : Nat, v42 = some a44 ∧ (∃ n45 f46, xaI w41 a44 (E.1 1) = some (n45, f46) ∧ vp_in v43 n45 ∧ ∀ w47, w47 = va_up w41 a44 (some (xcI (E.1 1) n45 (upd f46 v43.toNatClampNeg p0))) → (∃ v48, xgI w47 h0 5 14 = some v48 ∧ ((∃ v0, xg w47 h0 5 14 = some v0) ∧ ∀ w49, w49 = xp w47 h0 14 (.int (v48 + 1)) → (post 1 w49))))))))))) ∧ (¬ (f36 p0.toNatClampNeg) = 0 → (post 0 w7))))))) ∧ ((f32 p0.toNatClampNeg) = 0 → (post (-1) w7)))))))))))))))))) w h0 p0
set_option maxHeartbeats 4000000 in
set_option maxRecDepth 100000 in
theorem c_MO_go (l : Launch) (D : va_G) (E : xE_T) (A : Nat → Prop) (post : Int32 → xw_T → Prop) (w : xw_T) (h0 : Nat) (p0 : Int32) (h : wp_MO_go E post w h0 p0) : Met l yMO_go (xW yMO_go cMO_go 3 (some (.int))) ({ frames := 3, cells := 0, slots := 0, locals := 80 } : Room) (va_Pc [.ref h0, .int p0] (xP D E A w)) (va_Qi post (xB D A) A) 0 0 A := by
  refine Met.ofW (cc := cMO_go) (maxL := 3) (ret := (some (.int))) (by decide) rfl ?_
  intro p e s m args below meth c s₁ B hml hv
  obtain ⟨rfl, hw, hK, hE⟩ := hv
  have hx := B.exec
  have hb := B.bytes
  have hr := B.returns
  have hts : ∀ w ∈ xTB, w.before _ s = true := fun w hw => atoms_spec (ws := xW yMO_go cMO_go 3 (some (.int))) B.pre w (List.mem_cons_of_mem _ hw)
  have hown : s.vm.findClass RMO = some m.cls := findClass_of_methodNamed B.named
  have hlocks := B.notSynchronized
  have hw : xw_S D vwCl A s.heap w s.heap [] := xw_S0 hw
  refine xl_start (lvs := [(0, .ref h0), (1, .int p0)]) (by first | exact Nat.le_of_ble_eq_true rfl | simp [lg_sl, va_rf_cat, xcat_i, xcat_l, xcat_r, xcat_n]) (by first | rfl | simp [lv_args, va_rf_cat, xcat_i, xcat_l, xcat_r, xcat_n]) (fun ls hl => ?_)
  unfold wp_MO_go at h
  refine lv_aload_n hx hb dMO_go_0 rfl (lv_at hl 0 rfl) ?_
  refine lv_iload_n hx hb dMO_go_1 rfl (lv_at hl 1 rfl) ?_
  obtain ⟨⟨fs, hk⟩, h⟩ := h
  have hcall := h
  clear h
  refine xw_calli (va_runV (As := [.int p0]) (rest := []) ⟨hx, hb, hml, hown, hts⟩ (c_MO_stops l D E A _ w h0 p0 hcall) (cwV 1 hts (xG_V mw_329 mw_330 mw_331 mw_294 mw_332) rfl rfl rfl (by decide +kernel) ⟨(Nat.le_of_ble_eq_true rfl), (Nat.le_of_ble_eq_true rfl)⟩) (xw_preV (ci := 5) hw hK hE rfl hk) rfl rfl hl.1 rfl (lv_room (by first | exact Nat.le_of_ble_eq_true rfl | simp [va_rf_cat, xcat_i, xcat_l, xcat_r, xcat_n])) dMO_go_2 ⟨(Nat.le_of_ble_eq_true rfl), (Nat.le_of_ble_eq_true rfl)⟩) hw (fun r1 w2 H locs h hw => ?_)
  clear hcall
  refine lv_istore_n (i := 2) (lv' := [(2, .int r1), (0, .ref h0), (1, .int p0)]) hx hb dMO_go_5 rfl hl (by decide) (by first | rfl | simp [va_rf_cat, xcat_i, xcat_l, xcat_r, xcat_n]) (fun ls hl => ?_)
  refine lv_aload_n hx hb dMO_go_6 rfl (lv_at hl 1 rfl) ?_
  obtain ⟨v3, hv, h⟩ := h
  refine xw_getR (C := RMO) (T := TMO) (N := 17) (ref := RMO) hx hb hts inMO hown hK hw rfl 6 (by decide) (hts _ mw_283) (fun _ h9 => h9) hv dMO_go_7 ?_
  refine lv_iload_n hx hb dMO_go_10 rfl (lv_at hl 2 rfl) ?_
  refine lv_iconst (v := 2) hx hb dMO_go_11 (by decide) ?_
  obtain ⟨a4, rfl, h⟩ := h
  obtain ⟨n5, f6, ha, hin9, h⟩ := h
  refine xw_iast hx hb hK hw 1 rfl ha hin9 dMO_go_12 (fun H locs hw => ?_)
  replace h := h _ rfl
  generalize va_up w2 a4 (some (xcI (E.1 1) n5 (upd f6 p0.toNatClampNeg 2))) = w7 at hw h
  refine lv_iload_n hx hb dMO_go_13 rfl (lv_at hl 0 rfl) ?_
  refine lv_if_lt (tgt := 40) hx hb dMO_go_14 rfl (fun hc => ?_) (fun hc => ?_)
  · replace h := h.1 hc
    refine lv_iconst (v := (-1)) hx hb dMO_go_40 (by decide) ?_
    refine W.widen (k := 0) (n := 0) (Nat.le_of_ble_eq_true rfl) (Nat.le_of_ble_eq_true rfl) ?_
    exact xw_iret hx hb hr hlocks hw h dMO_go_41
  · replace h := h.2 hc
    refine lv_iload_n hx hb dMO_go_17 rfl (lv_at hl 0 rfl) ?_
    refine lv_aload_n hx hb dMO_go_18 rfl (lv_at hl 1 rfl) ?_
    obtain ⟨v8, hv, h⟩ := h
    refine xw_getR (C := RMO) (T := TMO) (N := 17) (ref := RMO) hx hb hts inMO hown hK hw rfl 11 (by decide) (hts _ mw_277) (fun _ h9 => h9) hv dMO_go_19 ?_
    refine lv_iload_n hx hb dMO_go_22 rfl (lv_at hl 2 rfl) ?_
    obtain ⟨a9, rfl, h⟩ := h
    obtain ⟨n10, f11, ha, hin9, h⟩ := h
    refine xw_iald hx hb hK hw 1 rfl ha hin9 dMO_go_23 ?_
    refine lv_icmp_ge (tgt := 42) hx hb dMO_go_24 rfl (fun hc => ?_) (fun hc => ?_)
    · replace h := h.1 hc
      refine lv_aload_n hx hb dMO_go_42 rfl (lv_at hl 1 rfl) ?_
      obtain ⟨v12, hv, h⟩ := h
      refine xw_getR (C := RMO) (T := TMO) (N := 17) (ref := RMO) hx hb hts inMO hown hK hw rfl 8 (by decide) (hts _ mw_281) (fun _ h9 => h9) hv dMO_go_43 ?_
      refine lv_iload_n hx hb dMO_go_46 rfl (lv_at hl 2 rfl) ?_
      obtain ⟨a13, rfl, h⟩ := h
      obtain ⟨n14, f15, ha, hin9, h⟩ := h
      refine xw_zald hx hb hK hw 3 rfl ha hin9 dMO_go_47 ?_
      refine lv_if_eq (tgt := 53) hx hb dMO_go_48 rfl (fun hc => ?_) (fun hc => ?_)
      · replace h := h.1 hc
        refine lv_aload_n hx hb dMO_go_53 rfl (lv_at hl 1 rfl) ?_
        obtain ⟨v16, hv, h⟩ := h
        refine xw_getR (C := RMO) (T := TMO) (N := 17) (ref := RMO) hx hb hts inMO hown hK hw rfl 6 (by decide) (hts _ mw_283) (fun _ h9 => h9) hv dMO_go_54 ?_
        refine lv_iload_n hx hb dMO_go_57 rfl (lv_at hl 2 rfl) ?_
        refine lv_iconst (v := 1) hx hb dMO_go_58 (by decide) ?_
        obtain ⟨a17, rfl, h⟩ := h
        obtain ⟨n18, f19, ha, hin9, h⟩ := h
        refine xw_iast hx hb hK hw 1 rfl ha hin9 dMO_go_59 (fun H locs hw => ?_)
        replace h := h _ rfl
        generalize va_up w7 a17 (some (xcI (E.1 1) n18 (upd f19 p0.toNatClampNeg 1))) = w20 at hw h
        refine lv_aload_n hx hb dMO_go_60 rfl (lv_at hl 1 rfl) ?_
        obtain ⟨v21, hv, h⟩ := h
        refine xw_getR (C := RMO) (T := TMO) (N := 17) (ref := RMO) hx hb hts inMO hown hK hw rfl 15 (by decide) (hts _ mw_272) (fun _ h9 => h9) hv dMO_go_61 ?_
        refine lv_aload_n hx hb dMO_go_64 rfl (lv_at hl 1 rfl) ?_
        obtain ⟨v22, hv, h⟩ := h
        refine xw_getI (C := RMO) (T := TMO) (N := 17) (ref := RMO) hx hb hts inMO hown hK hw rfl 14 (by decide) (hts _ mw_323) (fun _ h9 => h9) hv dMO_go_65 ?_
        refine lv_iload_n hx hb dMO_go_68 rfl (lv_at hl 2 rfl) ?_
        obtain ⟨a23, rfl, h⟩ := h
        obtain ⟨n24, f25, ha, hin9, h⟩ := h
        refine xw_iast hx hb hK hw 1 rfl ha hin9 dMO_go_69 (fun H locs hw => ?_)
        replace h := h _ rfl
        generalize va_up w20 a23 (some (xcI (E.1 1) n24 (upd f25 v22.toNatClampNeg p0))) = w26 at hw h
        refine lv_aload_n hx hb dMO_go_70 rfl (lv_at hl 1 rfl) ?_
        refine lv_dup hx hb dMO_go_71 rfl ?_
        obtain ⟨v27, hv, h⟩ := h
        refine xw_getI (C := RMO) (T := TMO) (N := 17) (ref := RMO) hx hb hts inMO hown hK hw rfl 14 (by decide) (hts _ mw_323) (fun _ h9 => h9) hv dMO_go_72 ?_
        refine lv_iconst (v := 1) hx hb dMO_go_75 (by decide) ?_
        refine lv_iadd hx hb dMO_go_76 ?_
        obtain ⟨hv, h⟩ := h
        refine xw_put (ty := (.int)) (C := RMO) (T := TMO) (N := 17) (ref := RMO) hx hb hts inMO tyMO tyMO_ok nmMO hown hK hw rfl 14 (by decide) (hts _ mw_323) (fun _ h9 => h9) rfl (by decide +kernel) rfl rfl hv dMO_go_77 (fun H locs hw => ?_)
        replace h := h _ rfl
        generalize xp w26 h0 14 (.int (v27 + 1)) = w28 at hw h
        refine lv_iconst (v := 1) hx hb dMO_go_80 (by decide) ?_
        refine W.widen (k := 0) (n := 0) (Nat.le_of_ble_eq_true rfl) (Nat.le_of_ble_eq_true rfl) ?_
        exact xw_iret hx hb hr hlocks hw h dMO_go_81
      · replace h := h.2 hc
        refine lv_iconst (v := 0) hx hb dMO_go_51 (by decide) ?_
        refine W.widen (k := 0) (n := 0) (Nat.le_of_ble_eq_true rfl) (Nat.le_of_ble_eq_true rfl) ?_
        exact xw_iret hx hb hr hlocks hw h dMO_go_52
    · replace h := h.2 hc
      refine lv_iload_n hx hb dMO_go_27 rfl (lv_at hl 0 rfl) ?_
      refine lv_if_eq (tgt := 40) hx hb dMO_go_28 rfl (fun hc => ?_) (fun hc => ?_)
      · replace h := h.1 hc
        refine lv_iconst (v := (-1)) hx hb dMO_go_40 (by decide) ?_
        refine W.widen (k := 0) (n := 0) (Nat.le_of_ble_eq_true rfl) (Nat.le_of_ble_eq_true rfl) ?_
        exact xw_iret hx hb hr hlocks hw h dMO_go_41
      · replace h := h.2 hc
        refine lv_aload_n hx hb dMO_go_31 rfl (lv_at hl 1 rfl) ?_
        obtain ⟨v29, hv, h⟩ := h
        refine xw_getR (C := RMO) (T := TMO) (N := 17) (ref := RMO) hx hb hts inMO hown hK hw rfl 8 (by decide) (hts _ mw_281) (fun _ h9 => h9) hv dMO_go_32 ?_
        refine lv_iload_n hx hb dMO_go_35 rfl (lv_at hl 2 rfl) ?_
        obtain ⟨a30, rfl, h⟩ := h
        obtain ⟨n31, f32, ha, hin9, h⟩ := h
        refine xw_zald hx hb hK hw 3 rfl ha hin9 dMO_go_36 ?_
        refine lv_if_ne (tgt := 42) hx hb dMO_go_37 rfl (fun hc => ?_) (fun hc => ?_)
        · replace h := h.1 hc
          refine lv_aload_n hx hb dMO_go_42 rfl (lv_at hl 1 rfl) ?_
          obtain ⟨v33, hv, h⟩ := h
          refine xw_getR (C := RMO) (T := TMO) (N := 17) (ref := RMO) hx hb hts inMO hown hK hw rfl 8 (by decide) (hts _ mw_281) (fun _ h9 => h9) hv dMO_go_43 ?_
          refine lv_iload_n hx hb dMO_go_46 rfl (lv_at hl 2 rfl) ?_
          obtain ⟨a34, rfl, h⟩ := h
          obtain ⟨n35, f36, ha, hin9, h⟩ := h
          refine xw_zald hx hb hK hw 3 rfl ha hin9 dMO_go_47 ?_
          refine lv_if_eq (tgt := 53) hx hb dMO_go_48 rfl (fun hc => ?_) (fun hc => ?_)
          · replace h := h.1 hc
            refine lv_aload_n hx hb dMO_go_53 rfl (lv_at hl 1 rfl) ?_
            obtain ⟨v37, hv, h⟩ := h
            refine xw_getR (C := RMO) (T := TMO) (N := 17) (ref := RMO) hx hb hts inMO hown hK hw rfl 6 (by decide) (hts _ mw_283) (fun _ h9 => h9) hv dMO_go_54 ?_
            refine lv_iload_n hx hb dMO_go_57 rfl (lv_at hl 2 rfl) ?_
            refine lv_iconst (v := 1) hx hb dMO_go_58 (by decide) ?_
            obtain ⟨a38, rfl, h⟩ := h
            obtain ⟨n39, f40, ha, hin9, h⟩ := h
            refine xw_iast hx hb hK hw 1 rfl ha hin9 dMO_go_59 (fun H locs hw => ?_)
            replace h := h _ rfl
            generalize va_up w7 a38 (some (xcI (E.1 1) n39 (upd f40 p0.toNatClampNeg 1))) = w41 at hw h
            refine lv_aload_n hx hb dMO_go_60 rfl (lv_at hl 1 rfl) ?_
            obtain ⟨v42, hv, h⟩ := h
            refine xw_getR (C := RMO) (T := TMO) (N := 17) (ref := RMO) hx hb hts inMO hown hK hw rfl 15 (by decide) (hts _ mw_272) (fun _ h9 => h9) hv dMO_go_61 ?_
            refine lv_aload_n hx hb dMO_go_64 rfl (lv_at hl 1 rfl) ?_
            obtain ⟨v43, hv, h⟩ := h
            refine xw_getI (C := RMO) (T := TMO) (N := 17) (ref := RMO) hx hb hts inMO hown hK hw rfl 14 (by decide) (hts _ mw_323) (fun _ h9 => h9) hv dMO_go_65 ?_
            refine lv_iload_n hx hb dMO_go_68 rfl (lv_at hl 2 rfl) ?_
            obtain ⟨a44, rfl, h⟩ := h
            obtain ⟨n45, f46, ha, hin9, h⟩ := h
            refine xw_iast hx hb hK hw 1 rfl ha hin9 dMO_go_69 (fun H locs hw => ?_)
            replace h := h _ rfl
            generalize va_up w41 a44 (some (xcI (E.1 1) n45 (upd f46 v43.toNatClampNeg p0))) = w47 at hw h
            refine lv_aload_n hx hb dMO_go_70 rfl (lv_at hl 1 rfl) ?_
            refine lv_dup hx hb dMO_go_71 rfl ?_
            obtain ⟨v48, hv, h⟩ := h
            refine xw_getI (C := RMO) (T := TMO) (N := 17) (ref := RMO) hx hb hts inMO hown hK hw rfl 14 (by decide) (hts _ mw_323) (fun _ h9 => h9) hv dMO_go_72 ?_
            refine lv_iconst (v := 1) hx hb dMO_go_75 (by decide) ?_
            refine lv_iadd hx hb dMO_go_76 ?_
            obtain ⟨hv, h⟩ := h
            refine xw_put (ty := (.int)) (C := RMO) (T := TMO) (N := 17) (ref := RMO) hx hb hts inMO tyMO tyMO_ok nmMO hown hK hw rfl 14 (by decide) (hts _ mw_323) (fun _ h9 => h9) rfl (by decide +kernel) rfl rfl hv dMO_go_77 (fun H locs hw => ?_)
            replace h := h _ rfl
            generalize xp w47 h0 14 (.int (v48 + 1)) = w49 at hw h
            refine lv_iconst (v := 1) hx hb dMO_go_80 (by decide) ?_
            refine W.widen (k := 0) (n := 0) (Nat.le_of_ble_eq_true rfl) (Nat.le_of_ble_eq_true rfl) ?_
            exact xw_iret hx hb hr hlocks hw h dMO_go_81
          · replace h := h.2 hc
            refine lv_iconst (v := 0) hx hb dMO_go_51 (by decide) ?_
            refine W.widen (k := 0) (n := 0) (Nat.le_of_ble_eq_true rfl) (Nat.le_of_ble_eq_true rfl) ?_
            exact xw_iret hx hb hr hlocks hw h dMO_go_52
        · replace h := h.2 hc
          refine lv_iconst (v := (-1)) hx hb dMO_go_40 (by decide) ?_
          refine W.widen (k := 0) (n := 0) (Nat.le_of_ble_eq_true rfl) (Nat.le_of_ble_eq_true rfl) ?_
          exact xw_iret hx hb hr hlocks hw h dMO_go_41
def wp_MO_post (E : xE_T) (post : Int32 → xw_T → Prop) (w : xw_T) (h0 : Nat) (p0 : Int32) : Prop := (∃ v0, xg w h0 5 0 = some v0) ∧ ∀ w1, w1 = xp w h0 0 (.int 0) → ((∃ fs, w1 h0 = some (.inr (5, fs))) ∧ wp_MO_isBatch E (fun r2 w3 => (¬ r2 = 0 → (∃ v4, xgR w3 h0 5 6 = some v4 ∧ (∃ a5 : Nat, v4 = some a5 ∧ (∃ n6 f7, xaI w3 a5 (E.1 1) = some (n6, f7) ∧ vp_in p0 n6 ∧ ((¬ (f7 p0.toNatClampNeg) = 0 → (post (-2000000003) w3)) ∧ ((f7 p0.toNatClampNeg) = 0 → (∃ v8, xgR w3 h0 5 7 = some v8 ∧ (∃ a9 : Nat, v8 = some a9 ∧ (∃ n10 f11, xaL w3 a9 (E.1 2) = some (n10, f11) ∧ vp_in p0 n10 ∧ (∃ v12, xgL w3 h0 5 16 = some v12 ∧ ((v12 < (f11 p0.toNatClampNeg) → ((∃ fs, w3 h0 = some (.inr (5, fs))) ∧ wp_MO_go E (fun r13 w14 => (0 ≤ r13 → ((∃ v0, xg w14 h0 5 0 = some v0) ∧ ∀ w15, w15 = xp w14 h0 0 (.int 0) → ((0 ≤ r13 → (post r13 w15)) ∧ (¬ 0 ≤ r13 → (post 0 w15))))) ∧ (¬ 0 ≤ r13 → ((∃ v0, xg w14 h0 5 0 = some v0) ∧ ∀ w16, w16 = xp w14 h0 0 (.int 1) → ((0 ≤ r13 → (post r13 w16)) ∧ (¬ 0 ≤ r13 → (post 0 w16)))))) w3 h0 p0)) ∧ (¬ v12 < (f11 p0.toNatClampNeg) → (post (-2000000003) w3))))))))))))) ∧ (r2 = 0 → (post (-2000000001) w3))) w1 h0 p0)
set_option maxHeartbeats 4000000 in
set_option maxRecDepth 100000 in
theorem c_MO_post (l : Launch) (D : va_G) (E : xE_T) (A : Nat → Prop) (post : Int32 → xw_T → Prop) (w : xw_T) (h0 : Nat) (p0 : Int32) (h : wp_MO_post E post w h0 p0) : Met l yMO_post (xW yMO_post cMO_post 3 (some (.int))) ({ frames := 4, cells := 0, slots := 0, locals := 102 } : Room) (va_Pc [.ref h0, .int p0] (xP D E A w)) (va_Qi post (xB D A) A) 0 0 A := by
  refine Met.ofW (cc := cMO_post) (maxL := 3) (ret := (some (.int))) (by decide) rfl ?_
  intro p e s m args below meth c s₁ B hml hv
  obtain ⟨rfl, hw, hK, hE⟩ := hv
  have hx := B.exec
  have hb := B.bytes
  have hr := B.returns
  have hts : ∀ w ∈ xTB, w.before _ s = true := fun w hw => atoms_spec (ws := xW yMO_post cMO_post 3 (some (.int))) B.pre w (List.mem_cons_of_mem _ hw)
  have hown : s.vm.findClass RMO = some m.cls := findClass_of_methodNamed B.named
  have hlocks := B.notSynchronized
  have hw : xw_S D vwCl A s.heap w s.heap [] := xw_S0 hw
  refine xl_start (lvs := [(0, .ref h0), (1, .int p0)]) (by first | exact Nat.le_of_ble_eq_true rfl | simp [lg_sl, va_rf_cat, xcat_i, xcat_l, xcat_r, xcat_n]) (by first | rfl | simp [lv_args, va_rf_cat, xcat_i, xcat_l, xcat_r, xcat_n]) (fun ls hl => ?_)
  unfold wp_MO_post at h
  refine lv_aload_n hx hb dMO_post_0 rfl (lv_at hl 0 rfl) ?_
  refine lv_iconst (v := 0) hx hb dMO_post_1 (by decide) ?_
  obtain ⟨hv, h⟩ := h
  refine xw_put (ty := (.int)) (C := RMO) (T := TMO) (N := 17) (ref := RMO) hx hb hts inMO tyMO tyMO_ok nmMO hown hK hw rfl 0 (by decide) (hts _ mw_288) (fun _ h9 => h9) rfl (by decide +kernel) rfl rfl hv dMO_post_2 (fun H locs hw => ?_)
  replace h := h _ rfl
  generalize xp w h0 0 (.int 0) = w1 at hw h
  refine lv_aload_n hx hb dMO_post_5 rfl (lv_at hl 0 rfl) ?_
  refine lv_iload_n hx hb dMO_post_6 rfl (lv_at hl 1 rfl) ?_
  obtain ⟨⟨fs, hk⟩, h⟩ := h
  have hcall := h
  clear h
  refine xw_calli (va_runV (As := [.int p0]) (rest := []) ⟨hx, hb, hml, hown, hts⟩ (c_MO_isBatch l D E A _ w1 h0 p0 hcall) (cwV 1 hts (xG_V mw_315 mw_316 mw_317 mw_294 mw_318) rfl rfl rfl (by decide +kernel) ⟨(Nat.le_of_ble_eq_true rfl), (Nat.le_of_ble_eq_true rfl)⟩) (xw_preV (ci := 5) hw hK hE rfl hk) rfl rfl hl.1 rfl (lv_room (by first | exact Nat.le_of_ble_eq_true rfl | simp [va_rf_cat, xcat_i, xcat_l, xcat_r, xcat_n])) dMO_post_7 ⟨(Nat.le_of_ble_eq_true rfl), (Nat.le_of_ble_eq_true rfl)⟩) hw (fun r2 w3 H locs h hw => ?_)
  clear hcall
  refine lv_if_ne (tgt := 16) hx hb dMO_post_10 rfl (fun hc => ?_) (fun hc => ?_)
  · replace h := h.1 hc
    refine lv_aload_n hx hb dMO_post_16 rfl (lv_at hl 0 rfl) ?_
    obtain ⟨v4, hv, h⟩ := h
    refine xw_getR (C := RMO) (T := TMO) (N := 17) (ref := RMO) hx hb hts inMO hown hK hw rfl 6 (by decide) (hts _ mw_283) (fun _ h9 => h9) hv dMO_post_17 ?_
    refine lv_iload_n hx hb dMO_post_20 rfl (lv_at hl 1 rfl) ?_
    obtain ⟨a5, rfl, h⟩ := h
    obtain ⟨n6, f7, ha, hin9, h⟩ := h
    refine xw_iald hx hb hK hw 1 rfl ha hin9 dMO_post_21 ?_
    refine lv_if_ne (tgt := 39) hx hb dMO_post_22 rfl (fun hc => ?_) (fun hc => ?_)
    · replace h := h.1 hc
      refine lv_ldc (v := (-2000000003)) hx hb hown (hts _ mw_303) dMO_post_39 ?_
      refine W.widen (k := 0) (n := 0) (Nat.le_of_ble_eq_true rfl) (Nat.le_of_ble_eq_true rfl) ?_
      exact xw_iret hx hb hr hlocks hw h dMO_post_41
    · replace h := h.2 hc
      refine lv_aload_n hx hb dMO_post_25 rfl (lv_at hl 0 rfl) ?_
      obtain ⟨v8, hv, h⟩ := h
      refine xw_getR (C := RMO) (T := TMO) (N := 17) (ref := RMO) hx hb hts inMO hown hK hw rfl 7 (by decide) (hts _ mw_282) (fun _ h9 => h9) hv dMO_post_26 ?_
      refine lv_iload_n hx hb dMO_post_29 rfl (lv_at hl 1 rfl) ?_
      obtain ⟨a9, rfl, h⟩ := h
      obtain ⟨n10, f11, ha, hin9, h⟩ := h
      refine xw_lald hx hb hK hw 2 rfl ha hin9 dMO_post_30 ?_
      refine lv_aload_n hx hb dMO_post_31 rfl (lv_at hl 0 rfl) ?_
      obtain ⟨v12, hv, h⟩ := h
      refine xw_getL (C := RMO) (T := TMO) (N := 17) (ref := RMO) hx hb hts inMO hown hK hw rfl 16 (by decide) (hts _ mw_270) (fun _ h9 => h9) hv dMO_post_32 ?_
      refine xl_lc_gt (tgt := 42) hx hb dMO_post_35 dMO_post_36 rfl (fun hc => ?_) (fun hc => ?_)
      · replace h := h.1 hc
        refine lv_aload_n hx hb dMO_post_42 rfl (lv_at hl 0 rfl) ?_
        refine lv_iload_n hx hb dMO_post_43 rfl (lv_at hl 1 rfl) ?_
        obtain ⟨⟨fs, hk⟩, h⟩ := h
        have hcall := h
        clear h
        refine xw_calli (va_runV (As := [.int p0]) (rest := []) ⟨hx, hb, hml, hown, hts⟩ (c_MO_go l D E A _ w3 h0 p0 hcall) (cwV 1 hts (xG_V mw_333 mw_334 mw_335 mw_294 mw_336) rfl rfl rfl (by decide +kernel) ⟨(Nat.le_of_ble_eq_true rfl), (Nat.le_of_ble_eq_true rfl)⟩) (xw_preV (ci := 5) hw hK hE rfl hk) rfl rfl hl.1 rfl (lv_room (by first | exact Nat.le_of_ble_eq_true rfl | simp [va_rf_cat, xcat_i, xcat_l, xcat_r, xcat_n])) dMO_post_44 ⟨(Nat.le_of_ble_eq_true rfl), (Nat.le_of_ble_eq_true rfl)⟩) hw (fun r13 w14 H locs h hw => ?_)
        clear hcall
        refine lv_istore_n (i := 2) (lv' := [(2, .int r13), (0, .ref h0), (1, .int p0)]) hx hb dMO_post_47 rfl hl (by decide) (by first | rfl | simp [va_rf_cat, xcat_i, xcat_l, xcat_r, xcat_n]) (fun ls hl => ?_)
        refine lv_aload_n hx hb dMO_post_48 rfl (lv_at hl 1 rfl) ?_
        refine lv_iload_n hx hb dMO_post_49 rfl (lv_at hl 0 rfl) ?_
        refine lv_if_ge (tgt := 57) hx hb dMO_post_50 rfl (fun hc => ?_) (fun hc => ?_)
        · replace h := h.1 hc
          refine lv_iconst (v := 0) hx hb dMO_post_57 (by decide) ?_
          obtain ⟨hv, h⟩ := h
          refine xw_put (ty := (.int)) (C := RMO) (T := TMO) (N := 17) (ref := RMO) hx hb hts inMO tyMO tyMO_ok nmMO hown hK hw rfl 0 (by decide) (hts _ mw_288) (fun _ h9 => h9) rfl (by decide +kernel) rfl rfl hv dMO_post_58 (fun H locs hw => ?_)
          replace h := h _ rfl
          generalize xp w14 h0 0 (.int 0) = w15 at hw h
          refine lv_iload_n hx hb dMO_post_61 rfl (lv_at hl 0 rfl) ?_
          refine lv_if_ge (tgt := 69) hx hb dMO_post_62 rfl (fun hc => ?_) (fun hc => ?_)
          · replace h := h.1 hc
            refine lv_iload_n hx hb dMO_post_69 rfl (lv_at hl 0 rfl) ?_
            refine W.widen (k := 0) (n := 0) (Nat.le_of_ble_eq_true rfl) (Nat.le_of_ble_eq_true rfl) ?_
            exact xw_iret hx hb hr hlocks hw h dMO_post_70
          · replace h := h.2 hc
            refine lv_iconst (v := 0) hx hb dMO_post_65 (by decide) ?_
            refine lv_goto (tgt := 70) hx hb dMO_post_66 rfl ?_
            refine W.widen (k := 0) (n := 0) (Nat.le_of_ble_eq_true rfl) (Nat.le_of_ble_eq_true rfl) ?_
            exact xw_iret hx hb hr hlocks hw h dMO_post_70
        · replace h := h.2 hc
          refine lv_iconst (v := 1) hx hb dMO_post_53 (by decide) ?_
          refine lv_goto (tgt := 58) hx hb dMO_post_54 rfl ?_
          obtain ⟨hv, h⟩ := h
          refine xw_put (ty := (.int)) (C := RMO) (T := TMO) (N := 17) (ref := RMO) hx hb hts inMO tyMO tyMO_ok nmMO hown hK hw rfl 0 (by decide) (hts _ mw_288) (fun _ h9 => h9) rfl (by decide +kernel) rfl rfl hv dMO_post_58 (fun H locs hw => ?_)
          replace h := h _ rfl
          generalize xp w14 h0 0 (.int 1) = w16 at hw h
          refine lv_iload_n hx hb dMO_post_61 rfl (lv_at hl 0 rfl) ?_
          refine lv_if_ge (tgt := 69) hx hb dMO_post_62 rfl (fun hc => ?_) (fun hc => ?_)
          · replace h := h.1 hc
            refine lv_iload_n hx hb dMO_post_69 rfl (lv_at hl 0 rfl) ?_
            refine W.widen (k := 0) (n := 0) (Nat.le_of_ble_eq_true rfl) (Nat.le_of_ble_eq_true rfl) ?_
            exact xw_iret hx hb hr hlocks hw h dMO_post_70
          · replace h := h.2 hc
            refine lv_iconst (v := 0) hx hb dMO_post_65 (by decide) ?_
            refine lv_goto (tgt := 70) hx hb dMO_post_66 rfl ?_
            refine W.widen (k := 0) (n := 0) (Nat.le_of_ble_eq_true rfl) (Nat.le_of_ble_eq_true rfl) ?_
            exact xw_iret hx hb hr hlocks hw h dMO_post_70
      · replace h := h.2 hc
        refine lv_ldc (v := (-2000000003)) hx hb hown (hts _ mw_303) dMO_post_39 ?_
        refine W.widen (k := 0) (n := 0) (Nat.le_of_ble_eq_true rfl) (Nat.le_of_ble_eq_true rfl) ?_
        exact xw_iret hx hb hr hlocks hw h dMO_post_41
  · replace h := h.2 hc
    refine lv_ldc (v := (-2000000001)) hx hb hown (hts _ mw_337) dMO_post_13 ?_
    refine W.widen (k := 0) (n := 0) (Nat.le_of_ble_eq_true rfl) (Nat.le_of_ble_eq_true rfl) ?_
    exact xw_iret hx hb hr hlocks hw h dMO_post_15
def wp_MO_balance (E : xE_T) (post : Int64 → xw_T → Prop) (w : xw_T) (h0 : Nat) (p0 : Int32) (p1 : Int64) : Prop := (∃ v0, xg w h0 5 0 = some v0) ∧ ∀ w1, w1 = xp w h0 0 (.int 0) → ((∃ fs, w1 h0 = some (.inr (5, fs))) ∧ wp_MO_isAccount E (fun r2 w3 => (r2 = 0 → (post (-2000000001) w3)) ∧ (¬ r2 = 0 → ((∃ fs, w3 h0 = some (.inr (5, fs))) ∧ wp_MO_balanceOf E (fun r4 w5 => post r4 w5) w3 h0 p0 p1))) w1 h0 p0)
set_option maxHeartbeats 4000000 in
set_option maxRecDepth 100000 in
theorem c_MO_balance (l : Launch) (D : va_G) (E : xE_T) (A : Nat → Prop) (post : Int64 → xw_T → Prop) (w : xw_T) (h0 : Nat) (p0 : Int32) (p1 : Int64) (h : wp_MO_balance E post w h0 p0 p1) : Met l yMO_balance (xW yMO_balance cMO_balance 4 (some (.long))) ({ frames := 2, cells := 0, slots := 0, locals := 53 } : Room) (va_Pc [.ref h0, .int p0, .long p1] (xP D E A w)) (va_Ql post (xB D A) A) 0 0 A := by
  refine Met.ofW (cc := cMO_balance) (maxL := 4) (ret := (some (.long))) (by decide) rfl ?_
  intro p e s m args below meth c s₁ B hml hv
  obtain ⟨rfl, hw, hK, hE⟩ := hv
  have hx := B.exec
  have hb := B.bytes
  have hr := B.returns
  have hts : ∀ w ∈ xTB, w.before _ s = true := fun w hw => atoms_spec (ws := xW yMO_balance cMO_balance 4 (some (.long))) B.pre w (List.mem_cons_of_mem _ hw)
  have hown : s.vm.findClass RMO = some m.cls := findClass_of_methodNamed B.named
  have hlocks := B.notSynchronized
  have hw : xw_S D vwCl A s.heap w s.heap [] := xw_S0 hw
  refine xl_start (lvs := [(0, .ref h0), (1, .int p0), (2, .long p1)]) (by first | exact Nat.le_of_ble_eq_true rfl | simp [lg_sl, va_rf_cat, xcat_i, xcat_l, xcat_r, xcat_n]) (by first | rfl | simp [lv_args, va_rf_cat, xcat_i, xcat_l, xcat_r, xcat_n]) (fun ls hl => ?_)
  unfold wp_MO_balance at h
  refine lv_aload_n hx hb dMO_balance_0 rfl (lv_at hl 0 rfl) ?_
  refine lv_iconst (v := 0) hx hb dMO_balance_1 (by decide) ?_
  obtain ⟨hv, h⟩ := h
  refine xw_put (ty := (.int)) (C := RMO) (T := TMO) (N := 17) (ref := RMO) hx hb hts inMO tyMO tyMO_ok nmMO hown hK hw rfl 0 (by decide) (hts _ mw_288) (fun _ h9 => h9) rfl (by decide +kernel) rfl rfl hv dMO_balance_2 (fun H locs hw => ?_)
  replace h := h _ rfl
  generalize xp w h0 0 (.int 0) = w1 at hw h
  refine lv_aload_n hx hb dMO_balance_5 rfl (lv_at hl 0 rfl) ?_
  refine lv_iload_n hx hb dMO_balance_6 rfl (lv_at hl 1 rfl) ?_
  obtain ⟨⟨fs, hk⟩, h⟩ := h
  have hcall := h
  clear h
  refine xw_calli (va_runV (As := [.int p0]) (rest := []) ⟨hx, hb, hml, hown, hts⟩ (c_MO_isAccount l D E A _ w1 h0 p0 hcall) (cwV 1 hts (xG_V mw_311 mw_312 mw_313 mw_294 mw_314) rfl rfl rfl (by decide +kernel) ⟨(Nat.le_of_ble_eq_true rfl), (Nat.le_of_ble_eq_true rfl)⟩) (xw_preV (ci := 5) hw hK hE rfl hk) rfl rfl hl.1 rfl (lv_room (by first | exact Nat.le_of_ble_eq_true rfl | simp [va_rf_cat, xcat_i, xcat_l, xcat_r, xcat_n])) dMO_balance_7 ⟨(Nat.le_of_ble_eq_true rfl), (Nat.le_of_ble_eq_true rfl)⟩) hw (fun r2 w3 H locs h hw => ?_)
  clear hcall
  refine lv_if_eq (tgt := 22) hx hb dMO_balance_10 rfl (fun hc => ?_) (fun hc => ?_)
  · replace h := h.1 hc
    refine lv_ldc2 (v := (-2000000001)) hx hb hown (hts _ mw_338) dMO_balance_22 ?_
    refine W.widen (k := 0) (n := 0) (Nat.le_of_ble_eq_true rfl) (Nat.le_of_ble_eq_true rfl) ?_
    exact xw_lret hx hb hr hlocks hw h dMO_balance_25
  · replace h := h.2 hc
    refine lv_aload_n hx hb dMO_balance_13 rfl (lv_at hl 0 rfl) ?_
    refine lv_iload_n hx hb dMO_balance_14 rfl (lv_at hl 1 rfl) ?_
    refine lv_lload_n hx hb dMO_balance_15 rfl (lv_at hl 2 rfl) ?_
    obtain ⟨⟨fs, hk⟩, h⟩ := h
    have hcall := h
    clear h
    refine xw_calll (va_runV (As := [.int p0, .long p1]) (rest := []) ⟨hx, hb, hml, hown, hts⟩ (c_MO_balanceOf l D E A _ w3 h0 p0 p1 hcall) (cwV 2 hts (xG_V mw_324 mw_325 mw_326 mw_294 mw_327) rfl rfl rfl (by decide +kernel) ⟨(Nat.le_of_ble_eq_true rfl), (Nat.le_of_ble_eq_true rfl)⟩) (xw_preV (ci := 5) hw hK hE rfl hk) rfl rfl hl.1 rfl (lv_room (by first | exact Nat.le_of_ble_eq_true rfl | simp [va_rf_cat, xcat_i, xcat_l, xcat_r, xcat_n])) dMO_balance_16 ⟨(Nat.le_of_ble_eq_true rfl), (Nat.le_of_ble_eq_true rfl)⟩) hw (fun r4 w5 H locs h hw => ?_)
    clear hcall
    refine lv_goto (tgt := 25) hx hb dMO_balance_19 rfl ?_
    refine W.widen (k := 0) (n := 0) (Nat.le_of_ble_eq_true rfl) (Nat.le_of_ble_eq_true rfl) ?_
    exact xw_lret hx hb hr hlocks hw h dMO_balance_25
def wp_MO_close (E : xE_T) (post : Int32 → xw_T → Prop) (w : xw_T) (h0 : Nat) (p0 : Int64) : Prop := (∃ v0, xg w h0 5 0 = some v0) ∧ ∀ w1, w1 = xp w h0 0 (.int 0) → (wp_MO_isIn E (fun r2 w3 => (¬ r2 = 0 → (∃ v4, xgL w3 h0 5 16 = some v4 ∧ ((p0 ≤ v4 → (∃ v5, xgL w3 h0 5 16 = some v5 ∧ ((∃ v0, xg w3 h0 5 16 = some v0) ∧ ∀ w6, w6 = xp w3 h0 16 (.long (v5 + ((0 : Int32).toInt64))) → (post 0 w6)))) ∧ (¬ p0 ≤ v4 → (∃ v7, xgL w3 h0 5 16 = some v7 ∧ (∃ v8, xgL w3 h0 5 16 = some v8 ∧ ((∃ v0, xg w3 h0 5 16 = some v0) ∧ ∀ w9, w9 = xp w3 h0 16 (.long (v8 + (((p0 - v7).toInt32).toInt64))) → (post ((p0 - v7).toInt32) w9)))))))) ∧ (r2 = 0 → (post (-2000000002) w3))) w1 p0 0 20000)
set_option maxHeartbeats 4000000 in
set_option maxRecDepth 100000 in
theorem c_MO_close (l : Launch) (D : va_G) (E : xE_T) (A : Nat → Prop) (post : Int32 → xw_T → Prop) (w : xw_T) (h0 : Nat) (p0 : Int64) (h : wp_MO_close E post w h0 p0) : Met l yMO_close (xW yMO_close cMO_close 4 (some (.int))) ({ frames := 1, cells := 0, slots := 0, locals := 25 } : Room) (va_Pc [.ref h0, .long p0] (xP D E A w)) (va_Qi post (xB D A) A) 0 0 A := by
  refine Met.ofW (cc := cMO_close) (maxL := 4) (ret := (some (.int))) (by decide) rfl ?_
  intro p e s m args below meth c s₁ B hml hv
  obtain ⟨rfl, hw, hK, hE⟩ := hv
  have hx := B.exec
  have hb := B.bytes
  have hr := B.returns
  have hts : ∀ w ∈ xTB, w.before _ s = true := fun w hw => atoms_spec (ws := xW yMO_close cMO_close 4 (some (.int))) B.pre w (List.mem_cons_of_mem _ hw)
  have hown : s.vm.findClass RMO = some m.cls := findClass_of_methodNamed B.named
  have hlocks := B.notSynchronized
  have hw : xw_S D vwCl A s.heap w s.heap [] := xw_S0 hw
  refine xl_start (lvs := [(0, .ref h0), (1, .long p0)]) (by first | exact Nat.le_of_ble_eq_true rfl | simp [lg_sl, va_rf_cat, xcat_i, xcat_l, xcat_r, xcat_n]) (by first | rfl | simp [lv_args, va_rf_cat, xcat_i, xcat_l, xcat_r, xcat_n]) (fun ls hl => ?_)
  unfold wp_MO_close at h
  refine lv_aload_n hx hb dMO_close_0 rfl (lv_at hl 0 rfl) ?_
  refine lv_iconst (v := 0) hx hb dMO_close_1 (by decide) ?_
  obtain ⟨hv, h⟩ := h
  refine xw_put (ty := (.int)) (C := RMO) (T := TMO) (N := 17) (ref := RMO) hx hb hts inMO tyMO tyMO_ok nmMO hown hK hw rfl 0 (by decide) (hts _ mw_288) (fun _ h9 => h9) rfl (by decide +kernel) rfl rfl hv dMO_close_2 (fun H locs hw => ?_)
  replace h := h _ rfl
  generalize xp w h0 0 (.int 0) = w1 at hw h
  refine lv_lload_n hx hb dMO_close_5 rfl (lv_at hl 1 rfl) ?_
  refine lv_lconst (v := 0) hx hb dMO_close_6 (by decide) ?_
  refine lv_ldc2 (v := 20000) hx hb hown (hts _ mw_304) dMO_close_7 ?_
  have hcall := h
  clear h
  refine xw_calli (va_runS (As := [.long p0, .long 0, .long 20000]) (rest := []) ⟨hx, hb, hml, hown, hts⟩ (c_MO_isIn l D E A _ w1 p0 0 20000 hcall) (va_cwS 3 hts (xG_S mw_292 mw_293 mw_294 mw_295) rfl rfl rfl (by decide +kernel) ⟨(Nat.le_of_ble_eq_true rfl), (Nat.le_of_ble_eq_true rfl)⟩) (xw_preS hw hK hE) rfl rfl hl.1 rfl (lv_room (by first | exact Nat.le_of_ble_eq_true rfl | simp [va_rf_cat, xcat_i, xcat_l, xcat_r, xcat_n])) dMO_close_10 ⟨(Nat.le_of_ble_eq_true rfl), (Nat.le_of_ble_eq_true rfl)⟩) hw (fun r2 w3 H locs h hw => ?_)
  clear hcall
  refine lv_if_ne (tgt := 19) hx hb dMO_close_13 rfl (fun hc => ?_) (fun hc => ?_)
  · replace h := h.1 hc
    refine lv_lload_n hx hb dMO_close_19 rfl (lv_at hl 1 rfl) ?_
    refine lv_aload_n hx hb dMO_close_20 rfl (lv_at hl 0 rfl) ?_
    obtain ⟨v4, hv, h⟩ := h
    refine xw_getL (C := RMO) (T := TMO) (N := 17) (ref := RMO) hx hb hts inMO hown hK hw rfl 16 (by decide) (hts _ mw_270) (fun _ h9 => h9) hv dMO_close_21 ?_
    refine xl_lc_le (tgt := 38) hx hb dMO_close_24 dMO_close_25 rfl (fun hc => ?_) (fun hc => ?_)
    · replace h := h.1 hc
      refine lv_iconst (v := 0) hx hb dMO_close_38 (by decide) ?_
      refine lv_istore_n (i := 3) (lv' := [(3, .int 0), (0, .ref h0), (1, .long p0)]) hx hb dMO_close_39 rfl hl (by decide) (by first | rfl | simp [va_rf_cat, xcat_i, xcat_l, xcat_r, xcat_n]) (fun ls hl => ?_)
      refine lv_aload_n hx hb dMO_close_40 rfl (lv_at hl 1 rfl) ?_
      refine lv_aload_n hx hb dMO_close_41 rfl (lv_at hl 1 rfl) ?_
      obtain ⟨v5, hv, h⟩ := h
      refine xw_getL (C := RMO) (T := TMO) (N := 17) (ref := RMO) hx hb hts inMO hown hK hw rfl 16 (by decide) (hts _ mw_270) (fun _ h9 => h9) hv dMO_close_42 ?_
      refine lv_iload_n hx hb dMO_close_45 rfl (lv_at hl 0 rfl) ?_
      refine lv_i2l hx hb dMO_close_46 rfl ?_
      refine lv_ladd hx hb dMO_close_47 ?_
      obtain ⟨hv, h⟩ := h
      refine xw_put (ty := (.long)) (C := RMO) (T := TMO) (N := 17) (ref := RMO) hx hb hts inMO tyMO tyMO_ok nmMO hown hK hw rfl 16 (by decide) (hts _ mw_270) (fun _ h9 => h9) rfl (by decide +kernel) rfl rfl hv dMO_close_48 (fun H locs hw => ?_)
      replace h := h _ rfl
      generalize xp w3 h0 16 (.long (v5 + ((0 : Int32).toInt64))) = w6 at hw h
      refine lv_iload_n hx hb dMO_close_51 rfl (lv_at hl 0 rfl) ?_
      refine W.widen (k := 0) (n := 0) (Nat.le_of_ble_eq_true rfl) (Nat.le_of_ble_eq_true rfl) ?_
      exact xw_iret hx hb hr hlocks hw h dMO_close_52
    · replace h := h.2 hc
      refine lv_lload_n hx hb dMO_close_28 rfl (lv_at hl 1 rfl) ?_
      refine lv_aload_n hx hb dMO_close_29 rfl (lv_at hl 0 rfl) ?_
      obtain ⟨v7, hv, h⟩ := h
      refine xw_getL (C := RMO) (T := TMO) (N := 17) (ref := RMO) hx hb hts inMO hown hK hw rfl 16 (by decide) (hts _ mw_270) (fun _ h9 => h9) hv dMO_close_30 ?_
      refine lv_lsub hx hb dMO_close_33 ?_
      refine lv_l2i hx hb dMO_close_34 rfl ?_
      refine lv_goto (tgt := 39) hx hb dMO_close_35 rfl ?_
      refine lv_istore_n (i := 3) (lv' := [(3, .int ((p0 - v7).toInt32)), (0, .ref h0), (1, .long p0)]) hx hb dMO_close_39 rfl hl (by decide) (by first | rfl | simp [va_rf_cat, xcat_i, xcat_l, xcat_r, xcat_n]) (fun ls hl => ?_)
      refine lv_aload_n hx hb dMO_close_40 rfl (lv_at hl 1 rfl) ?_
      refine lv_aload_n hx hb dMO_close_41 rfl (lv_at hl 1 rfl) ?_
      obtain ⟨v8, hv, h⟩ := h
      refine xw_getL (C := RMO) (T := TMO) (N := 17) (ref := RMO) hx hb hts inMO hown hK hw rfl 16 (by decide) (hts _ mw_270) (fun _ h9 => h9) hv dMO_close_42 ?_
      refine lv_iload_n hx hb dMO_close_45 rfl (lv_at hl 0 rfl) ?_
      refine lv_i2l hx hb dMO_close_46 rfl ?_
      refine lv_ladd hx hb dMO_close_47 ?_
      obtain ⟨hv, h⟩ := h
      refine xw_put (ty := (.long)) (C := RMO) (T := TMO) (N := 17) (ref := RMO) hx hb hts inMO tyMO tyMO_ok nmMO hown hK hw rfl 16 (by decide) (hts _ mw_270) (fun _ h9 => h9) rfl (by decide +kernel) rfl rfl hv dMO_close_48 (fun H locs hw => ?_)
      replace h := h _ rfl
      generalize xp w3 h0 16 (.long (v8 + (((p0 - v7).toInt32).toInt64))) = w9 at hw h
      refine lv_iload_n hx hb dMO_close_51 rfl (lv_at hl 0 rfl) ?_
      refine W.widen (k := 0) (n := 0) (Nat.le_of_ble_eq_true rfl) (Nat.le_of_ble_eq_true rfl) ?_
      exact xw_iret hx hb hr hlocks hw h dMO_close_52
  · replace h := h.2 hc
    refine lv_ldc (v := (-2000000002)) hx hb hown (hts _ mw_289) dMO_close_16 ?_
    refine W.widen (k := 0) (n := 0) (Nat.le_of_ble_eq_true rfl) (Nat.le_of_ble_eq_true rfl) ?_
    exact xw_iret hx hb hr hlocks hw h dMO_close_18
def wl_MO_batchOf_4 (E : xE_T) (post : Int32 → xw_T → Prop) : Nat → xw_T → Nat → Int32 → Int32 → Int32 → Prop
  | 0 => fun _ _ _ _ _ => False
  | n4 + 1 => fun w x0 x1 x2 x3 => ∃ v1, xgI w x0 5 14 = some v1 ∧ ((v1 ≤ x3 → (post 0 w)) ∧ (¬ v1 ≤ x3 → ((x1 ≤ 0 → (post 0 w)) ∧ (¬ x1 ≤ 0 → (∃ v2, xgR w x0 5 11 = some v2 ∧ (∃ v3, xgR w x0 5 15 = some v3 ∧ (∃ a4 : Nat, v3 = some a4 ∧ (∃ n5 f6, xaI w a4 (E.1 1) = some (n5, f6) ∧ vp_in x3 n5 ∧ (∃ a7 : Nat, v2 = some a7 ∧ (∃ n8 f9, xaI w a7 (E.1 1) = some (n8, f9) ∧ vp_in (f6 x3.toNatClampNeg) n8 ∧ ((0 < (x2 - (f9 (f6 x3.toNatClampNeg).toNatClampNeg)) → (wl_MO_batchOf_4 E post n4 w x0 x1 (x2 - (f9 (f6 x3.toNatClampNeg).toNatClampNeg)) (x3 + 1))) ∧ (¬ 0 < (x2 - (f9 (f6 x3.toNatClampNeg).toNatClampNeg)) → (∃ v10, xgR w x0 5 15 = some v10 ∧ (∃ a11 : Nat, v10 = some a11 ∧ (∃ n12 f13, xaI w a11 (E.1 1) = some (n12, f13) ∧ vp_in x3 n12 ∧ (post (f13 x3.toNatClampNeg) w))))))))))))))))
def wp_MO_batchOf (E : xE_T) (post : Int32 → xw_T → Prop) (w : xw_T) (h0 : Nat) (p0 : Int32) : Prop := ∃ n4, wl_MO_batchOf_4 E post n4 w h0 p0 p0 0
set_option maxHeartbeats 4000000 in
set_option maxRecDepth 100000 in
theorem c_MO_batchOf (l : Launch) (D : va_G) (E : xE_T) (A : Nat → Prop) (post : Int32 → xw_T → Prop) (w : xw_T) (h0 : Nat) (p0 : Int32) (h : wp_MO_batchOf E post w h0 p0) : Met l yMO_batchOf (xW yMO_batchOf cMO_batchOf 4 (some (.int))) ({ frames := 0, cells := 0, slots := 0, locals := 0 } : Room) (va_Pc [.ref h0, .int p0] (xP D E A w)) (va_Qi post (xB D A) A) 0 0 A := by
  refine Met.ofW (cc := cMO_batchOf) (maxL := 4) (ret := (some (.int))) (by decide) rfl ?_
  intro p e s m args below meth c s₁ B hml hv
  obtain ⟨rfl, hw, hK, hE⟩ := hv
  have hx := B.exec
  have hb := B.bytes
  have hr := B.returns
  have hts : ∀ w ∈ xTB, w.before _ s = true := fun w hw => atoms_spec (ws := xW yMO_batchOf cMO_batchOf 4 (some (.int))) B.pre w (List.mem_cons_of_mem _ hw)
  have hown : s.vm.findClass RMO = some m.cls := findClass_of_methodNamed B.named
  have hlocks := B.notSynchronized
  have hw : xw_S D vwCl A s.heap w s.heap [] := xw_S0 hw
  have lo_4 : ∀ (n4 : Nat) (w : xw_T) (x0 : Nat) (x1 : Int32) (x2 : Int32) (x3 : Int32) (H : Heap) (locs : List Loc) (ls : Array Slot), lv_has ls 4 [(0, .ref x0), (1, .int x1), (2, .int x2), (3, .int x3)] → xw_S D vwCl A s.heap w H locs → wl_MO_batchOf_4 E post n4 w x0 x1 x2 x3 → W p l e (headSpec (xW yMO_batchOf cMO_batchOf 4 (some (.int))) ({ frames := 0, cells := 0, slots := 0, locals := 0 } : Room)).room s m ([.ref h0, .int p0] : List Value).toArray below meth c H locs 0 0 (MQ below (va_Qi post (xB D A) A) ([.ref h0, .int p0] : List Value).toArray s 0 0 A) (F0 m 4 ls []) := by
    intro n4
    induction n4 with
    | zero => intro w x0 x1 x2 x3 H locs ls hl hw h; exact h.elim
    | succ n4 ih4 =>
      intro w x0 x1 x2 x3 H locs ls hl hw h
      dsimp only [wl_MO_batchOf_4] at h
      refine lv_iload_n hx hb dMO_batchOf_4 rfl (lv_at hl 3 rfl) ?_
      refine lv_aload_n hx hb dMO_batchOf_5 rfl (lv_at hl 0 rfl) ?_
      obtain ⟨v1, hv, h⟩ := h
      refine xw_getI (C := RMO) (T := TMO) (N := 17) (ref := RMO) hx hb hts inMO hown hK hw rfl 14 (by decide) (hts _ mw_323) (fun _ h9 => h9) hv dMO_batchOf_6 ?_
      refine lv_icmp_ge (tgt := 47) hx hb dMO_batchOf_9 rfl (fun hc => ?_) (fun hc => ?_)
      · replace h := h.1 hc
        refine lv_iconst (v := 0) hx hb dMO_batchOf_47 (by decide) ?_
        refine W.widen (k := 0) (n := 0) (Nat.le_of_ble_eq_true rfl) (Nat.le_of_ble_eq_true rfl) ?_
        exact xw_iret hx hb hr hlocks hw h dMO_batchOf_48
      · replace h := h.2 hc
        refine lv_iload_n hx hb dMO_batchOf_12 rfl (lv_at hl 1 rfl) ?_
        refine lv_if_le (tgt := 47) hx hb dMO_batchOf_13 rfl (fun hc => ?_) (fun hc => ?_)
        · replace h := h.1 hc
          refine lv_iconst (v := 0) hx hb dMO_batchOf_47 (by decide) ?_
          refine W.widen (k := 0) (n := 0) (Nat.le_of_ble_eq_true rfl) (Nat.le_of_ble_eq_true rfl) ?_
          exact xw_iret hx hb hr hlocks hw h dMO_batchOf_48
        · replace h := h.2 hc
          refine lv_iload_n hx hb dMO_batchOf_16 rfl (lv_at hl 2 rfl) ?_
          refine lv_aload_n hx hb dMO_batchOf_17 rfl (lv_at hl 0 rfl) ?_
          obtain ⟨v2, hv, h⟩ := h
          refine xw_getR (C := RMO) (T := TMO) (N := 17) (ref := RMO) hx hb hts inMO hown hK hw rfl 11 (by decide) (hts _ mw_277) (fun _ h9 => h9) hv dMO_batchOf_18 ?_
          refine lv_aload_n hx hb dMO_batchOf_21 rfl (lv_at hl 0 rfl) ?_
          obtain ⟨v3, hv, h⟩ := h
          refine xw_getR (C := RMO) (T := TMO) (N := 17) (ref := RMO) hx hb hts inMO hown hK hw rfl 15 (by decide) (hts _ mw_272) (fun _ h9 => h9) hv dMO_batchOf_22 ?_
          refine lv_iload_n hx hb dMO_batchOf_25 rfl (lv_at hl 3 rfl) ?_
          obtain ⟨a4, rfl, h⟩ := h
          obtain ⟨n5, f6, ha, hin9, h⟩ := h
          refine xw_iald hx hb hK hw 1 rfl ha hin9 dMO_batchOf_26 ?_
          obtain ⟨a7, rfl, h⟩ := h
          obtain ⟨n8, f9, ha, hin9, h⟩ := h
          refine xw_iald hx hb hK hw 1 rfl ha hin9 dMO_batchOf_27 ?_
          refine lv_isub hx hb dMO_batchOf_28 ?_
          refine lv_istore_n (i := 2) (lv' := [(2, .int (x2 - (f9 (f6 x3.toNatClampNeg).toNatClampNeg))), (0, .ref x0), (1, .int x1), (3, .int x3)]) hx hb dMO_batchOf_29 rfl hl (by decide) (by first | rfl | simp [va_rf_cat, xcat_i, xcat_l, xcat_r, xcat_n]) (fun ls hl => ?_)
          refine lv_iload_n hx hb dMO_batchOf_30 rfl (lv_at hl 0 rfl) ?_
          refine lv_if_gt (tgt := 41) hx hb dMO_batchOf_31 rfl (fun hc => ?_) (fun hc => ?_)
          · replace h := h.1 hc
            refine lv_iinc (k := 3) (v := x3 + 1) (lv' := [(3, .int (x3 + 1)), (2, .int (x2 - (f9 (f6 x3.toNatClampNeg).toNatClampNeg))), (0, .ref x0), (1, .int x1)]) hx hb dMO_batchOf_41 hl rfl rfl (by decide) (by first | rfl | simp [va_rf_cat, xcat_i, xcat_l, xcat_r, xcat_n]) (fun ls hl => ?_)
            refine lv_goto (tgt := 4) hx hb dMO_batchOf_44 rfl ?_
            exact ih4 _ x0 x1 (x2 - (f9 (f6 x3.toNatClampNeg).toNatClampNeg)) (x3 + 1) _ _ _ (lv_sub hl [2, 3, 1, 0] rfl) hw h
          · replace h := h.2 hc
            refine lv_aload_n hx hb dMO_batchOf_34 rfl (lv_at hl 1 rfl) ?_
            obtain ⟨v10, hv, h⟩ := h
            refine xw_getR (C := RMO) (T := TMO) (N := 17) (ref := RMO) hx hb hts inMO hown hK hw rfl 15 (by decide) (hts _ mw_272) (fun _ h9 => h9) hv dMO_batchOf_35 ?_
            refine lv_iload_n hx hb dMO_batchOf_38 rfl (lv_at hl 3 rfl) ?_
            obtain ⟨a11, rfl, h⟩ := h
            obtain ⟨n12, f13, ha, hin9, h⟩ := h
            refine xw_iald hx hb hK hw 1 rfl ha hin9 dMO_batchOf_39 ?_
            refine W.widen (k := 0) (n := 0) (Nat.le_of_ble_eq_true rfl) (Nat.le_of_ble_eq_true rfl) ?_
            exact xw_iret hx hb hr hlocks hw h dMO_batchOf_40
  refine xl_start (lvs := [(0, .ref h0), (1, .int p0)]) (by first | exact Nat.le_of_ble_eq_true rfl | simp [lg_sl, va_rf_cat, xcat_i, xcat_l, xcat_r, xcat_n]) (by first | rfl | simp [lv_args, va_rf_cat, xcat_i, xcat_l, xcat_r, xcat_n]) (fun ls hl => ?_)
  unfold wp_MO_batchOf at h
  refine lv_iload_n hx hb dMO_batchOf_0 rfl (lv_at hl 1 rfl) ?_
  refine lv_istore_n (i := 2) (lv' := [(2, .int p0), (0, .ref h0), (1, .int p0)]) hx hb dMO_batchOf_1 rfl hl (by decide) (by first | rfl | simp [va_rf_cat, xcat_i, xcat_l, xcat_r, xcat_n]) (fun ls hl => ?_)
  refine lv_iconst (v := 0) hx hb dMO_batchOf_2 (by decide) ?_
  refine lv_istore_n (i := 3) (lv' := [(3, .int 0), (2, .int p0), (0, .ref h0), (1, .int p0)]) hx hb dMO_batchOf_3 rfl hl (by decide) (by first | rfl | simp [va_rf_cat, xcat_i, xcat_l, xcat_r, xcat_n]) (fun ls hl => ?_)
  obtain ⟨n4, h⟩ := h
  refine W.widen (k := 0) (n := 0) (Nat.le_of_ble_eq_true rfl) (Nat.le_of_ble_eq_true rfl) ?_
  exact lo_4 n4 _ h0 p0 p0 0 _ _ _ (lv_sub hl [2, 3, 1, 0] rfl) hw h
end
section
/-! meanings and walks: REF 2 -/
def wl_MO_reverse_97 (E : xE_T) (post : Int32 → xw_T → Prop) : Nat → xw_T → Nat → Int32 → Int32 → Int32 → Prop
  | 0 => fun _ _ _ _ _ => False
  | n97 + 1 => fun w x0 x2 x3 x4 => ∃ v1, xgR w x0 5 11 = some v1 ∧ (∃ a2 : Nat, v1 = some a2 ∧ (∃ n3 f4, xaI w a2 (E.1 1) = some (n3, f4) ∧ vp_in x2 n3 ∧ (((f4 x2.toNatClampNeg) ≤ x4 → ((∃ fs, w x0 = some (.inr (5, fs))) ∧ wp_MO_go E (fun r5 w6 => post r5 w6) w x0 x3)) ∧ (¬ (f4 x2.toNatClampNeg) ≤ x4 → (∃ v7, xgR w x0 5 12 = some v7 ∧ (∃ a8 : Nat, v7 = some a8 ∧ (∃ n9 f10, xaI w a8 (E.1 1) = some (n9, f10) ∧ vp_in ((12 * x2) + x4) n9 ∧ (∃ v11, xgR w x0 5 13 = some v11 ∧ (∃ a12 : Nat, v11 = some a12 ∧ (∃ n13 f14, xaL w a12 (E.1 2) = some (n13, f14) ∧ vp_in ((12 * x2) + x4) n13 ∧ ((∃ fs, w x0 = some (.inr (5, fs))) ∧ wp_MO_put E (fun w16 => wl_MO_reverse_97 E post n97 w16 x0 x2 x3 (x4 + 1)) w x0 x3 (f10 ((12 * x2) + x4).toNatClampNeg) (-(f14 ((12 * x2) + x4).toNatClampNeg)))))))))))))
def wp_MO_reverse (E : xE_T) (post : Int32 → xw_T → Prop) (w : xw_T) (h0 : Nat) (p0 : Int32) : Prop := (∃ v0, xg w h0 5 0 = some v0) ∧ ∀ w17, w17 = xp w h0 0 (.int 0) → ((∃ fs, w17 h0 = some (.inr (5, fs))) ∧ wp_MO_batchOf E (fun r18 w19 => (r18 = 0 → (post 0 w19)) ∧ (¬ r18 = 0 → (∃ v20, xgR w19 h0 5 10 = some v20 ∧ (∃ a21 : Nat, v20 = some a21 ∧ (∃ n22 f23, xaI w19 a21 (E.1 3) = some (n22, f23) ∧ vp_in r18 n22 ∧ (((f23 r18.toNatClampNeg) = 0 → (∃ v24, xgI w19 h0 5 5 = some v24 ∧ ((¬ v24 = 300 → (∃ v25, xgR w19 h0 5 10 = some v25 ∧ (∃ a26 : Nat, v25 = some a26 ∧ (∃ n27 f28, xaI w19 a26 (E.1 3) = some (n27, f28) ∧ vp_in r18 n27 ∧ ∀ w29, w29 = va_up w19 a26 (some (xcI (E.1 3) n27 (upd f28 r18.toNatClampNeg (vp_nar .boolean 1)))) → (∃ v30, xgR w29 h0 5 7 = some v30 ∧ (∃ a31 : Nat, v30 = some a31 ∧ (∃ n32 f33, xaL w29 a31 (E.1 2) = some (n32, f33) ∧ vp_in r18 n32 ∧ (∃ v34, xgL w29 h0 5 16 = some v34 ∧ (((f33 r18.toNatClampNeg) ≤ v34 → (∃ v35, xgL w29 h0 5 16 = some v35 ∧ ((∃ fs, w29 h0 = some (.inr (5, fs))) ∧ wp_MO_make E (fun r36 w37 => ∃ v38, xgR w37 h0 5 10 = some v38 ∧ (∃ a39 : Nat, v38 = some a39 ∧ (∃ n40 f41, xaI w37 a39 (E.1 3) = some (n40, f41) ∧ vp_in r36 n40 ∧ ∀ w42, w42 = va_up w37 a39 (some (xcI (E.1 3) n40 (upd f41 r36.toNatClampNeg (vp_nar .boolean 1)))) → (∃ v43, xgR w42 h0 5 9 = some v43 ∧ (∃ a44 : Nat, v43 = some a44 ∧ (∃ n45 f46, xaI w42 a44 (E.1 3) = some (n45, f46) ∧ vp_in r36 n45 ∧ ∀ w47, w47 = va_up w42 a44 (some (xcI (E.1 3) n45 (upd f46 r36.toNatClampNeg (vp_nar .boolean 1)))) → (∃ n97, wl_MO_reverse_97 E post n97 w47 h0 r18 r36 0))))))) w29 h0 (v35 + 1)))) ∧ (¬ (f33 r18.toNatClampNeg) ≤ v34 → (∃ v48, xgR w29 h0 5 7 = some v48 ∧ (∃ a49 : Nat, v48 = some a49 ∧ (∃ n50 f51, xaL w29 a49 (E.1 2) = some (n50, f51) ∧ vp_in r18 n50 ∧ ((∃ fs, w29 h0 = some (.inr (5, fs))) ∧ wp_MO_make E (fun r52 w53 => ∃ v54, xgR w53 h0 5 10 = some v54 ∧ (∃ a55 : Nat, v54 = some a55 ∧ (∃ n56 f57, xaI w53 a55 (E.1 3) = some (n56, f57) ∧ vp_in r52 n56 ∧ ∀ w58, w58 = va_up w53 a55 (some (xcI (E.1 3) n56 (upd f57 r52.toNatClampNeg (vp_nar .boolean 1)))) → (∃ v59, xgR w58 h0 5 9 = some v59 ∧ (∃ a60 : Nat, v59 = some a60 ∧ (∃ n61 f62, xaI w58 a60 (E.1 3) = some (n61, f62) ∧ vp_in r52 n61 ∧ ∀ w63, w63 = va_up w58 a60 (some (xcI (E.1 3) n61 (upd f62 r52.toNatClampNeg (vp_nar .boolean 1)))) → (∃ n97, wl_MO_reverse_97 E post n97 w63 h0 r18 r52 0))))))) w29 h0 (f51 r18.toNatClampNeg))))))))))))))) ∧ (v24 = 300 → (post (-2000000004) w19))))) ∧ (¬ (f23 r18.toNatClampNeg) = 0 → (post 0 w19)))))))) w17 h0 p0)
set_option maxHeartbeats 4000000 in
set_option maxRecDepth 100000 in
theorem c_MO_reverse (l : Launch) (D : va_G) (E : xE_T) (A : Nat → Prop) (post : Int32 → xw_T → Prop) (w : xw_T) (h0 : Nat) (p0 : Int32) (h : wp_MO_reverse E post w h0 p0) : Met l yMO_reverse (xW yMO_reverse cMO_reverse 5 (some (.int))) ({ frames := 4, cells := 0, slots := 0, locals := 102 } : Room) (va_Pc [.ref h0, .int p0] (xP D E A w)) (va_Qi post (xB D A) A) 0 0 A := by
  refine Met.ofW (cc := cMO_reverse) (maxL := 5) (ret := (some (.int))) (by decide) rfl ?_
  intro p e s m args below meth c s₁ B hml hv
  obtain ⟨rfl, hw, hK, hE⟩ := hv
  have hx := B.exec
  have hb := B.bytes
  have hr := B.returns
  have hts : ∀ w ∈ xTB, w.before _ s = true := fun w hw => atoms_spec (ws := xW yMO_reverse cMO_reverse 5 (some (.int))) B.pre w (List.mem_cons_of_mem _ hw)
  have hown : s.vm.findClass RMO = some m.cls := findClass_of_methodNamed B.named
  have hlocks := B.notSynchronized
  have hw : xw_S D vwCl A s.heap w s.heap [] := xw_S0 hw
  have lo_97 : ∀ (n97 : Nat) (w : xw_T) (x0 : Nat) (x2 : Int32) (x3 : Int32) (x4 : Int32) (H : Heap) (locs : List Loc) (ls : Array Slot), lv_has ls 5 [(0, .ref x0), (2, .int x2), (3, .int x3), (4, .int x4)] → xw_S D vwCl A s.heap w H locs → wl_MO_reverse_97 E post n97 w x0 x2 x3 x4 → W p l e (headSpec (xW yMO_reverse cMO_reverse 5 (some (.int))) ({ frames := 4, cells := 0, slots := 0, locals := 102 } : Room)).room s m ([.ref h0, .int p0] : List Value).toArray below meth c H locs 0 0 (MQ below (va_Qi post (xB D A) A) ([.ref h0, .int p0] : List Value).toArray s 0 0 A) (F0 m 97 ls []) := by
    intro n97
    induction n97 with
    | zero => intro w x0 x2 x3 x4 H locs ls hl hw h; exact h.elim
    | succ n97 ih97 =>
      intro w x0 x2 x3 x4 H locs ls hl hw h
      dsimp only [wl_MO_reverse_97] at h
      refine lv_iload hx hb dMO_reverse_97 (lv_at hl 3 rfl) ?_
      refine lv_aload_n hx hb dMO_reverse_99 rfl (lv_at hl 0 rfl) ?_
      obtain ⟨v1, hv, h⟩ := h
      refine xw_getR (C := RMO) (T := TMO) (N := 17) (ref := RMO) hx hb hts inMO hown hK hw rfl 11 (by decide) (hts _ mw_277) (fun _ h9 => h9) hv dMO_reverse_100 ?_
      refine lv_iload_n hx hb dMO_reverse_103 rfl (lv_at hl 1 rfl) ?_
      obtain ⟨a2, rfl, h⟩ := h
      obtain ⟨n3, f4, ha, hin9, h⟩ := h
      refine xw_iald hx hb hK hw 1 rfl ha hin9 dMO_reverse_104 ?_
      refine lv_icmp_ge (tgt := 144) hx hb dMO_reverse_105 rfl (fun hc => ?_) (fun hc => ?_)
      · replace h := h.1 hc
        refine lv_aload_n hx hb dMO_reverse_144 rfl (lv_at hl 0 rfl) ?_
        refine lv_iload_n hx hb dMO_reverse_145 rfl (lv_at hl 2 rfl) ?_
        obtain ⟨⟨fs, hk⟩, h⟩ := h
        have hcall := h
        clear h
        refine xw_calli (va_runV (As := [.int x3]) (rest := []) ⟨hx, hb, hml, hown, hts⟩ (c_MO_go l D E A _ w x0 x3 hcall) (cwV 1 hts (xG_V mw_333 mw_334 mw_335 mw_294 mw_336) rfl rfl rfl (by decide +kernel) ⟨(Nat.le_of_ble_eq_true rfl), (Nat.le_of_ble_eq_true rfl)⟩) (xw_preV (ci := 5) hw hK hE rfl hk) rfl rfl hl.1 rfl (lv_room (by first | exact Nat.le_of_ble_eq_true rfl | simp [va_rf_cat, xcat_i, xcat_l, xcat_r, xcat_n])) dMO_reverse_146 ⟨(Nat.le_of_ble_eq_true rfl), (Nat.le_of_ble_eq_true rfl)⟩) hw (fun r5 w6 H locs h hw => ?_)
        clear hcall
        refine W.widen (k := 0) (n := 0) (Nat.le_of_ble_eq_true rfl) (Nat.le_of_ble_eq_true rfl) ?_
        exact xw_iret hx hb hr hlocks hw h dMO_reverse_149
      · replace h := h.2 hc
        refine lv_aload_n hx hb dMO_reverse_108 rfl (lv_at hl 0 rfl) ?_
        refine lv_iload_n hx hb dMO_reverse_109 rfl (lv_at hl 2 rfl) ?_
        refine lv_aload_n hx hb dMO_reverse_110 rfl (lv_at hl 0 rfl) ?_
        obtain ⟨v7, hv, h⟩ := h
        refine xw_getR (C := RMO) (T := TMO) (N := 17) (ref := RMO) hx hb hts inMO hown hK hw rfl 12 (by decide) (hts _ mw_276) (fun _ h9 => h9) hv dMO_reverse_111 ?_
        refine lv_bipush (v := 12) hx hb dMO_reverse_114 (by decide) ?_
        refine lv_iload_n hx hb dMO_reverse_116 rfl (lv_at hl 1 rfl) ?_
        refine lv_imul hx hb dMO_reverse_117 ?_
        refine lv_iload hx hb dMO_reverse_118 (lv_at hl 3 rfl) ?_
        refine lv_iadd hx hb dMO_reverse_120 ?_
        obtain ⟨a8, rfl, h⟩ := h
        obtain ⟨n9, f10, ha, hin9, h⟩ := h
        refine xw_iald hx hb hK hw 1 rfl ha hin9 dMO_reverse_121 ?_
        refine lv_aload_n hx hb dMO_reverse_122 rfl (lv_at hl 0 rfl) ?_
        obtain ⟨v11, hv, h⟩ := h
        refine xw_getR (C := RMO) (T := TMO) (N := 17) (ref := RMO) hx hb hts inMO hown hK hw rfl 13 (by decide) (hts _ mw_274) (fun _ h9 => h9) hv dMO_reverse_123 ?_
        refine lv_bipush (v := 12) hx hb dMO_reverse_126 (by decide) ?_
        refine lv_iload_n hx hb dMO_reverse_128 rfl (lv_at hl 1 rfl) ?_
        refine lv_imul hx hb dMO_reverse_129 ?_
        refine lv_iload hx hb dMO_reverse_130 (lv_at hl 3 rfl) ?_
        refine lv_iadd hx hb dMO_reverse_132 ?_
        obtain ⟨a12, rfl, h⟩ := h
        obtain ⟨n13, f14, ha, hin9, h⟩ := h
        refine xw_lald hx hb hK hw 2 rfl ha hin9 dMO_reverse_133 ?_
        refine lv_lneg hx hb dMO_reverse_134 ?_
        obtain ⟨⟨fs, hk⟩, h⟩ := h
        have hcall := h
        clear h
        refine xw_callv (va_runV (As := [.int x3, .int (f10 ((12 * x2) + x4).toNatClampNeg), .long (-(f14 ((12 * x2) + x4).toNatClampNeg))]) (rest := []) ⟨hx, hb, hml, hown, hts⟩ (c_MO_put l D E A _ w x0 x3 (f10 ((12 * x2) + x4).toNatClampNeg) (-(f14 ((12 * x2) + x4).toNatClampNeg)) hcall) (cwV 3 hts (xG_V mw_305 mw_306 mw_307 mw_294 mw_308) rfl rfl rfl (by decide +kernel) ⟨(Nat.le_of_ble_eq_true rfl), (Nat.le_of_ble_eq_true rfl)⟩) (xw_preV (ci := 5) hw hK hE rfl hk) rfl rfl hl.1 rfl (lv_room (by first | exact Nat.le_of_ble_eq_true rfl | simp [va_rf_cat, xcat_i, xcat_l, xcat_r, xcat_n])) dMO_reverse_135 ⟨(Nat.le_of_ble_eq_true rfl), (Nat.le_of_ble_eq_true rfl)⟩) hw (fun w16 H locs h hw => ?_)
        clear hcall
        refine lv_iinc (k := 3) (v := x4 + 1) (lv' := [(4, .int (x4 + 1)), (0, .ref x0), (2, .int x2), (3, .int x3)]) hx hb dMO_reverse_138 hl rfl rfl (by decide) (by first | rfl | simp [va_rf_cat, xcat_i, xcat_l, xcat_r, xcat_n]) (fun ls hl => ?_)
        refine lv_goto (tgt := 97) hx hb dMO_reverse_141 rfl ?_
        exact ih97 _ x0 x2 x3 (x4 + 1) _ _ _ (lv_sub hl [1, 2, 3, 0] rfl) hw h
  refine xl_start (lvs := [(0, .ref h0), (1, .int p0)]) (by first | exact Nat.le_of_ble_eq_true rfl | simp [lg_sl, va_rf_cat, xcat_i, xcat_l, xcat_r, xcat_n]) (by first | rfl | simp [lv_args, va_rf_cat, xcat_i, xcat_l, xcat_r, xcat_n]) (fun ls hl => ?_)
  unfold wp_MO_reverse at h
  refine lv_aload_n hx hb dMO_reverse_0 rfl (lv_at hl 0 rfl) ?_
  refine lv_iconst (v := 0) hx hb dMO_reverse_1 (by decide) ?_
  obtain ⟨hv, h⟩ := h
  refine xw_put (ty := (.int)) (C := RMO) (T := TMO) (N := 17) (ref := RMO) hx hb hts inMO tyMO tyMO_ok nmMO hown hK hw rfl 0 (by decide) (hts _ mw_288) (fun _ h9 => h9) rfl (by decide +kernel) rfl rfl hv dMO_reverse_2 (fun H locs hw => ?_)
  replace h := h _ rfl
  generalize xp w h0 0 (.int 0) = w17 at hw h
  refine lv_aload_n hx hb dMO_reverse_5 rfl (lv_at hl 0 rfl) ?_
  refine lv_iload_n hx hb dMO_reverse_6 rfl (lv_at hl 1 rfl) ?_
  obtain ⟨⟨fs, hk⟩, h⟩ := h
  have hcall := h
  clear h
  refine xw_calli (va_runV (As := [.int p0]) (rest := []) ⟨hx, hb, hml, hown, hts⟩ (c_MO_batchOf l D E A _ w17 h0 p0 hcall) (cwV 1 hts (xG_V mw_339 mw_340 mw_341 mw_294 mw_342) rfl rfl rfl (by decide +kernel) ⟨(Nat.le_of_ble_eq_true rfl), (Nat.le_of_ble_eq_true rfl)⟩) (xw_preV (ci := 5) hw hK hE rfl hk) rfl rfl hl.1 rfl (lv_room (by first | exact Nat.le_of_ble_eq_true rfl | simp [va_rf_cat, xcat_i, xcat_l, xcat_r, xcat_n])) dMO_reverse_7 ⟨(Nat.le_of_ble_eq_true rfl), (Nat.le_of_ble_eq_true rfl)⟩) hw (fun r18 w19 H locs h hw => ?_)
  clear hcall
  refine lv_istore_n (i := 2) (lv' := [(2, .int r18), (0, .ref h0), (1, .int p0)]) hx hb dMO_reverse_10 rfl hl (by decide) (by first | rfl | simp [va_rf_cat, xcat_i, xcat_l, xcat_r, xcat_n]) (fun ls hl => ?_)
  refine lv_iload_n hx hb dMO_reverse_11 rfl (lv_at hl 0 rfl) ?_
  refine lv_if_eq (tgt := 24) hx hb dMO_reverse_12 rfl (fun hc => ?_) (fun hc => ?_)
  · replace h := h.1 hc
    refine lv_iconst (v := 0) hx hb dMO_reverse_24 (by decide) ?_
    refine W.widen (k := 0) (n := 0) (Nat.le_of_ble_eq_true rfl) (Nat.le_of_ble_eq_true rfl) ?_
    exact xw_iret hx hb hr hlocks hw h dMO_reverse_25
  · replace h := h.2 hc
    refine lv_aload_n hx hb dMO_reverse_15 rfl (lv_at hl 1 rfl) ?_
    obtain ⟨v20, hv, h⟩ := h
    refine xw_getR (C := RMO) (T := TMO) (N := 17) (ref := RMO) hx hb hts inMO hown hK hw rfl 10 (by decide) (hts _ mw_278) (fun _ h9 => h9) hv dMO_reverse_16 ?_
    refine lv_iload_n hx hb dMO_reverse_19 rfl (lv_at hl 0 rfl) ?_
    obtain ⟨a21, rfl, h⟩ := h
    obtain ⟨n22, f23, ha, hin9, h⟩ := h
    refine xw_zald hx hb hK hw 3 rfl ha hin9 dMO_reverse_20 ?_
    refine lv_if_eq (tgt := 26) hx hb dMO_reverse_21 rfl (fun hc => ?_) (fun hc => ?_)
    · replace h := h.1 hc
      refine lv_aload_n hx hb dMO_reverse_26 rfl (lv_at hl 1 rfl) ?_
      obtain ⟨v24, hv, h⟩ := h
      refine xw_getI (C := RMO) (T := TMO) (N := 17) (ref := RMO) hx hb hts inMO hown hK hw rfl 5 (by decide) (hts _ mw_298) (fun _ h9 => h9) hv dMO_reverse_27 ?_
      refine lv_sipush (v := 300) hx hb dMO_reverse_30 (by decide) ?_
      refine lv_icmp_ne (tgt := 39) hx hb dMO_reverse_33 rfl (fun hc => ?_) (fun hc => ?_)
      · replace h := h.1 hc
        refine lv_aload_n hx hb dMO_reverse_39 rfl (lv_at hl 1 rfl) ?_
        obtain ⟨v25, hv, h⟩ := h
        refine xw_getR (C := RMO) (T := TMO) (N := 17) (ref := RMO) hx hb hts inMO hown hK hw rfl 10 (by decide) (hts _ mw_278) (fun _ h9 => h9) hv dMO_reverse_40 ?_
        refine lv_iload_n hx hb dMO_reverse_43 rfl (lv_at hl 0 rfl) ?_
        refine lv_iconst (v := 1) hx hb dMO_reverse_44 (by decide) ?_
        obtain ⟨a26, rfl, h⟩ := h
        obtain ⟨n27, f28, ha, hin9, h⟩ := h
        refine xw_zast hx hb hK hw 3 rfl ha hin9 dMO_reverse_45 (fun H locs hw => ?_)
        replace h := h _ rfl
        generalize va_up w19 a26 (some (xcI (E.1 3) n27 (upd f28 r18.toNatClampNeg (vp_nar .boolean 1)))) = w29 at hw h
        refine lv_aload_n hx hb dMO_reverse_46 rfl (lv_at hl 1 rfl) ?_
        refine lv_aload_n hx hb dMO_reverse_47 rfl (lv_at hl 1 rfl) ?_
        obtain ⟨v30, hv, h⟩ := h
        refine xw_getR (C := RMO) (T := TMO) (N := 17) (ref := RMO) hx hb hts inMO hown hK hw rfl 7 (by decide) (hts _ mw_282) (fun _ h9 => h9) hv dMO_reverse_48 ?_
        refine lv_iload_n hx hb dMO_reverse_51 rfl (lv_at hl 0 rfl) ?_
        obtain ⟨a31, rfl, h⟩ := h
        obtain ⟨n32, f33, ha, hin9, h⟩ := h
        refine xw_lald hx hb hK hw 2 rfl ha hin9 dMO_reverse_52 ?_
        refine lv_aload_n hx hb dMO_reverse_53 rfl (lv_at hl 1 rfl) ?_
        obtain ⟨v34, hv, h⟩ := h
        refine xw_getL (C := RMO) (T := TMO) (N := 17) (ref := RMO) hx hb hts inMO hown hK hw rfl 16 (by decide) (hts _ mw_270) (fun _ h9 => h9) hv dMO_reverse_54 ?_
        refine xl_lc_le (tgt := 70) hx hb dMO_reverse_57 dMO_reverse_58 rfl (fun hc => ?_) (fun hc => ?_)
        · replace h := h.1 hc
          refine lv_aload_n hx hb dMO_reverse_70 rfl (lv_at hl 1 rfl) ?_
          obtain ⟨v35, hv, h⟩ := h
          refine xw_getL (C := RMO) (T := TMO) (N := 17) (ref := RMO) hx hb hts inMO hown hK hw rfl 16 (by decide) (hts _ mw_270) (fun _ h9 => h9) hv dMO_reverse_71 ?_
          refine lv_lconst (v := 1) hx hb dMO_reverse_74 (by decide) ?_
          refine lv_ladd hx hb dMO_reverse_75 ?_
          obtain ⟨⟨fs, hk⟩, h⟩ := h
          have hcall := h
          clear h
          refine xw_calli (va_runV (As := [.long (v35 + 1)]) (rest := []) ⟨hx, hb, hml, hown, hts⟩ (c_MO_make l D E A _ w29 h0 (v35 + 1) hcall) (cwV 1 hts (xG_V mw_299 mw_300 mw_301 mw_294 mw_302) rfl rfl rfl (by decide +kernel) ⟨(Nat.le_of_ble_eq_true rfl), (Nat.le_of_ble_eq_true rfl)⟩) (xw_preV (ci := 5) hw hK hE rfl hk) rfl rfl hl.1 rfl (lv_room (by first | exact Nat.le_of_ble_eq_true rfl | simp [va_rf_cat, xcat_i, xcat_l, xcat_r, xcat_n])) dMO_reverse_76 ⟨(Nat.le_of_ble_eq_true rfl), (Nat.le_of_ble_eq_true rfl)⟩) hw (fun r36 w37 H locs h hw => ?_)
          clear hcall
          refine lv_istore_n (i := 3) (lv' := [(3, .int r36), (2, .int r18), (0, .ref h0), (1, .int p0)]) hx hb dMO_reverse_79 rfl hl (by decide) (by first | rfl | simp [va_rf_cat, xcat_i, xcat_l, xcat_r, xcat_n]) (fun ls hl => ?_)
          refine lv_aload_n hx hb dMO_reverse_80 rfl (lv_at hl 2 rfl) ?_
          obtain ⟨v38, hv, h⟩ := h
          refine xw_getR (C := RMO) (T := TMO) (N := 17) (ref := RMO) hx hb hts inMO hown hK hw rfl 10 (by decide) (hts _ mw_278) (fun _ h9 => h9) hv dMO_reverse_81 ?_
          refine lv_iload_n hx hb dMO_reverse_84 rfl (lv_at hl 0 rfl) ?_
          refine lv_iconst (v := 1) hx hb dMO_reverse_85 (by decide) ?_
          obtain ⟨a39, rfl, h⟩ := h
          obtain ⟨n40, f41, ha, hin9, h⟩ := h
          refine xw_zast hx hb hK hw 3 rfl ha hin9 dMO_reverse_86 (fun H locs hw => ?_)
          replace h := h _ rfl
          generalize va_up w37 a39 (some (xcI (E.1 3) n40 (upd f41 r36.toNatClampNeg (vp_nar .boolean 1)))) = w42 at hw h
          refine lv_aload_n hx hb dMO_reverse_87 rfl (lv_at hl 2 rfl) ?_
          obtain ⟨v43, hv, h⟩ := h
          refine xw_getR (C := RMO) (T := TMO) (N := 17) (ref := RMO) hx hb hts inMO hown hK hw rfl 9 (by decide) (hts _ mw_280) (fun _ h9 => h9) hv dMO_reverse_88 ?_
          refine lv_iload_n hx hb dMO_reverse_91 rfl (lv_at hl 0 rfl) ?_
          refine lv_iconst (v := 1) hx hb dMO_reverse_92 (by decide) ?_
          obtain ⟨a44, rfl, h⟩ := h
          obtain ⟨n45, f46, ha, hin9, h⟩ := h
          refine xw_zast hx hb hK hw 3 rfl ha hin9 dMO_reverse_93 (fun H locs hw => ?_)
          replace h := h _ rfl
          generalize va_up w42 a44 (some (xcI (E.1 3) n45 (upd f46 r36.toNatClampNeg (vp_nar .boolean 1)))) = w47 at hw h
          refine lv_iconst (v := 0) hx hb dMO_reverse_94 (by decide) ?_
          refine lv_istore (i := 4) (lv' := [(4, .int 0), (3, .int r36), (2, .int r18), (0, .ref h0), (1, .int p0)]) hx hb dMO_reverse_95 hl (by decide) (by first | rfl | simp [va_rf_cat, xcat_i, xcat_l, xcat_r, xcat_n]) (fun ls hl => ?_)
          obtain ⟨n97, h⟩ := h
          refine W.widen (k := 0) (n := 0) (Nat.le_of_ble_eq_true rfl) (Nat.le_of_ble_eq_true rfl) ?_
          exact lo_97 n97 _ h0 r18 r36 0 _ _ _ (lv_sub hl [3, 2, 1, 0] rfl) hw h
        · replace h := h.2 hc
          refine lv_aload_n hx hb dMO_reverse_61 rfl (lv_at hl 1 rfl) ?_
          obtain ⟨v48, hv, h⟩ := h
          refine xw_getR (C := RMO) (T := TMO) (N := 17) (ref := RMO) hx hb hts inMO hown hK hw rfl 7 (by decide) (hts _ mw_282) (fun _ h9 => h9) hv dMO_reverse_62 ?_
          refine lv_iload_n hx hb dMO_reverse_65 rfl (lv_at hl 0 rfl) ?_
          obtain ⟨a49, rfl, h⟩ := h
          obtain ⟨n50, f51, ha, hin9, h⟩ := h
          refine xw_lald hx hb hK hw 2 rfl ha hin9 dMO_reverse_66 ?_
          refine lv_goto (tgt := 76) hx hb dMO_reverse_67 rfl ?_
          obtain ⟨⟨fs, hk⟩, h⟩ := h
          have hcall := h
          clear h
          refine xw_calli (va_runV (As := [.long (f51 r18.toNatClampNeg)]) (rest := []) ⟨hx, hb, hml, hown, hts⟩ (c_MO_make l D E A _ w29 h0 (f51 r18.toNatClampNeg) hcall) (cwV 1 hts (xG_V mw_299 mw_300 mw_301 mw_294 mw_302) rfl rfl rfl (by decide +kernel) ⟨(Nat.le_of_ble_eq_true rfl), (Nat.le_of_ble_eq_true rfl)⟩) (xw_preV (ci := 5) hw hK hE rfl hk) rfl rfl hl.1 rfl (lv_room (by first | exact Nat.le_of_ble_eq_true rfl | simp [va_rf_cat, xcat_i, xcat_l, xcat_r, xcat_n])) dMO_reverse_76 ⟨(Nat.le_of_ble_eq_true rfl), (Nat.le_of_ble_eq_true rfl)⟩) hw (fun r52 w53 H locs h hw => ?_)
          clear hcall
          refine lv_istore_n (i := 3) (lv' := [(3, .int r52), (2, .int r18), (0, .ref h0), (1, .int p0)]) hx hb dMO_reverse_79 rfl hl (by decide) (by first | rfl | simp [va_rf_cat, xcat_i, xcat_l, xcat_r, xcat_n]) (fun ls hl => ?_)
          refine lv_aload_n hx hb dMO_reverse_80 rfl (lv_at hl 2 rfl) ?_
          obtain ⟨v54, hv, h⟩ := h
          refine xw_getR (C := RMO) (T := TMO) (N := 17) (ref := RMO) hx hb hts inMO hown hK hw rfl 10 (by decide) (hts _ mw_278) (fun _ h9 => h9) hv dMO_reverse_81 ?_
          refine lv_iload_n hx hb dMO_reverse_84 rfl (lv_at hl 0 rfl) ?_
          refine lv_iconst (v := 1) hx hb dMO_reverse_85 (by decide) ?_
          obtain ⟨a55, rfl, h⟩ := h
          obtain ⟨n56, f57, ha, hin9, h⟩ := h
          refine xw_zast hx hb hK hw 3 rfl ha hin9 dMO_reverse_86 (fun H locs hw => ?_)
          replace h := h _ rfl
          generalize va_up w53 a55 (some (xcI (E.1 3) n56 (upd f57 r52.toNatClampNeg (vp_nar .boolean 1)))) = w58 at hw h
          refine lv_aload_n hx hb dMO_reverse_87 rfl (lv_at hl 2 rfl) ?_
          obtain ⟨v59, hv, h⟩ := h
          refine xw_getR (C := RMO) (T := TMO) (N := 17) (ref := RMO) hx hb hts inMO hown hK hw rfl 9 (by decide) (hts _ mw_280) (fun _ h9 => h9) hv dMO_reverse_88 ?_
          refine lv_iload_n hx hb dMO_reverse_91 rfl (lv_at hl 0 rfl) ?_
          refine lv_iconst (v := 1) hx hb dMO_reverse_92 (by decide) ?_
          obtain ⟨a60, rfl, h⟩ := h
          obtain ⟨n61, f62, ha, hin9, h⟩ := h
          refine xw_zast hx hb hK hw 3 rfl ha hin9 dMO_reverse_93 (fun H locs hw => ?_)
          replace h := h _ rfl
          generalize va_up w58 a60 (some (xcI (E.1 3) n61 (upd f62 r52.toNatClampNeg (vp_nar .boolean 1)))) = w63 at hw h
          refine lv_iconst (v := 0) hx hb dMO_reverse_94 (by decide) ?_
          refine lv_istore (i := 4) (lv' := [(4, .int 0), (3, .int r52), (2, .int r18), (0, .ref h0), (1, .int p0)]) hx hb dMO_reverse_95 hl (by decide) (by first | rfl | simp [va_rf_cat, xcat_i, xcat_l, xcat_r, xcat_n]) (fun ls hl => ?_)
          obtain ⟨n97, h⟩ := h
          refine W.widen (k := 0) (n := 0) (Nat.le_of_ble_eq_true rfl) (Nat.le_of_ble_eq_true rfl) ?_
          exact lo_97 n97 _ h0 r18 r52 0 _ _ _ (lv_sub hl [3, 2, 1, 0] rfl) hw h
      · replace h := h.2 hc
        refine lv_ldc (v := (-2000000004)) hx hb hown (hts _ mw_291) dMO_reverse_36 ?_
        refine W.widen (k := 0) (n := 0) (Nat.le_of_ble_eq_true rfl) (Nat.le_of_ble_eq_true rfl) ?_
        exact xw_iret hx hb hr hlocks hw h dMO_reverse_38
    · replace h := h.2 hc
      refine lv_iconst (v := 0) hx hb dMO_reverse_24 (by decide) ?_
      refine W.widen (k := 0) (n := 0) (Nat.le_of_ble_eq_true rfl) (Nat.le_of_ble_eq_true rfl) ?_
      exact xw_iret hx hb hr hlocks hw h dMO_reverse_25
def wl_MO_first_2 (E : xE_T) (post : Int32 → xw_T → Prop) : Nat → xw_T → Nat → Int32 → Int32 → Int32 → Prop
  | 0 => fun _ _ _ _ _ => False
  | n2 + 1 => fun w x0 x1 x2 x3 => ∃ v1, xgI w x0 5 1 = some v1 ∧ ((v1 < x3 → (∃ v2, xgI w x0 5 1 = some v2 ∧ ((v2 < x3 → (post 0 w)) ∧ (¬ v2 < x3 → (post x3 w))))) ∧ (¬ v1 < x3 → (∃ v3, xgR w x0 5 2 = some v3 ∧ (∃ a4 : Nat, v3 = some a4 ∧ (∃ n5 f6, xaI w a4 (E.1 1) = some (n5, f6) ∧ vp_in x3 n5 ∧ ((¬ (f6 x3.toNatClampNeg) = x1 → (wl_MO_first_2 E post n2 w x0 x1 x2 (x3 + 1))) ∧ ((f6 x3.toNatClampNeg) = x1 → (∃ v7, xgR w x0 5 3 = some v7 ∧ (∃ a8 : Nat, v7 = some a8 ∧ (∃ n9 f10, xaI w a8 (E.1 1) = some (n9, f10) ∧ vp_in x3 n9 ∧ (((f10 x3.toNatClampNeg) = x2 → (∃ v11, xgI w x0 5 1 = some v11 ∧ ((v11 < x3 → (post 0 w)) ∧ (¬ v11 < x3 → (post x3 w))))) ∧ (¬ (f10 x3.toNatClampNeg) = x2 → (wl_MO_first_2 E post n2 w x0 x1 x2 (x3 + 1))))))))))))))
def wp_MO_first (E : xE_T) (post : Int32 → xw_T → Prop) (w : xw_T) (h0 : Nat) (p0 : Int32) (p1 : Int32) : Prop := ∃ n2, wl_MO_first_2 E post n2 w h0 p0 p1 1
set_option maxHeartbeats 4000000 in
set_option maxRecDepth 100000 in
theorem c_MO_first (l : Launch) (D : va_G) (E : xE_T) (A : Nat → Prop) (post : Int32 → xw_T → Prop) (w : xw_T) (h0 : Nat) (p0 : Int32) (p1 : Int32) (h : wp_MO_first E post w h0 p0 p1) : Met l yMO_first (xW yMO_first cMO_first 4 (some (.int))) ({ frames := 0, cells := 0, slots := 0, locals := 0 } : Room) (va_Pc [.ref h0, .int p0, .int p1] (xP D E A w)) (va_Qi post (xB D A) A) 0 0 A := by
  refine Met.ofW (cc := cMO_first) (maxL := 4) (ret := (some (.int))) (by decide) rfl ?_
  intro p e s m args below meth c s₁ B hml hv
  obtain ⟨rfl, hw, hK, hE⟩ := hv
  have hx := B.exec
  have hb := B.bytes
  have hr := B.returns
  have hts : ∀ w ∈ xTB, w.before _ s = true := fun w hw => atoms_spec (ws := xW yMO_first cMO_first 4 (some (.int))) B.pre w (List.mem_cons_of_mem _ hw)
  have hown : s.vm.findClass RMO = some m.cls := findClass_of_methodNamed B.named
  have hlocks := B.notSynchronized
  have hw : xw_S D vwCl A s.heap w s.heap [] := xw_S0 hw
  have lo_2 : ∀ (n2 : Nat) (w : xw_T) (x0 : Nat) (x1 : Int32) (x2 : Int32) (x3 : Int32) (H : Heap) (locs : List Loc) (ls : Array Slot), lv_has ls 4 [(0, .ref x0), (1, .int x1), (2, .int x2), (3, .int x3)] → xw_S D vwCl A s.heap w H locs → wl_MO_first_2 E post n2 w x0 x1 x2 x3 → W p l e (headSpec (xW yMO_first cMO_first 4 (some (.int))) ({ frames := 0, cells := 0, slots := 0, locals := 0 } : Room)).room s m ([.ref h0, .int p0, .int p1] : List Value).toArray below meth c H locs 0 0 (MQ below (va_Qi post (xB D A) A) ([.ref h0, .int p0, .int p1] : List Value).toArray s 0 0 A) (F0 m 2 ls []) := by
    intro n2
    induction n2 with
    | zero => intro w x0 x1 x2 x3 H locs ls hl hw h; exact h.elim
    | succ n2 ih2 =>
      intro w x0 x1 x2 x3 H locs ls hl hw h
      dsimp only [wl_MO_first_2] at h
      refine lv_iload_n hx hb dMO_first_2 rfl (lv_at hl 3 rfl) ?_
      refine lv_aload_n hx hb dMO_first_3 rfl (lv_at hl 0 rfl) ?_
      obtain ⟨v1, hv, h⟩ := h
      refine xw_getI (C := RMO) (T := TMO) (N := 17) (ref := RMO) hx hb hts inMO hown hK hw rfl 1 (by decide) (hts _ mw_290) (fun _ h9 => h9) hv dMO_first_4 ?_
      refine lv_icmp_gt (tgt := 36) hx hb dMO_first_7 rfl (fun hc => ?_) (fun hc => ?_)
      · replace h := h.1 hc
        refine lv_iload_n hx hb dMO_first_36 rfl (lv_at hl 3 rfl) ?_
        refine lv_aload_n hx hb dMO_first_37 rfl (lv_at hl 0 rfl) ?_
        obtain ⟨v2, hv, h⟩ := h
        refine xw_getI (C := RMO) (T := TMO) (N := 17) (ref := RMO) hx hb hts inMO hown hK hw rfl 1 (by decide) (hts _ mw_290) (fun _ h9 => h9) hv dMO_first_38 ?_
        refine lv_icmp_gt (tgt := 48) hx hb dMO_first_41 rfl (fun hc => ?_) (fun hc => ?_)
        · replace h := h.1 hc
          refine lv_iconst (v := 0) hx hb dMO_first_48 (by decide) ?_
          refine W.widen (k := 0) (n := 0) (Nat.le_of_ble_eq_true rfl) (Nat.le_of_ble_eq_true rfl) ?_
          exact xw_iret hx hb hr hlocks hw h dMO_first_49
        · replace h := h.2 hc
          refine lv_iload_n hx hb dMO_first_44 rfl (lv_at hl 3 rfl) ?_
          refine lv_goto (tgt := 49) hx hb dMO_first_45 rfl ?_
          refine W.widen (k := 0) (n := 0) (Nat.le_of_ble_eq_true rfl) (Nat.le_of_ble_eq_true rfl) ?_
          exact xw_iret hx hb hr hlocks hw h dMO_first_49
      · replace h := h.2 hc
        refine lv_aload_n hx hb dMO_first_10 rfl (lv_at hl 0 rfl) ?_
        obtain ⟨v3, hv, h⟩ := h
        refine xw_getR (C := RMO) (T := TMO) (N := 17) (ref := RMO) hx hb hts inMO hown hK hw rfl 2 (by decide) (hts _ mw_286) (fun _ h9 => h9) hv dMO_first_11 ?_
        refine lv_iload_n hx hb dMO_first_14 rfl (lv_at hl 3 rfl) ?_
        obtain ⟨a4, rfl, h⟩ := h
        obtain ⟨n5, f6, ha, hin9, h⟩ := h
        refine xw_iald hx hb hK hw 1 rfl ha hin9 dMO_first_15 ?_
        refine lv_iload_n hx hb dMO_first_16 rfl (lv_at hl 1 rfl) ?_
        refine lv_icmp_ne (tgt := 30) hx hb dMO_first_17 rfl (fun hc => ?_) (fun hc => ?_)
        · replace h := h.1 hc
          refine lv_iinc (k := 3) (v := x3 + 1) (lv' := [(3, .int (x3 + 1)), (0, .ref x0), (1, .int x1), (2, .int x2)]) hx hb dMO_first_30 hl rfl rfl (by decide) (by first | rfl | simp [va_rf_cat, xcat_i, xcat_l, xcat_r, xcat_n]) (fun ls hl => ?_)
          refine lv_goto (tgt := 2) hx hb dMO_first_33 rfl ?_
          exact ih2 _ x0 x1 x2 (x3 + 1) _ _ _ (lv_sub hl [1, 2, 3, 0] rfl) hw h
        · replace h := h.2 hc
          refine lv_aload_n hx hb dMO_first_20 rfl (lv_at hl 0 rfl) ?_
          obtain ⟨v7, hv, h⟩ := h
          refine xw_getR (C := RMO) (T := TMO) (N := 17) (ref := RMO) hx hb hts inMO hown hK hw rfl 3 (by decide) (hts _ mw_285) (fun _ h9 => h9) hv dMO_first_21 ?_
          refine lv_iload_n hx hb dMO_first_24 rfl (lv_at hl 3 rfl) ?_
          obtain ⟨a8, rfl, h⟩ := h
          obtain ⟨n9, f10, ha, hin9, h⟩ := h
          refine xw_iald hx hb hK hw 1 rfl ha hin9 dMO_first_25 ?_
          refine lv_iload_n hx hb dMO_first_26 rfl (lv_at hl 2 rfl) ?_
          refine lv_icmp_eq (tgt := 36) hx hb dMO_first_27 rfl (fun hc => ?_) (fun hc => ?_)
          · replace h := h.1 hc
            refine lv_iload_n hx hb dMO_first_36 rfl (lv_at hl 3 rfl) ?_
            refine lv_aload_n hx hb dMO_first_37 rfl (lv_at hl 0 rfl) ?_
            obtain ⟨v11, hv, h⟩ := h
            refine xw_getI (C := RMO) (T := TMO) (N := 17) (ref := RMO) hx hb hts inMO hown hK hw rfl 1 (by decide) (hts _ mw_290) (fun _ h9 => h9) hv dMO_first_38 ?_
            refine lv_icmp_gt (tgt := 48) hx hb dMO_first_41 rfl (fun hc => ?_) (fun hc => ?_)
            · replace h := h.1 hc
              refine lv_iconst (v := 0) hx hb dMO_first_48 (by decide) ?_
              refine W.widen (k := 0) (n := 0) (Nat.le_of_ble_eq_true rfl) (Nat.le_of_ble_eq_true rfl) ?_
              exact xw_iret hx hb hr hlocks hw h dMO_first_49
            · replace h := h.2 hc
              refine lv_iload_n hx hb dMO_first_44 rfl (lv_at hl 3 rfl) ?_
              refine lv_goto (tgt := 49) hx hb dMO_first_45 rfl ?_
              refine W.widen (k := 0) (n := 0) (Nat.le_of_ble_eq_true rfl) (Nat.le_of_ble_eq_true rfl) ?_
              exact xw_iret hx hb hr hlocks hw h dMO_first_49
          · replace h := h.2 hc
            refine lv_iinc (k := 3) (v := x3 + 1) (lv' := [(3, .int (x3 + 1)), (0, .ref x0), (1, .int x1), (2, .int x2)]) hx hb dMO_first_30 hl rfl rfl (by decide) (by first | rfl | simp [va_rf_cat, xcat_i, xcat_l, xcat_r, xcat_n]) (fun ls hl => ?_)
            refine lv_goto (tgt := 2) hx hb dMO_first_33 rfl ?_
            exact ih2 _ x0 x1 x2 (x3 + 1) _ _ _ (lv_sub hl [1, 2, 3, 0] rfl) hw h
  refine xl_start (lvs := [(0, .ref h0), (1, .int p0), (2, .int p1)]) (by first | exact Nat.le_of_ble_eq_true rfl | simp [lg_sl, va_rf_cat, xcat_i, xcat_l, xcat_r, xcat_n]) (by first | rfl | simp [lv_args, va_rf_cat, xcat_i, xcat_l, xcat_r, xcat_n]) (fun ls hl => ?_)
  unfold wp_MO_first at h
  refine lv_iconst (v := 1) hx hb dMO_first_0 (by decide) ?_
  refine lv_istore_n (i := 3) (lv' := [(3, .int 1), (0, .ref h0), (1, .int p0), (2, .int p1)]) hx hb dMO_first_1 rfl hl (by decide) (by first | rfl | simp [va_rf_cat, xcat_i, xcat_l, xcat_r, xcat_n]) (fun ls hl => ?_)
  obtain ⟨n2, h⟩ := h
  refine W.widen (k := 0) (n := 0) (Nat.le_of_ble_eq_true rfl) (Nat.le_of_ble_eq_true rfl) ?_
  exact lo_2 n2 _ h0 p0 p1 1 _ _ _ (lv_sub hl [1, 2, 3, 0] rfl) hw h
def wl_MO_stock_51 (E : xE_T) (post : Int32 → xw_T → Prop) : Nat → xw_T → Nat → Int32 → Int32 → Int64 → Int64 → Int32 → Prop
  | 0 => fun _ _ _ _ _ _ _ => False
  | n51 + 1 => fun w x0 x1 x2 x3 x5 x7 => ∃ v1, xgI w x0 5 1 = some v1 ∧ ((v1 < x7 → ((¬ (x3 - x5) = 0 → ((∃ fs, w x0 = some (.inr (5, fs))) ∧ wp_MO_first E (fun r2 w3 => (r2 = 0 → (post (-2000000003) w3)) ∧ (¬ r2 = 0 → ((∃ fs, w3 x0 = some (.inr (5, fs))) ∧ wp_MO_first E (fun r4 w5 => (r4 = 0 → (post (-2000000003) w5)) ∧ (¬ r4 = 0 → (wp_MO_isIn E (fun r6 w7 => (¬ r6 = 0 → (∃ v8, xgI w7 x0 5 5 = some v8 ∧ ((¬ v8 = 300 → (∃ v9, xgL w7 x0 5 16 = some v9 ∧ ((∃ fs, w7 x0 = some (.inr (5, fs))) ∧ wp_MO_make E (fun r10 w11 => ∃ v12, xgR w11 x0 5 9 = some v12 ∧ (∃ a13 : Nat, v12 = some a13 ∧ (∃ n14 f15, xaI w11 a13 (E.1 3) = some (n14, f15) ∧ vp_in r10 n14 ∧ ∀ w16, w16 = va_up w11 a13 (some (xcI (E.1 3) n14 (upd f15 r10.toNatClampNeg (vp_nar .boolean 1)))) → ((∃ fs, w16 x0 = some (.inr (5, fs))) ∧ wp_MO_first E (fun r17 w18 => (∃ fs, w18 x0 = some (.inr (5, fs))) ∧ wp_MO_put E (fun w20 => (∃ fs, w20 x0 = some (.inr (5, fs))) ∧ wp_MO_first E (fun r21 w22 => (∃ fs, w22 x0 = some (.inr (5, fs))) ∧ wp_MO_put E (fun w24 => (∃ fs, w24 x0 = some (.inr (5, fs))) ∧ wp_MO_go E (fun r25 w26 => (r25 ≤ 0 → (post 0 w26)) ∧ (¬ r25 ≤ 0 → (post ((x3 - x5).toInt32) w26))) w24 x0 r10) w22 x0 r10 r21 (-(x3 - x5))) w20 x0 x1 5) w18 x0 r10 r17 (x3 - x5)) w16 x0 x1 x2)))) w7 x0 (v9 + 1)))) ∧ (v8 = 300 → (post (-2000000004) w7))))) ∧ (r6 = 0 → (post (-2000000003) w7))) w5 (x3 - x5) (-1000000000) 1000000000))) w3 x0 x1 5))) w x0 x1 x2)) ∧ ((x3 - x5) = 0 → (post 0 w)))) ∧ (¬ v1 < x7 → (∃ v27, xgR w x0 5 2 = some v27 ∧ (∃ a28 : Nat, v27 = some a28 ∧ (∃ n29 f30, xaI w a28 (E.1 1) = some (n29, f30) ∧ vp_in x7 n29 ∧ ((¬ (f30 x7.toNatClampNeg) = x1 → (wl_MO_stock_51 E post n51 w x0 x1 x2 x3 x5 (x7 + 1))) ∧ ((f30 x7.toNatClampNeg) = x1 → (∃ v31, xgR w x0 5 3 = some v31 ∧ (∃ a32 : Nat, v31 = some a32 ∧ (∃ n33 f34, xaI w a32 (E.1 1) = some (n33, f34) ∧ vp_in x7 n33 ∧ ((¬ (f34 x7.toNatClampNeg) = x2 → (wl_MO_stock_51 E post n51 w x0 x1 x2 x3 x5 (x7 + 1))) ∧ ((f34 x7.toNatClampNeg) = x2 → ((∃ fs, w x0 = some (.inr (5, fs))) ∧ wp_MO_balanceOf E (fun r35 w36 => wl_MO_stock_51 E post n51 w36 x0 x1 x2 x3 (x5 + r35) (x7 + 1)) w x0 x7 9223372036854775807)))))))))))))
def wp_MO_stock (E : xE_T) (post : Int32 → xw_T → Prop) (w : xw_T) (h0 : Nat) (p0 : Int32) (p1 : Int32) (p2 : Int64) : Prop := (∃ v0, xg w h0 5 0 = some v0) ∧ ∀ w37, w37 = xp w h0 0 (.int 0) → (wp_MO_isIn E (fun r38 w39 => (r38 = 0 → (post (-2000000002) w39)) ∧ (¬ r38 = 0 → (wp_MO_isIn E (fun r40 w41 => (r40 = 0 → (post (-2000000002) w41)) ∧ (¬ r40 = 0 → (wp_MO_isIn E (fun r42 w43 => (¬ r42 = 0 → (∃ n51, wl_MO_stock_51 E post n51 w43 h0 p0 p1 p2 0 1)) ∧ (r42 = 0 → (post (-2000000002) w43))) w41 p2 (-100000000) 100000000))) w39 p1.toInt64 0 4))) w37 p0.toInt64 0 9)
set_option maxHeartbeats 4000000 in
set_option maxRecDepth 100000 in
theorem c_MO_stock (l : Launch) (D : va_G) (E : xE_T) (A : Nat → Prop) (post : Int32 → xw_T → Prop) (w : xw_T) (h0 : Nat) (p0 : Int32) (p1 : Int32) (p2 : Int64) (h : wp_MO_stock E post w h0 p0 p1 p2) : Met l yMO_stock (xW yMO_stock cMO_stock 11 (some (.int))) ({ frames := 4, cells := 0, slots := 0, locals := 102 } : Room) (va_Pc [.ref h0, .int p0, .int p1, .long p2] (xP D E A w)) (va_Qi post (xB D A) A) 0 0 A := by
  refine Met.ofW (cc := cMO_stock) (maxL := 11) (ret := (some (.int))) (by decide) rfl ?_
  intro p e s m args below meth c s₁ B hml hv
  obtain ⟨rfl, hw, hK, hE⟩ := hv
  have hx := B.exec
  have hb := B.bytes
  have hr := B.returns
  have hts : ∀ w ∈ xTB, w.before _ s = true := fun w hw => atoms_spec (ws := xW yMO_stock cMO_stock 11 (some (.int))) B.pre w (List.mem_cons_of_mem _ hw)
  have hown : s.vm.findClass RMO = some m.cls := findClass_of_methodNamed B.named
  have hlocks := B.notSynchronized
  have hw : xw_S D vwCl A s.heap w s.heap [] := xw_S0 hw
  have lo_51 : ∀ (n51 : Nat) (w : xw_T) (x0 : Nat) (x1 : Int32) (x2 : Int32) (x3 : Int64) (x5 : Int64) (x7 : Int32) (H : Heap) (locs : List Loc) (ls : Array Slot), lv_has ls 11 [(0, .ref x0), (1, .int x1), (2, .int x2), (3, .long x3), (5, .long x5), (7, .int x7)] → xw_S D vwCl A s.heap w H locs → wl_MO_stock_51 E post n51 w x0 x1 x2 x3 x5 x7 → W p l e (headSpec (xW yMO_stock cMO_stock 11 (some (.int))) ({ frames := 4, cells := 0, slots := 0, locals := 102 } : Room)).room s m ([.ref h0, .int p0, .int p1, .long p2] : List Value).toArray below meth c H locs 0 0 (MQ below (va_Qi post (xB D A) A) ([.ref h0, .int p0, .int p1, .long p2] : List Value).toArray s 0 0 A) (F0 m 51 ls []) := by
    intro n51
    induction n51 with
    | zero => intro w x0 x1 x2 x3 x5 x7 H locs ls hl hw h; exact h.elim
    | succ n51 ih51 =>
      intro w x0 x1 x2 x3 x5 x7 H locs ls hl hw h
      dsimp only [wl_MO_stock_51] at h
      refine lv_iload hx hb dMO_stock_51 (lv_at hl 5 rfl) ?_
      refine lv_aload_n hx hb dMO_stock_53 rfl (lv_at hl 0 rfl) ?_
      obtain ⟨v1, hv, h⟩ := h
      refine xw_getI (C := RMO) (T := TMO) (N := 17) (ref := RMO) hx hb hts inMO hown hK hw rfl 1 (by decide) (hts _ mw_290) (fun _ h9 => h9) hv dMO_stock_54 ?_
      refine lv_icmp_gt (tgt := 107) hx hb dMO_stock_57 rfl (fun hc => ?_) (fun hc => ?_)
      · replace h := h.1 hc
        refine lv_lload_n hx hb dMO_stock_107 rfl (lv_at hl 3 rfl) ?_
        refine lv_lload hx hb dMO_stock_108 (lv_at hl 4 rfl) ?_
        refine lv_lsub hx hb dMO_stock_110 ?_
        refine lv_lstore (i := 7) (lv' := [(7, .long (x3 - x5)), (0, .ref x0), (1, .int x1), (2, .int x2), (3, .long x3), (5, .long x5)]) hx hb dMO_stock_111 hl (by decide) (by first | rfl | simp [va_rf_cat, xcat_i, xcat_l, xcat_r, xcat_n]) (fun ls hl => ?_)
        refine lv_lload hx hb dMO_stock_113 (lv_at hl 0 rfl) ?_
        refine lv_lconst (v := 0) hx hb dMO_stock_115 (by decide) ?_
        refine xl_lc_ne (tgt := 122) hx hb dMO_stock_116 dMO_stock_117 rfl (fun hc => ?_) (fun hc => ?_)
        · replace h := h.1 hc
          refine lv_aload_n hx hb dMO_stock_122 rfl (lv_at hl 1 rfl) ?_
          refine lv_iload_n hx hb dMO_stock_123 rfl (lv_at hl 2 rfl) ?_
          refine lv_iload_n hx hb dMO_stock_124 rfl (lv_at hl 3 rfl) ?_
          obtain ⟨⟨fs, hk⟩, h⟩ := h
          have hcall := h
          clear h
          refine xw_calli (va_runV (As := [.int x1, .int x2]) (rest := []) ⟨hx, hb, hml, hown, hts⟩ (c_MO_first l D E A _ w x0 x1 x2 hcall) (cwV 2 hts (xG_V mw_343 mw_344 mw_345 mw_294 mw_346) rfl rfl rfl (by decide +kernel) ⟨(Nat.le_of_ble_eq_true rfl), (Nat.le_of_ble_eq_true rfl)⟩) (xw_preV (ci := 5) hw hK hE rfl hk) rfl rfl hl.1 rfl (lv_room (by first | exact Nat.le_of_ble_eq_true rfl | simp [va_rf_cat, xcat_i, xcat_l, xcat_r, xcat_n])) dMO_stock_125 ⟨(Nat.le_of_ble_eq_true rfl), (Nat.le_of_ble_eq_true rfl)⟩) hw (fun r2 w3 H locs h hw => ?_)
          clear hcall
          refine lv_if_eq (tgt := 154) hx hb dMO_stock_128 rfl (fun hc => ?_) (fun hc => ?_)
          · replace h := h.1 hc
            refine lv_ldc (v := (-2000000003)) hx hb hown (hts _ mw_303) dMO_stock_154 ?_
            refine W.widen (k := 0) (n := 0) (Nat.le_of_ble_eq_true rfl) (Nat.le_of_ble_eq_true rfl) ?_
            exact xw_iret hx hb hr hlocks hw h dMO_stock_156
          · replace h := h.2 hc
            refine lv_aload_n hx hb dMO_stock_131 rfl (lv_at hl 1 rfl) ?_
            refine lv_iload_n hx hb dMO_stock_132 rfl (lv_at hl 2 rfl) ?_
            refine lv_iconst (v := 5) hx hb dMO_stock_133 (by decide) ?_
            obtain ⟨⟨fs, hk⟩, h⟩ := h
            have hcall := h
            clear h
            refine xw_calli (va_runV (As := [.int x1, .int 5]) (rest := []) ⟨hx, hb, hml, hown, hts⟩ (c_MO_first l D E A _ w3 x0 x1 5 hcall) (cwV 2 hts (xG_V mw_343 mw_344 mw_345 mw_294 mw_346) rfl rfl rfl (by decide +kernel) ⟨(Nat.le_of_ble_eq_true rfl), (Nat.le_of_ble_eq_true rfl)⟩) (xw_preV (ci := 5) hw hK hE rfl hk) rfl rfl hl.1 rfl (lv_room (by first | exact Nat.le_of_ble_eq_true rfl | simp [va_rf_cat, xcat_i, xcat_l, xcat_r, xcat_n])) dMO_stock_134 ⟨(Nat.le_of_ble_eq_true rfl), (Nat.le_of_ble_eq_true rfl)⟩) hw (fun r4 w5 H locs h hw => ?_)
            clear hcall
            refine lv_if_eq (tgt := 154) hx hb dMO_stock_137 rfl (fun hc => ?_) (fun hc => ?_)
            · replace h := h.1 hc
              refine lv_ldc (v := (-2000000003)) hx hb hown (hts _ mw_303) dMO_stock_154 ?_
              refine W.widen (k := 0) (n := 0) (Nat.le_of_ble_eq_true rfl) (Nat.le_of_ble_eq_true rfl) ?_
              exact xw_iret hx hb hr hlocks hw h dMO_stock_156
            · replace h := h.2 hc
              refine lv_lload hx hb dMO_stock_140 (lv_at hl 0 rfl) ?_
              refine lv_ldc2 (v := (-1000000000)) hx hb hown (hts _ mw_348) dMO_stock_142 ?_
              refine lv_ldc2 (v := 1000000000) hx hb hown (hts _ mw_347) dMO_stock_145 ?_
              have hcall := h
              clear h
              refine xw_calli (va_runS (As := [.long (x3 - x5), .long (-1000000000), .long 1000000000]) (rest := []) ⟨hx, hb, hml, hown, hts⟩ (c_MO_isIn l D E A _ w5 (x3 - x5) (-1000000000) 1000000000 hcall) (va_cwS 3 hts (xG_S mw_292 mw_293 mw_294 mw_295) rfl rfl rfl (by decide +kernel) ⟨(Nat.le_of_ble_eq_true rfl), (Nat.le_of_ble_eq_true rfl)⟩) (xw_preS hw hK hE) rfl rfl hl.1 rfl (lv_room (by first | exact Nat.le_of_ble_eq_true rfl | simp [va_rf_cat, xcat_i, xcat_l, xcat_r, xcat_n])) dMO_stock_148 ⟨(Nat.le_of_ble_eq_true rfl), (Nat.le_of_ble_eq_true rfl)⟩) hw (fun r6 w7 H locs h hw => ?_)
              clear hcall
              refine lv_if_ne (tgt := 157) hx hb dMO_stock_151 rfl (fun hc => ?_) (fun hc => ?_)
              · replace h := h.1 hc
                refine lv_aload_n hx hb dMO_stock_157 rfl (lv_at hl 1 rfl) ?_
                obtain ⟨v8, hv, h⟩ := h
                refine xw_getI (C := RMO) (T := TMO) (N := 17) (ref := RMO) hx hb hts inMO hown hK hw rfl 5 (by decide) (hts _ mw_298) (fun _ h9 => h9) hv dMO_stock_158 ?_
                refine lv_sipush (v := 300) hx hb dMO_stock_161 (by decide) ?_
                refine lv_icmp_ne (tgt := 170) hx hb dMO_stock_164 rfl (fun hc => ?_) (fun hc => ?_)
                · replace h := h.1 hc
                  refine lv_aload_n hx hb dMO_stock_170 rfl (lv_at hl 1 rfl) ?_
                  refine lv_aload_n hx hb dMO_stock_171 rfl (lv_at hl 1 rfl) ?_
                  obtain ⟨v9, hv, h⟩ := h
                  refine xw_getL (C := RMO) (T := TMO) (N := 17) (ref := RMO) hx hb hts inMO hown hK hw rfl 16 (by decide) (hts _ mw_270) (fun _ h9 => h9) hv dMO_stock_172 ?_
                  refine lv_lconst (v := 1) hx hb dMO_stock_175 (by decide) ?_
                  refine lv_ladd hx hb dMO_stock_176 ?_
                  obtain ⟨⟨fs, hk⟩, h⟩ := h
                  have hcall := h
                  clear h
                  refine xw_calli (va_runV (As := [.long (v9 + 1)]) (rest := []) ⟨hx, hb, hml, hown, hts⟩ (c_MO_make l D E A _ w7 x0 (v9 + 1) hcall) (cwV 1 hts (xG_V mw_299 mw_300 mw_301 mw_294 mw_302) rfl rfl rfl (by decide +kernel) ⟨(Nat.le_of_ble_eq_true rfl), (Nat.le_of_ble_eq_true rfl)⟩) (xw_preV (ci := 5) hw hK hE rfl hk) rfl rfl hl.1 rfl (lv_room (by first | exact Nat.le_of_ble_eq_true rfl | simp [va_rf_cat, xcat_i, xcat_l, xcat_r, xcat_n])) dMO_stock_177 ⟨(Nat.le_of_ble_eq_true rfl), (Nat.le_of_ble_eq_true rfl)⟩) hw (fun r10 w11 H locs h hw => ?_)
                  clear hcall
                  refine lv_istore (i := 9) (lv' := [(9, .int r10), (7, .long (x3 - x5)), (0, .ref x0), (1, .int x1), (2, .int x2), (3, .long x3), (5, .long x5)]) hx hb dMO_stock_180 hl (by decide) (by first | rfl | simp [va_rf_cat, xcat_i, xcat_l, xcat_r, xcat_n]) (fun ls hl => ?_)
                  refine lv_aload_n hx hb dMO_stock_182 rfl (lv_at hl 2 rfl) ?_
                  obtain ⟨v12, hv, h⟩ := h
                  refine xw_getR (C := RMO) (T := TMO) (N := 17) (ref := RMO) hx hb hts inMO hown hK hw rfl 9 (by decide) (hts _ mw_280) (fun _ h9 => h9) hv dMO_stock_183 ?_
                  refine lv_iload hx hb dMO_stock_186 (lv_at hl 0 rfl) ?_
                  refine lv_iconst (v := 1) hx hb dMO_stock_188 (by decide) ?_
                  obtain ⟨a13, rfl, h⟩ := h
                  obtain ⟨n14, f15, ha, hin9, h⟩ := h
                  refine xw_zast hx hb hK hw 3 rfl ha hin9 dMO_stock_189 (fun H locs hw => ?_)
                  replace h := h _ rfl
                  generalize va_up w11 a13 (some (xcI (E.1 3) n14 (upd f15 r10.toNatClampNeg (vp_nar .boolean 1)))) = w16 at hw h
                  refine lv_aload_n hx hb dMO_stock_190 rfl (lv_at hl 2 rfl) ?_
                  refine lv_iload hx hb dMO_stock_191 (lv_at hl 0 rfl) ?_
                  refine lv_aload_n hx hb dMO_stock_193 rfl (lv_at hl 2 rfl) ?_
                  refine lv_iload_n hx hb dMO_stock_194 rfl (lv_at hl 3 rfl) ?_
                  refine lv_iload_n hx hb dMO_stock_195 rfl (lv_at hl 4 rfl) ?_
                  obtain ⟨⟨fs, hk⟩, h⟩ := h
                  have hcall := h
                  clear h
                  refine xw_calli (va_runV (As := [.int x1, .int x2]) (rest := [.int r10, .ref x0]) ⟨hx, hb, hml, hown, hts⟩ (c_MO_first l D E A _ w16 x0 x1 x2 hcall) (cwV 2 hts (xG_V mw_343 mw_344 mw_345 mw_294 mw_346) rfl rfl rfl (by decide +kernel) ⟨(Nat.le_of_ble_eq_true rfl), (Nat.le_of_ble_eq_true rfl)⟩) (xw_preV (ci := 5) hw hK hE rfl hk) rfl rfl hl.1 rfl (lv_room (by first | exact Nat.le_of_ble_eq_true rfl | simp [va_rf_cat, xcat_i, xcat_l, xcat_r, xcat_n])) dMO_stock_196 ⟨(Nat.le_of_ble_eq_true rfl), (Nat.le_of_ble_eq_true rfl)⟩) hw (fun r17 w18 H locs h hw => ?_)
                  clear hcall
                  refine lv_lload hx hb dMO_stock_199 (lv_at hl 1 rfl) ?_
                  obtain ⟨⟨fs, hk⟩, h⟩ := h
                  have hcall := h
                  clear h
                  refine xw_callv (va_runV (As := [.int r10, .int r17, .long (x3 - x5)]) (rest := []) ⟨hx, hb, hml, hown, hts⟩ (c_MO_put l D E A _ w18 x0 r10 r17 (x3 - x5) hcall) (cwV 3 hts (xG_V mw_305 mw_306 mw_307 mw_294 mw_308) rfl rfl rfl (by decide +kernel) ⟨(Nat.le_of_ble_eq_true rfl), (Nat.le_of_ble_eq_true rfl)⟩) (xw_preV (ci := 5) hw hK hE rfl hk) rfl rfl hl.1 rfl (lv_room (by first | exact Nat.le_of_ble_eq_true rfl | simp [va_rf_cat, xcat_i, xcat_l, xcat_r, xcat_n])) dMO_stock_201 ⟨(Nat.le_of_ble_eq_true rfl), (Nat.le_of_ble_eq_true rfl)⟩) hw (fun w20 H locs h hw => ?_)
                  clear hcall
                  refine lv_aload_n hx hb dMO_stock_204 rfl (lv_at hl 2 rfl) ?_
                  refine lv_iload hx hb dMO_stock_205 (lv_at hl 0 rfl) ?_
                  refine lv_aload_n hx hb dMO_stock_207 rfl (lv_at hl 2 rfl) ?_
                  refine lv_iload_n hx hb dMO_stock_208 rfl (lv_at hl 3 rfl) ?_
                  refine lv_iconst (v := 5) hx hb dMO_stock_209 (by decide) ?_
                  obtain ⟨⟨fs, hk⟩, h⟩ := h
                  have hcall := h
                  clear h
                  refine xw_calli (va_runV (As := [.int x1, .int 5]) (rest := [.int r10, .ref x0]) ⟨hx, hb, hml, hown, hts⟩ (c_MO_first l D E A _ w20 x0 x1 5 hcall) (cwV 2 hts (xG_V mw_343 mw_344 mw_345 mw_294 mw_346) rfl rfl rfl (by decide +kernel) ⟨(Nat.le_of_ble_eq_true rfl), (Nat.le_of_ble_eq_true rfl)⟩) (xw_preV (ci := 5) hw hK hE rfl hk) rfl rfl hl.1 rfl (lv_room (by first | exact Nat.le_of_ble_eq_true rfl | simp [va_rf_cat, xcat_i, xcat_l, xcat_r, xcat_n])) dMO_stock_210 ⟨(Nat.le_of_ble_eq_true rfl), (Nat.le_of_ble_eq_true rfl)⟩) hw (fun r21 w22 H locs h hw => ?_)
                  clear hcall
                  refine lv_lload hx hb dMO_stock_213 (lv_at hl 1 rfl) ?_
                  refine lv_lneg hx hb dMO_stock_215 ?_
                  obtain ⟨⟨fs, hk⟩, h⟩ := h
                  have hcall := h
                  clear h
                  refine xw_callv (va_runV (As := [.int r10, .int r21, .long (-(x3 - x5))]) (rest := []) ⟨hx, hb, hml, hown, hts⟩ (c_MO_put l D E A _ w22 x0 r10 r21 (-(x3 - x5)) hcall) (cwV 3 hts (xG_V mw_305 mw_306 mw_307 mw_294 mw_308) rfl rfl rfl (by decide +kernel) ⟨(Nat.le_of_ble_eq_true rfl), (Nat.le_of_ble_eq_true rfl)⟩) (xw_preV (ci := 5) hw hK hE rfl hk) rfl rfl hl.1 rfl (lv_room (by first | exact Nat.le_of_ble_eq_true rfl | simp [va_rf_cat, xcat_i, xcat_l, xcat_r, xcat_n])) dMO_stock_216 ⟨(Nat.le_of_ble_eq_true rfl), (Nat.le_of_ble_eq_true rfl)⟩) hw (fun w24 H locs h hw => ?_)
                  clear hcall
                  refine lv_aload_n hx hb dMO_stock_219 rfl (lv_at hl 2 rfl) ?_
                  refine lv_iload hx hb dMO_stock_220 (lv_at hl 0 rfl) ?_
                  obtain ⟨⟨fs, hk⟩, h⟩ := h
                  have hcall := h
                  clear h
                  refine xw_calli (va_runV (As := [.int r10]) (rest := []) ⟨hx, hb, hml, hown, hts⟩ (c_MO_go l D E A _ w24 x0 r10 hcall) (cwV 1 hts (xG_V mw_333 mw_334 mw_335 mw_294 mw_336) rfl rfl rfl (by decide +kernel) ⟨(Nat.le_of_ble_eq_true rfl), (Nat.le_of_ble_eq_true rfl)⟩) (xw_preV (ci := 5) hw hK hE rfl hk) rfl rfl hl.1 rfl (lv_room (by first | exact Nat.le_of_ble_eq_true rfl | simp [va_rf_cat, xcat_i, xcat_l, xcat_r, xcat_n])) dMO_stock_222 ⟨(Nat.le_of_ble_eq_true rfl), (Nat.le_of_ble_eq_true rfl)⟩) hw (fun r25 w26 H locs h hw => ?_)
                  clear hcall
                  refine lv_istore (i := 10) (lv' := [(10, .int r25), (9, .int r10), (7, .long (x3 - x5)), (0, .ref x0), (1, .int x1), (2, .int x2), (3, .long x3), (5, .long x5)]) hx hb dMO_stock_225 hl (by decide) (by first | rfl | simp [va_rf_cat, xcat_i, xcat_l, xcat_r, xcat_n]) (fun ls hl => ?_)
                  refine lv_iload hx hb dMO_stock_227 (lv_at hl 0 rfl) ?_
                  refine lv_if_le (tgt := 238) hx hb dMO_stock_229 rfl (fun hc => ?_) (fun hc => ?_)
                  · replace h := h.1 hc
                    refine lv_iconst (v := 0) hx hb dMO_stock_238 (by decide) ?_
                    refine W.widen (k := 0) (n := 0) (Nat.le_of_ble_eq_true rfl) (Nat.le_of_ble_eq_true rfl) ?_
                    exact xw_iret hx hb hr hlocks hw h dMO_stock_239
                  · replace h := h.2 hc
                    refine lv_lload hx hb dMO_stock_232 (lv_at hl 2 rfl) ?_
                    refine lv_l2i hx hb dMO_stock_234 rfl ?_
                    refine lv_goto (tgt := 239) hx hb dMO_stock_235 rfl ?_
                    refine W.widen (k := 0) (n := 0) (Nat.le_of_ble_eq_true rfl) (Nat.le_of_ble_eq_true rfl) ?_
                    exact xw_iret hx hb hr hlocks hw h dMO_stock_239
                · replace h := h.2 hc
                  refine lv_ldc (v := (-2000000004)) hx hb hown (hts _ mw_291) dMO_stock_167 ?_
                  refine W.widen (k := 0) (n := 0) (Nat.le_of_ble_eq_true rfl) (Nat.le_of_ble_eq_true rfl) ?_
                  exact xw_iret hx hb hr hlocks hw h dMO_stock_169
              · replace h := h.2 hc
                refine lv_ldc (v := (-2000000003)) hx hb hown (hts _ mw_303) dMO_stock_154 ?_
                refine W.widen (k := 0) (n := 0) (Nat.le_of_ble_eq_true rfl) (Nat.le_of_ble_eq_true rfl) ?_
                exact xw_iret hx hb hr hlocks hw h dMO_stock_156
        · replace h := h.2 hc
          refine lv_iconst (v := 0) hx hb dMO_stock_120 (by decide) ?_
          refine W.widen (k := 0) (n := 0) (Nat.le_of_ble_eq_true rfl) (Nat.le_of_ble_eq_true rfl) ?_
          exact xw_iret hx hb hr hlocks hw h dMO_stock_121
      · replace h := h.2 hc
        refine lv_aload_n hx hb dMO_stock_60 rfl (lv_at hl 0 rfl) ?_
        obtain ⟨v27, hv, h⟩ := h
        refine xw_getR (C := RMO) (T := TMO) (N := 17) (ref := RMO) hx hb hts inMO hown hK hw rfl 2 (by decide) (hts _ mw_286) (fun _ h9 => h9) hv dMO_stock_61 ?_
        refine lv_iload hx hb dMO_stock_64 (lv_at hl 5 rfl) ?_
        obtain ⟨a28, rfl, h⟩ := h
        obtain ⟨n29, f30, ha, hin9, h⟩ := h
        refine xw_iald hx hb hK hw 1 rfl ha hin9 dMO_stock_66 ?_
        refine lv_iload_n hx hb dMO_stock_67 rfl (lv_at hl 1 rfl) ?_
        refine lv_icmp_ne (tgt := 97) hx hb dMO_stock_68 rfl (fun hc => ?_) (fun hc => ?_)
        · replace h := h.1 hc
          refine lv_lload hx hb dMO_stock_97 (lv_at hl 4 rfl) ?_
          refine lv_lstore (i := 5) (lv' := [(5, .long x5), (0, .ref x0), (1, .int x1), (2, .int x2), (3, .long x3), (7, .int x7)]) hx hb dMO_stock_99 hl (by decide) (by first | rfl | simp [va_rf_cat, xcat_i, xcat_l, xcat_r, xcat_n]) (fun ls hl => ?_)
          refine lv_iinc (k := 5) (v := x7 + 1) (lv' := [(7, .int (x7 + 1)), (5, .long x5), (0, .ref x0), (1, .int x1), (2, .int x2), (3, .long x3)]) hx hb dMO_stock_101 hl rfl rfl (by decide) (by first | rfl | simp [va_rf_cat, xcat_i, xcat_l, xcat_r, xcat_n]) (fun ls hl => ?_)
          refine lv_goto (tgt := 51) hx hb dMO_stock_104 rfl ?_
          exact ih51 _ x0 x1 x2 x3 x5 (x7 + 1) _ _ _ (lv_sub hl [2, 3, 4, 5, 1, 0] rfl) hw h
        · replace h := h.2 hc
          refine lv_aload_n hx hb dMO_stock_71 rfl (lv_at hl 0 rfl) ?_
          obtain ⟨v31, hv, h⟩ := h
          refine xw_getR (C := RMO) (T := TMO) (N := 17) (ref := RMO) hx hb hts inMO hown hK hw rfl 3 (by decide) (hts _ mw_285) (fun _ h9 => h9) hv dMO_stock_72 ?_
          refine lv_iload hx hb dMO_stock_75 (lv_at hl 5 rfl) ?_
          obtain ⟨a32, rfl, h⟩ := h
          obtain ⟨n33, f34, ha, hin9, h⟩ := h
          refine xw_iald hx hb hK hw 1 rfl ha hin9 dMO_stock_77 ?_
          refine lv_iload_n hx hb dMO_stock_78 rfl (lv_at hl 2 rfl) ?_
          refine lv_icmp_ne (tgt := 97) hx hb dMO_stock_79 rfl (fun hc => ?_) (fun hc => ?_)
          · replace h := h.1 hc
            refine lv_lload hx hb dMO_stock_97 (lv_at hl 4 rfl) ?_
            refine lv_lstore (i := 5) (lv' := [(5, .long x5), (0, .ref x0), (1, .int x1), (2, .int x2), (3, .long x3), (7, .int x7)]) hx hb dMO_stock_99 hl (by decide) (by first | rfl | simp [va_rf_cat, xcat_i, xcat_l, xcat_r, xcat_n]) (fun ls hl => ?_)
            refine lv_iinc (k := 5) (v := x7 + 1) (lv' := [(7, .int (x7 + 1)), (5, .long x5), (0, .ref x0), (1, .int x1), (2, .int x2), (3, .long x3)]) hx hb dMO_stock_101 hl rfl rfl (by decide) (by first | rfl | simp [va_rf_cat, xcat_i, xcat_l, xcat_r, xcat_n]) (fun ls hl => ?_)
            refine lv_goto (tgt := 51) hx hb dMO_stock_104 rfl ?_
            exact ih51 _ x0 x1 x2 x3 x5 (x7 + 1) _ _ _ (lv_sub hl [2, 3, 4, 5, 1, 0] rfl) hw h
          · replace h := h.2 hc
            refine lv_lload hx hb dMO_stock_82 (lv_at hl 4 rfl) ?_
            refine lv_aload_n hx hb dMO_stock_84 rfl (lv_at hl 0 rfl) ?_
            refine lv_iload hx hb dMO_stock_85 (lv_at hl 5 rfl) ?_
            refine lv_ldc2 (v := 9223372036854775807) hx hb hown (hts _ mw_328) dMO_stock_87 ?_
            obtain ⟨⟨fs, hk⟩, h⟩ := h
            have hcall := h
            clear h
            refine xw_calll (va_runV (As := [.int x7, .long 9223372036854775807]) (rest := [.long x5]) ⟨hx, hb, hml, hown, hts⟩ (c_MO_balanceOf l D E A _ w x0 x7 9223372036854775807 hcall) (cwV 2 hts (xG_V mw_324 mw_325 mw_326 mw_294 mw_327) rfl rfl rfl (by decide +kernel) ⟨(Nat.le_of_ble_eq_true rfl), (Nat.le_of_ble_eq_true rfl)⟩) (xw_preV (ci := 5) hw hK hE rfl hk) rfl rfl hl.1 rfl (lv_room (by first | exact Nat.le_of_ble_eq_true rfl | simp [va_rf_cat, xcat_i, xcat_l, xcat_r, xcat_n])) dMO_stock_90 ⟨(Nat.le_of_ble_eq_true rfl), (Nat.le_of_ble_eq_true rfl)⟩) hw (fun r35 w36 H locs h hw => ?_)
            clear hcall
            refine lv_ladd hx hb dMO_stock_93 ?_
            refine lv_goto (tgt := 99) hx hb dMO_stock_94 rfl ?_
            refine lv_lstore (i := 5) (lv' := [(5, .long (x5 + r35)), (0, .ref x0), (1, .int x1), (2, .int x2), (3, .long x3), (7, .int x7)]) hx hb dMO_stock_99 hl (by decide) (by first | rfl | simp [va_rf_cat, xcat_i, xcat_l, xcat_r, xcat_n]) (fun ls hl => ?_)
            refine lv_iinc (k := 5) (v := x7 + 1) (lv' := [(7, .int (x7 + 1)), (5, .long (x5 + r35)), (0, .ref x0), (1, .int x1), (2, .int x2), (3, .long x3)]) hx hb dMO_stock_101 hl rfl rfl (by decide) (by first | rfl | simp [va_rf_cat, xcat_i, xcat_l, xcat_r, xcat_n]) (fun ls hl => ?_)
            refine lv_goto (tgt := 51) hx hb dMO_stock_104 rfl ?_
            exact ih51 _ x0 x1 x2 x3 (x5 + r35) (x7 + 1) _ _ _ (lv_sub hl [2, 3, 4, 5, 1, 0] rfl) hw h
  refine xl_start (lvs := [(0, .ref h0), (1, .int p0), (2, .int p1), (3, .long p2)]) (by first | exact Nat.le_of_ble_eq_true rfl | simp [lg_sl, va_rf_cat, xcat_i, xcat_l, xcat_r, xcat_n]) (by first | rfl | simp [lv_args, va_rf_cat, xcat_i, xcat_l, xcat_r, xcat_n]) (fun ls hl => ?_)
  unfold wp_MO_stock at h
  refine lv_aload_n hx hb dMO_stock_0 rfl (lv_at hl 0 rfl) ?_
  refine lv_iconst (v := 0) hx hb dMO_stock_1 (by decide) ?_
  obtain ⟨hv, h⟩ := h
  refine xw_put (ty := (.int)) (C := RMO) (T := TMO) (N := 17) (ref := RMO) hx hb hts inMO tyMO tyMO_ok nmMO hown hK hw rfl 0 (by decide) (hts _ mw_288) (fun _ h9 => h9) rfl (by decide +kernel) rfl rfl hv dMO_stock_2 (fun H locs hw => ?_)
  replace h := h _ rfl
  generalize xp w h0 0 (.int 0) = w37 at hw h
  refine lv_iload_n hx hb dMO_stock_5 rfl (lv_at hl 1 rfl) ?_
  refine lv_i2l hx hb dMO_stock_6 rfl ?_
  refine lv_lconst (v := 0) hx hb dMO_stock_7 (by decide) ?_
  refine lv_ldc2 (v := 9) hx hb hown (hts _ mw_297) dMO_stock_8 ?_
  have hcall := h
  clear h
  refine xw_calli (va_runS (As := [.long p0.toInt64, .long 0, .long 9]) (rest := []) ⟨hx, hb, hml, hown, hts⟩ (c_MO_isIn l D E A _ w37 p0.toInt64 0 9 hcall) (va_cwS 3 hts (xG_S mw_292 mw_293 mw_294 mw_295) rfl rfl rfl (by decide +kernel) ⟨(Nat.le_of_ble_eq_true rfl), (Nat.le_of_ble_eq_true rfl)⟩) (xw_preS hw hK hE) rfl rfl hl.1 rfl (lv_room (by first | exact Nat.le_of_ble_eq_true rfl | simp [va_rf_cat, xcat_i, xcat_l, xcat_r, xcat_n])) dMO_stock_11 ⟨(Nat.le_of_ble_eq_true rfl), (Nat.le_of_ble_eq_true rfl)⟩) hw (fun r38 w39 H locs h hw => ?_)
  clear hcall
  refine lv_if_eq (tgt := 42) hx hb dMO_stock_14 rfl (fun hc => ?_) (fun hc => ?_)
  · replace h := h.1 hc
    refine lv_ldc (v := (-2000000002)) hx hb hown (hts _ mw_289) dMO_stock_42 ?_
    refine W.widen (k := 0) (n := 0) (Nat.le_of_ble_eq_true rfl) (Nat.le_of_ble_eq_true rfl) ?_
    exact xw_iret hx hb hr hlocks hw h dMO_stock_44
  · replace h := h.2 hc
    refine lv_iload_n hx hb dMO_stock_17 rfl (lv_at hl 2 rfl) ?_
    refine lv_i2l hx hb dMO_stock_18 rfl ?_
    refine lv_lconst (v := 0) hx hb dMO_stock_19 (by decide) ?_
    refine lv_ldc2 (v := 4) hx hb hown (hts _ mw_349) dMO_stock_20 ?_
    have hcall := h
    clear h
    refine xw_calli (va_runS (As := [.long p1.toInt64, .long 0, .long 4]) (rest := []) ⟨hx, hb, hml, hown, hts⟩ (c_MO_isIn l D E A _ w39 p1.toInt64 0 4 hcall) (va_cwS 3 hts (xG_S mw_292 mw_293 mw_294 mw_295) rfl rfl rfl (by decide +kernel) ⟨(Nat.le_of_ble_eq_true rfl), (Nat.le_of_ble_eq_true rfl)⟩) (xw_preS hw hK hE) rfl rfl hl.1 rfl (lv_room (by first | exact Nat.le_of_ble_eq_true rfl | simp [va_rf_cat, xcat_i, xcat_l, xcat_r, xcat_n])) dMO_stock_23 ⟨(Nat.le_of_ble_eq_true rfl), (Nat.le_of_ble_eq_true rfl)⟩) hw (fun r40 w41 H locs h hw => ?_)
    clear hcall
    refine lv_if_eq (tgt := 42) hx hb dMO_stock_26 rfl (fun hc => ?_) (fun hc => ?_)
    · replace h := h.1 hc
      refine lv_ldc (v := (-2000000002)) hx hb hown (hts _ mw_289) dMO_stock_42 ?_
      refine W.widen (k := 0) (n := 0) (Nat.le_of_ble_eq_true rfl) (Nat.le_of_ble_eq_true rfl) ?_
      exact xw_iret hx hb hr hlocks hw h dMO_stock_44
    · replace h := h.2 hc
      refine lv_lload_n hx hb dMO_stock_29 rfl (lv_at hl 3 rfl) ?_
      refine lv_ldc2 (v := (-100000000)) hx hb hown (hts _ mw_310) dMO_stock_30 ?_
      refine lv_ldc2 (v := 100000000) hx hb hown (hts _ mw_309) dMO_stock_33 ?_
      have hcall := h
      clear h
      refine xw_calli (va_runS (As := [.long p2, .long (-100000000), .long 100000000]) (rest := []) ⟨hx, hb, hml, hown, hts⟩ (c_MO_isIn l D E A _ w41 p2 (-100000000) 100000000 hcall) (va_cwS 3 hts (xG_S mw_292 mw_293 mw_294 mw_295) rfl rfl rfl (by decide +kernel) ⟨(Nat.le_of_ble_eq_true rfl), (Nat.le_of_ble_eq_true rfl)⟩) (xw_preS hw hK hE) rfl rfl hl.1 rfl (lv_room (by first | exact Nat.le_of_ble_eq_true rfl | simp [va_rf_cat, xcat_i, xcat_l, xcat_r, xcat_n])) dMO_stock_36 ⟨(Nat.le_of_ble_eq_true rfl), (Nat.le_of_ble_eq_true rfl)⟩) hw (fun r42 w43 H locs h hw => ?_)
      clear hcall
      refine lv_if_ne (tgt := 45) hx hb dMO_stock_39 rfl (fun hc => ?_) (fun hc => ?_)
      · replace h := h.1 hc
        refine lv_lconst (v := 0) hx hb dMO_stock_45 (by decide) ?_
        refine lv_lstore (i := 5) (lv' := [(5, .long 0), (0, .ref h0), (1, .int p0), (2, .int p1), (3, .long p2)]) hx hb dMO_stock_46 hl (by decide) (by first | rfl | simp [va_rf_cat, xcat_i, xcat_l, xcat_r, xcat_n]) (fun ls hl => ?_)
        refine lv_iconst (v := 1) hx hb dMO_stock_48 (by decide) ?_
        refine lv_istore (i := 7) (lv' := [(7, .int 1), (5, .long 0), (0, .ref h0), (1, .int p0), (2, .int p1), (3, .long p2)]) hx hb dMO_stock_49 hl (by decide) (by first | rfl | simp [va_rf_cat, xcat_i, xcat_l, xcat_r, xcat_n]) (fun ls hl => ?_)
        obtain ⟨n51, h⟩ := h
        refine W.widen (k := 0) (n := 0) (Nat.le_of_ble_eq_true rfl) (Nat.le_of_ble_eq_true rfl) ?_
        exact lo_51 n51 _ h0 p0 p1 p2 0 1 _ _ _ (lv_sub hl [2, 3, 4, 5, 1, 0] rfl) hw h
      · replace h := h.2 hc
        refine lv_ldc (v := (-2000000002)) hx hb hown (hts _ mw_289) dMO_stock_42 ?_
        refine W.widen (k := 0) (n := 0) (Nat.le_of_ble_eq_true rfl) (Nat.le_of_ble_eq_true rfl) ?_
        exact xw_iret hx hb hr hlocks hw h dMO_stock_44
def wp_MO_limit (E : xE_T) (post : Int32 → xw_T → Prop) (w : xw_T) (h0 : Nat) (p0 : Int32) (p1 : Int64) : Prop := (∃ v0, xg w h0 5 0 = some v0) ∧ ∀ w1, w1 = xp w h0 0 (.int 0) → ((∃ fs, w1 h0 = some (.inr (5, fs))) ∧ wp_MO_isAccount E (fun r2 w3 => (¬ r2 = 0 → (wp_MO_isIn E (fun r4 w5 => (¬ r4 = 0 → (∃ v6, xgR w5 h0 5 4 = some v6 ∧ (∃ a7 : Nat, v6 = some a7 ∧ (∃ n8 f9, xaL w5 a7 (E.1 2) = some (n8, f9) ∧ vp_in p0 n8 ∧ (∃ v10, xgR w5 h0 5 4 = some v10 ∧ (∃ a11 : Nat, v10 = some a11 ∧ (∃ n12 f13, xaL w5 a11 (E.1 2) = some (n12, f13) ∧ vp_in p0 n12 ∧ ∀ w14, w14 = va_up w5 a11 (some (xcL (E.1 2) n12 (vp_updL f13 p0.toNatClampNeg p1))) → (post ((f9 p0.toNatClampNeg).toInt32) w14)))))))) ∧ (r4 = 0 → (post (-2000000002) w5))) w3 p1 0 100000000)) ∧ (r2 = 0 → (post (-2000000001) w3))) w1 h0 p0)
set_option maxHeartbeats 4000000 in
set_option maxRecDepth 100000 in
theorem c_MO_limit (l : Launch) (D : va_G) (E : xE_T) (A : Nat → Prop) (post : Int32 → xw_T → Prop) (w : xw_T) (h0 : Nat) (p0 : Int32) (p1 : Int64) (h : wp_MO_limit E post w h0 p0 p1) : Met l yMO_limit (xW yMO_limit cMO_limit 5 (some (.int))) ({ frames := 2, cells := 0, slots := 0, locals := 46 } : Room) (va_Pc [.ref h0, .int p0, .long p1] (xP D E A w)) (va_Qi post (xB D A) A) 0 0 A := by
  refine Met.ofW (cc := cMO_limit) (maxL := 5) (ret := (some (.int))) (by decide) rfl ?_
  intro p e s m args below meth c s₁ B hml hv
  obtain ⟨rfl, hw, hK, hE⟩ := hv
  have hx := B.exec
  have hb := B.bytes
  have hr := B.returns
  have hts : ∀ w ∈ xTB, w.before _ s = true := fun w hw => atoms_spec (ws := xW yMO_limit cMO_limit 5 (some (.int))) B.pre w (List.mem_cons_of_mem _ hw)
  have hown : s.vm.findClass RMO = some m.cls := findClass_of_methodNamed B.named
  have hlocks := B.notSynchronized
  have hw : xw_S D vwCl A s.heap w s.heap [] := xw_S0 hw
  refine xl_start (lvs := [(0, .ref h0), (1, .int p0), (2, .long p1)]) (by first | exact Nat.le_of_ble_eq_true rfl | simp [lg_sl, va_rf_cat, xcat_i, xcat_l, xcat_r, xcat_n]) (by first | rfl | simp [lv_args, va_rf_cat, xcat_i, xcat_l, xcat_r, xcat_n]) (fun ls hl => ?_)
  unfold wp_MO_limit at h
  refine lv_aload_n hx hb dMO_limit_0 rfl (lv_at hl 0 rfl) ?_
  refine lv_iconst (v := 0) hx hb dMO_limit_1 (by decide) ?_
  obtain ⟨hv, h⟩ := h
  refine xw_put (ty := (.int)) (C := RMO) (T := TMO) (N := 17) (ref := RMO) hx hb hts inMO tyMO tyMO_ok nmMO hown hK hw rfl 0 (by decide) (hts _ mw_288) (fun _ h9 => h9) rfl (by decide +kernel) rfl rfl hv dMO_limit_2 (fun H locs hw => ?_)
  replace h := h _ rfl
  generalize xp w h0 0 (.int 0) = w1 at hw h
  refine lv_aload_n hx hb dMO_limit_5 rfl (lv_at hl 0 rfl) ?_
  refine lv_iload_n hx hb dMO_limit_6 rfl (lv_at hl 1 rfl) ?_
  obtain ⟨⟨fs, hk⟩, h⟩ := h
  have hcall := h
  clear h
  refine xw_calli (va_runV (As := [.int p0]) (rest := []) ⟨hx, hb, hml, hown, hts⟩ (c_MO_isAccount l D E A _ w1 h0 p0 hcall) (cwV 1 hts (xG_V mw_311 mw_312 mw_313 mw_294 mw_314) rfl rfl rfl (by decide +kernel) ⟨(Nat.le_of_ble_eq_true rfl), (Nat.le_of_ble_eq_true rfl)⟩) (xw_preV (ci := 5) hw hK hE rfl hk) rfl rfl hl.1 rfl (lv_room (by first | exact Nat.le_of_ble_eq_true rfl | simp [va_rf_cat, xcat_i, xcat_l, xcat_r, xcat_n])) dMO_limit_7 ⟨(Nat.le_of_ble_eq_true rfl), (Nat.le_of_ble_eq_true rfl)⟩) hw (fun r2 w3 H locs h hw => ?_)
  clear hcall
  refine lv_if_ne (tgt := 16) hx hb dMO_limit_10 rfl (fun hc => ?_) (fun hc => ?_)
  · replace h := h.1 hc
    refine lv_lload_n hx hb dMO_limit_16 rfl (lv_at hl 2 rfl) ?_
    refine lv_lconst (v := 0) hx hb dMO_limit_17 (by decide) ?_
    refine lv_ldc2 (v := 100000000) hx hb hown (hts _ mw_309) dMO_limit_18 ?_
    have hcall := h
    clear h
    refine xw_calli (va_runS (As := [.long p1, .long 0, .long 100000000]) (rest := []) ⟨hx, hb, hml, hown, hts⟩ (c_MO_isIn l D E A _ w3 p1 0 100000000 hcall) (va_cwS 3 hts (xG_S mw_292 mw_293 mw_294 mw_295) rfl rfl rfl (by decide +kernel) ⟨(Nat.le_of_ble_eq_true rfl), (Nat.le_of_ble_eq_true rfl)⟩) (xw_preS hw hK hE) rfl rfl hl.1 rfl (lv_room (by first | exact Nat.le_of_ble_eq_true rfl | simp [va_rf_cat, xcat_i, xcat_l, xcat_r, xcat_n])) dMO_limit_21 ⟨(Nat.le_of_ble_eq_true rfl), (Nat.le_of_ble_eq_true rfl)⟩) hw (fun r4 w5 H locs h hw => ?_)
    clear hcall
    refine lv_if_ne (tgt := 30) hx hb dMO_limit_24 rfl (fun hc => ?_) (fun hc => ?_)
    · replace h := h.1 hc
      refine lv_aload_n hx hb dMO_limit_30 rfl (lv_at hl 0 rfl) ?_
      obtain ⟨v6, hv, h⟩ := h
      refine xw_getR (C := RMO) (T := TMO) (N := 17) (ref := RMO) hx hb hts inMO hown hK hw rfl 4 (by decide) (hts _ mw_284) (fun _ h9 => h9) hv dMO_limit_31 ?_
      refine lv_iload_n hx hb dMO_limit_34 rfl (lv_at hl 1 rfl) ?_
      obtain ⟨a7, rfl, h⟩ := h
      obtain ⟨n8, f9, ha, hin9, h⟩ := h
      refine xw_lald hx hb hK hw 2 rfl ha hin9 dMO_limit_35 ?_
      refine lv_l2i hx hb dMO_limit_36 rfl ?_
      refine lv_istore (i := 4) (lv' := [(4, .int ((f9 p0.toNatClampNeg).toInt32)), (0, .ref h0), (1, .int p0), (2, .long p1)]) hx hb dMO_limit_37 hl (by decide) (by first | rfl | simp [va_rf_cat, xcat_i, xcat_l, xcat_r, xcat_n]) (fun ls hl => ?_)
      refine lv_aload_n hx hb dMO_limit_39 rfl (lv_at hl 1 rfl) ?_
      obtain ⟨v10, hv, h⟩ := h
      refine xw_getR (C := RMO) (T := TMO) (N := 17) (ref := RMO) hx hb hts inMO hown hK hw rfl 4 (by decide) (hts _ mw_284) (fun _ h9 => h9) hv dMO_limit_40 ?_
      refine lv_iload_n hx hb dMO_limit_43 rfl (lv_at hl 2 rfl) ?_
      refine lv_lload_n hx hb dMO_limit_44 rfl (lv_at hl 3 rfl) ?_
      obtain ⟨a11, rfl, h⟩ := h
      obtain ⟨n12, f13, ha, hin9, h⟩ := h
      refine xw_last hx hb hK hw 2 rfl ha hin9 dMO_limit_45 (fun H locs hw => ?_)
      replace h := h _ rfl
      generalize va_up w5 a11 (some (xcL (E.1 2) n12 (vp_updL f13 p0.toNatClampNeg p1))) = w14 at hw h
      refine lv_iload hx hb dMO_limit_46 (lv_at hl 0 rfl) ?_
      refine W.widen (k := 0) (n := 0) (Nat.le_of_ble_eq_true rfl) (Nat.le_of_ble_eq_true rfl) ?_
      exact xw_iret hx hb hr hlocks hw h dMO_limit_48
    · replace h := h.2 hc
      refine lv_ldc (v := (-2000000002)) hx hb hown (hts _ mw_289) dMO_limit_27 ?_
      refine W.widen (k := 0) (n := 0) (Nat.le_of_ble_eq_true rfl) (Nat.le_of_ble_eq_true rfl) ?_
      exact xw_iret hx hb hr hlocks hw h dMO_limit_29
  · replace h := h.2 hc
    refine lv_ldc (v := (-2000000001)) hx hb hown (hts _ mw_337) dMO_limit_13 ?_
    refine W.widen (k := 0) (n := 0) (Nat.le_of_ble_eq_true rfl) (Nat.le_of_ble_eq_true rfl) ?_
    exact xw_iret hx hb hr hlocks hw h dMO_limit_15
def wp_MO_fails (E : xE_T) (post : Int32 → xw_T → Prop) (w : xw_T) (h0 : Nat) (p0 : Int32) (p1 : Int32) : Prop := (∃ v0, xg w h0 5 0 = some v0) ∧ ∀ w1, w1 = xp w h0 0 (.int 0) → ((∃ fs, w1 h0 = some (.inr (5, fs))) ∧ wp_MO_isBatch E (fun r2 w3 => (r2 = 0 → (post 0 w3)) ∧ (¬ r2 = 0 → (∃ v4, xgR w3 h0 5 6 = some v4 ∧ (∃ a5 : Nat, v4 = some a5 ∧ (∃ n6 f7, xaI w3 a5 (E.1 1) = some (n6, f7) ∧ vp_in p0 n6 ∧ (((f7 p0.toNatClampNeg) = 0 → (∃ v8, xgR w3 h0 5 8 = some v8 ∧ (∃ a9 : Nat, v8 = some a9 ∧ (∃ n10 f11, xaI w3 a9 (E.1 3) = some (n10, f11) ∧ vp_in p0 n10 ∧ (((f11 p0.toNatClampNeg) = p1 → (∃ v12, xgR w3 h0 5 8 = some v12 ∧ (∃ a13 : Nat, v12 = some a13 ∧ (∃ n14 f15, xaI w3 a13 (E.1 3) = some (n14, f15) ∧ vp_in p0 n14 ∧ ∀ w16, w16 = va_up w3 a13 (some (xcI (E.1 3) n14 (upd f15 p0.toNatClampNeg (vp_nar .boolean p1)))) → (post 0 w16))))) ∧ (¬ (f11 p0.toNatClampNeg) = p1 → (∃ v17, xgR w3 h0 5 8 = some v17 ∧ (∃ a18 : Nat, v17 = some a18 ∧ (∃ n19 f20, xaI w3 a18 (E.1 3) = some (n19, f20) ∧ vp_in p0 n19 ∧ ∀ w21, w21 = va_up w3 a18 (some (xcI (E.1 3) n19 (upd f20 p0.toNatClampNeg (vp_nar .boolean p1)))) → (post 1 w21)))))))))) ∧ (¬ (f7 p0.toNatClampNeg) = 0 → (post 0 w3)))))))) w1 h0 p0)
set_option maxHeartbeats 4000000 in
set_option maxRecDepth 100000 in
theorem c_MO_fails (l : Launch) (D : va_G) (E : xE_T) (A : Nat → Prop) (post : Int32 → xw_T → Prop) (w : xw_T) (h0 : Nat) (p0 : Int32) (p1 : Int32) (h : wp_MO_fails E post w h0 p0 p1) : Met l yMO_fails (xW yMO_fails cMO_fails 4 (some (.boolean))) ({ frames := 2, cells := 0, slots := 0, locals := 46 } : Room) (va_Pc [.ref h0, .int p0, .int p1] (xP D E A w)) (va_Qi post (xB D A) A) 0 0 A := by
  refine Met.ofW (cc := cMO_fails) (maxL := 4) (ret := (some (.boolean))) (by decide) rfl ?_
  intro p e s m args below meth c s₁ B hml hv
  obtain ⟨rfl, hw, hK, hE⟩ := hv
  have hx := B.exec
  have hb := B.bytes
  have hr := B.returns
  have hts : ∀ w ∈ xTB, w.before _ s = true := fun w hw => atoms_spec (ws := xW yMO_fails cMO_fails 4 (some (.boolean))) B.pre w (List.mem_cons_of_mem _ hw)
  have hown : s.vm.findClass RMO = some m.cls := findClass_of_methodNamed B.named
  have hlocks := B.notSynchronized
  have hw : xw_S D vwCl A s.heap w s.heap [] := xw_S0 hw
  refine xl_start (lvs := [(0, .ref h0), (1, .int p0), (2, .int p1)]) (by first | exact Nat.le_of_ble_eq_true rfl | simp [lg_sl, va_rf_cat, xcat_i, xcat_l, xcat_r, xcat_n]) (by first | rfl | simp [lv_args, va_rf_cat, xcat_i, xcat_l, xcat_r, xcat_n]) (fun ls hl => ?_)
  unfold wp_MO_fails at h
  refine lv_aload_n hx hb dMO_fails_0 rfl (lv_at hl 0 rfl) ?_
  refine lv_iconst (v := 0) hx hb dMO_fails_1 (by decide) ?_
  obtain ⟨hv, h⟩ := h
  refine xw_put (ty := (.int)) (C := RMO) (T := TMO) (N := 17) (ref := RMO) hx hb hts inMO tyMO tyMO_ok nmMO hown hK hw rfl 0 (by decide) (hts _ mw_288) (fun _ h9 => h9) rfl (by decide +kernel) rfl rfl hv dMO_fails_2 (fun H locs hw => ?_)
  replace h := h _ rfl
  generalize xp w h0 0 (.int 0) = w1 at hw h
  refine lv_aload_n hx hb dMO_fails_5 rfl (lv_at hl 0 rfl) ?_
  refine lv_iload_n hx hb dMO_fails_6 rfl (lv_at hl 1 rfl) ?_
  obtain ⟨⟨fs, hk⟩, h⟩ := h
  have hcall := h
  clear h
  refine xw_calli (va_runV (As := [.int p0]) (rest := []) ⟨hx, hb, hml, hown, hts⟩ (c_MO_isBatch l D E A _ w1 h0 p0 hcall) (cwV 1 hts (xG_V mw_315 mw_316 mw_317 mw_294 mw_318) rfl rfl rfl (by decide +kernel) ⟨(Nat.le_of_ble_eq_true rfl), (Nat.le_of_ble_eq_true rfl)⟩) (xw_preV (ci := 5) hw hK hE rfl hk) rfl rfl hl.1 rfl (lv_room (by first | exact Nat.le_of_ble_eq_true rfl | simp [va_rf_cat, xcat_i, xcat_l, xcat_r, xcat_n])) dMO_fails_7 ⟨(Nat.le_of_ble_eq_true rfl), (Nat.le_of_ble_eq_true rfl)⟩) hw (fun r2 w3 H locs h hw => ?_)
  clear hcall
  refine lv_if_eq (tgt := 22) hx hb dMO_fails_10 rfl (fun hc => ?_) (fun hc => ?_)
  · replace h := h.1 hc
    refine lv_iconst (v := 0) hx hb dMO_fails_22 (by decide) ?_
    refine W.widen (k := 0) (n := 0) (Nat.le_of_ble_eq_true rfl) (Nat.le_of_ble_eq_true rfl) ?_
    exact xw_zret (by decide) hx hb hr hlocks hw h dMO_fails_23
  · replace h := h.2 hc
    refine lv_aload_n hx hb dMO_fails_13 rfl (lv_at hl 0 rfl) ?_
    obtain ⟨v4, hv, h⟩ := h
    refine xw_getR (C := RMO) (T := TMO) (N := 17) (ref := RMO) hx hb hts inMO hown hK hw rfl 6 (by decide) (hts _ mw_283) (fun _ h9 => h9) hv dMO_fails_14 ?_
    refine lv_iload_n hx hb dMO_fails_17 rfl (lv_at hl 1 rfl) ?_
    obtain ⟨a5, rfl, h⟩ := h
    obtain ⟨n6, f7, ha, hin9, h⟩ := h
    refine xw_iald hx hb hK hw 1 rfl ha hin9 dMO_fails_18 ?_
    refine lv_if_eq (tgt := 24) hx hb dMO_fails_19 rfl (fun hc => ?_) (fun hc => ?_)
    · replace h := h.1 hc
      refine lv_aload_n hx hb dMO_fails_24 rfl (lv_at hl 0 rfl) ?_
      obtain ⟨v8, hv, h⟩ := h
      refine xw_getR (C := RMO) (T := TMO) (N := 17) (ref := RMO) hx hb hts inMO hown hK hw rfl 8 (by decide) (hts _ mw_281) (fun _ h9 => h9) hv dMO_fails_25 ?_
      refine lv_iload_n hx hb dMO_fails_28 rfl (lv_at hl 1 rfl) ?_
      obtain ⟨a9, rfl, h⟩ := h
      obtain ⟨n10, f11, ha, hin9, h⟩ := h
      refine xw_zald hx hb hK hw 3 rfl ha hin9 dMO_fails_29 ?_
      refine lv_iload_n hx hb dMO_fails_30 rfl (lv_at hl 2 rfl) ?_
      refine lv_icmp_eq (tgt := 38) hx hb dMO_fails_31 rfl (fun hc => ?_) (fun hc => ?_)
      · replace h := h.1 hc
        refine lv_iconst (v := 0) hx hb dMO_fails_38 (by decide) ?_
        refine lv_istore_n (i := 3) (lv' := [(3, .int 0), (0, .ref h0), (1, .int p0), (2, .int p1)]) hx hb dMO_fails_39 rfl hl (by decide) (by first | rfl | simp [va_rf_cat, xcat_i, xcat_l, xcat_r, xcat_n]) (fun ls hl => ?_)
        refine lv_aload_n hx hb dMO_fails_40 rfl (lv_at hl 1 rfl) ?_
        obtain ⟨v12, hv, h⟩ := h
        refine xw_getR (C := RMO) (T := TMO) (N := 17) (ref := RMO) hx hb hts inMO hown hK hw rfl 8 (by decide) (hts _ mw_281) (fun _ h9 => h9) hv dMO_fails_41 ?_
        refine lv_iload_n hx hb dMO_fails_44 rfl (lv_at hl 2 rfl) ?_
        refine lv_iload_n hx hb dMO_fails_45 rfl (lv_at hl 3 rfl) ?_
        obtain ⟨a13, rfl, h⟩ := h
        obtain ⟨n14, f15, ha, hin9, h⟩ := h
        refine xw_zast hx hb hK hw 3 rfl ha hin9 dMO_fails_46 (fun H locs hw => ?_)
        replace h := h _ rfl
        generalize va_up w3 a13 (some (xcI (E.1 3) n14 (upd f15 p0.toNatClampNeg (vp_nar .boolean p1)))) = w16 at hw h
        refine lv_iload_n hx hb dMO_fails_47 rfl (lv_at hl 0 rfl) ?_
        refine W.widen (k := 0) (n := 0) (Nat.le_of_ble_eq_true rfl) (Nat.le_of_ble_eq_true rfl) ?_
        exact xw_zret (by decide) hx hb hr hlocks hw h dMO_fails_48
      · replace h := h.2 hc
        refine lv_iconst (v := 1) hx hb dMO_fails_34 (by decide) ?_
        refine lv_goto (tgt := 39) hx hb dMO_fails_35 rfl ?_
        refine lv_istore_n (i := 3) (lv' := [(3, .int 1), (0, .ref h0), (1, .int p0), (2, .int p1)]) hx hb dMO_fails_39 rfl hl (by decide) (by first | rfl | simp [va_rf_cat, xcat_i, xcat_l, xcat_r, xcat_n]) (fun ls hl => ?_)
        refine lv_aload_n hx hb dMO_fails_40 rfl (lv_at hl 1 rfl) ?_
        obtain ⟨v17, hv, h⟩ := h
        refine xw_getR (C := RMO) (T := TMO) (N := 17) (ref := RMO) hx hb hts inMO hown hK hw rfl 8 (by decide) (hts _ mw_281) (fun _ h9 => h9) hv dMO_fails_41 ?_
        refine lv_iload_n hx hb dMO_fails_44 rfl (lv_at hl 2 rfl) ?_
        refine lv_iload_n hx hb dMO_fails_45 rfl (lv_at hl 3 rfl) ?_
        obtain ⟨a18, rfl, h⟩ := h
        obtain ⟨n19, f20, ha, hin9, h⟩ := h
        refine xw_zast hx hb hK hw 3 rfl ha hin9 dMO_fails_46 (fun H locs hw => ?_)
        replace h := h _ rfl
        generalize va_up w3 a18 (some (xcI (E.1 3) n19 (upd f20 p0.toNatClampNeg (vp_nar .boolean p1)))) = w21 at hw h
        refine lv_iload_n hx hb dMO_fails_47 rfl (lv_at hl 0 rfl) ?_
        refine W.widen (k := 0) (n := 0) (Nat.le_of_ble_eq_true rfl) (Nat.le_of_ble_eq_true rfl) ?_
        exact xw_zret (by decide) hx hb hr hlocks hw h dMO_fails_48
    · replace h := h.2 hc
      refine lv_iconst (v := 0) hx hb dMO_fails_22 (by decide) ?_
      refine W.widen (k := 0) (n := 0) (Nat.le_of_ble_eq_true rfl) (Nat.le_of_ble_eq_true rfl) ?_
      exact xw_zret (by decide) hx hb hr hlocks hw h dMO_fails_23
def wl_MO_hold_34 (E : xE_T) (post : Int64 → xw_T → Prop) (K : xw_T → Nat → Int32 → Int64 → Int32 → Prop) : Nat → xw_T → Nat → Int32 → Int64 → Int32 → Int32 → Prop
  | 0 => fun _ _ _ _ _ _ => False
  | n34 + 1 => fun w x0 x1 x2 x4 x5 => ∃ v1, xgR w x0 5 11 = some v1 ∧ (∃ a2 : Nat, v1 = some a2 ∧ (∃ n3 f4, xaI w a2 (E.1 1) = some (n3, f4) ∧ vp_in x4 n3 ∧ (((f4 x4.toNatClampNeg) ≤ x5 → (K w x0 x1 x2 (x4 + 1))) ∧ (¬ (f4 x4.toNatClampNeg) ≤ x5 → (∃ v5, xgR w x0 5 6 = some v5 ∧ (∃ a6 : Nat, v5 = some a6 ∧ (∃ n7 f8, xaI w a6 (E.1 1) = some (n7, f8) ∧ vp_in x4 n7 ∧ ((¬ (f8 x4.toNatClampNeg) = 0 → (K w x0 x1 x2 (x4 + 1))) ∧ ((f8 x4.toNatClampNeg) = 0 → (∃ v9, xgR w x0 5 13 = some v9 ∧ (∃ a10 : Nat, v9 = some a10 ∧ (∃ n11 f12, xaL w a10 (E.1 2) = some (n11, f12) ∧ vp_in ((12 * x4) + x5) n11 ∧ (∃ v13, xgR w x0 5 12 = some v13 ∧ (∃ a14 : Nat, v13 = some a14 ∧ (∃ n15 f16, xaI w a14 (E.1 1) = some (n15, f16) ∧ vp_in ((12 * x4) + x5) n15 ∧ ((¬ (f16 ((12 * x4) + x5).toNatClampNeg) = x1 → (wl_MO_hold_34 E post K n34 w x0 x1 x2 x4 (x5 + 1))) ∧ ((f16 ((12 * x4) + x5).toNatClampNeg) = x1 → ((0 ≤ (f12 ((12 * x4) + x5).toNatClampNeg) → (wl_MO_hold_34 E post K n34 w x0 x1 x2 x4 (x5 + 1))) ∧ (¬ 0 ≤ (f12 ((12 * x4) + x5).toNatClampNeg) → (wl_MO_hold_34 E post K n34 w x0 x1 (x2 - (f12 ((12 * x4) + x5).toNatClampNeg)) x4 (x5 + 1)))))))))))))))))))))
def wl_MO_hold_22 (E : xE_T) (post : Int64 → xw_T → Prop) : Nat → xw_T → Nat → Int32 → Int64 → Int32 → Prop
  | 0 => fun _ _ _ _ _ => False
  | n22 + 1 => fun w x0 x1 x2 x4 => ∃ v17, xgI w x0 5 5 = some v17 ∧ ((v17 < x4 → (post x2 w)) ∧ (¬ v17 < x4 → (∃ n34, wl_MO_hold_34 E post (fun w x0 x1 x2 x4 => wl_MO_hold_22 E post n22 w x0 x1 x2 x4) n34 w x0 x1 x2 x4 0)))
def wp_MO_hold (E : xE_T) (post : Int64 → xw_T → Prop) (w : xw_T) (h0 : Nat) (p0 : Int32) : Prop := (∃ v0, xg w h0 5 0 = some v0) ∧ ∀ w18, w18 = xp w h0 0 (.int 0) → ((∃ fs, w18 h0 = some (.inr (5, fs))) ∧ wp_MO_isAccount E (fun r19 w20 => (¬ r19 = 0 → (∃ n22, wl_MO_hold_22 E post n22 w20 h0 p0 0 1)) ∧ (r19 = 0 → (post (-2000000001) w20))) w18 h0 p0)
set_option maxHeartbeats 4000000 in
set_option maxRecDepth 100000 in
theorem c_MO_hold (l : Launch) (D : va_G) (E : xE_T) (A : Nat → Prop) (post : Int64 → xw_T → Prop) (w : xw_T) (h0 : Nat) (p0 : Int32) (h : wp_MO_hold E post w h0 p0) : Met l yMO_hold (xW yMO_hold cMO_hold 8 (some (.long))) ({ frames := 2, cells := 0, slots := 0, locals := 46 } : Room) (va_Pc [.ref h0, .int p0] (xP D E A w)) (va_Ql post (xB D A) A) 0 0 A := by
  refine Met.ofW (cc := cMO_hold) (maxL := 8) (ret := (some (.long))) (by decide) rfl ?_
  intro p e s m args below meth c s₁ B hml hv
  obtain ⟨rfl, hw, hK, hE⟩ := hv
  have hx := B.exec
  have hb := B.bytes
  have hr := B.returns
  have hts : ∀ w ∈ xTB, w.before _ s = true := fun w hw => atoms_spec (ws := xW yMO_hold cMO_hold 8 (some (.long))) B.pre w (List.mem_cons_of_mem _ hw)
  have hown : s.vm.findClass RMO = some m.cls := findClass_of_methodNamed B.named
  have hlocks := B.notSynchronized
  have hw : xw_S D vwCl A s.heap w s.heap [] := xw_S0 hw
  have lo_22 : ∀ (n22 : Nat) (w : xw_T) (x0 : Nat) (x1 : Int32) (x2 : Int64) (x4 : Int32) (H : Heap) (locs : List Loc) (ls : Array Slot), lv_has ls 8 [(0, .ref x0), (1, .int x1), (2, .long x2), (4, .int x4)] → xw_S D vwCl A s.heap w H locs → wl_MO_hold_22 E post n22 w x0 x1 x2 x4 → W p l e (headSpec (xW yMO_hold cMO_hold 8 (some (.long))) ({ frames := 2, cells := 0, slots := 0, locals := 46 } : Room)).room s m ([.ref h0, .int p0] : List Value).toArray below meth c H locs 0 0 (MQ below (va_Ql post (xB D A) A) ([.ref h0, .int p0] : List Value).toArray s 0 0 A) (F0 m 22 ls []) := by
    intro n22
    induction n22 with
    | zero => intro w x0 x1 x2 x4 H locs ls hl hw h; exact h.elim
    | succ n22 ih22 =>
      have lo_34 : ∀ (n34 : Nat) (w : xw_T) (x0 : Nat) (x1 : Int32) (x2 : Int64) (x4 : Int32) (x5 : Int32) (H : Heap) (locs : List Loc) (ls : Array Slot), lv_has ls 8 [(0, .ref x0), (1, .int x1), (2, .long x2), (4, .int x4), (5, .int x5)] → xw_S D vwCl A s.heap w H locs → wl_MO_hold_34 E post (fun w x0 x1 x2 x4 => wl_MO_hold_22 E post n22 w x0 x1 x2 x4) n34 w x0 x1 x2 x4 x5 → W p l e (headSpec (xW yMO_hold cMO_hold 8 (some (.long))) ({ frames := 2, cells := 0, slots := 0, locals := 46 } : Room)).room s m ([.ref h0, .int p0] : List Value).toArray below meth c H locs 0 0 (MQ below (va_Ql post (xB D A) A) ([.ref h0, .int p0] : List Value).toArray s 0 0 A) (F0 m 34 ls []) := by
        intro n34
        induction n34 with
        | zero => intro w x0 x1 x2 x4 x5 H locs ls hl hw h; exact h.elim
        | succ n34 ih34 =>
          intro w x0 x1 x2 x4 x5 H locs ls hl hw h
          dsimp only [wl_MO_hold_34] at h
          refine lv_iload hx hb dMO_hold_34 (lv_at hl 4 rfl) ?_
          refine lv_aload_n hx hb dMO_hold_36 rfl (lv_at hl 0 rfl) ?_
          obtain ⟨v1, hv, h⟩ := h
          refine xw_getR (C := RMO) (T := TMO) (N := 17) (ref := RMO) hx hb hts inMO hown hK hw rfl 11 (by decide) (hts _ mw_277) (fun _ h9 => h9) hv dMO_hold_37 ?_
          refine lv_iload hx hb dMO_hold_40 (lv_at hl 3 rfl) ?_
          obtain ⟨a2, rfl, h⟩ := h
          obtain ⟨n3, f4, ha, hin9, h⟩ := h
          refine xw_iald hx hb hK hw 1 rfl ha hin9 dMO_hold_42 ?_
          refine lv_icmp_ge (tgt := 110) hx hb dMO_hold_43 rfl (fun hc => ?_) (fun hc => ?_)
          · replace h := h.1 hc
            refine lv_iinc (k := 3) (v := x4 + 1) (lv' := [(4, .int (x4 + 1)), (0, .ref x0), (1, .int x1), (2, .long x2), (5, .int x5)]) hx hb dMO_hold_110 hl rfl rfl (by decide) (by first | rfl | simp [va_rf_cat, xcat_i, xcat_l, xcat_r, xcat_n]) (fun ls hl => ?_)
            refine lv_goto (tgt := 22) hx hb dMO_hold_113 rfl ?_
            exact ih22 _ x0 x1 x2 (x4 + 1) _ _ _ (lv_sub hl [1, 2, 3, 0] rfl) hw h
          · replace h := h.2 hc
            refine lv_aload_n hx hb dMO_hold_46 rfl (lv_at hl 0 rfl) ?_
            obtain ⟨v5, hv, h⟩ := h
            refine xw_getR (C := RMO) (T := TMO) (N := 17) (ref := RMO) hx hb hts inMO hown hK hw rfl 6 (by decide) (hts _ mw_283) (fun _ h9 => h9) hv dMO_hold_47 ?_
            refine lv_iload hx hb dMO_hold_50 (lv_at hl 3 rfl) ?_
            obtain ⟨a6, rfl, h⟩ := h
            obtain ⟨n7, f8, ha, hin9, h⟩ := h
            refine xw_iald hx hb hK hw 1 rfl ha hin9 dMO_hold_52 ?_
            refine lv_if_ne (tgt := 110) hx hb dMO_hold_53 rfl (fun hc => ?_) (fun hc => ?_)
            · replace h := h.1 hc
              refine lv_iinc (k := 3) (v := x4 + 1) (lv' := [(4, .int (x4 + 1)), (0, .ref x0), (1, .int x1), (2, .long x2), (5, .int x5)]) hx hb dMO_hold_110 hl rfl rfl (by decide) (by first | rfl | simp [va_rf_cat, xcat_i, xcat_l, xcat_r, xcat_n]) (fun ls hl => ?_)
              refine lv_goto (tgt := 22) hx hb dMO_hold_113 rfl ?_
              exact ih22 _ x0 x1 x2 (x4 + 1) _ _ _ (lv_sub hl [1, 2, 3, 0] rfl) hw h
            · replace h := h.2 hc
              refine lv_aload_n hx hb dMO_hold_56 rfl (lv_at hl 0 rfl) ?_
              obtain ⟨v9, hv, h⟩ := h
              refine xw_getR (C := RMO) (T := TMO) (N := 17) (ref := RMO) hx hb hts inMO hown hK hw rfl 13 (by decide) (hts _ mw_274) (fun _ h9 => h9) hv dMO_hold_57 ?_
              refine lv_bipush (v := 12) hx hb dMO_hold_60 (by decide) ?_
              refine lv_iload hx hb dMO_hold_62 (lv_at hl 3 rfl) ?_
              refine lv_imul hx hb dMO_hold_64 ?_
              refine lv_iload hx hb dMO_hold_65 (lv_at hl 4 rfl) ?_
              refine lv_iadd hx hb dMO_hold_67 ?_
              obtain ⟨a10, rfl, h⟩ := h
              obtain ⟨n11, f12, ha, hin9, h⟩ := h
              refine xw_lald hx hb hK hw 2 rfl ha hin9 dMO_hold_68 ?_
              refine lv_lstore (i := 6) (lv' := [(6, .long (f12 ((12 * x4) + x5).toNatClampNeg)), (0, .ref x0), (1, .int x1), (2, .long x2), (4, .int x4), (5, .int x5)]) hx hb dMO_hold_69 hl (by decide) (by first | rfl | simp [va_rf_cat, xcat_i, xcat_l, xcat_r, xcat_n]) (fun ls hl => ?_)
              refine lv_aload_n hx hb dMO_hold_71 rfl (lv_at hl 1 rfl) ?_
              obtain ⟨v13, hv, h⟩ := h
              refine xw_getR (C := RMO) (T := TMO) (N := 17) (ref := RMO) hx hb hts inMO hown hK hw rfl 12 (by decide) (hts _ mw_276) (fun _ h9 => h9) hv dMO_hold_72 ?_
              refine lv_bipush (v := 12) hx hb dMO_hold_75 (by decide) ?_
              refine lv_iload hx hb dMO_hold_77 (lv_at hl 4 rfl) ?_
              refine lv_imul hx hb dMO_hold_79 ?_
              refine lv_iload hx hb dMO_hold_80 (lv_at hl 5 rfl) ?_
              refine lv_iadd hx hb dMO_hold_82 ?_
              obtain ⟨a14, rfl, h⟩ := h
              obtain ⟨n15, f16, ha, hin9, h⟩ := h
              refine xw_iald hx hb hK hw 1 rfl ha hin9 dMO_hold_83 ?_
              refine lv_iload_n hx hb dMO_hold_84 rfl (lv_at hl 2 rfl) ?_
              refine lv_icmp_ne (tgt := 102) hx hb dMO_hold_85 rfl (fun hc => ?_) (fun hc => ?_)
              · replace h := h.1 hc
                refine lv_lload_n hx hb dMO_hold_102 rfl (lv_at hl 3 rfl) ?_
                refine lv_lstore_n (i := 2) (lv' := [(2, .long x2), (6, .long (f12 ((12 * x4) + x5).toNatClampNeg)), (0, .ref x0), (1, .int x1), (4, .int x4), (5, .int x5)]) hx hb dMO_hold_103 rfl hl (by decide) (by first | rfl | simp [va_rf_cat, xcat_i, xcat_l, xcat_r, xcat_n]) (fun ls hl => ?_)
                refine lv_iinc (k := 5) (v := x5 + 1) (lv' := [(5, .int (x5 + 1)), (2, .long x2), (6, .long (f12 ((12 * x4) + x5).toNatClampNeg)), (0, .ref x0), (1, .int x1), (4, .int x4)]) hx hb dMO_hold_104 hl rfl rfl (by decide) (by first | rfl | simp [va_rf_cat, xcat_i, xcat_l, xcat_r, xcat_n]) (fun ls hl => ?_)
                refine lv_goto (tgt := 34) hx hb dMO_hold_107 rfl ?_
                exact ih34 _ x0 x1 x2 x4 (x5 + 1) _ _ _ (lv_sub hl [3, 4, 1, 5, 0] rfl) hw h
              · replace h := h.2 hc
                refine lv_lload hx hb dMO_hold_88 (lv_at hl 0 rfl) ?_
                refine lv_lconst (v := 0) hx hb dMO_hold_90 (by decide) ?_
                refine xl_lc_ge (tgt := 102) hx hb dMO_hold_91 dMO_hold_92 rfl (fun hc => ?_) (fun hc => ?_)
                · replace h := h.1 hc
                  refine lv_lload_n hx hb dMO_hold_102 rfl (lv_at hl 3 rfl) ?_
                  refine lv_lstore_n (i := 2) (lv' := [(2, .long x2), (6, .long (f12 ((12 * x4) + x5).toNatClampNeg)), (0, .ref x0), (1, .int x1), (4, .int x4), (5, .int x5)]) hx hb dMO_hold_103 rfl hl (by decide) (by first | rfl | simp [va_rf_cat, xcat_i, xcat_l, xcat_r, xcat_n]) (fun ls hl => ?_)
                  refine lv_iinc (k := 5) (v := x5 + 1) (lv' := [(5, .int (x5 + 1)), (2, .long x2), (6, .long (f12 ((12 * x4) + x5).toNatClampNeg)), (0, .ref x0), (1, .int x1), (4, .int x4)]) hx hb dMO_hold_104 hl rfl rfl (by decide) (by first | rfl | simp [va_rf_cat, xcat_i, xcat_l, xcat_r, xcat_n]) (fun ls hl => ?_)
                  refine lv_goto (tgt := 34) hx hb dMO_hold_107 rfl ?_
                  exact ih34 _ x0 x1 x2 x4 (x5 + 1) _ _ _ (lv_sub hl [3, 4, 1, 5, 0] rfl) hw h
                · replace h := h.2 hc
                  refine lv_lload_n hx hb dMO_hold_95 rfl (lv_at hl 3 rfl) ?_
                  refine lv_lload hx hb dMO_hold_96 (lv_at hl 0 rfl) ?_
                  refine lv_lsub hx hb dMO_hold_98 ?_
                  refine lv_goto (tgt := 103) hx hb dMO_hold_99 rfl ?_
                  refine lv_lstore_n (i := 2) (lv' := [(2, .long (x2 - (f12 ((12 * x4) + x5).toNatClampNeg))), (6, .long (f12 ((12 * x4) + x5).toNatClampNeg)), (0, .ref x0), (1, .int x1), (4, .int x4), (5, .int x5)]) hx hb dMO_hold_103 rfl hl (by decide) (by first | rfl | simp [va_rf_cat, xcat_i, xcat_l, xcat_r, xcat_n]) (fun ls hl => ?_)
                  refine lv_iinc (k := 5) (v := x5 + 1) (lv' := [(5, .int (x5 + 1)), (2, .long (x2 - (f12 ((12 * x4) + x5).toNatClampNeg))), (6, .long (f12 ((12 * x4) + x5).toNatClampNeg)), (0, .ref x0), (1, .int x1), (4, .int x4)]) hx hb dMO_hold_104 hl rfl rfl (by decide) (by first | rfl | simp [va_rf_cat, xcat_i, xcat_l, xcat_r, xcat_n]) (fun ls hl => ?_)
                  refine lv_goto (tgt := 34) hx hb dMO_hold_107 rfl ?_
                  exact ih34 _ x0 x1 (x2 - (f12 ((12 * x4) + x5).toNatClampNeg)) x4 (x5 + 1) _ _ _ (lv_sub hl [3, 4, 1, 5, 0] rfl) hw h
      intro w x0 x1 x2 x4 H locs ls hl hw h
      dsimp only [wl_MO_hold_22] at h
      refine lv_iload hx hb dMO_hold_22 (lv_at hl 3 rfl) ?_
      refine lv_aload_n hx hb dMO_hold_24 rfl (lv_at hl 0 rfl) ?_
      obtain ⟨v17, hv, h⟩ := h
      refine xw_getI (C := RMO) (T := TMO) (N := 17) (ref := RMO) hx hb hts inMO hown hK hw rfl 5 (by decide) (hts _ mw_298) (fun _ h9 => h9) hv dMO_hold_25 ?_
      refine lv_icmp_gt (tgt := 116) hx hb dMO_hold_28 rfl (fun hc => ?_) (fun hc => ?_)
      · replace h := h.1 hc
        refine lv_lload_n hx hb dMO_hold_116 rfl (lv_at hl 2 rfl) ?_
        refine W.widen (k := 0) (n := 0) (Nat.le_of_ble_eq_true rfl) (Nat.le_of_ble_eq_true rfl) ?_
        exact xw_lret hx hb hr hlocks hw h dMO_hold_117
      · replace h := h.2 hc
        refine lv_iconst (v := 0) hx hb dMO_hold_31 (by decide) ?_
        refine lv_istore (i := 5) (lv' := [(5, .int 0), (0, .ref x0), (1, .int x1), (2, .long x2), (4, .int x4)]) hx hb dMO_hold_32 hl (by decide) (by first | rfl | simp [va_rf_cat, xcat_i, xcat_l, xcat_r, xcat_n]) (fun ls hl => ?_)
        obtain ⟨n34, h⟩ := h
        refine W.widen (k := 0) (n := 0) (Nat.le_of_ble_eq_true rfl) (Nat.le_of_ble_eq_true rfl) ?_
        exact lo_34 n34 _ x0 x1 x2 x4 0 _ _ _ (lv_sub hl [1, 2, 3, 4, 0] rfl) hw h
  refine xl_start (lvs := [(0, .ref h0), (1, .int p0)]) (by first | exact Nat.le_of_ble_eq_true rfl | simp [lg_sl, va_rf_cat, xcat_i, xcat_l, xcat_r, xcat_n]) (by first | rfl | simp [lv_args, va_rf_cat, xcat_i, xcat_l, xcat_r, xcat_n]) (fun ls hl => ?_)
  unfold wp_MO_hold at h
  refine lv_aload_n hx hb dMO_hold_0 rfl (lv_at hl 0 rfl) ?_
  refine lv_iconst (v := 0) hx hb dMO_hold_1 (by decide) ?_
  obtain ⟨hv, h⟩ := h
  refine xw_put (ty := (.int)) (C := RMO) (T := TMO) (N := 17) (ref := RMO) hx hb hts inMO tyMO tyMO_ok nmMO hown hK hw rfl 0 (by decide) (hts _ mw_288) (fun _ h9 => h9) rfl (by decide +kernel) rfl rfl hv dMO_hold_2 (fun H locs hw => ?_)
  replace h := h _ rfl
  generalize xp w h0 0 (.int 0) = w18 at hw h
  refine lv_aload_n hx hb dMO_hold_5 rfl (lv_at hl 0 rfl) ?_
  refine lv_iload_n hx hb dMO_hold_6 rfl (lv_at hl 1 rfl) ?_
  obtain ⟨⟨fs, hk⟩, h⟩ := h
  have hcall := h
  clear h
  refine xw_calli (va_runV (As := [.int p0]) (rest := []) ⟨hx, hb, hml, hown, hts⟩ (c_MO_isAccount l D E A _ w18 h0 p0 hcall) (cwV 1 hts (xG_V mw_311 mw_312 mw_313 mw_294 mw_314) rfl rfl rfl (by decide +kernel) ⟨(Nat.le_of_ble_eq_true rfl), (Nat.le_of_ble_eq_true rfl)⟩) (xw_preV (ci := 5) hw hK hE rfl hk) rfl rfl hl.1 rfl (lv_room (by first | exact Nat.le_of_ble_eq_true rfl | simp [va_rf_cat, xcat_i, xcat_l, xcat_r, xcat_n])) dMO_hold_7 ⟨(Nat.le_of_ble_eq_true rfl), (Nat.le_of_ble_eq_true rfl)⟩) hw (fun r19 w20 H locs h hw => ?_)
  clear hcall
  refine lv_if_ne (tgt := 17) hx hb dMO_hold_10 rfl (fun hc => ?_) (fun hc => ?_)
  · replace h := h.1 hc
    refine lv_lconst (v := 0) hx hb dMO_hold_17 (by decide) ?_
    refine lv_lstore_n (i := 2) (lv' := [(2, .long 0), (0, .ref h0), (1, .int p0)]) hx hb dMO_hold_18 rfl hl (by decide) (by first | rfl | simp [va_rf_cat, xcat_i, xcat_l, xcat_r, xcat_n]) (fun ls hl => ?_)
    refine lv_iconst (v := 1) hx hb dMO_hold_19 (by decide) ?_
    refine lv_istore (i := 4) (lv' := [(4, .int 1), (2, .long 0), (0, .ref h0), (1, .int p0)]) hx hb dMO_hold_20 hl (by decide) (by first | rfl | simp [va_rf_cat, xcat_i, xcat_l, xcat_r, xcat_n]) (fun ls hl => ?_)
    obtain ⟨n22, h⟩ := h
    refine W.widen (k := 0) (n := 0) (Nat.le_of_ble_eq_true rfl) (Nat.le_of_ble_eq_true rfl) ?_
    exact lo_22 n22 _ h0 p0 0 1 _ _ _ (lv_sub hl [2, 3, 1, 0] rfl) hw h
  · replace h := h.2 hc
    refine lv_ldc2 (v := (-2000000001)) hx hb hown (hts _ mw_338) dMO_hold_13 ?_
    refine W.widen (k := 0) (n := 0) (Nat.le_of_ble_eq_true rfl) (Nat.le_of_ble_eq_true rfl) ?_
    exact xw_lret hx hb hr hlocks hw h dMO_hold_16
def wl_MO_rows_9 (E : xE_T) (post : Int32 → xw_T → Prop) : Nat → xw_T → Nat → Int32 → Int32 → Prop
  | 0 => fun _ _ _ _ => False
  | n9 + 1 => fun w x0 x1 x2 => ∃ v1, xgI w x0 5 14 = some v1 ∧ ((v1 ≤ x2 → (post x1 w)) ∧ (¬ v1 ≤ x2 → (∃ v2, xgR w x0 5 11 = some v2 ∧ (∃ v3, xgR w x0 5 15 = some v3 ∧ (∃ a4 : Nat, v3 = some a4 ∧ (∃ n5 f6, xaI w a4 (E.1 1) = some (n5, f6) ∧ vp_in x2 n5 ∧ (∃ a7 : Nat, v2 = some a7 ∧ (∃ n8 f9, xaI w a7 (E.1 1) = some (n8, f9) ∧ vp_in (f6 x2.toNatClampNeg) n8 ∧ (wl_MO_rows_9 E post n9 w x0 (x1 + (f9 (f6 x2.toNatClampNeg).toNatClampNeg)) (x2 + 1))))))))))
def wp_MO_rows (E : xE_T) (post : Int32 → xw_T → Prop) (w : xw_T) (h0 : Nat) : Prop := (∃ v0, xg w h0 5 0 = some v0) ∧ ∀ w10, w10 = xp w h0 0 (.int 0) → (∃ n9, wl_MO_rows_9 E post n9 w10 h0 0 0)
set_option maxHeartbeats 4000000 in
set_option maxRecDepth 100000 in
theorem c_MO_rows (l : Launch) (D : va_G) (E : xE_T) (A : Nat → Prop) (post : Int32 → xw_T → Prop) (w : xw_T) (h0 : Nat) (h : wp_MO_rows E post w h0) : Met l yMO_rows (xW yMO_rows cMO_rows 3 (some (.int))) ({ frames := 0, cells := 0, slots := 0, locals := 0 } : Room) (va_Pc [.ref h0] (xP D E A w)) (va_Qi post (xB D A) A) 0 0 A := by
  refine Met.ofW (cc := cMO_rows) (maxL := 3) (ret := (some (.int))) (by decide) rfl ?_
  intro p e s m args below meth c s₁ B hml hv
  obtain ⟨rfl, hw, hK, hE⟩ := hv
  have hx := B.exec
  have hb := B.bytes
  have hr := B.returns
  have hts : ∀ w ∈ xTB, w.before _ s = true := fun w hw => atoms_spec (ws := xW yMO_rows cMO_rows 3 (some (.int))) B.pre w (List.mem_cons_of_mem _ hw)
  have hown : s.vm.findClass RMO = some m.cls := findClass_of_methodNamed B.named
  have hlocks := B.notSynchronized
  have hw : xw_S D vwCl A s.heap w s.heap [] := xw_S0 hw
  have lo_9 : ∀ (n9 : Nat) (w : xw_T) (x0 : Nat) (x1 : Int32) (x2 : Int32) (H : Heap) (locs : List Loc) (ls : Array Slot), lv_has ls 3 [(0, .ref x0), (1, .int x1), (2, .int x2)] → xw_S D vwCl A s.heap w H locs → wl_MO_rows_9 E post n9 w x0 x1 x2 → W p l e (headSpec (xW yMO_rows cMO_rows 3 (some (.int))) ({ frames := 0, cells := 0, slots := 0, locals := 0 } : Room)).room s m ([.ref h0] : List Value).toArray below meth c H locs 0 0 (MQ below (va_Qi post (xB D A) A) ([.ref h0] : List Value).toArray s 0 0 A) (F0 m 9 ls []) := by
    intro n9
    induction n9 with
    | zero => intro w x0 x1 x2 H locs ls hl hw h; exact h.elim
    | succ n9 ih9 =>
      intro w x0 x1 x2 H locs ls hl hw h
      dsimp only [wl_MO_rows_9] at h
      refine lv_iload_n hx hb dMO_rows_9 rfl (lv_at hl 2 rfl) ?_
      refine lv_aload_n hx hb dMO_rows_10 rfl (lv_at hl 0 rfl) ?_
      obtain ⟨v1, hv, h⟩ := h
      refine xw_getI (C := RMO) (T := TMO) (N := 17) (ref := RMO) hx hb hts inMO hown hK hw rfl 14 (by decide) (hts _ mw_323) (fun _ h9 => h9) hv dMO_rows_11 ?_
      refine lv_icmp_ge (tgt := 37) hx hb dMO_rows_14 rfl (fun hc => ?_) (fun hc => ?_)
      · replace h := h.1 hc
        refine lv_iload_n hx hb dMO_rows_37 rfl (lv_at hl 1 rfl) ?_
        refine W.widen (k := 0) (n := 0) (Nat.le_of_ble_eq_true rfl) (Nat.le_of_ble_eq_true rfl) ?_
        exact xw_iret hx hb hr hlocks hw h dMO_rows_38
      · replace h := h.2 hc
        refine lv_iload_n hx hb dMO_rows_17 rfl (lv_at hl 1 rfl) ?_
        refine lv_aload_n hx hb dMO_rows_18 rfl (lv_at hl 0 rfl) ?_
        obtain ⟨v2, hv, h⟩ := h
        refine xw_getR (C := RMO) (T := TMO) (N := 17) (ref := RMO) hx hb hts inMO hown hK hw rfl 11 (by decide) (hts _ mw_277) (fun _ h9 => h9) hv dMO_rows_19 ?_
        refine lv_aload_n hx hb dMO_rows_22 rfl (lv_at hl 0 rfl) ?_
        obtain ⟨v3, hv, h⟩ := h
        refine xw_getR (C := RMO) (T := TMO) (N := 17) (ref := RMO) hx hb hts inMO hown hK hw rfl 15 (by decide) (hts _ mw_272) (fun _ h9 => h9) hv dMO_rows_23 ?_
        refine lv_iload_n hx hb dMO_rows_26 rfl (lv_at hl 2 rfl) ?_
        obtain ⟨a4, rfl, h⟩ := h
        obtain ⟨n5, f6, ha, hin9, h⟩ := h
        refine xw_iald hx hb hK hw 1 rfl ha hin9 dMO_rows_27 ?_
        obtain ⟨a7, rfl, h⟩ := h
        obtain ⟨n8, f9, ha, hin9, h⟩ := h
        refine xw_iald hx hb hK hw 1 rfl ha hin9 dMO_rows_28 ?_
        refine lv_iadd hx hb dMO_rows_29 ?_
        refine lv_istore_n (i := 1) (lv' := [(1, .int (x1 + (f9 (f6 x2.toNatClampNeg).toNatClampNeg))), (0, .ref x0), (2, .int x2)]) hx hb dMO_rows_30 rfl hl (by decide) (by first | rfl | simp [va_rf_cat, xcat_i, xcat_l, xcat_r, xcat_n]) (fun ls hl => ?_)
        refine lv_iinc (k := 2) (v := x2 + 1) (lv' := [(2, .int (x2 + 1)), (1, .int (x1 + (f9 (f6 x2.toNatClampNeg).toNatClampNeg))), (0, .ref x0)]) hx hb dMO_rows_31 hl rfl rfl (by decide) (by first | rfl | simp [va_rf_cat, xcat_i, xcat_l, xcat_r, xcat_n]) (fun ls hl => ?_)
        refine lv_goto (tgt := 9) hx hb dMO_rows_34 rfl ?_
        exact ih9 _ x0 (x1 + (f9 (f6 x2.toNatClampNeg).toNatClampNeg)) (x2 + 1) _ _ _ (lv_sub hl [2, 1, 0] rfl) hw h
  refine xl_start (lvs := [(0, .ref h0)]) (by first | exact Nat.le_of_ble_eq_true rfl | simp [lg_sl, va_rf_cat, xcat_i, xcat_l, xcat_r, xcat_n]) (by first | rfl | simp [lv_args, va_rf_cat, xcat_i, xcat_l, xcat_r, xcat_n]) (fun ls hl => ?_)
  unfold wp_MO_rows at h
  refine lv_aload_n hx hb dMO_rows_0 rfl (lv_at hl 0 rfl) ?_
  refine lv_iconst (v := 0) hx hb dMO_rows_1 (by decide) ?_
  obtain ⟨hv, h⟩ := h
  refine xw_put (ty := (.int)) (C := RMO) (T := TMO) (N := 17) (ref := RMO) hx hb hts inMO tyMO tyMO_ok nmMO hown hK hw rfl 0 (by decide) (hts _ mw_288) (fun _ h9 => h9) rfl (by decide +kernel) rfl rfl hv dMO_rows_2 (fun H locs hw => ?_)
  replace h := h _ rfl
  generalize xp w h0 0 (.int 0) = w10 at hw h
  refine lv_iconst (v := 0) hx hb dMO_rows_5 (by decide) ?_
  refine lv_istore_n (i := 1) (lv' := [(1, .int 0), (0, .ref h0)]) hx hb dMO_rows_6 rfl hl (by decide) (by first | rfl | simp [va_rf_cat, xcat_i, xcat_l, xcat_r, xcat_n]) (fun ls hl => ?_)
  refine lv_iconst (v := 0) hx hb dMO_rows_7 (by decide) ?_
  refine lv_istore_n (i := 2) (lv' := [(2, .int 0), (1, .int 0), (0, .ref h0)]) hx hb dMO_rows_8 rfl hl (by decide) (by first | rfl | simp [va_rf_cat, xcat_i, xcat_l, xcat_r, xcat_n]) (fun ls hl => ?_)
  obtain ⟨n9, h⟩ := h
  refine W.widen (k := 0) (n := 0) (Nat.le_of_ble_eq_true rfl) (Nat.le_of_ble_eq_true rfl) ?_
  exact lo_9 n9 _ h0 0 0 _ _ _ (lv_sub hl [2, 1, 0] rfl) hw h
def wl_MO_all_9 (E : xE_T) (post : Int64 → xw_T → Prop) : Nat → xw_T → Nat → Int64 → Int32 → Prop
  | 0 => fun _ _ _ _ => False
  | n9 + 1 => fun w x0 x1 x3 => ∃ v1, xgI w x0 5 1 = some v1 ∧ ((v1 < x3 → (post x1 w)) ∧ (¬ v1 < x3 → ((∃ fs, w x0 = some (.inr (5, fs))) ∧ wp_MO_balanceOf E (fun r2 w3 => wl_MO_all_9 E post n9 w3 x0 (x1 + r2) (x3 + 1)) w x0 x3 9223372036854775807)))
def wp_MO_all (E : xE_T) (post : Int64 → xw_T → Prop) (w : xw_T) (h0 : Nat) : Prop := (∃ v0, xg w h0 5 0 = some v0) ∧ ∀ w4, w4 = xp w h0 0 (.int 0) → (∃ n9, wl_MO_all_9 E post n9 w4 h0 0 1)
set_option maxHeartbeats 4000000 in
set_option maxRecDepth 100000 in
theorem c_MO_all (l : Launch) (D : va_G) (E : xE_T) (A : Nat → Prop) (post : Int64 → xw_T → Prop) (w : xw_T) (h0 : Nat) (h : wp_MO_all E post w h0) : Met l yMO_all (xW yMO_all cMO_all 4 (some (.long))) ({ frames := 2, cells := 0, slots := 0, locals := 53 } : Room) (va_Pc [.ref h0] (xP D E A w)) (va_Ql post (xB D A) A) 0 0 A := by
  refine Met.ofW (cc := cMO_all) (maxL := 4) (ret := (some (.long))) (by decide) rfl ?_
  intro p e s m args below meth c s₁ B hml hv
  obtain ⟨rfl, hw, hK, hE⟩ := hv
  have hx := B.exec
  have hb := B.bytes
  have hr := B.returns
  have hts : ∀ w ∈ xTB, w.before _ s = true := fun w hw => atoms_spec (ws := xW yMO_all cMO_all 4 (some (.long))) B.pre w (List.mem_cons_of_mem _ hw)
  have hown : s.vm.findClass RMO = some m.cls := findClass_of_methodNamed B.named
  have hlocks := B.notSynchronized
  have hw : xw_S D vwCl A s.heap w s.heap [] := xw_S0 hw
  have lo_9 : ∀ (n9 : Nat) (w : xw_T) (x0 : Nat) (x1 : Int64) (x3 : Int32) (H : Heap) (locs : List Loc) (ls : Array Slot), lv_has ls 4 [(0, .ref x0), (1, .long x1), (3, .int x3)] → xw_S D vwCl A s.heap w H locs → wl_MO_all_9 E post n9 w x0 x1 x3 → W p l e (headSpec (xW yMO_all cMO_all 4 (some (.long))) ({ frames := 2, cells := 0, slots := 0, locals := 53 } : Room)).room s m ([.ref h0] : List Value).toArray below meth c H locs 0 0 (MQ below (va_Ql post (xB D A) A) ([.ref h0] : List Value).toArray s 0 0 A) (F0 m 9 ls []) := by
    intro n9
    induction n9 with
    | zero => intro w x0 x1 x3 H locs ls hl hw h; exact h.elim
    | succ n9 ih9 =>
      intro w x0 x1 x3 H locs ls hl hw h
      dsimp only [wl_MO_all_9] at h
      refine lv_iload_n hx hb dMO_all_9 rfl (lv_at hl 2 rfl) ?_
      refine lv_aload_n hx hb dMO_all_10 rfl (lv_at hl 0 rfl) ?_
      obtain ⟨v1, hv, h⟩ := h
      refine xw_getI (C := RMO) (T := TMO) (N := 17) (ref := RMO) hx hb hts inMO hown hK hw rfl 1 (by decide) (hts _ mw_290) (fun _ h9 => h9) hv dMO_all_11 ?_
      refine lv_icmp_gt (tgt := 34) hx hb dMO_all_14 rfl (fun hc => ?_) (fun hc => ?_)
      · replace h := h.1 hc
        refine lv_lload_n hx hb dMO_all_34 rfl (lv_at hl 1 rfl) ?_
        refine W.widen (k := 0) (n := 0) (Nat.le_of_ble_eq_true rfl) (Nat.le_of_ble_eq_true rfl) ?_
        exact xw_lret hx hb hr hlocks hw h dMO_all_35
      · replace h := h.2 hc
        refine lv_lload_n hx hb dMO_all_17 rfl (lv_at hl 1 rfl) ?_
        refine lv_aload_n hx hb dMO_all_18 rfl (lv_at hl 0 rfl) ?_
        refine lv_iload_n hx hb dMO_all_19 rfl (lv_at hl 2 rfl) ?_
        refine lv_ldc2 (v := 9223372036854775807) hx hb hown (hts _ mw_328) dMO_all_20 ?_
        obtain ⟨⟨fs, hk⟩, h⟩ := h
        have hcall := h
        clear h
        refine xw_calll (va_runV (As := [.int x3, .long 9223372036854775807]) (rest := [.long x1]) ⟨hx, hb, hml, hown, hts⟩ (c_MO_balanceOf l D E A _ w x0 x3 9223372036854775807 hcall) (cwV 2 hts (xG_V mw_324 mw_325 mw_326 mw_294 mw_327) rfl rfl rfl (by decide +kernel) ⟨(Nat.le_of_ble_eq_true rfl), (Nat.le_of_ble_eq_true rfl)⟩) (xw_preV (ci := 5) hw hK hE rfl hk) rfl rfl hl.1 rfl (lv_room (by first | exact Nat.le_of_ble_eq_true rfl | simp [va_rf_cat, xcat_i, xcat_l, xcat_r, xcat_n])) dMO_all_23 ⟨(Nat.le_of_ble_eq_true rfl), (Nat.le_of_ble_eq_true rfl)⟩) hw (fun r2 w3 H locs h hw => ?_)
        clear hcall
        refine lv_ladd hx hb dMO_all_26 ?_
        refine lv_lstore_n (i := 1) (lv' := [(1, .long (x1 + r2)), (0, .ref x0), (3, .int x3)]) hx hb dMO_all_27 rfl hl (by decide) (by first | rfl | simp [va_rf_cat, xcat_i, xcat_l, xcat_r, xcat_n]) (fun ls hl => ?_)
        refine lv_iinc (k := 2) (v := x3 + 1) (lv' := [(3, .int (x3 + 1)), (1, .long (x1 + r2)), (0, .ref x0)]) hx hb dMO_all_28 hl rfl rfl (by decide) (by first | rfl | simp [va_rf_cat, xcat_i, xcat_l, xcat_r, xcat_n]) (fun ls hl => ?_)
        refine lv_goto (tgt := 9) hx hb dMO_all_31 rfl ?_
        exact ih9 _ x0 (x1 + r2) (x3 + 1) _ _ _ (lv_sub hl [2, 1, 0] rfl) hw h
  refine xl_start (lvs := [(0, .ref h0)]) (by first | exact Nat.le_of_ble_eq_true rfl | simp [lg_sl, va_rf_cat, xcat_i, xcat_l, xcat_r, xcat_n]) (by first | rfl | simp [lv_args, va_rf_cat, xcat_i, xcat_l, xcat_r, xcat_n]) (fun ls hl => ?_)
  unfold wp_MO_all at h
  refine lv_aload_n hx hb dMO_all_0 rfl (lv_at hl 0 rfl) ?_
  refine lv_iconst (v := 0) hx hb dMO_all_1 (by decide) ?_
  obtain ⟨hv, h⟩ := h
  refine xw_put (ty := (.int)) (C := RMO) (T := TMO) (N := 17) (ref := RMO) hx hb hts inMO tyMO tyMO_ok nmMO hown hK hw rfl 0 (by decide) (hts _ mw_288) (fun _ h9 => h9) rfl (by decide +kernel) rfl rfl hv dMO_all_2 (fun H locs hw => ?_)
  replace h := h _ rfl
  generalize xp w h0 0 (.int 0) = w4 at hw h
  refine lv_lconst (v := 0) hx hb dMO_all_5 (by decide) ?_
  refine lv_lstore_n (i := 1) (lv' := [(1, .long 0), (0, .ref h0)]) hx hb dMO_all_6 rfl hl (by decide) (by first | rfl | simp [va_rf_cat, xcat_i, xcat_l, xcat_r, xcat_n]) (fun ls hl => ?_)
  refine lv_iconst (v := 1) hx hb dMO_all_7 (by decide) ?_
  refine lv_istore_n (i := 3) (lv' := [(3, .int 1), (1, .long 0), (0, .ref h0)]) hx hb dMO_all_8 rfl hl (by decide) (by first | rfl | simp [va_rf_cat, xcat_i, xcat_l, xcat_r, xcat_n]) (fun ls hl => ?_)
  obtain ⟨n9, h⟩ := h
  refine W.widen (k := 0) (n := 0) (Nat.le_of_ble_eq_true rfl) (Nat.le_of_ble_eq_true rfl) ?_
  exact lo_9 n9 _ h0 0 1 _ _ _ (lv_sub hl [2, 1, 0] rfl) hw h
end
section
/-! A METHOD THAT MAY THROW -/
/-- it threw x, an IllegalStateException; the map stands -/
def xThr (D : va_G) (A : Nat → Prop) (postT : xw_T → Prop) (x : Addr) (st t : State) : Prop := (∃ w : xw_T, postT w ∧ xB D A w t) ∧ va_F A st t ∧ ∃ ce : Cell, t.heap[x]? = some ce ∧ ce.vm = .none ∧ st.vm.findClass xEx = some ce.cls
def xTE (D : va_G) (A : Nat → Prop) (post : Int32 → xw_T → Prop) (postT : xw_T → Prop) (mc ms : Nat) (a : Array Value) (s : State) (o : Outcome) (t : State) : Prop :=
  (va_Qi post (xB D A) A a s o t ∧ ∃ L, FrameEnd s o t L mc ms ∧ ∀ q ∈ L, A q.base) ∨ ∃ (x : Addr) (L : List Loc), o = .threw x ∧ xThr D A postT x s t ∧ s.WarmedH t.vm ∧ s.sameButNew ({ t with vm := s.vm } : State) L mc ms ∧ ∀ q ∈ L, A q.base
def xTQ (below : List Frame) (D : va_G) (A : Nat → Prop) (post : Int32 → xw_T → Prop) (postT : xw_T → Prop) (a : Array Value) (s : State) (mc ms : Nat) : State → Prop := fun t =>
  ∃ o, t.status = .running ∧ Ended t below o ∧ xTE D A post postT mc ms a s o t
def xMetT (l : Launch) (y : MethodName) (ws : List Cond) (rm : Room) (Pc : Array Value → State → Prop) (D : va_G) (A : Nat → Prop) (post : Int32 → xw_T → Prop) (postT : xw_T → Prop) (mc ms : Nat) : Prop :=
  MetFree l y (headSpec ws rm) Pc (fun _ _ _ _ _ => True) (xTE D A post postT mc ms)
theorem xMetT.ofW {l : Launch} {y : MethodName} {ws ws' : List Cond} {rm : Room} {Pc : Array Value → State → Prop} {D : va_G} {A : Nat → Prop} {post : Int32 → xw_T → Prop} {postT : xw_T → Prop} {mc ms : Nat} {cc : ByteArray} {maxL : Nat} {ret : Option FieldType}
    (hy : plainName y.cls = true) (hw : ws = Cond.code y cc maxL ret :: ws')
    (body : ∀ p e s m args below meth c s₁, BodyLoose p l y (headSpec ws rm) cc maxL ret e s m args below meth c s₁ → c.maxLocals = maxL → Pc args s → W p l e (headSpec ws rm).room s m args below meth c s.heap [] 0 0 (xTQ below D A post postT args s mc ms) (entryFrame m args maxL)) : xMetT l y ws rm Pc D A post postT mc ms := by
  refine MetFree.of_bodyS (code := cc) (maxLocals := maxL) (ret := ret) hy ?_ ?_
  · intro args s m h hn
    obtain ⟨meth, c, h1, h2, h3, h4, h5, h6, -, -⟩ := Cond.code_spec hn (atoms_spec (ws := ws) h _ (by rw [hw]; exact List.mem_cons_self))
    exact ⟨meth, c, h1, h2, h3, h4, h5, h6⟩
  · intro p e s m args below meth c s₁ B hml hP _
    obtain ⟨t, a1, o, b1, b2, b3⟩ := body p e s m args below meth c s₁ B hml hP s₁ (by rw [B.state]; rfl) (Stand.of_body B)
    exact ⟨t, o, a1, b1, b2, b3⟩
section XT
variable {p : Program} {l : Launch} {e : Env} {R : Room} {s : State} {m : MethodId} {args : Array Value} {below : List Frame} {meth : Method} {c : Code} {H : Heap} {locs : List Loc} {cells slots : Nat}
variable {cc : ByteArray} {pc : Nat} {ls : Array Slot} {rest : List Value} {D : va_G} {E : xE_T} {A : Nat → Prop} {w w0 : xw_T} {post : Int32 → xw_T → Prop} {postT : xw_T → Prop} {mc ms : Nat}
theorem xT_ret {g : JFrame} (k : W p l e R s m args below meth c H locs cells slots (MQ below (va_Qi post (xB D A) A) args s mc ms A) g) : W p l e R s m args below meth c H locs cells slots (xTQ below D A post postT args s mc ms) g := by
  intro T hT X
  obtain ⟨t, a1, o, b1, b2, b3, b4⟩ := k T hT X
  exact ⟨t, a1, o, b1, b2, Or.inl ⟨b3, b4⟩⟩
/-- nothing that was there changes but at the slots of locs -/
theorem xT_frame {U : State} {k n : Nat} (h : s.sameButNew ({ U with vm := s.vm } : State) locs k n) (q : Nat) (hq : q < s.heap.size) (hz : ∀ z ∈ locs, z.base ≠ q) : U.heap[q]? = s.heap[q]? := by
  have h6 := h.2.2.2.2.2 q _ (Array.getElem?_eq_getElem hq)
  obtain ⟨c9, e1, e2, -, e4⟩ := h6
  have hs : c9.slots = (s.heap[q]).slots := Array.ext_getElem? fun i => e4 i fun hm => hz _ hm rfl
  rw [hs] at e2
  have e5 : U.heap[q]? = some c9 := e1
  rw [e5, e2, Array.getElem?_eq_getElem hq]
/-- the walk, looked at from here: the state as it is now is taken as the method's start -/
theorem xT_anew {T : State} (X : Stand p l e R s m args below meth c T locs cells slots) {k n : Nat} (hk : cells + k ≤ R.cells) (hn : slots + n ≤ R.slots) :
    Stand p l e ({ frames := R.frames, cells := k, slots := n, locals := R.locals } : Room) ((T.setVm s.vm).setFrames (.invoking m args :: below)) m args below meth c T [] 0 0 := by
  have hcur := State.cur_lt_of_top (s := T.setVm s.vm) X.here.top
  have hfr : ((T.setVm s.vm).setFrames (.invoking m args :: below)).frames = .invoking m args :: below := State.frames_setFrames _ hcur
  have hroom := X.room
  have hheap := X.heapSize
  have hused := X.used
  have hlim : e.platform.stackLimits (T.setVm s.vm).me = e.platform.stackLimits s.me := X.limits
  have hby : (T.setVm s.vm).me.stackBytes = s.me.stackBytes := X.bytes
  have hin : ((T.setVm s.vm).setFrames (.invoking m args :: below)).localsInUse = s.localsInUse := by
    rw [State.localsInUse_invoking hfr (meth := meth) (c := c) X.method X.code, State.localsInUse_invoking X.frames X.method X.code]
  constructor
  · exact X.admits
  · exact X.cas
  · exact X.clock
  · exact hfr
  · simp only [State.hasRoom, Bool.and_eq_true, decide_eq_true_eq] at hroom ⊢
    obtain ⟨⟨⟨⟨r1, r2, r3, r4, r5, r6⟩, r7⟩, r8⟩, r9⟩ := hroom
    rw [X.frames, List.length_cons] at r2 r3
    simp only [hfr, hin, List.length_cons, State.stackLimits_setFrames, State.stackBytes_setFrames, hlim, hby]
    refine ⟨⟨⟨⟨r1, r2, r3, r4, r5, r6⟩, ?_⟩, ?_⟩, X.book⟩
    · show T.heap.size + k ≤ e.platform.maxCells
      omega
    · show T.slotsUsed + n ≤ e.platform.maxSlots
      omega
  · exact X.hears
  · exact X.method
  · exact X.code
  · exact X.here
  · exact X.tail
  · exact X.warmed
  · rw [State.stackLimits_setFrames]; rfl
  · rw [State.stackBytes_setFrames]; rfl
  · obtain ⟨g0, hg0⟩ := Option.isSome_iff_exists.mp (show (T.setVm s.vm).topJava?.isSome from X.here.top)
    obtain ⟨r, hr⟩ := State.topJava?_eq_some.mp hg0
    obtain ⟨t, ht, -⟩ := State.frames_cons hr
    have hd : T.heap.toList.drop T.heap.size = [] := List.drop_eq_nil_of_le (Nat.le_of_eq Array.length_toList)
    refine ⟨?_, Nat.le_refl _, Nat.le_refl _, ?_, ?_, fun a c9 h9 => ⟨c9, h9, rfl, rfl, fun _ _ => rfl⟩⟩
    · show T.setVm s.vm = { ((T.setVm s.vm).setFrames (.invoking m args :: below)).setFrames (T.setVm s.vm).frames with heap := T.heap, slotsUsed := T.slotsUsed }
      rw [State.setFrames_setFrames, State.setFrames_self ht]
      rfl
    · show T.slotsUsed = T.slotsUsed + ((T.heap.toList.drop T.heap.size).map (·.slots.size)).sum
      rw [hd]; rfl
    · show ((T.heap.toList.drop T.heap.size).map (·.slots.size)).sum ≤ 0
      rw [hd]; exact Nat.le_refl _
theorem xThA_fit : Bundle.fit xEx = true ∧ ∀ n ∈ (["java/lang/RuntimeException", "java/lang/Exception"] : List String), Bundle.fit n = true := by decide +kernel
theorem xThA_in : ∀ w ∈ xThA.filter goodWord, w ∈ xTB := by
  intro w hw
  have h : ∀ w ∈ xThA.filter goodWord, w ∈ lw_tbl := by decide +kernel
  exact List.mem_filter.mpr ⟨h w hw, (List.mem_filter.mp hw).2⟩
theorem xT_atoms {args' : Array Value} {U : State} (hts : ∀ w ∈ xTB, w.before args' U = true) (hE : xF E A U) : ∀ w ∈ xThA, w.before args' U = true := by
  intro w hw
  by_cases g : goodWord w = true
  · exact hts w (xThA_in w (List.mem_filter.mpr ⟨hw, g⟩))
  · have hg : goodWord w = false := by cases h : goodWord w with | true => exact absurd h g | false => rfl
    exact xKw_use (hE.2.2.2.2.2 w (List.mem_filter.mpr ⟨hw, by rw [hg]; rfl⟩)) _
set_option maxHeartbeats 4000000 in
theorem xT_throw (hx : p.tables.exec = Jvm.exec) (hb : c.code = cc) (hl : l.stackTraces = false) (hown : s.vm.findClass RPL = some m.cls) (hts : ∀ w ∈ xTB, w.before args s = true) (hE : xF E A s) (hw : xw_S D vwCl A s.heap w H locs) (h : postT w) (hsize : ls.size = c.maxLocals)
    (hk : (Cond.classLink RPL 118 xEx).before args s = true) (hini : (Cond.initialized xEx).before args s = true)
    (d0 : decode cc pc = .ok (.new 118, 3)) (d3 : decode cc (pc + 3) = .ok (.dup, 1)) (d4 : decode cc (pc + 4) = .ok (.ldc 120, 2)) (d6 : decode cc (pc + 6) = .ok (.invokespecial 122, 3)) (d9 : decode cc (pc + 9) = .ok (.athrow, 1))
    (hout : ∀ x ∈ c.exceptionTable.toList, covers x (pc + 9) = false) (hRf : 2 + 3 < R.frames) (hRl : 82 + (rest.map fun v => v.category).sum ≤ R.locals) (hRc : cells + 1 ≤ R.cells) (hRs : slots + 6 ≤ R.slots) (hmc : cells + 1 ≤ mc) (hms : slots + 6 ≤ ms) (hlocks : meth.locks = false) :
    W p l e R s m args below meth c H locs cells slots (xTQ below D A post postT args s mc ms) (F0 m pc ls rest) := by
  intro T hT X
  have htr : e.platform.stackTraces = false := (show e.platform.stackTraces = l.stackTraces by rw [X.admits.platform]).trans hl
  have Y := xT_anew X (k := 1) (n := 6) hRc hRs
  obtain ⟨s', hs'⟩ : ∃ z, z = (T.setVm s.vm).setFrames (.invoking m args :: below) := ⟨_, rfl⟩
  rw [← hs'] at Y
  have hvm : s'.vm = s.vm := by rw [hs']; rfl
  have hhp : s'.heap = H := by rw [hs']; exact hT
  have hW0 : s.WarmedH s'.vm := by rw [hvm]; exact State.WarmedH.refl s
  have hE' : xF E A s' := xF_of hE hW0 (by rw [hhp]; exact hw.2.1)
  have hts' : ∀ w ∈ xTB, w.before args s' = true := fun w hw => word_at hW0 (xTB_good w hw).2 (hts w hw)
  have hat := xT_atoms hts' hE'
  have hown' : s'.vm.findClass RPL = some m.cls := by rw [hvm]; exact hown
  have hk' : (Cond.classLink RPL 118 xEx).before args s' = true := word_at hW0 (Or.inl rfl) hk
  have hini' : (Cond.initialized xEx).before args s' = true := word_at hW0 (Or.inl rfl) hini
  have hins : (Cond.instantiable xEx 6).before args s' = true := hat _ (by simp [xThA, Bundle.ownAtoms])
  obtain ⟨vm₁, cX, kX, hfX, hkX, -, -, X₁, st1⟩ := Y.newCold hx (own := RPL) (C := xEx) (index := 118) (n := 6) hown' hk' hins hini' (g := F0 m pc ls rest) rfl (by rw [hb]; exact d0) (Nat.le_refl _) (Nat.le_refl _)
  generalize hT1 : (T.setVm vm₁).pushCell { cls := cX, slots := kX.instanceTypes.map defaultValue, vm := .none } = T1 at X₁ st1
  have hcat : (Value.ref T.heap.size).category = 1 := rfl
  have hcellA : T1.heap[T.heap.size]? = some (freshCell cX kX) := by rw [← hT1]; exact State.heap_pushCell_size _ _
  have d3' : decode c.code (pc + 3) = .ok (.dup, 1) := by rw [hb]; exact d3
  have d4' : decode c.code (pc + 4) = .ok (.ldc 120, 2) := by rw [hb]; exact d4
  have hstr := hE'.2.1.2.2.2
  obtain ⟨U, hsteps, hrun, hend, hW, hsame, ce, hce, hO⟩ := X₁.ctorThrowS hx htr (own := RPL) (cls := xEx) (names := ["java/lang/RuntimeException", "java/lang/Exception"]) (ic := 122) hown' xThA_fit.1 xThA_fit.2 hat (fun x hx => nomatch hx) hfX hkX hcellA (by rw [hhp, hT]; exact Nat.le_refl _) (msg := .ref (E.2 8)) rfl
    (g := { method := m, pc := pc + 6, locals := ls, stack := .ref (E.2 8) :: .ref T.heap.size :: .ref T.heap.size :: rest, locked := none }) rfl hsize rfl rfl (rest := rest) rfl
    (by rw [hb]; exact d6) (by rw [hb]; exact d9) hout hRf (by simp only [List.map_cons, List.sum_cons, hcat, List.length_cons, List.length_nil]; show 2 * 0 + _ + _ ≤ R.locals; omega) hlocks
  have hfr : ∀ q : Nat, q < H.size → U.heap[q]? = H[q]? := fun q hq => by
    have h1 := xT_frame hsame q (by rw [hhp]; exact hq) (fun z hz => nomatch hz)
    rw [h1, hhp]
  have hsz : H.size ≤ U.heap.size := by
    have h1 := hsame.2.1
    rw [hhp] at h1
    exact h1
  have hWs : s.WarmedH U.vm := State.WarmedH.trans hW0 hW
  have hcl : s.vm.findClass xEx = some ce.cls := by
    have h9 := hO.cls
    rw [hvm] at h9
    exact h9
  have hall : s.sameButNew ({ U with vm := s.vm } : State) locs mc ms := by
    subst hs'
    obtain ⟨e1, e2⟩ := hsame
    rw [State.setFrames_setFrames] at e1
    have h2 : (T.setVm s.vm).sameButNew ({ U with vm := s.vm } : State) [] (0 + 1) (0 + 6) := ⟨e1, e2⟩
    have h3 := X.same.trans h2
    rw [List.append_nil] at h3
    exact h3.mono hmc hms
  obtain ⟨⟨ws, hi, hP, hD⟩, hS, hA⟩ := hw
  refine ⟨U, ?_, .threw T.heap.size, hrun, hend, Or.inr ⟨T.heap.size, locs, rfl, ⟨⟨w, h, ws, hi, hP.kept (fun k q hq => hfr q.1 (hP k q hq).lt), hD⟩, ⟨Nat.le_trans hS.1 hsz, fun q h1 h2 => (hfr q (Nat.lt_of_lt_of_le h1 hS.1)).trans (hS.2.1 q h1 h2)⟩, ce, hce, hO.vm, hcl⟩, hWs, hall, hS.2.2⟩⟩
  refine st1 _ ?_
  show Steps p.tables e below (T1.setTop { method := m, pc := pc + 3, locals := ls, stack := .ref T.heap.size :: rest, locked := none }) _
  jvm_step X₁.here [X₁.here.top, hx, d3', Value.category]
  exact X₁.ldcString hx (own := RPL) (text := "the batch is refused") (index := 120) (a := E.2 8) hown' hstr.1 hstr.2
    (g := { method := m, pc := pc + 4, locals := ls, stack := .ref T.heap.size :: .ref T.heap.size :: rest, locked := none }) rfl d4' _ hsteps
end XT
end
section
/-! meanings and walks: THR 0 -/
def wp_PL_post (E : xE_T) (post : Int32 → xw_T → Prop) (postT : xw_T → Prop) (w : xw_T) (h0 : Nat) (p0 : Int32) : Prop := (∃ fs, w h0 = some (.inr (4, fs))) ∧ wp_PL_findBatch E (fun r1 w2 => (¬ r1 = none → (∃ a3 : Nat, r1 = some a3 ∧ ((∃ fs, w2 a3 = some (.inr (2, fs))) ∧ wp_BA_isOpen E (fun r4 w5 => (r4 = 0 → (post (-2000000003) w5)) ∧ (¬ r4 = 0 → (∃ v6, xgI w5 a3 2 0 = some v6 ∧ ((∃ fs, w5 h0 = some (.inr (4, fs))) ∧ wp_PL_isClosed E (fun r7 w8 => (r7 = 0 → ((∃ fs, w8 a3 = some (.inr (2, fs))) ∧ wp_BA_outcomeOfPosting E (fun r9 w10 => (¬ r9 = (some (E.2 3)) → ((∃ v0, xg w10 a3 2 2 = some v0) ∧ ∀ w11, w11 = xp w10 a3 2 (.ref (E.2 2)) → ((¬ r9 = (some (E.2 5)) → (post 0 w11)) ∧ (r9 = (some (E.2 5)) → (postT w11))))) ∧ (r9 = (some (E.2 3)) → ((∃ fs, w10 h0 = some (.inr (4, fs))) ∧ wp_PL_enterIntoBooks E (fun w13 => post 1 w13) w10 h0 (some a3)))) w8 a3)) ∧ (¬ r7 = 0 → (post (-2000000003) w8))) w5 h0 v6.toInt64)))) w2 a3))) ∧ (r1 = none → (post (-2000000001) w2))) w h0 p0
set_option maxHeartbeats 4000000 in
set_option maxRecDepth 100000 in
theorem c_PL_post (l : Launch) (hlT : l.stackTraces = false) (D : va_G) (E : xE_T) (A : Nat → Prop) (post : Int32 → xw_T → Prop) (postT : xw_T → Prop) (w : xw_T) (h0 : Nat) (p0 : Int32) (h : wp_PL_post E post postT w h0 p0) : xMetT l yPL_post (xW yPL_post cPL_post 4 (some (.int))) ({ frames := 6, cells := 1, slots := 6, locals := 134 } : Room) (va_Pc [.ref h0, .int p0] (xP D E A w)) D A post postT 1 6 := by
  refine xMetT.ofW (cc := cPL_post) (maxL := 4) (ret := (some (.int))) (by decide) rfl ?_
  intro p e s m args below meth c s₁ B hml hv
  obtain ⟨rfl, hw, hK, hE⟩ := hv
  have hx := B.exec
  have hb := B.bytes
  have hr := B.returns
  have hts : ∀ w ∈ xTB, w.before _ s = true := fun w hw => atoms_spec (ws := xW yPL_post cPL_post 4 (some (.int))) B.pre w (List.mem_cons_of_mem _ hw)
  have hown : s.vm.findClass RPL = some m.cls := findClass_of_methodNamed B.named
  have hout : ∀ z : Nat, ∀ x ∈ c.exceptionTable.toList, covers x z = false := by
    have h9 := B.noHandlers (atoms_spec (ws := xW yPL_post cPL_post 4 (some (.int))) B.pre _ List.mem_cons_self)
    have h8 : c.exceptionTable.toList = [] := List.eq_nil_of_length_eq_zero (by simpa [Array.isEmpty] using h9)
    intro z x hx
    rw [h8] at hx
    cases hx
  have hlocks := B.notSynchronized
  have hw : xw_S D vwCl A s.heap w s.heap [] := xw_S0 hw
  refine xl_start (lvs := [(0, .ref h0), (1, .int p0)]) (by first | exact Nat.le_of_ble_eq_true rfl | simp [lg_sl, va_rf_cat, xcat_i, xcat_l, xcat_r, xcat_n]) (by first | rfl | simp [lv_args, va_rf_cat, xcat_i, xcat_l, xcat_r, xcat_n]) (fun ls hl => ?_)
  unfold wp_PL_post at h
  refine lv_aload_n hx hb dPL_post_0 rfl (lv_at hl 0 rfl) ?_
  refine lv_iload_n hx hb dPL_post_1 rfl (lv_at hl 1 rfl) ?_
  obtain ⟨⟨fs, hk⟩, h⟩ := h
  have hcall := h
  clear h
  refine xw_callq (va_runV (As := [.int p0]) (rest := []) ⟨hx, hb, hml, hown, hts⟩ (c_PL_findBatch l D E A _ w h0 p0 hcall) (cwV 1 hts (xG_V mw_171 mw_172 mw_173 mw_95 mw_174) rfl rfl rfl (by decide +kernel) ⟨(Nat.le_of_ble_eq_true rfl), (Nat.le_of_ble_eq_true rfl)⟩) (xw_preV (ci := 4) hw hK hE rfl hk) rfl rfl hl.1 rfl (lv_room (by first | exact Nat.le_of_ble_eq_true rfl | simp [va_rf_cat, xcat_i, xcat_l, xcat_r, xcat_n])) dPL_post_2 ⟨(Nat.le_of_ble_eq_true rfl), (Nat.le_of_ble_eq_true rfl)⟩) hw (fun r1 w2 H locs h hw => ?_)
  clear hcall
  refine xl_astore_n (i := 2) (lv' := [(2, va_rf r1), (0, .ref h0), (1, .int p0)]) hx hb dPL_post_5 rfl hl (by decide) (by first | rfl | simp [va_rf_cat, xcat_i, xcat_l, xcat_r, xcat_n]) (fun ls hl => ?_)
  refine xl_aload_n hx hb dPL_post_6 rfl (lv_at hl 0 rfl) ?_
  refine xl_ifnonnull (tgt := 13) hx hb dPL_post_7 rfl (fun hc => ?_) (fun hc => ?_)
  · replace h := h.1 hc
    refine xl_aload_n hx hb dPL_post_13 rfl (lv_at hl 0 rfl) ?_
    obtain ⟨a3, rfl, h⟩ := h
    obtain ⟨⟨fs, hk⟩, h⟩ := h
    have hcall := h
    clear h
    refine xw_calli (va_runV (As := []) (rest := []) ⟨hx, hb, hml, hown, hts⟩ (c_BA_isOpen l D E A _ w2 a3 hcall) (cwV 0 hts (xG_V mw_163 mw_164 mw_165 mw_110 mw_166) rfl rfl rfl (by decide +kernel) ⟨(Nat.le_of_ble_eq_true rfl), (Nat.le_of_ble_eq_true rfl)⟩) (xw_preV (ci := 2) hw hK hE rfl hk) rfl rfl hl.1 rfl (lv_room (by first | exact Nat.le_of_ble_eq_true rfl | simp [va_rf_cat, xcat_i, xcat_l, xcat_r, xcat_n])) dPL_post_14 ⟨(Nat.le_of_ble_eq_true rfl), (Nat.le_of_ble_eq_true rfl)⟩) hw (fun r4 w5 H locs h hw => ?_)
    clear hcall
    refine lv_if_eq (tgt := 32) hx hb dPL_post_17 rfl (fun hc => ?_) (fun hc => ?_)
    · replace h := h.1 hc
      refine lv_ldc (v := (-2000000003)) hx hb hown (hts _ mw_118) dPL_post_32 ?_
      refine xT_ret ?_
      refine W.widen (k := 1) (n := 6) (Nat.le_of_ble_eq_true rfl) (Nat.le_of_ble_eq_true rfl) ?_
      exact xw_iret hx hb hr hlocks hw h dPL_post_34
    · replace h := h.2 hc
      refine lv_aload_n hx hb dPL_post_20 rfl (lv_at hl 1 rfl) ?_
      refine lv_aload_n hx hb dPL_post_21 rfl (lv_at hl 0 rfl) ?_
      obtain ⟨v6, hv, h⟩ := h
      refine xw_getI (C := RBA) (T := TBA) (N := 6) (ref := RBA) hx hb hts inBA hown hK hw rfl 0 (by decide) (hts _ mw_186) (fun _ h9 => h9) hv dPL_post_22 ?_
      refine lv_i2l hx hb dPL_post_25 rfl ?_
      obtain ⟨⟨fs, hk⟩, h⟩ := h
      have hcall := h
      clear h
      refine xw_calli (va_runV (As := [.long v6.toInt64]) (rest := []) ⟨hx, hb, hml, hown, hts⟩ (c_PL_isClosed l D E A _ w5 h0 v6.toInt64 hcall) (cwV 1 hts (xG_V mw_119 mw_120 mw_121 mw_95 mw_122) rfl rfl rfl (by decide +kernel) ⟨(Nat.le_of_ble_eq_true rfl), (Nat.le_of_ble_eq_true rfl)⟩) (xw_preV (ci := 4) hw hK hE rfl hk) rfl rfl hl.1 rfl (lv_room (by first | exact Nat.le_of_ble_eq_true rfl | simp [va_rf_cat, xcat_i, xcat_l, xcat_r, xcat_n])) dPL_post_26 ⟨(Nat.le_of_ble_eq_true rfl), (Nat.le_of_ble_eq_true rfl)⟩) hw (fun r7 w8 H locs h hw => ?_)
      clear hcall
      refine lv_if_eq (tgt := 35) hx hb dPL_post_29 rfl (fun hc => ?_) (fun hc => ?_)
      · replace h := h.1 hc
        refine lv_aload_n hx hb dPL_post_35 rfl (lv_at hl 0 rfl) ?_
        obtain ⟨⟨fs, hk⟩, h⟩ := h
        have hcall := h
        clear h
        refine xw_callq (va_runV (As := []) (rest := []) ⟨hx, hb, hml, hown, hts⟩ (c_BA_outcomeOfPosting l D E A _ w8 a3 hcall) (cwV 0 hts (xG_V mw_266 mw_267 mw_268 mw_110 mw_269) rfl rfl rfl (by decide +kernel) ⟨(Nat.le_of_ble_eq_true rfl), (Nat.le_of_ble_eq_true rfl)⟩) (xw_preV (ci := 2) hw hK hE rfl hk) rfl rfl hl.1 rfl (lv_room (by first | exact Nat.le_of_ble_eq_true rfl | simp [va_rf_cat, xcat_i, xcat_l, xcat_r, xcat_n])) dPL_post_36 ⟨(Nat.le_of_ble_eq_true rfl), (Nat.le_of_ble_eq_true rfl)⟩) hw (fun r9 w10 H locs h hw => ?_)
        clear hcall
        refine xl_astore_n (i := 3) (lv' := [(3, va_rf r9), (2, .ref a3), (0, .ref h0), (1, .int p0)]) hx hb dPL_post_39 rfl hl (by decide) (by first | rfl | simp [va_rf_cat, xcat_i, xcat_l, xcat_r, xcat_n]) (fun ls hl => ?_)
        refine xl_aload_n hx hb dPL_post_40 rfl (lv_at hl 0 rfl) ?_
        refine va_gets hx hb hE.2.2.2.1.1 hw.2.1 hown (hts _ mw_265) (fun _ h9 => h9) dPL_post_41 ?_
        refine lv_acmp_ne (rx := r9) (ry := (some (E.2 3))) (tgt := 54) hx hb dPL_post_44 rfl (fun hc => ?_) (fun hc => ?_)
        · replace h := h.1 hc
          refine lv_aload_n hx hb dPL_post_54 rfl (lv_at hl 1 rfl) ?_
          refine va_gets hx hb hE.2.2.1.2.2 hw.2.1 hown (hts _ mw_264) (fun _ h9 => h9) dPL_post_55 ?_
          obtain ⟨hv, h⟩ := h
          refine xw_put (ty := (.object "PostLedger$Standing")) (C := RBA) (T := TBA) (N := 6) (ref := RBA) hx hb hts inBA tyBA tyBA_ok nmBA hown hK hw rfl 2 (by decide) (hts _ mw_188) (fun _ h9 => h9) rfl (by decide +kernel) rfl rfl hv dPL_post_58 (fun H locs hw => ?_)
          replace h := h _ rfl
          generalize xp w10 a3 2 (.ref (E.2 2)) = w11 at hw h
          refine xl_aload_n hx hb dPL_post_61 rfl (lv_at hl 0 rfl) ?_
          refine va_gets hx hb hE.2.2.2.1.2.2 hw.2.1 hown (hts _ mw_263) (fun _ h9 => h9) dPL_post_62 ?_
          refine lv_acmp_ne (rx := r9) (ry := (some (E.2 5))) (tgt := 78) hx hb dPL_post_65 rfl (fun hc => ?_) (fun hc => ?_)
          · replace h := h.1 hc
            refine lv_iconst (v := 0) hx hb dPL_post_78 (by decide) ?_
            refine xT_ret ?_
            refine W.widen (k := 1) (n := 6) (Nat.le_of_ble_eq_true rfl) (Nat.le_of_ble_eq_true rfl) ?_
            exact xw_iret hx hb hr hlocks hw h dPL_post_79
          · replace h := h.2 hc
            exact xT_throw hx hb hlT hown hts hE hw h (hl.1.trans hml.symm) (hts _ mw_261) (hts _ mw_262) dPL_post_68 dPL_post_71 dPL_post_72 dPL_post_74 dPL_post_77 (hout _) (Nat.le_of_ble_eq_true rfl) (Nat.le_of_ble_eq_true rfl) (Nat.le_of_ble_eq_true rfl) (Nat.le_of_ble_eq_true rfl) (Nat.le_of_ble_eq_true rfl) (Nat.le_of_ble_eq_true rfl) hlocks
        · replace h := h.2 hc
          refine lv_aload_n hx hb dPL_post_47 rfl (lv_at hl 2 rfl) ?_
          refine lv_aload_n hx hb dPL_post_48 rfl (lv_at hl 1 rfl) ?_
          obtain ⟨⟨fs, hk⟩, h⟩ := h
          have hcall := h
          clear h
          refine xw_callv (va_runV (As := [.ref a3]) (rest := []) ⟨hx, hb, hml, hown, hts⟩ (c_PL_enterIntoBooks l D E A _ w10 h0 (some a3) hcall) (cwV 1 hts (xG_V mw_202 mw_203 mw_204 mw_95 mw_205) rfl rfl rfl (by decide +kernel) ⟨(Nat.le_of_ble_eq_true rfl), (Nat.le_of_ble_eq_true rfl)⟩) (xw_preV (ci := 4) hw hK hE rfl hk) rfl rfl hl.1 rfl (lv_room (by first | exact Nat.le_of_ble_eq_true rfl | simp [va_rf_cat, xcat_i, xcat_l, xcat_r, xcat_n])) dPL_post_49 ⟨(Nat.le_of_ble_eq_true rfl), (Nat.le_of_ble_eq_true rfl)⟩) hw (fun w13 H locs h hw => ?_)
          clear hcall
          refine lv_iconst (v := 1) hx hb dPL_post_52 (by decide) ?_
          refine xT_ret ?_
          refine W.widen (k := 1) (n := 6) (Nat.le_of_ble_eq_true rfl) (Nat.le_of_ble_eq_true rfl) ?_
          exact xw_iret hx hb hr hlocks hw h dPL_post_53
      · replace h := h.2 hc
        refine lv_ldc (v := (-2000000003)) hx hb hown (hts _ mw_118) dPL_post_32 ?_
        refine xT_ret ?_
        refine W.widen (k := 1) (n := 6) (Nat.le_of_ble_eq_true rfl) (Nat.le_of_ble_eq_true rfl) ?_
        exact xw_iret hx hb hr hlocks hw h dPL_post_34
  · replace h := h.2 hc
    refine lv_ldc (v := (-2000000001)) hx hb hown (hts _ mw_232) dPL_post_10 ?_
    refine xT_ret ?_
    refine W.widen (k := 1) (n := 6) (Nat.le_of_ble_eq_true rfl) (Nat.le_of_ble_eq_true rfl) ?_
    exact xw_iret hx hb hr hlocks hw h dPL_post_12
end
section
/-! A CALL THAT THROWS, AND ITS CATCH IN THE CALLER AT A CLASS ENTRY THAT MAY STILL BE OPEN -/
section XKG
variable {e : Env} {U : State} {f : JFrame} {v : Addr} {x : ExceptionTableEntry} {rows : List ExceptionTableEntry} {k : ClassId} {ce : Cell} {vm' : Vm} {pc : Nat} {r : List Frame}
/-- the table's first row takes the object; the tables are those that the look at its class entry leaves -/
theorem xK_go (hcov : covers x f.pc = true) (h0 : x.catchType ≠ 0) (hg : (Jvm.resolveClass f.method.cls x.catchType).Gives e.toSetting U.vm (.ok k) vm') (hsz : vm'.classes.size ≤ U.vm.classes.size)
    (hcell : U.heap[v]? = some ce) (hobj : ∀ z, ce.vm ≠ .statics z) (hk : ∃ q, vm'.classes[ce.cls]? = some q) (hc : ∃ q, vm'.classes[k]? = some q) (hfit : vm'.assignable ce.cls k = true)
    {Q : Handler → Pre} {E : CtlPost} {d : Bool} {acts : List Action} : wp (findHandler.go f v (x :: rows)) Q E e d acts U ↔ Q (.found x.handlerPc) d acts (U.setVm vm') := by
  obtain ⟨ha, ht⟩ := hg.op (op := VmOp.resolveClass f.method.cls x.catchType) rfl
  simp only [covers] at hcov
  simp [findHandler.go, hcov, h0, ha, ht, hsz, hcell, hobj, hk, hc, hfit, VmOp.dirties, VmOp.acts]
/-- one step of the unwinding whose search ends at a handler and leaves other tables -/
theorem xK_step (hfind : ∀ (Q : Handler → Pre) (E : CtlPost) (d : Bool) (acts : List Action), wp (findHandler f v) Q E e d acts U ↔ Q (.found pc) d acts (U.setVm vm')) :
    (stepThrowing e U v (.java f :: r)).1 = (U.setVm vm').setFrames (.java { f with pc := pc, stack := [.ref v] } :: r) := by
  simp only [stepThrowing, searchFrame, vmDo]
  generalize hr : Sem.go _ e false [] U = res
  obtain ⟨as, rfl, -⟩ := Sem.eq_ok_of hr (a := Handler.found pc) (s' := U.setVm vm') (acts' := []) (by simp [hfind _ _ _ _])
  rfl
end XKG
section XKC
variable {p : Program} {l : Launch} {e : Env} {R : Room} {s T : State} {m : MethodId} {args : Array Value} {below : List Frame} {meth : Method} {c : Code} {locs : List Loc} {cells slots : Nat}
/-- a class entry that the walk may meet for the first time: the tables that it leaves, and what they keep -/
theorem xK_entry (X : Stand p l e R s m args below meth c T locs cells slots) {own C C0 : String} {index : Nat} {ce : Cell} (hown : s.vm.findClass own = some m.cls)
    (hlink : (Cond.classLink own index C).before args s = true) (hcast : (Cond.castable C0 C).before args s = true) (hcl : s.vm.findClass C0 = some ce.cls) :
    ∃ (k : ClassId) (vm' : Vm), (Jvm.resolveClass m.cls index).Gives e.toSetting T.vm (.ok k) vm' ∧ s.WarmedH vm' ∧ vm'.classes.size ≤ T.vm.classes.size ∧ (∃ q, vm'.classes[ce.cls]? = some q) ∧ (∃ q, vm'.classes[k]? = some q) ∧ vm'.assignable ce.cls k = true := by
  obtain ⟨k, hk, hL⟩ := Cond.classLink_spec hown hlink e.platform (by rw [X.admits.platform])
  obtain ⟨c1, k1, h1, h2, h3⟩ := Cond.castable_spec hcast
  cases Option.some.inj (h1.symm.trans hcl)
  cases Option.some.inj (h2.symm.trans hk)
  obtain ⟨g1, g2, -⟩ := State.classEntry (e := e) X.warmed hL
  exact ⟨_, _, g1, g2, (X.warmed.alike.symm.trans g2.alike).size_le, Vm.classAt_of_findClass (by rw [g2.alike.findClass]; exact hcl), Vm.classAt_of_findClass (by rw [g2.alike.findClass]; exact hk), by rw [g2.alike.assignable]; exact h3⟩
/-- thrown over the frame g, whose method's first row takes it: the walk goes on at the handler -/
theorem xK_caught (X : Stand p l e R s m args below meth c T locs cells slots) {own C C0 : String} {g : JFrame} {v : Addr} {ce : Cell} {x : ExceptionTableEntry} {rows : List ExceptionTableEntry} (hg : g.method = m) (hown : s.vm.findClass own = some m.cls)
    (htab : c.exceptionTable.toList = x :: rows) (hcov : covers x g.pc = true) (h0 : x.catchType ≠ 0) (hlink : (Cond.classLink own x.catchType C).before args s = true) (hcast : (Cond.castable C0 C).before args s = true)
    (hcell : T.heap[v]? = some ce) (hv : ce.vm = .none) (hcl : s.vm.findClass C0 = some ce.cls) :
    ∃ vm' : Vm, Stand p l e R s m args below meth c (T.setVm vm') locs cells slots ∧
      ∀ target : State, Steps p.tables e below ((T.setVm vm').setTop { g with pc := x.handlerPc, stack := [.ref v] }) target → Steps p.tables e below (T.setFrames (.throwing v :: .java g :: below)) target := by
  obtain ⟨k, vm', hG, hW, hsz, hk1, hk2, hfit⟩ := xK_entry X hown hlink hcast hcl
  subst hg
  obtain ⟨g₀, hT⟩ := X.frames_eq
  have hnote : (T.setTop g).pushFrame (.throwing v) = T.setFrames (.throwing v :: .java g :: below) := by
    rw [State.pushFrame, State.frames_setTop _ hT, State.setTop_of_frames _ hT, State.setFrames_setFrames]
  obtain ⟨hgo, hin⟩ := X.here.throwing (g := g) v
  rw [hnote] at hgo hin
  refine ⟨vm', X.noted hW, fun target h => Steps.head hgo hin ?_⟩
  rw [stepThread_throwing (State.frames_setFrames _ (State.cur_lt_of_frames hT)), xK_step (pc := x.handlerPc) (vm' := vm') (fun Q E d acts => ?_)]
  · have hT' : (T.setVm vm').frames = .java g₀ :: below := hT
    rw [State.setTop_of_frames _ hT'] at h
    have h9 : ((T.setFrames (.throwing v :: .java g :: below)).setVm vm').setFrames (.java { g with pc := x.handlerPc, stack := [.ref v] } :: below) = (T.setVm vm').setFrames (.java { g with pc := x.handlerPc, stack := [.ref v] } :: below) := State.setFrames_setFrames (T.setVm vm') _ _
    rw [h9]
    exact h
  · have hm : (T.setFrames (.throwing v :: .java g :: below)).vm.method? g.method = some meth := X.method'
    rw [Jvm.W.findHandler_eq hm X.code, htab]
    exact xK_go (U := T.setFrames (.throwing v :: .java g :: below)) hcov h0 hG hsz hcell (fun z h => by rw [hv] at h; cases h) hk1 hk2 hfit
end XKC
section XKB
variable {p : Program} {l : Launch} {e : Env} {R : Room} {s : State} {m : MethodId} {args : Array Value} {below : List Frame} {meth : Method} {c : Code} {locs : List Loc} {cells slots : Nat}
variable {bytes : ByteArray} {maxL mc ms : Nat} {D : va_G} {A : Nat → Prop} {postT : xw_T → Prop} {y : MethodName} {ws : List Cond} {rm : Room} {Pc : Array Value → State → Prop} {ret : Option FieldType}
/-- the call of a method that must throw: up to its exception, over the caller's frame g (its arguments popped, pc at the call) -/
theorem xK_back {U : State} {g : JFrame} {ig : Instr} {mk : MethodId} {a : Array Value} (hM : xMetT l y ws rm Pc D A (fun _ _ => False) postT mc ms) (X : Stand p l e R s m args below meth c U locs cells slots)
    (hg : g.method = m) (hsize : g.locals.size = c.maxLocals) (hdg : decode c.code g.pc = .ok (ig, 3)) (hW : 2 * g.monitorRoom + (g.stack.map fun v => v.category).sum ≤ 8) (hn : U.methodNamed? y = some mk)
    (hws : ∀ w ∈ ws, w.before a U = true) (hcode : (Cond.code y bytes maxL ret).before a U = true) (hini : (Cond.initialized y.cls).before a U = true)
    (hfr : rm.frames + 1 ≤ R.frames) (hlo : 8 + (maxL + 11) + rm.locals ≤ R.locals) (hce : cells + rm.cells ≤ R.cells) (hsl : slots + rm.slots ≤ R.slots) (hP : Pc a (U.calling g mk a)) :
    ∃ (v : Addr) (t : State) (L : List Loc), xThr D A postT v (U.calling g mk a) t ∧ (∀ z ∈ L, A z.base) ∧ Stand p l e R s m args below meth c (({ U with heap := t.heap, slotsUsed := t.slotsUsed } : State).setVm t.vm) (locs ++ L) (cells + mc) (slots + ms) ∧
      Steps p.tables e below (doInvoke e (U.setTop g) [] mk a).1 ((({ U with heap := t.heap, slotsUsed := t.slotsUsed } : State).setVm t.vm).setFrames (.throwing v :: .java g :: below)) := by
  subst hg
  obtain ⟨methY, cY, hmY, hcY, -, hlY, -, -, -, -⟩ := Cond.code_spec hn hcode
  obtain ⟨kY, hkY, -⟩ := className_of_methodNamed hn
  obtain ⟨g₀, hU⟩ := X.frames_eq
  have hfrm : (U.setTop g).frames = .java g :: below := by
    rw [State.setTop_of_frames _ hU]
    exact State.frames_setFrames _ (State.cur_lt_of_frames hU)
  have hroom := X.room_calling (g := g) (args' := a) (R' := rm) hsize hmY hcY hfr (by rw [hlY]; omega) hce hsl
  have happ : (headSpec ws rm).appliesLoose y e.platform (U.calling g mk a) = true := Spec.appliesLoose_calling (g := g) X.here hdg hn hkY (Cond.initialized_spec (findClass_of_methodNamed hn) hkY hini) hroom (atoms_intro hws)
  obtain ⟨o, t, hst, -, hend, hq⟩ := Steps.callFree (S := headSpec ws rm) (P := Pc) (K := fun _ _ _ _ _ => True) (Q := xTE D A (fun _ _ => False) postT mc ms) hM p X.admits X.cas X.clock (acts := []) (mid := [.java g]) (below := below) hfrm happ hP trivial
  have hq' : xTE D A (fun _ _ => False) postT mc ms a (U.calling g mk a) o t := hq
  rcases hq' with ⟨⟨⟨r, u, -, hr, -⟩, -⟩, -⟩ | ⟨v, L, ho, hth, hwm, hsm, hL⟩
  · exact hr.elim
  subst ho
  rw [hfrm] at hend
  have hft : t.frames = .throwing v :: .java g :: below := hend
  have hW' : U.WarmedH t.vm := hwm
  obtain ⟨e1, e2⟩ := hsm
  have e1' : ({ t with vm := (U.calling g mk a).vm } : State) = ({ (U.calling g mk a).setFrames t.frames with heap := t.heap, slotsUsed := t.slotsUsed } : State) := e1
  have e3 : t = ({ (U.calling g mk a).setFrames t.frames with heap := t.heap, slotsUsed := t.slotsUsed } : State).setVm t.vm := by
    have h9 : ({ t with vm := (U.calling g mk a).vm } : State).setVm t.vm = ({ (U.calling g mk a).setFrames t.frames with heap := t.heap, slotsUsed := t.slotsUsed } : State).setVm t.vm := by rw [e1']
    exact h9
  have e4 : t = (({ U with heap := t.heap, slotsUsed := t.slotsUsed } : State).setVm t.vm).setFrames (.throwing v :: .java g :: below) := by
    refine e3.trans ?_
    rw [hft, State.calling_eq X.here.top, State.setFrames_setFrames]
    rfl
  have hsame : U.sameButNew ({ U with heap := t.heap, slotsUsed := t.slotsUsed } : State) L mc ms := by
    refine ⟨?_, e2⟩
    obtain ⟨th, hth9, -⟩ := State.frames_cons hU
    show ({ U with heap := t.heap, slotsUsed := t.slotsUsed } : State) = { U.setFrames U.frames with heap := t.heap, slotsUsed := t.slotsUsed }
    rw [State.setFrames_self hth9]
  refine ⟨v, t, L, hth, hL, ⟨X.admits, X.cas, X.clock, X.frames, X.room, X.hears, X.method, X.code, (X.here.setHeapUsed t.heap t.slotsUsed).setVm hW'.alike, X.tail, State.WarmedH.trans X.warmed hW', X.limits, X.bytes, X.same.trans (hsame.setVm s.vm)⟩, ?_⟩
  rw [← e4]
  exact hst
end XKB
end
section
/-! THE LAW'S post: the call that may throw, and its catch. -/
theorem xMetT.met {l : Launch} {y : MethodName} {ws : List Cond} {rm : Room} {Pc : Array Value → State → Prop} {D : va_G} {A : Nat → Prop} {post : Int32 → xw_T → Prop} {mc ms : Nat} (h : xMetT l y ws rm Pc D A post (fun _ => False) mc ms) : Met l y ws rm Pc (va_Qi post (xB D A) A) mc ms A := by
  intro p e ha hc hk s m args below hf happ hP hK
  obtain ⟨n, o, h1, h2, h3, h4⟩ := h p e ha hc hk s m args below hf happ hP hK
  refine ⟨n, o, h1, h2, h3, ?_⟩
  rcases h4 with h4 | ⟨x, L, -, ⟨⟨w, hw, -⟩, -⟩, -⟩
  · exact h4
  · exact hw.elim
section XTC
variable {p : Program} {l : Launch} {e : Env} {R : Room} {s : State} {m : MethodId} {args : Array Value} {below : List Frame} {meth : Method} {c : Code} {H : Heap} {locs : List Loc} {cells slots : Nat} {Q : State → Prop}
variable {cc bytes : ByteArray} {pc nL maxL n index mc ms : Nat} {ls : Array Slot} {As rest st0 : List Value} {D : va_G} {E : xE_T} {A : Nat → Prop} {w0 : xw_T} {postT : xw_T → Prop} {y : MethodName} {ws Ts : List Cond} {rm : Room} {Pc : Array Value → State → Prop} {own C : String} {ret : Option FieldType} {b : Addr}
set_option maxHeartbeats 4000000 in
theorem xT_callV (S : CallFix p m c cc nL s args Ts own) (hM : xMetT l y ws rm Pc D A (fun _ _ => False) postT mc ms) (cw : CallW R s args own C index y bytes maxL ret ws rm mc ms n) (hp : PreV s H C b Pc As)
    (hn : As.length = n) (hsize : ls.size = nL) (hstack : st0 = As.reverse ++ .ref b :: rest) (hW8 : 2 * (F0 m pc ls st0).monitorRoom + (rest.map fun v => v.category).sum ≤ 8) (hdg : decode cc pc = .ok (.invokevirtual index, 3)) (hf : cells + mc ≤ R.cells ∧ slots + ms ≤ R.slots)
    (hw : xw_S D vwCl A s.heap w0 H locs) (x : ExceptionTableEntry) (hsplit : c.exceptionTable.toList = [x]) (hcov : covers x pc = true) (h0 : x.catchType ≠ 0) (hlinkX : (Cond.classLink own x.catchType xEx).before args s = true) (hcast : (Cond.castable xEx xEx).before args s = true)
    (kk : ∀ (q : Nat) (w1 : xw_T) (H1 : Heap) (locs1 : List Loc), postT w1 → xw_S D vwCl A s.heap w1 H1 locs1 → W p l e R s m args below meth c H1 locs1 (cells + mc) (slots + ms) Q (F0 m x.handlerPc ls [.ref q])) : W p l e R s m args below meth c H locs cells slots Q (F0 m pc ls st0) := by
  obtain ⟨⟨hrc, hrs, hfr, hlo, hws, hcw, hcode, hini, hy, hlen, hl⟩, hinst, hsel⟩ := cw
  obtain ⟨hx, hb, hml, hown, -⟩ := S
  obtain ⟨hblind, ⟨cellB, hcB, hoB, hclB⟩, hPc⟩ := hp
  intro T hT X
  obtain ⟨mk, methM, hnamed, hmethM, hstM, habM⟩ := Cond.instanceMethod_spec hinst
  obtain ⟨methM', cM, hmethM', -, -, -, -, -, -, hsigM⟩ := Cond.code_spec hnamed hcode
  cases hmethM.symm.trans hmethM'
  obtain ⟨c2, r2, m2, q1, q2, q3, q4, kP, hkP, hkPi⟩ := Cond.selects_spec hsel
  cases hclB.symm.trans q1
  cases (State.methodFound?_of_named hnamed hy).symm.trans q2
  cases hnamed.symm.trans q3
  have hselP : selectMethod e.platform s.vm cellB.cls mk = .method mk := by rw [Launch.admits_selectMethod X.admits]; exact q4
  obtain ⟨vm₁, X₁, hstep₁⟩ := X.invokevirtual hx hown hl hnamed hmethM hstM hkP hkPi hy (a := b) (cell := cellB) (by rw [hT]; exact hcB)
    (fun z h => by rw [h] at hoB; cases hoB) hselP hmethM habM hkP hkPi (g := F0 m pc ls st0) rfl (argsL := As) (rest := rest) (hn.trans (hlen _ hsigM)) hstack (by rw [hb]; exact hdg)
  obtain ⟨v, t, L, hth, hL, X', hsteps⟩ := xK_back (bytes := bytes) (maxL := maxL) (ret := ret) (ig := .invokevirtual index) (g := F0 m pc ls rest) (mk := mk) (a := (Value.ref b :: As).toArray) hM X₁ rfl (hsize.trans hml.symm) (by rw [hb]; exact hdg) hW8 (X₁.named hnamed)
    (fun w hw => hws w hw _ _ X₁.warmed) (hws _ hcw _ _ X₁.warmed) (word_at X₁.warmed (Or.inl rfl) hini) hfr hlo (by rw [hrc]; exact hf.1) (by rw [hrs]; exact hf.2) (hblind _ _ _ _ (hPc (T.setVm vm₁) hT X₁.warmed))
  obtain ⟨⟨w1, hpw, ws1, hi1, hP1, hD1⟩, hF1, ce, hce, hcv, hcl⟩ := hth
  have hclS : s.vm.findClass xEx = some ce.cls := by
    have h9 : (T.setVm vm₁).vm.findClass xEx = some ce.cls := hcl
    rw [X₁.warmed.alike.findClass] at h9
    exact h9
  generalize hU : (({ T.setVm vm₁ with heap := t.heap, slotsUsed := t.slotsUsed } : State).setVm t.vm) = U' at X' hsteps
  have e1 : U'.heap = t.heap := by rw [← hU]; rfl
  obtain ⟨vm', XV, st⟩ := xK_caught X' (v := v) (g := F0 m pc ls rest) rfl hown hsplit hcov h0 hlinkX hcast (by rw [e1]; exact hce) hcv hclS
  have hS1 : va_S A s.heap U'.heap (locs ++ L) := by
    obtain ⟨-, hS, -⟩ := hw
    have hh : ((T.setVm vm₁).calling (F0 m pc ls rest) mk (Value.ref b :: As).toArray).heap = H := hT
    obtain ⟨f1, f2⟩ := hF1
    rw [hh] at f1 f2
    refine ⟨by rw [e1]; exact Nat.le_trans hS.1 f1, fun q h1 h2 => ?_, fun z hz => ?_⟩
    · rw [e1]; exact (f2 q (Nat.lt_of_lt_of_le h1 hS.1) h2).trans (hS.2.1 q h1 h2)
    · rcases List.mem_append.mp hz with h | h
      · exact hS.2.2 z h
      · exact hL z h
  obtain ⟨t2, a1, b1⟩ := kk v w1 U'.heap (locs ++ L) hpw ⟨⟨ws1, hi1, by rw [e1]; exact hP1, hD1⟩, hS1, hw.2.2⟩ (U'.setVm vm') rfl XV
  refine ⟨t2, ?_, b1⟩
  refine hstep₁ _ fun acts => ?_
  rw [doInvoke_state]
  exact hsteps.trans (st _ a1)
end XTC
section XTS
variable {p : Program} {l : Launch} {e : Env} {R : Room} {s : State} {m : MethodId} {args : Array Value} {below : List Frame} {meth : Method} {c : Code} {H : Heap} {locs : List Loc} {cells slots : Nat}
/-- a static call of a method that has an exception table -/
theorem xT_runSW {y : MethodName} {bytes cc : ByteArray} {maxL nL mc ms n index : Nat} {ret : Option FieldType} {hh : List (Nat × Nat × Nat × Nat)} {rm : Room} {Pc : Array Value → State → Prop} {Qc : Array Value → State → Outcome → State → Prop} {free : Addr → Prop} {own : String} {As rest : List Value} {g : JFrame}
    (S : CallFix p m c cc nL s args xTB own) (hM : Met l y (Cond.codeWith y bytes maxL ret hh :: xTB) rm Pc Qc mc ms free) (hp : PreS s H Pc As) (hrc : rm.cells = mc) (hrs : rm.slots = ms) (hR : rm.frames + 1 ≤ R.frames ∧ 8 + (maxL + 11) + rm.locals ≤ R.locals)
    (w1 : Cond.methodLink own index y ∈ xTB) (w2 : Cond.static y ∈ xTB) (w3 : Cond.initialized y.cls ∈ xTB) (w4 : Cond.codeWith y bytes maxL ret hh ∈ xTB) (hy : y.cls ≠ "java/lang/invoke/MethodHandle" ∧ y.cls ≠ "java/lang/invoke/VarHandle" ∧ (parseMethodDescriptor y.desc).map (fun d => d.parameters.length) = some n)
    (hg : g.method = m) (hn : As.length = n) (hsize : g.locals.size = nL) (hstack : g.stack = As.reverse ++ rest) (hW : 2 * g.monitorRoom + (rest.map fun v => v.category).sum ≤ 8) (hdg : decode cc g.pc = .ok (.invokestatic index, 3)) (hf : cells + mc ≤ R.cells ∧ slots + ms ≤ R.slots) :
    va_Run p l e R s m args below meth c H locs cells slots mc ms g rest (Qc As.toArray) free := by
  obtain ⟨hx, hb, hml, hown, hts⟩ := S
  have hK : Back l R p e below s args y 3 8 (PreOf R mc ms Pc) (PostOf Qc mc ms free) := va_backW (hh := hh) (bytes := bytes) (maxL := maxL) (ret := ret) hM hp.1 hrc hrs hR.1 hR.2 (fun w hw a' U hW => by
    rcases List.mem_cons.mp hw with rfl | hw
    · exact word_at hW (xTB_good _ w4).2 (hts _ w4)
    · exact word_at hW (xTB_good _ hw).2 (hts _ hw)) List.mem_cons_self (fun a' U hW => word_at hW (xTB_good _ w3).2 (hts _ w3))
  intro T hT X
  obtain ⟨mk, methM, cM, hnamed, hmethM, -, -, -, -, -, -, hsigM⟩ := Cond.codeWith_spec (hts _ w4)
  have hstatic : methM.isStatic = true := Cond.static_spec hnamed hmethM (hts _ w2)
  obtain ⟨kP, hkP, -⟩ := className_of_methodNamed hnamed
  have hinitP : kP.init = .initialized := Cond.initialized_spec (findClass_of_methodNamed hnamed) hkP (hts _ w3)
  have hlen : As.length = methM.sig.parameters.length := by
    have h2 := hy.2.2
    rw [hsigM] at h2
    exact hn.trans (Option.some.inj h2).symm
  obtain ⟨vm₁, X₁, hstep₁⟩ := X.invokestatic hx hown (hts _ w1) hnamed hmethM hstatic hkP hinitP ⟨hy.1, hy.2.1⟩ (g := g) hg (argsL := As) (rest := rest) hlen hstack (by rw [hb]; exact hdg)
  obtain ⟨v, ⟨U', l2, c2, s2⟩, X', ⟨g', mk', t, L, e1, e2, hq, h1, hL, h2, h3⟩, hsteps⟩ := hK m meth c ⟨T.setVm vm₁, locs, cells, slots⟩ { g with stack := rest } (.invokestatic index) mk As.toArray X₁ hg (hsize.trans hml.symm) (by rw [hb]; exact hdg) hW (X₁.named hnamed) ⟨hf.1, hf.2, hp.2 (T.setVm vm₁) hT X₁.warmed⟩
  dsimp only [Pt.U, Pt.locs, Pt.cells, Pt.slots] at X' e1 e2 h1 h2 h3 hsteps
  subst h1; subst h2; subst h3
  exact ⟨v, (T.setVm vm₁).calling g' mk' As.toArray, t, U', L, hT, X', hL, e1, e2, hq, fun target h => hstep₁ _ fun acts => by rw [doInvoke_state]; exact hsteps.trans h⟩
end XTS
def xWw (y : MethodName) (c : ByteArray) (n : Nat) (r : Option FieldType) (hh : List (Nat × Nat × Nat × Nat)) : List Cond := Cond.codeWith y c n r hh :: xTB
end
