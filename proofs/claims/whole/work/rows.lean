section
-- ===== PART A: goes FIRST, ahead of the names: the tables' words, and 'selects' of the private methods out of them =====
/-- a private method of a class that the tables say can be made, by its rows of tables_1 -/
def lw_okq (q : MethodName × Nat) : Prop := (q.1.cls ≠ "java/lang/invoke/MethodHandle" ∧ q.1.cls ≠ "java/lang/invoke/VarHandle") ∧ Cond.instantiable q.1.cls q.2 ∈ tables_1 ∧ Cond.privateMethod q.1 ∈ tables_1 ∧ Cond.instanceMethod q.1 ∈ tables_1
theorem lw_p0 : lw_okq (⟨"java/util/ArrayList", "add", "(Ljava/lang/Object;[Ljava/lang/Object;I)V"⟩, 3) := ⟨⟨by decide +kernel, by decide +kernel⟩, List.mem_of_getElem? (i := 31) (by decide +kernel), List.mem_of_getElem? (i := 109) (by decide +kernel), List.mem_of_getElem? (i := 110) (by decide +kernel)⟩
theorem lw_p1 : lw_okq (⟨"java/util/ArrayList", "grow", "()[Ljava/lang/Object;"⟩, 3) := ⟨⟨by decide +kernel, by decide +kernel⟩, List.mem_of_getElem? (i := 31) (by decide +kernel), List.mem_of_getElem? (i := 113) (by decide +kernel), List.mem_of_getElem? (i := 114) (by decide +kernel)⟩
theorem lw_p2 : lw_okq (⟨"java/util/ArrayList", "grow", "(I)[Ljava/lang/Object;"⟩, 3) := ⟨⟨by decide +kernel, by decide +kernel⟩, List.mem_of_getElem? (i := 31) (by decide +kernel), List.mem_of_getElem? (i := 117) (by decide +kernel), List.mem_of_getElem? (i := 118) (by decide +kernel)⟩
theorem lw_p3 : lw_okq (⟨"PostLedger", "isClosed", "(J)Z"⟩, 4) := ⟨⟨by decide +kernel, by decide +kernel⟩, List.mem_of_getElem? (i := 23) (by decide +kernel), List.mem_of_getElem? (i := 172) (by decide +kernel), List.mem_of_getElem? (i := 173) (by decide +kernel)⟩
theorem lw_p4 : lw_okq (⟨"PostLedger", "hasRoomForBatch", "()Z"⟩, 4) := ⟨⟨by decide +kernel, by decide +kernel⟩, List.mem_of_getElem? (i := 23) (by decide +kernel), List.mem_of_getElem? (i := 177) (by decide +kernel), List.mem_of_getElem? (i := 178) (by decide +kernel)⟩
theorem lw_p5 : lw_okq (⟨"PostLedger", "findBatch", "(I)LPostLedger$Batch;"⟩, 4) := ⟨⟨by decide +kernel, by decide +kernel⟩, List.mem_of_getElem? (i := 23) (by decide +kernel), List.mem_of_getElem? (i := 218) (by decide +kernel), List.mem_of_getElem? (i := 219) (by decide +kernel)⟩
theorem lw_p6 : lw_okq (⟨"PostLedger", "findAccount", "(I)LPostLedger$Account;"⟩, 4) := ⟨⟨by decide +kernel, by decide +kernel⟩, List.mem_of_getElem? (i := 23) (by decide +kernel), List.mem_of_getElem? (i := 236) (by decide +kernel), List.mem_of_getElem? (i := 237) (by decide +kernel)⟩
theorem lw_p7 : lw_okq (⟨"PostLedger", "findBatchOfRow", "(I)LPostLedger$Batch;"⟩, 4) := ⟨⟨by decide +kernel, by decide +kernel⟩, List.mem_of_getElem? (i := 23) (by decide +kernel), List.mem_of_getElem? (i := 295) (by decide +kernel), List.mem_of_getElem? (i := 296) (by decide +kernel)⟩
theorem lw_p8 : lw_okq (⟨"PostLedger", "enterIntoBooks", "(LPostLedger$Batch;)V"⟩, 4) := ⟨⟨by decide +kernel, by decide +kernel⟩, List.mem_of_getElem? (i := 23) (by decide +kernel), List.mem_of_getElem? (i := 309) (by decide +kernel), List.mem_of_getElem? (i := 310) (by decide +kernel)⟩
theorem lw_p9 : lw_okq (⟨"PostLedger", "totalOfKind", "(II)J"⟩, 4) := ⟨⟨by decide +kernel, by decide +kernel⟩, List.mem_of_getElem? (i := 23) (by decide +kernel), List.mem_of_getElem? (i := 321) (by decide +kernel), List.mem_of_getElem? (i := 322) (by decide +kernel)⟩
theorem lw_p10 : lw_okq (⟨"PostLedger", "firstOfKind", "(II)LPostLedger$Account;"⟩, 4) := ⟨⟨by decide +kernel, by decide +kernel⟩, List.mem_of_getElem? (i := 23) (by decide +kernel), List.mem_of_getElem? (i := 329) (by decide +kernel), List.mem_of_getElem? (i := 330) (by decide +kernel)⟩
theorem lw_p11 : lw_okq (⟨"PostLedger$Batch", "sumOfRows", "()J"⟩, 6) := ⟨⟨by decide +kernel, by decide +kernel⟩, List.mem_of_getElem? (i := 181) (by decide +kernel), List.mem_of_getElem? (i := 376) (by decide +kernel), List.mem_of_getElem? (i := 377) (by decide +kernel)⟩
theorem lw_p12 : lw_okq (⟨"PostLedger$Batch", "breaksLimit", "(LPostLedger$Row;I)Z"⟩, 6) := ⟨⟨by decide +kernel, by decide +kernel⟩, List.mem_of_getElem? (i := 181) (by decide +kernel), List.mem_of_getElem? (i := 382) (by decide +kernel), List.mem_of_getElem? (i := 383) (by decide +kernel)⟩
theorem lw_p13 : lw_okq (⟨"java/lang/Throwable", "fillInStackTrace", "(I)Ljava/lang/Throwable;"⟩, 6) := ⟨⟨by decide +kernel, by decide +kernel⟩, List.mem_of_getElem? (i := 435) (by decide +kernel), List.mem_of_getElem? (i := 433) (by decide +kernel), List.mem_of_getElem? (i := 434) (by decide +kernel)⟩
theorem lw_p14 : lw_okq (⟨"PostLedgerModel", "make", "(J)I"⟩, 17) := ⟨⟨by decide +kernel, by decide +kernel⟩, List.mem_of_getElem? (i := 465) (by decide +kernel), List.mem_of_getElem? (i := 548) (by decide +kernel), List.mem_of_getElem? (i := 549) (by decide +kernel)⟩
theorem lw_p15 : lw_okq (⟨"PostLedgerModel", "isBatch", "(I)Z"⟩, 17) := ⟨⟨by decide +kernel, by decide +kernel⟩, List.mem_of_getElem? (i := 465) (by decide +kernel), List.mem_of_getElem? (i := 556) (by decide +kernel), List.mem_of_getElem? (i := 557) (by decide +kernel)⟩
def lw_privs_1 : List (MethodName × Nat) := [(⟨"java/util/ArrayList", "add", "(Ljava/lang/Object;[Ljava/lang/Object;I)V"⟩, 3), (⟨"java/util/ArrayList", "grow", "()[Ljava/lang/Object;"⟩, 3), (⟨"java/util/ArrayList", "grow", "(I)[Ljava/lang/Object;"⟩, 3), (⟨"PostLedger", "isClosed", "(J)Z"⟩, 4), (⟨"PostLedger", "hasRoomForBatch", "()Z"⟩, 4), (⟨"PostLedger", "findBatch", "(I)LPostLedger$Batch;"⟩, 4), (⟨"PostLedger", "findAccount", "(I)LPostLedger$Account;"⟩, 4), (⟨"PostLedger", "findBatchOfRow", "(I)LPostLedger$Batch;"⟩, 4), (⟨"PostLedger", "enterIntoBooks", "(LPostLedger$Batch;)V"⟩, 4), (⟨"PostLedger", "totalOfKind", "(II)J"⟩, 4), (⟨"PostLedger", "firstOfKind", "(II)LPostLedger$Account;"⟩, 4), (⟨"PostLedger$Batch", "sumOfRows", "()J"⟩, 6), (⟨"PostLedger$Batch", "breaksLimit", "(LPostLedger$Row;I)Z"⟩, 6), (⟨"java/lang/Throwable", "fillInStackTrace", "(I)Ljava/lang/Throwable;"⟩, 6), (⟨"PostLedgerModel", "make", "(J)I"⟩, 17), (⟨"PostLedgerModel", "isBatch", "(I)Z"⟩, 17)]
theorem lw_r1 : ∀ q ∈ lw_privs_1, lw_okq q := List.forall_mem_cons.mpr ⟨lw_p0, List.forall_mem_cons.mpr ⟨lw_p1, List.forall_mem_cons.mpr ⟨lw_p2, List.forall_mem_cons.mpr ⟨lw_p3, List.forall_mem_cons.mpr ⟨lw_p4, List.forall_mem_cons.mpr ⟨lw_p5, List.forall_mem_cons.mpr ⟨lw_p6, List.forall_mem_cons.mpr ⟨lw_p7, List.forall_mem_cons.mpr ⟨lw_p8, List.forall_mem_cons.mpr ⟨lw_p9, List.forall_mem_cons.mpr ⟨lw_p10, List.forall_mem_cons.mpr ⟨lw_p11, List.forall_mem_cons.mpr ⟨lw_p12, List.forall_mem_cons.mpr ⟨lw_p13, List.forall_mem_cons.mpr ⟨lw_p14, List.forall_mem_cons.mpr ⟨lw_p15, fun _ h => absurd h List.not_mem_nil⟩⟩⟩⟩⟩⟩⟩⟩⟩⟩⟩⟩⟩⟩⟩⟩
theorem lw_p16 : lw_okq (⟨"PostLedgerModel", "isAccount", "(I)Z"⟩, 17) := ⟨⟨by decide +kernel, by decide +kernel⟩, List.mem_of_getElem? (i := 465) (by decide +kernel), List.mem_of_getElem? (i := 560) (by decide +kernel), List.mem_of_getElem? (i := 561) (by decide +kernel)⟩
theorem lw_p17 : lw_okq (⟨"PostLedgerModel", "put", "(IIJ)V"⟩, 17) := ⟨⟨by decide +kernel, by decide +kernel⟩, List.mem_of_getElem? (i := 465) (by decide +kernel), List.mem_of_getElem? (i := 566) (by decide +kernel), List.mem_of_getElem? (i := 567) (by decide +kernel)⟩
theorem lw_p18 : lw_okq (⟨"PostLedgerModel", "go", "(I)I"⟩, 17) := ⟨⟨by decide +kernel, by decide +kernel⟩, List.mem_of_getElem? (i := 465) (by decide +kernel), List.mem_of_getElem? (i := 575) (by decide +kernel), List.mem_of_getElem? (i := 576) (by decide +kernel)⟩
theorem lw_p19 : lw_okq (⟨"PostLedgerModel", "stops", "(I)I"⟩, 17) := ⟨⟨by decide +kernel, by decide +kernel⟩, List.mem_of_getElem? (i := 465) (by decide +kernel), List.mem_of_getElem? (i := 579) (by decide +kernel), List.mem_of_getElem? (i := 580) (by decide +kernel)⟩
theorem lw_p20 : lw_okq (⟨"PostLedgerModel", "balanceOf", "(IJ)J"⟩, 17) := ⟨⟨by decide +kernel, by decide +kernel⟩, List.mem_of_getElem? (i := 465) (by decide +kernel), List.mem_of_getElem? (i := 584) (by decide +kernel), List.mem_of_getElem? (i := 585) (by decide +kernel)⟩
theorem lw_p21 : lw_okq (⟨"PostLedgerModel", "part", "(III)J"⟩, 17) := ⟨⟨by decide +kernel, by decide +kernel⟩, List.mem_of_getElem? (i := 465) (by decide +kernel), List.mem_of_getElem? (i := 588) (by decide +kernel), List.mem_of_getElem? (i := 589) (by decide +kernel)⟩
theorem lw_p22 : lw_okq (⟨"PostLedgerModel", "batchOf", "(I)I"⟩, 17) := ⟨⟨by decide +kernel, by decide +kernel⟩, List.mem_of_getElem? (i := 465) (by decide +kernel), List.mem_of_getElem? (i := 605) (by decide +kernel), List.mem_of_getElem? (i := 606) (by decide +kernel)⟩
theorem lw_p23 : lw_okq (⟨"PostLedgerModel", "first", "(II)I"⟩, 17) := ⟨⟨by decide +kernel, by decide +kernel⟩, List.mem_of_getElem? (i := 465) (by decide +kernel), List.mem_of_getElem? (i := 614) (by decide +kernel), List.mem_of_getElem? (i := 615) (by decide +kernel)⟩
def lw_privs_2 : List (MethodName × Nat) := [(⟨"PostLedgerModel", "isAccount", "(I)Z"⟩, 17), (⟨"PostLedgerModel", "put", "(IIJ)V"⟩, 17), (⟨"PostLedgerModel", "go", "(I)I"⟩, 17), (⟨"PostLedgerModel", "stops", "(I)I"⟩, 17), (⟨"PostLedgerModel", "balanceOf", "(IJ)J"⟩, 17), (⟨"PostLedgerModel", "part", "(III)J"⟩, 17), (⟨"PostLedgerModel", "batchOf", "(I)I"⟩, 17), (⟨"PostLedgerModel", "first", "(II)I"⟩, 17)]
theorem lw_r2 : ∀ q ∈ lw_privs_2, lw_okq q := List.forall_mem_cons.mpr ⟨lw_p16, List.forall_mem_cons.mpr ⟨lw_p17, List.forall_mem_cons.mpr ⟨lw_p18, List.forall_mem_cons.mpr ⟨lw_p19, List.forall_mem_cons.mpr ⟨lw_p20, List.forall_mem_cons.mpr ⟨lw_p21, List.forall_mem_cons.mpr ⟨lw_p22, List.forall_mem_cons.mpr ⟨lw_p23, fun _ h => absurd h List.not_mem_nil⟩⟩⟩⟩⟩⟩⟩⟩
def lw_privs : List (MethodName × Nat) := lw_privs_1 ++ (lw_privs_2)
def lw_tbl : List Cond := k2_sels lw_privs ++ tables_1
theorem lw_privs_ok : ∀ q ∈ lw_privs, lw_okq q := by
  show ∀ q ∈ lw_privs_1 ++ (lw_privs_2), lw_okq q
  exact List.forall_mem_append.mpr ⟨lw_r1, lw_r2⟩
end
section
/-! Names: classes, fields, methods; the words that every method is given (xTB) -/
def RPL : String := "PostLedger"
def RAC : String := "PostLedger$Account"
def RBA : String := "PostLedger$Batch"
def RRW : String := "PostLedger$Row"
def RMO : String := "PostLedgerModel"
def RAL : String := "java/util/ArrayList"
def RAB : String := "java/util/AbstractList"
def RAN : String := "java/util/AbstractCollection"
def RAR : String := "java/util/Arrays"
def ROB : String := "java/util/Objects"
def RPC : String := "jdk/internal/util/Preconditions"
def RAS : String := "jdk/internal/util/ArraysSupport"
def RMA : String := "java/lang/Math"
def ROJ : String := "java/lang/Object"
def TAL : u_T := fun k => match k with
  | 0 => ("java/util/AbstractList", "modCount", "I", false)
  | 1 => ("java/util/ArrayList", "elementData", "[Ljava/lang/Object;", false)
  | _ => ("java/util/ArrayList", "size", "I", false)
def tyAL : Nat → FieldType := fun k => match k with
  | 0 => .int
  | 1 => .array (.object "java/lang/Object")
  | _ => .int
theorem nmAL : ∀ a, a < 3 → ∀ b, b < 3 → a ≠ b → (TAL a).2.1 ≠ (TAL b).2.1 := by decide +kernel
theorem tyAL_ok : ∀ k, k < 3 → parseFieldDescriptor (TAL k).2.2.1 = some (tyAL k) := by decide +kernel
def TAC : u_T := fun k => match k with
  | 0 => ("PostLedger$Account", "office", "I", true)
  | 1 => ("PostLedger$Account", "kind", "I", true)
  | 2 => ("PostLedger$Account", "limit", "I", false)
  | _ => ("PostLedger$Account", "total", "J", false)
def tyAC : Nat → FieldType := fun k => match k with
  | 0 => .int
  | 1 => .int
  | 2 => .int
  | _ => .long
theorem nmAC : ∀ a, a < 4 → ∀ b, b < 4 → a ≠ b → (TAC a).2.1 ≠ (TAC b).2.1 := by decide +kernel
theorem tyAC_ok : ∀ k, k < 4 → parseFieldDescriptor (TAC k).2.2.1 = some (tyAC k) := by decide +kernel
def TBA : u_T := fun k => match k with
  | 0 => ("PostLedger$Batch", "day", "I", true)
  | 1 => ("PostLedger$Batch", "rows", "Ljava/util/ArrayList;", true)
  | 2 => ("PostLedger$Batch", "standing", "LPostLedger$Standing;", false)
  | 3 => ("PostLedger$Batch", "failsByPlan", "Z", false)
  | 4 => ("PostLedger$Batch", "isPartOfReversal", "Z", false)
  | _ => ("PostLedger$Batch", "firstRowNumber", "I", false)
def tyBA : Nat → FieldType := fun k => match k with
  | 0 => .int
  | 1 => .object "java/util/ArrayList"
  | 2 => .object "PostLedger$Standing"
  | 3 => .boolean
  | 4 => .boolean
  | _ => .int
theorem nmBA : ∀ a, a < 6 → ∀ b, b < 6 → a ≠ b → (TBA a).2.1 ≠ (TBA b).2.1 := by decide +kernel
theorem tyBA_ok : ∀ k, k < 6 → parseFieldDescriptor (TBA k).2.2.1 = some (tyBA k) := by decide +kernel
def TRW : u_T := fun k => match k with
  | 0 => ("PostLedger$Row", "account", "LPostLedger$Account;", true)
  | _ => ("PostLedger$Row", "cents", "J", true)
def tyRW : Nat → FieldType := fun k => match k with
  | 0 => .object "PostLedger$Account"
  | _ => .long
theorem nmRW : ∀ a, a < 2 → ∀ b, b < 2 → a ≠ b → (TRW a).2.1 ≠ (TRW b).2.1 := by decide +kernel
theorem tyRW_ok : ∀ k, k < 2 → parseFieldDescriptor (TRW k).2.2.1 = some (tyRW k) := by decide +kernel
def TPL : u_T := fun k => match k with
  | 0 => ("PostLedger", "accounts", "Ljava/util/ArrayList;", true)
  | 1 => ("PostLedger", "batches", "Ljava/util/ArrayList;", true)
  | 2 => ("PostLedger", "firstOpenDay", "I", false)
  | _ => ("PostLedger", "postedRows", "I", false)
def tyPL : Nat → FieldType := fun k => match k with
  | 0 => .object "java/util/ArrayList"
  | 1 => .object "java/util/ArrayList"
  | 2 => .int
  | _ => .int
theorem nmPL : ∀ a, a < 4 → ∀ b, b < 4 → a ≠ b → (TPL a).2.1 ≠ (TPL b).2.1 := by decide +kernel
theorem tyPL_ok : ∀ k, k < 4 → parseFieldDescriptor (TPL k).2.2.1 = some (tyPL k) := by decide +kernel
def TMO : u_T := fun k => match k with
  | 0 => ("PostLedgerModel", "thrown", "I", false)
  | 1 => ("PostLedgerModel", "accounts", "I", false)
  | 2 => ("PostLedgerModel", "offices", "[I", true)
  | 3 => ("PostLedgerModel", "kinds", "[I", true)
  | 4 => ("PostLedgerModel", "limits", "[J", true)
  | 5 => ("PostLedgerModel", "batches", "I", false)
  | 6 => ("PostLedgerModel", "states", "[I", true)
  | 7 => ("PostLedgerModel", "days", "[J", true)
  | 8 => ("PostLedgerModel", "planned", "[Z", true)
  | 9 => ("PostLedgerModel", "free", "[Z", true)
  | 10 => ("PostLedgerModel", "back", "[Z", true)
  | 11 => ("PostLedgerModel", "rows", "[I", true)
  | 12 => ("PostLedgerModel", "rowAccounts", "[I", true)
  | 13 => ("PostLedgerModel", "rowCents", "[J", true)
  | 14 => ("PostLedgerModel", "posted", "I", false)
  | 15 => ("PostLedgerModel", "postedBatches", "[I", true)
  | _ => ("PostLedgerModel", "closed", "J", false)
def tyMO : Nat → FieldType := fun k => match k with
  | 0 => .int
  | 1 => .int
  | 2 => .array .int
  | 3 => .array .int
  | 4 => .array .long
  | 5 => .int
  | 6 => .array .int
  | 7 => .array .long
  | 8 => .array .boolean
  | 9 => .array .boolean
  | 10 => .array .boolean
  | 11 => .array .int
  | 12 => .array .int
  | 13 => .array .long
  | 14 => .int
  | 15 => .array .int
  | _ => .long
theorem nmMO : ∀ a, a < 17 → ∀ b, b < 17 → a ≠ b → (TMO a).2.1 ≠ (TMO b).2.1 := by decide +kernel
theorem tyMO_ok : ∀ k, k < 17 → parseFieldDescriptor (TMO k).2.2.1 = some (tyMO k) := by decide +kernel
abbrev vwCl : List vw_C := [(RAL, TAL, 3), (RAC, TAC, 4), (RBA, TBA, 6), (RRW, TRW, 2), (RPL, TPL, 4), (RMO, TMO, 17)]
abbrev cPL_init : ByteArray := prog_1_method_1_code
def yPL_init : MethodName := ⟨RPL, "<init>", "()V"⟩
abbrev cOJ_init : ByteArray := object_method_1_code
def yOJ_init : MethodName := ⟨ROJ, "<init>", "()V"⟩
abbrev cAL_init : ByteArray := prog_22_method_2_code
def yAL_init : MethodName := ⟨RAL, "<init>", "()V"⟩
abbrev cAB_init : ByteArray := prog_21_method_1_code
def yAB_init : MethodName := ⟨RAB, "<init>", "()V"⟩
abbrev cAN_init : ByteArray := prog_20_method_1_code
def yAN_init : MethodName := ⟨RAN, "<init>", "()V"⟩
abbrev cPL_account : ByteArray := prog_1_method_2_code
def yPL_account : MethodName := ⟨RPL, "account", "(II)I"⟩
abbrev cPL_isOffice : ByteArray := prog_1_method_16_code
def yPL_isOffice : MethodName := ⟨RPL, "isOffice", "(I)Z"⟩
abbrev cAL_size : ByteArray := prog_22_method_8_code
def yAL_size : MethodName := ⟨RAL, "size", "()I"⟩
abbrev cAC_init : ByteArray := prog_2_method_1_code
def yAC_init : MethodName := ⟨RAC, "<init>", "(II)V"⟩
abbrev cAL_add : ByteArray := prog_22_method_25_code
def yAL_add : MethodName := ⟨RAL, "add", "(Ljava/lang/Object;)Z"⟩
abbrev cAL_add2 : ByteArray := prog_22_method_24_code
def yAL_add2 : MethodName := ⟨RAL, "add", "(Ljava/lang/Object;[Ljava/lang/Object;I)V"⟩
abbrev cAL_grow : ByteArray := prog_22_method_7_code
def yAL_grow : MethodName := ⟨RAL, "grow", "()[Ljava/lang/Object;"⟩
abbrev cAL_grow2 : ByteArray := prog_22_method_6_code
def yAL_grow2 : MethodName := ⟨RAL, "grow", "(I)[Ljava/lang/Object;"⟩
abbrev cAS_newLength : ByteArray := prog_29_method_27_code
def yAS_newLength : MethodName := ⟨RAS, "newLength", "(III)I"⟩
abbrev cMA_max : ByteArray := prog_15_method_65_code
def yMA_max : MethodName := ⟨RMA, "max", "(II)I"⟩
abbrev cAS_hugeLength : ByteArray := prog_29_method_28_code
def yAS_hugeLength : MethodName := ⟨RAS, "hugeLength", "(II)I"⟩
abbrev cAR_copyOf : ByteArray := prog_23_method_119_code
def yAR_copyOf : MethodName := ⟨RAR, "copyOf", "([Ljava/lang/Object;I)[Ljava/lang/Object;"⟩
abbrev cAR_copyOf2 : ByteArray := prog_23_method_120_code
def yAR_copyOf2 : MethodName := ⟨RAR, "copyOf", "([Ljava/lang/Object;ILjava/lang/Class;)[Ljava/lang/Object;"⟩
abbrev cMA_min : ByteArray := prog_15_method_69_code
def yMA_min : MethodName := ⟨RMA, "min", "(II)I"⟩
abbrev cPL_batch : ByteArray := prog_1_method_3_code
def yPL_batch : MethodName := ⟨RPL, "batch", "(J)I"⟩
abbrev cPL_isDay : ByteArray := prog_1_method_17_code
def yPL_isDay : MethodName := ⟨RPL, "isDay", "(J)Z"⟩
abbrev cPL_isWithin : ByteArray := prog_1_method_15_code
def yPL_isWithin : MethodName := ⟨RPL, "isWithin", "(JJJ)Z"⟩
abbrev cPL_isClosed : ByteArray := prog_1_method_18_code
def yPL_isClosed : MethodName := ⟨RPL, "isClosed", "(J)Z"⟩
abbrev cPL_hasRoomForBatch : ByteArray := prog_1_method_19_code
def yPL_hasRoomForBatch : MethodName := ⟨RPL, "hasRoomForBatch", "()Z"⟩
abbrev cBA_init : ByteArray := prog_3_method_1_code
def yBA_init : MethodName := ⟨RBA, "<init>", "(I)V"⟩
abbrev cPL_row : ByteArray := prog_1_method_4_code
def yPL_row : MethodName := ⟨RPL, "row", "(IIJ)Z"⟩
abbrev cPL_findBatch : ByteArray := prog_1_method_21_code
def yPL_findBatch : MethodName := ⟨RPL, "findBatch", "(I)LPostLedger$Batch;"⟩
abbrev cAL_get : ByteArray := prog_22_method_20_code
def yAL_get : MethodName := ⟨RAL, "get", "(I)Ljava/lang/Object;"⟩
abbrev cOB_checkIndex : ByteArray := prog_26_method_17_code
def yOB_checkIndex : MethodName := ⟨ROB, "checkIndex", "(II)I"⟩
abbrev cPC_checkIndex : ByteArray := prog_30_method_11_code
def yPC_checkIndex : MethodName := ⟨RPC, "checkIndex", "(IILjava/util/function/BiFunction;)I"⟩
abbrev cAL_elementData : ByteArray := prog_22_method_18_code
def yAL_elementData : MethodName := ⟨RAL, "elementData", "(I)Ljava/lang/Object;"⟩
abbrev cPL_findAccount : ByteArray := prog_1_method_20_code
def yPL_findAccount : MethodName := ⟨RPL, "findAccount", "(I)LPostLedger$Account;"⟩
abbrev cBA_isOpen : ByteArray := prog_3_method_2_code
def yBA_isOpen : MethodName := ⟨RBA, "isOpen", "()Z"⟩
abbrev cBA_isFull : ByteArray := prog_3_method_4_code
def yBA_isFull : MethodName := ⟨RBA, "isFull", "()Z"⟩
abbrev cBA_addRow : ByteArray := prog_3_method_6_code
def yBA_addRow : MethodName := ⟨RBA, "addRow", "(LPostLedger$Account;J)V"⟩
abbrev cRW_init : ByteArray := prog_5_method_1_code
def yRW_init : MethodName := ⟨RRW, "<init>", "(LPostLedger$Account;J)V"⟩
abbrev cPL_balance : ByteArray := prog_1_method_6_code
def yPL_balance : MethodName := ⟨RPL, "balance", "(IJ)J"⟩
abbrev cBA_size : ByteArray := prog_3_method_3_code
def yBA_size : MethodName := ⟨RBA, "size", "()I"⟩
abbrev cBA_sumForAccount : ByteArray := prog_3_method_12_code
def yBA_sumForAccount : MethodName := ⟨RBA, "sumForAccount", "(LPostLedger$Account;I)J"⟩
abbrev cPL_close : ByteArray := prog_1_method_7_code
def yPL_close : MethodName := ⟨RPL, "close", "(J)I"⟩
abbrev cPL_reverse : ByteArray := prog_1_method_8_code
def yPL_reverse : MethodName := ⟨RPL, "reverse", "(I)I"⟩
abbrev cPL_findBatchOfRow : ByteArray := prog_1_method_22_code
def yPL_findBatchOfRow : MethodName := ⟨RPL, "findBatchOfRow", "(I)LPostLedger$Batch;"⟩
abbrev cBA_hasRowNumber : ByteArray := prog_3_method_5_code
def yBA_hasRowNumber : MethodName := ⟨RBA, "hasRowNumber", "(I)Z"⟩
abbrev cBA_addRowsWithOtherSign : ByteArray := prog_3_method_7_code
def yBA_addRowsWithOtherSign : MethodName := ⟨RBA, "addRowsWithOtherSign", "(LPostLedger$Batch;)V"⟩
abbrev cPL_enterIntoBooks : ByteArray := prog_1_method_25_code
def yPL_enterIntoBooks : MethodName := ⟨RPL, "enterIntoBooks", "(LPostLedger$Batch;)V"⟩
abbrev cBA_addToTotals : ByteArray := prog_3_method_8_code
def yBA_addToTotals : MethodName := ⟨RBA, "addToTotals", "()V"⟩
abbrev cPL_stock : ByteArray := prog_1_method_9_code
def yPL_stock : MethodName := ⟨RPL, "stock", "(IIJ)I"⟩
abbrev cPL_totalOfKind : ByteArray := prog_1_method_24_code
def yPL_totalOfKind : MethodName := ⟨RPL, "totalOfKind", "(II)J"⟩
abbrev cAC_isOfKind : ByteArray := prog_2_method_2_code
def yAC_isOfKind : MethodName := ⟨RAC, "isOfKind", "(II)Z"⟩
abbrev cPL_firstOfKind : ByteArray := prog_1_method_23_code
def yPL_firstOfKind : MethodName := ⟨RPL, "firstOfKind", "(II)LPostLedger$Account;"⟩
abbrev cPL_limit : ByteArray := prog_1_method_10_code
def yPL_limit : MethodName := ⟨RPL, "limit", "(IJ)I"⟩
abbrev cPL_fails : ByteArray := prog_1_method_11_code
def yPL_fails : MethodName := ⟨RPL, "fails", "(IZ)Z"⟩
abbrev cPL_hold : ByteArray := prog_1_method_12_code
def yPL_hold : MethodName := ⟨RPL, "hold", "(I)J"⟩
abbrev cBA_takenFromAccount : ByteArray := prog_3_method_13_code
def yBA_takenFromAccount : MethodName := ⟨RBA, "takenFromAccount", "(LPostLedger$Account;)J"⟩
abbrev cPL_rows : ByteArray := prog_1_method_13_code
def yPL_rows : MethodName := ⟨RPL, "rows", "()I"⟩
abbrev cPL_all : ByteArray := prog_1_method_14_code
def yPL_all : MethodName := ⟨RPL, "all", "()J"⟩
abbrev cPL_post : ByteArray := prog_1_method_5_code
def yPL_post : MethodName := ⟨RPL, "post", "(I)I"⟩
abbrev cBA_outcomeOfPosting : ByteArray := prog_3_method_9_code
def yBA_outcomeOfPosting : MethodName := ⟨RBA, "outcomeOfPosting", "()LPostLedger$Outcome;"⟩
abbrev cAL_isEmpty : ByteArray := prog_22_method_9_code
def yAL_isEmpty : MethodName := ⟨RAL, "isEmpty", "()Z"⟩
abbrev cBA_sumOfRows : ByteArray := prog_3_method_11_code
def yBA_sumOfRows : MethodName := ⟨RBA, "sumOfRows", "()J"⟩
abbrev cBA_breaksLimit : ByteArray := prog_3_method_10_code
def yBA_breaksLimit : MethodName := ⟨RBA, "breaksLimit", "(LPostLedger$Row;I)Z"⟩
abbrev cRW_takesFromCustomer : ByteArray := prog_5_method_2_code
def yRW_takesFromCustomer : MethodName := ⟨RRW, "takesFromCustomer", "()Z"⟩
abbrev cMO_init : ByteArray := prog_8_method_1_code
def yMO_init : MethodName := ⟨RMO, "<init>", "()V"⟩
abbrev cMO_thrown : ByteArray := prog_8_method_2_code
def yMO_thrown : MethodName := ⟨RMO, "thrown", "()I"⟩
abbrev cMO_account : ByteArray := prog_8_method_6_code
def yMO_account : MethodName := ⟨RMO, "account", "(II)I"⟩
abbrev cMO_isIn : ByteArray := prog_8_method_3_code
def yMO_isIn : MethodName := ⟨RMO, "isIn", "(JJJ)Z"⟩
abbrev cMO_batch : ByteArray := prog_8_method_8_code
def yMO_batch : MethodName := ⟨RMO, "batch", "(J)I"⟩
abbrev cMO_make : ByteArray := prog_8_method_7_code
def yMO_make : MethodName := ⟨RMO, "make", "(J)I"⟩
abbrev cMO_row : ByteArray := prog_8_method_10_code
def yMO_row : MethodName := ⟨RMO, "row", "(IIJ)Z"⟩
abbrev cMO_isBatch : ByteArray := prog_8_method_5_code
def yMO_isBatch : MethodName := ⟨RMO, "isBatch", "(I)Z"⟩
abbrev cMO_isAccount : ByteArray := prog_8_method_4_code
def yMO_isAccount : MethodName := ⟨RMO, "isAccount", "(I)Z"⟩
abbrev cMO_put : ByteArray := prog_8_method_9_code
def yMO_put : MethodName := ⟨RMO, "put", "(IIJ)V"⟩
abbrev cMO_post : ByteArray := prog_8_method_15_code
def yMO_post : MethodName := ⟨RMO, "post", "(I)I"⟩
abbrev cMO_go : ByteArray := prog_8_method_14_code
def yMO_go : MethodName := ⟨RMO, "go", "(I)I"⟩
abbrev cMO_stops : ByteArray := prog_8_method_13_code
def yMO_stops : MethodName := ⟨RMO, "stops", "(I)I"⟩
abbrev cMO_balanceOf : ByteArray := prog_8_method_12_code
def yMO_balanceOf : MethodName := ⟨RMO, "balanceOf", "(IJ)J"⟩
abbrev cMO_part : ByteArray := prog_8_method_11_code
def yMO_part : MethodName := ⟨RMO, "part", "(III)J"⟩
abbrev cMO_balance : ByteArray := prog_8_method_16_code
def yMO_balance : MethodName := ⟨RMO, "balance", "(IJ)J"⟩
abbrev cMO_close : ByteArray := prog_8_method_17_code
def yMO_close : MethodName := ⟨RMO, "close", "(J)I"⟩
abbrev cMO_reverse : ByteArray := prog_8_method_19_code
def yMO_reverse : MethodName := ⟨RMO, "reverse", "(I)I"⟩
abbrev cMO_batchOf : ByteArray := prog_8_method_18_code
def yMO_batchOf : MethodName := ⟨RMO, "batchOf", "(I)I"⟩
abbrev cMO_stock : ByteArray := prog_8_method_21_code
def yMO_stock : MethodName := ⟨RMO, "stock", "(IIJ)I"⟩
abbrev cMO_first : ByteArray := prog_8_method_20_code
def yMO_first : MethodName := ⟨RMO, "first", "(II)I"⟩
abbrev cMO_limit : ByteArray := prog_8_method_22_code
def yMO_limit : MethodName := ⟨RMO, "limit", "(IJ)I"⟩
abbrev cMO_fails : ByteArray := prog_8_method_23_code
def yMO_fails : MethodName := ⟨RMO, "fails", "(IZ)Z"⟩
abbrev cMO_hold : ByteArray := prog_8_method_24_code
def yMO_hold : MethodName := ⟨RMO, "hold", "(I)J"⟩
abbrev cMO_rows : ByteArray := prog_8_method_25_code
def yMO_rows : MethodName := ⟨RMO, "rows", "()I"⟩
abbrev cMO_all : ByteArray := prog_8_method_26_code
def yMO_all : MethodName := ⟨RMO, "all", "()J"⟩
def xTB : List Cond := lw_tbl.filter goodWord
theorem xTB_of {i : Nat} {w : Cond} (h : lw_tbl[i]? = some w) (hg : goodWord w = true) : w ∈ xTB := List.mem_filter.mpr ⟨List.mem_of_getElem? h, hg⟩
theorem xTB_good : ∀ w ∈ xTB, w ∈ xTB ∧ ((w.onTables && w.keeps) = true ∨ ∃ ty, w = .arrayClass ty) := fun w h => ⟨h, good_of_word (List.mem_filter.mp h).2⟩
theorem xTB_in : ∀ w ∈ xTB, w ∈ lw_tbl := fun _ h => (List.mem_filter.mp h).1
theorem inAL : ∀ w ∈ u_ws RAL TAL 3, w ∈ xTB := by
  intro w hw
  obtain ⟨k, hk, rfl⟩ := List.mem_map.mp hw
  have hk := List.mem_range.mp hk
  have h : ∀ k, k < 3 → lw_tbl[([77, 73, 75] : List Nat).getD k 0]? = some (u_lay RAL TAL k) ∧ goodWord (u_lay RAL TAL k) = true := by decide +kernel
  exact xTB_of (h k hk).1 (h k hk).2
theorem inAC : ∀ w ∈ u_ws RAC TAC 4, w ∈ xTB := by
  intro w hw
  obtain ⟨k, hk, rfl⟩ := List.mem_map.mp hw
  have hk := List.mem_range.mp hk
  have h : ∀ k, k < 4 → lw_tbl[([119, 121, 123, 125] : List Nat).getD k 0]? = some (u_lay RAC TAC k) ∧ goodWord (u_lay RAC TAC k) = true := by decide +kernel
  exact xTB_of (h k hk).1 (h k hk).2
theorem inBA : ∀ w ∈ u_ws RBA TBA 6, w ∈ xTB := by
  intro w hw
  obtain ⟨k, hk, rfl⟩ := List.mem_map.mp hw
  have hk := List.mem_range.mp hk
  have h : ∀ k, k < 6 → lw_tbl[([224, 226, 228, 230, 232, 234] : List Nat).getD k 0]? = some (u_lay RBA TBA k) ∧ goodWord (u_lay RBA TBA k) = true := by decide +kernel
  exact xTB_of (h k hk).1 (h k hk).2
theorem inRW : ∀ w ∈ u_ws RRW TRW 2, w ∈ xTB := by
  intro w hw
  obtain ⟨k, hk, rfl⟩ := List.mem_map.mp hw
  have hk := List.mem_range.mp hk
  have h : ∀ k, k < 2 → lw_tbl[([288, 290] : List Nat).getD k 0]? = some (u_lay RRW TRW k) ∧ goodWord (u_lay RRW TRW k) = true := by decide +kernel
  exact xTB_of (h k hk).1 (h k hk).2
theorem inPL : ∀ w ∈ u_ws RPL TPL 4, w ∈ xTB := by
  intro w hw
  obtain ⟨k, hk, rfl⟩ := List.mem_map.mp hw
  have hk := List.mem_range.mp hk
  have h : ∀ k, k < 4 → lw_tbl[([84, 86, 88, 90] : List Nat).getD k 0]? = some (u_lay RPL TPL k) ∧ goodWord (u_lay RPL TPL k) = true := by decide +kernel
  exact xTB_of (h k hk).1 (h k hk).2
theorem inMO : ∀ w ∈ u_ws RMO TMO 17, w ∈ xTB := by
  intro w hw
  obtain ⟨k, hk, rfl⟩ := List.mem_map.mp hw
  have hk := List.mem_range.mp hk
  have h : ∀ k, k < 17 → lw_tbl[([512, 514, 516, 518, 520, 522, 524, 526, 528, 530, 532, 534, 536, 538, 540, 542, 544] : List Nat).getD k 0]? = some (u_lay RMO TMO k) ∧ goodWord (u_lay RMO TMO k) = true := by decide +kernel
  exact xTB_of (h k hk).1 (h k hk).2
theorem xG_V {own : String} {idx : Nat} {C : String} {y : MethodName} {c : ByteArray} {n : Nat} {r : Option FieldType} (h1 : Cond.methodLink own idx y ∈ xTB) (h2 : Cond.instanceMethod y ∈ xTB) (h3 : Cond.selects C y y ∈ xTB) (h4 : Cond.initialized C ∈ xTB) (h5 : Cond.code y c n r ∈ xTB) : GoodIn xTB (wsV own idx C y (Cond.code y c n r :: xTB)) := by
  intro w hw
  refine xTB_good w ?_
  rcases List.mem_append.mp hw with h | h
  · simp only [List.mem_cons, List.not_mem_nil, or_false] at h
    rcases h with rfl | rfl | rfl | rfl <;> assumption
  · rcases List.mem_cons.mp h with rfl | h <;> assumption
theorem xG_S {own : String} {idx : Nat} {y : MethodName} {c : ByteArray} {n : Nat} {r : Option FieldType} (h1 : Cond.methodLink own idx y ∈ xTB) (h2 : Cond.static y ∈ xTB) (h4 : Cond.initialized y.cls ∈ xTB) (h5 : Cond.code y c n r ∈ xTB) : GoodIn xTB (va_wsS own idx y (Cond.code y c n r :: xTB)) := by
  intro w hw
  refine xTB_good w ?_
  rcases List.mem_append.mp hw with h | h
  · simp only [List.mem_cons, List.not_mem_nil, or_false] at h
    rcases h with rfl | rfl | rfl <;> assumption
  · rcases List.mem_cons.mp h with rfl | h <;> assumption
theorem xG_I {y : MethodName} {c : ByteArray} {n : Nat} {r : Option FieldType} (h5 : Cond.code y c n r ∈ xTB) : GoodIn xTB (Cond.code y c n r :: xTB) := by
  intro w hw
  refine xTB_good w ?_
  rcases List.mem_cons.mp hw with rfl | h <;> assumption
end
section
/-! The words, by their places in the table -/
theorem mw_0 : (Cond.methodLink RAN 1 objectInit : Cond) ∈ xTB := xTB_of (i := 65) (by decide +kernel) (by decide +kernel)
theorem mw_1 : (Cond.instanceMethod objectInit : Cond) ∈ xTB := xTB_of (i := 52) (by decide +kernel) (by decide +kernel)
theorem mw_2 : (Cond.code objectInit ⟨#[0xb1]⟩ 1 none : Cond) ∈ xTB := xTB_of (i := 53) (by decide +kernel) (by decide +kernel)
theorem mw_3 : (Cond.fieldLink RAB 7 "java/util/AbstractList" "modCount" "I" : Cond) ∈ xTB := xTB_of (i := 70) (by decide +kernel) (by decide +kernel)
theorem mw_4 : (Cond.methodLink RAB 1 yAN_init : Cond) ∈ xTB := xTB_of (i := 62) (by decide +kernel) (by decide +kernel)
theorem mw_5 : (Cond.code yAN_init cAN_init 1 none : Cond) ∈ xTB := xTB_of (i := 64) (by decide +kernel) (by decide +kernel)
theorem mw_6 : (Cond.initialized RAN : Cond) ∈ xTB := xTB_of (i := 26) (by decide +kernel) (by decide +kernel)
theorem mw_7 : (Cond.instanceMethod yAN_init : Cond) ∈ xTB := xTB_of (i := 63) (by decide +kernel) (by decide +kernel)
theorem mw_8 : (Cond.fieldLink RAL 9 "java/util/ArrayList" "elementData" "[Ljava/lang/Object;" : Cond) ∈ xTB := xTB_of (i := 68) (by decide +kernel) (by decide +kernel)
theorem mw_9 : (Cond.fieldLink RAL 39 "java/util/ArrayList" "DEFAULTCAPACITY_EMPTY_ELEMENTDATA" "[Ljava/lang/Object;" : Cond) ∈ xTB := xTB_of (i := 66) (by decide +kernel) (by decide +kernel)
theorem mw_10 : (Cond.methodLink RAL 1 yAB_init : Cond) ∈ xTB := xTB_of (i := 59) (by decide +kernel) (by decide +kernel)
theorem mw_11 : (Cond.code yAB_init cAB_init 1 none : Cond) ∈ xTB := xTB_of (i := 61) (by decide +kernel) (by decide +kernel)
theorem mw_12 : (Cond.initialized RAB : Cond) ∈ xTB := xTB_of (i := 27) (by decide +kernel) (by decide +kernel)
theorem mw_13 : (Cond.instanceMethod yAB_init : Cond) ∈ xTB := xTB_of (i := 60) (by decide +kernel) (by decide +kernel)
theorem mw_14 : (Cond.fieldLink RPL 23 "PostLedger" "postedRows" "I" : Cond) ∈ xTB := xTB_of (i := 83) (by decide +kernel) (by decide +kernel)
theorem mw_15 : (Cond.fieldLink RPL 19 "PostLedger" "firstOpenDay" "I" : Cond) ∈ xTB := xTB_of (i := 82) (by decide +kernel) (by decide +kernel)
theorem mw_16 : (Cond.fieldLink RPL 16 "PostLedger" "batches" "Ljava/util/ArrayList;" : Cond) ∈ xTB := xTB_of (i := 81) (by decide +kernel) (by decide +kernel)
theorem mw_17 : (Cond.methodLink RPL 9 yAL_init : Cond) ∈ xTB := xTB_of (i := 56) (by decide +kernel) (by decide +kernel)
theorem mw_18 : (Cond.code yAL_init cAL_init 1 none : Cond) ∈ xTB := xTB_of (i := 58) (by decide +kernel) (by decide +kernel)
theorem mw_19 : (Cond.initialized RAL : Cond) ∈ xTB := xTB_of (i := 28) (by decide +kernel) (by decide +kernel)
theorem mw_20 : (Cond.instanceMethod yAL_init : Cond) ∈ xTB := xTB_of (i := 57) (by decide +kernel) (by decide +kernel)
theorem mw_21 : (Cond.classLink RPL 7 RAL : Cond) ∈ xTB := xTB_of (i := 54) (by decide +kernel) (by decide +kernel)
theorem mw_22 : (Cond.instantiable RAL 3 : Cond) ∈ xTB := xTB_of (i := 55) (by decide +kernel) (by decide +kernel)
theorem mw_23 : (Cond.fieldLink RPL 10 "PostLedger" "accounts" "Ljava/util/ArrayList;" : Cond) ∈ xTB := xTB_of (i := 80) (by decide +kernel) (by decide +kernel)
theorem mw_24 : (Cond.methodLink RPL 1 objectInit : Cond) ∈ xTB := xTB_of (i := 51) (by decide +kernel) (by decide +kernel)
theorem mw_25 : (Cond.fieldLink RAL 48 "java/util/ArrayList" "size" "I" : Cond) ∈ xTB := xTB_of (i := 69) (by decide +kernel) (by decide +kernel)
theorem mw_26 : (Cond.fieldLink RAC 13 "PostLedger$Account" "kind" "I" : Cond) ∈ xTB := xTB_of (i := 113) (by decide +kernel) (by decide +kernel)
theorem mw_27 : (Cond.fieldLink RAC 7 "PostLedger$Account" "office" "I" : Cond) ∈ xTB := xTB_of (i := 112) (by decide +kernel) (by decide +kernel)
theorem mw_28 : (Cond.methodLink RAC 1 objectInit : Cond) ∈ xTB := xTB_of (i := 111) (by decide +kernel) (by decide +kernel)
theorem mw_29 : (Cond.constant RAS 200 2147483639 : Cond) ∈ xTB := xTB_of (i := 150) (by decide +kernel) (by decide +kernel)
theorem mw_30 : (Cond.methodLink RAS 201 yAS_hugeLength : Cond) ∈ xTB := xTB_of (i := 151) (by decide +kernel) (by decide +kernel)
theorem mw_31 : (Cond.static yAS_hugeLength : Cond) ∈ xTB := xTB_of (i := 152) (by decide +kernel) (by decide +kernel)
theorem mw_32 : (Cond.initialized RAS : Cond) ∈ xTB := xTB_of (i := 31) (by decide +kernel) (by decide +kernel)
theorem mw_33 : (Cond.code yAS_hugeLength cAS_hugeLength 3 (some (.int)) : Cond) ∈ xTB := xTB_of (i := 153) (by decide +kernel) (by decide +kernel)
theorem mw_34 : (Cond.code Lib.Math.max.name Lib.Math.max.code 2 (some .int) : Cond) ∈ xTB := xTB_of (i := 149) (by decide +kernel) (by decide +kernel)
theorem mw_35 : (Cond.methodLink RAS 194 yMA_max : Cond) ∈ xTB := xTB_of (i := 147) (by decide +kernel) (by decide +kernel)
theorem mw_36 : (Cond.static yMA_max : Cond) ∈ xTB := xTB_of (i := 148) (by decide +kernel) (by decide +kernel)
theorem mw_37 : (Cond.initialized RMA : Cond) ∈ xTB := xTB_of (i := 32) (by decide +kernel) (by decide +kernel)
theorem mw_38 : (Cond.methodLink RAR 150 ⟨"java/lang/System", "arraycopy", "(Ljava/lang/Object;ILjava/lang/Object;II)V"⟩ : Cond) ∈ xTB := xTB_of (i := 179) (by decide +kernel) (by decide +kernel)
theorem mw_39 : (Cond.native ⟨"java/lang/System", "arraycopy", "(Ljava/lang/Object;ILjava/lang/Object;II)V"⟩ : Cond) ∈ xTB := xTB_of (i := 181) (by decide +kernel) (by decide +kernel)
theorem mw_40 : (Cond.static ⟨"java/lang/System", "arraycopy", "(Ljava/lang/Object;ILjava/lang/Object;II)V"⟩ : Cond) ∈ xTB := xTB_of (i := 180) (by decide +kernel) (by decide +kernel)
theorem mw_41 : (Cond.initialized "java/lang/System" : Cond) ∈ xTB := xTB_of (i := 34) (by decide +kernel) (by decide +kernel)
theorem mw_42 : (Cond.code Lib.Math.min.name Lib.Math.min.code 2 (some .int) : Cond) ∈ xTB := xTB_of (i := 178) (by decide +kernel) (by decide +kernel)
theorem mw_43 : (Cond.methodLink RAR 304 yMA_min : Cond) ∈ xTB := xTB_of (i := 176) (by decide +kernel) (by decide +kernel)
theorem mw_44 : (Cond.static yMA_min : Cond) ∈ xTB := xTB_of (i := 177) (by decide +kernel) (by decide +kernel)
theorem mw_45 : (Cond.classLink RAR 2 ROJ : Cond) ∈ xTB := xTB_of (i := 175) (by decide +kernel) (by decide +kernel)
theorem mw_46 : (Cond.classLink RAR 110 "[Ljava/lang/Object;" : Cond) ∈ xTB := xTB_of (i := 173) (by decide +kernel) (by decide +kernel)
theorem mw_47 : (Cond.methodLink RAR 300 yAR_copyOf2 : Cond) ∈ xTB := xTB_of (i := 170) (by decide +kernel) (by decide +kernel)
theorem mw_48 : (Cond.static yAR_copyOf2 : Cond) ∈ xTB := xTB_of (i := 171) (by decide +kernel) (by decide +kernel)
theorem mw_49 : (Cond.initialized RAR : Cond) ∈ xTB := xTB_of (i := 33) (by decide +kernel) (by decide +kernel)
theorem mw_50 : (Cond.code yAR_copyOf2 cAR_copyOf2 4 (some (.array (.object "java/lang/Object"))) : Cond) ∈ xTB := xTB_of (i := 172) (by decide +kernel) (by decide +kernel)
theorem mw_51 : (Cond.methodLink RAR 86 ⟨"java/lang/Object", "getClass", "()Ljava/lang/Class;"⟩ : Cond) ∈ xTB := xTB_of (i := 157) (by decide +kernel) (by decide +kernel)
theorem mw_52 : (Cond.selects "[Ljava/lang/Object;" ⟨"java/lang/Object", "getClass", "()Ljava/lang/Class;"⟩ ⟨"java/lang/Object", "getClass", "()Ljava/lang/Class;"⟩ : Cond) ∈ xTB := xTB_of (i := 669) (by decide +kernel) (by decide +kernel)
theorem mw_53 : (Cond.instanceMethod ⟨"java/lang/Object", "getClass", "()Ljava/lang/Class;"⟩ : Cond) ∈ xTB := xTB_of (i := 158) (by decide +kernel) (by decide +kernel)
theorem mw_54 : (Cond.native ⟨"java/lang/Object", "getClass", "()Ljava/lang/Class;"⟩ : Cond) ∈ xTB := xTB_of (i := 169) (by decide +kernel) (by decide +kernel)
theorem mw_55 : (Cond.methodLink RAL 66 yAR_copyOf : Cond) ∈ xTB := xTB_of (i := 154) (by decide +kernel) (by decide +kernel)
theorem mw_56 : (Cond.static yAR_copyOf : Cond) ∈ xTB := xTB_of (i := 155) (by decide +kernel) (by decide +kernel)
theorem mw_57 : (Cond.code yAR_copyOf cAR_copyOf 2 (some (.array (.object "java/lang/Object"))) : Cond) ∈ xTB := xTB_of (i := 156) (by decide +kernel) (by decide +kernel)
theorem mw_58 : (Cond.methodLink RAL 73 yAS_newLength : Cond) ∈ xTB := xTB_of (i := 144) (by decide +kernel) (by decide +kernel)
theorem mw_59 : (Cond.static yAS_newLength : Cond) ∈ xTB := xTB_of (i := 145) (by decide +kernel) (by decide +kernel)
theorem mw_60 : (Cond.code yAS_newLength cAS_newLength 4 (some (.int)) : Cond) ∈ xTB := xTB_of (i := 146) (by decide +kernel) (by decide +kernel)
theorem mw_61 : (Cond.classLink RAL 7 ROJ : Cond) ∈ xTB := xTB_of (i := 183) (by decide +kernel) (by decide +kernel)
theorem mw_62 : (Cond.methodLink RAL 79 yMA_max : Cond) ∈ xTB := xTB_of (i := 182) (by decide +kernel) (by decide +kernel)
theorem mw_63 : (Cond.methodLink RAL 69 yAL_grow2 : Cond) ∈ xTB := xTB_of (i := 140) (by decide +kernel) (by decide +kernel)
theorem mw_64 : (Cond.instanceMethod yAL_grow2 : Cond) ∈ xTB := xTB_of (i := 142) (by decide +kernel) (by decide +kernel)
theorem mw_65 : (Cond.selects RAL yAL_grow2 yAL_grow2 : Cond) ∈ xTB := xTB_of (i := 2) (by decide +kernel) (by decide +kernel)
theorem mw_66 : (Cond.code yAL_grow2 cAL_grow2 4 (some (.array (.object "java/lang/Object"))) : Cond) ∈ xTB := xTB_of (i := 143) (by decide +kernel) (by decide +kernel)
theorem mw_67 : (Cond.methodLink RAL 129 yAL_grow : Cond) ∈ xTB := xTB_of (i := 136) (by decide +kernel) (by decide +kernel)
theorem mw_68 : (Cond.instanceMethod yAL_grow : Cond) ∈ xTB := xTB_of (i := 138) (by decide +kernel) (by decide +kernel)
theorem mw_69 : (Cond.selects RAL yAL_grow yAL_grow : Cond) ∈ xTB := xTB_of (i := 1) (by decide +kernel) (by decide +kernel)
theorem mw_70 : (Cond.code yAL_grow cAL_grow 1 (some (.array (.object "java/lang/Object"))) : Cond) ∈ xTB := xTB_of (i := 139) (by decide +kernel) (by decide +kernel)
theorem mw_71 : (Cond.methodLink RAL 131 yAL_add2 : Cond) ∈ xTB := xTB_of (i := 132) (by decide +kernel) (by decide +kernel)
theorem mw_72 : (Cond.instanceMethod yAL_add2 : Cond) ∈ xTB := xTB_of (i := 134) (by decide +kernel) (by decide +kernel)
theorem mw_73 : (Cond.selects RAL yAL_add2 yAL_add2 : Cond) ∈ xTB := xTB_of (i := 0) (by decide +kernel) (by decide +kernel)
theorem mw_74 : (Cond.code yAL_add2 cAL_add2 4 none : Cond) ∈ xTB := xTB_of (i := 135) (by decide +kernel) (by decide +kernel)
theorem mw_75 : (Cond.fieldLink RAL 63 "java/util/ArrayList" "modCount" "I" : Cond) ∈ xTB := xTB_of (i := 71) (by decide +kernel) (by decide +kernel)
theorem mw_76 : (Cond.sameField "java/util/ArrayList" "java/util/AbstractList" "modCount" "I" : Cond) ∈ xTB := xTB_of (i := 72) (by decide +kernel) (by decide +kernel)
theorem mw_77 : (Cond.constant RPL 30 (-2000000002) : Cond) ∈ xTB := xTB_of (i := 100) (by decide +kernel) (by decide +kernel)
theorem mw_78 : (Cond.methodLink RPL 31 yAL_size : Cond) ∈ xTB := xTB_of (i := 101) (by decide +kernel) (by decide +kernel)
theorem mw_79 : (Cond.instanceMethod yAL_size : Cond) ∈ xTB := xTB_of (i := 102) (by decide +kernel) (by decide +kernel)
theorem mw_80 : (Cond.selects RAL yAL_size yAL_size : Cond) ∈ xTB := xTB_of (i := 103) (by decide +kernel) (by decide +kernel)
theorem mw_81 : (Cond.code yAL_size cAL_size 1 (some (.int)) : Cond) ∈ xTB := xTB_of (i := 104) (by decide +kernel) (by decide +kernel)
theorem mw_82 : (Cond.methodLink RPL 41 yAL_add : Cond) ∈ xTB := xTB_of (i := 128) (by decide +kernel) (by decide +kernel)
theorem mw_83 : (Cond.instanceMethod yAL_add : Cond) ∈ xTB := xTB_of (i := 129) (by decide +kernel) (by decide +kernel)
theorem mw_84 : (Cond.selects RAL yAL_add yAL_add : Cond) ∈ xTB := xTB_of (i := 130) (by decide +kernel) (by decide +kernel)
theorem mw_85 : (Cond.code yAL_add cAL_add 2 (some (.boolean)) : Cond) ∈ xTB := xTB_of (i := 131) (by decide +kernel) (by decide +kernel)
theorem mw_86 : (Cond.methodLink RPL 38 yAC_init : Cond) ∈ xTB := xTB_of (i := 108) (by decide +kernel) (by decide +kernel)
theorem mw_87 : (Cond.code yAC_init cAC_init 3 none : Cond) ∈ xTB := xTB_of (i := 110) (by decide +kernel) (by decide +kernel)
theorem mw_88 : (Cond.initialized RAC : Cond) ∈ xTB := xTB_of (i := 30) (by decide +kernel) (by decide +kernel)
theorem mw_89 : (Cond.instanceMethod yAC_init : Cond) ∈ xTB := xTB_of (i := 109) (by decide +kernel) (by decide +kernel)
theorem mw_90 : (Cond.classLink RPL 36 RAC : Cond) ∈ xTB := xTB_of (i := 106) (by decide +kernel) (by decide +kernel)
theorem mw_91 : (Cond.instantiable RAC 4 : Cond) ∈ xTB := xTB_of (i := 107) (by decide +kernel) (by decide +kernel)
theorem mw_92 : (Cond.constant RPL 35 (-2000000004) : Cond) ∈ xTB := xTB_of (i := 105) (by decide +kernel) (by decide +kernel)
theorem mw_93 : (Cond.methodLink RPL 26 yPL_isOffice : Cond) ∈ xTB := xTB_of (i := 97) (by decide +kernel) (by decide +kernel)
theorem mw_94 : (Cond.static yPL_isOffice : Cond) ∈ xTB := xTB_of (i := 98) (by decide +kernel) (by decide +kernel)
theorem mw_95 : (Cond.initialized RPL : Cond) ∈ xTB := xTB_of (i := 25) (by decide +kernel) (by decide +kernel)
theorem mw_96 : (Cond.code yPL_isOffice cPL_isOffice 1 (some (.boolean)) : Cond) ∈ xTB := xTB_of (i := 99) (by decide +kernel) (by decide +kernel)
theorem mw_97 : (Cond.methodLink RPL 80 yPL_isWithin : Cond) ∈ xTB := xTB_of (i := 192) (by decide +kernel) (by decide +kernel)
theorem mw_98 : (Cond.static yPL_isWithin : Cond) ∈ xTB := xTB_of (i := 193) (by decide +kernel) (by decide +kernel)
theorem mw_99 : (Cond.code yPL_isWithin cPL_isWithin 6 (some (.boolean)) : Cond) ∈ xTB := xTB_of (i := 194) (by decide +kernel) (by decide +kernel)
theorem mw_100 : (Cond.constantLong RPL 180 20000 : Cond) ∈ xTB := xTB_of (i := 191) (by decide +kernel) (by decide +kernel)
theorem mw_101 : (Cond.fieldLink RBA 28 "PostLedger$Batch" "standing" "LPostLedger$Standing;" : Cond) ∈ xTB := xTB_of (i := 217) (by decide +kernel) (by decide +kernel)
theorem mw_102 : (Cond.fieldLink RBA 22 "PostLedger$Standing" "OPEN" "LPostLedger$Standing;" : Cond) ∈ xTB := xTB_of (i := 212) (by decide +kernel) (by decide +kernel)
theorem mw_103 : (Cond.fieldLink RBA 18 "PostLedger$Batch" "rows" "Ljava/util/ArrayList;" : Cond) ∈ xTB := xTB_of (i := 216) (by decide +kernel) (by decide +kernel)
theorem mw_104 : (Cond.methodLink RBA 17 yAL_init : Cond) ∈ xTB := xTB_of (i := 211) (by decide +kernel) (by decide +kernel)
theorem mw_105 : (Cond.classLink RBA 15 RAL : Cond) ∈ xTB := xTB_of (i := 210) (by decide +kernel) (by decide +kernel)
theorem mw_106 : (Cond.fieldLink RBA 9 "PostLedger$Batch" "day" "I" : Cond) ∈ xTB := xTB_of (i := 214) (by decide +kernel) (by decide +kernel)
theorem mw_107 : (Cond.methodLink RBA 3 objectInit : Cond) ∈ xTB := xTB_of (i := 209) (by decide +kernel) (by decide +kernel)
theorem mw_108 : (Cond.methodLink RPL 59 yBA_init : Cond) ∈ xTB := xTB_of (i := 206) (by decide +kernel) (by decide +kernel)
theorem mw_109 : (Cond.code yBA_init cBA_init 2 none : Cond) ∈ xTB := xTB_of (i := 208) (by decide +kernel) (by decide +kernel)
theorem mw_110 : (Cond.initialized RBA : Cond) ∈ xTB := xTB_of (i := 35) (by decide +kernel) (by decide +kernel)
theorem mw_111 : (Cond.instanceMethod yBA_init : Cond) ∈ xTB := xTB_of (i := 207) (by decide +kernel) (by decide +kernel)
theorem mw_112 : (Cond.classLink RPL 57 RBA : Cond) ∈ xTB := xTB_of (i := 204) (by decide +kernel) (by decide +kernel)
theorem mw_113 : (Cond.instantiable RBA 6 : Cond) ∈ xTB := xTB_of (i := 205) (by decide +kernel) (by decide +kernel)
theorem mw_114 : (Cond.methodLink RPL 53 yPL_hasRoomForBatch : Cond) ∈ xTB := xTB_of (i := 200) (by decide +kernel) (by decide +kernel)
theorem mw_115 : (Cond.instanceMethod yPL_hasRoomForBatch : Cond) ∈ xTB := xTB_of (i := 202) (by decide +kernel) (by decide +kernel)
theorem mw_116 : (Cond.selects RPL yPL_hasRoomForBatch yPL_hasRoomForBatch : Cond) ∈ xTB := xTB_of (i := 4) (by decide +kernel) (by decide +kernel)
theorem mw_117 : (Cond.code yPL_hasRoomForBatch cPL_hasRoomForBatch 1 (some (.boolean)) : Cond) ∈ xTB := xTB_of (i := 203) (by decide +kernel) (by decide +kernel)
theorem mw_118 : (Cond.constant RPL 52 (-2000000003) : Cond) ∈ xTB := xTB_of (i := 199) (by decide +kernel) (by decide +kernel)
theorem mw_119 : (Cond.methodLink RPL 49 yPL_isClosed : Cond) ∈ xTB := xTB_of (i := 195) (by decide +kernel) (by decide +kernel)
theorem mw_120 : (Cond.instanceMethod yPL_isClosed : Cond) ∈ xTB := xTB_of (i := 197) (by decide +kernel) (by decide +kernel)
theorem mw_121 : (Cond.selects RPL yPL_isClosed yPL_isClosed : Cond) ∈ xTB := xTB_of (i := 3) (by decide +kernel) (by decide +kernel)
theorem mw_122 : (Cond.code yPL_isClosed cPL_isClosed 3 (some (.boolean)) : Cond) ∈ xTB := xTB_of (i := 198) (by decide +kernel) (by decide +kernel)
theorem mw_123 : (Cond.methodLink RPL 45 yPL_isDay : Cond) ∈ xTB := xTB_of (i := 188) (by decide +kernel) (by decide +kernel)
theorem mw_124 : (Cond.static yPL_isDay : Cond) ∈ xTB := xTB_of (i := 189) (by decide +kernel) (by decide +kernel)
theorem mw_125 : (Cond.code yPL_isDay cPL_isDay 2 (some (.boolean)) : Cond) ∈ xTB := xTB_of (i := 190) (by decide +kernel) (by decide +kernel)
theorem mw_126 : (Cond.methodLink ROB 105 yPC_checkIndex : Cond) ∈ xTB := xTB_of (i := 252) (by decide +kernel) (by decide +kernel)
theorem mw_127 : (Cond.static yPC_checkIndex : Cond) ∈ xTB := xTB_of (i := 253) (by decide +kernel) (by decide +kernel)
theorem mw_128 : (Cond.initialized RPC : Cond) ∈ xTB := xTB_of (i := 39) (by decide +kernel) (by decide +kernel)
theorem mw_129 : (Cond.code yPC_checkIndex cPC_checkIndex 3 (some (.int)) : Cond) ∈ xTB := xTB_of (i := 254) (by decide +kernel) (by decide +kernel)
theorem mw_130 : (Cond.methodLink RAL 123 yAL_elementData : Cond) ∈ xTB := xTB_of (i := 255) (by decide +kernel) (by decide +kernel)
theorem mw_131 : (Cond.instanceMethod yAL_elementData : Cond) ∈ xTB := xTB_of (i := 256) (by decide +kernel) (by decide +kernel)
theorem mw_132 : (Cond.selects RAL yAL_elementData yAL_elementData : Cond) ∈ xTB := xTB_of (i := 257) (by decide +kernel) (by decide +kernel)
theorem mw_133 : (Cond.code yAL_elementData cAL_elementData 2 (some (.object "java/lang/Object")) : Cond) ∈ xTB := xTB_of (i := 258) (by decide +kernel) (by decide +kernel)
theorem mw_134 : (Cond.methodLink RAL 118 yOB_checkIndex : Cond) ∈ xTB := xTB_of (i := 249) (by decide +kernel) (by decide +kernel)
theorem mw_135 : (Cond.static yOB_checkIndex : Cond) ∈ xTB := xTB_of (i := 250) (by decide +kernel) (by decide +kernel)
theorem mw_136 : (Cond.initialized ROB : Cond) ∈ xTB := xTB_of (i := 38) (by decide +kernel) (by decide +kernel)
theorem mw_137 : (Cond.code yOB_checkIndex cOB_checkIndex 2 (some (.int)) : Cond) ∈ xTB := xTB_of (i := 251) (by decide +kernel) (by decide +kernel)
theorem mw_138 : (Cond.methodLink RPL 127 yAL_get : Cond) ∈ xTB := xTB_of (i := 245) (by decide +kernel) (by decide +kernel)
theorem mw_139 : (Cond.instanceMethod yAL_get : Cond) ∈ xTB := xTB_of (i := 246) (by decide +kernel) (by decide +kernel)
theorem mw_140 : (Cond.selects RAL yAL_get yAL_get : Cond) ∈ xTB := xTB_of (i := 247) (by decide +kernel) (by decide +kernel)
theorem mw_141 : (Cond.code yAL_get cAL_get 2 (some (.object "java/lang/Object")) : Cond) ∈ xTB := xTB_of (i := 248) (by decide +kernel) (by decide +kernel)
theorem mw_142 : (Cond.methodLink RBA 31 yAL_size : Cond) ∈ xTB := xTB_of (i := 271) (by decide +kernel) (by decide +kernel)
theorem mw_143 : (Cond.fieldLink RRW 15 "PostLedger$Row" "cents" "J" : Cond) ∈ xTB := xTB_of (i := 286) (by decide +kernel) (by decide +kernel)
theorem mw_144 : (Cond.fieldLink RRW 9 "PostLedger$Row" "account" "LPostLedger$Account;" : Cond) ∈ xTB := xTB_of (i := 284) (by decide +kernel) (by decide +kernel)
theorem mw_145 : (Cond.methodLink RRW 3 objectInit : Cond) ∈ xTB := xTB_of (i := 283) (by decide +kernel) (by decide +kernel)
theorem mw_146 : (Cond.methodLink RBA 43 yAL_add : Cond) ∈ xTB := xTB_of (i := 293) (by decide +kernel) (by decide +kernel)
theorem mw_147 : (Cond.methodLink RBA 40 yRW_init : Cond) ∈ xTB := xTB_of (i := 280) (by decide +kernel) (by decide +kernel)
theorem mw_148 : (Cond.code yRW_init cRW_init 4 none : Cond) ∈ xTB := xTB_of (i := 282) (by decide +kernel) (by decide +kernel)
theorem mw_149 : (Cond.initialized RRW : Cond) ∈ xTB := xTB_of (i := 40) (by decide +kernel) (by decide +kernel)
theorem mw_150 : (Cond.instanceMethod yRW_init : Cond) ∈ xTB := xTB_of (i := 281) (by decide +kernel) (by decide +kernel)
theorem mw_151 : (Cond.classLink RBA 38 RRW : Cond) ∈ xTB := xTB_of (i := 278) (by decide +kernel) (by decide +kernel)
theorem mw_152 : (Cond.instantiable RRW 2 : Cond) ∈ xTB := xTB_of (i := 279) (by decide +kernel) (by decide +kernel)
theorem mw_153 : (Cond.methodLink RPL 84 yBA_addRow : Cond) ∈ xTB := xTB_of (i := 274) (by decide +kernel) (by decide +kernel)
theorem mw_154 : (Cond.instanceMethod yBA_addRow : Cond) ∈ xTB := xTB_of (i := 275) (by decide +kernel) (by decide +kernel)
theorem mw_155 : (Cond.selects RBA yBA_addRow yBA_addRow : Cond) ∈ xTB := xTB_of (i := 276) (by decide +kernel) (by decide +kernel)
theorem mw_156 : (Cond.code yBA_addRow cBA_addRow 4 none : Cond) ∈ xTB := xTB_of (i := 277) (by decide +kernel) (by decide +kernel)
theorem mw_157 : (Cond.constantLong RPL 78 100000000 : Cond) ∈ xTB := xTB_of (i := 273) (by decide +kernel) (by decide +kernel)
theorem mw_158 : (Cond.constantLong RPL 76 (-100000000) : Cond) ∈ xTB := xTB_of (i := 272) (by decide +kernel) (by decide +kernel)
theorem mw_159 : (Cond.methodLink RPL 73 yBA_isFull : Cond) ∈ xTB := xTB_of (i := 267) (by decide +kernel) (by decide +kernel)
theorem mw_160 : (Cond.instanceMethod yBA_isFull : Cond) ∈ xTB := xTB_of (i := 268) (by decide +kernel) (by decide +kernel)
theorem mw_161 : (Cond.selects RBA yBA_isFull yBA_isFull : Cond) ∈ xTB := xTB_of (i := 269) (by decide +kernel) (by decide +kernel)
theorem mw_162 : (Cond.code yBA_isFull cBA_isFull 1 (some (.boolean)) : Cond) ∈ xTB := xTB_of (i := 270) (by decide +kernel) (by decide +kernel)
theorem mw_163 : (Cond.methodLink RPL 70 yBA_isOpen : Cond) ∈ xTB := xTB_of (i := 263) (by decide +kernel) (by decide +kernel)
theorem mw_164 : (Cond.instanceMethod yBA_isOpen : Cond) ∈ xTB := xTB_of (i := 264) (by decide +kernel) (by decide +kernel)
theorem mw_165 : (Cond.selects RBA yBA_isOpen yBA_isOpen : Cond) ∈ xTB := xTB_of (i := 265) (by decide +kernel) (by decide +kernel)
theorem mw_166 : (Cond.code yBA_isOpen cBA_isOpen 1 (some (.boolean)) : Cond) ∈ xTB := xTB_of (i := 266) (by decide +kernel) (by decide +kernel)
theorem mw_167 : (Cond.methodLink RPL 66 yPL_findAccount : Cond) ∈ xTB := xTB_of (i := 259) (by decide +kernel) (by decide +kernel)
theorem mw_168 : (Cond.instanceMethod yPL_findAccount : Cond) ∈ xTB := xTB_of (i := 261) (by decide +kernel) (by decide +kernel)
theorem mw_169 : (Cond.selects RPL yPL_findAccount yPL_findAccount : Cond) ∈ xTB := xTB_of (i := 6) (by decide +kernel) (by decide +kernel)
theorem mw_170 : (Cond.code yPL_findAccount cPL_findAccount 2 (some (.object "PostLedger$Account")) : Cond) ∈ xTB := xTB_of (i := 262) (by decide +kernel) (by decide +kernel)
theorem mw_171 : (Cond.methodLink RPL 62 yPL_findBatch : Cond) ∈ xTB := xTB_of (i := 241) (by decide +kernel) (by decide +kernel)
theorem mw_172 : (Cond.instanceMethod yPL_findBatch : Cond) ∈ xTB := xTB_of (i := 243) (by decide +kernel) (by decide +kernel)
theorem mw_173 : (Cond.selects RPL yPL_findBatch yPL_findBatch : Cond) ∈ xTB := xTB_of (i := 5) (by decide +kernel) (by decide +kernel)
theorem mw_174 : (Cond.code yPL_findBatch cPL_findBatch 2 (some (.object "PostLedger$Batch")) : Cond) ∈ xTB := xTB_of (i := 244) (by decide +kernel) (by decide +kernel)
theorem mw_175 : (Cond.fieldLink RBA 55 "PostLedger$Row" "cents" "J" : Cond) ∈ xTB := xTB_of (i := 287) (by decide +kernel) (by decide +kernel)
theorem mw_176 : (Cond.fieldLink RBA 51 "PostLedger$Row" "account" "LPostLedger$Account;" : Cond) ∈ xTB := xTB_of (i := 285) (by decide +kernel) (by decide +kernel)
theorem mw_177 : (Cond.methodLink RBA 47 yAL_get : Cond) ∈ xTB := xTB_of (i := 309) (by decide +kernel) (by decide +kernel)
theorem mw_178 : (Cond.methodLink RPL 134 yBA_sumForAccount : Cond) ∈ xTB := xTB_of (i := 305) (by decide +kernel) (by decide +kernel)
theorem mw_179 : (Cond.instanceMethod yBA_sumForAccount : Cond) ∈ xTB := xTB_of (i := 306) (by decide +kernel) (by decide +kernel)
theorem mw_180 : (Cond.selects RBA yBA_sumForAccount yBA_sumForAccount : Cond) ∈ xTB := xTB_of (i := 307) (by decide +kernel) (by decide +kernel)
theorem mw_181 : (Cond.code yBA_sumForAccount cBA_sumForAccount 7 (some (.long)) : Cond) ∈ xTB := xTB_of (i := 308) (by decide +kernel) (by decide +kernel)
theorem mw_182 : (Cond.methodLink RPL 133 yBA_size : Cond) ∈ xTB := xTB_of (i := 301) (by decide +kernel) (by decide +kernel)
theorem mw_183 : (Cond.instanceMethod yBA_size : Cond) ∈ xTB := xTB_of (i := 302) (by decide +kernel) (by decide +kernel)
theorem mw_184 : (Cond.selects RBA yBA_size yBA_size : Cond) ∈ xTB := xTB_of (i := 303) (by decide +kernel) (by decide +kernel)
theorem mw_185 : (Cond.code yBA_size cBA_size 1 (some (.int)) : Cond) ∈ xTB := xTB_of (i := 304) (by decide +kernel) (by decide +kernel)
theorem mw_186 : (Cond.fieldLink RPL 89 "PostLedger$Batch" "day" "I" : Cond) ∈ xTB := xTB_of (i := 215) (by decide +kernel) (by decide +kernel)
theorem mw_187 : (Cond.fieldLink RPL 131 "PostLedger$Standing" "POSTED" "LPostLedger$Standing;" : Cond) ∈ xTB := xTB_of (i := 299) (by decide +kernel) (by decide +kernel)
theorem mw_188 : (Cond.fieldLink RPL 112 "PostLedger$Batch" "standing" "LPostLedger$Standing;" : Cond) ∈ xTB := xTB_of (i := 218) (by decide +kernel) (by decide +kernel)
theorem mw_189 : (Cond.constantLong RPL 125 (-2000000001) : Cond) ∈ xTB := xTB_of (i := 298) (by decide +kernel) (by decide +kernel)
theorem mw_190 : (Cond.fieldLink RBA 35 "PostLedger$Batch" "firstRowNumber" "I" : Cond) ∈ xTB := xTB_of (i := 222) (by decide +kernel) (by decide +kernel)
theorem mw_191 : (Cond.methodLink RPL 182 yBA_hasRowNumber : Cond) ∈ xTB := xTB_of (i := 322) (by decide +kernel) (by decide +kernel)
theorem mw_192 : (Cond.instanceMethod yBA_hasRowNumber : Cond) ∈ xTB := xTB_of (i := 323) (by decide +kernel) (by decide +kernel)
theorem mw_193 : (Cond.selects RBA yBA_hasRowNumber yBA_hasRowNumber : Cond) ∈ xTB := xTB_of (i := 324) (by decide +kernel) (by decide +kernel)
theorem mw_194 : (Cond.code yBA_hasRowNumber cBA_hasRowNumber 2 (some (.boolean)) : Cond) ∈ xTB := xTB_of (i := 325) (by decide +kernel) (by decide +kernel)
theorem mw_195 : (Cond.methodLink RBA 59 yBA_addRow : Cond) ∈ xTB := xTB_of (i := 331) (by decide +kernel) (by decide +kernel)
theorem mw_196 : (Cond.fieldLink RBA 62 "PostLedger$Account" "total" "J" : Cond) ∈ xTB := xTB_of (i := 117) (by decide +kernel) (by decide +kernel)
theorem mw_197 : (Cond.methodLink RPL 192 yBA_addToTotals : Cond) ∈ xTB := xTB_of (i := 336) (by decide +kernel) (by decide +kernel)
theorem mw_198 : (Cond.instanceMethod yBA_addToTotals : Cond) ∈ xTB := xTB_of (i := 337) (by decide +kernel) (by decide +kernel)
theorem mw_199 : (Cond.selects RBA yBA_addToTotals yBA_addToTotals : Cond) ∈ xTB := xTB_of (i := 338) (by decide +kernel) (by decide +kernel)
theorem mw_200 : (Cond.code yBA_addToTotals cBA_addToTotals 3 none : Cond) ∈ xTB := xTB_of (i := 339) (by decide +kernel) (by decide +kernel)
theorem mw_201 : (Cond.fieldLink RPL 189 "PostLedger$Batch" "firstRowNumber" "I" : Cond) ∈ xTB := xTB_of (i := 223) (by decide +kernel) (by decide +kernel)
theorem mw_202 : (Cond.methodLink RPL 102 yPL_enterIntoBooks : Cond) ∈ xTB := xTB_of (i := 332) (by decide +kernel) (by decide +kernel)
theorem mw_203 : (Cond.instanceMethod yPL_enterIntoBooks : Cond) ∈ xTB := xTB_of (i := 334) (by decide +kernel) (by decide +kernel)
theorem mw_204 : (Cond.selects RPL yPL_enterIntoBooks yPL_enterIntoBooks : Cond) ∈ xTB := xTB_of (i := 8) (by decide +kernel) (by decide +kernel)
theorem mw_205 : (Cond.code yPL_enterIntoBooks cPL_enterIntoBooks 2 none : Cond) ∈ xTB := xTB_of (i := 335) (by decide +kernel) (by decide +kernel)
theorem mw_206 : (Cond.fieldLink RPL 141 "PostLedger$Batch" "isPartOfReversal" "Z" : Cond) ∈ xTB := xTB_of (i := 221) (by decide +kernel) (by decide +kernel)
theorem mw_207 : (Cond.methodLink RPL 151 yBA_addRowsWithOtherSign : Cond) ∈ xTB := xTB_of (i := 327) (by decide +kernel) (by decide +kernel)
theorem mw_208 : (Cond.instanceMethod yBA_addRowsWithOtherSign : Cond) ∈ xTB := xTB_of (i := 328) (by decide +kernel) (by decide +kernel)
theorem mw_209 : (Cond.selects RBA yBA_addRowsWithOtherSign yBA_addRowsWithOtherSign : Cond) ∈ xTB := xTB_of (i := 329) (by decide +kernel) (by decide +kernel)
theorem mw_210 : (Cond.code yBA_addRowsWithOtherSign cBA_addRowsWithOtherSign 5 none : Cond) ∈ xTB := xTB_of (i := 330) (by decide +kernel) (by decide +kernel)
theorem mw_211 : (Cond.methodLink RPL 145 yMA_max : Cond) ∈ xTB := xTB_of (i := 326) (by decide +kernel) (by decide +kernel)
theorem mw_212 : (Cond.methodLink RPL 138 yPL_findBatchOfRow : Cond) ∈ xTB := xTB_of (i := 318) (by decide +kernel) (by decide +kernel)
theorem mw_213 : (Cond.instanceMethod yPL_findBatchOfRow : Cond) ∈ xTB := xTB_of (i := 320) (by decide +kernel) (by decide +kernel)
theorem mw_214 : (Cond.selects RPL yPL_findBatchOfRow yPL_findBatchOfRow : Cond) ∈ xTB := xTB_of (i := 7) (by decide +kernel) (by decide +kernel)
theorem mw_215 : (Cond.code yPL_findBatchOfRow cPL_findBatchOfRow 4 (some (.object "PostLedger$Batch")) : Cond) ∈ xTB := xTB_of (i := 321) (by decide +kernel) (by decide +kernel)
theorem mw_216 : (Cond.fieldLink RPL 176 "PostLedger$Account" "total" "J" : Cond) ∈ xTB := xTB_of (i := 118) (by decide +kernel) (by decide +kernel)
theorem mw_217 : (Cond.methodLink RPL 185 yAC_isOfKind : Cond) ∈ xTB := xTB_of (i := 348) (by decide +kernel) (by decide +kernel)
theorem mw_218 : (Cond.instanceMethod yAC_isOfKind : Cond) ∈ xTB := xTB_of (i := 349) (by decide +kernel) (by decide +kernel)
theorem mw_219 : (Cond.selects RAC yAC_isOfKind yAC_isOfKind : Cond) ∈ xTB := xTB_of (i := 350) (by decide +kernel) (by decide +kernel)
theorem mw_220 : (Cond.code yAC_isOfKind cAC_isOfKind 3 (some (.boolean)) : Cond) ∈ xTB := xTB_of (i := 351) (by decide +kernel) (by decide +kernel)
theorem mw_221 : (Cond.constantLong RPL 164 1000000000 : Cond) ∈ xTB := xTB_of (i := 357) (by decide +kernel) (by decide +kernel)
theorem mw_222 : (Cond.constantLong RPL 162 (-1000000000) : Cond) ∈ xTB := xTB_of (i := 356) (by decide +kernel) (by decide +kernel)
theorem mw_223 : (Cond.methodLink RPL 158 yPL_firstOfKind : Cond) ∈ xTB := xTB_of (i := 352) (by decide +kernel) (by decide +kernel)
theorem mw_224 : (Cond.instanceMethod yPL_firstOfKind : Cond) ∈ xTB := xTB_of (i := 354) (by decide +kernel) (by decide +kernel)
theorem mw_225 : (Cond.selects RPL yPL_firstOfKind yPL_firstOfKind : Cond) ∈ xTB := xTB_of (i := 10) (by decide +kernel) (by decide +kernel)
theorem mw_226 : (Cond.code yPL_firstOfKind cPL_firstOfKind 5 (some (.object "PostLedger$Account")) : Cond) ∈ xTB := xTB_of (i := 355) (by decide +kernel) (by decide +kernel)
theorem mw_227 : (Cond.methodLink RPL 154 yPL_totalOfKind : Cond) ∈ xTB := xTB_of (i := 344) (by decide +kernel) (by decide +kernel)
theorem mw_228 : (Cond.instanceMethod yPL_totalOfKind : Cond) ∈ xTB := xTB_of (i := 346) (by decide +kernel) (by decide +kernel)
theorem mw_229 : (Cond.selects RPL yPL_totalOfKind yPL_totalOfKind : Cond) ∈ xTB := xTB_of (i := 9) (by decide +kernel) (by decide +kernel)
theorem mw_230 : (Cond.code yPL_totalOfKind cPL_totalOfKind 7 (some (.long)) : Cond) ∈ xTB := xTB_of (i := 347) (by decide +kernel) (by decide +kernel)
theorem mw_231 : (Cond.fieldLink RPL 166 "PostLedger$Account" "limit" "I" : Cond) ∈ xTB := xTB_of (i := 116) (by decide +kernel) (by decide +kernel)
theorem mw_232 : (Cond.constant RPL 88 (-2000000001) : Cond) ∈ xTB := xTB_of (i := 362) (by decide +kernel) (by decide +kernel)
theorem mw_233 : (Cond.fieldLink RPL 169 "PostLedger$Batch" "failsByPlan" "Z" : Cond) ∈ xTB := xTB_of (i := 220) (by decide +kernel) (by decide +kernel)
theorem mw_234 : (Cond.methodLink RPL 172 yBA_takenFromAccount : Cond) ∈ xTB := xTB_of (i := 371) (by decide +kernel) (by decide +kernel)
theorem mw_235 : (Cond.instanceMethod yBA_takenFromAccount : Cond) ∈ xTB := xTB_of (i := 372) (by decide +kernel) (by decide +kernel)
theorem mw_236 : (Cond.selects RBA yBA_takenFromAccount yBA_takenFromAccount : Cond) ∈ xTB := xTB_of (i := 373) (by decide +kernel) (by decide +kernel)
theorem mw_237 : (Cond.code yBA_takenFromAccount cBA_takenFromAccount 6 (some (.long)) : Cond) ∈ xTB := xTB_of (i := 374) (by decide +kernel) (by decide +kernel)
theorem mw_238 : (Cond.fieldLink RRW 19 "PostLedger$Account" "kind" "I" : Cond) ∈ xTB := xTB_of (i := 114) (by decide +kernel) (by decide +kernel)
theorem mw_239 : (Cond.fieldLink RBA 102 "PostLedger$Account" "limit" "I" : Cond) ∈ xTB := xTB_of (i := 115) (by decide +kernel) (by decide +kernel)
theorem mw_240 : (Cond.methodLink RBA 98 yBA_sumForAccount : Cond) ∈ xTB := xTB_of (i := 413) (by decide +kernel) (by decide +kernel)
theorem mw_241 : (Cond.methodLink RBA 95 yRW_takesFromCustomer : Cond) ∈ xTB := xTB_of (i := 409) (by decide +kernel) (by decide +kernel)
theorem mw_242 : (Cond.instanceMethod yRW_takesFromCustomer : Cond) ∈ xTB := xTB_of (i := 410) (by decide +kernel) (by decide +kernel)
theorem mw_243 : (Cond.selects RRW yRW_takesFromCustomer yRW_takesFromCustomer : Cond) ∈ xTB := xTB_of (i := 411) (by decide +kernel) (by decide +kernel)
theorem mw_244 : (Cond.code yRW_takesFromCustomer cRW_takesFromCustomer 1 (some (.boolean)) : Cond) ∈ xTB := xTB_of (i := 412) (by decide +kernel) (by decide +kernel)
theorem mw_245 : (Cond.fieldLink RBA 92 "PostLedger$Outcome" "POSTED" "LPostLedger$Outcome;" : Cond) ∈ xTB := xTB_of (i := 416) (by decide +kernel) (by decide +kernel)
theorem mw_246 : (Cond.fieldLink RBA 89 "PostLedger$Outcome" "FAILED" "LPostLedger$Outcome;" : Cond) ∈ xTB := xTB_of (i := 414) (by decide +kernel) (by decide +kernel)
theorem mw_247 : (Cond.fieldLink RBA 85 "PostLedger$Batch" "failsByPlan" "Z" : Cond) ∈ xTB := xTB_of (i := 219) (by decide +kernel) (by decide +kernel)
theorem mw_248 : (Cond.fieldLink RBA 75 "PostLedger$Outcome" "REFUSED" "LPostLedger$Outcome;" : Cond) ∈ xTB := xTB_of (i := 403) (by decide +kernel) (by decide +kernel)
theorem mw_249 : (Cond.methodLink RBA 81 yBA_breaksLimit : Cond) ∈ xTB := xTB_of (i := 405) (by decide +kernel) (by decide +kernel)
theorem mw_250 : (Cond.instanceMethod yBA_breaksLimit : Cond) ∈ xTB := xTB_of (i := 407) (by decide +kernel) (by decide +kernel)
theorem mw_251 : (Cond.selects RBA yBA_breaksLimit yBA_breaksLimit : Cond) ∈ xTB := xTB_of (i := 12) (by decide +kernel) (by decide +kernel)
theorem mw_252 : (Cond.code yBA_breaksLimit cBA_breaksLimit 4 (some (.boolean)) : Cond) ∈ xTB := xTB_of (i := 408) (by decide +kernel) (by decide +kernel)
theorem mw_253 : (Cond.methodLink RBA 71 yBA_sumOfRows : Cond) ∈ xTB := xTB_of (i := 399) (by decide +kernel) (by decide +kernel)
theorem mw_254 : (Cond.instanceMethod yBA_sumOfRows : Cond) ∈ xTB := xTB_of (i := 401) (by decide +kernel) (by decide +kernel)
theorem mw_255 : (Cond.selects RBA yBA_sumOfRows yBA_sumOfRows : Cond) ∈ xTB := xTB_of (i := 11) (by decide +kernel) (by decide +kernel)
theorem mw_256 : (Cond.code yBA_sumOfRows cBA_sumOfRows 4 (some (.long)) : Cond) ∈ xTB := xTB_of (i := 402) (by decide +kernel) (by decide +kernel)
theorem mw_257 : (Cond.methodLink RBA 67 yAL_isEmpty : Cond) ∈ xTB := xTB_of (i := 395) (by decide +kernel) (by decide +kernel)
theorem mw_258 : (Cond.instanceMethod yAL_isEmpty : Cond) ∈ xTB := xTB_of (i := 396) (by decide +kernel) (by decide +kernel)
theorem mw_259 : (Cond.selects RAL yAL_isEmpty yAL_isEmpty : Cond) ∈ xTB := xTB_of (i := 397) (by decide +kernel) (by decide +kernel)
theorem mw_260 : (Cond.code yAL_isEmpty cAL_isEmpty 1 (some (.boolean)) : Cond) ∈ xTB := xTB_of (i := 398) (by decide +kernel) (by decide +kernel)
theorem mw_261 : (Cond.fieldLink RMO 50 "PostLedgerModel" "closed" "J" : Cond) ∈ xTB := xTB_of (i := 511) (by decide +kernel) (by decide +kernel)
theorem mw_262 : (Cond.constantLong RMO 48 (-1) : Cond) ∈ xTB := xTB_of (i := 494) (by decide +kernel) (by decide +kernel)
theorem mw_263 : (Cond.fieldLink RMO 45 "PostLedgerModel" "postedBatches" "[I" : Cond) ∈ xTB := xTB_of (i := 510) (by decide +kernel) (by decide +kernel)
theorem mw_264 : (Cond.arrayClass .int : Cond) ∈ xTB := xTB_of (i := 547) (by decide +kernel) (by decide +kernel)
theorem mw_265 : (Cond.fieldLink RMO 42 "PostLedgerModel" "rowCents" "[J" : Cond) ∈ xTB := xTB_of (i := 508) (by decide +kernel) (by decide +kernel)
theorem mw_266 : (Cond.arrayClass .long : Cond) ∈ xTB := xTB_of (i := 548) (by decide +kernel) (by decide +kernel)
theorem mw_267 : (Cond.fieldLink RMO 39 "PostLedgerModel" "rowAccounts" "[I" : Cond) ∈ xTB := xTB_of (i := 507) (by decide +kernel) (by decide +kernel)
theorem mw_268 : (Cond.fieldLink RMO 36 "PostLedgerModel" "rows" "[I" : Cond) ∈ xTB := xTB_of (i := 506) (by decide +kernel) (by decide +kernel)
theorem mw_269 : (Cond.fieldLink RMO 33 "PostLedgerModel" "back" "[Z" : Cond) ∈ xTB := xTB_of (i := 505) (by decide +kernel) (by decide +kernel)
theorem mw_270 : (Cond.arrayClass .boolean : Cond) ∈ xTB := xTB_of (i := 549) (by decide +kernel) (by decide +kernel)
theorem mw_271 : (Cond.fieldLink RMO 30 "PostLedgerModel" "free" "[Z" : Cond) ∈ xTB := xTB_of (i := 504) (by decide +kernel) (by decide +kernel)
theorem mw_272 : (Cond.fieldLink RMO 26 "PostLedgerModel" "planned" "[Z" : Cond) ∈ xTB := xTB_of (i := 503) (by decide +kernel) (by decide +kernel)
theorem mw_273 : (Cond.fieldLink RMO 23 "PostLedgerModel" "days" "[J" : Cond) ∈ xTB := xTB_of (i := 502) (by decide +kernel) (by decide +kernel)
theorem mw_274 : (Cond.fieldLink RMO 20 "PostLedgerModel" "states" "[I" : Cond) ∈ xTB := xTB_of (i := 501) (by decide +kernel) (by decide +kernel)
theorem mw_275 : (Cond.fieldLink RMO 16 "PostLedgerModel" "limits" "[J" : Cond) ∈ xTB := xTB_of (i := 499) (by decide +kernel) (by decide +kernel)
theorem mw_276 : (Cond.fieldLink RMO 13 "PostLedgerModel" "kinds" "[I" : Cond) ∈ xTB := xTB_of (i := 498) (by decide +kernel) (by decide +kernel)
theorem mw_277 : (Cond.fieldLink RMO 7 "PostLedgerModel" "offices" "[I" : Cond) ∈ xTB := xTB_of (i := 497) (by decide +kernel) (by decide +kernel)
theorem mw_278 : (Cond.methodLink RMO 1 objectInit : Cond) ∈ xTB := xTB_of (i := 493) (by decide +kernel) (by decide +kernel)
theorem mw_279 : (Cond.fieldLink RMO 54 "PostLedgerModel" "thrown" "I" : Cond) ∈ xTB := xTB_of (i := 495) (by decide +kernel) (by decide +kernel)
theorem mw_280 : (Cond.constant RMO 72 (-2000000002) : Cond) ∈ xTB := xTB_of (i := 563) (by decide +kernel) (by decide +kernel)
theorem mw_281 : (Cond.fieldLink RMO 58 "PostLedgerModel" "accounts" "I" : Cond) ∈ xTB := xTB_of (i := 496) (by decide +kernel) (by decide +kernel)
theorem mw_282 : (Cond.constant RMO 73 (-2000000004) : Cond) ∈ xTB := xTB_of (i := 564) (by decide +kernel) (by decide +kernel)
theorem mw_283 : (Cond.methodLink RMO 61 yMO_isIn : Cond) ∈ xTB := xTB_of (i := 559) (by decide +kernel) (by decide +kernel)
theorem mw_284 : (Cond.static yMO_isIn : Cond) ∈ xTB := xTB_of (i := 560) (by decide +kernel) (by decide +kernel)
theorem mw_285 : (Cond.initialized RMO : Cond) ∈ xTB := xTB_of (i := 29) (by decide +kernel) (by decide +kernel)
theorem mw_286 : (Cond.code yMO_isIn cMO_isIn 6 (some (.boolean)) : Cond) ∈ xTB := xTB_of (i := 561) (by decide +kernel) (by decide +kernel)
theorem mw_287 : (Cond.constantLong RMO 70 5 : Cond) ∈ xTB := xTB_of (i := 562) (by decide +kernel) (by decide +kernel)
theorem mw_288 : (Cond.constantLong RMO 68 9 : Cond) ∈ xTB := xTB_of (i := 558) (by decide +kernel) (by decide +kernel)
theorem mw_289 : (Cond.fieldLink RMO 65 "PostLedgerModel" "batches" "I" : Cond) ∈ xTB := xTB_of (i := 500) (by decide +kernel) (by decide +kernel)
theorem mw_290 : (Cond.methodLink RMO 77 yMO_make : Cond) ∈ xTB := xTB_of (i := 571) (by decide +kernel) (by decide +kernel)
theorem mw_291 : (Cond.instanceMethod yMO_make : Cond) ∈ xTB := xTB_of (i := 573) (by decide +kernel) (by decide +kernel)
theorem mw_292 : (Cond.selects RMO yMO_make yMO_make : Cond) ∈ xTB := xTB_of (i := 14) (by decide +kernel) (by decide +kernel)
theorem mw_293 : (Cond.code yMO_make cMO_make 3 (some (.int)) : Cond) ∈ xTB := xTB_of (i := 574) (by decide +kernel) (by decide +kernel)
theorem mw_294 : (Cond.constant RMO 76 (-2000000003) : Cond) ∈ xTB := xTB_of (i := 570) (by decide +kernel) (by decide +kernel)
theorem mw_295 : (Cond.constantLong RMO 74 20000 : Cond) ∈ xTB := xTB_of (i := 569) (by decide +kernel) (by decide +kernel)
theorem mw_296 : (Cond.methodLink RMO 92 yMO_put : Cond) ∈ xTB := xTB_of (i := 589) (by decide +kernel) (by decide +kernel)
theorem mw_297 : (Cond.instanceMethod yMO_put : Cond) ∈ xTB := xTB_of (i := 591) (by decide +kernel) (by decide +kernel)
theorem mw_298 : (Cond.selects RMO yMO_put yMO_put : Cond) ∈ xTB := xTB_of (i := 17) (by decide +kernel) (by decide +kernel)
theorem mw_299 : (Cond.code yMO_put cMO_put 5 none : Cond) ∈ xTB := xTB_of (i := 592) (by decide +kernel) (by decide +kernel)
theorem mw_300 : (Cond.constantLong RMO 90 100000000 : Cond) ∈ xTB := xTB_of (i := 588) (by decide +kernel) (by decide +kernel)
theorem mw_301 : (Cond.constantLong RMO 88 (-100000000) : Cond) ∈ xTB := xTB_of (i := 587) (by decide +kernel) (by decide +kernel)
theorem mw_302 : (Cond.methodLink RMO 85 yMO_isAccount : Cond) ∈ xTB := xTB_of (i := 583) (by decide +kernel) (by decide +kernel)
theorem mw_303 : (Cond.instanceMethod yMO_isAccount : Cond) ∈ xTB := xTB_of (i := 585) (by decide +kernel) (by decide +kernel)
theorem mw_304 : (Cond.selects RMO yMO_isAccount yMO_isAccount : Cond) ∈ xTB := xTB_of (i := 16) (by decide +kernel) (by decide +kernel)
theorem mw_305 : (Cond.code yMO_isAccount cMO_isAccount 2 (some (.boolean)) : Cond) ∈ xTB := xTB_of (i := 586) (by decide +kernel) (by decide +kernel)
theorem mw_306 : (Cond.methodLink RMO 81 yMO_isBatch : Cond) ∈ xTB := xTB_of (i := 579) (by decide +kernel) (by decide +kernel)
theorem mw_307 : (Cond.instanceMethod yMO_isBatch : Cond) ∈ xTB := xTB_of (i := 581) (by decide +kernel) (by decide +kernel)
theorem mw_308 : (Cond.selects RMO yMO_isBatch yMO_isBatch : Cond) ∈ xTB := xTB_of (i := 15) (by decide +kernel) (by decide +kernel)
theorem mw_309 : (Cond.code yMO_isBatch cMO_isBatch 2 (some (.boolean)) : Cond) ∈ xTB := xTB_of (i := 582) (by decide +kernel) (by decide +kernel)
theorem mw_310 : (Cond.methodLink RMO 99 yMO_part : Cond) ∈ xTB := xTB_of (i := 611) (by decide +kernel) (by decide +kernel)
theorem mw_311 : (Cond.instanceMethod yMO_part : Cond) ∈ xTB := xTB_of (i := 613) (by decide +kernel) (by decide +kernel)
theorem mw_312 : (Cond.selects RMO yMO_part yMO_part : Cond) ∈ xTB := xTB_of (i := 21) (by decide +kernel) (by decide +kernel)
theorem mw_313 : (Cond.code yMO_part cMO_part 7 (some (.long)) : Cond) ∈ xTB := xTB_of (i := 614) (by decide +kernel) (by decide +kernel)
theorem mw_314 : (Cond.fieldLink RMO 96 "PostLedgerModel" "posted" "I" : Cond) ∈ xTB := xTB_of (i := 509) (by decide +kernel) (by decide +kernel)
theorem mw_315 : (Cond.methodLink RMO 105 yMO_balanceOf : Cond) ∈ xTB := xTB_of (i := 607) (by decide +kernel) (by decide +kernel)
theorem mw_316 : (Cond.instanceMethod yMO_balanceOf : Cond) ∈ xTB := xTB_of (i := 609) (by decide +kernel) (by decide +kernel)
theorem mw_317 : (Cond.selects RMO yMO_balanceOf yMO_balanceOf : Cond) ∈ xTB := xTB_of (i := 20) (by decide +kernel) (by decide +kernel)
theorem mw_318 : (Cond.code yMO_balanceOf cMO_balanceOf 8 (some (.long)) : Cond) ∈ xTB := xTB_of (i := 610) (by decide +kernel) (by decide +kernel)
theorem mw_319 : (Cond.constantLong RMO 103 9223372036854775807 : Cond) ∈ xTB := xTB_of (i := 606) (by decide +kernel) (by decide +kernel)
theorem mw_320 : (Cond.methodLink RMO 109 yMO_stops : Cond) ∈ xTB := xTB_of (i := 602) (by decide +kernel) (by decide +kernel)
theorem mw_321 : (Cond.instanceMethod yMO_stops : Cond) ∈ xTB := xTB_of (i := 604) (by decide +kernel) (by decide +kernel)
theorem mw_322 : (Cond.selects RMO yMO_stops yMO_stops : Cond) ∈ xTB := xTB_of (i := 19) (by decide +kernel) (by decide +kernel)
theorem mw_323 : (Cond.code yMO_stops cMO_stops 8 (some (.int)) : Cond) ∈ xTB := xTB_of (i := 605) (by decide +kernel) (by decide +kernel)
theorem mw_324 : (Cond.methodLink RMO 114 yMO_go : Cond) ∈ xTB := xTB_of (i := 598) (by decide +kernel) (by decide +kernel)
theorem mw_325 : (Cond.instanceMethod yMO_go : Cond) ∈ xTB := xTB_of (i := 600) (by decide +kernel) (by decide +kernel)
theorem mw_326 : (Cond.selects RMO yMO_go yMO_go : Cond) ∈ xTB := xTB_of (i := 18) (by decide +kernel) (by decide +kernel)
theorem mw_327 : (Cond.code yMO_go cMO_go 3 (some (.int)) : Cond) ∈ xTB := xTB_of (i := 601) (by decide +kernel) (by decide +kernel)
theorem mw_328 : (Cond.constant RMO 113 (-2000000001) : Cond) ∈ xTB := xTB_of (i := 597) (by decide +kernel) (by decide +kernel)
theorem mw_329 : (Cond.constantLong RMO 117 (-2000000001) : Cond) ∈ xTB := xTB_of (i := 619) (by decide +kernel) (by decide +kernel)
theorem mw_330 : (Cond.methodLink RMO 119 yMO_batchOf : Cond) ∈ xTB := xTB_of (i := 628) (by decide +kernel) (by decide +kernel)
theorem mw_331 : (Cond.instanceMethod yMO_batchOf : Cond) ∈ xTB := xTB_of (i := 630) (by decide +kernel) (by decide +kernel)
theorem mw_332 : (Cond.selects RMO yMO_batchOf yMO_batchOf : Cond) ∈ xTB := xTB_of (i := 22) (by decide +kernel) (by decide +kernel)
theorem mw_333 : (Cond.code yMO_batchOf cMO_batchOf 4 (some (.int)) : Cond) ∈ xTB := xTB_of (i := 631) (by decide +kernel) (by decide +kernel)
theorem mw_334 : (Cond.methodLink RMO 124 yMO_first : Cond) ∈ xTB := xTB_of (i := 637) (by decide +kernel) (by decide +kernel)
theorem mw_335 : (Cond.instanceMethod yMO_first : Cond) ∈ xTB := xTB_of (i := 639) (by decide +kernel) (by decide +kernel)
theorem mw_336 : (Cond.selects RMO yMO_first yMO_first : Cond) ∈ xTB := xTB_of (i := 23) (by decide +kernel) (by decide +kernel)
theorem mw_337 : (Cond.code yMO_first cMO_first 4 (some (.int)) : Cond) ∈ xTB := xTB_of (i := 640) (by decide +kernel) (by decide +kernel)
theorem mw_338 : (Cond.constantLong RMO 130 1000000000 : Cond) ∈ xTB := xTB_of (i := 642) (by decide +kernel) (by decide +kernel)
theorem mw_339 : (Cond.constantLong RMO 128 (-1000000000) : Cond) ∈ xTB := xTB_of (i := 641) (by decide +kernel) (by decide +kernel)
theorem mw_340 : (Cond.constantLong RMO 122 4 : Cond) ∈ xTB := xTB_of (i := 636) (by decide +kernel) (by decide +kernel)
def xW (y : MethodName) (c : ByteArray) (n : Nat) (r : Option FieldType) : List Cond := Cond.code y c n r :: xTB
end
section
/-! decode rows: JDK -/
theorem dAN_init_0 : decode cAN_init 0 = .ok (.aload_n 0, 1) := by decide +kernel
theorem dAN_init_1 : decode cAN_init 1 = .ok (.invokespecial 1, 3) := by decide +kernel
theorem dAN_init_4 : decode cAN_init 4 = .ok (.return_, 1) := by decide +kernel
theorem dAB_init_0 : decode cAB_init 0 = .ok (.aload_n 0, 1) := by decide +kernel
theorem dAB_init_1 : decode cAB_init 1 = .ok (.invokespecial 1, 3) := by decide +kernel
theorem dAB_init_4 : decode cAB_init 4 = .ok (.aload_n 0, 1) := by decide +kernel
theorem dAB_init_5 : decode cAB_init 5 = .ok (.iconst 0, 1) := by decide +kernel
theorem dAB_init_6 : decode cAB_init 6 = .ok (.putfield 7, 3) := by decide +kernel
theorem dAB_init_9 : decode cAB_init 9 = .ok (.return_, 1) := by decide +kernel
theorem dAL_init_0 : decode cAL_init 0 = .ok (.aload_n 0, 1) := by decide +kernel
theorem dAL_init_1 : decode cAL_init 1 = .ok (.invokespecial 1, 3) := by decide +kernel
theorem dAL_init_4 : decode cAL_init 4 = .ok (.aload_n 0, 1) := by decide +kernel
theorem dAL_init_5 : decode cAL_init 5 = .ok (.getstatic 39, 3) := by decide +kernel
theorem dAL_init_8 : decode cAL_init 8 = .ok (.putfield 9, 3) := by decide +kernel
theorem dAL_init_11 : decode cAL_init 11 = .ok (.return_, 1) := by decide +kernel
theorem dAL_size_0 : decode cAL_size 0 = .ok (.aload_n 0, 1) := by decide +kernel
theorem dAL_size_1 : decode cAL_size 1 = .ok (.getfield 48, 3) := by decide +kernel
theorem dAL_size_4 : decode cAL_size 4 = .ok (.ireturn, 1) := by decide +kernel
theorem dAS_hugeLength_0 : decode cAS_hugeLength 0 = .ok (.iload_n 0, 1) := by decide +kernel
theorem dAS_hugeLength_1 : decode cAS_hugeLength 1 = .ok (.iload_n 1, 1) := by decide +kernel
theorem dAS_hugeLength_2 : decode cAS_hugeLength 2 = .ok (.iadd, 1) := by decide +kernel
theorem dAS_hugeLength_3 : decode cAS_hugeLength 3 = .ok (.istore_n 2, 1) := by decide +kernel
theorem dAS_hugeLength_4 : decode cAS_hugeLength 4 = .ok (.iload_n 2, 1) := by decide +kernel
theorem dAS_hugeLength_5 : decode cAS_hugeLength 5 = .ok (.ifCond .ge 44, 3) := by decide +kernel
theorem dAS_hugeLength_8 : decode cAS_hugeLength 8 = .ok (.new 204, 3) := by decide +kernel
theorem dAS_hugeLength_11 : decode cAS_hugeLength 11 = .ok (.dup, 1) := by decide +kernel
theorem dAS_hugeLength_12 : decode cAS_hugeLength 12 = .ok (.new 89, 3) := by decide +kernel
theorem dAS_hugeLength_15 : decode cAS_hugeLength 15 = .ok (.dup, 1) := by decide +kernel
theorem dAS_hugeLength_16 : decode cAS_hugeLength 16 = .ok (.invokespecial 91, 3) := by decide +kernel
theorem dAS_hugeLength_19 : decode cAS_hugeLength 19 = .ok (.ldc 206, 2) := by decide +kernel
theorem dAS_hugeLength_21 : decode cAS_hugeLength 21 = .ok (.invokevirtual 94, 3) := by decide +kernel
theorem dAS_hugeLength_24 : decode cAS_hugeLength 24 = .ok (.iload_n 0, 1) := by decide +kernel
theorem dAS_hugeLength_25 : decode cAS_hugeLength 25 = .ok (.invokevirtual 98, 3) := by decide +kernel
theorem dAS_hugeLength_28 : decode cAS_hugeLength 28 = .ok (.ldc 208, 2) := by decide +kernel
theorem dAS_hugeLength_30 : decode cAS_hugeLength 30 = .ok (.invokevirtual 94, 3) := by decide +kernel
theorem dAS_hugeLength_33 : decode cAS_hugeLength 33 = .ok (.iload_n 1, 1) := by decide +kernel
theorem dAS_hugeLength_34 : decode cAS_hugeLength 34 = .ok (.invokevirtual 98, 3) := by decide +kernel
theorem dAS_hugeLength_37 : decode cAS_hugeLength 37 = .ok (.ldc 210, 2) := by decide +kernel
theorem dAS_hugeLength_39 : decode cAS_hugeLength 39 = .ok (.invokevirtual 94, 3) := by decide +kernel
theorem dAS_hugeLength_42 : decode cAS_hugeLength 42 = .ok (.invokevirtual 101, 3) := by decide +kernel
theorem dAS_hugeLength_45 : decode cAS_hugeLength 45 = .ok (.invokespecial 212, 3) := by decide +kernel
theorem dAS_hugeLength_48 : decode cAS_hugeLength 48 = .ok (.athrow, 1) := by decide +kernel
theorem dAS_hugeLength_49 : decode cAS_hugeLength 49 = .ok (.iload_n 2, 1) := by decide +kernel
theorem dAS_hugeLength_50 : decode cAS_hugeLength 50 = .ok (.ldc 200, 2) := by decide +kernel
theorem dAS_hugeLength_52 : decode cAS_hugeLength 52 = .ok (.if_icmp .gt 6, 3) := by decide +kernel
theorem dAS_hugeLength_55 : decode cAS_hugeLength 55 = .ok (.ldc 200, 2) := by decide +kernel
theorem dAS_hugeLength_57 : decode cAS_hugeLength 57 = .ok (.ireturn, 1) := by decide +kernel
theorem dAS_hugeLength_58 : decode cAS_hugeLength 58 = .ok (.iload_n 2, 1) := by decide +kernel
theorem dAS_hugeLength_59 : decode cAS_hugeLength 59 = .ok (.ireturn, 1) := by decide +kernel
theorem dAS_newLength_0 : decode cAS_newLength 0 = .ok (.iload_n 0, 1) := by decide +kernel
theorem dAS_newLength_1 : decode cAS_newLength 1 = .ok (.iload_n 1, 1) := by decide +kernel
theorem dAS_newLength_2 : decode cAS_newLength 2 = .ok (.iload_n 2, 1) := by decide +kernel
theorem dAS_newLength_3 : decode cAS_newLength 3 = .ok (.invokestatic 194, 3) := by decide +kernel
theorem dAS_newLength_6 : decode cAS_newLength 6 = .ok (.iadd, 1) := by decide +kernel
theorem dAS_newLength_7 : decode cAS_newLength 7 = .ok (.istore_n 3, 1) := by decide +kernel
theorem dAS_newLength_8 : decode cAS_newLength 8 = .ok (.iconst 0, 1) := by decide +kernel
theorem dAS_newLength_9 : decode cAS_newLength 9 = .ok (.iload_n 3, 1) := by decide +kernel
theorem dAS_newLength_10 : decode cAS_newLength 10 = .ok (.if_icmp .ge 11, 3) := by decide +kernel
theorem dAS_newLength_13 : decode cAS_newLength 13 = .ok (.iload_n 3, 1) := by decide +kernel
theorem dAS_newLength_14 : decode cAS_newLength 14 = .ok (.ldc 200, 2) := by decide +kernel
theorem dAS_newLength_16 : decode cAS_newLength 16 = .ok (.if_icmp .gt 5, 3) := by decide +kernel
theorem dAS_newLength_19 : decode cAS_newLength 19 = .ok (.iload_n 3, 1) := by decide +kernel
theorem dAS_newLength_20 : decode cAS_newLength 20 = .ok (.ireturn, 1) := by decide +kernel
theorem dAS_newLength_21 : decode cAS_newLength 21 = .ok (.iload_n 0, 1) := by decide +kernel
theorem dAS_newLength_22 : decode cAS_newLength 22 = .ok (.iload_n 1, 1) := by decide +kernel
theorem dAS_newLength_23 : decode cAS_newLength 23 = .ok (.invokestatic 201, 3) := by decide +kernel
theorem dAS_newLength_26 : decode cAS_newLength 26 = .ok (.ireturn, 1) := by decide +kernel
theorem dAR_copyOf2_0 : decode cAR_copyOf2 0 = .ok (.aload_n 2, 1) := by decide +kernel
theorem dAR_copyOf2_1 : decode cAR_copyOf2 1 = .ok (.ldc 110, 2) := by decide +kernel
theorem dAR_copyOf2_3 : decode cAR_copyOf2 3 = .ok (.if_acmp .ne 10, 3) := by decide +kernel
theorem dAR_copyOf2_6 : decode cAR_copyOf2 6 = .ok (.iload_n 1, 1) := by decide +kernel
theorem dAR_copyOf2_7 : decode cAR_copyOf2 7 = .ok (.anewarray 2, 3) := by decide +kernel
theorem dAR_copyOf2_10 : decode cAR_copyOf2 10 = .ok (.goto 14, 3) := by decide +kernel
theorem dAR_copyOf2_13 : decode cAR_copyOf2 13 = .ok (.aload_n 2, 1) := by decide +kernel
theorem dAR_copyOf2_14 : decode cAR_copyOf2 14 = .ok (.invokevirtual 90, 3) := by decide +kernel
theorem dAR_copyOf2_17 : decode cAR_copyOf2 17 = .ok (.iload_n 1, 1) := by decide +kernel
theorem dAR_copyOf2_18 : decode cAR_copyOf2 18 = .ok (.invokestatic 95, 3) := by decide +kernel
theorem dAR_copyOf2_21 : decode cAR_copyOf2 21 = .ok (.checkcast 110, 3) := by decide +kernel
theorem dAR_copyOf2_24 : decode cAR_copyOf2 24 = .ok (.astore_n 3, 1) := by decide +kernel
theorem dAR_copyOf2_25 : decode cAR_copyOf2 25 = .ok (.aload_n 0, 1) := by decide +kernel
theorem dAR_copyOf2_26 : decode cAR_copyOf2 26 = .ok (.iconst 0, 1) := by decide +kernel
theorem dAR_copyOf2_27 : decode cAR_copyOf2 27 = .ok (.aload_n 3, 1) := by decide +kernel
theorem dAR_copyOf2_28 : decode cAR_copyOf2 28 = .ok (.iconst 0, 1) := by decide +kernel
theorem dAR_copyOf2_29 : decode cAR_copyOf2 29 = .ok (.aload_n 0, 1) := by decide +kernel
theorem dAR_copyOf2_30 : decode cAR_copyOf2 30 = .ok (.arraylength, 1) := by decide +kernel
theorem dAR_copyOf2_31 : decode cAR_copyOf2 31 = .ok (.iload_n 1, 1) := by decide +kernel
theorem dAR_copyOf2_32 : decode cAR_copyOf2 32 = .ok (.invokestatic 304, 3) := by decide +kernel
theorem dAR_copyOf2_35 : decode cAR_copyOf2 35 = .ok (.invokestatic 150, 3) := by decide +kernel
theorem dAR_copyOf2_38 : decode cAR_copyOf2 38 = .ok (.aload_n 3, 1) := by decide +kernel
theorem dAR_copyOf2_39 : decode cAR_copyOf2 39 = .ok (.areturn, 1) := by decide +kernel
theorem dAR_copyOf_0 : decode cAR_copyOf 0 = .ok (.aload_n 0, 1) := by decide +kernel
theorem dAR_copyOf_1 : decode cAR_copyOf 1 = .ok (.iload_n 1, 1) := by decide +kernel
theorem dAR_copyOf_2 : decode cAR_copyOf 2 = .ok (.aload_n 0, 1) := by decide +kernel
theorem dAR_copyOf_3 : decode cAR_copyOf 3 = .ok (.invokevirtual 86, 3) := by decide +kernel
theorem dAR_copyOf_6 : decode cAR_copyOf 6 = .ok (.invokestatic 300, 3) := by decide +kernel
theorem dAR_copyOf_9 : decode cAR_copyOf 9 = .ok (.areturn, 1) := by decide +kernel
theorem dAL_grow2_0 : decode cAL_grow2 0 = .ok (.aload_n 0, 1) := by decide +kernel
theorem dAL_grow2_1 : decode cAL_grow2 1 = .ok (.getfield 9, 3) := by decide +kernel
theorem dAL_grow2_4 : decode cAL_grow2 4 = .ok (.arraylength, 1) := by decide +kernel
theorem dAL_grow2_5 : decode cAL_grow2 5 = .ok (.istore_n 2, 1) := by decide +kernel
theorem dAL_grow2_6 : decode cAL_grow2 6 = .ok (.iload_n 2, 1) := by decide +kernel
theorem dAL_grow2_7 : decode cAL_grow2 7 = .ok (.ifCond .gt 13, 3) := by decide +kernel
theorem dAL_grow2_10 : decode cAL_grow2 10 = .ok (.aload_n 0, 1) := by decide +kernel
theorem dAL_grow2_11 : decode cAL_grow2 11 = .ok (.getfield 9, 3) := by decide +kernel
theorem dAL_grow2_14 : decode cAL_grow2 14 = .ok (.getstatic 39, 3) := by decide +kernel
theorem dAL_grow2_17 : decode cAL_grow2 17 = .ok (.if_acmp .eq 28, 3) := by decide +kernel
theorem dAL_grow2_20 : decode cAL_grow2 20 = .ok (.iload_n 2, 1) := by decide +kernel
theorem dAL_grow2_21 : decode cAL_grow2 21 = .ok (.iload_n 1, 1) := by decide +kernel
theorem dAL_grow2_22 : decode cAL_grow2 22 = .ok (.iload_n 2, 1) := by decide +kernel
theorem dAL_grow2_23 : decode cAL_grow2 23 = .ok (.isub, 1) := by decide +kernel
theorem dAL_grow2_24 : decode cAL_grow2 24 = .ok (.iload_n 2, 1) := by decide +kernel
theorem dAL_grow2_25 : decode cAL_grow2 25 = .ok (.iconst 1, 1) := by decide +kernel
theorem dAL_grow2_26 : decode cAL_grow2 26 = .ok (.ishr, 1) := by decide +kernel
theorem dAL_grow2_27 : decode cAL_grow2 27 = .ok (.invokestatic 73, 3) := by decide +kernel
theorem dAL_grow2_30 : decode cAL_grow2 30 = .ok (.istore_n 3, 1) := by decide +kernel
theorem dAL_grow2_31 : decode cAL_grow2 31 = .ok (.aload_n 0, 1) := by decide +kernel
theorem dAL_grow2_32 : decode cAL_grow2 32 = .ok (.aload_n 0, 1) := by decide +kernel
theorem dAL_grow2_33 : decode cAL_grow2 33 = .ok (.getfield 9, 3) := by decide +kernel
theorem dAL_grow2_36 : decode cAL_grow2 36 = .ok (.iload_n 3, 1) := by decide +kernel
theorem dAL_grow2_37 : decode cAL_grow2 37 = .ok (.invokestatic 66, 3) := by decide +kernel
theorem dAL_grow2_40 : decode cAL_grow2 40 = .ok (.dup_x1, 1) := by decide +kernel
theorem dAL_grow2_41 : decode cAL_grow2 41 = .ok (.putfield 9, 3) := by decide +kernel
theorem dAL_grow2_44 : decode cAL_grow2 44 = .ok (.areturn, 1) := by decide +kernel
theorem dAL_grow2_45 : decode cAL_grow2 45 = .ok (.aload_n 0, 1) := by decide +kernel
theorem dAL_grow2_46 : decode cAL_grow2 46 = .ok (.bipush 10, 2) := by decide +kernel
theorem dAL_grow2_48 : decode cAL_grow2 48 = .ok (.iload_n 1, 1) := by decide +kernel
theorem dAL_grow2_49 : decode cAL_grow2 49 = .ok (.invokestatic 79, 3) := by decide +kernel
theorem dAL_grow2_52 : decode cAL_grow2 52 = .ok (.anewarray 7, 3) := by decide +kernel
theorem dAL_grow2_55 : decode cAL_grow2 55 = .ok (.dup_x1, 1) := by decide +kernel
theorem dAL_grow2_56 : decode cAL_grow2 56 = .ok (.putfield 9, 3) := by decide +kernel
theorem dAL_grow2_59 : decode cAL_grow2 59 = .ok (.areturn, 1) := by decide +kernel
theorem dAL_grow_0 : decode cAL_grow 0 = .ok (.aload_n 0, 1) := by decide +kernel
theorem dAL_grow_1 : decode cAL_grow 1 = .ok (.aload_n 0, 1) := by decide +kernel
theorem dAL_grow_2 : decode cAL_grow 2 = .ok (.getfield 48, 3) := by decide +kernel
theorem dAL_grow_5 : decode cAL_grow 5 = .ok (.iconst 1, 1) := by decide +kernel
theorem dAL_grow_6 : decode cAL_grow 6 = .ok (.iadd, 1) := by decide +kernel
theorem dAL_grow_7 : decode cAL_grow 7 = .ok (.invokevirtual 69, 3) := by decide +kernel
theorem dAL_grow_10 : decode cAL_grow 10 = .ok (.areturn, 1) := by decide +kernel
theorem dAL_add2_0 : decode cAL_add2 0 = .ok (.iload_n 3, 1) := by decide +kernel
theorem dAL_add2_1 : decode cAL_add2 1 = .ok (.aload_n 2, 1) := by decide +kernel
theorem dAL_add2_2 : decode cAL_add2 2 = .ok (.arraylength, 1) := by decide +kernel
theorem dAL_add2_3 : decode cAL_add2 3 = .ok (.if_icmp .ne 8, 3) := by decide +kernel
theorem dAL_add2_6 : decode cAL_add2 6 = .ok (.aload_n 0, 1) := by decide +kernel
theorem dAL_add2_7 : decode cAL_add2 7 = .ok (.invokevirtual 129, 3) := by decide +kernel
theorem dAL_add2_10 : decode cAL_add2 10 = .ok (.astore_n 2, 1) := by decide +kernel
theorem dAL_add2_11 : decode cAL_add2 11 = .ok (.aload_n 2, 1) := by decide +kernel
theorem dAL_add2_12 : decode cAL_add2 12 = .ok (.iload_n 3, 1) := by decide +kernel
theorem dAL_add2_13 : decode cAL_add2 13 = .ok (.aload_n 1, 1) := by decide +kernel
theorem dAL_add2_14 : decode cAL_add2 14 = .ok (.aastore, 1) := by decide +kernel
theorem dAL_add2_15 : decode cAL_add2 15 = .ok (.aload_n 0, 1) := by decide +kernel
theorem dAL_add2_16 : decode cAL_add2 16 = .ok (.iload_n 3, 1) := by decide +kernel
theorem dAL_add2_17 : decode cAL_add2 17 = .ok (.iconst 1, 1) := by decide +kernel
theorem dAL_add2_18 : decode cAL_add2 18 = .ok (.iadd, 1) := by decide +kernel
theorem dAL_add2_19 : decode cAL_add2 19 = .ok (.putfield 48, 3) := by decide +kernel
theorem dAL_add2_22 : decode cAL_add2 22 = .ok (.return_, 1) := by decide +kernel
theorem dAL_add_0 : decode cAL_add 0 = .ok (.aload_n 0, 1) := by decide +kernel
theorem dAL_add_1 : decode cAL_add 1 = .ok (.dup, 1) := by decide +kernel
theorem dAL_add_2 : decode cAL_add 2 = .ok (.getfield 63, 3) := by decide +kernel
theorem dAL_add_5 : decode cAL_add 5 = .ok (.iconst 1, 1) := by decide +kernel
theorem dAL_add_6 : decode cAL_add 6 = .ok (.iadd, 1) := by decide +kernel
theorem dAL_add_7 : decode cAL_add 7 = .ok (.putfield 63, 3) := by decide +kernel
theorem dAL_add_10 : decode cAL_add 10 = .ok (.aload_n 0, 1) := by decide +kernel
theorem dAL_add_11 : decode cAL_add 11 = .ok (.aload_n 1, 1) := by decide +kernel
theorem dAL_add_12 : decode cAL_add 12 = .ok (.aload_n 0, 1) := by decide +kernel
theorem dAL_add_13 : decode cAL_add 13 = .ok (.getfield 9, 3) := by decide +kernel
theorem dAL_add_16 : decode cAL_add 16 = .ok (.aload_n 0, 1) := by decide +kernel
theorem dAL_add_17 : decode cAL_add 17 = .ok (.getfield 48, 3) := by decide +kernel
theorem dAL_add_20 : decode cAL_add 20 = .ok (.invokevirtual 131, 3) := by decide +kernel
theorem dAL_add_23 : decode cAL_add 23 = .ok (.iconst 1, 1) := by decide +kernel
theorem dAL_add_24 : decode cAL_add 24 = .ok (.ireturn, 1) := by decide +kernel
theorem dPC_checkIndex_0 : decode cPC_checkIndex 0 = .ok (.iload_n 0, 1) := by decide +kernel
theorem dPC_checkIndex_1 : decode cPC_checkIndex 1 = .ok (.ifCond .lt 8, 3) := by decide +kernel
theorem dPC_checkIndex_4 : decode cPC_checkIndex 4 = .ok (.iload_n 0, 1) := by decide +kernel
theorem dPC_checkIndex_5 : decode cPC_checkIndex 5 = .ok (.iload_n 1, 1) := by decide +kernel
theorem dPC_checkIndex_6 : decode cPC_checkIndex 6 = .ok (.if_icmp .lt 10, 3) := by decide +kernel
theorem dPC_checkIndex_9 : decode cPC_checkIndex 9 = .ok (.aload_n 2, 1) := by decide +kernel
theorem dPC_checkIndex_10 : decode cPC_checkIndex 10 = .ok (.iload_n 0, 1) := by decide +kernel
theorem dPC_checkIndex_11 : decode cPC_checkIndex 11 = .ok (.iload_n 1, 1) := by decide +kernel
theorem dPC_checkIndex_12 : decode cPC_checkIndex 12 = .ok (.invokestatic 95, 3) := by decide +kernel
theorem dPC_checkIndex_15 : decode cPC_checkIndex 15 = .ok (.athrow, 1) := by decide +kernel
theorem dPC_checkIndex_16 : decode cPC_checkIndex 16 = .ok (.iload_n 0, 1) := by decide +kernel
theorem dPC_checkIndex_17 : decode cPC_checkIndex 17 = .ok (.ireturn, 1) := by decide +kernel
theorem dOB_checkIndex_0 : decode cOB_checkIndex 0 = .ok (.iload_n 0, 1) := by decide +kernel
theorem dOB_checkIndex_1 : decode cOB_checkIndex 1 = .ok (.iload_n 1, 1) := by decide +kernel
theorem dOB_checkIndex_2 : decode cOB_checkIndex 2 = .ok (.aconst_null, 1) := by decide +kernel
theorem dOB_checkIndex_3 : decode cOB_checkIndex 3 = .ok (.invokestatic 105, 3) := by decide +kernel
theorem dOB_checkIndex_6 : decode cOB_checkIndex 6 = .ok (.ireturn, 1) := by decide +kernel
theorem dAL_elementData_0 : decode cAL_elementData 0 = .ok (.aload_n 0, 1) := by decide +kernel
theorem dAL_elementData_1 : decode cAL_elementData 1 = .ok (.getfield 9, 3) := by decide +kernel
theorem dAL_elementData_4 : decode cAL_elementData 4 = .ok (.iload_n 1, 1) := by decide +kernel
theorem dAL_elementData_5 : decode cAL_elementData 5 = .ok (.aaload, 1) := by decide +kernel
theorem dAL_elementData_6 : decode cAL_elementData 6 = .ok (.areturn, 1) := by decide +kernel
theorem dAL_get_0 : decode cAL_get 0 = .ok (.iload_n 1, 1) := by decide +kernel
theorem dAL_get_1 : decode cAL_get 1 = .ok (.aload_n 0, 1) := by decide +kernel
theorem dAL_get_2 : decode cAL_get 2 = .ok (.getfield 48, 3) := by decide +kernel
theorem dAL_get_5 : decode cAL_get 5 = .ok (.invokestatic 118, 3) := by decide +kernel
theorem dAL_get_8 : decode cAL_get 8 = .ok (.pop, 1) := by decide +kernel
theorem dAL_get_9 : decode cAL_get 9 = .ok (.aload_n 0, 1) := by decide +kernel
theorem dAL_get_10 : decode cAL_get 10 = .ok (.iload_n 1, 1) := by decide +kernel
theorem dAL_get_11 : decode cAL_get 11 = .ok (.invokevirtual 123, 3) := by decide +kernel
theorem dAL_get_14 : decode cAL_get 14 = .ok (.areturn, 1) := by decide +kernel
theorem dAL_isEmpty_0 : decode cAL_isEmpty 0 = .ok (.aload_n 0, 1) := by decide +kernel
theorem dAL_isEmpty_1 : decode cAL_isEmpty 1 = .ok (.getfield 48, 3) := by decide +kernel
theorem dAL_isEmpty_4 : decode cAL_isEmpty 4 = .ok (.ifCond .ne 7, 3) := by decide +kernel
theorem dAL_isEmpty_7 : decode cAL_isEmpty 7 = .ok (.iconst 1, 1) := by decide +kernel
theorem dAL_isEmpty_8 : decode cAL_isEmpty 8 = .ok (.goto 4, 3) := by decide +kernel
theorem dAL_isEmpty_11 : decode cAL_isEmpty 11 = .ok (.iconst 0, 1) := by decide +kernel
theorem dAL_isEmpty_12 : decode cAL_isEmpty 12 = .ok (.ireturn, 1) := by decide +kernel
end
section
/-! decode rows: CLS -/
theorem dPL_init_0 : decode cPL_init 0 = .ok (.aload_n 0, 1) := by decide +kernel
theorem dPL_init_1 : decode cPL_init 1 = .ok (.invokespecial 1, 3) := by decide +kernel
theorem dPL_init_4 : decode cPL_init 4 = .ok (.aload_n 0, 1) := by decide +kernel
theorem dPL_init_5 : decode cPL_init 5 = .ok (.new 7, 3) := by decide +kernel
theorem dPL_init_8 : decode cPL_init 8 = .ok (.dup, 1) := by decide +kernel
theorem dPL_init_9 : decode cPL_init 9 = .ok (.invokespecial 9, 3) := by decide +kernel
theorem dPL_init_12 : decode cPL_init 12 = .ok (.putfield 10, 3) := by decide +kernel
theorem dPL_init_15 : decode cPL_init 15 = .ok (.aload_n 0, 1) := by decide +kernel
theorem dPL_init_16 : decode cPL_init 16 = .ok (.new 7, 3) := by decide +kernel
theorem dPL_init_19 : decode cPL_init 19 = .ok (.dup, 1) := by decide +kernel
theorem dPL_init_20 : decode cPL_init 20 = .ok (.invokespecial 9, 3) := by decide +kernel
theorem dPL_init_23 : decode cPL_init 23 = .ok (.putfield 16, 3) := by decide +kernel
theorem dPL_init_26 : decode cPL_init 26 = .ok (.aload_n 0, 1) := by decide +kernel
theorem dPL_init_27 : decode cPL_init 27 = .ok (.iconst 0, 1) := by decide +kernel
theorem dPL_init_28 : decode cPL_init 28 = .ok (.putfield 19, 3) := by decide +kernel
theorem dPL_init_31 : decode cPL_init 31 = .ok (.aload_n 0, 1) := by decide +kernel
theorem dPL_init_32 : decode cPL_init 32 = .ok (.iconst 0, 1) := by decide +kernel
theorem dPL_init_33 : decode cPL_init 33 = .ok (.putfield 23, 3) := by decide +kernel
theorem dPL_init_36 : decode cPL_init 36 = .ok (.return_, 1) := by decide +kernel
theorem dPL_isOffice_0 : decode cPL_isOffice 0 = .ok (.iload_n 0, 1) := by decide +kernel
theorem dPL_isOffice_1 : decode cPL_isOffice 1 = .ok (.ifCond .lt 13, 3) := by decide +kernel
theorem dPL_isOffice_4 : decode cPL_isOffice 4 = .ok (.iload_n 0, 1) := by decide +kernel
theorem dPL_isOffice_5 : decode cPL_isOffice 5 = .ok (.bipush 10, 2) := by decide +kernel
theorem dPL_isOffice_7 : decode cPL_isOffice 7 = .ok (.if_icmp .ge 7, 3) := by decide +kernel
theorem dPL_isOffice_10 : decode cPL_isOffice 10 = .ok (.iconst 1, 1) := by decide +kernel
theorem dPL_isOffice_11 : decode cPL_isOffice 11 = .ok (.goto 4, 3) := by decide +kernel
theorem dPL_isOffice_14 : decode cPL_isOffice 14 = .ok (.iconst 0, 1) := by decide +kernel
theorem dPL_isOffice_15 : decode cPL_isOffice 15 = .ok (.ireturn, 1) := by decide +kernel
theorem dAC_init_0 : decode cAC_init 0 = .ok (.aload_n 0, 1) := by decide +kernel
theorem dAC_init_1 : decode cAC_init 1 = .ok (.invokespecial 1, 3) := by decide +kernel
theorem dAC_init_4 : decode cAC_init 4 = .ok (.aload_n 0, 1) := by decide +kernel
theorem dAC_init_5 : decode cAC_init 5 = .ok (.iload_n 1, 1) := by decide +kernel
theorem dAC_init_6 : decode cAC_init 6 = .ok (.putfield 7, 3) := by decide +kernel
theorem dAC_init_9 : decode cAC_init 9 = .ok (.aload_n 0, 1) := by decide +kernel
theorem dAC_init_10 : decode cAC_init 10 = .ok (.iload_n 2, 1) := by decide +kernel
theorem dAC_init_11 : decode cAC_init 11 = .ok (.putfield 13, 3) := by decide +kernel
theorem dAC_init_14 : decode cAC_init 14 = .ok (.return_, 1) := by decide +kernel
theorem dPL_account_0 : decode cPL_account 0 = .ok (.iload_n 1, 1) := by decide +kernel
theorem dPL_account_1 : decode cPL_account 1 = .ok (.invokestatic 26, 3) := by decide +kernel
theorem dPL_account_4 : decode cPL_account 4 = .ok (.ifCond .eq 13, 3) := by decide +kernel
theorem dPL_account_7 : decode cPL_account 7 = .ok (.iload_n 2, 1) := by decide +kernel
theorem dPL_account_8 : decode cPL_account 8 = .ok (.ifCond .lt 9, 3) := by decide +kernel
theorem dPL_account_11 : decode cPL_account 11 = .ok (.iload_n 2, 1) := by decide +kernel
theorem dPL_account_12 : decode cPL_account 12 = .ok (.bipush 6, 2) := by decide +kernel
theorem dPL_account_14 : decode cPL_account 14 = .ok (.if_icmp .lt 6, 3) := by decide +kernel
theorem dPL_account_17 : decode cPL_account 17 = .ok (.ldc 30, 2) := by decide +kernel
theorem dPL_account_19 : decode cPL_account 19 = .ok (.ireturn, 1) := by decide +kernel
theorem dPL_account_20 : decode cPL_account 20 = .ok (.aload_n 0, 1) := by decide +kernel
theorem dPL_account_21 : decode cPL_account 21 = .ok (.getfield 10, 3) := by decide +kernel
theorem dPL_account_24 : decode cPL_account 24 = .ok (.invokevirtual 31, 3) := by decide +kernel
theorem dPL_account_27 : decode cPL_account 27 = .ok (.bipush 60, 2) := by decide +kernel
theorem dPL_account_29 : decode cPL_account 29 = .ok (.if_icmp .lt 6, 3) := by decide +kernel
theorem dPL_account_32 : decode cPL_account 32 = .ok (.ldc 35, 2) := by decide +kernel
theorem dPL_account_34 : decode cPL_account 34 = .ok (.ireturn, 1) := by decide +kernel
theorem dPL_account_35 : decode cPL_account 35 = .ok (.aload_n 0, 1) := by decide +kernel
theorem dPL_account_36 : decode cPL_account 36 = .ok (.getfield 10, 3) := by decide +kernel
theorem dPL_account_39 : decode cPL_account 39 = .ok (.new 36, 3) := by decide +kernel
theorem dPL_account_42 : decode cPL_account 42 = .ok (.dup, 1) := by decide +kernel
theorem dPL_account_43 : decode cPL_account 43 = .ok (.iload_n 1, 1) := by decide +kernel
theorem dPL_account_44 : decode cPL_account 44 = .ok (.iload_n 2, 1) := by decide +kernel
theorem dPL_account_45 : decode cPL_account 45 = .ok (.invokespecial 38, 3) := by decide +kernel
theorem dPL_account_48 : decode cPL_account 48 = .ok (.invokevirtual 41, 3) := by decide +kernel
theorem dPL_account_51 : decode cPL_account 51 = .ok (.pop, 1) := by decide +kernel
theorem dPL_account_52 : decode cPL_account 52 = .ok (.aload_n 0, 1) := by decide +kernel
theorem dPL_account_53 : decode cPL_account 53 = .ok (.getfield 10, 3) := by decide +kernel
theorem dPL_account_56 : decode cPL_account 56 = .ok (.invokevirtual 31, 3) := by decide +kernel
theorem dPL_account_59 : decode cPL_account 59 = .ok (.ireturn, 1) := by decide +kernel
theorem dPL_isWithin_0 : decode cPL_isWithin 0 = .ok (.lload_n 0, 1) := by decide +kernel
theorem dPL_isWithin_1 : decode cPL_isWithin 1 = .ok (.lload_n 2, 1) := by decide +kernel
theorem dPL_isWithin_2 : decode cPL_isWithin 2 = .ok (.lcmp, 1) := by decide +kernel
theorem dPL_isWithin_3 : decode cPL_isWithin 3 = .ok (.ifCond .lt 14, 3) := by decide +kernel
theorem dPL_isWithin_6 : decode cPL_isWithin 6 = .ok (.lload_n 0, 1) := by decide +kernel
theorem dPL_isWithin_7 : decode cPL_isWithin 7 = .ok (.lload 4, 2) := by decide +kernel
theorem dPL_isWithin_9 : decode cPL_isWithin 9 = .ok (.lcmp, 1) := by decide +kernel
theorem dPL_isWithin_10 : decode cPL_isWithin 10 = .ok (.ifCond .gt 7, 3) := by decide +kernel
theorem dPL_isWithin_13 : decode cPL_isWithin 13 = .ok (.iconst 1, 1) := by decide +kernel
theorem dPL_isWithin_14 : decode cPL_isWithin 14 = .ok (.goto 4, 3) := by decide +kernel
theorem dPL_isWithin_17 : decode cPL_isWithin 17 = .ok (.iconst 0, 1) := by decide +kernel
theorem dPL_isWithin_18 : decode cPL_isWithin 18 = .ok (.ireturn, 1) := by decide +kernel
theorem dPL_isDay_0 : decode cPL_isDay 0 = .ok (.lload_n 0, 1) := by decide +kernel
theorem dPL_isDay_1 : decode cPL_isDay 1 = .ok (.lconst 0, 1) := by decide +kernel
theorem dPL_isDay_2 : decode cPL_isDay 2 = .ok (.ldc2_w 180, 3) := by decide +kernel
theorem dPL_isDay_5 : decode cPL_isDay 5 = .ok (.invokestatic 80, 3) := by decide +kernel
theorem dPL_isDay_8 : decode cPL_isDay 8 = .ok (.ireturn, 1) := by decide +kernel
theorem dPL_isClosed_0 : decode cPL_isClosed 0 = .ok (.lload_n 1, 1) := by decide +kernel
theorem dPL_isClosed_1 : decode cPL_isClosed 1 = .ok (.aload_n 0, 1) := by decide +kernel
theorem dPL_isClosed_2 : decode cPL_isClosed 2 = .ok (.getfield 19, 3) := by decide +kernel
theorem dPL_isClosed_5 : decode cPL_isClosed 5 = .ok (.i2l, 1) := by decide +kernel
theorem dPL_isClosed_6 : decode cPL_isClosed 6 = .ok (.lcmp, 1) := by decide +kernel
theorem dPL_isClosed_7 : decode cPL_isClosed 7 = .ok (.ifCond .ge 7, 3) := by decide +kernel
theorem dPL_isClosed_10 : decode cPL_isClosed 10 = .ok (.iconst 1, 1) := by decide +kernel
theorem dPL_isClosed_11 : decode cPL_isClosed 11 = .ok (.goto 4, 3) := by decide +kernel
theorem dPL_isClosed_14 : decode cPL_isClosed 14 = .ok (.iconst 0, 1) := by decide +kernel
theorem dPL_isClosed_15 : decode cPL_isClosed 15 = .ok (.ireturn, 1) := by decide +kernel
theorem dPL_hasRoomForBatch_0 : decode cPL_hasRoomForBatch 0 = .ok (.aload_n 0, 1) := by decide +kernel
theorem dPL_hasRoomForBatch_1 : decode cPL_hasRoomForBatch 1 = .ok (.getfield 16, 3) := by decide +kernel
theorem dPL_hasRoomForBatch_4 : decode cPL_hasRoomForBatch 4 = .ok (.invokevirtual 31, 3) := by decide +kernel
theorem dPL_hasRoomForBatch_7 : decode cPL_hasRoomForBatch 7 = .ok (.sipush 300, 3) := by decide +kernel
theorem dPL_hasRoomForBatch_10 : decode cPL_hasRoomForBatch 10 = .ok (.if_icmp .ge 7, 3) := by decide +kernel
theorem dPL_hasRoomForBatch_13 : decode cPL_hasRoomForBatch 13 = .ok (.iconst 1, 1) := by decide +kernel
theorem dPL_hasRoomForBatch_14 : decode cPL_hasRoomForBatch 14 = .ok (.goto 4, 3) := by decide +kernel
theorem dPL_hasRoomForBatch_17 : decode cPL_hasRoomForBatch 17 = .ok (.iconst 0, 1) := by decide +kernel
theorem dPL_hasRoomForBatch_18 : decode cPL_hasRoomForBatch 18 = .ok (.ireturn, 1) := by decide +kernel
theorem dBA_init_0 : decode cBA_init 0 = .ok (.aload_n 0, 1) := by decide +kernel
theorem dBA_init_1 : decode cBA_init 1 = .ok (.invokespecial 3, 3) := by decide +kernel
theorem dBA_init_4 : decode cBA_init 4 = .ok (.aload_n 0, 1) := by decide +kernel
theorem dBA_init_5 : decode cBA_init 5 = .ok (.iload_n 1, 1) := by decide +kernel
theorem dBA_init_6 : decode cBA_init 6 = .ok (.putfield 9, 3) := by decide +kernel
theorem dBA_init_9 : decode cBA_init 9 = .ok (.aload_n 0, 1) := by decide +kernel
theorem dBA_init_10 : decode cBA_init 10 = .ok (.new 15, 3) := by decide +kernel
theorem dBA_init_13 : decode cBA_init 13 = .ok (.dup, 1) := by decide +kernel
theorem dBA_init_14 : decode cBA_init 14 = .ok (.invokespecial 17, 3) := by decide +kernel
theorem dBA_init_17 : decode cBA_init 17 = .ok (.putfield 18, 3) := by decide +kernel
theorem dBA_init_20 : decode cBA_init 20 = .ok (.aload_n 0, 1) := by decide +kernel
theorem dBA_init_21 : decode cBA_init 21 = .ok (.getstatic 22, 3) := by decide +kernel
theorem dBA_init_24 : decode cBA_init 24 = .ok (.putfield 28, 3) := by decide +kernel
theorem dBA_init_27 : decode cBA_init 27 = .ok (.return_, 1) := by decide +kernel
theorem dPL_batch_0 : decode cPL_batch 0 = .ok (.lload_n 1, 1) := by decide +kernel
theorem dPL_batch_1 : decode cPL_batch 1 = .ok (.invokestatic 45, 3) := by decide +kernel
theorem dPL_batch_4 : decode cPL_batch 4 = .ok (.ifCond .ne 6, 3) := by decide +kernel
theorem dPL_batch_7 : decode cPL_batch 7 = .ok (.ldc 30, 2) := by decide +kernel
theorem dPL_batch_9 : decode cPL_batch 9 = .ok (.ireturn, 1) := by decide +kernel
theorem dPL_batch_10 : decode cPL_batch 10 = .ok (.aload_n 0, 1) := by decide +kernel
theorem dPL_batch_11 : decode cPL_batch 11 = .ok (.lload_n 1, 1) := by decide +kernel
theorem dPL_batch_12 : decode cPL_batch 12 = .ok (.invokevirtual 49, 3) := by decide +kernel
theorem dPL_batch_15 : decode cPL_batch 15 = .ok (.ifCond .eq 6, 3) := by decide +kernel
theorem dPL_batch_18 : decode cPL_batch 18 = .ok (.ldc 52, 2) := by decide +kernel
theorem dPL_batch_20 : decode cPL_batch 20 = .ok (.ireturn, 1) := by decide +kernel
theorem dPL_batch_21 : decode cPL_batch 21 = .ok (.aload_n 0, 1) := by decide +kernel
theorem dPL_batch_22 : decode cPL_batch 22 = .ok (.invokevirtual 53, 3) := by decide +kernel
theorem dPL_batch_25 : decode cPL_batch 25 = .ok (.ifCond .ne 6, 3) := by decide +kernel
theorem dPL_batch_28 : decode cPL_batch 28 = .ok (.ldc 35, 2) := by decide +kernel
theorem dPL_batch_30 : decode cPL_batch 30 = .ok (.ireturn, 1) := by decide +kernel
theorem dPL_batch_31 : decode cPL_batch 31 = .ok (.aload_n 0, 1) := by decide +kernel
theorem dPL_batch_32 : decode cPL_batch 32 = .ok (.getfield 16, 3) := by decide +kernel
theorem dPL_batch_35 : decode cPL_batch 35 = .ok (.new 57, 3) := by decide +kernel
theorem dPL_batch_38 : decode cPL_batch 38 = .ok (.dup, 1) := by decide +kernel
theorem dPL_batch_39 : decode cPL_batch 39 = .ok (.lload_n 1, 1) := by decide +kernel
theorem dPL_batch_40 : decode cPL_batch 40 = .ok (.l2i, 1) := by decide +kernel
theorem dPL_batch_41 : decode cPL_batch 41 = .ok (.invokespecial 59, 3) := by decide +kernel
theorem dPL_batch_44 : decode cPL_batch 44 = .ok (.invokevirtual 41, 3) := by decide +kernel
theorem dPL_batch_47 : decode cPL_batch 47 = .ok (.pop, 1) := by decide +kernel
theorem dPL_batch_48 : decode cPL_batch 48 = .ok (.aload_n 0, 1) := by decide +kernel
theorem dPL_batch_49 : decode cPL_batch 49 = .ok (.getfield 16, 3) := by decide +kernel
theorem dPL_batch_52 : decode cPL_batch 52 = .ok (.invokevirtual 31, 3) := by decide +kernel
theorem dPL_batch_55 : decode cPL_batch 55 = .ok (.ireturn, 1) := by decide +kernel
theorem dPL_findBatch_0 : decode cPL_findBatch 0 = .ok (.iload_n 1, 1) := by decide +kernel
theorem dPL_findBatch_1 : decode cPL_findBatch 1 = .ok (.iconst 1, 1) := by decide +kernel
theorem dPL_findBatch_2 : decode cPL_findBatch 2 = .ok (.if_icmp .lt 30, 3) := by decide +kernel
theorem dPL_findBatch_5 : decode cPL_findBatch 5 = .ok (.iload_n 1, 1) := by decide +kernel
theorem dPL_findBatch_6 : decode cPL_findBatch 6 = .ok (.aload_n 0, 1) := by decide +kernel
theorem dPL_findBatch_7 : decode cPL_findBatch 7 = .ok (.getfield 16, 3) := by decide +kernel
theorem dPL_findBatch_10 : decode cPL_findBatch 10 = .ok (.invokevirtual 31, 3) := by decide +kernel
theorem dPL_findBatch_13 : decode cPL_findBatch 13 = .ok (.if_icmp .gt 19, 3) := by decide +kernel
theorem dPL_findBatch_16 : decode cPL_findBatch 16 = .ok (.aload_n 0, 1) := by decide +kernel
theorem dPL_findBatch_17 : decode cPL_findBatch 17 = .ok (.getfield 16, 3) := by decide +kernel
theorem dPL_findBatch_20 : decode cPL_findBatch 20 = .ok (.iload_n 1, 1) := by decide +kernel
theorem dPL_findBatch_21 : decode cPL_findBatch 21 = .ok (.iconst 1, 1) := by decide +kernel
theorem dPL_findBatch_22 : decode cPL_findBatch 22 = .ok (.isub, 1) := by decide +kernel
theorem dPL_findBatch_23 : decode cPL_findBatch 23 = .ok (.invokevirtual 127, 3) := by decide +kernel
theorem dPL_findBatch_26 : decode cPL_findBatch 26 = .ok (.checkcast 57, 3) := by decide +kernel
theorem dPL_findBatch_29 : decode cPL_findBatch 29 = .ok (.goto 4, 3) := by decide +kernel
theorem dPL_findBatch_32 : decode cPL_findBatch 32 = .ok (.aconst_null, 1) := by decide +kernel
theorem dPL_findBatch_33 : decode cPL_findBatch 33 = .ok (.areturn, 1) := by decide +kernel
theorem dPL_findAccount_0 : decode cPL_findAccount 0 = .ok (.iload_n 1, 1) := by decide +kernel
theorem dPL_findAccount_1 : decode cPL_findAccount 1 = .ok (.iconst 1, 1) := by decide +kernel
theorem dPL_findAccount_2 : decode cPL_findAccount 2 = .ok (.if_icmp .lt 30, 3) := by decide +kernel
theorem dPL_findAccount_5 : decode cPL_findAccount 5 = .ok (.iload_n 1, 1) := by decide +kernel
theorem dPL_findAccount_6 : decode cPL_findAccount 6 = .ok (.aload_n 0, 1) := by decide +kernel
theorem dPL_findAccount_7 : decode cPL_findAccount 7 = .ok (.getfield 10, 3) := by decide +kernel
theorem dPL_findAccount_10 : decode cPL_findAccount 10 = .ok (.invokevirtual 31, 3) := by decide +kernel
theorem dPL_findAccount_13 : decode cPL_findAccount 13 = .ok (.if_icmp .gt 19, 3) := by decide +kernel
theorem dPL_findAccount_16 : decode cPL_findAccount 16 = .ok (.aload_n 0, 1) := by decide +kernel
theorem dPL_findAccount_17 : decode cPL_findAccount 17 = .ok (.getfield 10, 3) := by decide +kernel
theorem dPL_findAccount_20 : decode cPL_findAccount 20 = .ok (.iload_n 1, 1) := by decide +kernel
theorem dPL_findAccount_21 : decode cPL_findAccount 21 = .ok (.iconst 1, 1) := by decide +kernel
theorem dPL_findAccount_22 : decode cPL_findAccount 22 = .ok (.isub, 1) := by decide +kernel
theorem dPL_findAccount_23 : decode cPL_findAccount 23 = .ok (.invokevirtual 127, 3) := by decide +kernel
theorem dPL_findAccount_26 : decode cPL_findAccount 26 = .ok (.checkcast 36, 3) := by decide +kernel
theorem dPL_findAccount_29 : decode cPL_findAccount 29 = .ok (.goto 4, 3) := by decide +kernel
theorem dPL_findAccount_32 : decode cPL_findAccount 32 = .ok (.aconst_null, 1) := by decide +kernel
theorem dPL_findAccount_33 : decode cPL_findAccount 33 = .ok (.areturn, 1) := by decide +kernel
theorem dBA_isOpen_0 : decode cBA_isOpen 0 = .ok (.aload_n 0, 1) := by decide +kernel
theorem dBA_isOpen_1 : decode cBA_isOpen 1 = .ok (.getfield 28, 3) := by decide +kernel
theorem dBA_isOpen_4 : decode cBA_isOpen 4 = .ok (.getstatic 22, 3) := by decide +kernel
theorem dBA_isOpen_7 : decode cBA_isOpen 7 = .ok (.if_acmp .ne 7, 3) := by decide +kernel
theorem dBA_isOpen_10 : decode cBA_isOpen 10 = .ok (.iconst 1, 1) := by decide +kernel
theorem dBA_isOpen_11 : decode cBA_isOpen 11 = .ok (.goto 4, 3) := by decide +kernel
theorem dBA_isOpen_14 : decode cBA_isOpen 14 = .ok (.iconst 0, 1) := by decide +kernel
theorem dBA_isOpen_15 : decode cBA_isOpen 15 = .ok (.ireturn, 1) := by decide +kernel
theorem dBA_isFull_0 : decode cBA_isFull 0 = .ok (.aload_n 0, 1) := by decide +kernel
theorem dBA_isFull_1 : decode cBA_isFull 1 = .ok (.getfield 18, 3) := by decide +kernel
theorem dBA_isFull_4 : decode cBA_isFull 4 = .ok (.invokevirtual 31, 3) := by decide +kernel
theorem dBA_isFull_7 : decode cBA_isFull 7 = .ok (.bipush 12, 2) := by decide +kernel
theorem dBA_isFull_9 : decode cBA_isFull 9 = .ok (.if_icmp .lt 7, 3) := by decide +kernel
theorem dBA_isFull_12 : decode cBA_isFull 12 = .ok (.iconst 1, 1) := by decide +kernel
theorem dBA_isFull_13 : decode cBA_isFull 13 = .ok (.goto 4, 3) := by decide +kernel
theorem dBA_isFull_16 : decode cBA_isFull 16 = .ok (.iconst 0, 1) := by decide +kernel
theorem dBA_isFull_17 : decode cBA_isFull 17 = .ok (.ireturn, 1) := by decide +kernel
theorem dRW_init_0 : decode cRW_init 0 = .ok (.aload_n 0, 1) := by decide +kernel
theorem dRW_init_1 : decode cRW_init 1 = .ok (.invokespecial 3, 3) := by decide +kernel
theorem dRW_init_4 : decode cRW_init 4 = .ok (.aload_n 0, 1) := by decide +kernel
theorem dRW_init_5 : decode cRW_init 5 = .ok (.aload_n 1, 1) := by decide +kernel
theorem dRW_init_6 : decode cRW_init 6 = .ok (.putfield 9, 3) := by decide +kernel
theorem dRW_init_9 : decode cRW_init 9 = .ok (.aload_n 0, 1) := by decide +kernel
theorem dRW_init_10 : decode cRW_init 10 = .ok (.lload_n 2, 1) := by decide +kernel
theorem dRW_init_11 : decode cRW_init 11 = .ok (.putfield 15, 3) := by decide +kernel
theorem dRW_init_14 : decode cRW_init 14 = .ok (.return_, 1) := by decide +kernel
theorem dBA_addRow_0 : decode cBA_addRow 0 = .ok (.aload_n 0, 1) := by decide +kernel
theorem dBA_addRow_1 : decode cBA_addRow 1 = .ok (.getfield 18, 3) := by decide +kernel
theorem dBA_addRow_4 : decode cBA_addRow 4 = .ok (.new 38, 3) := by decide +kernel
theorem dBA_addRow_7 : decode cBA_addRow 7 = .ok (.dup, 1) := by decide +kernel
theorem dBA_addRow_8 : decode cBA_addRow 8 = .ok (.aload_n 1, 1) := by decide +kernel
theorem dBA_addRow_9 : decode cBA_addRow 9 = .ok (.lload_n 2, 1) := by decide +kernel
theorem dBA_addRow_10 : decode cBA_addRow 10 = .ok (.invokespecial 40, 3) := by decide +kernel
theorem dBA_addRow_13 : decode cBA_addRow 13 = .ok (.invokevirtual 43, 3) := by decide +kernel
theorem dBA_addRow_16 : decode cBA_addRow 16 = .ok (.pop, 1) := by decide +kernel
theorem dBA_addRow_17 : decode cBA_addRow 17 = .ok (.return_, 1) := by decide +kernel
theorem dPL_row_0 : decode cPL_row 0 = .ok (.aload_n 0, 1) := by decide +kernel
theorem dPL_row_1 : decode cPL_row 1 = .ok (.iload_n 1, 1) := by decide +kernel
theorem dPL_row_2 : decode cPL_row 2 = .ok (.invokevirtual 62, 3) := by decide +kernel
theorem dPL_row_5 : decode cPL_row 5 = .ok (.astore 5, 2) := by decide +kernel
theorem dPL_row_7 : decode cPL_row 7 = .ok (.aload_n 0, 1) := by decide +kernel
theorem dPL_row_8 : decode cPL_row 8 = .ok (.iload_n 2, 1) := by decide +kernel
theorem dPL_row_9 : decode cPL_row 9 = .ok (.invokevirtual 66, 3) := by decide +kernel
theorem dPL_row_12 : decode cPL_row 12 = .ok (.astore 6, 2) := by decide +kernel
theorem dPL_row_14 : decode cPL_row 14 = .ok (.aload 5, 2) := by decide +kernel
theorem dPL_row_16 : decode cPL_row 16 = .ok (.ifnull 24, 3) := by decide +kernel
theorem dPL_row_19 : decode cPL_row 19 = .ok (.aload 6, 2) := by decide +kernel
theorem dPL_row_21 : decode cPL_row 21 = .ok (.ifnull 19, 3) := by decide +kernel
theorem dPL_row_24 : decode cPL_row 24 = .ok (.aload 5, 2) := by decide +kernel
theorem dPL_row_26 : decode cPL_row 26 = .ok (.invokevirtual 70, 3) := by decide +kernel
theorem dPL_row_29 : decode cPL_row 29 = .ok (.ifCond .eq 11, 3) := by decide +kernel
theorem dPL_row_32 : decode cPL_row 32 = .ok (.aload 5, 2) := by decide +kernel
theorem dPL_row_34 : decode cPL_row 34 = .ok (.invokevirtual 73, 3) := by decide +kernel
theorem dPL_row_37 : decode cPL_row 37 = .ok (.ifCond .eq 5, 3) := by decide +kernel
theorem dPL_row_40 : decode cPL_row 40 = .ok (.iconst 0, 1) := by decide +kernel
theorem dPL_row_41 : decode cPL_row 41 = .ok (.ireturn, 1) := by decide +kernel
theorem dPL_row_42 : decode cPL_row 42 = .ok (.lload_n 3, 1) := by decide +kernel
theorem dPL_row_43 : decode cPL_row 43 = .ok (.lconst 0, 1) := by decide +kernel
theorem dPL_row_44 : decode cPL_row 44 = .ok (.lcmp, 1) := by decide +kernel
theorem dPL_row_45 : decode cPL_row 45 = .ok (.ifCond .eq 16, 3) := by decide +kernel
theorem dPL_row_48 : decode cPL_row 48 = .ok (.lload_n 3, 1) := by decide +kernel
theorem dPL_row_49 : decode cPL_row 49 = .ok (.ldc2_w 76, 3) := by decide +kernel
theorem dPL_row_52 : decode cPL_row 52 = .ok (.ldc2_w 78, 3) := by decide +kernel
theorem dPL_row_55 : decode cPL_row 55 = .ok (.invokestatic 80, 3) := by decide +kernel
theorem dPL_row_58 : decode cPL_row 58 = .ok (.ifCond .ne 5, 3) := by decide +kernel
theorem dPL_row_61 : decode cPL_row 61 = .ok (.iconst 0, 1) := by decide +kernel
theorem dPL_row_62 : decode cPL_row 62 = .ok (.ireturn, 1) := by decide +kernel
theorem dPL_row_63 : decode cPL_row 63 = .ok (.aload 5, 2) := by decide +kernel
theorem dPL_row_65 : decode cPL_row 65 = .ok (.aload 6, 2) := by decide +kernel
theorem dPL_row_67 : decode cPL_row 67 = .ok (.lload_n 3, 1) := by decide +kernel
theorem dPL_row_68 : decode cPL_row 68 = .ok (.invokevirtual 84, 3) := by decide +kernel
theorem dPL_row_71 : decode cPL_row 71 = .ok (.iconst 1, 1) := by decide +kernel
theorem dPL_row_72 : decode cPL_row 72 = .ok (.ireturn, 1) := by decide +kernel
theorem dBA_size_0 : decode cBA_size 0 = .ok (.aload_n 0, 1) := by decide +kernel
theorem dBA_size_1 : decode cBA_size 1 = .ok (.getfield 18, 3) := by decide +kernel
theorem dBA_size_4 : decode cBA_size 4 = .ok (.invokevirtual 31, 3) := by decide +kernel
theorem dBA_size_7 : decode cBA_size 7 = .ok (.ireturn, 1) := by decide +kernel
theorem dBA_sumForAccount_0 : decode cBA_sumForAccount 0 = .ok (.lconst 0, 1) := by decide +kernel
theorem dBA_sumForAccount_1 : decode cBA_sumForAccount 1 = .ok (.lstore_n 3, 1) := by decide +kernel
theorem dBA_sumForAccount_2 : decode cBA_sumForAccount 2 = .ok (.iconst 0, 1) := by decide +kernel
theorem dBA_sumForAccount_3 : decode cBA_sumForAccount 3 = .ok (.istore 5, 2) := by decide +kernel
theorem dBA_sumForAccount_5 : decode cBA_sumForAccount 5 = .ok (.iload 5, 2) := by decide +kernel
theorem dBA_sumForAccount_7 : decode cBA_sumForAccount 7 = .ok (.iload_n 2, 1) := by decide +kernel
theorem dBA_sumForAccount_8 : decode cBA_sumForAccount 8 = .ok (.if_icmp .ge 52, 3) := by decide +kernel
theorem dBA_sumForAccount_11 : decode cBA_sumForAccount 11 = .ok (.iload 5, 2) := by decide +kernel
theorem dBA_sumForAccount_13 : decode cBA_sumForAccount 13 = .ok (.aload_n 0, 1) := by decide +kernel
theorem dBA_sumForAccount_14 : decode cBA_sumForAccount 14 = .ok (.getfield 18, 3) := by decide +kernel
theorem dBA_sumForAccount_17 : decode cBA_sumForAccount 17 = .ok (.invokevirtual 31, 3) := by decide +kernel
theorem dBA_sumForAccount_20 : decode cBA_sumForAccount 20 = .ok (.if_icmp .ge 40, 3) := by decide +kernel
theorem dBA_sumForAccount_23 : decode cBA_sumForAccount 23 = .ok (.aload_n 0, 1) := by decide +kernel
theorem dBA_sumForAccount_24 : decode cBA_sumForAccount 24 = .ok (.getfield 18, 3) := by decide +kernel
theorem dBA_sumForAccount_27 : decode cBA_sumForAccount 27 = .ok (.iload 5, 2) := by decide +kernel
theorem dBA_sumForAccount_29 : decode cBA_sumForAccount 29 = .ok (.invokevirtual 47, 3) := by decide +kernel
theorem dBA_sumForAccount_32 : decode cBA_sumForAccount 32 = .ok (.checkcast 38, 3) := by decide +kernel
theorem dBA_sumForAccount_35 : decode cBA_sumForAccount 35 = .ok (.astore 6, 2) := by decide +kernel
theorem dBA_sumForAccount_37 : decode cBA_sumForAccount 37 = .ok (.aload 6, 2) := by decide +kernel
theorem dBA_sumForAccount_39 : decode cBA_sumForAccount 39 = .ok (.getfield 51, 3) := by decide +kernel
theorem dBA_sumForAccount_42 : decode cBA_sumForAccount 42 = .ok (.aload_n 1, 1) := by decide +kernel
theorem dBA_sumForAccount_43 : decode cBA_sumForAccount 43 = .ok (.if_acmp .ne 11, 3) := by decide +kernel
theorem dBA_sumForAccount_46 : decode cBA_sumForAccount 46 = .ok (.lload_n 3, 1) := by decide +kernel
theorem dBA_sumForAccount_47 : decode cBA_sumForAccount 47 = .ok (.aload 6, 2) := by decide +kernel
theorem dBA_sumForAccount_49 : decode cBA_sumForAccount 49 = .ok (.getfield 55, 3) := by decide +kernel
theorem dBA_sumForAccount_52 : decode cBA_sumForAccount 52 = .ok (.ladd, 1) := by decide +kernel
theorem dBA_sumForAccount_53 : decode cBA_sumForAccount 53 = .ok (.lstore_n 3, 1) := by decide +kernel
theorem dBA_sumForAccount_54 : decode cBA_sumForAccount 54 = .ok (.iinc 5 1, 3) := by decide +kernel
theorem dBA_sumForAccount_57 : decode cBA_sumForAccount 57 = .ok (.goto (-52), 3) := by decide +kernel
theorem dBA_sumForAccount_60 : decode cBA_sumForAccount 60 = .ok (.lload_n 3, 1) := by decide +kernel
theorem dBA_sumForAccount_61 : decode cBA_sumForAccount 61 = .ok (.lreturn, 1) := by decide +kernel
theorem dPL_balance_0 : decode cPL_balance 0 = .ok (.aload_n 0, 1) := by decide +kernel
theorem dPL_balance_1 : decode cPL_balance 1 = .ok (.iload_n 1, 1) := by decide +kernel
theorem dPL_balance_2 : decode cPL_balance 2 = .ok (.invokevirtual 66, 3) := by decide +kernel
theorem dPL_balance_5 : decode cPL_balance 5 = .ok (.astore 4, 2) := by decide +kernel
theorem dPL_balance_7 : decode cPL_balance 7 = .ok (.aload 4, 2) := by decide +kernel
theorem dPL_balance_9 : decode cPL_balance 9 = .ok (.ifnonnull 7, 3) := by decide +kernel
theorem dPL_balance_12 : decode cPL_balance 12 = .ok (.ldc2_w 125, 3) := by decide +kernel
theorem dPL_balance_15 : decode cPL_balance 15 = .ok (.lreturn, 1) := by decide +kernel
theorem dPL_balance_16 : decode cPL_balance 16 = .ok (.lconst 0, 1) := by decide +kernel
theorem dPL_balance_17 : decode cPL_balance 17 = .ok (.lstore 5, 2) := by decide +kernel
theorem dPL_balance_19 : decode cPL_balance 19 = .ok (.iconst 0, 1) := by decide +kernel
theorem dPL_balance_20 : decode cPL_balance 20 = .ok (.istore 7, 2) := by decide +kernel
theorem dPL_balance_22 : decode cPL_balance 22 = .ok (.iload 7, 2) := by decide +kernel
theorem dPL_balance_24 : decode cPL_balance 24 = .ok (.aload_n 0, 1) := by decide +kernel
theorem dPL_balance_25 : decode cPL_balance 25 = .ok (.getfield 16, 3) := by decide +kernel
theorem dPL_balance_28 : decode cPL_balance 28 = .ok (.invokevirtual 31, 3) := by decide +kernel
theorem dPL_balance_31 : decode cPL_balance 31 = .ok (.if_icmp .ge 62, 3) := by decide +kernel
theorem dPL_balance_34 : decode cPL_balance 34 = .ok (.aload_n 0, 1) := by decide +kernel
theorem dPL_balance_35 : decode cPL_balance 35 = .ok (.getfield 16, 3) := by decide +kernel
theorem dPL_balance_38 : decode cPL_balance 38 = .ok (.iload 7, 2) := by decide +kernel
theorem dPL_balance_40 : decode cPL_balance 40 = .ok (.invokevirtual 127, 3) := by decide +kernel
theorem dPL_balance_43 : decode cPL_balance 43 = .ok (.checkcast 57, 3) := by decide +kernel
theorem dPL_balance_46 : decode cPL_balance 46 = .ok (.astore 8, 2) := by decide +kernel
theorem dPL_balance_48 : decode cPL_balance 48 = .ok (.aload 8, 2) := by decide +kernel
theorem dPL_balance_50 : decode cPL_balance 50 = .ok (.getfield 112, 3) := by decide +kernel
theorem dPL_balance_53 : decode cPL_balance 53 = .ok (.getstatic 131, 3) := by decide +kernel
theorem dPL_balance_56 : decode cPL_balance 56 = .ok (.if_acmp .ne 31, 3) := by decide +kernel
theorem dPL_balance_59 : decode cPL_balance 59 = .ok (.aload 8, 2) := by decide +kernel
theorem dPL_balance_61 : decode cPL_balance 61 = .ok (.getfield 89, 3) := by decide +kernel
theorem dPL_balance_64 : decode cPL_balance 64 = .ok (.i2l, 1) := by decide +kernel
theorem dPL_balance_65 : decode cPL_balance 65 = .ok (.lload_n 2, 1) := by decide +kernel
theorem dPL_balance_66 : decode cPL_balance 66 = .ok (.lcmp, 1) := by decide +kernel
theorem dPL_balance_67 : decode cPL_balance 67 = .ok (.ifCond .gt 20, 3) := by decide +kernel
theorem dPL_balance_70 : decode cPL_balance 70 = .ok (.lload 5, 2) := by decide +kernel
theorem dPL_balance_72 : decode cPL_balance 72 = .ok (.aload 8, 2) := by decide +kernel
theorem dPL_balance_74 : decode cPL_balance 74 = .ok (.aload 4, 2) := by decide +kernel
theorem dPL_balance_76 : decode cPL_balance 76 = .ok (.aload 8, 2) := by decide +kernel
theorem dPL_balance_78 : decode cPL_balance 78 = .ok (.invokevirtual 133, 3) := by decide +kernel
theorem dPL_balance_81 : decode cPL_balance 81 = .ok (.invokevirtual 134, 3) := by decide +kernel
theorem dPL_balance_84 : decode cPL_balance 84 = .ok (.ladd, 1) := by decide +kernel
theorem dPL_balance_85 : decode cPL_balance 85 = .ok (.lstore 5, 2) := by decide +kernel
theorem dPL_balance_87 : decode cPL_balance 87 = .ok (.iinc 7 1, 3) := by decide +kernel
theorem dPL_balance_90 : decode cPL_balance 90 = .ok (.goto (-68), 3) := by decide +kernel
theorem dPL_balance_93 : decode cPL_balance 93 = .ok (.lload 5, 2) := by decide +kernel
theorem dPL_balance_95 : decode cPL_balance 95 = .ok (.lreturn, 1) := by decide +kernel
theorem dPL_close_0 : decode cPL_close 0 = .ok (.lload_n 1, 1) := by decide +kernel
theorem dPL_close_1 : decode cPL_close 1 = .ok (.invokestatic 45, 3) := by decide +kernel
theorem dPL_close_4 : decode cPL_close 4 = .ok (.ifCond .ne 6, 3) := by decide +kernel
theorem dPL_close_7 : decode cPL_close 7 = .ok (.ldc 30, 2) := by decide +kernel
theorem dPL_close_9 : decode cPL_close 9 = .ok (.ireturn, 1) := by decide +kernel
theorem dPL_close_10 : decode cPL_close 10 = .ok (.aload_n 0, 1) := by decide +kernel
theorem dPL_close_11 : decode cPL_close 11 = .ok (.lload_n 1, 1) := by decide +kernel
theorem dPL_close_12 : decode cPL_close 12 = .ok (.invokevirtual 49, 3) := by decide +kernel
theorem dPL_close_15 : decode cPL_close 15 = .ok (.ifCond .eq 5, 3) := by decide +kernel
theorem dPL_close_18 : decode cPL_close 18 = .ok (.iconst 0, 1) := by decide +kernel
theorem dPL_close_19 : decode cPL_close 19 = .ok (.ireturn, 1) := by decide +kernel
theorem dPL_close_20 : decode cPL_close 20 = .ok (.aload_n 0, 1) := by decide +kernel
theorem dPL_close_21 : decode cPL_close 21 = .ok (.getfield 19, 3) := by decide +kernel
theorem dPL_close_24 : decode cPL_close 24 = .ok (.istore_n 3, 1) := by decide +kernel
theorem dPL_close_25 : decode cPL_close 25 = .ok (.aload_n 0, 1) := by decide +kernel
theorem dPL_close_26 : decode cPL_close 26 = .ok (.lload_n 1, 1) := by decide +kernel
theorem dPL_close_27 : decode cPL_close 27 = .ok (.l2i, 1) := by decide +kernel
theorem dPL_close_28 : decode cPL_close 28 = .ok (.iconst 1, 1) := by decide +kernel
theorem dPL_close_29 : decode cPL_close 29 = .ok (.iadd, 1) := by decide +kernel
theorem dPL_close_30 : decode cPL_close 30 = .ok (.putfield 19, 3) := by decide +kernel
theorem dPL_close_33 : decode cPL_close 33 = .ok (.aload_n 0, 1) := by decide +kernel
theorem dPL_close_34 : decode cPL_close 34 = .ok (.getfield 19, 3) := by decide +kernel
theorem dPL_close_37 : decode cPL_close 37 = .ok (.iload_n 3, 1) := by decide +kernel
theorem dPL_close_38 : decode cPL_close 38 = .ok (.isub, 1) := by decide +kernel
theorem dPL_close_39 : decode cPL_close 39 = .ok (.ireturn, 1) := by decide +kernel
theorem dBA_hasRowNumber_0 : decode cBA_hasRowNumber 0 = .ok (.iload_n 1, 1) := by decide +kernel
theorem dBA_hasRowNumber_1 : decode cBA_hasRowNumber 1 = .ok (.aload_n 0, 1) := by decide +kernel
theorem dBA_hasRowNumber_2 : decode cBA_hasRowNumber 2 = .ok (.getfield 35, 3) := by decide +kernel
theorem dBA_hasRowNumber_5 : decode cBA_hasRowNumber 5 = .ok (.if_icmp .lt 23, 3) := by decide +kernel
theorem dBA_hasRowNumber_8 : decode cBA_hasRowNumber 8 = .ok (.iload_n 1, 1) := by decide +kernel
theorem dBA_hasRowNumber_9 : decode cBA_hasRowNumber 9 = .ok (.aload_n 0, 1) := by decide +kernel
theorem dBA_hasRowNumber_10 : decode cBA_hasRowNumber 10 = .ok (.getfield 35, 3) := by decide +kernel
theorem dBA_hasRowNumber_13 : decode cBA_hasRowNumber 13 = .ok (.aload_n 0, 1) := by decide +kernel
theorem dBA_hasRowNumber_14 : decode cBA_hasRowNumber 14 = .ok (.getfield 18, 3) := by decide +kernel
theorem dBA_hasRowNumber_17 : decode cBA_hasRowNumber 17 = .ok (.invokevirtual 31, 3) := by decide +kernel
theorem dBA_hasRowNumber_20 : decode cBA_hasRowNumber 20 = .ok (.iadd, 1) := by decide +kernel
theorem dBA_hasRowNumber_21 : decode cBA_hasRowNumber 21 = .ok (.if_icmp .ge 7, 3) := by decide +kernel
theorem dBA_hasRowNumber_24 : decode cBA_hasRowNumber 24 = .ok (.iconst 1, 1) := by decide +kernel
theorem dBA_hasRowNumber_25 : decode cBA_hasRowNumber 25 = .ok (.goto 4, 3) := by decide +kernel
theorem dBA_hasRowNumber_28 : decode cBA_hasRowNumber 28 = .ok (.iconst 0, 1) := by decide +kernel
theorem dBA_hasRowNumber_29 : decode cBA_hasRowNumber 29 = .ok (.ireturn, 1) := by decide +kernel
theorem dPL_findBatchOfRow_0 : decode cPL_findBatchOfRow 0 = .ok (.iconst 0, 1) := by decide +kernel
theorem dPL_findBatchOfRow_1 : decode cPL_findBatchOfRow 1 = .ok (.istore_n 2, 1) := by decide +kernel
theorem dPL_findBatchOfRow_2 : decode cPL_findBatchOfRow 2 = .ok (.iload_n 2, 1) := by decide +kernel
theorem dPL_findBatchOfRow_3 : decode cPL_findBatchOfRow 3 = .ok (.aload_n 0, 1) := by decide +kernel
theorem dPL_findBatchOfRow_4 : decode cPL_findBatchOfRow 4 = .ok (.getfield 16, 3) := by decide +kernel
theorem dPL_findBatchOfRow_7 : decode cPL_findBatchOfRow 7 = .ok (.invokevirtual 31, 3) := by decide +kernel
theorem dPL_findBatchOfRow_10 : decode cPL_findBatchOfRow 10 = .ok (.if_icmp .ge 41, 3) := by decide +kernel
theorem dPL_findBatchOfRow_13 : decode cPL_findBatchOfRow 13 = .ok (.aload_n 0, 1) := by decide +kernel
theorem dPL_findBatchOfRow_14 : decode cPL_findBatchOfRow 14 = .ok (.getfield 16, 3) := by decide +kernel
theorem dPL_findBatchOfRow_17 : decode cPL_findBatchOfRow 17 = .ok (.iload_n 2, 1) := by decide +kernel
theorem dPL_findBatchOfRow_18 : decode cPL_findBatchOfRow 18 = .ok (.invokevirtual 127, 3) := by decide +kernel
theorem dPL_findBatchOfRow_21 : decode cPL_findBatchOfRow 21 = .ok (.checkcast 57, 3) := by decide +kernel
theorem dPL_findBatchOfRow_24 : decode cPL_findBatchOfRow 24 = .ok (.astore_n 3, 1) := by decide +kernel
theorem dPL_findBatchOfRow_25 : decode cPL_findBatchOfRow 25 = .ok (.aload_n 3, 1) := by decide +kernel
theorem dPL_findBatchOfRow_26 : decode cPL_findBatchOfRow 26 = .ok (.getfield 112, 3) := by decide +kernel
theorem dPL_findBatchOfRow_29 : decode cPL_findBatchOfRow 29 = .ok (.getstatic 131, 3) := by decide +kernel
theorem dPL_findBatchOfRow_32 : decode cPL_findBatchOfRow 32 = .ok (.if_acmp .ne 13, 3) := by decide +kernel
theorem dPL_findBatchOfRow_35 : decode cPL_findBatchOfRow 35 = .ok (.aload_n 3, 1) := by decide +kernel
theorem dPL_findBatchOfRow_36 : decode cPL_findBatchOfRow 36 = .ok (.iload_n 1, 1) := by decide +kernel
theorem dPL_findBatchOfRow_37 : decode cPL_findBatchOfRow 37 = .ok (.invokevirtual 182, 3) := by decide +kernel
theorem dPL_findBatchOfRow_40 : decode cPL_findBatchOfRow 40 = .ok (.ifCond .eq 5, 3) := by decide +kernel
theorem dPL_findBatchOfRow_43 : decode cPL_findBatchOfRow 43 = .ok (.aload_n 3, 1) := by decide +kernel
theorem dPL_findBatchOfRow_44 : decode cPL_findBatchOfRow 44 = .ok (.areturn, 1) := by decide +kernel
theorem dPL_findBatchOfRow_45 : decode cPL_findBatchOfRow 45 = .ok (.iinc 2 1, 3) := by decide +kernel
theorem dPL_findBatchOfRow_48 : decode cPL_findBatchOfRow 48 = .ok (.goto (-46), 3) := by decide +kernel
theorem dPL_findBatchOfRow_51 : decode cPL_findBatchOfRow 51 = .ok (.aconst_null, 1) := by decide +kernel
theorem dPL_findBatchOfRow_52 : decode cPL_findBatchOfRow 52 = .ok (.areturn, 1) := by decide +kernel
theorem dBA_addRowsWithOtherSign_0 : decode cBA_addRowsWithOtherSign 0 = .ok (.aload_n 1, 1) := by decide +kernel
theorem dBA_addRowsWithOtherSign_1 : decode cBA_addRowsWithOtherSign 1 = .ok (.getfield 18, 3) := by decide +kernel
theorem dBA_addRowsWithOtherSign_4 : decode cBA_addRowsWithOtherSign 4 = .ok (.invokevirtual 31, 3) := by decide +kernel
theorem dBA_addRowsWithOtherSign_7 : decode cBA_addRowsWithOtherSign 7 = .ok (.istore_n 2, 1) := by decide +kernel
theorem dBA_addRowsWithOtherSign_8 : decode cBA_addRowsWithOtherSign 8 = .ok (.iconst 0, 1) := by decide +kernel
theorem dBA_addRowsWithOtherSign_9 : decode cBA_addRowsWithOtherSign 9 = .ok (.istore_n 3, 1) := by decide +kernel
theorem dBA_addRowsWithOtherSign_10 : decode cBA_addRowsWithOtherSign 10 = .ok (.iload_n 3, 1) := by decide +kernel
theorem dBA_addRowsWithOtherSign_11 : decode cBA_addRowsWithOtherSign 11 = .ok (.iload_n 2, 1) := by decide +kernel
theorem dBA_addRowsWithOtherSign_12 : decode cBA_addRowsWithOtherSign 12 = .ok (.if_icmp .ge 37, 3) := by decide +kernel
theorem dBA_addRowsWithOtherSign_15 : decode cBA_addRowsWithOtherSign 15 = .ok (.aload_n 1, 1) := by decide +kernel
theorem dBA_addRowsWithOtherSign_16 : decode cBA_addRowsWithOtherSign 16 = .ok (.getfield 18, 3) := by decide +kernel
theorem dBA_addRowsWithOtherSign_19 : decode cBA_addRowsWithOtherSign 19 = .ok (.iload_n 3, 1) := by decide +kernel
theorem dBA_addRowsWithOtherSign_20 : decode cBA_addRowsWithOtherSign 20 = .ok (.invokevirtual 47, 3) := by decide +kernel
theorem dBA_addRowsWithOtherSign_23 : decode cBA_addRowsWithOtherSign 23 = .ok (.checkcast 38, 3) := by decide +kernel
theorem dBA_addRowsWithOtherSign_26 : decode cBA_addRowsWithOtherSign 26 = .ok (.astore 4, 2) := by decide +kernel
theorem dBA_addRowsWithOtherSign_28 : decode cBA_addRowsWithOtherSign 28 = .ok (.aload_n 0, 1) := by decide +kernel
theorem dBA_addRowsWithOtherSign_29 : decode cBA_addRowsWithOtherSign 29 = .ok (.aload 4, 2) := by decide +kernel
theorem dBA_addRowsWithOtherSign_31 : decode cBA_addRowsWithOtherSign 31 = .ok (.getfield 51, 3) := by decide +kernel
theorem dBA_addRowsWithOtherSign_34 : decode cBA_addRowsWithOtherSign 34 = .ok (.aload 4, 2) := by decide +kernel
theorem dBA_addRowsWithOtherSign_36 : decode cBA_addRowsWithOtherSign 36 = .ok (.getfield 55, 3) := by decide +kernel
theorem dBA_addRowsWithOtherSign_39 : decode cBA_addRowsWithOtherSign 39 = .ok (.lneg, 1) := by decide +kernel
theorem dBA_addRowsWithOtherSign_40 : decode cBA_addRowsWithOtherSign 40 = .ok (.invokevirtual 59, 3) := by decide +kernel
theorem dBA_addRowsWithOtherSign_43 : decode cBA_addRowsWithOtherSign 43 = .ok (.iinc 3 1, 3) := by decide +kernel
theorem dBA_addRowsWithOtherSign_46 : decode cBA_addRowsWithOtherSign 46 = .ok (.goto (-36), 3) := by decide +kernel
theorem dBA_addRowsWithOtherSign_49 : decode cBA_addRowsWithOtherSign 49 = .ok (.return_, 1) := by decide +kernel
theorem dBA_addToTotals_0 : decode cBA_addToTotals 0 = .ok (.iconst 0, 1) := by decide +kernel
theorem dBA_addToTotals_1 : decode cBA_addToTotals 1 = .ok (.istore_n 1, 1) := by decide +kernel
theorem dBA_addToTotals_2 : decode cBA_addToTotals 2 = .ok (.iload_n 1, 1) := by decide +kernel
theorem dBA_addToTotals_3 : decode cBA_addToTotals 3 = .ok (.aload_n 0, 1) := by decide +kernel
theorem dBA_addToTotals_4 : decode cBA_addToTotals 4 = .ok (.getfield 18, 3) := by decide +kernel
theorem dBA_addToTotals_7 : decode cBA_addToTotals 7 = .ok (.invokevirtual 31, 3) := by decide +kernel
theorem dBA_addToTotals_10 : decode cBA_addToTotals 10 = .ok (.if_icmp .ge 37, 3) := by decide +kernel
theorem dBA_addToTotals_13 : decode cBA_addToTotals 13 = .ok (.aload_n 0, 1) := by decide +kernel
theorem dBA_addToTotals_14 : decode cBA_addToTotals 14 = .ok (.getfield 18, 3) := by decide +kernel
theorem dBA_addToTotals_17 : decode cBA_addToTotals 17 = .ok (.iload_n 1, 1) := by decide +kernel
theorem dBA_addToTotals_18 : decode cBA_addToTotals 18 = .ok (.invokevirtual 47, 3) := by decide +kernel
theorem dBA_addToTotals_21 : decode cBA_addToTotals 21 = .ok (.checkcast 38, 3) := by decide +kernel
theorem dBA_addToTotals_24 : decode cBA_addToTotals 24 = .ok (.astore_n 2, 1) := by decide +kernel
theorem dBA_addToTotals_25 : decode cBA_addToTotals 25 = .ok (.aload_n 2, 1) := by decide +kernel
theorem dBA_addToTotals_26 : decode cBA_addToTotals 26 = .ok (.getfield 51, 3) := by decide +kernel
theorem dBA_addToTotals_29 : decode cBA_addToTotals 29 = .ok (.dup, 1) := by decide +kernel
theorem dBA_addToTotals_30 : decode cBA_addToTotals 30 = .ok (.getfield 62, 3) := by decide +kernel
theorem dBA_addToTotals_33 : decode cBA_addToTotals 33 = .ok (.aload_n 2, 1) := by decide +kernel
theorem dBA_addToTotals_34 : decode cBA_addToTotals 34 = .ok (.getfield 55, 3) := by decide +kernel
theorem dBA_addToTotals_37 : decode cBA_addToTotals 37 = .ok (.ladd, 1) := by decide +kernel
theorem dBA_addToTotals_38 : decode cBA_addToTotals 38 = .ok (.putfield 62, 3) := by decide +kernel
theorem dBA_addToTotals_41 : decode cBA_addToTotals 41 = .ok (.iinc 1 1, 3) := by decide +kernel
theorem dBA_addToTotals_44 : decode cBA_addToTotals 44 = .ok (.goto (-42), 3) := by decide +kernel
theorem dBA_addToTotals_47 : decode cBA_addToTotals 47 = .ok (.return_, 1) := by decide +kernel
theorem dPL_enterIntoBooks_0 : decode cPL_enterIntoBooks 0 = .ok (.aload_n 1, 1) := by decide +kernel
theorem dPL_enterIntoBooks_1 : decode cPL_enterIntoBooks 1 = .ok (.getstatic 131, 3) := by decide +kernel
theorem dPL_enterIntoBooks_4 : decode cPL_enterIntoBooks 4 = .ok (.putfield 112, 3) := by decide +kernel
theorem dPL_enterIntoBooks_7 : decode cPL_enterIntoBooks 7 = .ok (.aload_n 1, 1) := by decide +kernel
theorem dPL_enterIntoBooks_8 : decode cPL_enterIntoBooks 8 = .ok (.aload_n 0, 1) := by decide +kernel
theorem dPL_enterIntoBooks_9 : decode cPL_enterIntoBooks 9 = .ok (.getfield 23, 3) := by decide +kernel
theorem dPL_enterIntoBooks_12 : decode cPL_enterIntoBooks 12 = .ok (.iconst 1, 1) := by decide +kernel
theorem dPL_enterIntoBooks_13 : decode cPL_enterIntoBooks 13 = .ok (.iadd, 1) := by decide +kernel
theorem dPL_enterIntoBooks_14 : decode cPL_enterIntoBooks 14 = .ok (.putfield 189, 3) := by decide +kernel
theorem dPL_enterIntoBooks_17 : decode cPL_enterIntoBooks 17 = .ok (.aload_n 0, 1) := by decide +kernel
theorem dPL_enterIntoBooks_18 : decode cPL_enterIntoBooks 18 = .ok (.dup, 1) := by decide +kernel
theorem dPL_enterIntoBooks_19 : decode cPL_enterIntoBooks 19 = .ok (.getfield 23, 3) := by decide +kernel
theorem dPL_enterIntoBooks_22 : decode cPL_enterIntoBooks 22 = .ok (.aload_n 1, 1) := by decide +kernel
theorem dPL_enterIntoBooks_23 : decode cPL_enterIntoBooks 23 = .ok (.invokevirtual 133, 3) := by decide +kernel
theorem dPL_enterIntoBooks_26 : decode cPL_enterIntoBooks 26 = .ok (.iadd, 1) := by decide +kernel
theorem dPL_enterIntoBooks_27 : decode cPL_enterIntoBooks 27 = .ok (.putfield 23, 3) := by decide +kernel
theorem dPL_enterIntoBooks_30 : decode cPL_enterIntoBooks 30 = .ok (.aload_n 1, 1) := by decide +kernel
theorem dPL_enterIntoBooks_31 : decode cPL_enterIntoBooks 31 = .ok (.invokevirtual 192, 3) := by decide +kernel
theorem dPL_enterIntoBooks_34 : decode cPL_enterIntoBooks 34 = .ok (.return_, 1) := by decide +kernel
theorem dPL_reverse_0 : decode cPL_reverse 0 = .ok (.aload_n 0, 1) := by decide +kernel
theorem dPL_reverse_1 : decode cPL_reverse 1 = .ok (.iload_n 1, 1) := by decide +kernel
theorem dPL_reverse_2 : decode cPL_reverse 2 = .ok (.invokevirtual 138, 3) := by decide +kernel
theorem dPL_reverse_5 : decode cPL_reverse 5 = .ok (.astore_n 2, 1) := by decide +kernel
theorem dPL_reverse_6 : decode cPL_reverse 6 = .ok (.aload_n 2, 1) := by decide +kernel
theorem dPL_reverse_7 : decode cPL_reverse 7 = .ok (.ifnull 10, 3) := by decide +kernel
theorem dPL_reverse_10 : decode cPL_reverse 10 = .ok (.aload_n 2, 1) := by decide +kernel
theorem dPL_reverse_11 : decode cPL_reverse 11 = .ok (.getfield 141, 3) := by decide +kernel
theorem dPL_reverse_14 : decode cPL_reverse 14 = .ok (.ifCond .eq 5, 3) := by decide +kernel
theorem dPL_reverse_17 : decode cPL_reverse 17 = .ok (.iconst 0, 1) := by decide +kernel
theorem dPL_reverse_18 : decode cPL_reverse 18 = .ok (.ireturn, 1) := by decide +kernel
theorem dPL_reverse_19 : decode cPL_reverse 19 = .ok (.aload_n 0, 1) := by decide +kernel
theorem dPL_reverse_20 : decode cPL_reverse 20 = .ok (.invokevirtual 53, 3) := by decide +kernel
theorem dPL_reverse_23 : decode cPL_reverse 23 = .ok (.ifCond .ne 6, 3) := by decide +kernel
theorem dPL_reverse_26 : decode cPL_reverse 26 = .ok (.ldc 35, 2) := by decide +kernel
theorem dPL_reverse_28 : decode cPL_reverse 28 = .ok (.ireturn, 1) := by decide +kernel
theorem dPL_reverse_29 : decode cPL_reverse 29 = .ok (.new 57, 3) := by decide +kernel
theorem dPL_reverse_32 : decode cPL_reverse 32 = .ok (.dup, 1) := by decide +kernel
theorem dPL_reverse_33 : decode cPL_reverse 33 = .ok (.aload_n 2, 1) := by decide +kernel
theorem dPL_reverse_34 : decode cPL_reverse 34 = .ok (.getfield 89, 3) := by decide +kernel
theorem dPL_reverse_37 : decode cPL_reverse 37 = .ok (.aload_n 0, 1) := by decide +kernel
theorem dPL_reverse_38 : decode cPL_reverse 38 = .ok (.getfield 19, 3) := by decide +kernel
theorem dPL_reverse_41 : decode cPL_reverse 41 = .ok (.invokestatic 145, 3) := by decide +kernel
theorem dPL_reverse_44 : decode cPL_reverse 44 = .ok (.invokespecial 59, 3) := by decide +kernel
theorem dPL_reverse_47 : decode cPL_reverse 47 = .ok (.astore_n 3, 1) := by decide +kernel
theorem dPL_reverse_48 : decode cPL_reverse 48 = .ok (.aload_n 3, 1) := by decide +kernel
theorem dPL_reverse_49 : decode cPL_reverse 49 = .ok (.aload_n 2, 1) := by decide +kernel
theorem dPL_reverse_50 : decode cPL_reverse 50 = .ok (.invokevirtual 151, 3) := by decide +kernel
theorem dPL_reverse_53 : decode cPL_reverse 53 = .ok (.aload_n 2, 1) := by decide +kernel
theorem dPL_reverse_54 : decode cPL_reverse 54 = .ok (.iconst 1, 1) := by decide +kernel
theorem dPL_reverse_55 : decode cPL_reverse 55 = .ok (.putfield 141, 3) := by decide +kernel
theorem dPL_reverse_58 : decode cPL_reverse 58 = .ok (.aload_n 3, 1) := by decide +kernel
theorem dPL_reverse_59 : decode cPL_reverse 59 = .ok (.iconst 1, 1) := by decide +kernel
theorem dPL_reverse_60 : decode cPL_reverse 60 = .ok (.putfield 141, 3) := by decide +kernel
theorem dPL_reverse_63 : decode cPL_reverse 63 = .ok (.aload_n 0, 1) := by decide +kernel
theorem dPL_reverse_64 : decode cPL_reverse 64 = .ok (.getfield 16, 3) := by decide +kernel
theorem dPL_reverse_67 : decode cPL_reverse 67 = .ok (.aload_n 3, 1) := by decide +kernel
theorem dPL_reverse_68 : decode cPL_reverse 68 = .ok (.invokevirtual 41, 3) := by decide +kernel
theorem dPL_reverse_71 : decode cPL_reverse 71 = .ok (.pop, 1) := by decide +kernel
theorem dPL_reverse_72 : decode cPL_reverse 72 = .ok (.aload_n 0, 1) := by decide +kernel
theorem dPL_reverse_73 : decode cPL_reverse 73 = .ok (.aload_n 3, 1) := by decide +kernel
theorem dPL_reverse_74 : decode cPL_reverse 74 = .ok (.invokevirtual 102, 3) := by decide +kernel
theorem dPL_reverse_77 : decode cPL_reverse 77 = .ok (.iconst 1, 1) := by decide +kernel
theorem dPL_reverse_78 : decode cPL_reverse 78 = .ok (.ireturn, 1) := by decide +kernel
theorem dAC_isOfKind_0 : decode cAC_isOfKind 0 = .ok (.aload_n 0, 1) := by decide +kernel
theorem dAC_isOfKind_1 : decode cAC_isOfKind 1 = .ok (.getfield 7, 3) := by decide +kernel
theorem dAC_isOfKind_4 : decode cAC_isOfKind 4 = .ok (.iload_n 1, 1) := by decide +kernel
theorem dAC_isOfKind_5 : decode cAC_isOfKind 5 = .ok (.if_icmp .ne 15, 3) := by decide +kernel
theorem dAC_isOfKind_8 : decode cAC_isOfKind 8 = .ok (.aload_n 0, 1) := by decide +kernel
theorem dAC_isOfKind_9 : decode cAC_isOfKind 9 = .ok (.getfield 13, 3) := by decide +kernel
theorem dAC_isOfKind_12 : decode cAC_isOfKind 12 = .ok (.iload_n 2, 1) := by decide +kernel
theorem dAC_isOfKind_13 : decode cAC_isOfKind 13 = .ok (.if_icmp .ne 7, 3) := by decide +kernel
theorem dAC_isOfKind_16 : decode cAC_isOfKind 16 = .ok (.iconst 1, 1) := by decide +kernel
theorem dAC_isOfKind_17 : decode cAC_isOfKind 17 = .ok (.goto 4, 3) := by decide +kernel
theorem dAC_isOfKind_20 : decode cAC_isOfKind 20 = .ok (.iconst 0, 1) := by decide +kernel
theorem dAC_isOfKind_21 : decode cAC_isOfKind 21 = .ok (.ireturn, 1) := by decide +kernel
theorem dPL_totalOfKind_0 : decode cPL_totalOfKind 0 = .ok (.lconst 0, 1) := by decide +kernel
theorem dPL_totalOfKind_1 : decode cPL_totalOfKind 1 = .ok (.lstore_n 3, 1) := by decide +kernel
theorem dPL_totalOfKind_2 : decode cPL_totalOfKind 2 = .ok (.iconst 0, 1) := by decide +kernel
theorem dPL_totalOfKind_3 : decode cPL_totalOfKind 3 = .ok (.istore 5, 2) := by decide +kernel
theorem dPL_totalOfKind_5 : decode cPL_totalOfKind 5 = .ok (.iload 5, 2) := by decide +kernel
theorem dPL_totalOfKind_7 : decode cPL_totalOfKind 7 = .ok (.aload_n 0, 1) := by decide +kernel
theorem dPL_totalOfKind_8 : decode cPL_totalOfKind 8 = .ok (.getfield 10, 3) := by decide +kernel
theorem dPL_totalOfKind_11 : decode cPL_totalOfKind 11 = .ok (.invokevirtual 31, 3) := by decide +kernel
theorem dPL_totalOfKind_14 : decode cPL_totalOfKind 14 = .ok (.if_icmp .ge 41, 3) := by decide +kernel
theorem dPL_totalOfKind_17 : decode cPL_totalOfKind 17 = .ok (.aload_n 0, 1) := by decide +kernel
theorem dPL_totalOfKind_18 : decode cPL_totalOfKind 18 = .ok (.getfield 10, 3) := by decide +kernel
theorem dPL_totalOfKind_21 : decode cPL_totalOfKind 21 = .ok (.iload 5, 2) := by decide +kernel
theorem dPL_totalOfKind_23 : decode cPL_totalOfKind 23 = .ok (.invokevirtual 127, 3) := by decide +kernel
theorem dPL_totalOfKind_26 : decode cPL_totalOfKind 26 = .ok (.checkcast 36, 3) := by decide +kernel
theorem dPL_totalOfKind_29 : decode cPL_totalOfKind 29 = .ok (.astore 6, 2) := by decide +kernel
theorem dPL_totalOfKind_31 : decode cPL_totalOfKind 31 = .ok (.aload 6, 2) := by decide +kernel
theorem dPL_totalOfKind_33 : decode cPL_totalOfKind 33 = .ok (.iload_n 1, 1) := by decide +kernel
theorem dPL_totalOfKind_34 : decode cPL_totalOfKind 34 = .ok (.iload_n 2, 1) := by decide +kernel
theorem dPL_totalOfKind_35 : decode cPL_totalOfKind 35 = .ok (.invokevirtual 185, 3) := by decide +kernel
theorem dPL_totalOfKind_38 : decode cPL_totalOfKind 38 = .ok (.ifCond .eq 11, 3) := by decide +kernel
theorem dPL_totalOfKind_41 : decode cPL_totalOfKind 41 = .ok (.lload_n 3, 1) := by decide +kernel
theorem dPL_totalOfKind_42 : decode cPL_totalOfKind 42 = .ok (.aload 6, 2) := by decide +kernel
theorem dPL_totalOfKind_44 : decode cPL_totalOfKind 44 = .ok (.getfield 176, 3) := by decide +kernel
theorem dPL_totalOfKind_47 : decode cPL_totalOfKind 47 = .ok (.ladd, 1) := by decide +kernel
theorem dPL_totalOfKind_48 : decode cPL_totalOfKind 48 = .ok (.lstore_n 3, 1) := by decide +kernel
theorem dPL_totalOfKind_49 : decode cPL_totalOfKind 49 = .ok (.iinc 5 1, 3) := by decide +kernel
theorem dPL_totalOfKind_52 : decode cPL_totalOfKind 52 = .ok (.goto (-47), 3) := by decide +kernel
theorem dPL_totalOfKind_55 : decode cPL_totalOfKind 55 = .ok (.lload_n 3, 1) := by decide +kernel
theorem dPL_totalOfKind_56 : decode cPL_totalOfKind 56 = .ok (.lreturn, 1) := by decide +kernel
theorem dPL_firstOfKind_0 : decode cPL_firstOfKind 0 = .ok (.iconst 0, 1) := by decide +kernel
theorem dPL_firstOfKind_1 : decode cPL_firstOfKind 1 = .ok (.istore_n 3, 1) := by decide +kernel
theorem dPL_firstOfKind_2 : decode cPL_firstOfKind 2 = .ok (.iload_n 3, 1) := by decide +kernel
theorem dPL_firstOfKind_3 : decode cPL_firstOfKind 3 = .ok (.aload_n 0, 1) := by decide +kernel
theorem dPL_firstOfKind_4 : decode cPL_firstOfKind 4 = .ok (.getfield 10, 3) := by decide +kernel
theorem dPL_firstOfKind_7 : decode cPL_firstOfKind 7 = .ok (.invokevirtual 31, 3) := by decide +kernel
theorem dPL_firstOfKind_10 : decode cPL_firstOfKind 10 = .ok (.if_icmp .ge 35, 3) := by decide +kernel
theorem dPL_firstOfKind_13 : decode cPL_firstOfKind 13 = .ok (.aload_n 0, 1) := by decide +kernel
theorem dPL_firstOfKind_14 : decode cPL_firstOfKind 14 = .ok (.getfield 10, 3) := by decide +kernel
theorem dPL_firstOfKind_17 : decode cPL_firstOfKind 17 = .ok (.iload_n 3, 1) := by decide +kernel
theorem dPL_firstOfKind_18 : decode cPL_firstOfKind 18 = .ok (.invokevirtual 127, 3) := by decide +kernel
theorem dPL_firstOfKind_21 : decode cPL_firstOfKind 21 = .ok (.checkcast 36, 3) := by decide +kernel
theorem dPL_firstOfKind_24 : decode cPL_firstOfKind 24 = .ok (.astore 4, 2) := by decide +kernel
theorem dPL_firstOfKind_26 : decode cPL_firstOfKind 26 = .ok (.aload 4, 2) := by decide +kernel
theorem dPL_firstOfKind_28 : decode cPL_firstOfKind 28 = .ok (.iload_n 1, 1) := by decide +kernel
theorem dPL_firstOfKind_29 : decode cPL_firstOfKind 29 = .ok (.iload_n 2, 1) := by decide +kernel
theorem dPL_firstOfKind_30 : decode cPL_firstOfKind 30 = .ok (.invokevirtual 185, 3) := by decide +kernel
theorem dPL_firstOfKind_33 : decode cPL_firstOfKind 33 = .ok (.ifCond .eq 6, 3) := by decide +kernel
theorem dPL_firstOfKind_36 : decode cPL_firstOfKind 36 = .ok (.aload 4, 2) := by decide +kernel
theorem dPL_firstOfKind_38 : decode cPL_firstOfKind 38 = .ok (.areturn, 1) := by decide +kernel
theorem dPL_firstOfKind_39 : decode cPL_firstOfKind 39 = .ok (.iinc 3 1, 3) := by decide +kernel
theorem dPL_firstOfKind_42 : decode cPL_firstOfKind 42 = .ok (.goto (-40), 3) := by decide +kernel
theorem dPL_firstOfKind_45 : decode cPL_firstOfKind 45 = .ok (.aconst_null, 1) := by decide +kernel
theorem dPL_firstOfKind_46 : decode cPL_firstOfKind 46 = .ok (.areturn, 1) := by decide +kernel
theorem dPL_stock_0 : decode cPL_stock 0 = .ok (.iload_n 1, 1) := by decide +kernel
theorem dPL_stock_1 : decode cPL_stock 1 = .ok (.invokestatic 26, 3) := by decide +kernel
theorem dPL_stock_4 : decode cPL_stock 4 = .ok (.ifCond .eq 25, 3) := by decide +kernel
theorem dPL_stock_7 : decode cPL_stock 7 = .ok (.iload_n 2, 1) := by decide +kernel
theorem dPL_stock_8 : decode cPL_stock 8 = .ok (.ifCond .lt 21, 3) := by decide +kernel
theorem dPL_stock_11 : decode cPL_stock 11 = .ok (.iload_n 2, 1) := by decide +kernel
theorem dPL_stock_12 : decode cPL_stock 12 = .ok (.iconst 5, 1) := by decide +kernel
theorem dPL_stock_13 : decode cPL_stock 13 = .ok (.if_icmp .ge 16, 3) := by decide +kernel
theorem dPL_stock_16 : decode cPL_stock 16 = .ok (.lload_n 3, 1) := by decide +kernel
theorem dPL_stock_17 : decode cPL_stock 17 = .ok (.ldc2_w 76, 3) := by decide +kernel
theorem dPL_stock_20 : decode cPL_stock 20 = .ok (.ldc2_w 78, 3) := by decide +kernel
theorem dPL_stock_23 : decode cPL_stock 23 = .ok (.invokestatic 80, 3) := by decide +kernel
theorem dPL_stock_26 : decode cPL_stock 26 = .ok (.ifCond .ne 6, 3) := by decide +kernel
theorem dPL_stock_29 : decode cPL_stock 29 = .ok (.ldc 30, 2) := by decide +kernel
theorem dPL_stock_31 : decode cPL_stock 31 = .ok (.ireturn, 1) := by decide +kernel
theorem dPL_stock_32 : decode cPL_stock 32 = .ok (.lload_n 3, 1) := by decide +kernel
theorem dPL_stock_33 : decode cPL_stock 33 = .ok (.aload_n 0, 1) := by decide +kernel
theorem dPL_stock_34 : decode cPL_stock 34 = .ok (.iload_n 1, 1) := by decide +kernel
theorem dPL_stock_35 : decode cPL_stock 35 = .ok (.iload_n 2, 1) := by decide +kernel
theorem dPL_stock_36 : decode cPL_stock 36 = .ok (.invokevirtual 154, 3) := by decide +kernel
theorem dPL_stock_39 : decode cPL_stock 39 = .ok (.lsub, 1) := by decide +kernel
theorem dPL_stock_40 : decode cPL_stock 40 = .ok (.lstore 5, 2) := by decide +kernel
theorem dPL_stock_42 : decode cPL_stock 42 = .ok (.lload 5, 2) := by decide +kernel
theorem dPL_stock_44 : decode cPL_stock 44 = .ok (.lconst 0, 1) := by decide +kernel
theorem dPL_stock_45 : decode cPL_stock 45 = .ok (.lcmp, 1) := by decide +kernel
theorem dPL_stock_46 : decode cPL_stock 46 = .ok (.ifCond .ne 5, 3) := by decide +kernel
theorem dPL_stock_49 : decode cPL_stock 49 = .ok (.iconst 0, 1) := by decide +kernel
theorem dPL_stock_50 : decode cPL_stock 50 = .ok (.ireturn, 1) := by decide +kernel
theorem dPL_stock_51 : decode cPL_stock 51 = .ok (.aload_n 0, 1) := by decide +kernel
theorem dPL_stock_52 : decode cPL_stock 52 = .ok (.iload_n 1, 1) := by decide +kernel
theorem dPL_stock_53 : decode cPL_stock 53 = .ok (.iload_n 2, 1) := by decide +kernel
theorem dPL_stock_54 : decode cPL_stock 54 = .ok (.invokevirtual 158, 3) := by decide +kernel
theorem dPL_stock_57 : decode cPL_stock 57 = .ok (.astore 7, 2) := by decide +kernel
theorem dPL_stock_59 : decode cPL_stock 59 = .ok (.aload_n 0, 1) := by decide +kernel
theorem dPL_stock_60 : decode cPL_stock 60 = .ok (.iload_n 1, 1) := by decide +kernel
theorem dPL_stock_61 : decode cPL_stock 61 = .ok (.iconst 5, 1) := by decide +kernel
theorem dPL_stock_62 : decode cPL_stock 62 = .ok (.invokevirtual 158, 3) := by decide +kernel
theorem dPL_stock_65 : decode cPL_stock 65 = .ok (.astore 8, 2) := by decide +kernel
theorem dPL_stock_67 : decode cPL_stock 67 = .ok (.aload 7, 2) := by decide +kernel
theorem dPL_stock_69 : decode cPL_stock 69 = .ok (.ifnull 22, 3) := by decide +kernel
theorem dPL_stock_72 : decode cPL_stock 72 = .ok (.aload 8, 2) := by decide +kernel
theorem dPL_stock_74 : decode cPL_stock 74 = .ok (.ifnull 17, 3) := by decide +kernel
theorem dPL_stock_77 : decode cPL_stock 77 = .ok (.lload 5, 2) := by decide +kernel
theorem dPL_stock_79 : decode cPL_stock 79 = .ok (.ldc2_w 162, 3) := by decide +kernel
theorem dPL_stock_82 : decode cPL_stock 82 = .ok (.ldc2_w 164, 3) := by decide +kernel
theorem dPL_stock_85 : decode cPL_stock 85 = .ok (.invokestatic 80, 3) := by decide +kernel
theorem dPL_stock_88 : decode cPL_stock 88 = .ok (.ifCond .ne 6, 3) := by decide +kernel
theorem dPL_stock_91 : decode cPL_stock 91 = .ok (.ldc 52, 2) := by decide +kernel
theorem dPL_stock_93 : decode cPL_stock 93 = .ok (.ireturn, 1) := by decide +kernel
theorem dPL_stock_94 : decode cPL_stock 94 = .ok (.aload_n 0, 1) := by decide +kernel
theorem dPL_stock_95 : decode cPL_stock 95 = .ok (.invokevirtual 53, 3) := by decide +kernel
theorem dPL_stock_98 : decode cPL_stock 98 = .ok (.ifCond .ne 6, 3) := by decide +kernel
theorem dPL_stock_101 : decode cPL_stock 101 = .ok (.ldc 35, 2) := by decide +kernel
theorem dPL_stock_103 : decode cPL_stock 103 = .ok (.ireturn, 1) := by decide +kernel
theorem dPL_stock_104 : decode cPL_stock 104 = .ok (.new 57, 3) := by decide +kernel
theorem dPL_stock_107 : decode cPL_stock 107 = .ok (.dup, 1) := by decide +kernel
theorem dPL_stock_108 : decode cPL_stock 108 = .ok (.aload_n 0, 1) := by decide +kernel
theorem dPL_stock_109 : decode cPL_stock 109 = .ok (.getfield 19, 3) := by decide +kernel
theorem dPL_stock_112 : decode cPL_stock 112 = .ok (.invokespecial 59, 3) := by decide +kernel
theorem dPL_stock_115 : decode cPL_stock 115 = .ok (.astore 9, 2) := by decide +kernel
theorem dPL_stock_117 : decode cPL_stock 117 = .ok (.aload 9, 2) := by decide +kernel
theorem dPL_stock_119 : decode cPL_stock 119 = .ok (.aload 7, 2) := by decide +kernel
theorem dPL_stock_121 : decode cPL_stock 121 = .ok (.lload 5, 2) := by decide +kernel
theorem dPL_stock_123 : decode cPL_stock 123 = .ok (.invokevirtual 84, 3) := by decide +kernel
theorem dPL_stock_126 : decode cPL_stock 126 = .ok (.aload 9, 2) := by decide +kernel
theorem dPL_stock_128 : decode cPL_stock 128 = .ok (.aload 8, 2) := by decide +kernel
theorem dPL_stock_130 : decode cPL_stock 130 = .ok (.lload 5, 2) := by decide +kernel
theorem dPL_stock_132 : decode cPL_stock 132 = .ok (.lneg, 1) := by decide +kernel
theorem dPL_stock_133 : decode cPL_stock 133 = .ok (.invokevirtual 84, 3) := by decide +kernel
theorem dPL_stock_136 : decode cPL_stock 136 = .ok (.aload_n 0, 1) := by decide +kernel
theorem dPL_stock_137 : decode cPL_stock 137 = .ok (.getfield 16, 3) := by decide +kernel
theorem dPL_stock_140 : decode cPL_stock 140 = .ok (.aload 9, 2) := by decide +kernel
theorem dPL_stock_142 : decode cPL_stock 142 = .ok (.invokevirtual 41, 3) := by decide +kernel
theorem dPL_stock_145 : decode cPL_stock 145 = .ok (.pop, 1) := by decide +kernel
theorem dPL_stock_146 : decode cPL_stock 146 = .ok (.aload_n 0, 1) := by decide +kernel
theorem dPL_stock_147 : decode cPL_stock 147 = .ok (.aload 9, 2) := by decide +kernel
theorem dPL_stock_149 : decode cPL_stock 149 = .ok (.invokevirtual 102, 3) := by decide +kernel
theorem dPL_stock_152 : decode cPL_stock 152 = .ok (.lload 5, 2) := by decide +kernel
theorem dPL_stock_154 : decode cPL_stock 154 = .ok (.l2i, 1) := by decide +kernel
theorem dPL_stock_155 : decode cPL_stock 155 = .ok (.ireturn, 1) := by decide +kernel
theorem dPL_limit_0 : decode cPL_limit 0 = .ok (.aload_n 0, 1) := by decide +kernel
theorem dPL_limit_1 : decode cPL_limit 1 = .ok (.iload_n 1, 1) := by decide +kernel
theorem dPL_limit_2 : decode cPL_limit 2 = .ok (.invokevirtual 66, 3) := by decide +kernel
theorem dPL_limit_5 : decode cPL_limit 5 = .ok (.astore 4, 2) := by decide +kernel
theorem dPL_limit_7 : decode cPL_limit 7 = .ok (.aload 4, 2) := by decide +kernel
theorem dPL_limit_9 : decode cPL_limit 9 = .ok (.ifnonnull 6, 3) := by decide +kernel
theorem dPL_limit_12 : decode cPL_limit 12 = .ok (.ldc 88, 2) := by decide +kernel
theorem dPL_limit_14 : decode cPL_limit 14 = .ok (.ireturn, 1) := by decide +kernel
theorem dPL_limit_15 : decode cPL_limit 15 = .ok (.lload_n 2, 1) := by decide +kernel
theorem dPL_limit_16 : decode cPL_limit 16 = .ok (.lconst 0, 1) := by decide +kernel
theorem dPL_limit_17 : decode cPL_limit 17 = .ok (.ldc2_w 78, 3) := by decide +kernel
theorem dPL_limit_20 : decode cPL_limit 20 = .ok (.invokestatic 80, 3) := by decide +kernel
theorem dPL_limit_23 : decode cPL_limit 23 = .ok (.ifCond .ne 6, 3) := by decide +kernel
theorem dPL_limit_26 : decode cPL_limit 26 = .ok (.ldc 30, 2) := by decide +kernel
theorem dPL_limit_28 : decode cPL_limit 28 = .ok (.ireturn, 1) := by decide +kernel
theorem dPL_limit_29 : decode cPL_limit 29 = .ok (.aload 4, 2) := by decide +kernel
theorem dPL_limit_31 : decode cPL_limit 31 = .ok (.getfield 166, 3) := by decide +kernel
theorem dPL_limit_34 : decode cPL_limit 34 = .ok (.istore 5, 2) := by decide +kernel
theorem dPL_limit_36 : decode cPL_limit 36 = .ok (.aload 4, 2) := by decide +kernel
theorem dPL_limit_38 : decode cPL_limit 38 = .ok (.lload_n 2, 1) := by decide +kernel
theorem dPL_limit_39 : decode cPL_limit 39 = .ok (.l2i, 1) := by decide +kernel
theorem dPL_limit_40 : decode cPL_limit 40 = .ok (.putfield 166, 3) := by decide +kernel
theorem dPL_limit_43 : decode cPL_limit 43 = .ok (.iload 5, 2) := by decide +kernel
theorem dPL_limit_45 : decode cPL_limit 45 = .ok (.ireturn, 1) := by decide +kernel
theorem dPL_fails_0 : decode cPL_fails 0 = .ok (.aload_n 0, 1) := by decide +kernel
theorem dPL_fails_1 : decode cPL_fails 1 = .ok (.iload_n 1, 1) := by decide +kernel
theorem dPL_fails_2 : decode cPL_fails 2 = .ok (.invokevirtual 62, 3) := by decide +kernel
theorem dPL_fails_5 : decode cPL_fails 5 = .ok (.astore_n 3, 1) := by decide +kernel
theorem dPL_fails_6 : decode cPL_fails 6 = .ok (.aload_n 3, 1) := by decide +kernel
theorem dPL_fails_7 : decode cPL_fails 7 = .ok (.ifnull 18, 3) := by decide +kernel
theorem dPL_fails_10 : decode cPL_fails 10 = .ok (.aload_n 3, 1) := by decide +kernel
theorem dPL_fails_11 : decode cPL_fails 11 = .ok (.invokevirtual 70, 3) := by decide +kernel
theorem dPL_fails_14 : decode cPL_fails 14 = .ok (.ifCond .eq 11, 3) := by decide +kernel
theorem dPL_fails_17 : decode cPL_fails 17 = .ok (.aload_n 3, 1) := by decide +kernel
theorem dPL_fails_18 : decode cPL_fails 18 = .ok (.getfield 169, 3) := by decide +kernel
theorem dPL_fails_21 : decode cPL_fails 21 = .ok (.iload_n 2, 1) := by decide +kernel
theorem dPL_fails_22 : decode cPL_fails 22 = .ok (.if_icmp .ne 5, 3) := by decide +kernel
theorem dPL_fails_25 : decode cPL_fails 25 = .ok (.iconst 0, 1) := by decide +kernel
theorem dPL_fails_26 : decode cPL_fails 26 = .ok (.ireturn, 1) := by decide +kernel
theorem dPL_fails_27 : decode cPL_fails 27 = .ok (.aload_n 3, 1) := by decide +kernel
theorem dPL_fails_28 : decode cPL_fails 28 = .ok (.iload_n 2, 1) := by decide +kernel
theorem dPL_fails_29 : decode cPL_fails 29 = .ok (.putfield 169, 3) := by decide +kernel
theorem dPL_fails_32 : decode cPL_fails 32 = .ok (.iconst 1, 1) := by decide +kernel
theorem dPL_fails_33 : decode cPL_fails 33 = .ok (.ireturn, 1) := by decide +kernel
theorem dBA_takenFromAccount_0 : decode cBA_takenFromAccount 0 = .ok (.lconst 0, 1) := by decide +kernel
theorem dBA_takenFromAccount_1 : decode cBA_takenFromAccount 1 = .ok (.lstore_n 2, 1) := by decide +kernel
theorem dBA_takenFromAccount_2 : decode cBA_takenFromAccount 2 = .ok (.iconst 0, 1) := by decide +kernel
theorem dBA_takenFromAccount_3 : decode cBA_takenFromAccount 3 = .ok (.istore 4, 2) := by decide +kernel
theorem dBA_takenFromAccount_5 : decode cBA_takenFromAccount 5 = .ok (.iload 4, 2) := by decide +kernel
theorem dBA_takenFromAccount_7 : decode cBA_takenFromAccount 7 = .ok (.aload_n 0, 1) := by decide +kernel
theorem dBA_takenFromAccount_8 : decode cBA_takenFromAccount 8 = .ok (.getfield 18, 3) := by decide +kernel
theorem dBA_takenFromAccount_11 : decode cBA_takenFromAccount 11 = .ok (.invokevirtual 31, 3) := by decide +kernel
theorem dBA_takenFromAccount_14 : decode cBA_takenFromAccount 14 = .ok (.if_icmp .ge 50, 3) := by decide +kernel
theorem dBA_takenFromAccount_17 : decode cBA_takenFromAccount 17 = .ok (.aload_n 0, 1) := by decide +kernel
theorem dBA_takenFromAccount_18 : decode cBA_takenFromAccount 18 = .ok (.getfield 18, 3) := by decide +kernel
theorem dBA_takenFromAccount_21 : decode cBA_takenFromAccount 21 = .ok (.iload 4, 2) := by decide +kernel
theorem dBA_takenFromAccount_23 : decode cBA_takenFromAccount 23 = .ok (.invokevirtual 47, 3) := by decide +kernel
theorem dBA_takenFromAccount_26 : decode cBA_takenFromAccount 26 = .ok (.checkcast 38, 3) := by decide +kernel
theorem dBA_takenFromAccount_29 : decode cBA_takenFromAccount 29 = .ok (.astore 5, 2) := by decide +kernel
theorem dBA_takenFromAccount_31 : decode cBA_takenFromAccount 31 = .ok (.aload 5, 2) := by decide +kernel
theorem dBA_takenFromAccount_33 : decode cBA_takenFromAccount 33 = .ok (.getfield 51, 3) := by decide +kernel
theorem dBA_takenFromAccount_36 : decode cBA_takenFromAccount 36 = .ok (.aload_n 1, 1) := by decide +kernel
theorem dBA_takenFromAccount_37 : decode cBA_takenFromAccount 37 = .ok (.if_acmp .ne 21, 3) := by decide +kernel
theorem dBA_takenFromAccount_40 : decode cBA_takenFromAccount 40 = .ok (.aload 5, 2) := by decide +kernel
theorem dBA_takenFromAccount_42 : decode cBA_takenFromAccount 42 = .ok (.getfield 55, 3) := by decide +kernel
theorem dBA_takenFromAccount_45 : decode cBA_takenFromAccount 45 = .ok (.lconst 0, 1) := by decide +kernel
theorem dBA_takenFromAccount_46 : decode cBA_takenFromAccount 46 = .ok (.lcmp, 1) := by decide +kernel
theorem dBA_takenFromAccount_47 : decode cBA_takenFromAccount 47 = .ok (.ifCond .ge 11, 3) := by decide +kernel
theorem dBA_takenFromAccount_50 : decode cBA_takenFromAccount 50 = .ok (.lload_n 2, 1) := by decide +kernel
theorem dBA_takenFromAccount_51 : decode cBA_takenFromAccount 51 = .ok (.aload 5, 2) := by decide +kernel
theorem dBA_takenFromAccount_53 : decode cBA_takenFromAccount 53 = .ok (.getfield 55, 3) := by decide +kernel
theorem dBA_takenFromAccount_56 : decode cBA_takenFromAccount 56 = .ok (.lsub, 1) := by decide +kernel
theorem dBA_takenFromAccount_57 : decode cBA_takenFromAccount 57 = .ok (.lstore_n 2, 1) := by decide +kernel
theorem dBA_takenFromAccount_58 : decode cBA_takenFromAccount 58 = .ok (.iinc 4 1, 3) := by decide +kernel
theorem dBA_takenFromAccount_61 : decode cBA_takenFromAccount 61 = .ok (.goto (-56), 3) := by decide +kernel
theorem dBA_takenFromAccount_64 : decode cBA_takenFromAccount 64 = .ok (.lload_n 2, 1) := by decide +kernel
theorem dBA_takenFromAccount_65 : decode cBA_takenFromAccount 65 = .ok (.lreturn, 1) := by decide +kernel
theorem dPL_hold_0 : decode cPL_hold 0 = .ok (.aload_n 0, 1) := by decide +kernel
theorem dPL_hold_1 : decode cPL_hold 1 = .ok (.iload_n 1, 1) := by decide +kernel
theorem dPL_hold_2 : decode cPL_hold 2 = .ok (.invokevirtual 66, 3) := by decide +kernel
theorem dPL_hold_5 : decode cPL_hold 5 = .ok (.astore_n 2, 1) := by decide +kernel
theorem dPL_hold_6 : decode cPL_hold 6 = .ok (.aload_n 2, 1) := by decide +kernel
theorem dPL_hold_7 : decode cPL_hold 7 = .ok (.ifnonnull 7, 3) := by decide +kernel
theorem dPL_hold_10 : decode cPL_hold 10 = .ok (.ldc2_w 125, 3) := by decide +kernel
theorem dPL_hold_13 : decode cPL_hold 13 = .ok (.lreturn, 1) := by decide +kernel
theorem dPL_hold_14 : decode cPL_hold 14 = .ok (.lconst 0, 1) := by decide +kernel
theorem dPL_hold_15 : decode cPL_hold 15 = .ok (.lstore_n 3, 1) := by decide +kernel
theorem dPL_hold_16 : decode cPL_hold 16 = .ok (.iconst 0, 1) := by decide +kernel
theorem dPL_hold_17 : decode cPL_hold 17 = .ok (.istore 5, 2) := by decide +kernel
theorem dPL_hold_19 : decode cPL_hold 19 = .ok (.iload 5, 2) := by decide +kernel
theorem dPL_hold_21 : decode cPL_hold 21 = .ok (.aload_n 0, 1) := by decide +kernel
theorem dPL_hold_22 : decode cPL_hold 22 = .ok (.getfield 16, 3) := by decide +kernel
theorem dPL_hold_25 : decode cPL_hold 25 = .ok (.invokevirtual 31, 3) := by decide +kernel
theorem dPL_hold_28 : decode cPL_hold 28 = .ok (.if_icmp .ge 40, 3) := by decide +kernel
theorem dPL_hold_31 : decode cPL_hold 31 = .ok (.aload_n 0, 1) := by decide +kernel
theorem dPL_hold_32 : decode cPL_hold 32 = .ok (.getfield 16, 3) := by decide +kernel
theorem dPL_hold_35 : decode cPL_hold 35 = .ok (.iload 5, 2) := by decide +kernel
theorem dPL_hold_37 : decode cPL_hold 37 = .ok (.invokevirtual 127, 3) := by decide +kernel
theorem dPL_hold_40 : decode cPL_hold 40 = .ok (.checkcast 57, 3) := by decide +kernel
theorem dPL_hold_43 : decode cPL_hold 43 = .ok (.astore 6, 2) := by decide +kernel
theorem dPL_hold_45 : decode cPL_hold 45 = .ok (.aload 6, 2) := by decide +kernel
theorem dPL_hold_47 : decode cPL_hold 47 = .ok (.invokevirtual 70, 3) := by decide +kernel
theorem dPL_hold_50 : decode cPL_hold 50 = .ok (.ifCond .eq 12, 3) := by decide +kernel
theorem dPL_hold_53 : decode cPL_hold 53 = .ok (.lload_n 3, 1) := by decide +kernel
theorem dPL_hold_54 : decode cPL_hold 54 = .ok (.aload 6, 2) := by decide +kernel
theorem dPL_hold_56 : decode cPL_hold 56 = .ok (.aload_n 2, 1) := by decide +kernel
theorem dPL_hold_57 : decode cPL_hold 57 = .ok (.invokevirtual 172, 3) := by decide +kernel
theorem dPL_hold_60 : decode cPL_hold 60 = .ok (.ladd, 1) := by decide +kernel
theorem dPL_hold_61 : decode cPL_hold 61 = .ok (.lstore_n 3, 1) := by decide +kernel
theorem dPL_hold_62 : decode cPL_hold 62 = .ok (.iinc 5 1, 3) := by decide +kernel
theorem dPL_hold_65 : decode cPL_hold 65 = .ok (.goto (-46), 3) := by decide +kernel
theorem dPL_hold_68 : decode cPL_hold 68 = .ok (.lload_n 3, 1) := by decide +kernel
theorem dPL_hold_69 : decode cPL_hold 69 = .ok (.lreturn, 1) := by decide +kernel
theorem dPL_rows_0 : decode cPL_rows 0 = .ok (.aload_n 0, 1) := by decide +kernel
theorem dPL_rows_1 : decode cPL_rows 1 = .ok (.getfield 23, 3) := by decide +kernel
theorem dPL_rows_4 : decode cPL_rows 4 = .ok (.ireturn, 1) := by decide +kernel
theorem dPL_all_0 : decode cPL_all 0 = .ok (.lconst 0, 1) := by decide +kernel
theorem dPL_all_1 : decode cPL_all 1 = .ok (.lstore_n 1, 1) := by decide +kernel
theorem dPL_all_2 : decode cPL_all 2 = .ok (.iconst 0, 1) := by decide +kernel
theorem dPL_all_3 : decode cPL_all 3 = .ok (.istore_n 3, 1) := by decide +kernel
theorem dPL_all_4 : decode cPL_all 4 = .ok (.iload_n 3, 1) := by decide +kernel
theorem dPL_all_5 : decode cPL_all 5 = .ok (.aload_n 0, 1) := by decide +kernel
theorem dPL_all_6 : decode cPL_all 6 = .ok (.getfield 10, 3) := by decide +kernel
theorem dPL_all_9 : decode cPL_all 9 = .ok (.invokevirtual 31, 3) := by decide +kernel
theorem dPL_all_12 : decode cPL_all 12 = .ok (.if_icmp .ge 26, 3) := by decide +kernel
theorem dPL_all_15 : decode cPL_all 15 = .ok (.lload_n 1, 1) := by decide +kernel
theorem dPL_all_16 : decode cPL_all 16 = .ok (.aload_n 0, 1) := by decide +kernel
theorem dPL_all_17 : decode cPL_all 17 = .ok (.getfield 10, 3) := by decide +kernel
theorem dPL_all_20 : decode cPL_all 20 = .ok (.iload_n 3, 1) := by decide +kernel
theorem dPL_all_21 : decode cPL_all 21 = .ok (.invokevirtual 127, 3) := by decide +kernel
theorem dPL_all_24 : decode cPL_all 24 = .ok (.checkcast 36, 3) := by decide +kernel
theorem dPL_all_27 : decode cPL_all 27 = .ok (.getfield 176, 3) := by decide +kernel
theorem dPL_all_30 : decode cPL_all 30 = .ok (.ladd, 1) := by decide +kernel
theorem dPL_all_31 : decode cPL_all 31 = .ok (.lstore_n 1, 1) := by decide +kernel
theorem dPL_all_32 : decode cPL_all 32 = .ok (.iinc 3 1, 3) := by decide +kernel
theorem dPL_all_35 : decode cPL_all 35 = .ok (.goto (-31), 3) := by decide +kernel
theorem dPL_all_38 : decode cPL_all 38 = .ok (.lload_n 1, 1) := by decide +kernel
theorem dPL_all_39 : decode cPL_all 39 = .ok (.lreturn, 1) := by decide +kernel
theorem dBA_sumOfRows_0 : decode cBA_sumOfRows 0 = .ok (.lconst 0, 1) := by decide +kernel
theorem dBA_sumOfRows_1 : decode cBA_sumOfRows 1 = .ok (.lstore_n 1, 1) := by decide +kernel
theorem dBA_sumOfRows_2 : decode cBA_sumOfRows 2 = .ok (.iconst 0, 1) := by decide +kernel
theorem dBA_sumOfRows_3 : decode cBA_sumOfRows 3 = .ok (.istore_n 3, 1) := by decide +kernel
theorem dBA_sumOfRows_4 : decode cBA_sumOfRows 4 = .ok (.iload_n 3, 1) := by decide +kernel
theorem dBA_sumOfRows_5 : decode cBA_sumOfRows 5 = .ok (.aload_n 0, 1) := by decide +kernel
theorem dBA_sumOfRows_6 : decode cBA_sumOfRows 6 = .ok (.getfield 18, 3) := by decide +kernel
theorem dBA_sumOfRows_9 : decode cBA_sumOfRows 9 = .ok (.invokevirtual 31, 3) := by decide +kernel
theorem dBA_sumOfRows_12 : decode cBA_sumOfRows 12 = .ok (.if_icmp .ge 26, 3) := by decide +kernel
theorem dBA_sumOfRows_15 : decode cBA_sumOfRows 15 = .ok (.lload_n 1, 1) := by decide +kernel
theorem dBA_sumOfRows_16 : decode cBA_sumOfRows 16 = .ok (.aload_n 0, 1) := by decide +kernel
theorem dBA_sumOfRows_17 : decode cBA_sumOfRows 17 = .ok (.getfield 18, 3) := by decide +kernel
theorem dBA_sumOfRows_20 : decode cBA_sumOfRows 20 = .ok (.iload_n 3, 1) := by decide +kernel
theorem dBA_sumOfRows_21 : decode cBA_sumOfRows 21 = .ok (.invokevirtual 47, 3) := by decide +kernel
theorem dBA_sumOfRows_24 : decode cBA_sumOfRows 24 = .ok (.checkcast 38, 3) := by decide +kernel
theorem dBA_sumOfRows_27 : decode cBA_sumOfRows 27 = .ok (.getfield 55, 3) := by decide +kernel
theorem dBA_sumOfRows_30 : decode cBA_sumOfRows 30 = .ok (.ladd, 1) := by decide +kernel
theorem dBA_sumOfRows_31 : decode cBA_sumOfRows 31 = .ok (.lstore_n 1, 1) := by decide +kernel
theorem dBA_sumOfRows_32 : decode cBA_sumOfRows 32 = .ok (.iinc 3 1, 3) := by decide +kernel
theorem dBA_sumOfRows_35 : decode cBA_sumOfRows 35 = .ok (.goto (-31), 3) := by decide +kernel
theorem dBA_sumOfRows_38 : decode cBA_sumOfRows 38 = .ok (.lload_n 1, 1) := by decide +kernel
theorem dBA_sumOfRows_39 : decode cBA_sumOfRows 39 = .ok (.lreturn, 1) := by decide +kernel
theorem dRW_takesFromCustomer_0 : decode cRW_takesFromCustomer 0 = .ok (.aload_n 0, 1) := by decide +kernel
theorem dRW_takesFromCustomer_1 : decode cRW_takesFromCustomer 1 = .ok (.getfield 15, 3) := by decide +kernel
theorem dRW_takesFromCustomer_4 : decode cRW_takesFromCustomer 4 = .ok (.lconst 0, 1) := by decide +kernel
theorem dRW_takesFromCustomer_5 : decode cRW_takesFromCustomer 5 = .ok (.lcmp, 1) := by decide +kernel
theorem dRW_takesFromCustomer_6 : decode cRW_takesFromCustomer 6 = .ok (.ifCond .ge 18, 3) := by decide +kernel
theorem dRW_takesFromCustomer_9 : decode cRW_takesFromCustomer 9 = .ok (.aload_n 0, 1) := by decide +kernel
theorem dRW_takesFromCustomer_10 : decode cRW_takesFromCustomer 10 = .ok (.getfield 9, 3) := by decide +kernel
theorem dRW_takesFromCustomer_13 : decode cRW_takesFromCustomer 13 = .ok (.getfield 19, 3) := by decide +kernel
theorem dRW_takesFromCustomer_16 : decode cRW_takesFromCustomer 16 = .ok (.iconst 3, 1) := by decide +kernel
theorem dRW_takesFromCustomer_17 : decode cRW_takesFromCustomer 17 = .ok (.if_icmp .ne 7, 3) := by decide +kernel
theorem dRW_takesFromCustomer_20 : decode cRW_takesFromCustomer 20 = .ok (.iconst 1, 1) := by decide +kernel
theorem dRW_takesFromCustomer_21 : decode cRW_takesFromCustomer 21 = .ok (.goto 4, 3) := by decide +kernel
theorem dRW_takesFromCustomer_24 : decode cRW_takesFromCustomer 24 = .ok (.iconst 0, 1) := by decide +kernel
theorem dRW_takesFromCustomer_25 : decode cRW_takesFromCustomer 25 = .ok (.ireturn, 1) := by decide +kernel
theorem dBA_breaksLimit_0 : decode cBA_breaksLimit 0 = .ok (.aload_n 1, 1) := by decide +kernel
theorem dBA_breaksLimit_1 : decode cBA_breaksLimit 1 = .ok (.getfield 51, 3) := by decide +kernel
theorem dBA_breaksLimit_4 : decode cBA_breaksLimit 4 = .ok (.astore_n 3, 1) := by decide +kernel
theorem dBA_breaksLimit_5 : decode cBA_breaksLimit 5 = .ok (.aload_n 1, 1) := by decide +kernel
theorem dBA_breaksLimit_6 : decode cBA_breaksLimit 6 = .ok (.invokevirtual 95, 3) := by decide +kernel
theorem dBA_breaksLimit_9 : decode cBA_breaksLimit 9 = .ok (.ifCond .eq 28, 3) := by decide +kernel
theorem dBA_breaksLimit_12 : decode cBA_breaksLimit 12 = .ok (.aload_n 3, 1) := by decide +kernel
theorem dBA_breaksLimit_13 : decode cBA_breaksLimit 13 = .ok (.getfield 62, 3) := by decide +kernel
theorem dBA_breaksLimit_16 : decode cBA_breaksLimit 16 = .ok (.aload_n 0, 1) := by decide +kernel
theorem dBA_breaksLimit_17 : decode cBA_breaksLimit 17 = .ok (.aload_n 3, 1) := by decide +kernel
theorem dBA_breaksLimit_18 : decode cBA_breaksLimit 18 = .ok (.iload_n 2, 1) := by decide +kernel
theorem dBA_breaksLimit_19 : decode cBA_breaksLimit 19 = .ok (.invokevirtual 98, 3) := by decide +kernel
theorem dBA_breaksLimit_22 : decode cBA_breaksLimit 22 = .ok (.ladd, 1) := by decide +kernel
theorem dBA_breaksLimit_23 : decode cBA_breaksLimit 23 = .ok (.aload_n 3, 1) := by decide +kernel
theorem dBA_breaksLimit_24 : decode cBA_breaksLimit 24 = .ok (.getfield 102, 3) := by decide +kernel
theorem dBA_breaksLimit_27 : decode cBA_breaksLimit 27 = .ok (.ineg, 1) := by decide +kernel
theorem dBA_breaksLimit_28 : decode cBA_breaksLimit 28 = .ok (.i2l, 1) := by decide +kernel
theorem dBA_breaksLimit_29 : decode cBA_breaksLimit 29 = .ok (.lcmp, 1) := by decide +kernel
theorem dBA_breaksLimit_30 : decode cBA_breaksLimit 30 = .ok (.ifCond .ge 7, 3) := by decide +kernel
theorem dBA_breaksLimit_33 : decode cBA_breaksLimit 33 = .ok (.iconst 1, 1) := by decide +kernel
theorem dBA_breaksLimit_34 : decode cBA_breaksLimit 34 = .ok (.goto 4, 3) := by decide +kernel
theorem dBA_breaksLimit_37 : decode cBA_breaksLimit 37 = .ok (.iconst 0, 1) := by decide +kernel
theorem dBA_breaksLimit_38 : decode cBA_breaksLimit 38 = .ok (.ireturn, 1) := by decide +kernel
theorem dBA_outcomeOfPosting_0 : decode cBA_outcomeOfPosting 0 = .ok (.aload_n 0, 1) := by decide +kernel
theorem dBA_outcomeOfPosting_1 : decode cBA_outcomeOfPosting 1 = .ok (.getfield 18, 3) := by decide +kernel
theorem dBA_outcomeOfPosting_4 : decode cBA_outcomeOfPosting 4 = .ok (.invokevirtual 67, 3) := by decide +kernel
theorem dBA_outcomeOfPosting_7 : decode cBA_outcomeOfPosting 7 = .ok (.ifCond .ne 12, 3) := by decide +kernel
theorem dBA_outcomeOfPosting_10 : decode cBA_outcomeOfPosting 10 = .ok (.aload_n 0, 1) := by decide +kernel
theorem dBA_outcomeOfPosting_11 : decode cBA_outcomeOfPosting 11 = .ok (.invokevirtual 71, 3) := by decide +kernel
theorem dBA_outcomeOfPosting_14 : decode cBA_outcomeOfPosting 14 = .ok (.lconst 0, 1) := by decide +kernel
theorem dBA_outcomeOfPosting_15 : decode cBA_outcomeOfPosting 15 = .ok (.lcmp, 1) := by decide +kernel
theorem dBA_outcomeOfPosting_16 : decode cBA_outcomeOfPosting 16 = .ok (.ifCond .eq 7, 3) := by decide +kernel
theorem dBA_outcomeOfPosting_19 : decode cBA_outcomeOfPosting 19 = .ok (.getstatic 75, 3) := by decide +kernel
theorem dBA_outcomeOfPosting_22 : decode cBA_outcomeOfPosting 22 = .ok (.areturn, 1) := by decide +kernel
theorem dBA_outcomeOfPosting_23 : decode cBA_outcomeOfPosting 23 = .ok (.iconst 0, 1) := by decide +kernel
theorem dBA_outcomeOfPosting_24 : decode cBA_outcomeOfPosting 24 = .ok (.istore_n 1, 1) := by decide +kernel
theorem dBA_outcomeOfPosting_25 : decode cBA_outcomeOfPosting 25 = .ok (.iload_n 1, 1) := by decide +kernel
theorem dBA_outcomeOfPosting_26 : decode cBA_outcomeOfPosting 26 = .ok (.aload_n 0, 1) := by decide +kernel
theorem dBA_outcomeOfPosting_27 : decode cBA_outcomeOfPosting 27 = .ok (.getfield 18, 3) := by decide +kernel
theorem dBA_outcomeOfPosting_30 : decode cBA_outcomeOfPosting 30 = .ok (.invokevirtual 31, 3) := by decide +kernel
theorem dBA_outcomeOfPosting_33 : decode cBA_outcomeOfPosting 33 = .ok (.if_icmp .ge 45, 3) := by decide +kernel
theorem dBA_outcomeOfPosting_36 : decode cBA_outcomeOfPosting 36 = .ok (.aload_n 0, 1) := by decide +kernel
theorem dBA_outcomeOfPosting_37 : decode cBA_outcomeOfPosting 37 = .ok (.aload_n 0, 1) := by decide +kernel
theorem dBA_outcomeOfPosting_38 : decode cBA_outcomeOfPosting 38 = .ok (.getfield 18, 3) := by decide +kernel
theorem dBA_outcomeOfPosting_41 : decode cBA_outcomeOfPosting 41 = .ok (.iload_n 1, 1) := by decide +kernel
theorem dBA_outcomeOfPosting_42 : decode cBA_outcomeOfPosting 42 = .ok (.invokevirtual 47, 3) := by decide +kernel
theorem dBA_outcomeOfPosting_45 : decode cBA_outcomeOfPosting 45 = .ok (.checkcast 38, 3) := by decide +kernel
theorem dBA_outcomeOfPosting_48 : decode cBA_outcomeOfPosting 48 = .ok (.iload_n 1, 1) := by decide +kernel
theorem dBA_outcomeOfPosting_49 : decode cBA_outcomeOfPosting 49 = .ok (.iconst 1, 1) := by decide +kernel
theorem dBA_outcomeOfPosting_50 : decode cBA_outcomeOfPosting 50 = .ok (.iadd, 1) := by decide +kernel
theorem dBA_outcomeOfPosting_51 : decode cBA_outcomeOfPosting 51 = .ok (.invokevirtual 81, 3) := by decide +kernel
theorem dBA_outcomeOfPosting_54 : decode cBA_outcomeOfPosting 54 = .ok (.ifCond .eq 7, 3) := by decide +kernel
theorem dBA_outcomeOfPosting_57 : decode cBA_outcomeOfPosting 57 = .ok (.getstatic 75, 3) := by decide +kernel
theorem dBA_outcomeOfPosting_60 : decode cBA_outcomeOfPosting 60 = .ok (.areturn, 1) := by decide +kernel
theorem dBA_outcomeOfPosting_61 : decode cBA_outcomeOfPosting 61 = .ok (.aload_n 0, 1) := by decide +kernel
theorem dBA_outcomeOfPosting_62 : decode cBA_outcomeOfPosting 62 = .ok (.getfield 85, 3) := by decide +kernel
theorem dBA_outcomeOfPosting_65 : decode cBA_outcomeOfPosting 65 = .ok (.ifCond .eq 7, 3) := by decide +kernel
theorem dBA_outcomeOfPosting_68 : decode cBA_outcomeOfPosting 68 = .ok (.getstatic 89, 3) := by decide +kernel
theorem dBA_outcomeOfPosting_71 : decode cBA_outcomeOfPosting 71 = .ok (.areturn, 1) := by decide +kernel
theorem dBA_outcomeOfPosting_72 : decode cBA_outcomeOfPosting 72 = .ok (.iinc 1 1, 3) := by decide +kernel
theorem dBA_outcomeOfPosting_75 : decode cBA_outcomeOfPosting 75 = .ok (.goto (-50), 3) := by decide +kernel
theorem dBA_outcomeOfPosting_78 : decode cBA_outcomeOfPosting 78 = .ok (.getstatic 92, 3) := by decide +kernel
theorem dBA_outcomeOfPosting_81 : decode cBA_outcomeOfPosting 81 = .ok (.areturn, 1) := by decide +kernel
end
section
/-! decode rows: REF -/
theorem dMO_init_0 : decode cMO_init 0 = .ok (.aload_n 0, 1) := by decide +kernel
theorem dMO_init_1 : decode cMO_init 1 = .ok (.invokespecial 1, 3) := by decide +kernel
theorem dMO_init_4 : decode cMO_init 4 = .ok (.aload_n 0, 1) := by decide +kernel
theorem dMO_init_5 : decode cMO_init 5 = .ok (.bipush 61, 2) := by decide +kernel
theorem dMO_init_7 : decode cMO_init 7 = .ok (.newarray .int, 2) := by decide +kernel
theorem dMO_init_9 : decode cMO_init 9 = .ok (.putfield 7, 3) := by decide +kernel
theorem dMO_init_12 : decode cMO_init 12 = .ok (.aload_n 0, 1) := by decide +kernel
theorem dMO_init_13 : decode cMO_init 13 = .ok (.bipush 61, 2) := by decide +kernel
theorem dMO_init_15 : decode cMO_init 15 = .ok (.newarray .int, 2) := by decide +kernel
theorem dMO_init_17 : decode cMO_init 17 = .ok (.putfield 13, 3) := by decide +kernel
theorem dMO_init_20 : decode cMO_init 20 = .ok (.aload_n 0, 1) := by decide +kernel
theorem dMO_init_21 : decode cMO_init 21 = .ok (.bipush 61, 2) := by decide +kernel
theorem dMO_init_23 : decode cMO_init 23 = .ok (.newarray .long, 2) := by decide +kernel
theorem dMO_init_25 : decode cMO_init 25 = .ok (.putfield 16, 3) := by decide +kernel
theorem dMO_init_28 : decode cMO_init 28 = .ok (.aload_n 0, 1) := by decide +kernel
theorem dMO_init_29 : decode cMO_init 29 = .ok (.sipush 301, 3) := by decide +kernel
theorem dMO_init_32 : decode cMO_init 32 = .ok (.newarray .int, 2) := by decide +kernel
theorem dMO_init_34 : decode cMO_init 34 = .ok (.putfield 20, 3) := by decide +kernel
theorem dMO_init_37 : decode cMO_init 37 = .ok (.aload_n 0, 1) := by decide +kernel
theorem dMO_init_38 : decode cMO_init 38 = .ok (.sipush 301, 3) := by decide +kernel
theorem dMO_init_41 : decode cMO_init 41 = .ok (.newarray .long, 2) := by decide +kernel
theorem dMO_init_43 : decode cMO_init 43 = .ok (.putfield 23, 3) := by decide +kernel
theorem dMO_init_46 : decode cMO_init 46 = .ok (.aload_n 0, 1) := by decide +kernel
theorem dMO_init_47 : decode cMO_init 47 = .ok (.sipush 301, 3) := by decide +kernel
theorem dMO_init_50 : decode cMO_init 50 = .ok (.newarray .boolean, 2) := by decide +kernel
theorem dMO_init_52 : decode cMO_init 52 = .ok (.putfield 26, 3) := by decide +kernel
theorem dMO_init_55 : decode cMO_init 55 = .ok (.aload_n 0, 1) := by decide +kernel
theorem dMO_init_56 : decode cMO_init 56 = .ok (.sipush 301, 3) := by decide +kernel
theorem dMO_init_59 : decode cMO_init 59 = .ok (.newarray .boolean, 2) := by decide +kernel
theorem dMO_init_61 : decode cMO_init 61 = .ok (.putfield 30, 3) := by decide +kernel
theorem dMO_init_64 : decode cMO_init 64 = .ok (.aload_n 0, 1) := by decide +kernel
theorem dMO_init_65 : decode cMO_init 65 = .ok (.sipush 301, 3) := by decide +kernel
theorem dMO_init_68 : decode cMO_init 68 = .ok (.newarray .boolean, 2) := by decide +kernel
theorem dMO_init_70 : decode cMO_init 70 = .ok (.putfield 33, 3) := by decide +kernel
theorem dMO_init_73 : decode cMO_init 73 = .ok (.aload_n 0, 1) := by decide +kernel
theorem dMO_init_74 : decode cMO_init 74 = .ok (.sipush 301, 3) := by decide +kernel
theorem dMO_init_77 : decode cMO_init 77 = .ok (.newarray .int, 2) := by decide +kernel
theorem dMO_init_79 : decode cMO_init 79 = .ok (.putfield 36, 3) := by decide +kernel
theorem dMO_init_82 : decode cMO_init 82 = .ok (.aload_n 0, 1) := by decide +kernel
theorem dMO_init_83 : decode cMO_init 83 = .ok (.sipush 3612, 3) := by decide +kernel
theorem dMO_init_86 : decode cMO_init 86 = .ok (.newarray .int, 2) := by decide +kernel
theorem dMO_init_88 : decode cMO_init 88 = .ok (.putfield 39, 3) := by decide +kernel
theorem dMO_init_91 : decode cMO_init 91 = .ok (.aload_n 0, 1) := by decide +kernel
theorem dMO_init_92 : decode cMO_init 92 = .ok (.sipush 3612, 3) := by decide +kernel
theorem dMO_init_95 : decode cMO_init 95 = .ok (.newarray .long, 2) := by decide +kernel
theorem dMO_init_97 : decode cMO_init 97 = .ok (.putfield 42, 3) := by decide +kernel
theorem dMO_init_100 : decode cMO_init 100 = .ok (.aload_n 0, 1) := by decide +kernel
theorem dMO_init_101 : decode cMO_init 101 = .ok (.sipush 300, 3) := by decide +kernel
theorem dMO_init_104 : decode cMO_init 104 = .ok (.newarray .int, 2) := by decide +kernel
theorem dMO_init_106 : decode cMO_init 106 = .ok (.putfield 45, 3) := by decide +kernel
theorem dMO_init_109 : decode cMO_init 109 = .ok (.aload_n 0, 1) := by decide +kernel
theorem dMO_init_110 : decode cMO_init 110 = .ok (.ldc2_w 48, 3) := by decide +kernel
theorem dMO_init_113 : decode cMO_init 113 = .ok (.putfield 50, 3) := by decide +kernel
theorem dMO_init_116 : decode cMO_init 116 = .ok (.aload_n 0, 1) := by decide +kernel
theorem dMO_init_117 : decode cMO_init 117 = .ok (.ldc2_w 48, 3) := by decide +kernel
theorem dMO_init_120 : decode cMO_init 120 = .ok (.putfield 50, 3) := by decide +kernel
theorem dMO_init_123 : decode cMO_init 123 = .ok (.return_, 1) := by decide +kernel
theorem dMO_thrown_0 : decode cMO_thrown 0 = .ok (.aload_n 0, 1) := by decide +kernel
theorem dMO_thrown_1 : decode cMO_thrown 1 = .ok (.getfield 54, 3) := by decide +kernel
theorem dMO_thrown_4 : decode cMO_thrown 4 = .ok (.ireturn, 1) := by decide +kernel
theorem dMO_isIn_0 : decode cMO_isIn 0 = .ok (.lload_n 0, 1) := by decide +kernel
theorem dMO_isIn_1 : decode cMO_isIn 1 = .ok (.lload_n 2, 1) := by decide +kernel
theorem dMO_isIn_2 : decode cMO_isIn 2 = .ok (.lcmp, 1) := by decide +kernel
theorem dMO_isIn_3 : decode cMO_isIn 3 = .ok (.ifCond .lt 14, 3) := by decide +kernel
theorem dMO_isIn_6 : decode cMO_isIn 6 = .ok (.lload_n 0, 1) := by decide +kernel
theorem dMO_isIn_7 : decode cMO_isIn 7 = .ok (.lload 4, 2) := by decide +kernel
theorem dMO_isIn_9 : decode cMO_isIn 9 = .ok (.lcmp, 1) := by decide +kernel
theorem dMO_isIn_10 : decode cMO_isIn 10 = .ok (.ifCond .gt 7, 3) := by decide +kernel
theorem dMO_isIn_13 : decode cMO_isIn 13 = .ok (.iconst 1, 1) := by decide +kernel
theorem dMO_isIn_14 : decode cMO_isIn 14 = .ok (.goto 4, 3) := by decide +kernel
theorem dMO_isIn_17 : decode cMO_isIn 17 = .ok (.iconst 0, 1) := by decide +kernel
theorem dMO_isIn_18 : decode cMO_isIn 18 = .ok (.ireturn, 1) := by decide +kernel
theorem dMO_account_0 : decode cMO_account 0 = .ok (.aload_n 0, 1) := by decide +kernel
theorem dMO_account_1 : decode cMO_account 1 = .ok (.iconst 0, 1) := by decide +kernel
theorem dMO_account_2 : decode cMO_account 2 = .ok (.putfield 54, 3) := by decide +kernel
theorem dMO_account_5 : decode cMO_account 5 = .ok (.iload_n 1, 1) := by decide +kernel
theorem dMO_account_6 : decode cMO_account 6 = .ok (.i2l, 1) := by decide +kernel
theorem dMO_account_7 : decode cMO_account 7 = .ok (.lconst 0, 1) := by decide +kernel
theorem dMO_account_8 : decode cMO_account 8 = .ok (.ldc2_w 68, 3) := by decide +kernel
theorem dMO_account_11 : decode cMO_account 11 = .ok (.invokestatic 61, 3) := by decide +kernel
theorem dMO_account_14 : decode cMO_account 14 = .ok (.ifCond .eq 15, 3) := by decide +kernel
theorem dMO_account_17 : decode cMO_account 17 = .ok (.iload_n 2, 1) := by decide +kernel
theorem dMO_account_18 : decode cMO_account 18 = .ok (.i2l, 1) := by decide +kernel
theorem dMO_account_19 : decode cMO_account 19 = .ok (.lconst 0, 1) := by decide +kernel
theorem dMO_account_20 : decode cMO_account 20 = .ok (.ldc2_w 70, 3) := by decide +kernel
theorem dMO_account_23 : decode cMO_account 23 = .ok (.invokestatic 61, 3) := by decide +kernel
theorem dMO_account_26 : decode cMO_account 26 = .ok (.ifCond .ne 6, 3) := by decide +kernel
theorem dMO_account_29 : decode cMO_account 29 = .ok (.ldc 72, 2) := by decide +kernel
theorem dMO_account_31 : decode cMO_account 31 = .ok (.ireturn, 1) := by decide +kernel
theorem dMO_account_32 : decode cMO_account 32 = .ok (.aload_n 0, 1) := by decide +kernel
theorem dMO_account_33 : decode cMO_account 33 = .ok (.getfield 58, 3) := by decide +kernel
theorem dMO_account_36 : decode cMO_account 36 = .ok (.bipush 60, 2) := by decide +kernel
theorem dMO_account_38 : decode cMO_account 38 = .ok (.if_icmp .ne 6, 3) := by decide +kernel
theorem dMO_account_41 : decode cMO_account 41 = .ok (.ldc 73, 2) := by decide +kernel
theorem dMO_account_43 : decode cMO_account 43 = .ok (.ireturn, 1) := by decide +kernel
theorem dMO_account_44 : decode cMO_account 44 = .ok (.aload_n 0, 1) := by decide +kernel
theorem dMO_account_45 : decode cMO_account 45 = .ok (.dup, 1) := by decide +kernel
theorem dMO_account_46 : decode cMO_account 46 = .ok (.getfield 58, 3) := by decide +kernel
theorem dMO_account_49 : decode cMO_account 49 = .ok (.iconst 1, 1) := by decide +kernel
theorem dMO_account_50 : decode cMO_account 50 = .ok (.iadd, 1) := by decide +kernel
theorem dMO_account_51 : decode cMO_account 51 = .ok (.putfield 58, 3) := by decide +kernel
theorem dMO_account_54 : decode cMO_account 54 = .ok (.aload_n 0, 1) := by decide +kernel
theorem dMO_account_55 : decode cMO_account 55 = .ok (.getfield 7, 3) := by decide +kernel
theorem dMO_account_58 : decode cMO_account 58 = .ok (.aload_n 0, 1) := by decide +kernel
theorem dMO_account_59 : decode cMO_account 59 = .ok (.getfield 58, 3) := by decide +kernel
theorem dMO_account_62 : decode cMO_account 62 = .ok (.iload_n 1, 1) := by decide +kernel
theorem dMO_account_63 : decode cMO_account 63 = .ok (.iastore, 1) := by decide +kernel
theorem dMO_account_64 : decode cMO_account 64 = .ok (.aload_n 0, 1) := by decide +kernel
theorem dMO_account_65 : decode cMO_account 65 = .ok (.getfield 13, 3) := by decide +kernel
theorem dMO_account_68 : decode cMO_account 68 = .ok (.aload_n 0, 1) := by decide +kernel
theorem dMO_account_69 : decode cMO_account 69 = .ok (.getfield 58, 3) := by decide +kernel
theorem dMO_account_72 : decode cMO_account 72 = .ok (.iload_n 2, 1) := by decide +kernel
theorem dMO_account_73 : decode cMO_account 73 = .ok (.iastore, 1) := by decide +kernel
theorem dMO_account_74 : decode cMO_account 74 = .ok (.aload_n 0, 1) := by decide +kernel
theorem dMO_account_75 : decode cMO_account 75 = .ok (.getfield 58, 3) := by decide +kernel
theorem dMO_account_78 : decode cMO_account 78 = .ok (.ireturn, 1) := by decide +kernel
theorem dMO_make_0 : decode cMO_make 0 = .ok (.aload_n 0, 1) := by decide +kernel
theorem dMO_make_1 : decode cMO_make 1 = .ok (.dup, 1) := by decide +kernel
theorem dMO_make_2 : decode cMO_make 2 = .ok (.getfield 65, 3) := by decide +kernel
theorem dMO_make_5 : decode cMO_make 5 = .ok (.iconst 1, 1) := by decide +kernel
theorem dMO_make_6 : decode cMO_make 6 = .ok (.iadd, 1) := by decide +kernel
theorem dMO_make_7 : decode cMO_make 7 = .ok (.putfield 65, 3) := by decide +kernel
theorem dMO_make_10 : decode cMO_make 10 = .ok (.aload_n 0, 1) := by decide +kernel
theorem dMO_make_11 : decode cMO_make 11 = .ok (.getfield 20, 3) := by decide +kernel
theorem dMO_make_14 : decode cMO_make 14 = .ok (.aload_n 0, 1) := by decide +kernel
theorem dMO_make_15 : decode cMO_make 15 = .ok (.getfield 65, 3) := by decide +kernel
theorem dMO_make_18 : decode cMO_make 18 = .ok (.iconst 0, 1) := by decide +kernel
theorem dMO_make_19 : decode cMO_make 19 = .ok (.iastore, 1) := by decide +kernel
theorem dMO_make_20 : decode cMO_make 20 = .ok (.aload_n 0, 1) := by decide +kernel
theorem dMO_make_21 : decode cMO_make 21 = .ok (.getfield 23, 3) := by decide +kernel
theorem dMO_make_24 : decode cMO_make 24 = .ok (.aload_n 0, 1) := by decide +kernel
theorem dMO_make_25 : decode cMO_make 25 = .ok (.getfield 65, 3) := by decide +kernel
theorem dMO_make_28 : decode cMO_make 28 = .ok (.lload_n 1, 1) := by decide +kernel
theorem dMO_make_29 : decode cMO_make 29 = .ok (.lastore, 1) := by decide +kernel
theorem dMO_make_30 : decode cMO_make 30 = .ok (.aload_n 0, 1) := by decide +kernel
theorem dMO_make_31 : decode cMO_make 31 = .ok (.getfield 65, 3) := by decide +kernel
theorem dMO_make_34 : decode cMO_make 34 = .ok (.ireturn, 1) := by decide +kernel
theorem dMO_batch_0 : decode cMO_batch 0 = .ok (.aload_n 0, 1) := by decide +kernel
theorem dMO_batch_1 : decode cMO_batch 1 = .ok (.iconst 0, 1) := by decide +kernel
theorem dMO_batch_2 : decode cMO_batch 2 = .ok (.putfield 54, 3) := by decide +kernel
theorem dMO_batch_5 : decode cMO_batch 5 = .ok (.lload_n 1, 1) := by decide +kernel
theorem dMO_batch_6 : decode cMO_batch 6 = .ok (.lconst 0, 1) := by decide +kernel
theorem dMO_batch_7 : decode cMO_batch 7 = .ok (.ldc2_w 74, 3) := by decide +kernel
theorem dMO_batch_10 : decode cMO_batch 10 = .ok (.invokestatic 61, 3) := by decide +kernel
theorem dMO_batch_13 : decode cMO_batch 13 = .ok (.ifCond .ne 6, 3) := by decide +kernel
theorem dMO_batch_16 : decode cMO_batch 16 = .ok (.ldc 72, 2) := by decide +kernel
theorem dMO_batch_18 : decode cMO_batch 18 = .ok (.ireturn, 1) := by decide +kernel
theorem dMO_batch_19 : decode cMO_batch 19 = .ok (.lload_n 1, 1) := by decide +kernel
theorem dMO_batch_20 : decode cMO_batch 20 = .ok (.aload_n 0, 1) := by decide +kernel
theorem dMO_batch_21 : decode cMO_batch 21 = .ok (.getfield 50, 3) := by decide +kernel
theorem dMO_batch_24 : decode cMO_batch 24 = .ok (.lcmp, 1) := by decide +kernel
theorem dMO_batch_25 : decode cMO_batch 25 = .ok (.ifCond .gt 8, 3) := by decide +kernel
theorem dMO_batch_28 : decode cMO_batch 28 = .ok (.ldc 76, 2) := by decide +kernel
theorem dMO_batch_30 : decode cMO_batch 30 = .ok (.goto 23, 3) := by decide +kernel
theorem dMO_batch_33 : decode cMO_batch 33 = .ok (.aload_n 0, 1) := by decide +kernel
theorem dMO_batch_34 : decode cMO_batch 34 = .ok (.getfield 65, 3) := by decide +kernel
theorem dMO_batch_37 : decode cMO_batch 37 = .ok (.sipush 300, 3) := by decide +kernel
theorem dMO_batch_40 : decode cMO_batch 40 = .ok (.if_icmp .ne 8, 3) := by decide +kernel
theorem dMO_batch_43 : decode cMO_batch 43 = .ok (.ldc 73, 2) := by decide +kernel
theorem dMO_batch_45 : decode cMO_batch 45 = .ok (.goto 8, 3) := by decide +kernel
theorem dMO_batch_48 : decode cMO_batch 48 = .ok (.aload_n 0, 1) := by decide +kernel
theorem dMO_batch_49 : decode cMO_batch 49 = .ok (.lload_n 1, 1) := by decide +kernel
theorem dMO_batch_50 : decode cMO_batch 50 = .ok (.invokevirtual 77, 3) := by decide +kernel
theorem dMO_batch_53 : decode cMO_batch 53 = .ok (.ireturn, 1) := by decide +kernel
theorem dMO_isBatch_0 : decode cMO_isBatch 0 = .ok (.iload_n 1, 1) := by decide +kernel
theorem dMO_isBatch_1 : decode cMO_isBatch 1 = .ok (.i2l, 1) := by decide +kernel
theorem dMO_isBatch_2 : decode cMO_isBatch 2 = .ok (.lconst 1, 1) := by decide +kernel
theorem dMO_isBatch_3 : decode cMO_isBatch 3 = .ok (.aload_n 0, 1) := by decide +kernel
theorem dMO_isBatch_4 : decode cMO_isBatch 4 = .ok (.getfield 65, 3) := by decide +kernel
theorem dMO_isBatch_7 : decode cMO_isBatch 7 = .ok (.i2l, 1) := by decide +kernel
theorem dMO_isBatch_8 : decode cMO_isBatch 8 = .ok (.invokestatic 61, 3) := by decide +kernel
theorem dMO_isBatch_11 : decode cMO_isBatch 11 = .ok (.ireturn, 1) := by decide +kernel
theorem dMO_isAccount_0 : decode cMO_isAccount 0 = .ok (.iload_n 1, 1) := by decide +kernel
theorem dMO_isAccount_1 : decode cMO_isAccount 1 = .ok (.i2l, 1) := by decide +kernel
theorem dMO_isAccount_2 : decode cMO_isAccount 2 = .ok (.lconst 1, 1) := by decide +kernel
theorem dMO_isAccount_3 : decode cMO_isAccount 3 = .ok (.aload_n 0, 1) := by decide +kernel
theorem dMO_isAccount_4 : decode cMO_isAccount 4 = .ok (.getfield 58, 3) := by decide +kernel
theorem dMO_isAccount_7 : decode cMO_isAccount 7 = .ok (.i2l, 1) := by decide +kernel
theorem dMO_isAccount_8 : decode cMO_isAccount 8 = .ok (.invokestatic 61, 3) := by decide +kernel
theorem dMO_isAccount_11 : decode cMO_isAccount 11 = .ok (.ireturn, 1) := by decide +kernel
theorem dMO_put_0 : decode cMO_put 0 = .ok (.aload_n 0, 1) := by decide +kernel
theorem dMO_put_1 : decode cMO_put 1 = .ok (.getfield 39, 3) := by decide +kernel
theorem dMO_put_4 : decode cMO_put 4 = .ok (.bipush 12, 2) := by decide +kernel
theorem dMO_put_6 : decode cMO_put 6 = .ok (.iload_n 1, 1) := by decide +kernel
theorem dMO_put_7 : decode cMO_put 7 = .ok (.imul, 1) := by decide +kernel
theorem dMO_put_8 : decode cMO_put 8 = .ok (.aload_n 0, 1) := by decide +kernel
theorem dMO_put_9 : decode cMO_put 9 = .ok (.getfield 36, 3) := by decide +kernel
theorem dMO_put_12 : decode cMO_put 12 = .ok (.iload_n 1, 1) := by decide +kernel
theorem dMO_put_13 : decode cMO_put 13 = .ok (.iaload, 1) := by decide +kernel
theorem dMO_put_14 : decode cMO_put 14 = .ok (.iadd, 1) := by decide +kernel
theorem dMO_put_15 : decode cMO_put 15 = .ok (.iload_n 2, 1) := by decide +kernel
theorem dMO_put_16 : decode cMO_put 16 = .ok (.iastore, 1) := by decide +kernel
theorem dMO_put_17 : decode cMO_put 17 = .ok (.aload_n 0, 1) := by decide +kernel
theorem dMO_put_18 : decode cMO_put 18 = .ok (.getfield 42, 3) := by decide +kernel
theorem dMO_put_21 : decode cMO_put 21 = .ok (.bipush 12, 2) := by decide +kernel
theorem dMO_put_23 : decode cMO_put 23 = .ok (.iload_n 1, 1) := by decide +kernel
theorem dMO_put_24 : decode cMO_put 24 = .ok (.imul, 1) := by decide +kernel
theorem dMO_put_25 : decode cMO_put 25 = .ok (.aload_n 0, 1) := by decide +kernel
theorem dMO_put_26 : decode cMO_put 26 = .ok (.getfield 36, 3) := by decide +kernel
theorem dMO_put_29 : decode cMO_put 29 = .ok (.iload_n 1, 1) := by decide +kernel
theorem dMO_put_30 : decode cMO_put 30 = .ok (.iaload, 1) := by decide +kernel
theorem dMO_put_31 : decode cMO_put 31 = .ok (.iadd, 1) := by decide +kernel
theorem dMO_put_32 : decode cMO_put 32 = .ok (.lload_n 3, 1) := by decide +kernel
theorem dMO_put_33 : decode cMO_put 33 = .ok (.lastore, 1) := by decide +kernel
theorem dMO_put_34 : decode cMO_put 34 = .ok (.aload_n 0, 1) := by decide +kernel
theorem dMO_put_35 : decode cMO_put 35 = .ok (.getfield 36, 3) := by decide +kernel
theorem dMO_put_38 : decode cMO_put 38 = .ok (.iload_n 1, 1) := by decide +kernel
theorem dMO_put_39 : decode cMO_put 39 = .ok (.dup2, 1) := by decide +kernel
theorem dMO_put_40 : decode cMO_put 40 = .ok (.iaload, 1) := by decide +kernel
theorem dMO_put_41 : decode cMO_put 41 = .ok (.iconst 1, 1) := by decide +kernel
theorem dMO_put_42 : decode cMO_put 42 = .ok (.iadd, 1) := by decide +kernel
theorem dMO_put_43 : decode cMO_put 43 = .ok (.iastore, 1) := by decide +kernel
theorem dMO_put_44 : decode cMO_put 44 = .ok (.return_, 1) := by decide +kernel
theorem dMO_row_0 : decode cMO_row 0 = .ok (.aload_n 0, 1) := by decide +kernel
theorem dMO_row_1 : decode cMO_row 1 = .ok (.iconst 0, 1) := by decide +kernel
theorem dMO_row_2 : decode cMO_row 2 = .ok (.putfield 54, 3) := by decide +kernel
theorem dMO_row_5 : decode cMO_row 5 = .ok (.aload_n 0, 1) := by decide +kernel
theorem dMO_row_6 : decode cMO_row 6 = .ok (.iload_n 1, 1) := by decide +kernel
theorem dMO_row_7 : decode cMO_row 7 = .ok (.invokevirtual 81, 3) := by decide +kernel
theorem dMO_row_10 : decode cMO_row 10 = .ok (.ifCond .eq 34, 3) := by decide +kernel
theorem dMO_row_13 : decode cMO_row 13 = .ok (.aload_n 0, 1) := by decide +kernel
theorem dMO_row_14 : decode cMO_row 14 = .ok (.iload_n 2, 1) := by decide +kernel
theorem dMO_row_15 : decode cMO_row 15 = .ok (.invokevirtual 85, 3) := by decide +kernel
theorem dMO_row_18 : decode cMO_row 18 = .ok (.ifCond .eq 26, 3) := by decide +kernel
theorem dMO_row_21 : decode cMO_row 21 = .ok (.lload_n 3, 1) := by decide +kernel
theorem dMO_row_22 : decode cMO_row 22 = .ok (.lconst 0, 1) := by decide +kernel
theorem dMO_row_23 : decode cMO_row 23 = .ok (.lcmp, 1) := by decide +kernel
theorem dMO_row_24 : decode cMO_row 24 = .ok (.ifCond .eq 20, 3) := by decide +kernel
theorem dMO_row_27 : decode cMO_row 27 = .ok (.lload_n 3, 1) := by decide +kernel
theorem dMO_row_28 : decode cMO_row 28 = .ok (.ldc2_w 88, 3) := by decide +kernel
theorem dMO_row_31 : decode cMO_row 31 = .ok (.ldc2_w 90, 3) := by decide +kernel
theorem dMO_row_34 : decode cMO_row 34 = .ok (.invokestatic 61, 3) := by decide +kernel
theorem dMO_row_37 : decode cMO_row 37 = .ok (.ifCond .eq 7, 3) := by decide +kernel
theorem dMO_row_40 : decode cMO_row 40 = .ok (.iconst 1, 1) := by decide +kernel
theorem dMO_row_41 : decode cMO_row 41 = .ok (.goto 4, 3) := by decide +kernel
theorem dMO_row_44 : decode cMO_row 44 = .ok (.iconst 0, 1) := by decide +kernel
theorem dMO_row_45 : decode cMO_row 45 = .ok (.istore 5, 2) := by decide +kernel
theorem dMO_row_47 : decode cMO_row 47 = .ok (.iload 5, 2) := by decide +kernel
theorem dMO_row_49 : decode cMO_row 49 = .ok (.ifCond .eq 27, 3) := by decide +kernel
theorem dMO_row_52 : decode cMO_row 52 = .ok (.aload_n 0, 1) := by decide +kernel
theorem dMO_row_53 : decode cMO_row 53 = .ok (.getfield 20, 3) := by decide +kernel
theorem dMO_row_56 : decode cMO_row 56 = .ok (.iload_n 1, 1) := by decide +kernel
theorem dMO_row_57 : decode cMO_row 57 = .ok (.iaload, 1) := by decide +kernel
theorem dMO_row_58 : decode cMO_row 58 = .ok (.ifCond .ne 18, 3) := by decide +kernel
theorem dMO_row_61 : decode cMO_row 61 = .ok (.aload_n 0, 1) := by decide +kernel
theorem dMO_row_62 : decode cMO_row 62 = .ok (.getfield 36, 3) := by decide +kernel
theorem dMO_row_65 : decode cMO_row 65 = .ok (.iload_n 1, 1) := by decide +kernel
theorem dMO_row_66 : decode cMO_row 66 = .ok (.iaload, 1) := by decide +kernel
theorem dMO_row_67 : decode cMO_row 67 = .ok (.bipush 12, 2) := by decide +kernel
theorem dMO_row_69 : decode cMO_row 69 = .ok (.if_icmp .ge 7, 3) := by decide +kernel
theorem dMO_row_72 : decode cMO_row 72 = .ok (.iconst 1, 1) := by decide +kernel
theorem dMO_row_73 : decode cMO_row 73 = .ok (.goto 4, 3) := by decide +kernel
theorem dMO_row_76 : decode cMO_row 76 = .ok (.iconst 0, 1) := by decide +kernel
theorem dMO_row_77 : decode cMO_row 77 = .ok (.istore 5, 2) := by decide +kernel
theorem dMO_row_79 : decode cMO_row 79 = .ok (.iload 5, 2) := by decide +kernel
theorem dMO_row_81 : decode cMO_row 81 = .ok (.ifCond .eq 10, 3) := by decide +kernel
theorem dMO_row_84 : decode cMO_row 84 = .ok (.aload_n 0, 1) := by decide +kernel
theorem dMO_row_85 : decode cMO_row 85 = .ok (.iload_n 1, 1) := by decide +kernel
theorem dMO_row_86 : decode cMO_row 86 = .ok (.iload_n 2, 1) := by decide +kernel
theorem dMO_row_87 : decode cMO_row 87 = .ok (.lload_n 3, 1) := by decide +kernel
theorem dMO_row_88 : decode cMO_row 88 = .ok (.invokevirtual 92, 3) := by decide +kernel
theorem dMO_row_91 : decode cMO_row 91 = .ok (.iload 5, 2) := by decide +kernel
theorem dMO_row_93 : decode cMO_row 93 = .ok (.ireturn, 1) := by decide +kernel
theorem dMO_part_0 : decode cMO_part 0 = .ok (.lconst 0, 1) := by decide +kernel
theorem dMO_part_1 : decode cMO_part 1 = .ok (.lstore 4, 2) := by decide +kernel
theorem dMO_part_3 : decode cMO_part 3 = .ok (.iconst 0, 1) := by decide +kernel
theorem dMO_part_4 : decode cMO_part 4 = .ok (.istore 6, 2) := by decide +kernel
theorem dMO_part_6 : decode cMO_part 6 = .ok (.iload 6, 2) := by decide +kernel
theorem dMO_part_8 : decode cMO_part 8 = .ok (.iload_n 2, 1) := by decide +kernel
theorem dMO_part_9 : decode cMO_part 9 = .ok (.if_icmp .ge 47, 3) := by decide +kernel
theorem dMO_part_12 : decode cMO_part 12 = .ok (.aload_n 0, 1) := by decide +kernel
theorem dMO_part_13 : decode cMO_part 13 = .ok (.getfield 39, 3) := by decide +kernel
theorem dMO_part_16 : decode cMO_part 16 = .ok (.bipush 12, 2) := by decide +kernel
theorem dMO_part_18 : decode cMO_part 18 = .ok (.iload_n 1, 1) := by decide +kernel
theorem dMO_part_19 : decode cMO_part 19 = .ok (.imul, 1) := by decide +kernel
theorem dMO_part_20 : decode cMO_part 20 = .ok (.iload 6, 2) := by decide +kernel
theorem dMO_part_22 : decode cMO_part 22 = .ok (.iadd, 1) := by decide +kernel
theorem dMO_part_23 : decode cMO_part 23 = .ok (.iaload, 1) := by decide +kernel
theorem dMO_part_24 : decode cMO_part 24 = .ok (.iload_n 3, 1) := by decide +kernel
theorem dMO_part_25 : decode cMO_part 25 = .ok (.if_icmp .ne 21, 3) := by decide +kernel
theorem dMO_part_28 : decode cMO_part 28 = .ok (.lload 4, 2) := by decide +kernel
theorem dMO_part_30 : decode cMO_part 30 = .ok (.aload_n 0, 1) := by decide +kernel
theorem dMO_part_31 : decode cMO_part 31 = .ok (.getfield 42, 3) := by decide +kernel
theorem dMO_part_34 : decode cMO_part 34 = .ok (.bipush 12, 2) := by decide +kernel
theorem dMO_part_36 : decode cMO_part 36 = .ok (.iload_n 1, 1) := by decide +kernel
theorem dMO_part_37 : decode cMO_part 37 = .ok (.imul, 1) := by decide +kernel
theorem dMO_part_38 : decode cMO_part 38 = .ok (.iload 6, 2) := by decide +kernel
theorem dMO_part_40 : decode cMO_part 40 = .ok (.iadd, 1) := by decide +kernel
theorem dMO_part_41 : decode cMO_part 41 = .ok (.laload, 1) := by decide +kernel
theorem dMO_part_42 : decode cMO_part 42 = .ok (.ladd, 1) := by decide +kernel
theorem dMO_part_43 : decode cMO_part 43 = .ok (.goto 5, 3) := by decide +kernel
theorem dMO_part_46 : decode cMO_part 46 = .ok (.lload 4, 2) := by decide +kernel
theorem dMO_part_48 : decode cMO_part 48 = .ok (.lstore 4, 2) := by decide +kernel
theorem dMO_part_50 : decode cMO_part 50 = .ok (.iinc 6 1, 3) := by decide +kernel
theorem dMO_part_53 : decode cMO_part 53 = .ok (.goto (-47), 3) := by decide +kernel
theorem dMO_part_56 : decode cMO_part 56 = .ok (.lload 4, 2) := by decide +kernel
theorem dMO_part_58 : decode cMO_part 58 = .ok (.lreturn, 1) := by decide +kernel
theorem dMO_balanceOf_0 : decode cMO_balanceOf 0 = .ok (.lconst 0, 1) := by decide +kernel
theorem dMO_balanceOf_1 : decode cMO_balanceOf 1 = .ok (.lstore 4, 2) := by decide +kernel
theorem dMO_balanceOf_3 : decode cMO_balanceOf 3 = .ok (.iconst 0, 1) := by decide +kernel
theorem dMO_balanceOf_4 : decode cMO_balanceOf 4 = .ok (.istore 6, 2) := by decide +kernel
theorem dMO_balanceOf_6 : decode cMO_balanceOf 6 = .ok (.iload 6, 2) := by decide +kernel
theorem dMO_balanceOf_8 : decode cMO_balanceOf 8 = .ok (.aload_n 0, 1) := by decide +kernel
theorem dMO_balanceOf_9 : decode cMO_balanceOf 9 = .ok (.getfield 96, 3) := by decide +kernel
theorem dMO_balanceOf_12 : decode cMO_balanceOf 12 = .ok (.if_icmp .ge 54, 3) := by decide +kernel
theorem dMO_balanceOf_15 : decode cMO_balanceOf 15 = .ok (.aload_n 0, 1) := by decide +kernel
theorem dMO_balanceOf_16 : decode cMO_balanceOf 16 = .ok (.getfield 45, 3) := by decide +kernel
theorem dMO_balanceOf_19 : decode cMO_balanceOf 19 = .ok (.iload 6, 2) := by decide +kernel
theorem dMO_balanceOf_21 : decode cMO_balanceOf 21 = .ok (.iaload, 1) := by decide +kernel
theorem dMO_balanceOf_22 : decode cMO_balanceOf 22 = .ok (.istore 7, 2) := by decide +kernel
theorem dMO_balanceOf_24 : decode cMO_balanceOf 24 = .ok (.aload_n 0, 1) := by decide +kernel
theorem dMO_balanceOf_25 : decode cMO_balanceOf 25 = .ok (.getfield 23, 3) := by decide +kernel
theorem dMO_balanceOf_28 : decode cMO_balanceOf 28 = .ok (.iload 7, 2) := by decide +kernel
theorem dMO_balanceOf_30 : decode cMO_balanceOf 30 = .ok (.laload, 1) := by decide +kernel
theorem dMO_balanceOf_31 : decode cMO_balanceOf 31 = .ok (.lload_n 2, 1) := by decide +kernel
theorem dMO_balanceOf_32 : decode cMO_balanceOf 32 = .ok (.lcmp, 1) := by decide +kernel
theorem dMO_balanceOf_33 : decode cMO_balanceOf 33 = .ok (.ifCond .gt 23, 3) := by decide +kernel
theorem dMO_balanceOf_36 : decode cMO_balanceOf 36 = .ok (.lload 4, 2) := by decide +kernel
theorem dMO_balanceOf_38 : decode cMO_balanceOf 38 = .ok (.aload_n 0, 1) := by decide +kernel
theorem dMO_balanceOf_39 : decode cMO_balanceOf 39 = .ok (.iload 7, 2) := by decide +kernel
theorem dMO_balanceOf_41 : decode cMO_balanceOf 41 = .ok (.aload_n 0, 1) := by decide +kernel
theorem dMO_balanceOf_42 : decode cMO_balanceOf 42 = .ok (.getfield 36, 3) := by decide +kernel
theorem dMO_balanceOf_45 : decode cMO_balanceOf 45 = .ok (.iload 7, 2) := by decide +kernel
theorem dMO_balanceOf_47 : decode cMO_balanceOf 47 = .ok (.iaload, 1) := by decide +kernel
theorem dMO_balanceOf_48 : decode cMO_balanceOf 48 = .ok (.iload_n 1, 1) := by decide +kernel
theorem dMO_balanceOf_49 : decode cMO_balanceOf 49 = .ok (.invokevirtual 99, 3) := by decide +kernel
theorem dMO_balanceOf_52 : decode cMO_balanceOf 52 = .ok (.ladd, 1) := by decide +kernel
theorem dMO_balanceOf_53 : decode cMO_balanceOf 53 = .ok (.goto 5, 3) := by decide +kernel
theorem dMO_balanceOf_56 : decode cMO_balanceOf 56 = .ok (.lload 4, 2) := by decide +kernel
theorem dMO_balanceOf_58 : decode cMO_balanceOf 58 = .ok (.lstore 4, 2) := by decide +kernel
theorem dMO_balanceOf_60 : decode cMO_balanceOf 60 = .ok (.iinc 6 1, 3) := by decide +kernel
theorem dMO_balanceOf_63 : decode cMO_balanceOf 63 = .ok (.goto (-57), 3) := by decide +kernel
theorem dMO_balanceOf_66 : decode cMO_balanceOf 66 = .ok (.lload 4, 2) := by decide +kernel
theorem dMO_balanceOf_68 : decode cMO_balanceOf 68 = .ok (.lreturn, 1) := by decide +kernel
theorem dMO_stops_0 : decode cMO_stops 0 = .ok (.lconst 0, 1) := by decide +kernel
theorem dMO_stops_1 : decode cMO_stops 1 = .ok (.lstore_n 2, 1) := by decide +kernel
theorem dMO_stops_2 : decode cMO_stops 2 = .ok (.iconst 0, 1) := by decide +kernel
theorem dMO_stops_3 : decode cMO_stops 3 = .ok (.istore 4, 2) := by decide +kernel
theorem dMO_stops_5 : decode cMO_stops 5 = .ok (.iload 4, 2) := by decide +kernel
theorem dMO_stops_7 : decode cMO_stops 7 = .ok (.aload_n 0, 1) := by decide +kernel
theorem dMO_stops_8 : decode cMO_stops 8 = .ok (.getfield 36, 3) := by decide +kernel
theorem dMO_stops_11 : decode cMO_stops 11 = .ok (.iload_n 1, 1) := by decide +kernel
theorem dMO_stops_12 : decode cMO_stops 12 = .ok (.iaload, 1) := by decide +kernel
theorem dMO_stops_13 : decode cMO_stops 13 = .ok (.if_icmp .ge 24, 3) := by decide +kernel
theorem dMO_stops_16 : decode cMO_stops 16 = .ok (.lload_n 2, 1) := by decide +kernel
theorem dMO_stops_17 : decode cMO_stops 17 = .ok (.aload_n 0, 1) := by decide +kernel
theorem dMO_stops_18 : decode cMO_stops 18 = .ok (.getfield 42, 3) := by decide +kernel
theorem dMO_stops_21 : decode cMO_stops 21 = .ok (.bipush 12, 2) := by decide +kernel
theorem dMO_stops_23 : decode cMO_stops 23 = .ok (.iload_n 1, 1) := by decide +kernel
theorem dMO_stops_24 : decode cMO_stops 24 = .ok (.imul, 1) := by decide +kernel
theorem dMO_stops_25 : decode cMO_stops 25 = .ok (.iload 4, 2) := by decide +kernel
theorem dMO_stops_27 : decode cMO_stops 27 = .ok (.iadd, 1) := by decide +kernel
theorem dMO_stops_28 : decode cMO_stops 28 = .ok (.laload, 1) := by decide +kernel
theorem dMO_stops_29 : decode cMO_stops 29 = .ok (.ladd, 1) := by decide +kernel
theorem dMO_stops_30 : decode cMO_stops 30 = .ok (.lstore_n 2, 1) := by decide +kernel
theorem dMO_stops_31 : decode cMO_stops 31 = .ok (.iinc 4 1, 3) := by decide +kernel
theorem dMO_stops_34 : decode cMO_stops 34 = .ok (.goto (-29), 3) := by decide +kernel
theorem dMO_stops_37 : decode cMO_stops 37 = .ok (.aload_n 0, 1) := by decide +kernel
theorem dMO_stops_38 : decode cMO_stops 38 = .ok (.getfield 36, 3) := by decide +kernel
theorem dMO_stops_41 : decode cMO_stops 41 = .ok (.iload_n 1, 1) := by decide +kernel
theorem dMO_stops_42 : decode cMO_stops 42 = .ok (.iaload, 1) := by decide +kernel
theorem dMO_stops_43 : decode cMO_stops 43 = .ok (.ifCond .eq 9, 3) := by decide +kernel
theorem dMO_stops_46 : decode cMO_stops 46 = .ok (.lload_n 2, 1) := by decide +kernel
theorem dMO_stops_47 : decode cMO_stops 47 = .ok (.lconst 0, 1) := by decide +kernel
theorem dMO_stops_48 : decode cMO_stops 48 = .ok (.lcmp, 1) := by decide +kernel
theorem dMO_stops_49 : decode cMO_stops 49 = .ok (.ifCond .eq 5, 3) := by decide +kernel
theorem dMO_stops_52 : decode cMO_stops 52 = .ok (.iconst (-1), 1) := by decide +kernel
theorem dMO_stops_53 : decode cMO_stops 53 = .ok (.ireturn, 1) := by decide +kernel
theorem dMO_stops_54 : decode cMO_stops 54 = .ok (.iconst 0, 1) := by decide +kernel
theorem dMO_stops_55 : decode cMO_stops 55 = .ok (.istore 4, 2) := by decide +kernel
theorem dMO_stops_57 : decode cMO_stops 57 = .ok (.iconst 1, 1) := by decide +kernel
theorem dMO_stops_58 : decode cMO_stops 58 = .ok (.istore 5, 2) := by decide +kernel
theorem dMO_stops_60 : decode cMO_stops 60 = .ok (.iload 4, 2) := by decide +kernel
theorem dMO_stops_62 : decode cMO_stops 62 = .ok (.aload_n 0, 1) := by decide +kernel
theorem dMO_stops_63 : decode cMO_stops 63 = .ok (.getfield 36, 3) := by decide +kernel
theorem dMO_stops_66 : decode cMO_stops 66 = .ok (.iload_n 1, 1) := by decide +kernel
theorem dMO_stops_67 : decode cMO_stops 67 = .ok (.iaload, 1) := by decide +kernel
theorem dMO_stops_68 : decode cMO_stops 68 = .ok (.if_icmp .ge 130, 3) := by decide +kernel
theorem dMO_stops_71 : decode cMO_stops 71 = .ok (.iload 5, 2) := by decide +kernel
theorem dMO_stops_73 : decode cMO_stops 73 = .ok (.ifCond .eq 125, 3) := by decide +kernel
theorem dMO_stops_76 : decode cMO_stops 76 = .ok (.aload_n 0, 1) := by decide +kernel
theorem dMO_stops_77 : decode cMO_stops 77 = .ok (.getfield 39, 3) := by decide +kernel
theorem dMO_stops_80 : decode cMO_stops 80 = .ok (.bipush 12, 2) := by decide +kernel
theorem dMO_stops_82 : decode cMO_stops 82 = .ok (.iload_n 1, 1) := by decide +kernel
theorem dMO_stops_83 : decode cMO_stops 83 = .ok (.imul, 1) := by decide +kernel
theorem dMO_stops_84 : decode cMO_stops 84 = .ok (.iload 4, 2) := by decide +kernel
theorem dMO_stops_86 : decode cMO_stops 86 = .ok (.iadd, 1) := by decide +kernel
theorem dMO_stops_87 : decode cMO_stops 87 = .ok (.iaload, 1) := by decide +kernel
theorem dMO_stops_88 : decode cMO_stops 88 = .ok (.istore 6, 2) := by decide +kernel
theorem dMO_stops_90 : decode cMO_stops 90 = .ok (.aload_n 0, 1) := by decide +kernel
theorem dMO_stops_91 : decode cMO_stops 91 = .ok (.getfield 30, 3) := by decide +kernel
theorem dMO_stops_94 : decode cMO_stops 94 = .ok (.iload_n 1, 1) := by decide +kernel
theorem dMO_stops_95 : decode cMO_stops 95 = .ok (.baload, 1) := by decide +kernel
theorem dMO_stops_96 : decode cMO_stops 96 = .ok (.ifCond .ne 35, 3) := by decide +kernel
theorem dMO_stops_99 : decode cMO_stops 99 = .ok (.aload_n 0, 1) := by decide +kernel
theorem dMO_stops_100 : decode cMO_stops 100 = .ok (.getfield 13, 3) := by decide +kernel
theorem dMO_stops_103 : decode cMO_stops 103 = .ok (.iload 6, 2) := by decide +kernel
theorem dMO_stops_105 : decode cMO_stops 105 = .ok (.iaload, 1) := by decide +kernel
theorem dMO_stops_106 : decode cMO_stops 106 = .ok (.iconst 3, 1) := by decide +kernel
theorem dMO_stops_107 : decode cMO_stops 107 = .ok (.if_icmp .ne 24, 3) := by decide +kernel
theorem dMO_stops_110 : decode cMO_stops 110 = .ok (.aload_n 0, 1) := by decide +kernel
theorem dMO_stops_111 : decode cMO_stops 111 = .ok (.getfield 42, 3) := by decide +kernel
theorem dMO_stops_114 : decode cMO_stops 114 = .ok (.bipush 12, 2) := by decide +kernel
theorem dMO_stops_116 : decode cMO_stops 116 = .ok (.iload_n 1, 1) := by decide +kernel
theorem dMO_stops_117 : decode cMO_stops 117 = .ok (.imul, 1) := by decide +kernel
theorem dMO_stops_118 : decode cMO_stops 118 = .ok (.iload 4, 2) := by decide +kernel
theorem dMO_stops_120 : decode cMO_stops 120 = .ok (.iadd, 1) := by decide +kernel
theorem dMO_stops_121 : decode cMO_stops 121 = .ok (.laload, 1) := by decide +kernel
theorem dMO_stops_122 : decode cMO_stops 122 = .ok (.lconst 0, 1) := by decide +kernel
theorem dMO_stops_123 : decode cMO_stops 123 = .ok (.lcmp, 1) := by decide +kernel
theorem dMO_stops_124 : decode cMO_stops 124 = .ok (.ifCond .ge 7, 3) := by decide +kernel
theorem dMO_stops_127 : decode cMO_stops 127 = .ok (.iconst 1, 1) := by decide +kernel
theorem dMO_stops_128 : decode cMO_stops 128 = .ok (.goto 4, 3) := by decide +kernel
theorem dMO_stops_131 : decode cMO_stops 131 = .ok (.iconst 0, 1) := by decide +kernel
theorem dMO_stops_132 : decode cMO_stops 132 = .ok (.istore 7, 2) := by decide +kernel
theorem dMO_stops_134 : decode cMO_stops 134 = .ok (.iload 7, 2) := by decide +kernel
theorem dMO_stops_136 : decode cMO_stops 136 = .ok (.ifCond .eq 36, 3) := by decide +kernel
theorem dMO_stops_139 : decode cMO_stops 139 = .ok (.aload_n 0, 1) := by decide +kernel
theorem dMO_stops_140 : decode cMO_stops 140 = .ok (.iload 6, 2) := by decide +kernel
theorem dMO_stops_142 : decode cMO_stops 142 = .ok (.ldc2_w 103, 3) := by decide +kernel
theorem dMO_stops_145 : decode cMO_stops 145 = .ok (.invokevirtual 105, 3) := by decide +kernel
theorem dMO_stops_148 : decode cMO_stops 148 = .ok (.aload_n 0, 1) := by decide +kernel
theorem dMO_stops_149 : decode cMO_stops 149 = .ok (.iload_n 1, 1) := by decide +kernel
theorem dMO_stops_150 : decode cMO_stops 150 = .ok (.iload 4, 2) := by decide +kernel
theorem dMO_stops_152 : decode cMO_stops 152 = .ok (.iconst 1, 1) := by decide +kernel
theorem dMO_stops_153 : decode cMO_stops 153 = .ok (.iadd, 1) := by decide +kernel
theorem dMO_stops_154 : decode cMO_stops 154 = .ok (.iload 6, 2) := by decide +kernel
theorem dMO_stops_156 : decode cMO_stops 156 = .ok (.invokevirtual 99, 3) := by decide +kernel
theorem dMO_stops_159 : decode cMO_stops 159 = .ok (.ladd, 1) := by decide +kernel
theorem dMO_stops_160 : decode cMO_stops 160 = .ok (.aload_n 0, 1) := by decide +kernel
theorem dMO_stops_161 : decode cMO_stops 161 = .ok (.getfield 16, 3) := by decide +kernel
theorem dMO_stops_164 : decode cMO_stops 164 = .ok (.iload 6, 2) := by decide +kernel
theorem dMO_stops_166 : decode cMO_stops 166 = .ok (.laload, 1) := by decide +kernel
theorem dMO_stops_167 : decode cMO_stops 167 = .ok (.lneg, 1) := by decide +kernel
theorem dMO_stops_168 : decode cMO_stops 168 = .ok (.lcmp, 1) := by decide +kernel
theorem dMO_stops_169 : decode cMO_stops 169 = .ok (.ifCond .lt 7, 3) := by decide +kernel
theorem dMO_stops_172 : decode cMO_stops 172 = .ok (.iconst 1, 1) := by decide +kernel
theorem dMO_stops_173 : decode cMO_stops 173 = .ok (.goto 4, 3) := by decide +kernel
theorem dMO_stops_176 : decode cMO_stops 176 = .ok (.iconst 0, 1) := by decide +kernel
theorem dMO_stops_177 : decode cMO_stops 177 = .ok (.istore 5, 2) := by decide +kernel
theorem dMO_stops_179 : decode cMO_stops 179 = .ok (.iload 5, 2) := by decide +kernel
theorem dMO_stops_181 : decode cMO_stops 181 = .ok (.ifCond .eq 10, 3) := by decide +kernel
theorem dMO_stops_184 : decode cMO_stops 184 = .ok (.iload 4, 2) := by decide +kernel
theorem dMO_stops_186 : decode cMO_stops 186 = .ok (.iconst 1, 1) := by decide +kernel
theorem dMO_stops_187 : decode cMO_stops 187 = .ok (.iadd, 1) := by decide +kernel
theorem dMO_stops_188 : decode cMO_stops 188 = .ok (.goto 5, 3) := by decide +kernel
theorem dMO_stops_191 : decode cMO_stops 191 = .ok (.iload 4, 2) := by decide +kernel
theorem dMO_stops_193 : decode cMO_stops 193 = .ok (.istore 4, 2) := by decide +kernel
theorem dMO_stops_195 : decode cMO_stops 195 = .ok (.goto (-135), 3) := by decide +kernel
theorem dMO_stops_198 : decode cMO_stops 198 = .ok (.iload 4, 2) := by decide +kernel
theorem dMO_stops_200 : decode cMO_stops 200 = .ok (.ireturn, 1) := by decide +kernel
theorem dMO_go_0 : decode cMO_go 0 = .ok (.aload_n 0, 1) := by decide +kernel
theorem dMO_go_1 : decode cMO_go 1 = .ok (.iload_n 1, 1) := by decide +kernel
theorem dMO_go_2 : decode cMO_go 2 = .ok (.invokevirtual 109, 3) := by decide +kernel
theorem dMO_go_5 : decode cMO_go 5 = .ok (.istore_n 2, 1) := by decide +kernel
theorem dMO_go_6 : decode cMO_go 6 = .ok (.aload_n 0, 1) := by decide +kernel
theorem dMO_go_7 : decode cMO_go 7 = .ok (.getfield 20, 3) := by decide +kernel
theorem dMO_go_10 : decode cMO_go 10 = .ok (.iload_n 1, 1) := by decide +kernel
theorem dMO_go_11 : decode cMO_go 11 = .ok (.iconst 2, 1) := by decide +kernel
theorem dMO_go_12 : decode cMO_go 12 = .ok (.iastore, 1) := by decide +kernel
theorem dMO_go_13 : decode cMO_go 13 = .ok (.iload_n 2, 1) := by decide +kernel
theorem dMO_go_14 : decode cMO_go 14 = .ok (.ifCond .lt 26, 3) := by decide +kernel
theorem dMO_go_17 : decode cMO_go 17 = .ok (.iload_n 2, 1) := by decide +kernel
theorem dMO_go_18 : decode cMO_go 18 = .ok (.aload_n 0, 1) := by decide +kernel
theorem dMO_go_19 : decode cMO_go 19 = .ok (.getfield 36, 3) := by decide +kernel
theorem dMO_go_22 : decode cMO_go 22 = .ok (.iload_n 1, 1) := by decide +kernel
theorem dMO_go_23 : decode cMO_go 23 = .ok (.iaload, 1) := by decide +kernel
theorem dMO_go_24 : decode cMO_go 24 = .ok (.if_icmp .ge 18, 3) := by decide +kernel
theorem dMO_go_27 : decode cMO_go 27 = .ok (.iload_n 2, 1) := by decide +kernel
theorem dMO_go_28 : decode cMO_go 28 = .ok (.ifCond .eq 12, 3) := by decide +kernel
theorem dMO_go_31 : decode cMO_go 31 = .ok (.aload_n 0, 1) := by decide +kernel
theorem dMO_go_32 : decode cMO_go 32 = .ok (.getfield 26, 3) := by decide +kernel
theorem dMO_go_35 : decode cMO_go 35 = .ok (.iload_n 1, 1) := by decide +kernel
theorem dMO_go_36 : decode cMO_go 36 = .ok (.baload, 1) := by decide +kernel
theorem dMO_go_37 : decode cMO_go 37 = .ok (.ifCond .ne 5, 3) := by decide +kernel
theorem dMO_go_40 : decode cMO_go 40 = .ok (.iconst (-1), 1) := by decide +kernel
theorem dMO_go_41 : decode cMO_go 41 = .ok (.ireturn, 1) := by decide +kernel
theorem dMO_go_42 : decode cMO_go 42 = .ok (.aload_n 0, 1) := by decide +kernel
theorem dMO_go_43 : decode cMO_go 43 = .ok (.getfield 26, 3) := by decide +kernel
theorem dMO_go_46 : decode cMO_go 46 = .ok (.iload_n 1, 1) := by decide +kernel
theorem dMO_go_47 : decode cMO_go 47 = .ok (.baload, 1) := by decide +kernel
theorem dMO_go_48 : decode cMO_go 48 = .ok (.ifCond .eq 5, 3) := by decide +kernel
theorem dMO_go_51 : decode cMO_go 51 = .ok (.iconst 0, 1) := by decide +kernel
theorem dMO_go_52 : decode cMO_go 52 = .ok (.ireturn, 1) := by decide +kernel
theorem dMO_go_53 : decode cMO_go 53 = .ok (.aload_n 0, 1) := by decide +kernel
theorem dMO_go_54 : decode cMO_go 54 = .ok (.getfield 20, 3) := by decide +kernel
theorem dMO_go_57 : decode cMO_go 57 = .ok (.iload_n 1, 1) := by decide +kernel
theorem dMO_go_58 : decode cMO_go 58 = .ok (.iconst 1, 1) := by decide +kernel
theorem dMO_go_59 : decode cMO_go 59 = .ok (.iastore, 1) := by decide +kernel
theorem dMO_go_60 : decode cMO_go 60 = .ok (.aload_n 0, 1) := by decide +kernel
theorem dMO_go_61 : decode cMO_go 61 = .ok (.getfield 45, 3) := by decide +kernel
theorem dMO_go_64 : decode cMO_go 64 = .ok (.aload_n 0, 1) := by decide +kernel
theorem dMO_go_65 : decode cMO_go 65 = .ok (.getfield 96, 3) := by decide +kernel
theorem dMO_go_68 : decode cMO_go 68 = .ok (.iload_n 1, 1) := by decide +kernel
theorem dMO_go_69 : decode cMO_go 69 = .ok (.iastore, 1) := by decide +kernel
theorem dMO_go_70 : decode cMO_go 70 = .ok (.aload_n 0, 1) := by decide +kernel
theorem dMO_go_71 : decode cMO_go 71 = .ok (.dup, 1) := by decide +kernel
theorem dMO_go_72 : decode cMO_go 72 = .ok (.getfield 96, 3) := by decide +kernel
theorem dMO_go_75 : decode cMO_go 75 = .ok (.iconst 1, 1) := by decide +kernel
theorem dMO_go_76 : decode cMO_go 76 = .ok (.iadd, 1) := by decide +kernel
theorem dMO_go_77 : decode cMO_go 77 = .ok (.putfield 96, 3) := by decide +kernel
theorem dMO_go_80 : decode cMO_go 80 = .ok (.iconst 1, 1) := by decide +kernel
theorem dMO_go_81 : decode cMO_go 81 = .ok (.ireturn, 1) := by decide +kernel
theorem dMO_post_0 : decode cMO_post 0 = .ok (.aload_n 0, 1) := by decide +kernel
theorem dMO_post_1 : decode cMO_post 1 = .ok (.iconst 0, 1) := by decide +kernel
theorem dMO_post_2 : decode cMO_post 2 = .ok (.putfield 54, 3) := by decide +kernel
theorem dMO_post_5 : decode cMO_post 5 = .ok (.aload_n 0, 1) := by decide +kernel
theorem dMO_post_6 : decode cMO_post 6 = .ok (.iload_n 1, 1) := by decide +kernel
theorem dMO_post_7 : decode cMO_post 7 = .ok (.invokevirtual 81, 3) := by decide +kernel
theorem dMO_post_10 : decode cMO_post 10 = .ok (.ifCond .ne 6, 3) := by decide +kernel
theorem dMO_post_13 : decode cMO_post 13 = .ok (.ldc 113, 2) := by decide +kernel
theorem dMO_post_15 : decode cMO_post 15 = .ok (.ireturn, 1) := by decide +kernel
theorem dMO_post_16 : decode cMO_post 16 = .ok (.aload_n 0, 1) := by decide +kernel
theorem dMO_post_17 : decode cMO_post 17 = .ok (.getfield 20, 3) := by decide +kernel
theorem dMO_post_20 : decode cMO_post 20 = .ok (.iload_n 1, 1) := by decide +kernel
theorem dMO_post_21 : decode cMO_post 21 = .ok (.iaload, 1) := by decide +kernel
theorem dMO_post_22 : decode cMO_post 22 = .ok (.ifCond .ne 17, 3) := by decide +kernel
theorem dMO_post_25 : decode cMO_post 25 = .ok (.aload_n 0, 1) := by decide +kernel
theorem dMO_post_26 : decode cMO_post 26 = .ok (.getfield 23, 3) := by decide +kernel
theorem dMO_post_29 : decode cMO_post 29 = .ok (.iload_n 1, 1) := by decide +kernel
theorem dMO_post_30 : decode cMO_post 30 = .ok (.laload, 1) := by decide +kernel
theorem dMO_post_31 : decode cMO_post 31 = .ok (.aload_n 0, 1) := by decide +kernel
theorem dMO_post_32 : decode cMO_post 32 = .ok (.getfield 50, 3) := by decide +kernel
theorem dMO_post_35 : decode cMO_post 35 = .ok (.lcmp, 1) := by decide +kernel
theorem dMO_post_36 : decode cMO_post 36 = .ok (.ifCond .gt 6, 3) := by decide +kernel
theorem dMO_post_39 : decode cMO_post 39 = .ok (.ldc 76, 2) := by decide +kernel
theorem dMO_post_41 : decode cMO_post 41 = .ok (.ireturn, 1) := by decide +kernel
theorem dMO_post_42 : decode cMO_post 42 = .ok (.aload_n 0, 1) := by decide +kernel
theorem dMO_post_43 : decode cMO_post 43 = .ok (.iload_n 1, 1) := by decide +kernel
theorem dMO_post_44 : decode cMO_post 44 = .ok (.invokevirtual 114, 3) := by decide +kernel
theorem dMO_post_47 : decode cMO_post 47 = .ok (.istore_n 2, 1) := by decide +kernel
theorem dMO_post_48 : decode cMO_post 48 = .ok (.aload_n 0, 1) := by decide +kernel
theorem dMO_post_49 : decode cMO_post 49 = .ok (.iload_n 2, 1) := by decide +kernel
theorem dMO_post_50 : decode cMO_post 50 = .ok (.ifCond .ge 7, 3) := by decide +kernel
theorem dMO_post_53 : decode cMO_post 53 = .ok (.iconst 1, 1) := by decide +kernel
theorem dMO_post_54 : decode cMO_post 54 = .ok (.goto 4, 3) := by decide +kernel
theorem dMO_post_57 : decode cMO_post 57 = .ok (.iconst 0, 1) := by decide +kernel
theorem dMO_post_58 : decode cMO_post 58 = .ok (.putfield 54, 3) := by decide +kernel
theorem dMO_post_61 : decode cMO_post 61 = .ok (.iload_n 2, 1) := by decide +kernel
theorem dMO_post_62 : decode cMO_post 62 = .ok (.ifCond .ge 7, 3) := by decide +kernel
theorem dMO_post_65 : decode cMO_post 65 = .ok (.iconst 0, 1) := by decide +kernel
theorem dMO_post_66 : decode cMO_post 66 = .ok (.goto 4, 3) := by decide +kernel
theorem dMO_post_69 : decode cMO_post 69 = .ok (.iload_n 2, 1) := by decide +kernel
theorem dMO_post_70 : decode cMO_post 70 = .ok (.ireturn, 1) := by decide +kernel
theorem dMO_balance_0 : decode cMO_balance 0 = .ok (.aload_n 0, 1) := by decide +kernel
theorem dMO_balance_1 : decode cMO_balance 1 = .ok (.iconst 0, 1) := by decide +kernel
theorem dMO_balance_2 : decode cMO_balance 2 = .ok (.putfield 54, 3) := by decide +kernel
theorem dMO_balance_5 : decode cMO_balance 5 = .ok (.aload_n 0, 1) := by decide +kernel
theorem dMO_balance_6 : decode cMO_balance 6 = .ok (.iload_n 1, 1) := by decide +kernel
theorem dMO_balance_7 : decode cMO_balance 7 = .ok (.invokevirtual 85, 3) := by decide +kernel
theorem dMO_balance_10 : decode cMO_balance 10 = .ok (.ifCond .eq 12, 3) := by decide +kernel
theorem dMO_balance_13 : decode cMO_balance 13 = .ok (.aload_n 0, 1) := by decide +kernel
theorem dMO_balance_14 : decode cMO_balance 14 = .ok (.iload_n 1, 1) := by decide +kernel
theorem dMO_balance_15 : decode cMO_balance 15 = .ok (.lload_n 2, 1) := by decide +kernel
theorem dMO_balance_16 : decode cMO_balance 16 = .ok (.invokevirtual 105, 3) := by decide +kernel
theorem dMO_balance_19 : decode cMO_balance 19 = .ok (.goto 6, 3) := by decide +kernel
theorem dMO_balance_22 : decode cMO_balance 22 = .ok (.ldc2_w 117, 3) := by decide +kernel
theorem dMO_balance_25 : decode cMO_balance 25 = .ok (.lreturn, 1) := by decide +kernel
theorem dMO_close_0 : decode cMO_close 0 = .ok (.aload_n 0, 1) := by decide +kernel
theorem dMO_close_1 : decode cMO_close 1 = .ok (.iconst 0, 1) := by decide +kernel
theorem dMO_close_2 : decode cMO_close 2 = .ok (.putfield 54, 3) := by decide +kernel
theorem dMO_close_5 : decode cMO_close 5 = .ok (.lload_n 1, 1) := by decide +kernel
theorem dMO_close_6 : decode cMO_close 6 = .ok (.lconst 0, 1) := by decide +kernel
theorem dMO_close_7 : decode cMO_close 7 = .ok (.ldc2_w 74, 3) := by decide +kernel
theorem dMO_close_10 : decode cMO_close 10 = .ok (.invokestatic 61, 3) := by decide +kernel
theorem dMO_close_13 : decode cMO_close 13 = .ok (.ifCond .ne 6, 3) := by decide +kernel
theorem dMO_close_16 : decode cMO_close 16 = .ok (.ldc 72, 2) := by decide +kernel
theorem dMO_close_18 : decode cMO_close 18 = .ok (.ireturn, 1) := by decide +kernel
theorem dMO_close_19 : decode cMO_close 19 = .ok (.lload_n 1, 1) := by decide +kernel
theorem dMO_close_20 : decode cMO_close 20 = .ok (.aload_n 0, 1) := by decide +kernel
theorem dMO_close_21 : decode cMO_close 21 = .ok (.getfield 50, 3) := by decide +kernel
theorem dMO_close_24 : decode cMO_close 24 = .ok (.lcmp, 1) := by decide +kernel
theorem dMO_close_25 : decode cMO_close 25 = .ok (.ifCond .le 13, 3) := by decide +kernel
theorem dMO_close_28 : decode cMO_close 28 = .ok (.lload_n 1, 1) := by decide +kernel
theorem dMO_close_29 : decode cMO_close 29 = .ok (.aload_n 0, 1) := by decide +kernel
theorem dMO_close_30 : decode cMO_close 30 = .ok (.getfield 50, 3) := by decide +kernel
theorem dMO_close_33 : decode cMO_close 33 = .ok (.lsub, 1) := by decide +kernel
theorem dMO_close_34 : decode cMO_close 34 = .ok (.l2i, 1) := by decide +kernel
theorem dMO_close_35 : decode cMO_close 35 = .ok (.goto 4, 3) := by decide +kernel
theorem dMO_close_38 : decode cMO_close 38 = .ok (.iconst 0, 1) := by decide +kernel
theorem dMO_close_39 : decode cMO_close 39 = .ok (.istore_n 3, 1) := by decide +kernel
theorem dMO_close_40 : decode cMO_close 40 = .ok (.aload_n 0, 1) := by decide +kernel
theorem dMO_close_41 : decode cMO_close 41 = .ok (.aload_n 0, 1) := by decide +kernel
theorem dMO_close_42 : decode cMO_close 42 = .ok (.getfield 50, 3) := by decide +kernel
theorem dMO_close_45 : decode cMO_close 45 = .ok (.iload_n 3, 1) := by decide +kernel
theorem dMO_close_46 : decode cMO_close 46 = .ok (.i2l, 1) := by decide +kernel
theorem dMO_close_47 : decode cMO_close 47 = .ok (.ladd, 1) := by decide +kernel
theorem dMO_close_48 : decode cMO_close 48 = .ok (.putfield 50, 3) := by decide +kernel
theorem dMO_close_51 : decode cMO_close 51 = .ok (.iload_n 3, 1) := by decide +kernel
theorem dMO_close_52 : decode cMO_close 52 = .ok (.ireturn, 1) := by decide +kernel
theorem dMO_batchOf_0 : decode cMO_batchOf 0 = .ok (.iload_n 1, 1) := by decide +kernel
theorem dMO_batchOf_1 : decode cMO_batchOf 1 = .ok (.istore_n 2, 1) := by decide +kernel
theorem dMO_batchOf_2 : decode cMO_batchOf 2 = .ok (.iconst 0, 1) := by decide +kernel
theorem dMO_batchOf_3 : decode cMO_batchOf 3 = .ok (.istore_n 3, 1) := by decide +kernel
theorem dMO_batchOf_4 : decode cMO_batchOf 4 = .ok (.iload_n 3, 1) := by decide +kernel
theorem dMO_batchOf_5 : decode cMO_batchOf 5 = .ok (.aload_n 0, 1) := by decide +kernel
theorem dMO_batchOf_6 : decode cMO_batchOf 6 = .ok (.getfield 96, 3) := by decide +kernel
theorem dMO_batchOf_9 : decode cMO_batchOf 9 = .ok (.if_icmp .ge 38, 3) := by decide +kernel
theorem dMO_batchOf_12 : decode cMO_batchOf 12 = .ok (.iload_n 1, 1) := by decide +kernel
theorem dMO_batchOf_13 : decode cMO_batchOf 13 = .ok (.ifCond .le 34, 3) := by decide +kernel
theorem dMO_batchOf_16 : decode cMO_batchOf 16 = .ok (.iload_n 2, 1) := by decide +kernel
theorem dMO_batchOf_17 : decode cMO_batchOf 17 = .ok (.aload_n 0, 1) := by decide +kernel
theorem dMO_batchOf_18 : decode cMO_batchOf 18 = .ok (.getfield 36, 3) := by decide +kernel
theorem dMO_batchOf_21 : decode cMO_batchOf 21 = .ok (.aload_n 0, 1) := by decide +kernel
theorem dMO_batchOf_22 : decode cMO_batchOf 22 = .ok (.getfield 45, 3) := by decide +kernel
theorem dMO_batchOf_25 : decode cMO_batchOf 25 = .ok (.iload_n 3, 1) := by decide +kernel
theorem dMO_batchOf_26 : decode cMO_batchOf 26 = .ok (.iaload, 1) := by decide +kernel
theorem dMO_batchOf_27 : decode cMO_batchOf 27 = .ok (.iaload, 1) := by decide +kernel
theorem dMO_batchOf_28 : decode cMO_batchOf 28 = .ok (.isub, 1) := by decide +kernel
theorem dMO_batchOf_29 : decode cMO_batchOf 29 = .ok (.istore_n 2, 1) := by decide +kernel
theorem dMO_batchOf_30 : decode cMO_batchOf 30 = .ok (.iload_n 2, 1) := by decide +kernel
theorem dMO_batchOf_31 : decode cMO_batchOf 31 = .ok (.ifCond .gt 10, 3) := by decide +kernel
theorem dMO_batchOf_34 : decode cMO_batchOf 34 = .ok (.aload_n 0, 1) := by decide +kernel
theorem dMO_batchOf_35 : decode cMO_batchOf 35 = .ok (.getfield 45, 3) := by decide +kernel
theorem dMO_batchOf_38 : decode cMO_batchOf 38 = .ok (.iload_n 3, 1) := by decide +kernel
theorem dMO_batchOf_39 : decode cMO_batchOf 39 = .ok (.iaload, 1) := by decide +kernel
theorem dMO_batchOf_40 : decode cMO_batchOf 40 = .ok (.ireturn, 1) := by decide +kernel
theorem dMO_batchOf_41 : decode cMO_batchOf 41 = .ok (.iinc 3 1, 3) := by decide +kernel
theorem dMO_batchOf_44 : decode cMO_batchOf 44 = .ok (.goto (-40), 3) := by decide +kernel
theorem dMO_batchOf_47 : decode cMO_batchOf 47 = .ok (.iconst 0, 1) := by decide +kernel
theorem dMO_batchOf_48 : decode cMO_batchOf 48 = .ok (.ireturn, 1) := by decide +kernel
theorem dMO_reverse_0 : decode cMO_reverse 0 = .ok (.aload_n 0, 1) := by decide +kernel
theorem dMO_reverse_1 : decode cMO_reverse 1 = .ok (.iconst 0, 1) := by decide +kernel
theorem dMO_reverse_2 : decode cMO_reverse 2 = .ok (.putfield 54, 3) := by decide +kernel
theorem dMO_reverse_5 : decode cMO_reverse 5 = .ok (.aload_n 0, 1) := by decide +kernel
theorem dMO_reverse_6 : decode cMO_reverse 6 = .ok (.iload_n 1, 1) := by decide +kernel
theorem dMO_reverse_7 : decode cMO_reverse 7 = .ok (.invokevirtual 119, 3) := by decide +kernel
theorem dMO_reverse_10 : decode cMO_reverse 10 = .ok (.istore_n 2, 1) := by decide +kernel
theorem dMO_reverse_11 : decode cMO_reverse 11 = .ok (.iload_n 2, 1) := by decide +kernel
theorem dMO_reverse_12 : decode cMO_reverse 12 = .ok (.ifCond .eq 12, 3) := by decide +kernel
theorem dMO_reverse_15 : decode cMO_reverse 15 = .ok (.aload_n 0, 1) := by decide +kernel
theorem dMO_reverse_16 : decode cMO_reverse 16 = .ok (.getfield 33, 3) := by decide +kernel
theorem dMO_reverse_19 : decode cMO_reverse 19 = .ok (.iload_n 2, 1) := by decide +kernel
theorem dMO_reverse_20 : decode cMO_reverse 20 = .ok (.baload, 1) := by decide +kernel
theorem dMO_reverse_21 : decode cMO_reverse 21 = .ok (.ifCond .eq 5, 3) := by decide +kernel
theorem dMO_reverse_24 : decode cMO_reverse 24 = .ok (.iconst 0, 1) := by decide +kernel
theorem dMO_reverse_25 : decode cMO_reverse 25 = .ok (.ireturn, 1) := by decide +kernel
theorem dMO_reverse_26 : decode cMO_reverse 26 = .ok (.aload_n 0, 1) := by decide +kernel
theorem dMO_reverse_27 : decode cMO_reverse 27 = .ok (.getfield 65, 3) := by decide +kernel
theorem dMO_reverse_30 : decode cMO_reverse 30 = .ok (.sipush 300, 3) := by decide +kernel
theorem dMO_reverse_33 : decode cMO_reverse 33 = .ok (.if_icmp .ne 6, 3) := by decide +kernel
theorem dMO_reverse_36 : decode cMO_reverse 36 = .ok (.ldc 73, 2) := by decide +kernel
theorem dMO_reverse_38 : decode cMO_reverse 38 = .ok (.ireturn, 1) := by decide +kernel
theorem dMO_reverse_39 : decode cMO_reverse 39 = .ok (.aload_n 0, 1) := by decide +kernel
theorem dMO_reverse_40 : decode cMO_reverse 40 = .ok (.getfield 33, 3) := by decide +kernel
theorem dMO_reverse_43 : decode cMO_reverse 43 = .ok (.iload_n 2, 1) := by decide +kernel
theorem dMO_reverse_44 : decode cMO_reverse 44 = .ok (.iconst 1, 1) := by decide +kernel
theorem dMO_reverse_45 : decode cMO_reverse 45 = .ok (.bastore, 1) := by decide +kernel
theorem dMO_reverse_46 : decode cMO_reverse 46 = .ok (.aload_n 0, 1) := by decide +kernel
theorem dMO_reverse_47 : decode cMO_reverse 47 = .ok (.aload_n 0, 1) := by decide +kernel
theorem dMO_reverse_48 : decode cMO_reverse 48 = .ok (.getfield 23, 3) := by decide +kernel
theorem dMO_reverse_51 : decode cMO_reverse 51 = .ok (.iload_n 2, 1) := by decide +kernel
theorem dMO_reverse_52 : decode cMO_reverse 52 = .ok (.laload, 1) := by decide +kernel
theorem dMO_reverse_53 : decode cMO_reverse 53 = .ok (.aload_n 0, 1) := by decide +kernel
theorem dMO_reverse_54 : decode cMO_reverse 54 = .ok (.getfield 50, 3) := by decide +kernel
theorem dMO_reverse_57 : decode cMO_reverse 57 = .ok (.lcmp, 1) := by decide +kernel
theorem dMO_reverse_58 : decode cMO_reverse 58 = .ok (.ifCond .le 12, 3) := by decide +kernel
theorem dMO_reverse_61 : decode cMO_reverse 61 = .ok (.aload_n 0, 1) := by decide +kernel
theorem dMO_reverse_62 : decode cMO_reverse 62 = .ok (.getfield 23, 3) := by decide +kernel
theorem dMO_reverse_65 : decode cMO_reverse 65 = .ok (.iload_n 2, 1) := by decide +kernel
theorem dMO_reverse_66 : decode cMO_reverse 66 = .ok (.laload, 1) := by decide +kernel
theorem dMO_reverse_67 : decode cMO_reverse 67 = .ok (.goto 9, 3) := by decide +kernel
theorem dMO_reverse_70 : decode cMO_reverse 70 = .ok (.aload_n 0, 1) := by decide +kernel
theorem dMO_reverse_71 : decode cMO_reverse 71 = .ok (.getfield 50, 3) := by decide +kernel
theorem dMO_reverse_74 : decode cMO_reverse 74 = .ok (.lconst 1, 1) := by decide +kernel
theorem dMO_reverse_75 : decode cMO_reverse 75 = .ok (.ladd, 1) := by decide +kernel
theorem dMO_reverse_76 : decode cMO_reverse 76 = .ok (.invokevirtual 77, 3) := by decide +kernel
theorem dMO_reverse_79 : decode cMO_reverse 79 = .ok (.istore_n 3, 1) := by decide +kernel
theorem dMO_reverse_80 : decode cMO_reverse 80 = .ok (.aload_n 0, 1) := by decide +kernel
theorem dMO_reverse_81 : decode cMO_reverse 81 = .ok (.getfield 33, 3) := by decide +kernel
theorem dMO_reverse_84 : decode cMO_reverse 84 = .ok (.iload_n 3, 1) := by decide +kernel
theorem dMO_reverse_85 : decode cMO_reverse 85 = .ok (.iconst 1, 1) := by decide +kernel
theorem dMO_reverse_86 : decode cMO_reverse 86 = .ok (.bastore, 1) := by decide +kernel
theorem dMO_reverse_87 : decode cMO_reverse 87 = .ok (.aload_n 0, 1) := by decide +kernel
theorem dMO_reverse_88 : decode cMO_reverse 88 = .ok (.getfield 30, 3) := by decide +kernel
theorem dMO_reverse_91 : decode cMO_reverse 91 = .ok (.iload_n 3, 1) := by decide +kernel
theorem dMO_reverse_92 : decode cMO_reverse 92 = .ok (.iconst 1, 1) := by decide +kernel
theorem dMO_reverse_93 : decode cMO_reverse 93 = .ok (.bastore, 1) := by decide +kernel
theorem dMO_reverse_94 : decode cMO_reverse 94 = .ok (.iconst 0, 1) := by decide +kernel
theorem dMO_reverse_95 : decode cMO_reverse 95 = .ok (.istore 4, 2) := by decide +kernel
theorem dMO_reverse_97 : decode cMO_reverse 97 = .ok (.iload 4, 2) := by decide +kernel
theorem dMO_reverse_99 : decode cMO_reverse 99 = .ok (.aload_n 0, 1) := by decide +kernel
theorem dMO_reverse_100 : decode cMO_reverse 100 = .ok (.getfield 36, 3) := by decide +kernel
theorem dMO_reverse_103 : decode cMO_reverse 103 = .ok (.iload_n 2, 1) := by decide +kernel
theorem dMO_reverse_104 : decode cMO_reverse 104 = .ok (.iaload, 1) := by decide +kernel
theorem dMO_reverse_105 : decode cMO_reverse 105 = .ok (.if_icmp .ge 39, 3) := by decide +kernel
theorem dMO_reverse_108 : decode cMO_reverse 108 = .ok (.aload_n 0, 1) := by decide +kernel
theorem dMO_reverse_109 : decode cMO_reverse 109 = .ok (.iload_n 3, 1) := by decide +kernel
theorem dMO_reverse_110 : decode cMO_reverse 110 = .ok (.aload_n 0, 1) := by decide +kernel
theorem dMO_reverse_111 : decode cMO_reverse 111 = .ok (.getfield 39, 3) := by decide +kernel
theorem dMO_reverse_114 : decode cMO_reverse 114 = .ok (.bipush 12, 2) := by decide +kernel
theorem dMO_reverse_116 : decode cMO_reverse 116 = .ok (.iload_n 2, 1) := by decide +kernel
theorem dMO_reverse_117 : decode cMO_reverse 117 = .ok (.imul, 1) := by decide +kernel
theorem dMO_reverse_118 : decode cMO_reverse 118 = .ok (.iload 4, 2) := by decide +kernel
theorem dMO_reverse_120 : decode cMO_reverse 120 = .ok (.iadd, 1) := by decide +kernel
theorem dMO_reverse_121 : decode cMO_reverse 121 = .ok (.iaload, 1) := by decide +kernel
theorem dMO_reverse_122 : decode cMO_reverse 122 = .ok (.aload_n 0, 1) := by decide +kernel
theorem dMO_reverse_123 : decode cMO_reverse 123 = .ok (.getfield 42, 3) := by decide +kernel
theorem dMO_reverse_126 : decode cMO_reverse 126 = .ok (.bipush 12, 2) := by decide +kernel
theorem dMO_reverse_128 : decode cMO_reverse 128 = .ok (.iload_n 2, 1) := by decide +kernel
theorem dMO_reverse_129 : decode cMO_reverse 129 = .ok (.imul, 1) := by decide +kernel
theorem dMO_reverse_130 : decode cMO_reverse 130 = .ok (.iload 4, 2) := by decide +kernel
theorem dMO_reverse_132 : decode cMO_reverse 132 = .ok (.iadd, 1) := by decide +kernel
theorem dMO_reverse_133 : decode cMO_reverse 133 = .ok (.laload, 1) := by decide +kernel
theorem dMO_reverse_134 : decode cMO_reverse 134 = .ok (.lneg, 1) := by decide +kernel
theorem dMO_reverse_135 : decode cMO_reverse 135 = .ok (.invokevirtual 92, 3) := by decide +kernel
theorem dMO_reverse_138 : decode cMO_reverse 138 = .ok (.iinc 4 1, 3) := by decide +kernel
theorem dMO_reverse_141 : decode cMO_reverse 141 = .ok (.goto (-44), 3) := by decide +kernel
theorem dMO_reverse_144 : decode cMO_reverse 144 = .ok (.aload_n 0, 1) := by decide +kernel
theorem dMO_reverse_145 : decode cMO_reverse 145 = .ok (.iload_n 3, 1) := by decide +kernel
theorem dMO_reverse_146 : decode cMO_reverse 146 = .ok (.invokevirtual 114, 3) := by decide +kernel
theorem dMO_reverse_149 : decode cMO_reverse 149 = .ok (.ireturn, 1) := by decide +kernel
theorem dMO_first_0 : decode cMO_first 0 = .ok (.iconst 1, 1) := by decide +kernel
theorem dMO_first_1 : decode cMO_first 1 = .ok (.istore_n 3, 1) := by decide +kernel
theorem dMO_first_2 : decode cMO_first 2 = .ok (.iload_n 3, 1) := by decide +kernel
theorem dMO_first_3 : decode cMO_first 3 = .ok (.aload_n 0, 1) := by decide +kernel
theorem dMO_first_4 : decode cMO_first 4 = .ok (.getfield 58, 3) := by decide +kernel
theorem dMO_first_7 : decode cMO_first 7 = .ok (.if_icmp .gt 29, 3) := by decide +kernel
theorem dMO_first_10 : decode cMO_first 10 = .ok (.aload_n 0, 1) := by decide +kernel
theorem dMO_first_11 : decode cMO_first 11 = .ok (.getfield 7, 3) := by decide +kernel
theorem dMO_first_14 : decode cMO_first 14 = .ok (.iload_n 3, 1) := by decide +kernel
theorem dMO_first_15 : decode cMO_first 15 = .ok (.iaload, 1) := by decide +kernel
theorem dMO_first_16 : decode cMO_first 16 = .ok (.iload_n 1, 1) := by decide +kernel
theorem dMO_first_17 : decode cMO_first 17 = .ok (.if_icmp .ne 13, 3) := by decide +kernel
theorem dMO_first_20 : decode cMO_first 20 = .ok (.aload_n 0, 1) := by decide +kernel
theorem dMO_first_21 : decode cMO_first 21 = .ok (.getfield 13, 3) := by decide +kernel
theorem dMO_first_24 : decode cMO_first 24 = .ok (.iload_n 3, 1) := by decide +kernel
theorem dMO_first_25 : decode cMO_first 25 = .ok (.iaload, 1) := by decide +kernel
theorem dMO_first_26 : decode cMO_first 26 = .ok (.iload_n 2, 1) := by decide +kernel
theorem dMO_first_27 : decode cMO_first 27 = .ok (.if_icmp .eq 9, 3) := by decide +kernel
theorem dMO_first_30 : decode cMO_first 30 = .ok (.iinc 3 1, 3) := by decide +kernel
theorem dMO_first_33 : decode cMO_first 33 = .ok (.goto (-31), 3) := by decide +kernel
theorem dMO_first_36 : decode cMO_first 36 = .ok (.iload_n 3, 1) := by decide +kernel
theorem dMO_first_37 : decode cMO_first 37 = .ok (.aload_n 0, 1) := by decide +kernel
theorem dMO_first_38 : decode cMO_first 38 = .ok (.getfield 58, 3) := by decide +kernel
theorem dMO_first_41 : decode cMO_first 41 = .ok (.if_icmp .gt 7, 3) := by decide +kernel
theorem dMO_first_44 : decode cMO_first 44 = .ok (.iload_n 3, 1) := by decide +kernel
theorem dMO_first_45 : decode cMO_first 45 = .ok (.goto 4, 3) := by decide +kernel
theorem dMO_first_48 : decode cMO_first 48 = .ok (.iconst 0, 1) := by decide +kernel
theorem dMO_first_49 : decode cMO_first 49 = .ok (.ireturn, 1) := by decide +kernel
theorem dMO_stock_0 : decode cMO_stock 0 = .ok (.aload_n 0, 1) := by decide +kernel
theorem dMO_stock_1 : decode cMO_stock 1 = .ok (.iconst 0, 1) := by decide +kernel
theorem dMO_stock_2 : decode cMO_stock 2 = .ok (.putfield 54, 3) := by decide +kernel
theorem dMO_stock_5 : decode cMO_stock 5 = .ok (.iload_n 1, 1) := by decide +kernel
theorem dMO_stock_6 : decode cMO_stock 6 = .ok (.i2l, 1) := by decide +kernel
theorem dMO_stock_7 : decode cMO_stock 7 = .ok (.lconst 0, 1) := by decide +kernel
theorem dMO_stock_8 : decode cMO_stock 8 = .ok (.ldc2_w 68, 3) := by decide +kernel
theorem dMO_stock_11 : decode cMO_stock 11 = .ok (.invokestatic 61, 3) := by decide +kernel
theorem dMO_stock_14 : decode cMO_stock 14 = .ok (.ifCond .eq 28, 3) := by decide +kernel
theorem dMO_stock_17 : decode cMO_stock 17 = .ok (.iload_n 2, 1) := by decide +kernel
theorem dMO_stock_18 : decode cMO_stock 18 = .ok (.i2l, 1) := by decide +kernel
theorem dMO_stock_19 : decode cMO_stock 19 = .ok (.lconst 0, 1) := by decide +kernel
theorem dMO_stock_20 : decode cMO_stock 20 = .ok (.ldc2_w 122, 3) := by decide +kernel
theorem dMO_stock_23 : decode cMO_stock 23 = .ok (.invokestatic 61, 3) := by decide +kernel
theorem dMO_stock_26 : decode cMO_stock 26 = .ok (.ifCond .eq 16, 3) := by decide +kernel
theorem dMO_stock_29 : decode cMO_stock 29 = .ok (.lload_n 3, 1) := by decide +kernel
theorem dMO_stock_30 : decode cMO_stock 30 = .ok (.ldc2_w 88, 3) := by decide +kernel
theorem dMO_stock_33 : decode cMO_stock 33 = .ok (.ldc2_w 90, 3) := by decide +kernel
theorem dMO_stock_36 : decode cMO_stock 36 = .ok (.invokestatic 61, 3) := by decide +kernel
theorem dMO_stock_39 : decode cMO_stock 39 = .ok (.ifCond .ne 6, 3) := by decide +kernel
theorem dMO_stock_42 : decode cMO_stock 42 = .ok (.ldc 72, 2) := by decide +kernel
theorem dMO_stock_44 : decode cMO_stock 44 = .ok (.ireturn, 1) := by decide +kernel
theorem dMO_stock_45 : decode cMO_stock 45 = .ok (.lconst 0, 1) := by decide +kernel
theorem dMO_stock_46 : decode cMO_stock 46 = .ok (.lstore 5, 2) := by decide +kernel
theorem dMO_stock_48 : decode cMO_stock 48 = .ok (.iconst 1, 1) := by decide +kernel
theorem dMO_stock_49 : decode cMO_stock 49 = .ok (.istore 7, 2) := by decide +kernel
theorem dMO_stock_51 : decode cMO_stock 51 = .ok (.iload 7, 2) := by decide +kernel
theorem dMO_stock_53 : decode cMO_stock 53 = .ok (.aload_n 0, 1) := by decide +kernel
theorem dMO_stock_54 : decode cMO_stock 54 = .ok (.getfield 58, 3) := by decide +kernel
theorem dMO_stock_57 : decode cMO_stock 57 = .ok (.if_icmp .gt 50, 3) := by decide +kernel
theorem dMO_stock_60 : decode cMO_stock 60 = .ok (.aload_n 0, 1) := by decide +kernel
theorem dMO_stock_61 : decode cMO_stock 61 = .ok (.getfield 7, 3) := by decide +kernel
theorem dMO_stock_64 : decode cMO_stock 64 = .ok (.iload 7, 2) := by decide +kernel
theorem dMO_stock_66 : decode cMO_stock 66 = .ok (.iaload, 1) := by decide +kernel
theorem dMO_stock_67 : decode cMO_stock 67 = .ok (.iload_n 1, 1) := by decide +kernel
theorem dMO_stock_68 : decode cMO_stock 68 = .ok (.if_icmp .ne 29, 3) := by decide +kernel
theorem dMO_stock_71 : decode cMO_stock 71 = .ok (.aload_n 0, 1) := by decide +kernel
theorem dMO_stock_72 : decode cMO_stock 72 = .ok (.getfield 13, 3) := by decide +kernel
theorem dMO_stock_75 : decode cMO_stock 75 = .ok (.iload 7, 2) := by decide +kernel
theorem dMO_stock_77 : decode cMO_stock 77 = .ok (.iaload, 1) := by decide +kernel
theorem dMO_stock_78 : decode cMO_stock 78 = .ok (.iload_n 2, 1) := by decide +kernel
theorem dMO_stock_79 : decode cMO_stock 79 = .ok (.if_icmp .ne 18, 3) := by decide +kernel
theorem dMO_stock_82 : decode cMO_stock 82 = .ok (.lload 5, 2) := by decide +kernel
theorem dMO_stock_84 : decode cMO_stock 84 = .ok (.aload_n 0, 1) := by decide +kernel
theorem dMO_stock_85 : decode cMO_stock 85 = .ok (.iload 7, 2) := by decide +kernel
theorem dMO_stock_87 : decode cMO_stock 87 = .ok (.ldc2_w 103, 3) := by decide +kernel
theorem dMO_stock_90 : decode cMO_stock 90 = .ok (.invokevirtual 105, 3) := by decide +kernel
theorem dMO_stock_93 : decode cMO_stock 93 = .ok (.ladd, 1) := by decide +kernel
theorem dMO_stock_94 : decode cMO_stock 94 = .ok (.goto 5, 3) := by decide +kernel
theorem dMO_stock_97 : decode cMO_stock 97 = .ok (.lload 5, 2) := by decide +kernel
theorem dMO_stock_99 : decode cMO_stock 99 = .ok (.lstore 5, 2) := by decide +kernel
theorem dMO_stock_101 : decode cMO_stock 101 = .ok (.iinc 7 1, 3) := by decide +kernel
theorem dMO_stock_104 : decode cMO_stock 104 = .ok (.goto (-53), 3) := by decide +kernel
theorem dMO_stock_107 : decode cMO_stock 107 = .ok (.lload_n 3, 1) := by decide +kernel
theorem dMO_stock_108 : decode cMO_stock 108 = .ok (.lload 5, 2) := by decide +kernel
theorem dMO_stock_110 : decode cMO_stock 110 = .ok (.lsub, 1) := by decide +kernel
theorem dMO_stock_111 : decode cMO_stock 111 = .ok (.lstore 7, 2) := by decide +kernel
theorem dMO_stock_113 : decode cMO_stock 113 = .ok (.lload 7, 2) := by decide +kernel
theorem dMO_stock_115 : decode cMO_stock 115 = .ok (.lconst 0, 1) := by decide +kernel
theorem dMO_stock_116 : decode cMO_stock 116 = .ok (.lcmp, 1) := by decide +kernel
theorem dMO_stock_117 : decode cMO_stock 117 = .ok (.ifCond .ne 5, 3) := by decide +kernel
theorem dMO_stock_120 : decode cMO_stock 120 = .ok (.iconst 0, 1) := by decide +kernel
theorem dMO_stock_121 : decode cMO_stock 121 = .ok (.ireturn, 1) := by decide +kernel
theorem dMO_stock_122 : decode cMO_stock 122 = .ok (.aload_n 0, 1) := by decide +kernel
theorem dMO_stock_123 : decode cMO_stock 123 = .ok (.iload_n 1, 1) := by decide +kernel
theorem dMO_stock_124 : decode cMO_stock 124 = .ok (.iload_n 2, 1) := by decide +kernel
theorem dMO_stock_125 : decode cMO_stock 125 = .ok (.invokevirtual 124, 3) := by decide +kernel
theorem dMO_stock_128 : decode cMO_stock 128 = .ok (.ifCond .eq 26, 3) := by decide +kernel
theorem dMO_stock_131 : decode cMO_stock 131 = .ok (.aload_n 0, 1) := by decide +kernel
theorem dMO_stock_132 : decode cMO_stock 132 = .ok (.iload_n 1, 1) := by decide +kernel
theorem dMO_stock_133 : decode cMO_stock 133 = .ok (.iconst 5, 1) := by decide +kernel
theorem dMO_stock_134 : decode cMO_stock 134 = .ok (.invokevirtual 124, 3) := by decide +kernel
theorem dMO_stock_137 : decode cMO_stock 137 = .ok (.ifCond .eq 17, 3) := by decide +kernel
theorem dMO_stock_140 : decode cMO_stock 140 = .ok (.lload 7, 2) := by decide +kernel
theorem dMO_stock_142 : decode cMO_stock 142 = .ok (.ldc2_w 128, 3) := by decide +kernel
theorem dMO_stock_145 : decode cMO_stock 145 = .ok (.ldc2_w 130, 3) := by decide +kernel
theorem dMO_stock_148 : decode cMO_stock 148 = .ok (.invokestatic 61, 3) := by decide +kernel
theorem dMO_stock_151 : decode cMO_stock 151 = .ok (.ifCond .ne 6, 3) := by decide +kernel
theorem dMO_stock_154 : decode cMO_stock 154 = .ok (.ldc 76, 2) := by decide +kernel
theorem dMO_stock_156 : decode cMO_stock 156 = .ok (.ireturn, 1) := by decide +kernel
theorem dMO_stock_157 : decode cMO_stock 157 = .ok (.aload_n 0, 1) := by decide +kernel
theorem dMO_stock_158 : decode cMO_stock 158 = .ok (.getfield 65, 3) := by decide +kernel
theorem dMO_stock_161 : decode cMO_stock 161 = .ok (.sipush 300, 3) := by decide +kernel
theorem dMO_stock_164 : decode cMO_stock 164 = .ok (.if_icmp .ne 6, 3) := by decide +kernel
theorem dMO_stock_167 : decode cMO_stock 167 = .ok (.ldc 73, 2) := by decide +kernel
theorem dMO_stock_169 : decode cMO_stock 169 = .ok (.ireturn, 1) := by decide +kernel
theorem dMO_stock_170 : decode cMO_stock 170 = .ok (.aload_n 0, 1) := by decide +kernel
theorem dMO_stock_171 : decode cMO_stock 171 = .ok (.aload_n 0, 1) := by decide +kernel
theorem dMO_stock_172 : decode cMO_stock 172 = .ok (.getfield 50, 3) := by decide +kernel
theorem dMO_stock_175 : decode cMO_stock 175 = .ok (.lconst 1, 1) := by decide +kernel
theorem dMO_stock_176 : decode cMO_stock 176 = .ok (.ladd, 1) := by decide +kernel
theorem dMO_stock_177 : decode cMO_stock 177 = .ok (.invokevirtual 77, 3) := by decide +kernel
theorem dMO_stock_180 : decode cMO_stock 180 = .ok (.istore 9, 2) := by decide +kernel
theorem dMO_stock_182 : decode cMO_stock 182 = .ok (.aload_n 0, 1) := by decide +kernel
theorem dMO_stock_183 : decode cMO_stock 183 = .ok (.getfield 30, 3) := by decide +kernel
theorem dMO_stock_186 : decode cMO_stock 186 = .ok (.iload 9, 2) := by decide +kernel
theorem dMO_stock_188 : decode cMO_stock 188 = .ok (.iconst 1, 1) := by decide +kernel
theorem dMO_stock_189 : decode cMO_stock 189 = .ok (.bastore, 1) := by decide +kernel
theorem dMO_stock_190 : decode cMO_stock 190 = .ok (.aload_n 0, 1) := by decide +kernel
theorem dMO_stock_191 : decode cMO_stock 191 = .ok (.iload 9, 2) := by decide +kernel
theorem dMO_stock_193 : decode cMO_stock 193 = .ok (.aload_n 0, 1) := by decide +kernel
theorem dMO_stock_194 : decode cMO_stock 194 = .ok (.iload_n 1, 1) := by decide +kernel
theorem dMO_stock_195 : decode cMO_stock 195 = .ok (.iload_n 2, 1) := by decide +kernel
theorem dMO_stock_196 : decode cMO_stock 196 = .ok (.invokevirtual 124, 3) := by decide +kernel
theorem dMO_stock_199 : decode cMO_stock 199 = .ok (.lload 7, 2) := by decide +kernel
theorem dMO_stock_201 : decode cMO_stock 201 = .ok (.invokevirtual 92, 3) := by decide +kernel
theorem dMO_stock_204 : decode cMO_stock 204 = .ok (.aload_n 0, 1) := by decide +kernel
theorem dMO_stock_205 : decode cMO_stock 205 = .ok (.iload 9, 2) := by decide +kernel
theorem dMO_stock_207 : decode cMO_stock 207 = .ok (.aload_n 0, 1) := by decide +kernel
theorem dMO_stock_208 : decode cMO_stock 208 = .ok (.iload_n 1, 1) := by decide +kernel
theorem dMO_stock_209 : decode cMO_stock 209 = .ok (.iconst 5, 1) := by decide +kernel
theorem dMO_stock_210 : decode cMO_stock 210 = .ok (.invokevirtual 124, 3) := by decide +kernel
theorem dMO_stock_213 : decode cMO_stock 213 = .ok (.lload 7, 2) := by decide +kernel
theorem dMO_stock_215 : decode cMO_stock 215 = .ok (.lneg, 1) := by decide +kernel
theorem dMO_stock_216 : decode cMO_stock 216 = .ok (.invokevirtual 92, 3) := by decide +kernel
theorem dMO_stock_219 : decode cMO_stock 219 = .ok (.aload_n 0, 1) := by decide +kernel
theorem dMO_stock_220 : decode cMO_stock 220 = .ok (.iload 9, 2) := by decide +kernel
theorem dMO_stock_222 : decode cMO_stock 222 = .ok (.invokevirtual 114, 3) := by decide +kernel
theorem dMO_stock_225 : decode cMO_stock 225 = .ok (.istore 10, 2) := by decide +kernel
theorem dMO_stock_227 : decode cMO_stock 227 = .ok (.iload 10, 2) := by decide +kernel
theorem dMO_stock_229 : decode cMO_stock 229 = .ok (.ifCond .le 9, 3) := by decide +kernel
theorem dMO_stock_232 : decode cMO_stock 232 = .ok (.lload 7, 2) := by decide +kernel
theorem dMO_stock_234 : decode cMO_stock 234 = .ok (.l2i, 1) := by decide +kernel
theorem dMO_stock_235 : decode cMO_stock 235 = .ok (.goto 4, 3) := by decide +kernel
theorem dMO_stock_238 : decode cMO_stock 238 = .ok (.iconst 0, 1) := by decide +kernel
theorem dMO_stock_239 : decode cMO_stock 239 = .ok (.ireturn, 1) := by decide +kernel
theorem dMO_limit_0 : decode cMO_limit 0 = .ok (.aload_n 0, 1) := by decide +kernel
theorem dMO_limit_1 : decode cMO_limit 1 = .ok (.iconst 0, 1) := by decide +kernel
theorem dMO_limit_2 : decode cMO_limit 2 = .ok (.putfield 54, 3) := by decide +kernel
theorem dMO_limit_5 : decode cMO_limit 5 = .ok (.aload_n 0, 1) := by decide +kernel
theorem dMO_limit_6 : decode cMO_limit 6 = .ok (.iload_n 1, 1) := by decide +kernel
theorem dMO_limit_7 : decode cMO_limit 7 = .ok (.invokevirtual 85, 3) := by decide +kernel
theorem dMO_limit_10 : decode cMO_limit 10 = .ok (.ifCond .ne 6, 3) := by decide +kernel
theorem dMO_limit_13 : decode cMO_limit 13 = .ok (.ldc 113, 2) := by decide +kernel
theorem dMO_limit_15 : decode cMO_limit 15 = .ok (.ireturn, 1) := by decide +kernel
theorem dMO_limit_16 : decode cMO_limit 16 = .ok (.lload_n 2, 1) := by decide +kernel
theorem dMO_limit_17 : decode cMO_limit 17 = .ok (.lconst 0, 1) := by decide +kernel
theorem dMO_limit_18 : decode cMO_limit 18 = .ok (.ldc2_w 90, 3) := by decide +kernel
theorem dMO_limit_21 : decode cMO_limit 21 = .ok (.invokestatic 61, 3) := by decide +kernel
theorem dMO_limit_24 : decode cMO_limit 24 = .ok (.ifCond .ne 6, 3) := by decide +kernel
theorem dMO_limit_27 : decode cMO_limit 27 = .ok (.ldc 72, 2) := by decide +kernel
theorem dMO_limit_29 : decode cMO_limit 29 = .ok (.ireturn, 1) := by decide +kernel
theorem dMO_limit_30 : decode cMO_limit 30 = .ok (.aload_n 0, 1) := by decide +kernel
theorem dMO_limit_31 : decode cMO_limit 31 = .ok (.getfield 16, 3) := by decide +kernel
theorem dMO_limit_34 : decode cMO_limit 34 = .ok (.iload_n 1, 1) := by decide +kernel
theorem dMO_limit_35 : decode cMO_limit 35 = .ok (.laload, 1) := by decide +kernel
theorem dMO_limit_36 : decode cMO_limit 36 = .ok (.l2i, 1) := by decide +kernel
theorem dMO_limit_37 : decode cMO_limit 37 = .ok (.istore 4, 2) := by decide +kernel
theorem dMO_limit_39 : decode cMO_limit 39 = .ok (.aload_n 0, 1) := by decide +kernel
theorem dMO_limit_40 : decode cMO_limit 40 = .ok (.getfield 16, 3) := by decide +kernel
theorem dMO_limit_43 : decode cMO_limit 43 = .ok (.iload_n 1, 1) := by decide +kernel
theorem dMO_limit_44 : decode cMO_limit 44 = .ok (.lload_n 2, 1) := by decide +kernel
theorem dMO_limit_45 : decode cMO_limit 45 = .ok (.lastore, 1) := by decide +kernel
theorem dMO_limit_46 : decode cMO_limit 46 = .ok (.iload 4, 2) := by decide +kernel
theorem dMO_limit_48 : decode cMO_limit 48 = .ok (.ireturn, 1) := by decide +kernel
theorem dMO_fails_0 : decode cMO_fails 0 = .ok (.aload_n 0, 1) := by decide +kernel
theorem dMO_fails_1 : decode cMO_fails 1 = .ok (.iconst 0, 1) := by decide +kernel
theorem dMO_fails_2 : decode cMO_fails 2 = .ok (.putfield 54, 3) := by decide +kernel
theorem dMO_fails_5 : decode cMO_fails 5 = .ok (.aload_n 0, 1) := by decide +kernel
theorem dMO_fails_6 : decode cMO_fails 6 = .ok (.iload_n 1, 1) := by decide +kernel
theorem dMO_fails_7 : decode cMO_fails 7 = .ok (.invokevirtual 81, 3) := by decide +kernel
theorem dMO_fails_10 : decode cMO_fails 10 = .ok (.ifCond .eq 12, 3) := by decide +kernel
theorem dMO_fails_13 : decode cMO_fails 13 = .ok (.aload_n 0, 1) := by decide +kernel
theorem dMO_fails_14 : decode cMO_fails 14 = .ok (.getfield 20, 3) := by decide +kernel
theorem dMO_fails_17 : decode cMO_fails 17 = .ok (.iload_n 1, 1) := by decide +kernel
theorem dMO_fails_18 : decode cMO_fails 18 = .ok (.iaload, 1) := by decide +kernel
theorem dMO_fails_19 : decode cMO_fails 19 = .ok (.ifCond .eq 5, 3) := by decide +kernel
theorem dMO_fails_22 : decode cMO_fails 22 = .ok (.iconst 0, 1) := by decide +kernel
theorem dMO_fails_23 : decode cMO_fails 23 = .ok (.ireturn, 1) := by decide +kernel
theorem dMO_fails_24 : decode cMO_fails 24 = .ok (.aload_n 0, 1) := by decide +kernel
theorem dMO_fails_25 : decode cMO_fails 25 = .ok (.getfield 26, 3) := by decide +kernel
theorem dMO_fails_28 : decode cMO_fails 28 = .ok (.iload_n 1, 1) := by decide +kernel
theorem dMO_fails_29 : decode cMO_fails 29 = .ok (.baload, 1) := by decide +kernel
theorem dMO_fails_30 : decode cMO_fails 30 = .ok (.iload_n 2, 1) := by decide +kernel
theorem dMO_fails_31 : decode cMO_fails 31 = .ok (.if_icmp .eq 7, 3) := by decide +kernel
theorem dMO_fails_34 : decode cMO_fails 34 = .ok (.iconst 1, 1) := by decide +kernel
theorem dMO_fails_35 : decode cMO_fails 35 = .ok (.goto 4, 3) := by decide +kernel
theorem dMO_fails_38 : decode cMO_fails 38 = .ok (.iconst 0, 1) := by decide +kernel
theorem dMO_fails_39 : decode cMO_fails 39 = .ok (.istore_n 3, 1) := by decide +kernel
theorem dMO_fails_40 : decode cMO_fails 40 = .ok (.aload_n 0, 1) := by decide +kernel
theorem dMO_fails_41 : decode cMO_fails 41 = .ok (.getfield 26, 3) := by decide +kernel
theorem dMO_fails_44 : decode cMO_fails 44 = .ok (.iload_n 1, 1) := by decide +kernel
theorem dMO_fails_45 : decode cMO_fails 45 = .ok (.iload_n 2, 1) := by decide +kernel
theorem dMO_fails_46 : decode cMO_fails 46 = .ok (.bastore, 1) := by decide +kernel
theorem dMO_fails_47 : decode cMO_fails 47 = .ok (.iload_n 3, 1) := by decide +kernel
theorem dMO_fails_48 : decode cMO_fails 48 = .ok (.ireturn, 1) := by decide +kernel
theorem dMO_hold_0 : decode cMO_hold 0 = .ok (.aload_n 0, 1) := by decide +kernel
theorem dMO_hold_1 : decode cMO_hold 1 = .ok (.iconst 0, 1) := by decide +kernel
theorem dMO_hold_2 : decode cMO_hold 2 = .ok (.putfield 54, 3) := by decide +kernel
theorem dMO_hold_5 : decode cMO_hold 5 = .ok (.aload_n 0, 1) := by decide +kernel
theorem dMO_hold_6 : decode cMO_hold 6 = .ok (.iload_n 1, 1) := by decide +kernel
theorem dMO_hold_7 : decode cMO_hold 7 = .ok (.invokevirtual 85, 3) := by decide +kernel
theorem dMO_hold_10 : decode cMO_hold 10 = .ok (.ifCond .ne 7, 3) := by decide +kernel
theorem dMO_hold_13 : decode cMO_hold 13 = .ok (.ldc2_w 117, 3) := by decide +kernel
theorem dMO_hold_16 : decode cMO_hold 16 = .ok (.lreturn, 1) := by decide +kernel
theorem dMO_hold_17 : decode cMO_hold 17 = .ok (.lconst 0, 1) := by decide +kernel
theorem dMO_hold_18 : decode cMO_hold 18 = .ok (.lstore_n 2, 1) := by decide +kernel
theorem dMO_hold_19 : decode cMO_hold 19 = .ok (.iconst 1, 1) := by decide +kernel
theorem dMO_hold_20 : decode cMO_hold 20 = .ok (.istore 4, 2) := by decide +kernel
theorem dMO_hold_22 : decode cMO_hold 22 = .ok (.iload 4, 2) := by decide +kernel
theorem dMO_hold_24 : decode cMO_hold 24 = .ok (.aload_n 0, 1) := by decide +kernel
theorem dMO_hold_25 : decode cMO_hold 25 = .ok (.getfield 65, 3) := by decide +kernel
theorem dMO_hold_28 : decode cMO_hold 28 = .ok (.if_icmp .gt 88, 3) := by decide +kernel
theorem dMO_hold_31 : decode cMO_hold 31 = .ok (.iconst 0, 1) := by decide +kernel
theorem dMO_hold_32 : decode cMO_hold 32 = .ok (.istore 5, 2) := by decide +kernel
theorem dMO_hold_34 : decode cMO_hold 34 = .ok (.iload 5, 2) := by decide +kernel
theorem dMO_hold_36 : decode cMO_hold 36 = .ok (.aload_n 0, 1) := by decide +kernel
theorem dMO_hold_37 : decode cMO_hold 37 = .ok (.getfield 36, 3) := by decide +kernel
theorem dMO_hold_40 : decode cMO_hold 40 = .ok (.iload 4, 2) := by decide +kernel
theorem dMO_hold_42 : decode cMO_hold 42 = .ok (.iaload, 1) := by decide +kernel
theorem dMO_hold_43 : decode cMO_hold 43 = .ok (.if_icmp .ge 67, 3) := by decide +kernel
theorem dMO_hold_46 : decode cMO_hold 46 = .ok (.aload_n 0, 1) := by decide +kernel
theorem dMO_hold_47 : decode cMO_hold 47 = .ok (.getfield 20, 3) := by decide +kernel
theorem dMO_hold_50 : decode cMO_hold 50 = .ok (.iload 4, 2) := by decide +kernel
theorem dMO_hold_52 : decode cMO_hold 52 = .ok (.iaload, 1) := by decide +kernel
theorem dMO_hold_53 : decode cMO_hold 53 = .ok (.ifCond .ne 57, 3) := by decide +kernel
theorem dMO_hold_56 : decode cMO_hold 56 = .ok (.aload_n 0, 1) := by decide +kernel
theorem dMO_hold_57 : decode cMO_hold 57 = .ok (.getfield 42, 3) := by decide +kernel
theorem dMO_hold_60 : decode cMO_hold 60 = .ok (.bipush 12, 2) := by decide +kernel
theorem dMO_hold_62 : decode cMO_hold 62 = .ok (.iload 4, 2) := by decide +kernel
theorem dMO_hold_64 : decode cMO_hold 64 = .ok (.imul, 1) := by decide +kernel
theorem dMO_hold_65 : decode cMO_hold 65 = .ok (.iload 5, 2) := by decide +kernel
theorem dMO_hold_67 : decode cMO_hold 67 = .ok (.iadd, 1) := by decide +kernel
theorem dMO_hold_68 : decode cMO_hold 68 = .ok (.laload, 1) := by decide +kernel
theorem dMO_hold_69 : decode cMO_hold 69 = .ok (.lstore 6, 2) := by decide +kernel
theorem dMO_hold_71 : decode cMO_hold 71 = .ok (.aload_n 0, 1) := by decide +kernel
theorem dMO_hold_72 : decode cMO_hold 72 = .ok (.getfield 39, 3) := by decide +kernel
theorem dMO_hold_75 : decode cMO_hold 75 = .ok (.bipush 12, 2) := by decide +kernel
theorem dMO_hold_77 : decode cMO_hold 77 = .ok (.iload 4, 2) := by decide +kernel
theorem dMO_hold_79 : decode cMO_hold 79 = .ok (.imul, 1) := by decide +kernel
theorem dMO_hold_80 : decode cMO_hold 80 = .ok (.iload 5, 2) := by decide +kernel
theorem dMO_hold_82 : decode cMO_hold 82 = .ok (.iadd, 1) := by decide +kernel
theorem dMO_hold_83 : decode cMO_hold 83 = .ok (.iaload, 1) := by decide +kernel
theorem dMO_hold_84 : decode cMO_hold 84 = .ok (.iload_n 1, 1) := by decide +kernel
theorem dMO_hold_85 : decode cMO_hold 85 = .ok (.if_icmp .ne 17, 3) := by decide +kernel
theorem dMO_hold_88 : decode cMO_hold 88 = .ok (.lload 6, 2) := by decide +kernel
theorem dMO_hold_90 : decode cMO_hold 90 = .ok (.lconst 0, 1) := by decide +kernel
theorem dMO_hold_91 : decode cMO_hold 91 = .ok (.lcmp, 1) := by decide +kernel
theorem dMO_hold_92 : decode cMO_hold 92 = .ok (.ifCond .ge 10, 3) := by decide +kernel
theorem dMO_hold_95 : decode cMO_hold 95 = .ok (.lload_n 2, 1) := by decide +kernel
theorem dMO_hold_96 : decode cMO_hold 96 = .ok (.lload 6, 2) := by decide +kernel
theorem dMO_hold_98 : decode cMO_hold 98 = .ok (.lsub, 1) := by decide +kernel
theorem dMO_hold_99 : decode cMO_hold 99 = .ok (.goto 4, 3) := by decide +kernel
theorem dMO_hold_102 : decode cMO_hold 102 = .ok (.lload_n 2, 1) := by decide +kernel
theorem dMO_hold_103 : decode cMO_hold 103 = .ok (.lstore_n 2, 1) := by decide +kernel
theorem dMO_hold_104 : decode cMO_hold 104 = .ok (.iinc 5 1, 3) := by decide +kernel
theorem dMO_hold_107 : decode cMO_hold 107 = .ok (.goto (-73), 3) := by decide +kernel
theorem dMO_hold_110 : decode cMO_hold 110 = .ok (.iinc 4 1, 3) := by decide +kernel
theorem dMO_hold_113 : decode cMO_hold 113 = .ok (.goto (-91), 3) := by decide +kernel
theorem dMO_hold_116 : decode cMO_hold 116 = .ok (.lload_n 2, 1) := by decide +kernel
theorem dMO_hold_117 : decode cMO_hold 117 = .ok (.lreturn, 1) := by decide +kernel
theorem dMO_rows_0 : decode cMO_rows 0 = .ok (.aload_n 0, 1) := by decide +kernel
theorem dMO_rows_1 : decode cMO_rows 1 = .ok (.iconst 0, 1) := by decide +kernel
theorem dMO_rows_2 : decode cMO_rows 2 = .ok (.putfield 54, 3) := by decide +kernel
theorem dMO_rows_5 : decode cMO_rows 5 = .ok (.iconst 0, 1) := by decide +kernel
theorem dMO_rows_6 : decode cMO_rows 6 = .ok (.istore_n 1, 1) := by decide +kernel
theorem dMO_rows_7 : decode cMO_rows 7 = .ok (.iconst 0, 1) := by decide +kernel
theorem dMO_rows_8 : decode cMO_rows 8 = .ok (.istore_n 2, 1) := by decide +kernel
theorem dMO_rows_9 : decode cMO_rows 9 = .ok (.iload_n 2, 1) := by decide +kernel
theorem dMO_rows_10 : decode cMO_rows 10 = .ok (.aload_n 0, 1) := by decide +kernel
theorem dMO_rows_11 : decode cMO_rows 11 = .ok (.getfield 96, 3) := by decide +kernel
theorem dMO_rows_14 : decode cMO_rows 14 = .ok (.if_icmp .ge 23, 3) := by decide +kernel
theorem dMO_rows_17 : decode cMO_rows 17 = .ok (.iload_n 1, 1) := by decide +kernel
theorem dMO_rows_18 : decode cMO_rows 18 = .ok (.aload_n 0, 1) := by decide +kernel
theorem dMO_rows_19 : decode cMO_rows 19 = .ok (.getfield 36, 3) := by decide +kernel
theorem dMO_rows_22 : decode cMO_rows 22 = .ok (.aload_n 0, 1) := by decide +kernel
theorem dMO_rows_23 : decode cMO_rows 23 = .ok (.getfield 45, 3) := by decide +kernel
theorem dMO_rows_26 : decode cMO_rows 26 = .ok (.iload_n 2, 1) := by decide +kernel
theorem dMO_rows_27 : decode cMO_rows 27 = .ok (.iaload, 1) := by decide +kernel
theorem dMO_rows_28 : decode cMO_rows 28 = .ok (.iaload, 1) := by decide +kernel
theorem dMO_rows_29 : decode cMO_rows 29 = .ok (.iadd, 1) := by decide +kernel
theorem dMO_rows_30 : decode cMO_rows 30 = .ok (.istore_n 1, 1) := by decide +kernel
theorem dMO_rows_31 : decode cMO_rows 31 = .ok (.iinc 2 1, 3) := by decide +kernel
theorem dMO_rows_34 : decode cMO_rows 34 = .ok (.goto (-25), 3) := by decide +kernel
theorem dMO_rows_37 : decode cMO_rows 37 = .ok (.iload_n 1, 1) := by decide +kernel
theorem dMO_rows_38 : decode cMO_rows 38 = .ok (.ireturn, 1) := by decide +kernel
theorem dMO_all_0 : decode cMO_all 0 = .ok (.aload_n 0, 1) := by decide +kernel
theorem dMO_all_1 : decode cMO_all 1 = .ok (.iconst 0, 1) := by decide +kernel
theorem dMO_all_2 : decode cMO_all 2 = .ok (.putfield 54, 3) := by decide +kernel
theorem dMO_all_5 : decode cMO_all 5 = .ok (.lconst 0, 1) := by decide +kernel
theorem dMO_all_6 : decode cMO_all 6 = .ok (.lstore_n 1, 1) := by decide +kernel
theorem dMO_all_7 : decode cMO_all 7 = .ok (.iconst 1, 1) := by decide +kernel
theorem dMO_all_8 : decode cMO_all 8 = .ok (.istore_n 3, 1) := by decide +kernel
theorem dMO_all_9 : decode cMO_all 9 = .ok (.iload_n 3, 1) := by decide +kernel
theorem dMO_all_10 : decode cMO_all 10 = .ok (.aload_n 0, 1) := by decide +kernel
theorem dMO_all_11 : decode cMO_all 11 = .ok (.getfield 58, 3) := by decide +kernel
theorem dMO_all_14 : decode cMO_all 14 = .ok (.if_icmp .gt 20, 3) := by decide +kernel
theorem dMO_all_17 : decode cMO_all 17 = .ok (.lload_n 1, 1) := by decide +kernel
theorem dMO_all_18 : decode cMO_all 18 = .ok (.aload_n 0, 1) := by decide +kernel
theorem dMO_all_19 : decode cMO_all 19 = .ok (.iload_n 3, 1) := by decide +kernel
theorem dMO_all_20 : decode cMO_all 20 = .ok (.ldc2_w 103, 3) := by decide +kernel
theorem dMO_all_23 : decode cMO_all 23 = .ok (.invokevirtual 105, 3) := by decide +kernel
theorem dMO_all_26 : decode cMO_all 26 = .ok (.ladd, 1) := by decide +kernel
theorem dMO_all_27 : decode cMO_all 27 = .ok (.lstore_n 1, 1) := by decide +kernel
theorem dMO_all_28 : decode cMO_all 28 = .ok (.iinc 3 1, 3) := by decide +kernel
theorem dMO_all_31 : decode cMO_all 31 = .ok (.goto (-22), 3) := by decide +kernel
theorem dMO_all_34 : decode cMO_all 34 = .ok (.lload_n 1, 1) := by decide +kernel
theorem dMO_all_35 : decode cMO_all 35 = .ok (.lreturn, 1) := by decide +kernel
end
section
/-! WHAT STANDS BEHIND EVERY METHOD: statics, constants, array classes. E.1: array classes (0 Object, 1 int, 2 long, 3 boolean); E.2: addresses (0 OPEN, 1 POSTED, 2 VOID; 3 POSTED, 4 FAILED, 5 REFUSED of Outcome; 6 the empty array; 7 the mirror of Object[]; 8 the text of the exception) -/
abbrev xE_T : Type := (Nat → ClassId) × (Nat → Nat)
abbrev xtys (E : xE_T) : List (ClassId × FieldType) := [(E.1 0, .object "java/lang/Object"), (E.1 1, .int), (E.1 2, .long), (E.1 3, .boolean)]
def xZ (C n d : String) (a : Nat) (A : Nat → Prop) (U : State) : Prop := va_Z C n d (.ref a) A U U.heap
/-- a word that holds, and goes on holding as long as nothing outside A is written -/
def xKw (w : Cond) (A : Nat → Prop) (U : State) : Prop := ∀ (V : State) (a : Array Value), U.WarmedH V.vm → U.heap.size ≤ V.heap.size → (∀ q : Nat, q < U.heap.size → ¬ A q → V.heap[q]? = U.heap[q]?) → w.before a V = true
abbrev xEx : String := "java/lang/IllegalStateException"
/-- the words of the throw; those of them that a list of words cannot hold -/
def xThA : List Cond := Bundle.ownAtoms "PostLedger" 122 xEx ["java/lang/RuntimeException", "java/lang/Exception"]
def xNG : List Cond := xThA.filter (fun w => !goodWord w)
def xF (E : xE_T) (A : Nat → Prop) (U : State) : Prop :=
  (va_Nw (.castable "PostLedger$Row" "java/lang/Object") U ∧ va_Nw (.castable "PostLedger$Account" "java/lang/Object") U ∧ va_Nw (.castable "PostLedger$Batch" "java/lang/Object") U) ∧
  (va_AO "java/lang/Object" U ∧ va_Dc U ∧ va_Mi "[Ljava/lang/Object;" (E.2 7) U ∧ vk_R "PostLedger" 120 "the batch is refused" (E.2 8) U) ∧
  (xZ "PostLedger$Standing" "OPEN" "LPostLedger$Standing;" (E.2 0) A U ∧ xZ "PostLedger$Standing" "POSTED" "LPostLedger$Standing;" (E.2 1) A U ∧ xZ "PostLedger$Standing" "VOID" "LPostLedger$Standing;" (E.2 2) A U) ∧
  (xZ "PostLedger$Outcome" "POSTED" "LPostLedger$Outcome;" (E.2 3) A U ∧ xZ "PostLedger$Outcome" "FAILED" "LPostLedger$Outcome;" (E.2 4) A U ∧ xZ "PostLedger$Outcome" "REFUSED" "LPostLedger$Outcome;" (E.2 5) A U) ∧
  (xZ "java/util/ArrayList" "DEFAULTCAPACITY_EMPTY_ELEMENTDATA" "[Ljava/lang/Object;" (E.2 6) A U ∧ va_T (.object "java/lang/Object") (E.2 6) 0 (fun _ => .null) A U U.heap) ∧
  ∀ w ∈ xNG, xKw w A U
theorem xZ_of {C n d : String} {a : Nat} {A : Nat → Prop} {s U : State} (h : xZ C n d a A s) (hvm : s.vm.Alike U.vm) (hq : ∀ q : Nat, q < s.heap.size → ¬ A q → U.heap[q]? = s.heap[q]?) : xZ C n d a A U := (h.kept hq).moved hvm
theorem xKw_of {w : Cond} {A : Nat → Prop} {s U : State} {locs : List Loc} (h : xKw w A s) (hW : s.WarmedH U.vm) (hS : va_S A s.heap U.heap locs) : xKw w A U :=
  fun V a hV hz hq => h V a (State.WarmedH.trans hW hV) (Nat.le_trans hS.1 hz) (fun q h1 h2 => (hq q (Nat.lt_of_lt_of_le h1 hS.1) h2).trans (hS.2.1 q h1 h2))
theorem xKw_narrow {w : Cond} {A B : Nat → Prop} {U : State} (h : xKw w A U) (hAB : ∀ q, B q → A q) : xKw w B U := fun V a hV hz hq => h V a hV hz (fun q h1 h2 => hq q h1 (fun z => h2 (hAB q z)))
theorem xKw_use {w : Cond} {A : Nat → Prop} {U : State} (h : xKw w A U) (a : Array Value) : w.before a U = true := h U a (State.WarmedH.refl U) (Nat.le_refl _) (fun _ _ _ => rfl)
theorem xF_of {E : xE_T} {A : Nat → Prop} {s U : State} {locs : List Loc} (h : xF E A s) (hW : s.WarmedH U.vm) (hS : va_S A s.heap U.heap locs) : xF E A U := by
  obtain ⟨⟨a1, a2, a3⟩, ⟨b1, b2, b3, b4⟩, ⟨c1, c2, c3⟩, ⟨d1, d2, d3⟩, ⟨e1, e2⟩, f0⟩ := h
  have hq : ∀ q : Nat, q < s.heap.size → ¬ A q → U.heap[q]? = s.heap[q]? := hS.2.1
  have hvm := hW.alike
  exact ⟨⟨a1.warmC hW, a2.warmC hW, a3.warmC hW⟩, ⟨b1.moved hvm, b2.moved hvm, b3.moved hvm, b4.warm hW⟩, ⟨xZ_of c1 hvm hq, xZ_of c2 hvm hq, xZ_of c3 hvm hq⟩, ⟨xZ_of d1 hvm hq, xZ_of d2 hvm hq, xZ_of d3 hvm hq⟩, ⟨xZ_of e1 hvm hq, (e2.kept hq).moved hvm⟩, fun w hw => xKw_of (f0 w hw) hW hS⟩
theorem xF_call {E : xE_T} {A : Nat → Prop} {u : State} {g : JFrame} {mk : MethodId} {a : Array Value} (h : xF E A u) : xF E A (u.calling g mk a) := by
  obtain ⟨⟨a1, a2, a3⟩, ⟨b1, b2, b3, b4⟩, ⟨c1, c2, c3⟩, ⟨d1, d2, d3⟩, ⟨e1, e2⟩, f0⟩ := h
  have hv : (u.calling g mk a).vm = u.vm := rfl
  have hvm : u.vm.Alike (u.calling g mk a).vm := Vm.Alike.refl _
  have hq : ∀ q : Nat, q < u.heap.size → ¬ A q → (u.calling g mk a).heap[q]? = u.heap[q]? := fun q _ _ => rfl
  exact ⟨⟨a1.same rfl hv.symm, a2.same rfl hv.symm, a3.same rfl hv.symm⟩, ⟨b1.moved hvm, b2.moved hvm, b3.moved hvm, b4.same hv⟩, ⟨xZ_of c1 hvm hq, xZ_of c2 hvm hq, xZ_of c3 hvm hq⟩, ⟨xZ_of d1 hvm hq, xZ_of d2 hvm hq, xZ_of d3 hvm hq⟩, ⟨xZ_of e1 hvm hq, (e2.kept hq).moved hvm⟩, f0⟩
theorem xF_narrow {E : xE_T} {A B : Nat → Prop} {U : State} (h : xF E A U) (hAB : ∀ q, B q → A q) : xF E B U := by
  obtain ⟨⟨a1, a2, a3⟩, ⟨b1, b2, b3, b4⟩, ⟨c1, c2, c3⟩, ⟨d1, d2, d3⟩, ⟨e1, e2⟩, f0⟩ := h
  exact ⟨⟨a1, a2, a3⟩, ⟨b1, b2, b3, b4⟩, ⟨va_Z.narrow c1 hAB, va_Z.narrow c2 hAB, va_Z.narrow c3 hAB⟩, ⟨va_Z.narrow d1 hAB, va_Z.narrow d2 hAB, va_Z.narrow d3 hAB⟩, ⟨va_Z.narrow e1 hAB, e2.narrow hAB⟩, fun w hw => xKw_narrow (f0 w hw) hAB⟩
end
section
/-! THE WORLD AS A FUNCTION: what is known of the heap is a partial map from addresses to cells. Rows of the kit work on lists of cells: here each is turned to the map. -/
abbrev xw_T : Type := Nat → Option va_E
def xw_in (w : xw_T) (ws : va_W) : Prop := ∀ (a : Nat) (e : va_E), w a = some e ↔ ∃ k : Nat, ws[k]? = some (a, e)
/-- the map stands in the heap: inside a method -/
def xw_S (D : va_G) (cl : List vw_C) (A : Nat → Prop) (H0 : Heap) (w : xw_T) (H : Heap) (locs : List Loc) : Prop := (∃ ws : va_W, xw_in w ws ∧ va_P D cl ws H ∧ va_D A ws) ∧ va_S A H0 H locs ∧ ∀ q : Nat, H0.size ≤ q → A q
theorem xw_in_set {A : Nat → Prop} {w : xw_T} {ws : va_W} {k a : Nat} {e0 e : va_E} (h : xw_in w ws) (hD : va_D A ws) (hk : ws[k]? = some (a, e0)) : xw_in (va_up w a (some e)) (ws.set k (a, e)) := by
  have hl := (List.getElem?_eq_some_iff.mp hk).1
  intro b e'
  by_cases hb : b = a
  · subst hb
    rw [va_up_self]
    constructor
    · intro he
      refine ⟨k, ?_⟩
      rw [List.getElem?_set_self hl, Option.some.inj he]
    · rintro ⟨j, hj⟩
      by_cases hjk : j = k
      · subst hjk
        rw [List.getElem?_set_self hl] at hj
        have := Option.some.inj hj
        rw [(Prod.mk.inj this).2]
      · rw [List.getElem?_set_ne (Ne.symm hjk)] at hj
        exact absurd (hD.1 j k _ _ hj hk rfl) hjk
  · rw [va_up_ne _ _ hb]
    constructor
    · intro he
      obtain ⟨j, hj⟩ := (h b e').mp he
      refine ⟨j, ?_⟩
      have hjk : j ≠ k := by
        intro q
        subst q
        rw [hk] at hj
        exact hb (Prod.mk.inj (Option.some.inj hj)).1.symm
      rw [List.getElem?_set_ne (Ne.symm hjk)]
      exact hj
    · rintro ⟨j, hj⟩
      by_cases hjk : j = k
      · subst hjk
        rw [List.getElem?_set_self hl] at hj
        exact absurd (Prod.mk.inj (Option.some.inj hj)).1.symm hb
      · rw [List.getElem?_set_ne (Ne.symm hjk)] at hj
        exact (h b e').mpr ⟨j, hj⟩
theorem xw_in_fresh {A : Nat → Prop} {w : xw_T} {ws : va_W} {q : Nat} {e : va_E} (h : xw_in w ws) (hD : va_D A (ws ++ [(q, e)])) : w q = none := by
  cases hq : w q with
  | none => rfl
  | some e1 =>
    obtain ⟨k, hk⟩ := (h q e1).mp hq
    have hl := (List.getElem?_eq_some_iff.mp hk).1
    have h1 : (ws ++ [(q, e)])[k]? = some (q, e1) := by rw [List.getElem?_append_left hl]; exact hk
    have h2 : (ws ++ [(q, e)])[ws.length]? = some (q, e) := by rw [List.getElem?_append_right (Nat.le_refl _), Nat.sub_self]; rfl
    have := hD.1 _ _ _ _ h1 h2 rfl
    omega
theorem xw_in_push {A : Nat → Prop} {w : xw_T} {ws : va_W} {q : Nat} {e : va_E} (h : xw_in w ws) (hD : va_D A (ws ++ [(q, e)])) : xw_in (va_up w q (some e)) (ws ++ [(q, e)]) := by
  have hf := xw_in_fresh h hD
  have h2 : (ws ++ [(q, e)])[ws.length]? = some (q, e) := by rw [List.getElem?_append_right (Nat.le_refl _), Nat.sub_self]; rfl
  intro b e'
  by_cases hb : b = q
  · subst hb
    rw [va_up_self]
    constructor
    · intro he
      exact ⟨ws.length, by rw [h2, Option.some.inj he]⟩
    · rintro ⟨j, hj⟩
      have hjk := hD.1 _ _ _ _ hj h2 rfl
      subst hjk
      rw [h2] at hj
      rw [(Prod.mk.inj (Option.some.inj hj)).2]
  · rw [va_up_ne _ _ hb]
    constructor
    · intro he
      obtain ⟨j, hj⟩ := (h b e').mp he
      exact ⟨j, by rw [List.getElem?_append_left (List.getElem?_eq_some_iff.mp hj).1]; exact hj⟩
    · rintro ⟨j, hj⟩
      by_cases hl : j < ws.length
      · rw [List.getElem?_append_left hl] at hj
        exact (h b e').mpr ⟨j, hj⟩
      · have hjl := (List.getElem?_eq_some_iff.mp hj).1
        rw [List.length_append, List.length_singleton] at hjl
        have : j = ws.length := by omega
        subst this
        rw [h2] at hj
        exact absurd (Prod.mk.inj (Option.some.inj hj)).1.symm hb
/-- a field, an array, of the map -/
def xg (w : xw_T) (a ci k : Nat) : Option Value := match w a with
  | some (.inr o) => if o.1 = ci then o.2[k]? else none
  | _ => none
def xvI : Option Value → Option Int32
  | some (.int x) => some x
  | _ => none
def xvL : Option Value → Option Int64
  | some (.long x) => some x
  | _ => none
def xvR : Option Value → Option (Option Nat)
  | some (.ref x) => some (some x)
  | some .null => some none
  | _ => none
def xgI (w : xw_T) (a ci k : Nat) : Option Int32 := xvI (xg w a ci k)
def xgL (w : xw_T) (a ci k : Nat) : Option Int64 := xvL (xg w a ci k)
def xgR (w : xw_T) (a ci k : Nat) : Option (Option Nat) := xvR (xg w a ci k)
def xp (w : xw_T) (a k : Nat) (v : Value) : xw_T := match w a with
  | some (.inr o) => va_up w a (some (.inr (o.1, o.2.set k v)))
  | _ => w
def xaE (w : xw_T) (a : Nat) (cA : ClassId) : Option vp_A := match w a with
  | some (.inl x) => if x.1 = cA then some x.2 else none
  | _ => none
def xvaI : Option vp_A → Option (Nat × (Nat → Int32))
  | some (n, .inl f) => some (n, f)
  | _ => none
def xvaL : Option vp_A → Option (Nat × (Nat → Int64))
  | some (n, .inr (.inl f)) => some (n, f)
  | _ => none
def xvaQ : Option vp_A → Option (Nat × (Nat → Option Nat))
  | some (n, .inr (.inr (.inr (.inr f)))) => some (n, f)
  | _ => none
def xaI (w : xw_T) (a : Nat) (cA : ClassId) : Option (Nat × (Nat → Int32)) := xvaI (xaE w a cA)
def xaL (w : xw_T) (a : Nat) (cA : ClassId) : Option (Nat × (Nat → Int64)) := xvaL (xaE w a cA)
def xaQ (w : xw_T) (a : Nat) (cA : ClassId) : Option (Nat × (Nat → Option Nat)) := xvaQ (xaE w a cA)
abbrev xcI (cA : ClassId) (n : Nat) (f : Nat → Int32) : va_E := .inl (cA, n, .inl f)
abbrev xcL (cA : ClassId) (n : Nat) (f : Nat → Int64) : va_E := .inl (cA, n, .inr (.inl f))
abbrev xcQ (cA : ClassId) (n : Nat) (f : Nat → Option Nat) : va_E := .inl (cA, n, .inr (.inr (.inr (.inr f))))
theorem xg_spec {w : xw_T} {a ci k : Nat} {v : Value} (h : xg w a ci k = some v) : ∃ fs : List Value, w a = some (.inr (ci, fs)) ∧ fs[k]? = some v := by
  unfold xg at h
  cases hw : w a with
  | none => rw [hw] at h; cases h
  | some e =>
    rw [hw] at h
    cases e with
    | inl x => cases h
    | inr o =>
      obtain ⟨o1, o2⟩ := o
      dsimp only at h
      by_cases ho : o1 = ci
      · subst ho
        rw [if_pos rfl] at h
        exact ⟨o2, rfl, h⟩
      · rw [if_neg ho] at h; cases h
theorem xgI_spec {w : xw_T} {a ci k : Nat} {v : Int32} (h : xgI w a ci k = some v) : xg w a ci k = some (.int v) := by
  unfold xgI at h
  cases hx : xg w a ci k with
  | none => rw [hx] at h; cases h
  | some y => rw [hx] at h; cases y <;> first | (cases h; rfl) | cases h
theorem xgL_spec {w : xw_T} {a ci k : Nat} {v : Int64} (h : xgL w a ci k = some v) : xg w a ci k = some (.long v) := by
  unfold xgL at h
  cases hx : xg w a ci k with
  | none => rw [hx] at h; cases h
  | some y => rw [hx] at h; cases y <;> first | (cases h; rfl) | cases h
theorem xgR_spec {w : xw_T} {a ci k : Nat} {v : Option Nat} (h : xgR w a ci k = some v) : xg w a ci k = some (va_rf v) := by
  unfold xgR at h
  cases hx : xg w a ci k with
  | none => rw [hx] at h; cases h
  | some y => rw [hx] at h; cases y <;> first | (cases h; rfl) | cases h
theorem xaE_spec {w : xw_T} {a : Nat} {cA : ClassId} {x : vp_A} (h : xaE w a cA = some x) : w a = some (.inl (cA, x)) := by
  unfold xaE at h
  cases hw : w a with
  | none => rw [hw] at h; cases h
  | some e =>
    rw [hw] at h
    cases e with
    | inr o => cases h
    | inl y =>
      obtain ⟨y1, y2⟩ := y
      dsimp only at h
      by_cases ho : y1 = cA
      · subst ho
        rw [if_pos rfl] at h
        rw [Option.some.inj h]
      · rw [if_neg ho] at h; cases h
theorem xaI_spec {w : xw_T} {a : Nat} {cA : ClassId} {n : Nat} {f : Nat → Int32} (h : xaI w a cA = some (n, f)) : w a = some (xcI cA n f) := by
  unfold xaI at h
  cases hx : xaE w a cA with
  | none => rw [hx] at h; cases h
  | some y =>
    rw [hx] at h
    obtain ⟨n1, y⟩ := y
    rcases y with y | y | y | y | y <;> first | (cases h; exact xaE_spec hx) | cases h
theorem xaL_spec {w : xw_T} {a : Nat} {cA : ClassId} {n : Nat} {f : Nat → Int64} (h : xaL w a cA = some (n, f)) : w a = some (xcL cA n f) := by
  unfold xaL at h
  cases hx : xaE w a cA with
  | none => rw [hx] at h; cases h
  | some y =>
    rw [hx] at h
    obtain ⟨n1, y⟩ := y
    rcases y with y | y | y | y | y <;> first | (cases h; exact xaE_spec hx) | cases h
theorem xaQ_spec {w : xw_T} {a : Nat} {cA : ClassId} {n : Nat} {f : Nat → Option Nat} (h : xaQ w a cA = some (n, f)) : w a = some (xcQ cA n f) := by
  unfold xaQ at h
  cases hx : xaE w a cA with
  | none => rw [hx] at h; cases h
  | some y =>
    rw [hx] at h
    obtain ⟨n1, y⟩ := y
    rcases y with y | y | y | y | y <;> first | (cases h; exact xaE_spec hx) | cases h
/-- the same read off the map -/
theorem xg_of {w : xw_T} {a ci k : Nat} {fs : List Value} (h : w a = some (.inr (ci, fs))) : xg w a ci k = fs[k]? := by
  unfold xg; rw [h]; exact if_pos rfl
theorem xp_of {w : xw_T} {a ci k : Nat} {fs : List Value} {v : Value} (h : w a = some (.inr (ci, fs))) : xp w a k v = va_up w a (some (.inr (ci, fs.set k v))) := by
  unfold xp; rw [h]
theorem xaI_of {w : xw_T} {a : Nat} {cA : ClassId} {n : Nat} {f : Nat → Int32} (h : w a = some (xcI cA n f)) : xaI w a cA = some (n, f) := by
  unfold xaI xaE; rw [h]; dsimp only; rw [if_pos rfl]; rfl
theorem xaL_of {w : xw_T} {a : Nat} {cA : ClassId} {n : Nat} {f : Nat → Int64} (h : w a = some (xcL cA n f)) : xaL w a cA = some (n, f) := by
  unfold xaL xaE; rw [h]; dsimp only; rw [if_pos rfl]; rfl
theorem xaQ_of {w : xw_T} {a : Nat} {cA : ClassId} {n : Nat} {f : Nat → Option Nat} (h : w a = some (xcQ cA n f)) : xaQ w a cA = some (n, f) := by
  unfold xaQ xaE; rw [h]; dsimp only; rw [if_pos rfl]; rfl
theorem va_rf_cat (r : Option Nat) : (va_rf r).category = 1 := by cases r <;> rfl
theorem xcat_i (x : Int32) : (Value.int x).category = 1 := rfl
theorem xcat_l (x : Int64) : (Value.long x).category = 2 := rfl
theorem xcat_r (x : Nat) : (Value.ref x).category = 1 := rfl
theorem xcat_n : (Value.null).category = 1 := rfl
end
section
/-! ROWS OVER THE MAP: fields, arrays, new -/
section XR
variable {p : Program} {l : Launch} {e : Env} {R : Room} {s : State} {m : MethodId} {args : Array Value} {below : List Frame} {meth : Method} {c : Code} {H : Heap} {locs : List Loc} {cells slots : Nat} {Q : State → Prop}
variable {cc : ByteArray} {pc : Nat} {ls : Array Slot} {rest : List Value} {D : va_G} {cl : List vw_C} {A : Nat → Prop} {a : Nat} {tys : List (ClassId × FieldType)} {H0 : Heap} {w : xw_T}
theorem xw_get (hexec : p.tables.exec = Jvm.exec) (hb : c.code = cc) {own ref C : String} {T : u_T} {N ci index : Nat} {Ts : List Cond} (hts : ∀ w ∈ Ts, w.before args s = true) (hin : ∀ w ∈ u_ws C T N, w ∈ Ts) (hown : s.vm.findClass own = some m.cls) (hK : va_K D cl tys s) (hw : xw_S D cl A H0 w H locs) (hc : cl[ci]? = some (C, T, N)) (k : Nat) (hk : k < N) (hlink : (Cond.fieldLink own index ref (T k).2.1 (T k).2.2.1).before args s = true) (hsame : ∀ x, s.fieldFound? (T k).1 (T k).2.1 (T k).2.2.1 = some x → s.fieldFound? ref (T k).2.1 (T k).2.2.1 = some x) {v : Value} (hv : xg w a ci k = some v) (hdg : decode cc pc = .ok (.getfield index, 3))
    (kk : W p l e R s m args below meth c H locs cells slots Q (F0 m (pc + 3) ls (v :: rest))) : W p l e R s m args below meth c H locs cells slots Q (F0 m pc ls (.ref a :: rest)) := by
  obtain ⟨⟨ws, hi, hP, hD⟩, hS, hA⟩ := hw
  obtain ⟨fs, h1, h2⟩ := xg_spec hv
  obtain ⟨q0, hq⟩ := (hi _ _).mp h1
  exact va_get hexec hb hts hin hown hK hP q0 hq hc k hk hlink hsame h2 hdg kk
theorem xw_getI (hexec : p.tables.exec = Jvm.exec) (hb : c.code = cc) {own ref C : String} {T : u_T} {N ci index : Nat} {Ts : List Cond} (hts : ∀ w ∈ Ts, w.before args s = true) (hin : ∀ w ∈ u_ws C T N, w ∈ Ts) (hown : s.vm.findClass own = some m.cls) (hK : va_K D cl tys s) (hw : xw_S D cl A H0 w H locs) (hc : cl[ci]? = some (C, T, N)) (k : Nat) (hk : k < N) (hlink : (Cond.fieldLink own index ref (T k).2.1 (T k).2.2.1).before args s = true) (hsame : ∀ x, s.fieldFound? (T k).1 (T k).2.1 (T k).2.2.1 = some x → s.fieldFound? ref (T k).2.1 (T k).2.2.1 = some x) {v : Int32} (hv : xgI w a ci k = some v) (hdg : decode cc pc = .ok (.getfield index, 3))
    (kk : W p l e R s m args below meth c H locs cells slots Q (F0 m (pc + 3) ls (.int v :: rest))) : W p l e R s m args below meth c H locs cells slots Q (F0 m pc ls (.ref a :: rest)) := xw_get hexec hb hts hin hown hK hw hc k hk hlink hsame (xgI_spec hv) hdg kk
theorem xw_getL (hexec : p.tables.exec = Jvm.exec) (hb : c.code = cc) {own ref C : String} {T : u_T} {N ci index : Nat} {Ts : List Cond} (hts : ∀ w ∈ Ts, w.before args s = true) (hin : ∀ w ∈ u_ws C T N, w ∈ Ts) (hown : s.vm.findClass own = some m.cls) (hK : va_K D cl tys s) (hw : xw_S D cl A H0 w H locs) (hc : cl[ci]? = some (C, T, N)) (k : Nat) (hk : k < N) (hlink : (Cond.fieldLink own index ref (T k).2.1 (T k).2.2.1).before args s = true) (hsame : ∀ x, s.fieldFound? (T k).1 (T k).2.1 (T k).2.2.1 = some x → s.fieldFound? ref (T k).2.1 (T k).2.2.1 = some x) {v : Int64} (hv : xgL w a ci k = some v) (hdg : decode cc pc = .ok (.getfield index, 3))
    (kk : W p l e R s m args below meth c H locs cells slots Q (F0 m (pc + 3) ls (.long v :: rest))) : W p l e R s m args below meth c H locs cells slots Q (F0 m pc ls (.ref a :: rest)) := xw_get hexec hb hts hin hown hK hw hc k hk hlink hsame (xgL_spec hv) hdg kk
theorem xw_getR (hexec : p.tables.exec = Jvm.exec) (hb : c.code = cc) {own ref C : String} {T : u_T} {N ci index : Nat} {Ts : List Cond} (hts : ∀ w ∈ Ts, w.before args s = true) (hin : ∀ w ∈ u_ws C T N, w ∈ Ts) (hown : s.vm.findClass own = some m.cls) (hK : va_K D cl tys s) (hw : xw_S D cl A H0 w H locs) (hc : cl[ci]? = some (C, T, N)) (k : Nat) (hk : k < N) (hlink : (Cond.fieldLink own index ref (T k).2.1 (T k).2.2.1).before args s = true) (hsame : ∀ x, s.fieldFound? (T k).1 (T k).2.1 (T k).2.2.1 = some x → s.fieldFound? ref (T k).2.1 (T k).2.2.1 = some x) {v : Option Nat} (hv : xgR w a ci k = some v) (hdg : decode cc pc = .ok (.getfield index, 3))
    (kk : W p l e R s m args below meth c H locs cells slots Q (F0 m (pc + 3) ls (va_rf v :: rest))) : W p l e R s m args below meth c H locs cells slots Q (F0 m pc ls (.ref a :: rest)) := xw_get hexec hb hts hin hown hK hw hc k hk hlink hsame (xgR_spec hv) hdg kk
theorem xw_S_set {ws : va_W} {k : Nat} {e0 e1 : va_E} {H1 : Heap} {locs1 : List Loc} (hi : xw_in w ws) (hD0 : va_D A ws) (hA : ∀ q : Nat, H0.size ≤ q → A q) (hk : ws[k]? = some (a, e0)) (hP : va_P D cl (ws.set k (a, e1)) H1) (hD : va_D A (ws.set k (a, e1))) (hS : va_S A H0 H1 locs1) : xw_S D cl A H0 (va_up w a (some e1)) H1 locs1 :=
  ⟨⟨_, xw_in_set hi hD0 hk, hP, hD⟩, hS, hA⟩
theorem xw_put (hexec : p.tables.exec = Jvm.exec) (hb : c.code = cc) {own ref C : String} {T : u_T} {N ci index : Nat} {Ts : List Cond} (hts : ∀ w ∈ Ts, w.before args s = true) (hin : ∀ w ∈ u_ws C T N, w ∈ Ts) (ty0 : Nat → FieldType) (hty : ∀ k, k < N → parseFieldDescriptor (T k).2.2.1 = some (ty0 k)) (hnm : ∀ a, a < N → ∀ b, b < N → a ≠ b → (T a).2.1 ≠ (T b).2.1) (hown : s.vm.findClass own = some m.cls) (hK : va_K D cl tys s) (hw : xw_S D cl A H0 w H locs) (hc : cl[ci]? = some (C, T, N)) (k : Nat) (hk : k < N) (hlink : (Cond.fieldLink own index ref (T k).2.1 (T k).2.2.1).before args s = true) (hsame : ∀ x, s.fieldFound? (T k).1 (T k).2.1 (T k).2.2.1 = some x → s.fieldFound? ref (T k).2.1 (T k).2.2.1 = some x) (hfin : (T k).2.2.2 = false) {ty : FieldType} {v : Value} (hd : parseFieldDescriptor (T k).2.2.1 = some ty) (hn : narrow ty v = v) (hfit : fits ty v = true) (hv : ∃ v0, xg w a ci k = some v0)
    (hdg : decode cc pc = .ok (.putfield index, 3)) (kk : ∀ (H1 : Heap) (locs1 : List Loc), xw_S D cl A H0 (xp w a k v) H1 locs1 → W p l e R s m args below meth c H1 locs1 cells slots Q (F0 m (pc + 3) ls rest)) : W p l e R s m args below meth c H locs cells slots Q (F0 m pc ls (v :: .ref a :: rest)) := by
  obtain ⟨⟨ws, hi, hP, hD⟩, hS, hA⟩ := hw
  obtain ⟨v0, hv⟩ := hv
  obtain ⟨fs, h1, h2⟩ := xg_spec hv
  obtain ⟨q0, hq⟩ := (hi _ _).mp h1
  rw [xp_of h1] at kk
  exact va_put hexec hb hts hin ty0 hty hnm hown hK hP hD hS q0 hq hc k hk hlink hsame hfin hd hn hfit (List.getElem?_eq_some_iff.mp h2).1 hdg (fun H1 locs1 hP1 hD1 hS1 => kk H1 locs1 (xw_S_set hi hD hA hq hP1 hD1 hS1))
theorem xw_putF (hexec : p.tables.exec = Jvm.exec) (hb : c.code = cc) {own ref C : String} {T : u_T} {N ci index : Nat} {Ts : List Cond} (hts : ∀ w ∈ Ts, w.before args s = true) (hin : ∀ w ∈ u_ws C T N, w ∈ Ts) (ty0 : Nat → FieldType) (hty : ∀ k, k < N → parseFieldDescriptor (T k).2.2.1 = some (ty0 k)) (hnm : ∀ a, a < N → ∀ b, b < N → a ≠ b → (T a).2.1 ≠ (T b).2.1) (hown : s.vm.findClass own = some m.cls) (hK : va_K D cl tys s) (hw : xw_S D cl A H0 w H locs) (hc : cl[ci]? = some (C, T, N)) (k : Nat) (hk : k < N) (hlink : (Cond.fieldLink own index ref (T k).2.1 (T k).2.2.1).before args s = true) (hsame : ∀ x, s.fieldFound? (T k).1 (T k).2.1 (T k).2.2.1 = some x → s.fieldFound? ref (T k).2.1 (T k).2.2.1 = some x) (hfin : (T k).2.2.2 = true) (hin2 : meth.name = "<init>") (hdecl : (T k).1 = own) {ty : FieldType} {v : Value} (hd : parseFieldDescriptor (T k).2.2.1 = some ty) (hn : narrow ty v = v) (hfit : fits ty v = true) (hv : ∃ v0, xg w a ci k = some v0)
    (hdg : decode cc pc = .ok (.putfield index, 3)) (kk : ∀ (H1 : Heap) (locs1 : List Loc), xw_S D cl A H0 (xp w a k v) H1 locs1 → W p l e R s m args below meth c H1 locs1 cells slots Q (F0 m (pc + 3) ls rest)) : W p l e R s m args below meth c H locs cells slots Q (F0 m pc ls (v :: .ref a :: rest)) := by
  obtain ⟨⟨ws, hi, hP, hD⟩, hS, hA⟩ := hw
  obtain ⟨v0, hv⟩ := hv
  obtain ⟨fs, h1, h2⟩ := xg_spec hv
  obtain ⟨q0, hq⟩ := (hi _ _).mp h1
  rw [xp_of h1] at kk
  exact va_putF hexec hb hts hin ty0 hty hnm hown hK hP hD hS q0 hq hc k hk hlink hsame hfin hin2 hdecl hd hn hfit (List.getElem?_eq_some_iff.mp h2).1 hdg (fun H1 locs1 hP1 hD1 hS1 => kk H1 locs1 (xw_S_set hi hD hA hq hP1 hD1 hS1))
theorem xw_getN (hexec : p.tables.exec = Jvm.exec) (hb : c.code = cc) {own ref C host : String} {T : u_T} {N ci index : Nat} {Ts : List Cond} (hts : ∀ w ∈ Ts, w.before args s = true) (hin : ∀ w ∈ u_ws C T N, w ∈ Ts) (hown : s.vm.findClass own = some m.cls) (hK : va_K D cl tys s) (hw : xw_S D cl A H0 w H locs) (hc : cl[ci]? = some (C, T, N)) (k : Nat) (hk : k < N) (hlink : (Cond.fieldLinkNest own index ref (T k).2.1 (T k).2.2.1 host).before args s = true) (hsame : ∀ x, s.fieldFound? (T k).1 (T k).2.1 (T k).2.2.1 = some x → s.fieldFound? ref (T k).2.1 (T k).2.2.1 = some x) {v : Value} (hv : xg w a ci k = some v) (hdg : decode cc pc = .ok (.getfield index, 3))
    (kk : W p l e R s m args below meth c H locs cells slots Q (F0 m (pc + 3) ls (v :: rest))) : W p l e R s m args below meth c H locs cells slots Q (F0 m pc ls (.ref a :: rest)) := by
  obtain ⟨⟨ws, hi, hP, hD⟩, hS, hA⟩ := hw
  obtain ⟨fs, h1, h2⟩ := xg_spec hv
  obtain ⟨q0, hq⟩ := (hi _ _).mp h1
  exact va_getN hexec hb hts hin hown hK hP q0 hq hc k hk hlink hsame h2 hdg kk
theorem xw_putN (hexec : p.tables.exec = Jvm.exec) (hb : c.code = cc) {own ref C host : String} {T : u_T} {N ci index : Nat} {Ts : List Cond} (hts : ∀ w ∈ Ts, w.before args s = true) (hin : ∀ w ∈ u_ws C T N, w ∈ Ts) (ty0 : Nat → FieldType) (hty : ∀ k, k < N → parseFieldDescriptor (T k).2.2.1 = some (ty0 k)) (hnm : ∀ a, a < N → ∀ b, b < N → a ≠ b → (T a).2.1 ≠ (T b).2.1) (hown : s.vm.findClass own = some m.cls) (hK : va_K D cl tys s) (hw : xw_S D cl A H0 w H locs) (hc : cl[ci]? = some (C, T, N)) (k : Nat) (hk : k < N) (hlink : (Cond.fieldLinkNest own index ref (T k).2.1 (T k).2.2.1 host).before args s = true) (hsame : ∀ x, s.fieldFound? (T k).1 (T k).2.1 (T k).2.2.1 = some x → s.fieldFound? ref (T k).2.1 (T k).2.2.1 = some x) (hfin : (T k).2.2.2 = false) {ty : FieldType} {v : Value} (hd : parseFieldDescriptor (T k).2.2.1 = some ty) (hn : narrow ty v = v) (hfit : fits ty v = true) (hv : ∃ v0, xg w a ci k = some v0)
    (hdg : decode cc pc = .ok (.putfield index, 3)) (kk : ∀ (H1 : Heap) (locs1 : List Loc), xw_S D cl A H0 (xp w a k v) H1 locs1 → W p l e R s m args below meth c H1 locs1 cells slots Q (F0 m (pc + 3) ls rest)) : W p l e R s m args below meth c H locs cells slots Q (F0 m pc ls (v :: .ref a :: rest)) := by
  obtain ⟨⟨ws, hi, hP, hD⟩, hS, hA⟩ := hw
  obtain ⟨v0, hv⟩ := hv
  obtain ⟨fs, h1, h2⟩ := xg_spec hv
  obtain ⟨q0, hq⟩ := (hi _ _).mp h1
  rw [xp_of h1] at kk
  exact va_putN hexec hb hts hin ty0 hty hnm hown hK hP hD hS q0 hq hc k hk hlink hsame hfin hd hn hfit (List.getElem?_eq_some_iff.mp h2).1 hdg (fun H1 locs1 hP1 hD1 hS1 => kk H1 locs1 (xw_S_set hi hD hA hq hP1 hD1 hS1))
theorem xw_new (hexec : p.tables.exec = Jvm.exec) (hb : c.code = cc) {own C : String} {T : u_T} {N ci index : Nat} {Ts : List Cond} (hts : ∀ w ∈ Ts, w.before args s = true) (hin : ∀ w ∈ u_ws C T N, w ∈ Ts) (ty : Nat → FieldType) (hty : ∀ k, k < N → parseFieldDescriptor (T k).2.2.1 = some (ty k)) (hown : s.vm.findClass own = some m.cls) (hcl : (Cond.classLink own index C).before args s = true) (hinst : (Cond.instantiable C N).before args s = true) (hini : (Cond.initialized C).before args s = true)
    (hK : va_K D cl tys s) (hw : xw_S D cl A H0 w H locs) (hc : cl[ci]? = some (C, T, N)) {fs : List Value} (hfs : ∀ j, j < N → defaultValue (ty j) = vp_V fs j) (hcells : cells + 1 ≤ R.cells) (hslots : slots + N ≤ R.slots) (hdg : decode cc pc = .ok (.new index, 3))
    (kk : ∀ (q : Nat) (H1 : Heap), w q = none → xw_S D cl A H0 (va_up w q (some (.inr (ci, fs)))) H1 locs → W p l e R s m args below meth c H1 locs (cells + 1) (slots + N) Q (F0 m (pc + 3) ls (.ref q :: rest))) : W p l e R s m args below meth c H locs cells slots Q (F0 m pc ls rest) := by
  obtain ⟨⟨ws, hi, hP, hD⟩, hS, hA⟩ := hw
  exact va_new hexec hb hts hin ty hty hown hcl hinst hini hK hP hD hS hA hc hfs hcells hslots hdg (fun q H1 hP1 hD1 hS1 => kk q H1 (xw_in_fresh hi hD1) ⟨⟨_, xw_in_push hi hD1, hP1, hD1⟩, hS1, hA⟩)
/-- arrays -/
theorem xw_alen (hexec : p.tables.exec = Jvm.exec) (hb : c.code = cc) (hK : va_K D cl tys s) (hw : xw_S D cl A H0 w H locs) (t0 : Nat) {cA : ClassId} {ty : FieldType} (ht : tys[t0]? = some (cA, ty)) {x : vp_A} (ha : w a = some (.inl (cA, x))) (hdg : decode cc pc = .ok (.arraylength, 1))
    (kk : W p l e R s m args below meth c H locs cells slots Q (F0 m (pc + 1) ls (.int (nI x.1) :: rest))) : W p l e R s m args below meth c H locs cells slots Q (F0 m pc ls (.ref a :: rest)) := by
  obtain ⟨⟨ws, hi, hP, hD⟩, hS, hA⟩ := hw
  obtain ⟨q0, hq⟩ := (hi _ _).mp ha
  exact va_alen hexec hb hK hP q0 t0 hq ht rfl hdg kk
theorem xw_iald (hexec : p.tables.exec = Jvm.exec) (hb : c.code = cc) (hK : va_K D cl tys s) (hw : xw_S D cl A H0 w H locs) (t0 : Nat) {cA : ClassId} (ht : tys[t0]? = some (cA, .int)) {n : Nat} {f : Nat → Int32} (ha : xaI w a cA = some (n, f)) {i : Int32} (hin : vp_in i n) (hdg : decode cc pc = .ok (.iaload, 1))
    (kk : W p l e R s m args below meth c H locs cells slots Q (F0 m (pc + 1) ls (.int (f i.toNatClampNeg) :: rest))) : W p l e R s m args below meth c H locs cells slots Q (F0 m pc ls (.int i :: .ref a :: rest)) := by
  obtain ⟨⟨ws, hi, hP, hD⟩, hS, hA⟩ := hw
  obtain ⟨q0, hq⟩ := (hi _ _).mp (xaI_spec ha)
  exact va_iald hexec hb hK hP q0 t0 hq ht hin hdg kk
theorem xw_zald (hexec : p.tables.exec = Jvm.exec) (hb : c.code = cc) (hK : va_K D cl tys s) (hw : xw_S D cl A H0 w H locs) (t0 : Nat) {cA : ClassId} (ht : tys[t0]? = some (cA, .boolean)) {n : Nat} {f : Nat → Int32} (ha : xaI w a cA = some (n, f)) {i : Int32} (hin : vp_in i n) (hdg : decode cc pc = .ok (.baload, 1))
    (kk : W p l e R s m args below meth c H locs cells slots Q (F0 m (pc + 1) ls (.int (f i.toNatClampNeg) :: rest))) : W p l e R s m args below meth c H locs cells slots Q (F0 m pc ls (.int i :: .ref a :: rest)) := by
  obtain ⟨⟨ws, hi, hP, hD⟩, hS, hA⟩ := hw
  obtain ⟨q0, hq⟩ := (hi _ _).mp (xaI_spec ha)
  exact va_zald hexec hb hK hP q0 t0 hq ht hin hdg kk
theorem xw_lald (hexec : p.tables.exec = Jvm.exec) (hb : c.code = cc) (hK : va_K D cl tys s) (hw : xw_S D cl A H0 w H locs) (t0 : Nat) {cA : ClassId} (ht : tys[t0]? = some (cA, .long)) {n : Nat} {f : Nat → Int64} (ha : xaL w a cA = some (n, f)) {i : Int32} (hin : vp_in i n) (hdg : decode cc pc = .ok (.laload, 1))
    (kk : W p l e R s m args below meth c H locs cells slots Q (F0 m (pc + 1) ls (.long (f i.toNatClampNeg) :: rest))) : W p l e R s m args below meth c H locs cells slots Q (F0 m pc ls (.int i :: .ref a :: rest)) := by
  obtain ⟨⟨ws, hi, hP, hD⟩, hS, hA⟩ := hw
  obtain ⟨q0, hq⟩ := (hi _ _).mp (xaL_spec ha)
  exact va_lald hexec hb hK hP q0 t0 hq ht hin hdg kk
theorem xw_aald (hexec : p.tables.exec = Jvm.exec) (hb : c.code = cc) (hK : va_K D cl tys s) (hw : xw_S D cl A H0 w H locs) (t0 : Nat) {cA : ClassId} {C : String} (ht : tys[t0]? = some (cA, .object C)) {n : Nat} {f : Nat → Option Nat} (ha : xaQ w a cA = some (n, f)) {i : Int32} (hin : vp_in i n) (hdg : decode cc pc = .ok (.aaload, 1))
    (kk : W p l e R s m args below meth c H locs cells slots Q (F0 m (pc + 1) ls (va_rf (f i.toNatClampNeg) :: rest))) : W p l e R s m args below meth c H locs cells slots Q (F0 m pc ls (.int i :: .ref a :: rest)) := by
  obtain ⟨⟨ws, hi, hP, hD⟩, hS, hA⟩ := hw
  obtain ⟨q0, hq⟩ := (hi _ _).mp (xaQ_spec ha)
  exact va_aldq hexec hb hK hP q0 t0 hq ht hin hdg kk
end XR
end
section
/-! ROWS OVER THE MAP: stores into arrays, new arrays, casts, locals that hold a reference or null, compares of longs -/
section XR2
variable {p : Program} {l : Launch} {e : Env} {R : Room} {s : State} {m : MethodId} {args : Array Value} {below : List Frame} {meth : Method} {c : Code} {H : Heap} {locs : List Loc} {cells slots : Nat} {Q : State → Prop}
variable {cc : ByteArray} {pc : Nat} {ls : Array Slot} {rest : List Value} {D : va_G} {cl : List vw_C} {A : Nat → Prop} {a : Nat} {tys : List (ClassId × FieldType)} {H0 : Heap} {w : xw_T}
theorem xw_iast (hexec : p.tables.exec = Jvm.exec) (hb : c.code = cc) (hK : va_K D cl tys s) (hw : xw_S D cl A H0 w H locs) (t0 : Nat) {cA : ClassId} (ht : tys[t0]? = some (cA, .int)) {n : Nat} {f : Nat → Int32} (ha : xaI w a cA = some (n, f)) {i x : Int32} (hin : vp_in i n) (hdg : decode cc pc = .ok (.iastore, 1))
    (kk : ∀ (H1 : Heap) (locs1 : List Loc), xw_S D cl A H0 (va_up w a (some (xcI cA n (upd f i.toNatClampNeg x)))) H1 locs1 → W p l e R s m args below meth c H1 locs1 cells slots Q (F0 m (pc + 1) ls rest)) : W p l e R s m args below meth c H locs cells slots Q (F0 m pc ls (.int x :: .int i :: .ref a :: rest)) := by
  obtain ⟨⟨ws, hi, hP, hD⟩, hS, hA⟩ := hw
  obtain ⟨q0, hq⟩ := (hi _ _).mp (xaI_spec ha)
  exact va_iast hexec hb hK hP hD hS q0 t0 hq ht hin hdg (fun H1 locs1 hP1 hD1 hS1 => kk H1 locs1 (xw_S_set hi hD hA hq hP1 hD1 hS1))
theorem xw_zast (hexec : p.tables.exec = Jvm.exec) (hb : c.code = cc) (hK : va_K D cl tys s) (hw : xw_S D cl A H0 w H locs) (t0 : Nat) {cA : ClassId} (ht : tys[t0]? = some (cA, .boolean)) {n : Nat} {f : Nat → Int32} (ha : xaI w a cA = some (n, f)) {i x : Int32} (hin : vp_in i n) (hdg : decode cc pc = .ok (.bastore, 1))
    (kk : ∀ (H1 : Heap) (locs1 : List Loc), xw_S D cl A H0 (va_up w a (some (xcI cA n (upd f i.toNatClampNeg (vp_nar .boolean x))))) H1 locs1 → W p l e R s m args below meth c H1 locs1 cells slots Q (F0 m (pc + 1) ls rest)) : W p l e R s m args below meth c H locs cells slots Q (F0 m pc ls (.int x :: .int i :: .ref a :: rest)) := by
  obtain ⟨⟨ws, hi, hP, hD⟩, hS, hA⟩ := hw
  obtain ⟨q0, hq⟩ := (hi _ _).mp (xaI_spec ha)
  exact va_zast hexec hb hK hP hD hS q0 t0 hq ht hin hdg (fun H1 locs1 hP1 hD1 hS1 => kk H1 locs1 (xw_S_set hi hD hA hq hP1 hD1 hS1))
theorem xw_last (hexec : p.tables.exec = Jvm.exec) (hb : c.code = cc) (hK : va_K D cl tys s) (hw : xw_S D cl A H0 w H locs) (t0 : Nat) {cA : ClassId} (ht : tys[t0]? = some (cA, .long)) {n : Nat} {f : Nat → Int64} (ha : xaL w a cA = some (n, f)) {i : Int32} {x : Int64} (hin : vp_in i n) (hdg : decode cc pc = .ok (.lastore, 1))
    (kk : ∀ (H1 : Heap) (locs1 : List Loc), xw_S D cl A H0 (va_up w a (some (xcL cA n (vp_updL f i.toNatClampNeg x)))) H1 locs1 → W p l e R s m args below meth c H1 locs1 cells slots Q (F0 m (pc + 1) ls rest)) : W p l e R s m args below meth c H locs cells slots Q (F0 m pc ls (.long x :: .int i :: .ref a :: rest)) := by
  obtain ⟨⟨ws, hi, hP, hD⟩, hS, hA⟩ := hw
  obtain ⟨q0, hq⟩ := (hi _ _).mp (xaL_spec ha)
  exact va_last hexec hb hK hP hD hS q0 t0 hq ht hin hdg (fun H1 locs1 hP1 hD1 hS1 => kk H1 locs1 (xw_S_set hi hD hA hq hP1 hD1 hS1))
/-- an object of a class of the world into an array of Objects (or of that class's name): what can be assigned is said by hasg -/
theorem xw_aast (hexec : p.tables.exec = Jvm.exec) (hb : c.code = cc) (hK : va_K D cl tys s) (hw : xw_S D cl A H0 w H locs) (t0 : Nat) {cA : ClassId} {E : String} (ht : tys[t0]? = some (cA, .object E)) {n : Nat} {f : Nat → Option Nat} (ha : xaQ w a cA = some (n, f)) {v ci : Nat} {vs : List Value} {r : vw_C} (hv : w v = some (.inr (ci, vs))) (hc : cl[ci]? = some r) (hasg : ∀ comp c0 : ClassId, s.vm.findClass E = some comp → s.vm.findClass r.1 = some c0 → s.vm.assignable c0 comp = true) {i : Int32} (hin : vp_in i n) (hdg : decode cc pc = .ok (.aastore, 1))
    (kk : ∀ (H1 : Heap) (locs1 : List Loc), xw_S D cl A H0 (va_up w a (some (xcQ cA n (va_up f i.toNatClampNeg (some v))))) H1 locs1 → W p l e R s m args below meth c H1 locs1 cells slots Q (F0 m (pc + 1) ls rest)) : W p l e R s m args below meth c H locs cells slots Q (F0 m pc ls (.ref v :: .int i :: .ref a :: rest)) := by
  obtain ⟨⟨ws, hi, hP, hD⟩, hS, hA⟩ := hw
  obtain ⟨q0, hq⟩ := (hi _ _).mp (xaQ_spec ha)
  obtain ⟨qk, hqk⟩ := (hi _ _).mp hv
  exact va_astqM hexec hb hK hP hD hS q0 t0 hq ht (va_rAny hK hP hqk hc hasg) hin hdg (fun H1 locs1 hP1 hD1 hS1 => kk H1 locs1 (xw_S_set hi hD hA hq hP1 hD1 hS1))
/-- the receiver of a call, by the map -/
theorem xw_recv (hK : va_K D cl tys s) (hw : xw_S D cl A H0 w H locs) {ci : Nat} {q : vw_C} {fs : List Value} (hc : cl[ci]? = some q) (he : w a = some (.inr (ci, fs))) : ∃ cell : Cell, H[a]? = some cell ∧ cell.vm.isStatics = false ∧ s.vm.findClass q.1 = some cell.cls := by
  obtain ⟨⟨ws, hi, hP, hD⟩, hS, hA⟩ := hw
  obtain ⟨q0, hq⟩ := (hi _ _).mp he
  exact va_recv hK hP hc hq
/-- a reference or null in a local -/
theorem xl_aload_n (hexec : p.tables.exec = Jvm.exec) (hb : c.code = cc) {k : Fin 4} {i : Nat} {r : Option Nat} (hdg : decode cc pc = .ok (.aload_n k, 1)) (hi : (k : Nat) = i) (hl : ls[i]? = some (.val (va_rf r)))
    (kk : W p l e R s m args below meth c H locs cells slots Q (F0 m (pc + 1) ls (va_rf r :: rest))) : W p l e R s m args below meth c H locs cells slots Q (F0 m pc ls rest) := by
  cases r with
  | none => exact lv_aload_nN hexec hb hdg hi hl kk
  | some x => exact lv_aload_n hexec hb hdg hi hl kk
theorem xl_aload (hexec : p.tables.exec = Jvm.exec) (hb : c.code = cc) {i : Nat} {r : Option Nat} (hdg : decode cc pc = .ok (.aload i, 2)) (hl : ls[i]? = some (.val (va_rf r)))
    (kk : W p l e R s m args below meth c H locs cells slots Q (F0 m (pc + 2) ls (va_rf r :: rest))) : W p l e R s m args below meth c H locs cells slots Q (F0 m pc ls rest) := by
  cases r with
  | none => exact lv_aloadN hexec hb hdg hl kk
  | some x => exact lv_aload hexec hb hdg hl kk
theorem xl_astore_n (hexec : p.tables.exec = Jvm.exec) (hb : c.code = cc) {k : Fin 4} {i nL : Nat} {r : Option Nat} {lv lv' : List (Nat × Value)} (hdg : decode cc pc = .ok (.astore_n k, 1)) (hi : (k : Nat) = i) (h : lv_has ls nL lv) (hn : i < nL) (hl : (i, va_rf r) :: lv.filter (fun q => !(q.1 == i) && !(q.1 + 1 == i && q.2.category == 2)) = lv')
    (kk : ∀ ls' : Array Slot, lv_has ls' nL lv' → W p l e R s m args below meth c H locs cells slots Q (F0 m (pc + 1) ls' rest)) : W p l e R s m args below meth c H locs cells slots Q (F0 m pc ls (va_rf r :: rest)) := by
  cases r with
  | none => exact lv_astore_nN hexec hb hdg hi h hn hl kk
  | some x => exact lv_astore_n hexec hb hdg hi h hn hl kk
theorem xl_astore (hexec : p.tables.exec = Jvm.exec) (hb : c.code = cc) {i nL : Nat} {r : Option Nat} {lv lv' : List (Nat × Value)} (hdg : decode cc pc = .ok (.astore i, 2)) (h : lv_has ls nL lv) (hn : i < nL) (hl : (i, va_rf r) :: lv.filter (fun q => !(q.1 == i) && !(q.1 + 1 == i && q.2.category == 2)) = lv')
    (kk : ∀ ls' : Array Slot, lv_has ls' nL lv' → W p l e R s m args below meth c H locs cells slots Q (F0 m (pc + 2) ls' rest)) : W p l e R s m args below meth c H locs cells slots Q (F0 m pc ls (va_rf r :: rest)) := by
  cases r with
  | none => exact lv_astoreN hexec hb hdg h hn hl kk
  | some x => exact lv_astore hexec hb hdg h hn hl kk
theorem xl_ifnull (hexec : p.tables.exec = Jvm.exec) (hb : c.code = cc) {r : Option Nat} {off : Int} {tgt : Nat} (hdg : decode cc pc = .ok (.ifnull off, 3)) (ht : (pc : Int) + off = (tgt : Int))
    (kt : r = none → W p l e R s m args below meth c H locs cells slots Q (F0 m tgt ls rest)) (kf : ¬ r = none → W p l e R s m args below meth c H locs cells slots Q (F0 m (pc + 3) ls rest)) : W p l e R s m args below meth c H locs cells slots Q (F0 m pc ls (va_rf r :: rest)) := by
  cases r with
  | none => exact lv_ifnullN hexec hb hdg ht (kt rfl)
  | some x => exact lv_ifnull hexec hb hdg (kf (fun h => by cases h))
theorem xl_ifnonnull (hexec : p.tables.exec = Jvm.exec) (hb : c.code = cc) {r : Option Nat} {off : Int} {tgt : Nat} (hdg : decode cc pc = .ok (.ifnonnull off, 3)) (ht : (pc : Int) + off = (tgt : Int))
    (kt : ¬ r = none → W p l e R s m args below meth c H locs cells slots Q (F0 m tgt ls rest)) (kf : r = none → W p l e R s m args below meth c H locs cells slots Q (F0 m (pc + 3) ls rest)) : W p l e R s m args below meth c H locs cells slots Q (F0 m pc ls (va_rf r :: rest)) := by
  cases r with
  | none => exact lv_ifnonnullN hexec hb hdg (kf rfl)
  | some x => exact lv_ifnonnull hexec hb hdg ht (kt (fun h => by cases h))
end XR2
end
section
/-! lcmp and the branch behind it, in one row -/
section XLC
variable {p : Program} {l : Launch} {e : Env} {R : Room} {s : State} {m : MethodId} {args : Array Value} {below : List Frame} {meth : Method} {c : Code} {H : Heap} {locs : List Loc} {cells slots : Nat} {Q : State → Prop} {cc : ByteArray} {pc : Nat} {ls : Array Slot} {rest : List Value}
theorem xl_lc_eq (hexec : p.tables.exec = Jvm.exec) (hb : c.code = cc) {x y : Int64} {off : Int} {tgt : Nat} (hd1 : decode cc pc = .ok (.lcmp, 1)) (hd2 : decode cc (pc + 1) = .ok (.ifCond .eq off, 3)) (ht : ((pc + 1 : Nat) : Int) + off = (tgt : Int))
    (kt : x = y → W p l e R s m args below meth c H locs cells slots Q (F0 m tgt ls rest)) (kf : ¬ x = y → W p l e R s m args below meth c H locs cells slots Q (F0 m (pc + 1 + 3) ls rest)) : W p l e R s m args below meth c H locs cells slots Q (F0 m pc ls (.long y :: .long x :: rest)) :=
  W.lcmp hexec hb hd1 (lv_if_eq hexec hb hd2 ht (fun h => kt ((lg_cmp_eq x y).mp h)) (fun h => kf (fun q => h ((lg_cmp_eq x y).mpr q))))
theorem xl_lc_ne (hexec : p.tables.exec = Jvm.exec) (hb : c.code = cc) {x y : Int64} {off : Int} {tgt : Nat} (hd1 : decode cc pc = .ok (.lcmp, 1)) (hd2 : decode cc (pc + 1) = .ok (.ifCond .ne off, 3)) (ht : ((pc + 1 : Nat) : Int) + off = (tgt : Int))
    (kt : ¬ x = y → W p l e R s m args below meth c H locs cells slots Q (F0 m tgt ls rest)) (kf : x = y → W p l e R s m args below meth c H locs cells slots Q (F0 m (pc + 1 + 3) ls rest)) : W p l e R s m args below meth c H locs cells slots Q (F0 m pc ls (.long y :: .long x :: rest)) :=
  W.lcmp hexec hb hd1 (lv_if_ne hexec hb hd2 ht (fun h => kt (fun q => h ((lg_cmp_eq x y).mpr q))) (fun h => kf ((lg_cmp_eq x y).mp h)))
theorem xl_lc_lt (hexec : p.tables.exec = Jvm.exec) (hb : c.code = cc) {x y : Int64} {off : Int} {tgt : Nat} (hd1 : decode cc pc = .ok (.lcmp, 1)) (hd2 : decode cc (pc + 1) = .ok (.ifCond .lt off, 3)) (ht : ((pc + 1 : Nat) : Int) + off = (tgt : Int))
    (kt : x < y → W p l e R s m args below meth c H locs cells slots Q (F0 m tgt ls rest)) (kf : ¬ x < y → W p l e R s m args below meth c H locs cells slots Q (F0 m (pc + 1 + 3) ls rest)) : W p l e R s m args below meth c H locs cells slots Q (F0 m pc ls (.long y :: .long x :: rest)) :=
  W.lcmp hexec hb hd1 (lv_if_lt hexec hb hd2 ht (fun h => kt ((lg_cmp_lt x y).mp h)) (fun h => kf (fun q => h ((lg_cmp_lt x y).mpr q))))
theorem xl_lc_ge (hexec : p.tables.exec = Jvm.exec) (hb : c.code = cc) {x y : Int64} {off : Int} {tgt : Nat} (hd1 : decode cc pc = .ok (.lcmp, 1)) (hd2 : decode cc (pc + 1) = .ok (.ifCond .ge off, 3)) (ht : ((pc + 1 : Nat) : Int) + off = (tgt : Int))
    (kt : y ≤ x → W p l e R s m args below meth c H locs cells slots Q (F0 m tgt ls rest)) (kf : ¬ y ≤ x → W p l e R s m args below meth c H locs cells slots Q (F0 m (pc + 1 + 3) ls rest)) : W p l e R s m args below meth c H locs cells slots Q (F0 m pc ls (.long y :: .long x :: rest)) :=
  W.lcmp hexec hb hd1 (lv_if_ge hexec hb hd2 ht (fun h => kt ((lg_cmp_ge x y).mp h)) (fun h => kf (fun q => h ((lg_cmp_ge x y).mpr q))))
theorem xl_lc_gt (hexec : p.tables.exec = Jvm.exec) (hb : c.code = cc) {x y : Int64} {off : Int} {tgt : Nat} (hd1 : decode cc pc = .ok (.lcmp, 1)) (hd2 : decode cc (pc + 1) = .ok (.ifCond .gt off, 3)) (ht : ((pc + 1 : Nat) : Int) + off = (tgt : Int))
    (kt : y < x → W p l e R s m args below meth c H locs cells slots Q (F0 m tgt ls rest)) (kf : ¬ y < x → W p l e R s m args below meth c H locs cells slots Q (F0 m (pc + 1 + 3) ls rest)) : W p l e R s m args below meth c H locs cells slots Q (F0 m pc ls (.long y :: .long x :: rest)) :=
  W.lcmp hexec hb hd1 (lv_if_gt hexec hb hd2 ht (fun h => kt ((lg_cmp_gt x y).mp h)) (fun h => kf (fun q => h ((lg_cmp_gt x y).mpr q))))
theorem xl_lc_le (hexec : p.tables.exec = Jvm.exec) (hb : c.code = cc) {x y : Int64} {off : Int} {tgt : Nat} (hd1 : decode cc pc = .ok (.lcmp, 1)) (hd2 : decode cc (pc + 1) = .ok (.ifCond .le off, 3)) (ht : ((pc + 1 : Nat) : Int) + off = (tgt : Int))
    (kt : x ≤ y → W p l e R s m args below meth c H locs cells slots Q (F0 m tgt ls rest)) (kf : ¬ x ≤ y → W p l e R s m args below meth c H locs cells slots Q (F0 m (pc + 1 + 3) ls rest)) : W p l e R s m args below meth c H locs cells slots Q (F0 m pc ls (.long y :: .long x :: rest)) :=
  W.lcmp hexec hb hd1 (lv_if_le hexec hb hd2 ht (fun h => kt ((lg_cmp_le x y).mp h)) (fun h => kf (fun q => h ((lg_cmp_le x y).mpr q))))
end XLC
end
section
/-! CALLS AND ENDS OVER THE MAP -/
/-- a method's start and end: the map stands -/
def xB (D : va_G) (A : Nat → Prop) (w : xw_T) (t : State) : Prop := ∃ ws : va_W, xw_in w ws ∧ va_P D vwCl ws t.heap ∧ va_D A ws
def xP (D : va_G) (E : xE_T) (A : Nat → Prop) (w : xw_T) (U : State) : Prop := (xB D A w U ∧ ∀ q : Nat, U.heap.size ≤ q → A q) ∧ va_K D vwCl (xtys E) U ∧ xF E A U
section XC
variable {p : Program} {l : Launch} {e : Env} {R : Room} {s : State} {m : MethodId} {args : Array Value} {below : List Frame} {meth : Method} {c : Code} {H : Heap} {locs : List Loc} {cells slots : Nat} {Q : State → Prop}
variable {cc : ByteArray} {pc : Nat} {ls : Array Slot} {rest st0 : List Value} {D : va_G} {E : xE_T} {A : Nat → Prop} {w : xw_T} {mc ms : Nat} {a : Array Value}
theorem xw_S0 (h : xB D A w s ∧ ∀ q : Nat, s.heap.size ≤ q → A q) : xw_S D vwCl A s.heap w s.heap [] := ⟨h.1, va_S.rf, h.2⟩
theorem xP_of {U : State} (hw : xw_S D vwCl A s.heap w H locs) (hK : va_K D vwCl (xtys E) s) (hE : xF E A s) (hU : U.heap = H) (hW : s.WarmedH U.vm) : xP D E A w U := by
  obtain ⟨⟨ws, h1, h2, h3⟩, hS, hA⟩ := hw
  refine ⟨⟨⟨ws, h1, by rw [hU]; exact h2, h3⟩, fun q hq => hA q (Nat.le_trans hS.1 (by rw [← hU]; exact hq))⟩, va_K.moved hW.alike hK, xF_of hE hW (by rw [hU]; exact hS)⟩
theorem xP_blind {U : State} {g : JFrame} {mk : MethodId} {a : Array Value} (h : xP D E A w U) : xP D E A w (U.calling g mk a) :=
  ⟨h.1, va_K.moved (u := U) (U := U.calling g mk a) (Vm.Alike.refl U.vm) h.2.1, xF_call h.2.2⟩
theorem xw_preV {ci : Nat} {q : vw_C} {b : Nat} {fs : List Value} {As : List Value} (hw : xw_S D vwCl A s.heap w H locs) (hK : va_K D vwCl (xtys E) s) (hE : xF E A s) (hc : vwCl[ci]? = some q) (hk : w b = some (.inr (ci, fs))) : PreV s H q.1 b (va_Pc (.ref b :: As) (xP D E A w)) As :=
  ⟨fun _ _ _ _ h => ⟨h.1, xP_blind h.2⟩, xw_recv hK hw hc hk, fun _ hU hW => ⟨rfl, xP_of hw hK hE hU hW⟩⟩
theorem xw_preS {As : List Value} (hw : xw_S D vwCl A s.heap w H locs) (hK : va_K D vwCl (xtys E) s) (hE : xF E A s) : PreS s H (va_Pc As (xP D E A w)) As :=
  ⟨fun _ _ _ _ h => ⟨h.1, xP_blind h.2⟩, fun _ hU hW => ⟨rfl, xP_of hw hK hE hU hW⟩⟩
theorem xB_of {t : State} {H1 : Heap} (ht : t.heap = H1) (hB : xB D A w t) : ∃ ws : va_W, xw_in w ws ∧ va_P D vwCl ws H1 ∧ va_D A ws := by
  obtain ⟨ws, h1, h2, h3⟩ := hB
  exact ⟨ws, h1, by rw [← ht]; exact h2, h3⟩
theorem xw_calli {w0 : xw_T} {post : Int32 → xw_T → Prop} (hr : va_Run p l e R s m args below meth c H locs cells slots mc ms (F0 m pc ls st0) rest (va_Qi post (xB D A) A a) A) (hw : xw_S D vwCl A s.heap w0 H locs)
    (kk : ∀ (r : Int32) (w1 : xw_T) (H1 : Heap) (locs1 : List Loc), post r w1 → xw_S D vwCl A s.heap w1 H1 locs1 → W p l e R s m args below meth c H1 locs1 (cells + mc) (slots + ms) Q (F0 m (pc + 3) ls (.int r :: rest))) : W p l e R s m args below meth c H locs cells slots Q (F0 m pc ls st0) :=
  va_calli hr hw.2.1 (fun _ _ h => h) (fun _ h => h) (fun r u _ H1 locs1 ht _ hp hB _ _ hS => kk r u H1 locs1 hp ⟨xB_of ht hB, hS, hw.2.2⟩)
theorem xw_calll {w0 : xw_T} {post : Int64 → xw_T → Prop} (hr : va_Run p l e R s m args below meth c H locs cells slots mc ms (F0 m pc ls st0) rest (va_Ql post (xB D A) A a) A) (hw : xw_S D vwCl A s.heap w0 H locs)
    (kk : ∀ (r : Int64) (w1 : xw_T) (H1 : Heap) (locs1 : List Loc), post r w1 → xw_S D vwCl A s.heap w1 H1 locs1 → W p l e R s m args below meth c H1 locs1 (cells + mc) (slots + ms) Q (F0 m (pc + 3) ls (.long r :: rest))) : W p l e R s m args below meth c H locs cells slots Q (F0 m pc ls st0) :=
  va_calll hr hw.2.1 (fun _ _ h => h) (fun _ h => h) (fun r u _ H1 locs1 ht _ hp hB _ _ hS => kk r u H1 locs1 hp ⟨xB_of ht hB, hS, hw.2.2⟩)
theorem xw_callq {w0 : xw_T} {post : Option Nat → xw_T → Prop} (hr : va_Run p l e R s m args below meth c H locs cells slots mc ms (F0 m pc ls st0) rest (va_Qq post (xB D A) A a) A) (hw : xw_S D vwCl A s.heap w0 H locs)
    (kk : ∀ (r : Option Nat) (w1 : xw_T) (H1 : Heap) (locs1 : List Loc), post r w1 → xw_S D vwCl A s.heap w1 H1 locs1 → W p l e R s m args below meth c H1 locs1 (cells + mc) (slots + ms) Q (F0 m (pc + 3) ls (va_rf r :: rest))) : W p l e R s m args below meth c H locs cells slots Q (F0 m pc ls st0) :=
  va_callq hr hw.2.1 (fun _ _ h => h) (fun _ h => h) (fun r u _ H1 locs1 ht _ hp hB _ _ hS => kk r u H1 locs1 hp ⟨xB_of ht hB, hS, hw.2.2⟩)
theorem xw_callv {w0 : xw_T} {post : xw_T → Prop} (hr : va_Run p l e R s m args below meth c H locs cells slots mc ms (F0 m pc ls st0) rest (va_Qv post (xB D A) A a) A) (hw : xw_S D vwCl A s.heap w0 H locs)
    (kk : ∀ (w1 : xw_T) (H1 : Heap) (locs1 : List Loc), post w1 → xw_S D vwCl A s.heap w1 H1 locs1 → W p l e R s m args below meth c H1 locs1 (cells + mc) (slots + ms) Q (F0 m (pc + 3) ls rest)) : W p l e R s m args below meth c H locs cells slots Q (F0 m pc ls st0) :=
  va_callv hr hw.2.1 (fun _ _ h => h) (fun _ h => h) (fun u _ H1 locs1 ht _ hp hB _ _ hS => kk u H1 locs1 hp ⟨xB_of ht hB, hS, hw.2.2⟩)
theorem xw_iret {post : Int32 → xw_T → Prop} {v : Int32} (hx : p.tables.exec = Jvm.exec) (hb : c.code = cc) (hr : meth.sig.returnType = some .int) (hlocks : meth.locks = false) (hw : xw_S D vwCl A s.heap w H locs) (h : post v w) (hdg : decode cc pc = .ok (.ireturn, 1)) : W p l e R s m args below meth c H locs cells slots (MQ below (va_Qi post (xB D A) A) args s cells slots A) (F0 m pc ls [.int v]) :=
  W.iret hx hb hr (fun t ht _ => ⟨⟨v, w, rfl, h, xB_of (H1 := t.heap) rfl (by rw [← ht] at hw; exact hw.1)⟩, hw.2.1.F ht⟩) hw.2.1.2.2 hdg hlocks
theorem xw_zret {post : Int32 → xw_T → Prop} {v : Int32} {ty : FieldType} (hn : narrow ty (.int v) = .int v) (hx : p.tables.exec = Jvm.exec) (hb : c.code = cc) (hr : meth.sig.returnType = some ty) (hlocks : meth.locks = false) (hw : xw_S D vwCl A s.heap w H locs) (h : post v w) (hdg : decode cc pc = .ok (.ireturn, 1)) : W p l e R s m args below meth c H locs cells slots (MQ below (va_Qi post (xB D A) A) args s cells slots A) (F0 m pc ls [.int v]) :=
  W.zret hx hb hr hn (fun t ht _ => ⟨⟨v, w, rfl, h, xB_of (H1 := t.heap) rfl (by rw [← ht] at hw; exact hw.1)⟩, hw.2.1.F ht⟩) hw.2.1.2.2 hdg hlocks
theorem xw_lret {post : Int64 → xw_T → Prop} {v : Int64} (hx : p.tables.exec = Jvm.exec) (hb : c.code = cc) (hr : meth.sig.returnType = some .long) (hlocks : meth.locks = false) (hw : xw_S D vwCl A s.heap w H locs) (h : post v w) (hdg : decode cc pc = .ok (.lreturn, 1)) : W p l e R s m args below meth c H locs cells slots (MQ below (va_Ql post (xB D A) A) args s cells slots A) (F0 m pc ls [.long v]) :=
  W.lret hx hb hr (fun t ht _ => ⟨⟨v, w, rfl, h, xB_of (H1 := t.heap) rfl (by rw [← ht] at hw; exact hw.1)⟩, hw.2.1.F ht⟩) hw.2.1.2.2 hdg hlocks
theorem xw_vret {post : xw_T → Prop} (hx : p.tables.exec = Jvm.exec) (hb : c.code = cc) (hr : meth.sig.returnType = none) (hlocks : meth.locks = false) (hw : xw_S D vwCl A s.heap w H locs) (h : post w) (hdg : decode cc pc = .ok (.return_, 1)) : W p l e R s m args below meth c H locs cells slots (MQ below (va_Qv post (xB D A) A) args s cells slots A) (F0 m pc ls []) :=
  W.vret hx hb hr (fun t ht _ => ⟨⟨w, rfl, h, xB_of (H1 := t.heap) rfl (by rw [← ht] at hw; exact hw.1)⟩, hw.2.1.F ht⟩) hw.2.1.2.2 hdg hlocks
theorem xw_aret {post : Option Nat → xw_T → Prop} {r : Option Nat} {rt : FieldType} (hrt : (∃ n, rt = .object n) ∨ ∃ t, rt = .array t) (hx : p.tables.exec = Jvm.exec) (hb : c.code = cc) (hr : meth.sig.returnType = some rt) (hlocks : meth.locks = false) (hw : xw_S D vwCl A s.heap w H locs) (h : post r w) (hdg : decode cc pc = .ok (.areturn, 1)) : W p l e R s m args below meth c H locs cells slots (MQ below (va_Qq post (xB D A) A) args s cells slots A) (F0 m pc ls [va_rf r]) :=
  W.aret hx hb hr hrt (by cases r with | none => exact Or.inl rfl | some x => exact Or.inr ⟨x, rfl⟩) (fun t ht _ => ⟨⟨r, w, rfl, h, xB_of (H1 := t.heap) rfl (by rw [← ht] at hw; exact hw.1)⟩, hw.2.1.F ht⟩) hw.2.1.2.2 hdg hlocks
theorem xl_start {vs : List Value} {n : Nat} {lvs : List (Nat × Value)} (h1 : (lg_sl vs).length ≤ n) (h2 : lv_args 0 vs = lvs) (kk : ∀ ls : Array Slot, lv_has ls n lvs → W p l e R s m args below meth c H locs cells slots Q (F0 m 0 ls [])) : W p l e R s m args below meth c H locs cells slots Q (entryFrame m vs.toArray n) := by
  have hl := lv_entry vs (n := n) h1
  rw [h2] at hl
  rw [lg_entry_eq]
  exact kk _ hl
end XC
theorem xn_rf (r : Option Nat) (ty : FieldType) (h : (∃ n, ty = .object n) ∨ ∃ t, ty = .array t) : narrow ty (va_rf r) = va_rf r := by
  rcases h with ⟨n, rfl⟩ | ⟨t, rfl⟩ <;> cases r <;> rfl
theorem xf_rf (r : Option Nat) (ty : FieldType) (h : (∃ n, ty = .object n) ∨ ∃ t, ty = .array t) : fits ty (va_rf r) = true := by
  rcases h with ⟨n, rfl⟩ | ⟨t, rfl⟩ <;> cases r <;> rfl
end
section
/-! ROWS OF THEIR OWN: new arrays, the length of an array that may be the empty static one, getClass, the mirror, arraycopy -/
/-- the length of an array: our own, or the static empty one -/
def xlen (E : xE_T) (w : xw_T) (a : Nat) (t : Nat) : Option Nat := if a = E.2 6 ∧ t = 0 then some 0 else (xaE w a (E.1 t)).map (fun x => x.1)
section XS
variable {p : Program} {l : Launch} {e : Env} {R : Room} {s : State} {m : MethodId} {args : Array Value} {below : List Frame} {meth : Method} {c : Code} {H : Heap} {locs : List Loc} {cells slots : Nat} {Q : State → Prop}
variable {cc : ByteArray} {pc : Nat} {ls : Array Slot} {rest : List Value} {D : va_G} {E : xE_T} {A : Nat → Prop} {a : Nat} {w : xw_T}
theorem xw_len (hx : p.tables.exec = Jvm.exec) (hb : c.code = cc) (hK : va_K D vwCl (xtys E) s) (hE : xF E A s) (hw : xw_S D vwCl A s.heap w H locs) (t : Nat) (ht : t < 4) {n : Nat} (hn : xlen E w a t = some n) (hdg : decode cc pc = .ok (.arraylength, 1))
    (kk : W p l e R s m args below meth c H locs cells slots Q (F0 m (pc + 1) ls (.int (nI n) :: rest))) : W p l e R s m args below meth c H locs cells slots Q (F0 m pc ls (.ref a :: rest)) := by
  unfold xlen at hn
  by_cases h0 : a = E.2 6 ∧ t = 0
  · rw [if_pos h0] at hn
    cases hn
    rw [h0.1]
    exact va_tlen hx hb hE.2.2.2.2.1.2 hw.2.1 rfl hdg kk
  · rw [if_neg h0] at hn
    cases hx2 : xaE w a (E.1 t) with
    | none => rw [hx2] at hn; cases hn
    | some y =>
      rw [hx2] at hn
      cases hn
      have ha := xaE_spec hx2
      match t, ht with
      | 0, _ => exact xw_alen hx hb hK hw 0 rfl ha hdg kk
      | 1, _ => exact xw_alen hx hb hK hw 1 rfl ha hdg kk
      | 2, _ => exact xw_alen hx hb hK hw 2 rfl ha hdg kk
      | 3, _ => exact xw_alen hx hb hK hw 3 rfl ha hdg kk
theorem xw_newq (hx : p.tables.exec = Jvm.exec) (hb : c.code = cc) {own : String} {index : Nat} (hown : s.vm.findClass own = some m.cls) (hclink : (Cond.classLink own index "java/lang/Object").before args s = true) (hK : va_K D vwCl (xtys E) s) (hE : xF E A s) (hw : xw_S D vwCl A s.heap w H locs)
    {n : Int32} {N' : Nat} (hn : ¬ n < 0) (hN : n.toNatClampNeg = N') (hbytes : N' * 4 ≤ 536870912) (hcells : cells + 1 ≤ R.cells) (hslots : slots + N' ≤ R.slots) (hdg : decode cc pc = .ok (.anewarray index, 3))
    (kk : ∀ (q : Nat) (H1 : Heap), w q = none → xw_S D vwCl A s.heap (va_up w q (some (xcQ (E.1 0) N' (fun _ => none)))) H1 locs → W p l e R s m args below meth c H1 locs (cells + 1) (slots + N') Q (F0 m (pc + 3) ls (.ref q :: rest))) : W p l e R s m args below meth c H locs cells slots Q (F0 m pc ls (.int n :: rest)) := by
  obtain ⟨⟨ws, hi, hP, hD⟩, hS, hA⟩ := hw
  refine va_newq hx hb hown hclink hE.2.1.1 hK hP hD hS hA hn hN hbytes hcells hslots hdg (fun q cA H1 hK1 hP1 hD1 hS1 => ?_)
  have h1 : va_RA s (E.1 0) (.object "java/lang/Object") := (hK.2 0 _ rfl).2
  have h2 : va_RA s cA (.object "java/lang/Object") := (hK1.2 4 _ rfl).2
  have hc : cA = E.1 0 := Option.some.inj ((va_nmO h2 rfl).symm.trans (va_nmO h1 rfl))
  subst hc
  exact kk q H1 (xw_in_fresh hi hD1) ⟨⟨_, xw_in_push hi hD1, hP1, hD1⟩, hS1, hA⟩
theorem xw_newi (hx : p.tables.exec = Jvm.exec) (hb : c.code = cc) (harr : (Cond.arrayClass .int).before args s = true) (hK : va_K D vwCl (xtys E) s) (hw : xw_S D vwCl A s.heap w H locs)
    {n : Int32} {N' : Nat} (hn : ¬ n < 0) (hN : n.toNatClampNeg = N') (hbytes : N' * componentBytes .int ≤ 536870912) (hcells : cells + 1 ≤ R.cells) (hslots : slots + N' ≤ R.slots) (hdg : decode cc pc = .ok (.newarray .int, 2))
    (kk : ∀ (q : Nat) (H1 : Heap), w q = none → xw_S D vwCl A s.heap (va_up w q (some (xcI (E.1 1) N' (fun _ => 0)))) H1 locs → W p l e R s m args below meth c H1 locs (cells + 1) (slots + N') Q (F0 m (pc + 2) ls (.ref q :: rest))) : W p l e R s m args below meth c H locs cells slots Q (F0 m pc ls (.int n :: rest)) := by
  obtain ⟨⟨ws, hi, hP, hD⟩, hS, hA⟩ := hw
  refine va_newa (atype := .int) (a0 := (N', .inl (fun _ => 0))) (ty := .int) hx hb harr rfl hK hP hD hS hA (fun _ => rfl) hn hN hbytes hcells hslots hdg (fun q cA H1 hK1 hP1 hD1 hS1 => ?_)
  have h1 : va_RA s (E.1 1) .int := (hK.2 1 _ rfl).2
  have h2 : va_RA s cA .int := (hK1.2 4 _ rfl).2
  have hc : cA = E.1 1 := Option.some.inj (h2.symm.trans h1)
  subst hc
  exact kk q H1 (xw_in_fresh hi hD1) ⟨⟨_, xw_in_push hi hD1, hP1, hD1⟩, hS1, hA⟩
theorem xw_newl (hx : p.tables.exec = Jvm.exec) (hb : c.code = cc) (harr : (Cond.arrayClass .long).before args s = true) (hK : va_K D vwCl (xtys E) s) (hw : xw_S D vwCl A s.heap w H locs)
    {n : Int32} {N' : Nat} (hn : ¬ n < 0) (hN : n.toNatClampNeg = N') (hbytes : N' * componentBytes .long ≤ 536870912) (hcells : cells + 1 ≤ R.cells) (hslots : slots + N' ≤ R.slots) (hdg : decode cc pc = .ok (.newarray .long, 2))
    (kk : ∀ (q : Nat) (H1 : Heap), w q = none → xw_S D vwCl A s.heap (va_up w q (some (xcL (E.1 2) N' (fun _ => 0)))) H1 locs → W p l e R s m args below meth c H1 locs (cells + 1) (slots + N') Q (F0 m (pc + 2) ls (.ref q :: rest))) : W p l e R s m args below meth c H locs cells slots Q (F0 m pc ls (.int n :: rest)) := by
  obtain ⟨⟨ws, hi, hP, hD⟩, hS, hA⟩ := hw
  refine va_newa (atype := .long) (a0 := (N', .inr (.inl (fun _ => 0)))) (ty := .long) hx hb harr rfl hK hP hD hS hA (fun _ => rfl) hn hN hbytes hcells hslots hdg (fun q cA H1 hK1 hP1 hD1 hS1 => ?_)
  have h1 : va_RA s (E.1 2) .long := (hK.2 2 _ rfl).2
  have h2 : va_RA s cA .long := (hK1.2 4 _ rfl).2
  have hc : cA = E.1 2 := Option.some.inj (h2.symm.trans h1)
  subst hc
  exact kk q H1 (xw_in_fresh hi hD1) ⟨⟨_, xw_in_push hi hD1, hP1, hD1⟩, hS1, hA⟩
theorem xw_newz (hx : p.tables.exec = Jvm.exec) (hb : c.code = cc) (harr : (Cond.arrayClass .boolean).before args s = true) (hK : va_K D vwCl (xtys E) s) (hw : xw_S D vwCl A s.heap w H locs)
    {n : Int32} {N' : Nat} (hn : ¬ n < 0) (hN : n.toNatClampNeg = N') (hbytes : N' * componentBytes .boolean ≤ 536870912) (hcells : cells + 1 ≤ R.cells) (hslots : slots + N' ≤ R.slots) (hdg : decode cc pc = .ok (.newarray .boolean, 2))
    (kk : ∀ (q : Nat) (H1 : Heap), w q = none → xw_S D vwCl A s.heap (va_up w q (some (xcI (E.1 3) N' (fun _ => 0)))) H1 locs → W p l e R s m args below meth c H1 locs (cells + 1) (slots + N') Q (F0 m (pc + 2) ls (.ref q :: rest))) : W p l e R s m args below meth c H locs cells slots Q (F0 m pc ls (.int n :: rest)) := by
  obtain ⟨⟨ws, hi, hP, hD⟩, hS, hA⟩ := hw
  refine va_newa (atype := .boolean) (a0 := (N', .inl (fun _ => 0))) (ty := .boolean) hx hb harr rfl hK hP hD hS hA (fun _ => rfl) hn hN hbytes hcells hslots hdg (fun q cA H1 hK1 hP1 hD1 hS1 => ?_)
  have h1 : va_RA s (E.1 3) .boolean := (hK.2 3 _ rfl).2
  have h2 : va_RA s cA .boolean := (hK1.2 4 _ rfl).2
  have hc : cA = E.1 3 := Option.some.inj (h2.symm.trans h1)
  subst hc
  exact kk q H1 (xw_in_fresh hi hD1) ⟨⟨_, xw_in_push hi hD1, hP1, hD1⟩, hS1, hA⟩
/-- our own array of Objects: a cell of its class -/
theorem xw_recvQ (hK : va_K D vwCl (xtys E) s) (hw : xw_S D vwCl A s.heap w H locs) {n : Nat} {f : Nat → Option Nat} (ha : xaQ w a (E.1 0) = some (n, f)) : ∃ cell : Cell, H[a]? = some cell ∧ cell.vm.isStatics = false ∧ s.vm.findClass "[Ljava/lang/Object;" = some cell.cls := by
  obtain ⟨⟨ws, hi, hP, hD⟩, hS, hA⟩ := hw
  obtain ⟨q0, hq⟩ := (hi _ _).mp (xaQ_spec ha)
  have h1 : va_RA s (E.1 0) (.object "java/lang/Object") := (hK.2 0 _ rfl).2
  exact ⟨_, hP q0 _ hq, rfl, va_nmO h1 rfl⟩
/-- an object of a class of the world, or an element of an array of Objects that holds such: can be stored into an array of Objects -/
theorem xw_any {E0 : String} (hK : va_K D vwCl (xtys E) s) (hw : xw_S D vwCl A s.heap w H locs) {v ci : Nat} {vs : List Value} {r : vw_C} (hv : w v = some (.inr (ci, vs))) (hc : vwCl[ci]? = some r) (hca : va_Nw (.castable r.1 E0) s) : va_Any E0 s H v := by
  obtain ⟨⟨ws, hi, hP, hD⟩, hS, hA⟩ := hw
  obtain ⟨qk, hqk⟩ := (hi _ _).mp hv
  exact va_rAny hK hP hqk hc (vb_asgC hca)
/-- what may lie in our arrays of Objects: accounts, batches, rows -/
def xOb (w : xw_T) (v : Nat) : Prop := ∃ vs : List Value, w v = some (.inr (1, vs)) ∨ w v = some (.inr (2, vs)) ∨ w v = some (.inr (3, vs))
theorem xw_anyO (hK : va_K D vwCl (xtys E) s) (hE : xF E A s) (hw : xw_S D vwCl A s.heap w H locs) {v : Nat} (hv : xOb w v) : va_Any "java/lang/Object" s H v := by
  obtain ⟨vs, h | h | h⟩ := hv
  · exact xw_any hK hw (ci := 1) h rfl hE.1.2.1
  · exact xw_any hK hw (ci := 2) h rfl hE.1.2.2
  · exact xw_any hK hw (ci := 3) h rfl hE.1.1
theorem xw_aasO (hx : p.tables.exec = Jvm.exec) (hb : c.code = cc) (hK : va_K D vwCl (xtys E) s) (hE : xF E A s) (hw : xw_S D vwCl A s.heap w H locs) {n : Nat} {f : Nat → Option Nat} (ha : xaQ w a (E.1 0) = some (n, f)) {v : Nat} (hv : xOb w v) {i : Int32} (hin : vp_in i n) (hdg : decode cc pc = .ok (.aastore, 1))
    (kk : ∀ (H1 : Heap) (locs1 : List Loc), xw_S D vwCl A s.heap (va_up w a (some (xcQ (E.1 0) n (va_up f i.toNatClampNeg (some v))))) H1 locs1 → W p l e R s m args below meth c H1 locs1 cells slots Q (F0 m (pc + 1) ls rest)) : W p l e R s m args below meth c H locs cells slots Q (F0 m pc ls (.ref v :: .int i :: .ref a :: rest)) := by
  have hany := xw_anyO hK hE hw hv
  obtain ⟨⟨ws, hi, hP, hD⟩, hS, hA⟩ := hw
  obtain ⟨q0, hq⟩ := (hi _ _).mp (xaQ_spec ha)
  exact va_astqM hx hb hK hP hD hS q0 0 hq rfl hany hin hdg (fun H1 locs1 hP1 hD1 hS1 => kk H1 locs1 (xw_S_set hi hD hA hq hP1 hD1 hS1))
theorem xw_copy (hx : p.tables.exec = Jvm.exec) (hb : c.code = cc) (hml : c.maxLocals = ls.size) {own : String} {index : Nat} (hown : s.vm.findClass own = some m.cls) (hlink : (Cond.methodLink own index arraycopyName).before args s = true) (hnat : (Cond.native arraycopyName).before args s = true) (hstat : (Cond.static arraycopyName).before args s = true) (hini : (Cond.initialized "java/lang/System").before args s = true)
    (hK : va_K D vwCl (xtys E) s) (hE : xF E A s) (hw : xw_S D vwCl A s.heap w H locs) {a0 : Nat} {n0 n1 : Nat} {f g : Nat → Option Nat} (ha0 : xaQ w a0 (E.1 0) = some (n0, f)) (ha1 : xaQ w a (E.1 0) = some (n1, g))
    {sp dp n : Int32} (hc : ¬ sp < 0 ∧ ¬ dp < 0 ∧ ¬ n < 0 ∧ sp.toNatClampNeg + n.toNatClampNeg ≤ n0 ∧ dp.toNatClampNeg + n.toNatClampNeg ≤ n1) (hel : ∀ i : Nat, i < n.toNatClampNeg → ∀ y : Nat, f (sp.toNatClampNeg + i) = some y → xOb w y)
    (hframes : 1 ≤ R.frames) (hlocals : (rest.map fun v => v.category).sum + (nativeFrameWords "java/lang/System" "arraycopy" 5 + 11) ≤ R.locals) (hdg : decode cc pc = .ok (.invokestatic index, 3))
    (kk : ∀ (H1 : Heap) (locs1 : List Loc), xw_S D vwCl A s.heap (va_up w a (some (xcQ (E.1 0) n1 (va_cpy f g sp.toNatClampNeg dp.toNatClampNeg n.toNatClampNeg)))) H1 locs1 → W p l e R s m args below meth c H1 locs1 cells slots Q (F0 m (pc + 3) ls rest)) : W p l e R s m args below meth c H locs cells slots Q (F0 m pc ls (.int n :: .int dp :: .ref a :: .int sp :: .ref a0 :: rest)) := by
  have hany : ∀ i : Nat, i < n.toNatClampNeg → ∀ y : Nat, f (sp.toNatClampNeg + i) = some y → va_Any "java/lang/Object" s H y := fun i hi y hy => xw_anyO hK hE hw (hel i hi y hy)
  obtain ⟨⟨ws, hi, hP, hD⟩, hS, hA⟩ := hw
  obtain ⟨q0, hq0⟩ := (hi _ _).mp (xaQ_spec ha0)
  obtain ⟨q1, hq1⟩ := (hi _ _).mp (xaQ_spec ha1)
  obtain ⟨h1, h2, h3, h4, h5⟩ := hc
  exact va_copyM hx hb hml hown hlink hnat hstat hini hK hP hD hS q0 q1 0 0 hq0 hq1 rfl rfl h1 h2 h3 h4 h5 hany hframes hlocals hdg (fun H1 locs1 hP1 hD1 hS1 => kk H1 locs1 (xw_S_set hi hD hA hq1 hP1 hD1 hS1))
end XS
end
section
/-! A HEAP BY NAMES: every object of the two systems has a name (a triple of numbers), an address (ad), a content (ct). Names that are alive have addresses of their own. -/
abbrev xR : Type := Nat × Nat × Nat
def xup {α : Type} (f : xR → α) (r : xR) (v : α) : xR → α := fun z => if z = r then v else f z
theorem xup_self {α : Type} (f : xR → α) (r : xR) (v : α) : xup f r v r = v := if_pos rfl
theorem xup_ne {α : Type} (f : xR → α) {r z : xR} (v : α) (h : z ≠ r) : xup f r v z = f z := if_neg h
def xRp (w : xw_T) (ad : xR → Nat) (ct : xR → Option va_E) : Prop := (∀ (r : xR) (e : va_E), ct r = some e → w (ad r) = some e) ∧ ∀ r z : xR, ct r ≠ none → ct z ≠ none → ad r = ad z → r = z
theorem xRp.at {w : xw_T} {ad : xR → Nat} {ct : xR → Option va_E} (h : xRp w ad ct) {r : xR} {e : va_E} (he : ct r = some e) : w (ad r) = some e := h.1 r e he
theorem xRp.set {w : xw_T} {ad : xR → Nat} {ct : xR → Option va_E} (h : xRp w ad ct) {r : xR} {e0 : va_E} (he : ct r = some e0) (e : va_E) : xRp (va_up w (ad r) (some e)) ad (xup ct r (some e)) := by
  have hl : ∀ z, xup ct r (some e) z ≠ none → ct z ≠ none := by
    intro z hz
    by_cases q : z = r
    · rw [q, he]; exact fun x => by cases x
    · rw [xup_ne _ _ q] at hz; exact hz
  refine ⟨fun z e' hz => ?_, fun z y hz hy e' => h.2 z y (hl z hz) (hl y hy) e'⟩
  by_cases q : z = r
  · subst q
    rw [xup_self] at hz
    rw [va_up_self]; exact hz
  · have hz' := hz
    rw [xup_ne _ _ q] at hz
    have ha : ad z ≠ ad r := fun x => q (h.2 z r (by rw [hz]; exact fun x => by cases x) (by rw [he]; exact fun x => by cases x) x)
    rw [va_up_ne _ _ ha]
    exact h.1 z e' hz
theorem xRp.new {w : xw_T} {ad : xR → Nat} {ct : xR → Option va_E} (h : xRp w ad ct) {r : xR} {q : Nat} (hr : ct r = none) (hq : w q = none) (e : va_E) : xRp (va_up w q (some e)) (xup ad r q) (xup ct r (some e)) := by
  have hne : ∀ z e', ct z = some e' → ad z ≠ q := by
    intro z e' hz x
    have := h.1 z e' hz
    rw [x, hq] at this
    cases this
  refine ⟨fun z e' hz => ?_, fun z y hz hy x => ?_⟩
  · by_cases k : z = r
    · subst k
      rw [xup_self] at hz
      rw [xup_self, va_up_self]; exact hz
    · rw [xup_ne _ _ k] at hz
      rw [xup_ne _ _ k, va_up_ne _ _ (hne z e' hz)]
      exact h.1 z e' hz
  · by_cases k : z = r
    · by_cases k2 : y = r
      · rw [k, k2]
      · rw [xup_ne _ _ k2] at hy
        rw [k, xup_self, xup_ne _ _ k2] at x
        obtain ⟨e', he'⟩ := Option.ne_none_iff_exists'.mp hy
        exact absurd x.symm (hne y e' he')
    · rw [xup_ne _ _ k] at hz
      obtain ⟨e', he'⟩ := Option.ne_none_iff_exists'.mp hz
      by_cases k2 : y = r
      · rw [k2, xup_self, xup_ne _ _ k] at x
        exact absurd x (hne z e' he')
      · rw [xup_ne _ _ k2] at hy
        rw [xup_ne _ _ k, xup_ne _ _ k2] at x
        exact h.2 z y hz hy x
/-- another table of contents that says no more -/
theorem xRp.mono {w : xw_T} {ad ad' : xR → Nat} {ct ct' : xR → Option va_E} (h : xRp w ad ct) (hc : ∀ r e, ct' r = some e → ct r = some e) (ha : ∀ r, ct' r ≠ none → ad' r = ad r) : xRp w ad' ct' := by
  have hl : ∀ z, ct' z ≠ none → ct z ≠ none := by
    intro z hz
    obtain ⟨e, he⟩ := Option.ne_none_iff_exists'.mp hz
    rw [hc z e he]; exact fun x => by cases x
  refine ⟨fun r e he => ?_, fun r z hr hz x => h.2 r z (hl r hr) (hl z hz) (by rw [← ha r hr, ← ha z hz]; exact x)⟩
  rw [ha r (by rw [he]; exact fun x => by cases x)]
  exact h.1 r e (hc r e he)
end
section
/-! A METHOD THAT MAY THROW -/
/-- it threw x, an IllegalStateException; the map stands -/
def xThr (D : va_G) (A : Nat → Prop) (postT : xw_T → Prop) (x : Addr) (st t : State) : Prop := (∃ w : xw_T, postT w ∧ xB D A w t) ∧ va_F A st t ∧ ∃ ce : Cell, t.heap[x]? = some ce ∧ ce.vm = .none ∧ st.vm.findClass xEx = some ce.cls
def xTE (D : va_G) (A : Nat → Prop) (post : Int32 → xw_T → Prop) (postT : xw_T → Prop) (mc ms : Nat) (a : Array Value) (s : State) (o : Outcome) (t : State) : Prop :=
  (va_Qi post (xB D A) A a s o t ∧ ∃ L, FrameEnd s o t L mc ms ∧ ∀ q ∈ L, A q.base) ∨ ∃ (x : Addr) (L : List Loc), o = .threw x ∧ xThr D A postT x s t ∧ s.WarmedH t.vm ∧ s.sameButNew ({ t with vm := s.vm } : State) L mc ms ∧ ∀ q ∈ L, A q.base
def xTQ (below : List Frame) (D : va_G) (A : Nat → Prop) (post : Int32 → xw_T → Prop) (postT : xw_T → Prop) (a : Array Value) (s : State) (mc ms : Nat) : State → Prop := fun t =>
  ∃ o, t.status = .running ∧ Ended t below o ∧ xTE D A post postT mc ms a s o t
def xMetT (l : Launch) (y : MethodName) (ws : List Cond) (rm : Room) (Pc : Array Value → State → Prop) (D : va_G) (A : Nat → Prop) (post : Int32 → xw_T → Prop) (postT : xw_T → Prop) (mc ms : Nat) : Prop :=
  MetFree l y (headSpec ws rm) Pc (fun _ _ _ _ _ => True) (xTE D A post postT mc ms)
theorem xMetT.ofW {l : Launch} {y : MethodName} {ws ws' : List Cond} {rm : Room} {Pc : Array Value → State → Prop} {D : va_G} {A : Nat → Prop} {post : Int32 → xw_T → Prop} {postT : xw_T → Prop} {mc ms : Nat} {cc : ByteArray} {maxL : Nat} {ret : Option FieldType}
    (hy : plainName y.cls = true) (hw : ws = Cond.code y cc maxL ret :: ws')
    (body : ∀ p e s m args below meth c s₁, BodyLoose p l y (headSpec ws rm) cc maxL ret e s m args below meth c s₁ → c.maxLocals = maxL → Pc args s → W p l e (headSpec ws rm).room s m args below meth c s.heap [] 0 0 (xTQ below D A post postT args s mc ms) (entryFrame m args maxL)) : xMetT l y ws rm Pc D A post postT mc ms := by
  refine MetFree.of_bodyS (code := cc) (maxLocals := maxL) (ret := ret) hy ?_ ?_
  · intro args s m h hn
    obtain ⟨meth, c, h1, h2, h3, h4, h5, h6, -, -⟩ := Cond.code_spec hn (atoms_spec (ws := ws) h _ (by rw [hw]; exact List.mem_cons_self))
    exact ⟨meth, c, h1, h2, h3, h4, h5, h6⟩
  · intro p e s m args below meth c s₁ B hml hP _
    obtain ⟨t, a1, o, b1, b2, b3⟩ := body p e s m args below meth c s₁ B hml hP s₁ (by rw [B.state]; rfl) (Stand.of_body B)
    exact ⟨t, o, a1, b1, b2, b3⟩
section XT
variable {p : Program} {l : Launch} {e : Env} {R : Room} {s : State} {m : MethodId} {args : Array Value} {below : List Frame} {meth : Method} {c : Code} {H : Heap} {locs : List Loc} {cells slots : Nat}
variable {cc : ByteArray} {pc : Nat} {ls : Array Slot} {rest : List Value} {D : va_G} {E : xE_T} {A : Nat → Prop} {w w0 : xw_T} {post : Int32 → xw_T → Prop} {postT : xw_T → Prop} {mc ms : Nat}
theorem xT_ret {g : JFrame} (k : W p l e R s m args below meth c H locs cells slots (MQ below (va_Qi post (xB D A) A) args s mc ms A) g) : W p l e R s m args below meth c H locs cells slots (xTQ below D A post postT args s mc ms) g := by
  intro T hT X
  obtain ⟨t, a1, o, b1, b2, b3, b4⟩ := k T hT X
  exact ⟨t, a1, o, b1, b2, Or.inl ⟨b3, b4⟩⟩
/-- nothing that was there changes but at the slots of locs -/
theorem xT_frame {U : State} {k n : Nat} (h : s.sameButNew ({ U with vm := s.vm } : State) locs k n) (q : Nat) (hq : q < s.heap.size) (hz : ∀ z ∈ locs, z.base ≠ q) : U.heap[q]? = s.heap[q]? := by
  have h6 := h.2.2.2.2.2 q _ (Array.getElem?_eq_getElem hq)
  obtain ⟨c9, e1, e2, -, e4⟩ := h6
  have hs : c9.slots = (s.heap[q]).slots := Array.ext_getElem? fun i => e4 i fun hm => hz _ hm rfl
  rw [hs] at e2
  have e5 : U.heap[q]? = some c9 := e1
  rw [e5, e2, Array.getElem?_eq_getElem hq]
/-- the walk, looked at from here: the state as it is now is taken as the method's start -/
theorem xT_anew {T : State} (X : Stand p l e R s m args below meth c T locs cells slots) {k n : Nat} (hk : cells + k ≤ R.cells) (hn : slots + n ≤ R.slots) :
    Stand p l e ({ frames := R.frames, cells := k, slots := n, locals := R.locals } : Room) ((T.setVm s.vm).setFrames (.invoking m args :: below)) m args below meth c T [] 0 0 := by
  have hcur := State.cur_lt_of_top (s := T.setVm s.vm) X.here.top
  have hfr : ((T.setVm s.vm).setFrames (.invoking m args :: below)).frames = .invoking m args :: below := State.frames_setFrames _ hcur
  have hroom := X.room
  have hheap := X.heapSize
  have hused := X.used
  have hlim : e.platform.stackLimits (T.setVm s.vm).me = e.platform.stackLimits s.me := X.limits
  have hby : (T.setVm s.vm).me.stackBytes = s.me.stackBytes := X.bytes
  have hin : ((T.setVm s.vm).setFrames (.invoking m args :: below)).localsInUse = s.localsInUse := by
    rw [State.localsInUse_invoking hfr (meth := meth) (c := c) X.method X.code, State.localsInUse_invoking X.frames X.method X.code]
  constructor
  · exact X.admits
  · exact X.cas
  · exact X.clock
  · exact hfr
  · simp only [State.hasRoom, Bool.and_eq_true, decide_eq_true_eq] at hroom ⊢
    obtain ⟨⟨⟨⟨r1, r2, r3, r4, r5, r6⟩, r7⟩, r8⟩, r9⟩ := hroom
    rw [X.frames, List.length_cons] at r2 r3
    simp only [hfr, hin, List.length_cons, State.stackLimits_setFrames, State.stackBytes_setFrames, hlim, hby]
    refine ⟨⟨⟨⟨r1, r2, r3, r4, r5, r6⟩, ?_⟩, ?_⟩, X.book⟩
    · show T.heap.size + k ≤ e.platform.maxCells
      omega
    · show T.slotsUsed + n ≤ e.platform.maxSlots
      omega
  · exact X.hears
  · exact X.method
  · exact X.code
  · exact X.here
  · exact X.tail
  · exact X.warmed
  · rw [State.stackLimits_setFrames]; rfl
  · rw [State.stackBytes_setFrames]; rfl
  · obtain ⟨g0, hg0⟩ := Option.isSome_iff_exists.mp (show (T.setVm s.vm).topJava?.isSome from X.here.top)
    obtain ⟨r, hr⟩ := State.topJava?_eq_some.mp hg0
    obtain ⟨t, ht, -⟩ := State.frames_cons hr
    have hd : T.heap.toList.drop T.heap.size = [] := List.drop_eq_nil_of_le (Nat.le_of_eq Array.length_toList)
    refine ⟨?_, Nat.le_refl _, Nat.le_refl _, ?_, ?_, fun a c9 h9 => ⟨c9, h9, rfl, rfl, fun _ _ => rfl⟩⟩
    · show T.setVm s.vm = { ((T.setVm s.vm).setFrames (.invoking m args :: below)).setFrames (T.setVm s.vm).frames with heap := T.heap, slotsUsed := T.slotsUsed }
      rw [State.setFrames_setFrames, State.setFrames_self ht]
      rfl
    · show T.slotsUsed = T.slotsUsed + ((T.heap.toList.drop T.heap.size).map (·.slots.size)).sum
      rw [hd]; rfl
    · show ((T.heap.toList.drop T.heap.size).map (·.slots.size)).sum ≤ 0
      rw [hd]; exact Nat.le_refl _
theorem xThA_fit : Bundle.fit xEx = true ∧ ∀ n ∈ (["java/lang/RuntimeException", "java/lang/Exception"] : List String), Bundle.fit n = true := by decide +kernel
theorem xThA_in : ∀ w ∈ xThA.filter goodWord, w ∈ xTB := by
  intro w hw
  have h : ∀ w ∈ xThA.filter goodWord, w ∈ lw_tbl := by decide +kernel
  exact List.mem_filter.mpr ⟨h w hw, (List.mem_filter.mp hw).2⟩
theorem xT_atoms {args' : Array Value} {U : State} (hts : ∀ w ∈ xTB, w.before args' U = true) (hE : xF E A U) : ∀ w ∈ xThA, w.before args' U = true := by
  intro w hw
  by_cases g : goodWord w = true
  · exact hts w (xThA_in w (List.mem_filter.mpr ⟨hw, g⟩))
  · have hg : goodWord w = false := by cases h : goodWord w with | true => exact absurd h g | false => rfl
    exact xKw_use (hE.2.2.2.2.2 w (List.mem_filter.mpr ⟨hw, by rw [hg]; rfl⟩)) _
set_option maxHeartbeats 4000000 in
theorem xT_throw (hx : p.tables.exec = Jvm.exec) (hb : c.code = cc) (hl : l.stackTraces = false) (hown : s.vm.findClass RPL = some m.cls) (hts : ∀ w ∈ xTB, w.before args s = true) (hE : xF E A s) (hw : xw_S D vwCl A s.heap w H locs) (h : postT w) (hsize : ls.size = c.maxLocals)
    (hk : (Cond.classLink RPL 118 xEx).before args s = true) (hini : (Cond.initialized xEx).before args s = true)
    (d0 : decode cc pc = .ok (.new 118, 3)) (d3 : decode cc (pc + 3) = .ok (.dup, 1)) (d4 : decode cc (pc + 4) = .ok (.ldc 120, 2)) (d6 : decode cc (pc + 6) = .ok (.invokespecial 122, 3)) (d9 : decode cc (pc + 9) = .ok (.athrow, 1))
    (hout : ∀ x ∈ c.exceptionTable.toList, covers x (pc + 9) = false) (hRf : 2 + 3 < R.frames) (hRl : 82 + (rest.map fun v => v.category).sum ≤ R.locals) (hRc : cells + 1 ≤ R.cells) (hRs : slots + 6 ≤ R.slots) (hmc : cells + 1 ≤ mc) (hms : slots + 6 ≤ ms) (hlocks : meth.locks = false) :
    W p l e R s m args below meth c H locs cells slots (xTQ below D A post postT args s mc ms) (F0 m pc ls rest) := by
  intro T hT X
  have htr : e.platform.stackTraces = false := (show e.platform.stackTraces = l.stackTraces by rw [X.admits.platform]).trans hl
  have Y := xT_anew X (k := 1) (n := 6) hRc hRs
  obtain ⟨s', hs'⟩ : ∃ z, z = (T.setVm s.vm).setFrames (.invoking m args :: below) := ⟨_, rfl⟩
  rw [← hs'] at Y
  have hvm : s'.vm = s.vm := by rw [hs']; rfl
  have hhp : s'.heap = H := by rw [hs']; exact hT
  have hW0 : s.WarmedH s'.vm := by rw [hvm]; exact State.WarmedH.refl s
  have hE' : xF E A s' := xF_of hE hW0 (by rw [hhp]; exact hw.2.1)
  have hts' : ∀ w ∈ xTB, w.before args s' = true := fun w hw => word_at hW0 (xTB_good w hw).2 (hts w hw)
  have hat := xT_atoms hts' hE'
  have hown' : s'.vm.findClass RPL = some m.cls := by rw [hvm]; exact hown
  have hk' : (Cond.classLink RPL 118 xEx).before args s' = true := word_at hW0 (Or.inl rfl) hk
  have hini' : (Cond.initialized xEx).before args s' = true := word_at hW0 (Or.inl rfl) hini
  have hins : (Cond.instantiable xEx 6).before args s' = true := hat _ (by simp [xThA, Bundle.ownAtoms])
  obtain ⟨vm₁, cX, kX, hfX, hkX, -, -, X₁, st1⟩ := Y.newCold hx (own := RPL) (C := xEx) (index := 118) (n := 6) hown' hk' hins hini' (g := F0 m pc ls rest) rfl (by rw [hb]; exact d0) (Nat.le_refl _) (Nat.le_refl _)
  generalize hT1 : (T.setVm vm₁).pushCell { cls := cX, slots := kX.instanceTypes.map defaultValue, vm := .none } = T1 at X₁ st1
  have hcat : (Value.ref T.heap.size).category = 1 := rfl
  have hcellA : T1.heap[T.heap.size]? = some (freshCell cX kX) := by rw [← hT1]; exact State.heap_pushCell_size _ _
  have d3' : decode c.code (pc + 3) = .ok (.dup, 1) := by rw [hb]; exact d3
  have d4' : decode c.code (pc + 4) = .ok (.ldc 120, 2) := by rw [hb]; exact d4
  have hstr := hE'.2.1.2.2.2
  obtain ⟨U, hsteps, hrun, hend, hW, hsame, ce, hce, hO⟩ := X₁.ctorThrowS hx htr (own := RPL) (cls := xEx) (names := ["java/lang/RuntimeException", "java/lang/Exception"]) (ic := 122) hown' xThA_fit.1 xThA_fit.2 hat (fun x hx => nomatch hx) hfX hkX hcellA (by rw [hhp, hT]; exact Nat.le_refl _) (msg := .ref (E.2 8)) rfl
    (g := { method := m, pc := pc + 6, locals := ls, stack := .ref (E.2 8) :: .ref T.heap.size :: .ref T.heap.size :: rest, locked := none }) rfl hsize rfl rfl (rest := rest) rfl
    (by rw [hb]; exact d6) (by rw [hb]; exact d9) hout hRf (by simp only [List.map_cons, List.sum_cons, hcat, List.length_cons, List.length_nil]; show 2 * 0 + _ + _ ≤ R.locals; omega) hlocks
  have hfr : ∀ q : Nat, q < H.size → U.heap[q]? = H[q]? := fun q hq => by
    have h1 := xT_frame hsame q (by rw [hhp]; exact hq) (fun z hz => nomatch hz)
    rw [h1, hhp]
  have hsz : H.size ≤ U.heap.size := by
    have h1 := hsame.2.1
    rw [hhp] at h1
    exact h1
  have hWs : s.WarmedH U.vm := State.WarmedH.trans hW0 hW
  have hcl : s.vm.findClass xEx = some ce.cls := by
    have h9 := hO.cls
    rw [hvm] at h9
    exact h9
  have hall : s.sameButNew ({ U with vm := s.vm } : State) locs mc ms := by
    subst hs'
    obtain ⟨e1, e2⟩ := hsame
    rw [State.setFrames_setFrames] at e1
    have h2 : (T.setVm s.vm).sameButNew ({ U with vm := s.vm } : State) [] (0 + 1) (0 + 6) := ⟨e1, e2⟩
    have h3 := X.same.trans h2
    rw [List.append_nil] at h3
    exact h3.mono hmc hms
  obtain ⟨⟨ws, hi, hP, hD⟩, hS, hA⟩ := hw
  refine ⟨U, ?_, .threw T.heap.size, hrun, hend, Or.inr ⟨T.heap.size, locs, rfl, ⟨⟨w, h, ws, hi, hP.kept (fun k q hq => hfr q.1 (hP k q hq).lt), hD⟩, ⟨Nat.le_trans hS.1 hsz, fun q h1 h2 => (hfr q (Nat.lt_of_lt_of_le h1 hS.1)).trans (hS.2.1 q h1 h2)⟩, ce, hce, hO.vm, hcl⟩, hWs, hall, hS.2.2⟩⟩
  refine st1 _ ?_
  show Steps p.tables e below (T1.setTop { method := m, pc := pc + 3, locals := ls, stack := .ref T.heap.size :: rest, locked := none }) _
  jvm_step X₁.here [X₁.here.top, hx, d3', Value.category]
  exact X₁.ldcString hx (own := RPL) (text := "the batch is refused") (index := 120) (a := E.2 8) hown' hstr.1 hstr.2
    (g := { method := m, pc := pc + 4, locals := ls, stack := .ref T.heap.size :: .ref T.heap.size :: rest, locked := none }) rfl d4' _ hsteps
end XT
end
