section
-- ===== PART A: goes FIRST, ahead of the names: the tables' words, and 'selects' of the private methods out of them =====
/-- a private method of a class that the tables say can be made, by its rows of tables_1 -/
def lw_okq (q : MethodName × Nat) : Prop := (q.1.cls ≠ "java/lang/invoke/MethodHandle" ∧ q.1.cls ≠ "java/lang/invoke/VarHandle") ∧ Cond.instantiable q.1.cls q.2 ∈ tables_1 ∧ Cond.privateMethod q.1 ∈ tables_1 ∧ Cond.instanceMethod q.1 ∈ tables_1
theorem lw_p0 : lw_okq (⟨"java/util/ArrayList", "add", "(Ljava/lang/Object;[Ljava/lang/Object;I)V"⟩, 3) := ⟨⟨by decide +kernel, by decide +kernel⟩, List.mem_of_getElem? (i := 31) (by decide +kernel), List.mem_of_getElem? (i := 109) (by decide +kernel), List.mem_of_getElem? (i := 110) (by decide +kernel)⟩
theorem lw_p1 : lw_okq (⟨"java/util/ArrayList", "grow", "()[Ljava/lang/Object;"⟩, 3) := ⟨⟨by decide +kernel, by decide +kernel⟩, List.mem_of_getElem? (i := 31) (by decide +kernel), List.mem_of_getElem? (i := 113) (by decide +kernel), List.mem_of_getElem? (i := 114) (by decide +kernel)⟩
theorem lw_p2 : lw_okq (⟨"java/util/ArrayList", "grow", "(I)[Ljava/lang/Object;"⟩, 3) := ⟨⟨by decide +kernel, by decide +kernel⟩, List.mem_of_getElem? (i := 31) (by decide +kernel), List.mem_of_getElem? (i := 117) (by decide +kernel), List.mem_of_getElem? (i := 118) (by decide +kernel)⟩
theorem lw_p3 : lw_okq (⟨"PostLedger", "isClosed", "(J)Z"⟩, 4) := ⟨⟨by decide +kernel, by decide +kernel⟩, List.mem_of_getElem? (i := 23) (by decide +kernel), List.mem_of_getElem? (i := 172) (by decide +kernel), List.mem_of_getElem? (i := 173) (by decide +kernel)⟩
theorem lw_p4 : lw_okq (⟨"PostLedger", "hasRoomForBatch", "()Z"⟩, 4) := ⟨⟨by decide +kernel, by decide +kernel⟩, List.mem_of_getElem? (i := 23) (by decide +kernel), List.mem_of_getElem? (i := 177) (by decide +kernel), List.mem_of_getElem? (i := 178) (by decide +kernel)⟩
theorem lw_p5 : lw_okq (⟨"PostLedger", "findBatch", "(I)LPostLedger$Batch;"⟩, 4) := ⟨⟨by decide +kernel, by decide +kernel⟩, List.mem_of_getElem? (i := 23) (by decide +kernel), List.mem_of_getElem? (i := 218) (by decide +kernel), List.mem_of_getElem? (i := 219) (by decide +kernel)⟩
theorem lw_p6 : lw_okq (⟨"PostLedger", "findAccount", "(I)LPostLedger$Account;"⟩, 4) := ⟨⟨by decide +kernel, by decide +kernel⟩, List.mem_of_getElem? (i := 23) (by decide +kernel), List.mem_of_getElem? (i := 236) (by decide +kernel), List.mem_of_getElem? (i := 237) (by decide +kernel)⟩
theorem lw_p7 : lw_okq (⟨"PostLedger", "findBatchOfRow", "(I)LPostLedger$Batch;"⟩, 4) := ⟨⟨by decide +kernel, by decide +kernel⟩, List.mem_of_getElem? (i := 23) (by decide +kernel), List.mem_of_getElem? (i := 295) (by decide +kernel), List.mem_of_getElem? (i := 296) (by decide +kernel)⟩
theorem lw_p8 : lw_okq (⟨"PostLedger", "enterIntoBooks", "(LPostLedger$Batch;)V"⟩, 4) := ⟨⟨by decide +kernel, by decide +kernel⟩, List.mem_of_getElem? (i := 23) (by decide +kernel), List.mem_of_getElem? (i := 309) (by decide +kernel), List.mem_of_getElem? (i := 310) (by decide +kernel)⟩
theorem lw_p9 : lw_okq (⟨"PostLedger", "totalOfKind", "(II)J"⟩, 4) := ⟨⟨by decide +kernel, by decide +kernel⟩, List.mem_of_getElem? (i := 23) (by decide +kernel), List.mem_of_getElem? (i := 321) (by decide +kernel), List.mem_of_getElem? (i := 322) (by decide +kernel)⟩
theorem lw_p10 : lw_okq (⟨"PostLedger", "firstOfKind", "(II)LPostLedger$Account;"⟩, 4) := ⟨⟨by decide +kernel, by decide +kernel⟩, List.mem_of_getElem? (i := 23) (by decide +kernel), List.mem_of_getElem? (i := 329) (by decide +kernel), List.mem_of_getElem? (i := 330) (by decide +kernel)⟩
theorem lw_p11 : lw_okq (⟨"PostLedger$Batch", "sumOfRows", "()J"⟩, 6) := ⟨⟨by decide +kernel, by decide +kernel⟩, List.mem_of_getElem? (i := 181) (by decide +kernel), List.mem_of_getElem? (i := 376) (by decide +kernel), List.mem_of_getElem? (i := 377) (by decide +kernel)⟩
theorem lw_p12 : lw_okq (⟨"PostLedger$Batch", "breaksLimit", "(LPostLedger$Row;I)Z"⟩, 6) := ⟨⟨by decide +kernel, by decide +kernel⟩, List.mem_of_getElem? (i := 181) (by decide +kernel), List.mem_of_getElem? (i := 382) (by decide +kernel), List.mem_of_getElem? (i := 383) (by decide +kernel)⟩
theorem lw_p13 : lw_okq (⟨"java/lang/Throwable", "fillInStackTrace", "(I)Ljava/lang/Throwable;"⟩, 6) := ⟨⟨by decide +kernel, by decide +kernel⟩, List.mem_of_getElem? (i := 435) (by decide +kernel), List.mem_of_getElem? (i := 433) (by decide +kernel), List.mem_of_getElem? (i := 434) (by decide +kernel)⟩
theorem lw_p14 : lw_okq (⟨"PostLedgerModel", "make", "(J)I"⟩, 17) := ⟨⟨by decide +kernel, by decide +kernel⟩, List.mem_of_getElem? (i := 465) (by decide +kernel), List.mem_of_getElem? (i := 548) (by decide +kernel), List.mem_of_getElem? (i := 549) (by decide +kernel)⟩
theorem lw_p15 : lw_okq (⟨"PostLedgerModel", "isBatch", "(I)Z"⟩, 17) := ⟨⟨by decide +kernel, by decide +kernel⟩, List.mem_of_getElem? (i := 465) (by decide +kernel), List.mem_of_getElem? (i := 556) (by decide +kernel), List.mem_of_getElem? (i := 557) (by decide +kernel)⟩
def lw_privs_1 : List (MethodName × Nat) := [(⟨"java/util/ArrayList", "add", "(Ljava/lang/Object;[Ljava/lang/Object;I)V"⟩, 3), (⟨"java/util/ArrayList", "grow", "()[Ljava/lang/Object;"⟩, 3), (⟨"java/util/ArrayList", "grow", "(I)[Ljava/lang/Object;"⟩, 3), (⟨"PostLedger", "isClosed", "(J)Z"⟩, 4), (⟨"PostLedger", "hasRoomForBatch", "()Z"⟩, 4), (⟨"PostLedger", "findBatch", "(I)LPostLedger$Batch;"⟩, 4), (⟨"PostLedger", "findAccount", "(I)LPostLedger$Account;"⟩, 4), (⟨"PostLedger", "findBatchOfRow", "(I)LPostLedger$Batch;"⟩, 4), (⟨"PostLedger", "enterIntoBooks", "(LPostLedger$Batch;)V"⟩, 4), (⟨"PostLedger", "totalOfKind", "(II)J"⟩, 4), (⟨"PostLedger", "firstOfKind", "(II)LPostLedger$Account;"⟩, 4), (⟨"PostLedger$Batch", "sumOfRows", "()J"⟩, 6), (⟨"PostLedger$Batch", "breaksLimit", "(LPostLedger$Row;I)Z"⟩, 6), (⟨"java/lang/Throwable", "fillInStackTrace", "(I)Ljava/lang/Throwable;"⟩, 6), (⟨"PostLedgerModel", "make", "(J)I"⟩, 17), (⟨"PostLedgerModel", "isBatch", "(I)Z"⟩, 17)]
theorem lw_r1 : ∀ q ∈ lw_privs_1, lw_okq q := List.forall_mem_cons.mpr ⟨lw_p0, List.forall_mem_cons.mpr ⟨lw_p1, List.forall_mem_cons.mpr ⟨lw_p2, List.forall_mem_cons.mpr ⟨lw_p3, List.forall_mem_cons.mpr ⟨lw_p4, List.forall_mem_cons.mpr ⟨lw_p5, List.forall_mem_cons.mpr ⟨lw_p6, List.forall_mem_cons.mpr ⟨lw_p7, List.forall_mem_cons.mpr ⟨lw_p8, List.forall_mem_cons.mpr ⟨lw_p9, List.forall_mem_cons.mpr ⟨lw_p10, List.forall_mem_cons.mpr ⟨lw_p11, List.forall_mem_cons.mpr ⟨lw_p12, List.forall_mem_cons.mpr ⟨lw_p13, List.forall_mem_cons.mpr ⟨lw_p14, List.forall_mem_cons.mpr ⟨lw_p15, fun _ h => absurd h List.not_mem_nil⟩⟩⟩⟩⟩⟩⟩⟩⟩⟩⟩⟩⟩⟩⟩⟩
theorem lw_p16 : lw_okq (⟨"PostLedgerModel", "isAccount", "(I)Z"⟩, 17) := ⟨⟨by decide +kernel, by decide +kernel⟩, List.mem_of_getElem? (i := 465) (by decide +kernel), List.mem_of_getElem? (i := 560) (by decide +kernel), List.mem_of_getElem? (i := 561) (by decide +kernel)⟩
theorem lw_p17 : lw_okq (⟨"PostLedgerModel", "put", "(IIJ)V"⟩, 17) := ⟨⟨by decide +kernel, by decide +kernel⟩, List.mem_of_getElem? (i := 465) (by decide +kernel), List.mem_of_getElem? (i := 566) (by decide +kernel), List.mem_of_getElem? (i := 567) (by decide +kernel)⟩
theorem lw_p18 : lw_okq (⟨"PostLedgerModel", "go", "(I)I"⟩, 17) := ⟨⟨by decide +kernel, by decide +kernel⟩, List.mem_of_getElem? (i := 465) (by decide +kernel), List.mem_of_getElem? (i := 575) (by decide +kernel), List.mem_of_getElem? (i := 576) (by decide +kernel)⟩
theorem lw_p19 : lw_okq (⟨"PostLedgerModel", "stops", "(I)I"⟩, 17) := ⟨⟨by decide +kernel, by decide +kernel⟩, List.mem_of_getElem? (i := 465) (by decide +kernel), List.mem_of_getElem? (i := 579) (by decide +kernel), List.mem_of_getElem? (i := 580) (by decide +kernel)⟩
theorem lw_p20 : lw_okq (⟨"PostLedgerModel", "balanceOf", "(IJ)J"⟩, 17) := ⟨⟨by decide +kernel, by decide +kernel⟩, List.mem_of_getElem? (i := 465) (by decide +kernel), List.mem_of_getElem? (i := 584) (by decide +kernel), List.mem_of_getElem? (i := 585) (by decide +kernel)⟩
theorem lw_p21 : lw_okq (⟨"PostLedgerModel", "part", "(III)J"⟩, 17) := ⟨⟨by decide +kernel, by decide +kernel⟩, List.mem_of_getElem? (i := 465) (by decide +kernel), List.mem_of_getElem? (i := 588) (by decide +kernel), List.mem_of_getElem? (i := 589) (by decide +kernel)⟩
theorem lw_p22 : lw_okq (⟨"PostLedgerModel", "batchOf", "(I)I"⟩, 17) := ⟨⟨by decide +kernel, by decide +kernel⟩, List.mem_of_getElem? (i := 465) (by decide +kernel), List.mem_of_getElem? (i := 605) (by decide +kernel), List.mem_of_getElem? (i := 606) (by decide +kernel)⟩
theorem lw_p23 : lw_okq (⟨"PostLedgerModel", "first", "(II)I"⟩, 17) := ⟨⟨by decide +kernel, by decide +kernel⟩, List.mem_of_getElem? (i := 465) (by decide +kernel), List.mem_of_getElem? (i := 614) (by decide +kernel), List.mem_of_getElem? (i := 615) (by decide +kernel)⟩
def lw_privs_2 : List (MethodName × Nat) := [(⟨"PostLedgerModel", "isAccount", "(I)Z"⟩, 17), (⟨"PostLedgerModel", "put", "(IIJ)V"⟩, 17), (⟨"PostLedgerModel", "go", "(I)I"⟩, 17), (⟨"PostLedgerModel", "stops", "(I)I"⟩, 17), (⟨"PostLedgerModel", "balanceOf", "(IJ)J"⟩, 17), (⟨"PostLedgerModel", "part", "(III)J"⟩, 17), (⟨"PostLedgerModel", "batchOf", "(I)I"⟩, 17), (⟨"PostLedgerModel", "first", "(II)I"⟩, 17)]
theorem lw_r2 : ∀ q ∈ lw_privs_2, lw_okq q := List.forall_mem_cons.mpr ⟨lw_p16, List.forall_mem_cons.mpr ⟨lw_p17, List.forall_mem_cons.mpr ⟨lw_p18, List.forall_mem_cons.mpr ⟨lw_p19, List.forall_mem_cons.mpr ⟨lw_p20, List.forall_mem_cons.mpr ⟨lw_p21, List.forall_mem_cons.mpr ⟨lw_p22, List.forall_mem_cons.mpr ⟨lw_p23, fun _ h => absurd h List.not_mem_nil⟩⟩⟩⟩⟩⟩⟩⟩
def lw_privs : List (MethodName × Nat) := lw_privs_1 ++ (lw_privs_2)
def lw_tbl : List Cond := k2_sels lw_privs ++ tables_1
theorem lw_privs_ok : ∀ q ∈ lw_privs, lw_okq q := by
  show ∀ q ∈ lw_privs_1 ++ (lw_privs_2), lw_okq q
  exact List.forall_mem_append.mpr ⟨lw_r1, lw_r2⟩
end
section
/-! Names: classes, fields, methods; the words that every method is given (xTB) -/
def RPL : String := "PostLedger"
def RAC : String := "PostLedger$Account"
def RBA : String := "PostLedger$Batch"
def RRW : String := "PostLedger$Row"
def RMO : String := "PostLedgerModel"
def RAL : String := "java/util/ArrayList"
def RAB : String := "java/util/AbstractList"
def RAN : String := "java/util/AbstractCollection"
def RAR : String := "java/util/Arrays"
def ROB : String := "java/util/Objects"
def RPC : String := "jdk/internal/util/Preconditions"
def RAS : String := "jdk/internal/util/ArraysSupport"
def RMA : String := "java/lang/Math"
def ROJ : String := "java/lang/Object"
def TAL : u_T := fun k => match k with
  | 0 => ("java/util/AbstractList", "modCount", "I", false)
  | 1 => ("java/util/ArrayList", "elementData", "[Ljava/lang/Object;", false)
  | _ => ("java/util/ArrayList", "size", "I", false)
def tyAL : Nat → FieldType := fun k => match k with
  | 0 => .int
  | 1 => .array (.object "java/lang/Object")
  | _ => .int
theorem nmAL : ∀ a, a < 3 → ∀ b, b < 3 → a ≠ b → (TAL a).2.1 ≠ (TAL b).2.1 := by decide +kernel
theorem tyAL_ok : ∀ k, k < 3 → parseFieldDescriptor (TAL k).2.2.1 = some (tyAL k) := by decide +kernel
def TAC : u_T := fun k => match k with
  | 0 => ("PostLedger$Account", "office", "I", true)
  | 1 => ("PostLedger$Account", "kind", "I", true)
  | 2 => ("PostLedger$Account", "limit", "I", false)
  | _ => ("PostLedger$Account", "total", "J", false)
def tyAC : Nat → FieldType := fun k => match k with
  | 0 => .int
  | 1 => .int
  | 2 => .int
  | _ => .long
theorem nmAC : ∀ a, a < 4 → ∀ b, b < 4 → a ≠ b → (TAC a).2.1 ≠ (TAC b).2.1 := by decide +kernel
theorem tyAC_ok : ∀ k, k < 4 → parseFieldDescriptor (TAC k).2.2.1 = some (tyAC k) := by decide +kernel
def TBA : u_T := fun k => match k with
  | 0 => ("PostLedger$Batch", "day", "I", true)
  | 1 => ("PostLedger$Batch", "rows", "Ljava/util/ArrayList;", true)
  | 2 => ("PostLedger$Batch", "standing", "LPostLedger$Standing;", false)
  | 3 => ("PostLedger$Batch", "failsByPlan", "Z", false)
  | 4 => ("PostLedger$Batch", "isPartOfReversal", "Z", false)
  | _ => ("PostLedger$Batch", "firstRowNumber", "I", false)
def tyBA : Nat → FieldType := fun k => match k with
  | 0 => .int
  | 1 => .object "java/util/ArrayList"
  | 2 => .object "PostLedger$Standing"
  | 3 => .boolean
  | 4 => .boolean
  | _ => .int
theorem nmBA : ∀ a, a < 6 → ∀ b, b < 6 → a ≠ b → (TBA a).2.1 ≠ (TBA b).2.1 := by decide +kernel
theorem tyBA_ok : ∀ k, k < 6 → parseFieldDescriptor (TBA k).2.2.1 = some (tyBA k) := by decide +kernel
def TRW : u_T := fun k => match k with
  | 0 => ("PostLedger$Row", "account", "LPostLedger$Account;", true)
  | _ => ("PostLedger$Row", "cents", "J", true)
def tyRW : Nat → FieldType := fun k => match k with
  | 0 => .object "PostLedger$Account"
  | _ => .long
theorem nmRW : ∀ a, a < 2 → ∀ b, b < 2 → a ≠ b → (TRW a).2.1 ≠ (TRW b).2.1 := by decide +kernel
theorem tyRW_ok : ∀ k, k < 2 → parseFieldDescriptor (TRW k).2.2.1 = some (tyRW k) := by decide +kernel
def TPL : u_T := fun k => match k with
  | 0 => ("PostLedger", "accounts", "Ljava/util/ArrayList;", true)
  | 1 => ("PostLedger", "batches", "Ljava/util/ArrayList;", true)
  | 2 => ("PostLedger", "firstOpenDay", "I", false)
  | _ => ("PostLedger", "postedRows", "I", false)
def tyPL : Nat → FieldType := fun k => match k with
  | 0 => .object "java/util/ArrayList"
  | 1 => .object "java/util/ArrayList"
  | 2 => .int
  | _ => .int
theorem nmPL : ∀ a, a < 4 → ∀ b, b < 4 → a ≠ b → (TPL a).2.1 ≠ (TPL b).2.1 := by decide +kernel
theorem tyPL_ok : ∀ k, k < 4 → parseFieldDescriptor (TPL k).2.2.1 = some (tyPL k) := by decide +kernel
def TMO : u_T := fun k => match k with
  | 0 => ("PostLedgerModel", "thrown", "I", false)
  | 1 => ("PostLedgerModel", "accounts", "I", false)
  | 2 => ("PostLedgerModel", "offices", "[I", true)
  | 3 => ("PostLedgerModel", "kinds", "[I", true)
  | 4 => ("PostLedgerModel", "limits", "[J", true)
  | 5 => ("PostLedgerModel", "batches", "I", false)
  | 6 => ("PostLedgerModel", "states", "[I", true)
  | 7 => ("PostLedgerModel", "days", "[J", true)
  | 8 => ("PostLedgerModel", "planned", "[Z", true)
  | 9 => ("PostLedgerModel", "free", "[Z", true)
  | 10 => ("PostLedgerModel", "back", "[Z", true)
  | 11 => ("PostLedgerModel", "rows", "[I", true)
  | 12 => ("PostLedgerModel", "rowAccounts", "[I", true)
  | 13 => ("PostLedgerModel", "rowCents", "[J", true)
  | 14 => ("PostLedgerModel", "posted", "I", false)
  | 15 => ("PostLedgerModel", "postedBatches", "[I", true)
  | _ => ("PostLedgerModel", "closed", "J", false)
def tyMO : Nat → FieldType := fun k => match k with
  | 0 => .int
  | 1 => .int
  | 2 => .array .int
  | 3 => .array .int
  | 4 => .array .long
  | 5 => .int
  | 6 => .array .int
  | 7 => .array .long
  | 8 => .array .boolean
  | 9 => .array .boolean
  | 10 => .array .boolean
  | 11 => .array .int
  | 12 => .array .int
  | 13 => .array .long
  | 14 => .int
  | 15 => .array .int
  | _ => .long
theorem nmMO : ∀ a, a < 17 → ∀ b, b < 17 → a ≠ b → (TMO a).2.1 ≠ (TMO b).2.1 := by decide +kernel
theorem tyMO_ok : ∀ k, k < 17 → parseFieldDescriptor (TMO k).2.2.1 = some (tyMO k) := by decide +kernel
abbrev vwCl : List vw_C := [(RAL, TAL, 3), (RAC, TAC, 4), (RBA, TBA, 6), (RRW, TRW, 2), (RPL, TPL, 4), (RMO, TMO, 17)]
abbrev cPL_init : ByteArray := prog_1_method_1_code
def yPL_init : MethodName := ⟨RPL, "<init>", "()V"⟩
abbrev cOJ_init : ByteArray := object_method_1_code
def yOJ_init : MethodName := ⟨ROJ, "<init>", "()V"⟩
abbrev cAL_init : ByteArray := prog_22_method_2_code
def yAL_init : MethodName := ⟨RAL, "<init>", "()V"⟩
abbrev cAB_init : ByteArray := prog_21_method_1_code
def yAB_init : MethodName := ⟨RAB, "<init>", "()V"⟩
abbrev cAN_init : ByteArray := prog_20_method_1_code
def yAN_init : MethodName := ⟨RAN, "<init>", "()V"⟩
abbrev cPL_account : ByteArray := prog_1_method_2_code
def yPL_account : MethodName := ⟨RPL, "account", "(II)I"⟩
abbrev cPL_isOffice : ByteArray := prog_1_method_16_code
def yPL_isOffice : MethodName := ⟨RPL, "isOffice", "(I)Z"⟩
abbrev cAL_size : ByteArray := prog_22_method_8_code
def yAL_size : MethodName := ⟨RAL, "size", "()I"⟩
abbrev cAC_init : ByteArray := prog_2_method_1_code
def yAC_init : MethodName := ⟨RAC, "<init>", "(II)V"⟩
abbrev cAL_add : ByteArray := prog_22_method_25_code
def yAL_add : MethodName := ⟨RAL, "add", "(Ljava/lang/Object;)Z"⟩
abbrev cAL_add2 : ByteArray := prog_22_method_24_code
def yAL_add2 : MethodName := ⟨RAL, "add", "(Ljava/lang/Object;[Ljava/lang/Object;I)V"⟩
abbrev cAL_grow : ByteArray := prog_22_method_7_code
def yAL_grow : MethodName := ⟨RAL, "grow", "()[Ljava/lang/Object;"⟩
abbrev cAL_grow2 : ByteArray := prog_22_method_6_code
def yAL_grow2 : MethodName := ⟨RAL, "grow", "(I)[Ljava/lang/Object;"⟩
abbrev cAS_newLength : ByteArray := prog_29_method_27_code
def yAS_newLength : MethodName := ⟨RAS, "newLength", "(III)I"⟩
abbrev cMA_max : ByteArray := prog_15_method_65_code
def yMA_max : MethodName := ⟨RMA, "max", "(II)I"⟩
abbrev cAS_hugeLength : ByteArray := prog_29_method_28_code
def yAS_hugeLength : MethodName := ⟨RAS, "hugeLength", "(II)I"⟩
abbrev cAR_copyOf : ByteArray := prog_23_method_119_code
def yAR_copyOf : MethodName := ⟨RAR, "copyOf", "([Ljava/lang/Object;I)[Ljava/lang/Object;"⟩
abbrev cAR_copyOf2 : ByteArray := prog_23_method_120_code
def yAR_copyOf2 : MethodName := ⟨RAR, "copyOf", "([Ljava/lang/Object;ILjava/lang/Class;)[Ljava/lang/Object;"⟩
abbrev cMA_min : ByteArray := prog_15_method_69_code
def yMA_min : MethodName := ⟨RMA, "min", "(II)I"⟩
abbrev cPL_batch : ByteArray := prog_1_method_3_code
def yPL_batch : MethodName := ⟨RPL, "batch", "(J)I"⟩
abbrev cPL_isDay : ByteArray := prog_1_method_17_code
def yPL_isDay : MethodName := ⟨RPL, "isDay", "(J)Z"⟩
abbrev cPL_isWithin : ByteArray := prog_1_method_15_code
def yPL_isWithin : MethodName := ⟨RPL, "isWithin", "(JJJ)Z"⟩
abbrev cPL_isClosed : ByteArray := prog_1_method_18_code
def yPL_isClosed : MethodName := ⟨RPL, "isClosed", "(J)Z"⟩
abbrev cPL_hasRoomForBatch : ByteArray := prog_1_method_19_code
def yPL_hasRoomForBatch : MethodName := ⟨RPL, "hasRoomForBatch", "()Z"⟩
abbrev cBA_init : ByteArray := prog_3_method_1_code
def yBA_init : MethodName := ⟨RBA, "<init>", "(I)V"⟩
abbrev cPL_row : ByteArray := prog_1_method_4_code
def yPL_row : MethodName := ⟨RPL, "row", "(IIJ)Z"⟩
abbrev cPL_findBatch : ByteArray := prog_1_method_21_code
def yPL_findBatch : MethodName := ⟨RPL, "findBatch", "(I)LPostLedger$Batch;"⟩
abbrev cAL_get : ByteArray := prog_22_method_20_code
def yAL_get : MethodName := ⟨RAL, "get", "(I)Ljava/lang/Object;"⟩
abbrev cOB_checkIndex : ByteArray := prog_26_method_17_code
def yOB_checkIndex : MethodName := ⟨ROB, "checkIndex", "(II)I"⟩
abbrev cPC_checkIndex : ByteArray := prog_30_method_11_code
def yPC_checkIndex : MethodName := ⟨RPC, "checkIndex", "(IILjava/util/function/BiFunction;)I"⟩
abbrev cAL_elementData : ByteArray := prog_22_method_18_code
def yAL_elementData : MethodName := ⟨RAL, "elementData", "(I)Ljava/lang/Object;"⟩
abbrev cPL_findAccount : ByteArray := prog_1_method_20_code
def yPL_findAccount : MethodName := ⟨RPL, "findAccount", "(I)LPostLedger$Account;"⟩
abbrev cBA_isOpen : ByteArray := prog_3_method_2_code
def yBA_isOpen : MethodName := ⟨RBA, "isOpen", "()Z"⟩
abbrev cBA_isFull : ByteArray := prog_3_method_4_code
def yBA_isFull : MethodName := ⟨RBA, "isFull", "()Z"⟩
abbrev cBA_addRow : ByteArray := prog_3_method_6_code
def yBA_addRow : MethodName := ⟨RBA, "addRow", "(LPostLedger$Account;J)V"⟩
abbrev cRW_init : ByteArray := prog_5_method_1_code
def yRW_init : MethodName := ⟨RRW, "<init>", "(LPostLedger$Account;J)V"⟩
abbrev cPL_balance : ByteArray := prog_1_method_6_code
def yPL_balance : MethodName := ⟨RPL, "balance", "(IJ)J"⟩
abbrev cBA_size : ByteArray := prog_3_method_3_code
def yBA_size : MethodName := ⟨RBA, "size", "()I"⟩
abbrev cBA_sumForAccount : ByteArray := prog_3_method_12_code
def yBA_sumForAccount : MethodName := ⟨RBA, "sumForAccount", "(LPostLedger$Account;I)J"⟩
abbrev cPL_close : ByteArray := prog_1_method_7_code
def yPL_close : MethodName := ⟨RPL, "close", "(J)I"⟩
abbrev cPL_reverse : ByteArray := prog_1_method_8_code
def yPL_reverse : MethodName := ⟨RPL, "reverse", "(I)I"⟩
abbrev cPL_findBatchOfRow : ByteArray := prog_1_method_22_code
def yPL_findBatchOfRow : MethodName := ⟨RPL, "findBatchOfRow", "(I)LPostLedger$Batch;"⟩
abbrev cBA_hasRowNumber : ByteArray := prog_3_method_5_code
def yBA_hasRowNumber : MethodName := ⟨RBA, "hasRowNumber", "(I)Z"⟩
abbrev cBA_addRowsWithOtherSign : ByteArray := prog_3_method_7_code
def yBA_addRowsWithOtherSign : MethodName := ⟨RBA, "addRowsWithOtherSign", "(LPostLedger$Batch;)V"⟩
abbrev cPL_enterIntoBooks : ByteArray := prog_1_method_25_code
def yPL_enterIntoBooks : MethodName := ⟨RPL, "enterIntoBooks", "(LPostLedger$Batch;)V"⟩
abbrev cBA_addToTotals : ByteArray := prog_3_method_8_code
def yBA_addToTotals : MethodName := ⟨RBA, "addToTotals", "()V"⟩
abbrev cPL_stock : ByteArray := prog_1_method_9_code
def yPL_stock : MethodName := ⟨RPL, "stock", "(IIJ)I"⟩
abbrev cPL_totalOfKind : ByteArray := prog_1_method_24_code
def yPL_totalOfKind : MethodName := ⟨RPL, "totalOfKind", "(II)J"⟩
abbrev cAC_isOfKind : ByteArray := prog_2_method_2_code
def yAC_isOfKind : MethodName := ⟨RAC, "isOfKind", "(II)Z"⟩
abbrev cPL_firstOfKind : ByteArray := prog_1_method_23_code
def yPL_firstOfKind : MethodName := ⟨RPL, "firstOfKind", "(II)LPostLedger$Account;"⟩
abbrev cPL_limit : ByteArray := prog_1_method_10_code
def yPL_limit : MethodName := ⟨RPL, "limit", "(IJ)I"⟩
abbrev cPL_fails : ByteArray := prog_1_method_11_code
def yPL_fails : MethodName := ⟨RPL, "fails", "(IZ)Z"⟩
abbrev cPL_hold : ByteArray := prog_1_method_12_code
def yPL_hold : MethodName := ⟨RPL, "hold", "(I)J"⟩
abbrev cBA_takenFromAccount : ByteArray := prog_3_method_13_code
def yBA_takenFromAccount : MethodName := ⟨RBA, "takenFromAccount", "(LPostLedger$Account;)J"⟩
abbrev cPL_rows : ByteArray := prog_1_method_13_code
def yPL_rows : MethodName := ⟨RPL, "rows", "()I"⟩
abbrev cPL_all : ByteArray := prog_1_method_14_code
def yPL_all : MethodName := ⟨RPL, "all", "()J"⟩
abbrev cPL_post : ByteArray := prog_1_method_5_code
def yPL_post : MethodName := ⟨RPL, "post", "(I)I"⟩
abbrev cBA_outcomeOfPosting : ByteArray := prog_3_method_9_code
def yBA_outcomeOfPosting : MethodName := ⟨RBA, "outcomeOfPosting", "()LPostLedger$Outcome;"⟩
abbrev cAL_isEmpty : ByteArray := prog_22_method_9_code
def yAL_isEmpty : MethodName := ⟨RAL, "isEmpty", "()Z"⟩
abbrev cBA_sumOfRows : ByteArray := prog_3_method_11_code
def yBA_sumOfRows : MethodName := ⟨RBA, "sumOfRows", "()J"⟩
abbrev cBA_breaksLimit : ByteArray := prog_3_method_10_code
def yBA_breaksLimit : MethodName := ⟨RBA, "breaksLimit", "(LPostLedger$Row;I)Z"⟩
abbrev cRW_takesFromCustomer : ByteArray := prog_5_method_2_code
def yRW_takesFromCustomer : MethodName := ⟨RRW, "takesFromCustomer", "()Z"⟩
abbrev cMO_init : ByteArray := prog_8_method_1_code
def yMO_init : MethodName := ⟨RMO, "<init>", "()V"⟩
abbrev cMO_thrown : ByteArray := prog_8_method_2_code
def yMO_thrown : MethodName := ⟨RMO, "thrown", "()I"⟩
abbrev cMO_account : ByteArray := prog_8_method_6_code
def yMO_account : MethodName := ⟨RMO, "account", "(II)I"⟩
abbrev cMO_isIn : ByteArray := prog_8_method_3_code
def yMO_isIn : MethodName := ⟨RMO, "isIn", "(JJJ)Z"⟩
abbrev cMO_batch : ByteArray := prog_8_method_8_code
def yMO_batch : MethodName := ⟨RMO, "batch", "(J)I"⟩
abbrev cMO_make : ByteArray := prog_8_method_7_code
def yMO_make : MethodName := ⟨RMO, "make", "(J)I"⟩
abbrev cMO_row : ByteArray := prog_8_method_10_code
def yMO_row : MethodName := ⟨RMO, "row", "(IIJ)Z"⟩
abbrev cMO_isBatch : ByteArray := prog_8_method_5_code
def yMO_isBatch : MethodName := ⟨RMO, "isBatch", "(I)Z"⟩
abbrev cMO_isAccount : ByteArray := prog_8_method_4_code
def yMO_isAccount : MethodName := ⟨RMO, "isAccount", "(I)Z"⟩
abbrev cMO_put : ByteArray := prog_8_method_9_code
def yMO_put : MethodName := ⟨RMO, "put", "(IIJ)V"⟩
abbrev cMO_post : ByteArray := prog_8_method_15_code
def yMO_post : MethodName := ⟨RMO, "post", "(I)I"⟩
abbrev cMO_go : ByteArray := prog_8_method_14_code
def yMO_go : MethodName := ⟨RMO, "go", "(I)I"⟩
abbrev cMO_stops : ByteArray := prog_8_method_13_code
def yMO_stops : MethodName := ⟨RMO, "stops", "(I)I"⟩
abbrev cMO_balanceOf : ByteArray := prog_8_method_12_code
def yMO_balanceOf : MethodName := ⟨RMO, "balanceOf", "(IJ)J"⟩
abbrev cMO_part : ByteArray := prog_8_method_11_code
def yMO_part : MethodName := ⟨RMO, "part", "(III)J"⟩
abbrev cMO_balance : ByteArray := prog_8_method_16_code
def yMO_balance : MethodName := ⟨RMO, "balance", "(IJ)J"⟩
abbrev cMO_close : ByteArray := prog_8_method_17_code
def yMO_close : MethodName := ⟨RMO, "close", "(J)I"⟩
abbrev cMO_reverse : ByteArray := prog_8_method_19_code
def yMO_reverse : MethodName := ⟨RMO, "reverse", "(I)I"⟩
abbrev cMO_batchOf : ByteArray := prog_8_method_18_code
def yMO_batchOf : MethodName := ⟨RMO, "batchOf", "(I)I"⟩
abbrev cMO_stock : ByteArray := prog_8_method_21_code
def yMO_stock : MethodName := ⟨RMO, "stock", "(IIJ)I"⟩
abbrev cMO_first : ByteArray := prog_8_method_20_code
def yMO_first : MethodName := ⟨RMO, "first", "(II)I"⟩
abbrev cMO_limit : ByteArray := prog_8_method_22_code
def yMO_limit : MethodName := ⟨RMO, "limit", "(IJ)I"⟩
abbrev cMO_fails : ByteArray := prog_8_method_23_code
def yMO_fails : MethodName := ⟨RMO, "fails", "(IZ)Z"⟩
abbrev cMO_hold : ByteArray := prog_8_method_24_code
def yMO_hold : MethodName := ⟨RMO, "hold", "(I)J"⟩
abbrev cMO_rows : ByteArray := prog_8_method_25_code
def yMO_rows : MethodName := ⟨RMO, "rows", "()I"⟩
abbrev cMO_all : ByteArray := prog_8_method_26_code
def yMO_all : MethodName := ⟨RMO, "all", "()J"⟩
def xTB : List Cond := lw_tbl.filter goodWord
theorem xTB_of {i : Nat} {w : Cond} (h : lw_tbl[i]? = some w) (hg : goodWord w = true) : w ∈ xTB := List.mem_filter.mpr ⟨List.mem_of_getElem? h, hg⟩
theorem xTB_good : ∀ w ∈ xTB, w ∈ xTB ∧ ((w.onTables && w.keeps) = true ∨ ∃ ty, w = .arrayClass ty) := fun w h => ⟨h, good_of_word (List.mem_filter.mp h).2⟩
theorem xTB_in : ∀ w ∈ xTB, w ∈ lw_tbl := fun _ h => (List.mem_filter.mp h).1
theorem inAL : ∀ w ∈ u_ws RAL TAL 3, w ∈ xTB := by
  intro w hw
  obtain ⟨k, hk, rfl⟩ := List.mem_map.mp hw
  have hk := List.mem_range.mp hk
  have h : ∀ k, k < 3 → lw_tbl[([77, 73, 75] : List Nat).getD k 0]? = some (u_lay RAL TAL k) ∧ goodWord (u_lay RAL TAL k) = true := by decide +kernel
  exact xTB_of (h k hk).1 (h k hk).2
theorem inAC : ∀ w ∈ u_ws RAC TAC 4, w ∈ xTB := by
  intro w hw
  obtain ⟨k, hk, rfl⟩ := List.mem_map.mp hw
  have hk := List.mem_range.mp hk
  have h : ∀ k, k < 4 → lw_tbl[([119, 121, 123, 125] : List Nat).getD k 0]? = some (u_lay RAC TAC k) ∧ goodWord (u_lay RAC TAC k) = true := by decide +kernel
  exact xTB_of (h k hk).1 (h k hk).2
theorem inBA : ∀ w ∈ u_ws RBA TBA 6, w ∈ xTB := by
  intro w hw
  obtain ⟨k, hk, rfl⟩ := List.mem_map.mp hw
  have hk := List.mem_range.mp hk
  have h : ∀ k, k < 6 → lw_tbl[([224, 226, 228, 230, 232, 234] : List Nat).getD k 0]? = some (u_lay RBA TBA k) ∧ goodWord (u_lay RBA TBA k) = true := by decide +kernel
  exact xTB_of (h k hk).1 (h k hk).2
theorem inRW : ∀ w ∈ u_ws RRW TRW 2, w ∈ xTB := by
  intro w hw
  obtain ⟨k, hk, rfl⟩ := List.mem_map.mp hw
  have hk := List.mem_range.mp hk
  have h : ∀ k, k < 2 → lw_tbl[([288, 290] : List Nat).getD k 0]? = some (u_lay RRW TRW k) ∧ goodWord (u_lay RRW TRW k) = true := by decide +kernel
  exact xTB_of (h k hk).1 (h k hk).2
theorem inPL : ∀ w ∈ u_ws RPL TPL 4, w ∈ xTB := by
  intro w hw
  obtain ⟨k, hk, rfl⟩ := List.mem_map.mp hw
  have hk := List.mem_range.mp hk
  have h : ∀ k, k < 4 → lw_tbl[([84, 86, 88, 90] : List Nat).getD k 0]? = some (u_lay RPL TPL k) ∧ goodWord (u_lay RPL TPL k) = true := by decide +kernel
  exact xTB_of (h k hk).1 (h k hk).2
theorem inMO : ∀ w ∈ u_ws RMO TMO 17, w ∈ xTB := by
  intro w hw
  obtain ⟨k, hk, rfl⟩ := List.mem_map.mp hw
  have hk := List.mem_range.mp hk
  have h : ∀ k, k < 17 → lw_tbl[([512, 514, 516, 518, 520, 522, 524, 526, 528, 530, 532, 534, 536, 538, 540, 542, 544] : List Nat).getD k 0]? = some (u_lay RMO TMO k) ∧ goodWord (u_lay RMO TMO k) = true := by decide +kernel
  exact xTB_of (h k hk).1 (h k hk).2
theorem xG_V {own : String} {idx : Nat} {C : String} {y : MethodName} {c : ByteArray} {n : Nat} {r : Option FieldType} (h1 : Cond.methodLink own idx y ∈ xTB) (h2 : Cond.instanceMethod y ∈ xTB) (h3 : Cond.selects C y y ∈ xTB) (h4 : Cond.initialized C ∈ xTB) (h5 : Cond.code y c n r ∈ xTB) : GoodIn xTB (wsV own idx C y (Cond.code y c n r :: xTB)) := by
  intro w hw
  refine xTB_good w ?_
  rcases List.mem_append.mp hw with h | h
  · simp only [List.mem_cons, List.not_mem_nil, or_false] at h
    rcases h with rfl | rfl | rfl | rfl <;> assumption
  · rcases List.mem_cons.mp h with rfl | h <;> assumption
theorem xG_S {own : String} {idx : Nat} {y : MethodName} {c : ByteArray} {n : Nat} {r : Option FieldType} (h1 : Cond.methodLink own idx y ∈ xTB) (h2 : Cond.static y ∈ xTB) (h4 : Cond.initialized y.cls ∈ xTB) (h5 : Cond.code y c n r ∈ xTB) : GoodIn xTB (va_wsS own idx y (Cond.code y c n r :: xTB)) := by
  intro w hw
  refine xTB_good w ?_
  rcases List.mem_append.mp hw with h | h
  · simp only [List.mem_cons, List.not_mem_nil, or_false] at h
    rcases h with rfl | rfl | rfl <;> assumption
  · rcases List.mem_cons.mp h with rfl | h <;> assumption
theorem xG_I {y : MethodName} {c : ByteArray} {n : Nat} {r : Option FieldType} (h5 : Cond.code y c n r ∈ xTB) : GoodIn xTB (Cond.code y c n r :: xTB) := by
  intro w hw
  refine xTB_good w ?_
  rcases List.mem_cons.mp hw with rfl | h <;> assumption
end
section
/-! THE WORLD AS A FUNCTION: what is known of the heap is a partial map from addresses to cells. Rows of the kit work on lists of cells: here each is turned to the map. -/
abbrev xw_T : Type := Nat → Option va_E
def xw_in (w : xw_T) (ws : va_W) : Prop := ∀ (a : Nat) (e : va_E), w a = some e ↔ ∃ k : Nat, ws[k]? = some (a, e)
/-- the map stands in the heap: inside a method -/
def xw_S (D : va_G) (cl : List vw_C) (A : Nat → Prop) (H0 : Heap) (w : xw_T) (H : Heap) (locs : List Loc) : Prop := (∃ ws : va_W, xw_in w ws ∧ va_P D cl ws H ∧ va_D A ws) ∧ va_S A H0 H locs ∧ ∀ q : Nat, H0.size ≤ q → A q
theorem xw_in_set {A : Nat → Prop} {w : xw_T} {ws : va_W} {k a : Nat} {e0 e : va_E} (h : xw_in w ws) (hD : va_D A ws) (hk : ws[k]? = some (a, e0)) : xw_in (va_up w a (some e)) (ws.set k (a, e)) := by
  have hl := (List.getElem?_eq_some_iff.mp hk).1
  intro b e'
  by_cases hb : b = a
  · subst hb
    rw [va_up_self]
    constructor
    · intro he
      refine ⟨k, ?_⟩
      rw [List.getElem?_set_self hl, Option.some.inj he]
    · rintro ⟨j, hj⟩
      by_cases hjk : j = k
      · subst hjk
        rw [List.getElem?_set_self hl] at hj
        have := Option.some.inj hj
        rw [(Prod.mk.inj this).2]
      · rw [List.getElem?_set_ne (Ne.symm hjk)] at hj
        exact absurd (hD.1 j k _ _ hj hk rfl) hjk
  · rw [va_up_ne _ _ hb]
    constructor
    · intro he
      obtain ⟨j, hj⟩ := (h b e').mp he
      refine ⟨j, ?_⟩
      have hjk : j ≠ k := by
        intro q
        subst q
        rw [hk] at hj
        exact hb (Prod.mk.inj (Option.some.inj hj)).1.symm
      rw [List.getElem?_set_ne (Ne.symm hjk)]
      exact hj
    · rintro ⟨j, hj⟩
      by_cases hjk : j = k
      · subst hjk
        rw [List.getElem?_set_self hl] at hj
        exact absurd (Prod.mk.inj (Option.some.inj hj)).1.symm hb
      · rw [List.getElem?_set_ne (Ne.symm hjk)] at hj
        exact (h b e').mpr ⟨j, hj⟩
theorem xw_in_fresh {A : Nat → Prop} {w : xw_T} {ws : va_W} {q : Nat} {e : va_E} (h : xw_in w ws) (hD : va_D A (ws ++ [(q, e)])) : w q = none := by
  cases hq : w q with
  | none => rfl
  | some e1 =>
    obtain ⟨k, hk⟩ := (h q e1).mp hq
    have hl := (List.getElem?_eq_some_iff.mp hk).1
    have h1 : (ws ++ [(q, e)])[k]? = some (q, e1) := by rw [List.getElem?_append_left hl]; exact hk
    have h2 : (ws ++ [(q, e)])[ws.length]? = some (q, e) := by rw [List.getElem?_append_right (Nat.le_refl _), Nat.sub_self]; rfl
    have := hD.1 _ _ _ _ h1 h2 rfl
    omega
theorem xw_in_push {A : Nat → Prop} {w : xw_T} {ws : va_W} {q : Nat} {e : va_E} (h : xw_in w ws) (hD : va_D A (ws ++ [(q, e)])) : xw_in (va_up w q (some e)) (ws ++ [(q, e)]) := by
  have hf := xw_in_fresh h hD
  have h2 : (ws ++ [(q, e)])[ws.length]? = some (q, e) := by rw [List.getElem?_append_right (Nat.le_refl _), Nat.sub_self]; rfl
  intro b e'
  by_cases hb : b = q
  · subst hb
    rw [va_up_self]
    constructor
    · intro he
      exact ⟨ws.length, by rw [h2, Option.some.inj he]⟩
    · rintro ⟨j, hj⟩
      have hjk := hD.1 _ _ _ _ hj h2 rfl
      subst hjk
      rw [h2] at hj
      rw [(Prod.mk.inj (Option.some.inj hj)).2]
  · rw [va_up_ne _ _ hb]
    constructor
    · intro he
      obtain ⟨j, hj⟩ := (h b e').mp he
      exact ⟨j, by rw [List.getElem?_append_left (List.getElem?_eq_some_iff.mp hj).1]; exact hj⟩
    · rintro ⟨j, hj⟩
      by_cases hl : j < ws.length
      · rw [List.getElem?_append_left hl] at hj
        exact (h b e').mpr ⟨j, hj⟩
      · have hjl := (List.getElem?_eq_some_iff.mp hj).1
        rw [List.length_append, List.length_singleton] at hjl
        have : j = ws.length := by omega
        subst this
        rw [h2] at hj
        exact absurd (Prod.mk.inj (Option.some.inj hj)).1.symm hb
/-- a field, an array, of the map -/
def xg (w : xw_T) (a ci k : Nat) : Option Value := match w a with
  | some (.inr o) => if o.1 = ci then o.2[k]? else none
  | _ => none
def xvI : Option Value → Option Int32
  | some (.int x) => some x
  | _ => none
def xvL : Option Value → Option Int64
  | some (.long x) => some x
  | _ => none
def xvR : Option Value → Option (Option Nat)
  | some (.ref x) => some (some x)
  | some .null => some none
  | _ => none
def xgI (w : xw_T) (a ci k : Nat) : Option Int32 := xvI (xg w a ci k)
def xgL (w : xw_T) (a ci k : Nat) : Option Int64 := xvL (xg w a ci k)
def xgR (w : xw_T) (a ci k : Nat) : Option (Option Nat) := xvR (xg w a ci k)
def xp (w : xw_T) (a k : Nat) (v : Value) : xw_T := match w a with
  | some (.inr o) => va_up w a (some (.inr (o.1, o.2.set k v)))
  | _ => w
def xaE (w : xw_T) (a : Nat) (cA : ClassId) : Option vp_A := match w a with
  | some (.inl x) => if x.1 = cA then some x.2 else none
  | _ => none
def xvaI : Option vp_A → Option (Nat × (Nat → Int32))
  | some (n, .inl f) => some (n, f)
  | _ => none
def xvaL : Option vp_A → Option (Nat × (Nat → Int64))
  | some (n, .inr (.inl f)) => some (n, f)
  | _ => none
def xvaQ : Option vp_A → Option (Nat × (Nat → Option Nat))
  | some (n, .inr (.inr (.inr (.inr f)))) => some (n, f)
  | _ => none
def xaI (w : xw_T) (a : Nat) (cA : ClassId) : Option (Nat × (Nat → Int32)) := xvaI (xaE w a cA)
def xaL (w : xw_T) (a : Nat) (cA : ClassId) : Option (Nat × (Nat → Int64)) := xvaL (xaE w a cA)
def xaQ (w : xw_T) (a : Nat) (cA : ClassId) : Option (Nat × (Nat → Option Nat)) := xvaQ (xaE w a cA)
abbrev xcI (cA : ClassId) (n : Nat) (f : Nat → Int32) : va_E := .inl (cA, n, .inl f)
abbrev xcL (cA : ClassId) (n : Nat) (f : Nat → Int64) : va_E := .inl (cA, n, .inr (.inl f))
abbrev xcQ (cA : ClassId) (n : Nat) (f : Nat → Option Nat) : va_E := .inl (cA, n, .inr (.inr (.inr (.inr f))))
theorem xg_spec {w : xw_T} {a ci k : Nat} {v : Value} (h : xg w a ci k = some v) : ∃ fs : List Value, w a = some (.inr (ci, fs)) ∧ fs[k]? = some v := by
  unfold xg at h
  cases hw : w a with
  | none => rw [hw] at h; cases h
  | some e =>
    rw [hw] at h
    cases e with
    | inl x => cases h
    | inr o =>
      obtain ⟨o1, o2⟩ := o
      dsimp only at h
      by_cases ho : o1 = ci
      · subst ho
        rw [if_pos rfl] at h
        exact ⟨o2, rfl, h⟩
      · rw [if_neg ho] at h; cases h
theorem xgI_spec {w : xw_T} {a ci k : Nat} {v : Int32} (h : xgI w a ci k = some v) : xg w a ci k = some (.int v) := by
  unfold xgI at h
  cases hx : xg w a ci k with
  | none => rw [hx] at h; cases h
  | some y => rw [hx] at h; cases y <;> first | (cases h; rfl) | cases h
theorem xgL_spec {w : xw_T} {a ci k : Nat} {v : Int64} (h : xgL w a ci k = some v) : xg w a ci k = some (.long v) := by
  unfold xgL at h
  cases hx : xg w a ci k with
  | none => rw [hx] at h; cases h
  | some y => rw [hx] at h; cases y <;> first | (cases h; rfl) | cases h
theorem xgR_spec {w : xw_T} {a ci k : Nat} {v : Option Nat} (h : xgR w a ci k = some v) : xg w a ci k = some (va_rf v) := by
  unfold xgR at h
  cases hx : xg w a ci k with
  | none => rw [hx] at h; cases h
  | some y => rw [hx] at h; cases y <;> first | (cases h; rfl) | cases h
theorem xaE_spec {w : xw_T} {a : Nat} {cA : ClassId} {x : vp_A} (h : xaE w a cA = some x) : w a = some (.inl (cA, x)) := by
  unfold xaE at h
  cases hw : w a with
  | none => rw [hw] at h; cases h
  | some e =>
    rw [hw] at h
    cases e with
    | inr o => cases h
    | inl y =>
      obtain ⟨y1, y2⟩ := y
      dsimp only at h
      by_cases ho : y1 = cA
      · subst ho
        rw [if_pos rfl] at h
        rw [Option.some.inj h]
      · rw [if_neg ho] at h; cases h
theorem xaI_spec {w : xw_T} {a : Nat} {cA : ClassId} {n : Nat} {f : Nat → Int32} (h : xaI w a cA = some (n, f)) : w a = some (xcI cA n f) := by
  unfold xaI at h
  cases hx : xaE w a cA with
  | none => rw [hx] at h; cases h
  | some y =>
    rw [hx] at h
    obtain ⟨n1, y⟩ := y
    rcases y with y | y | y | y | y <;> first | (cases h; exact xaE_spec hx) | cases h
theorem xaL_spec {w : xw_T} {a : Nat} {cA : ClassId} {n : Nat} {f : Nat → Int64} (h : xaL w a cA = some (n, f)) : w a = some (xcL cA n f) := by
  unfold xaL at h
  cases hx : xaE w a cA with
  | none => rw [hx] at h; cases h
  | some y =>
    rw [hx] at h
    obtain ⟨n1, y⟩ := y
    rcases y with y | y | y | y | y <;> first | (cases h; exact xaE_spec hx) | cases h
theorem xaQ_spec {w : xw_T} {a : Nat} {cA : ClassId} {n : Nat} {f : Nat → Option Nat} (h : xaQ w a cA = some (n, f)) : w a = some (xcQ cA n f) := by
  unfold xaQ at h
  cases hx : xaE w a cA with
  | none => rw [hx] at h; cases h
  | some y =>
    rw [hx] at h
    obtain ⟨n1, y⟩ := y
    rcases y with y | y | y | y | y <;> first | (cases h; exact xaE_spec hx) | cases h
/-- the same read off the map -/
theorem xg_of {w : xw_T} {a ci k : Nat} {fs : List Value} (h : w a = some (.inr (ci, fs))) : xg w a ci k = fs[k]? := by
  unfold xg; rw [h]; exact if_pos rfl
theorem xp_of {w : xw_T} {a ci k : Nat} {fs : List Value} {v : Value} (h : w a = some (.inr (ci, fs))) : xp w a k v = va_up w a (some (.inr (ci, fs.set k v))) := by
  unfold xp; rw [h]
theorem xaI_of {w : xw_T} {a : Nat} {cA : ClassId} {n : Nat} {f : Nat → Int32} (h : w a = some (xcI cA n f)) : xaI w a cA = some (n, f) := by
  unfold xaI xaE; rw [h]; dsimp only; rw [if_pos rfl]; rfl
theorem xaL_of {w : xw_T} {a : Nat} {cA : ClassId} {n : Nat} {f : Nat → Int64} (h : w a = some (xcL cA n f)) : xaL w a cA = some (n, f) := by
  unfold xaL xaE; rw [h]; dsimp only; rw [if_pos rfl]; rfl
theorem xaQ_of {w : xw_T} {a : Nat} {cA : ClassId} {n : Nat} {f : Nat → Option Nat} (h : w a = some (xcQ cA n f)) : xaQ w a cA = some (n, f) := by
  unfold xaQ xaE; rw [h]; dsimp only; rw [if_pos rfl]; rfl
theorem va_rf_cat (r : Option Nat) : (va_rf r).category = 1 := by cases r <;> rfl
end
section
/-! ROWS OVER THE MAP: fields, arrays, new -/
section XR
variable {p : Program} {l : Launch} {e : Env} {R : Room} {s : State} {m : MethodId} {args : Array Value} {below : List Frame} {meth : Method} {c : Code} {H : Heap} {locs : List Loc} {cells slots : Nat} {Q : State → Prop}
variable {cc : ByteArray} {pc : Nat} {ls : Array Slot} {rest : List Value} {D : va_G} {cl : List vw_C} {A : Nat → Prop} {a : Nat} {tys : List (ClassId × FieldType)} {H0 : Heap} {w : xw_T}
theorem xw_get (hexec : p.tables.exec = Jvm.exec) (hb : c.code = cc) {own ref C : String} {T : u_T} {N ci index : Nat} {Ts : List Cond} (hts : ∀ w ∈ Ts, w.before args s = true) (hin : ∀ w ∈ u_ws C T N, w ∈ Ts) (hown : s.vm.findClass own = some m.cls) (hK : va_K D cl tys s) (hw : xw_S D cl A H0 w H locs) (hc : cl[ci]? = some (C, T, N)) (k : Nat) (hk : k < N) (hlink : (Cond.fieldLink own index ref (T k).2.1 (T k).2.2.1).before args s = true) (hsame : ∀ x, s.fieldFound? (T k).1 (T k).2.1 (T k).2.2.1 = some x → s.fieldFound? ref (T k).2.1 (T k).2.2.1 = some x) {v : Value} (hv : xg w a ci k = some v) (hdg : decode cc pc = .ok (.getfield index, 3))
    (kk : W p l e R s m args below meth c H locs cells slots Q (F0 m (pc + 3) ls (v :: rest))) : W p l e R s m args below meth c H locs cells slots Q (F0 m pc ls (.ref a :: rest)) := by
  obtain ⟨⟨ws, hi, hP, hD⟩, hS, hA⟩ := hw
  obtain ⟨fs, h1, h2⟩ := xg_spec hv
  obtain ⟨q0, hq⟩ := (hi _ _).mp h1
  exact va_get hexec hb hts hin hown hK hP q0 hq hc k hk hlink hsame h2 hdg kk
theorem xw_getI (hexec : p.tables.exec = Jvm.exec) (hb : c.code = cc) {own ref C : String} {T : u_T} {N ci index : Nat} {Ts : List Cond} (hts : ∀ w ∈ Ts, w.before args s = true) (hin : ∀ w ∈ u_ws C T N, w ∈ Ts) (hown : s.vm.findClass own = some m.cls) (hK : va_K D cl tys s) (hw : xw_S D cl A H0 w H locs) (hc : cl[ci]? = some (C, T, N)) (k : Nat) (hk : k < N) (hlink : (Cond.fieldLink own index ref (T k).2.1 (T k).2.2.1).before args s = true) (hsame : ∀ x, s.fieldFound? (T k).1 (T k).2.1 (T k).2.2.1 = some x → s.fieldFound? ref (T k).2.1 (T k).2.2.1 = some x) {v : Int32} (hv : xgI w a ci k = some v) (hdg : decode cc pc = .ok (.getfield index, 3))
    (kk : W p l e R s m args below meth c H locs cells slots Q (F0 m (pc + 3) ls (.int v :: rest))) : W p l e R s m args below meth c H locs cells slots Q (F0 m pc ls (.ref a :: rest)) := xw_get hexec hb hts hin hown hK hw hc k hk hlink hsame (xgI_spec hv) hdg kk
theorem xw_getL (hexec : p.tables.exec = Jvm.exec) (hb : c.code = cc) {own ref C : String} {T : u_T} {N ci index : Nat} {Ts : List Cond} (hts : ∀ w ∈ Ts, w.before args s = true) (hin : ∀ w ∈ u_ws C T N, w ∈ Ts) (hown : s.vm.findClass own = some m.cls) (hK : va_K D cl tys s) (hw : xw_S D cl A H0 w H locs) (hc : cl[ci]? = some (C, T, N)) (k : Nat) (hk : k < N) (hlink : (Cond.fieldLink own index ref (T k).2.1 (T k).2.2.1).before args s = true) (hsame : ∀ x, s.fieldFound? (T k).1 (T k).2.1 (T k).2.2.1 = some x → s.fieldFound? ref (T k).2.1 (T k).2.2.1 = some x) {v : Int64} (hv : xgL w a ci k = some v) (hdg : decode cc pc = .ok (.getfield index, 3))
    (kk : W p l e R s m args below meth c H locs cells slots Q (F0 m (pc + 3) ls (.long v :: rest))) : W p l e R s m args below meth c H locs cells slots Q (F0 m pc ls (.ref a :: rest)) := xw_get hexec hb hts hin hown hK hw hc k hk hlink hsame (xgL_spec hv) hdg kk
theorem xw_getR (hexec : p.tables.exec = Jvm.exec) (hb : c.code = cc) {own ref C : String} {T : u_T} {N ci index : Nat} {Ts : List Cond} (hts : ∀ w ∈ Ts, w.before args s = true) (hin : ∀ w ∈ u_ws C T N, w ∈ Ts) (hown : s.vm.findClass own = some m.cls) (hK : va_K D cl tys s) (hw : xw_S D cl A H0 w H locs) (hc : cl[ci]? = some (C, T, N)) (k : Nat) (hk : k < N) (hlink : (Cond.fieldLink own index ref (T k).2.1 (T k).2.2.1).before args s = true) (hsame : ∀ x, s.fieldFound? (T k).1 (T k).2.1 (T k).2.2.1 = some x → s.fieldFound? ref (T k).2.1 (T k).2.2.1 = some x) {v : Option Nat} (hv : xgR w a ci k = some v) (hdg : decode cc pc = .ok (.getfield index, 3))
    (kk : W p l e R s m args below meth c H locs cells slots Q (F0 m (pc + 3) ls (va_rf v :: rest))) : W p l e R s m args below meth c H locs cells slots Q (F0 m pc ls (.ref a :: rest)) := xw_get hexec hb hts hin hown hK hw hc k hk hlink hsame (xgR_spec hv) hdg kk
theorem xw_S_set {ws : va_W} {k : Nat} {e0 e1 : va_E} {H1 : Heap} {locs1 : List Loc} (hi : xw_in w ws) (hD0 : va_D A ws) (hA : ∀ q : Nat, H0.size ≤ q → A q) (hk : ws[k]? = some (a, e0)) (hP : va_P D cl (ws.set k (a, e1)) H1) (hD : va_D A (ws.set k (a, e1))) (hS : va_S A H0 H1 locs1) : xw_S D cl A H0 (va_up w a (some e1)) H1 locs1 :=
  ⟨⟨_, xw_in_set hi hD0 hk, hP, hD⟩, hS, hA⟩
theorem xw_put (hexec : p.tables.exec = Jvm.exec) (hb : c.code = cc) {own ref C : String} {T : u_T} {N ci index : Nat} {Ts : List Cond} (hts : ∀ w ∈ Ts, w.before args s = true) (hin : ∀ w ∈ u_ws C T N, w ∈ Ts) (ty0 : Nat → FieldType) (hty : ∀ k, k < N → parseFieldDescriptor (T k).2.2.1 = some (ty0 k)) (hnm : ∀ a, a < N → ∀ b, b < N → a ≠ b → (T a).2.1 ≠ (T b).2.1) (hown : s.vm.findClass own = some m.cls) (hK : va_K D cl tys s) (hw : xw_S D cl A H0 w H locs) (hc : cl[ci]? = some (C, T, N)) (k : Nat) (hk : k < N) (hlink : (Cond.fieldLink own index ref (T k).2.1 (T k).2.2.1).before args s = true) (hsame : ∀ x, s.fieldFound? (T k).1 (T k).2.1 (T k).2.2.1 = some x → s.fieldFound? ref (T k).2.1 (T k).2.2.1 = some x) (hfin : (T k).2.2.2 = false) {ty : FieldType} {v : Value} (hd : parseFieldDescriptor (T k).2.2.1 = some ty) (hn : narrow ty v = v) (hfit : fits ty v = true) (hv : ∃ v0, xg w a ci k = some v0)
    (hdg : decode cc pc = .ok (.putfield index, 3)) (kk : ∀ (H1 : Heap) (locs1 : List Loc), xw_S D cl A H0 (xp w a k v) H1 locs1 → W p l e R s m args below meth c H1 locs1 cells slots Q (F0 m (pc + 3) ls rest)) : W p l e R s m args below meth c H locs cells slots Q (F0 m pc ls (v :: .ref a :: rest)) := by
  obtain ⟨⟨ws, hi, hP, hD⟩, hS, hA⟩ := hw
  obtain ⟨v0, hv⟩ := hv
  obtain ⟨fs, h1, h2⟩ := xg_spec hv
  obtain ⟨q0, hq⟩ := (hi _ _).mp h1
  rw [xp_of h1] at kk
  exact va_put hexec hb hts hin ty0 hty hnm hown hK hP hD hS q0 hq hc k hk hlink hsame hfin hd hn hfit (List.getElem?_eq_some_iff.mp h2).1 hdg (fun H1 locs1 hP1 hD1 hS1 => kk H1 locs1 (xw_S_set hi hD hA hq hP1 hD1 hS1))
theorem xw_putF (hexec : p.tables.exec = Jvm.exec) (hb : c.code = cc) {own ref C : String} {T : u_T} {N ci index : Nat} {Ts : List Cond} (hts : ∀ w ∈ Ts, w.before args s = true) (hin : ∀ w ∈ u_ws C T N, w ∈ Ts) (ty0 : Nat → FieldType) (hty : ∀ k, k < N → parseFieldDescriptor (T k).2.2.1 = some (ty0 k)) (hnm : ∀ a, a < N → ∀ b, b < N → a ≠ b → (T a).2.1 ≠ (T b).2.1) (hown : s.vm.findClass own = some m.cls) (hK : va_K D cl tys s) (hw : xw_S D cl A H0 w H locs) (hc : cl[ci]? = some (C, T, N)) (k : Nat) (hk : k < N) (hlink : (Cond.fieldLink own index ref (T k).2.1 (T k).2.2.1).before args s = true) (hsame : ∀ x, s.fieldFound? (T k).1 (T k).2.1 (T k).2.2.1 = some x → s.fieldFound? ref (T k).2.1 (T k).2.2.1 = some x) (hfin : (T k).2.2.2 = true) (hin2 : meth.name = "<init>") (hdecl : (T k).1 = own) {ty : FieldType} {v : Value} (hd : parseFieldDescriptor (T k).2.2.1 = some ty) (hn : narrow ty v = v) (hfit : fits ty v = true) (hv : ∃ v0, xg w a ci k = some v0)
    (hdg : decode cc pc = .ok (.putfield index, 3)) (kk : ∀ (H1 : Heap) (locs1 : List Loc), xw_S D cl A H0 (xp w a k v) H1 locs1 → W p l e R s m args below meth c H1 locs1 cells slots Q (F0 m (pc + 3) ls rest)) : W p l e R s m args below meth c H locs cells slots Q (F0 m pc ls (v :: .ref a :: rest)) := by
  obtain ⟨⟨ws, hi, hP, hD⟩, hS, hA⟩ := hw
  obtain ⟨v0, hv⟩ := hv
  obtain ⟨fs, h1, h2⟩ := xg_spec hv
  obtain ⟨q0, hq⟩ := (hi _ _).mp h1
  rw [xp_of h1] at kk
  exact va_putF hexec hb hts hin ty0 hty hnm hown hK hP hD hS q0 hq hc k hk hlink hsame hfin hin2 hdecl hd hn hfit (List.getElem?_eq_some_iff.mp h2).1 hdg (fun H1 locs1 hP1 hD1 hS1 => kk H1 locs1 (xw_S_set hi hD hA hq hP1 hD1 hS1))
theorem xw_getN (hexec : p.tables.exec = Jvm.exec) (hb : c.code = cc) {own ref C host : String} {T : u_T} {N ci index : Nat} {Ts : List Cond} (hts : ∀ w ∈ Ts, w.before args s = true) (hin : ∀ w ∈ u_ws C T N, w ∈ Ts) (hown : s.vm.findClass own = some m.cls) (hK : va_K D cl tys s) (hw : xw_S D cl A H0 w H locs) (hc : cl[ci]? = some (C, T, N)) (k : Nat) (hk : k < N) (hlink : (Cond.fieldLinkNest own index ref (T k).2.1 (T k).2.2.1 host).before args s = true) (hsame : ∀ x, s.fieldFound? (T k).1 (T k).2.1 (T k).2.2.1 = some x → s.fieldFound? ref (T k).2.1 (T k).2.2.1 = some x) {v : Value} (hv : xg w a ci k = some v) (hdg : decode cc pc = .ok (.getfield index, 3))
    (kk : W p l e R s m args below meth c H locs cells slots Q (F0 m (pc + 3) ls (v :: rest))) : W p l e R s m args below meth c H locs cells slots Q (F0 m pc ls (.ref a :: rest)) := by
  obtain ⟨⟨ws, hi, hP, hD⟩, hS, hA⟩ := hw
  obtain ⟨fs, h1, h2⟩ := xg_spec hv
  obtain ⟨q0, hq⟩ := (hi _ _).mp h1
  exact va_getN hexec hb hts hin hown hK hP q0 hq hc k hk hlink hsame h2 hdg kk
theorem xw_putN (hexec : p.tables.exec = Jvm.exec) (hb : c.code = cc) {own ref C host : String} {T : u_T} {N ci index : Nat} {Ts : List Cond} (hts : ∀ w ∈ Ts, w.before args s = true) (hin : ∀ w ∈ u_ws C T N, w ∈ Ts) (ty0 : Nat → FieldType) (hty : ∀ k, k < N → parseFieldDescriptor (T k).2.2.1 = some (ty0 k)) (hnm : ∀ a, a < N → ∀ b, b < N → a ≠ b → (T a).2.1 ≠ (T b).2.1) (hown : s.vm.findClass own = some m.cls) (hK : va_K D cl tys s) (hw : xw_S D cl A H0 w H locs) (hc : cl[ci]? = some (C, T, N)) (k : Nat) (hk : k < N) (hlink : (Cond.fieldLinkNest own index ref (T k).2.1 (T k).2.2.1 host).before args s = true) (hsame : ∀ x, s.fieldFound? (T k).1 (T k).2.1 (T k).2.2.1 = some x → s.fieldFound? ref (T k).2.1 (T k).2.2.1 = some x) (hfin : (T k).2.2.2 = false) {ty : FieldType} {v : Value} (hd : parseFieldDescriptor (T k).2.2.1 = some ty) (hn : narrow ty v = v) (hfit : fits ty v = true) (hv : ∃ v0, xg w a ci k = some v0)
    (hdg : decode cc pc = .ok (.putfield index, 3)) (kk : ∀ (H1 : Heap) (locs1 : List Loc), xw_S D cl A H0 (xp w a k v) H1 locs1 → W p l e R s m args below meth c H1 locs1 cells slots Q (F0 m (pc + 3) ls rest)) : W p l e R s m args below meth c H locs cells slots Q (F0 m pc ls (v :: .ref a :: rest)) := by
  obtain ⟨⟨ws, hi, hP, hD⟩, hS, hA⟩ := hw
  obtain ⟨v0, hv⟩ := hv
  obtain ⟨fs, h1, h2⟩ := xg_spec hv
  obtain ⟨q0, hq⟩ := (hi _ _).mp h1
  rw [xp_of h1] at kk
  exact va_putN hexec hb hts hin ty0 hty hnm hown hK hP hD hS q0 hq hc k hk hlink hsame hfin hd hn hfit (List.getElem?_eq_some_iff.mp h2).1 hdg (fun H1 locs1 hP1 hD1 hS1 => kk H1 locs1 (xw_S_set hi hD hA hq hP1 hD1 hS1))
theorem xw_new (hexec : p.tables.exec = Jvm.exec) (hb : c.code = cc) {own C : String} {T : u_T} {N ci index : Nat} {Ts : List Cond} (hts : ∀ w ∈ Ts, w.before args s = true) (hin : ∀ w ∈ u_ws C T N, w ∈ Ts) (ty : Nat → FieldType) (hty : ∀ k, k < N → parseFieldDescriptor (T k).2.2.1 = some (ty k)) (hown : s.vm.findClass own = some m.cls) (hcl : (Cond.classLink own index C).before args s = true) (hinst : (Cond.instantiable C N).before args s = true) (hini : (Cond.initialized C).before args s = true)
    (hK : va_K D cl tys s) (hw : xw_S D cl A H0 w H locs) (hc : cl[ci]? = some (C, T, N)) {fs : List Value} (hfs : ∀ j, j < N → defaultValue (ty j) = vp_V fs j) (hcells : cells + 1 ≤ R.cells) (hslots : slots + N ≤ R.slots) (hdg : decode cc pc = .ok (.new index, 3))
    (kk : ∀ (q : Nat) (H1 : Heap), w q = none → xw_S D cl A H0 (va_up w q (some (.inr (ci, fs)))) H1 locs → W p l e R s m args below meth c H1 locs (cells + 1) (slots + N) Q (F0 m (pc + 3) ls (.ref q :: rest))) : W p l e R s m args below meth c H locs cells slots Q (F0 m pc ls rest) := by
  obtain ⟨⟨ws, hi, hP, hD⟩, hS, hA⟩ := hw
  exact va_new hexec hb hts hin ty hty hown hcl hinst hini hK hP hD hS hA hc hfs hcells hslots hdg (fun q H1 hP1 hD1 hS1 => kk q H1 (xw_in_fresh hi hD1) ⟨⟨_, xw_in_push hi hD1, hP1, hD1⟩, hS1, hA⟩)
/-- arrays -/
theorem xw_alen (hexec : p.tables.exec = Jvm.exec) (hb : c.code = cc) (hK : va_K D cl tys s) (hw : xw_S D cl A H0 w H locs) (t0 : Nat) {cA : ClassId} {ty : FieldType} (ht : tys[t0]? = some (cA, ty)) {x : vp_A} (ha : w a = some (.inl (cA, x))) (hdg : decode cc pc = .ok (.arraylength, 1))
    (kk : W p l e R s m args below meth c H locs cells slots Q (F0 m (pc + 1) ls (.int (nI x.1) :: rest))) : W p l e R s m args below meth c H locs cells slots Q (F0 m pc ls (.ref a :: rest)) := by
  obtain ⟨⟨ws, hi, hP, hD⟩, hS, hA⟩ := hw
  obtain ⟨q0, hq⟩ := (hi _ _).mp ha
  exact va_alen hexec hb hK hP q0 t0 hq ht rfl hdg kk
theorem xw_iald (hexec : p.tables.exec = Jvm.exec) (hb : c.code = cc) (hK : va_K D cl tys s) (hw : xw_S D cl A H0 w H locs) (t0 : Nat) {cA : ClassId} (ht : tys[t0]? = some (cA, .int)) {n : Nat} {f : Nat → Int32} (ha : xaI w a cA = some (n, f)) {i : Int32} (hin : vp_in i n) (hdg : decode cc pc = .ok (.iaload, 1))
    (kk : W p l e R s m args below meth c H locs cells slots Q (F0 m (pc + 1) ls (.int (f i.toNatClampNeg) :: rest))) : W p l e R s m args below meth c H locs cells slots Q (F0 m pc ls (.int i :: .ref a :: rest)) := by
  obtain ⟨⟨ws, hi, hP, hD⟩, hS, hA⟩ := hw
  obtain ⟨q0, hq⟩ := (hi _ _).mp (xaI_spec ha)
  exact va_iald hexec hb hK hP q0 t0 hq ht hin hdg kk
theorem xw_zald (hexec : p.tables.exec = Jvm.exec) (hb : c.code = cc) (hK : va_K D cl tys s) (hw : xw_S D cl A H0 w H locs) (t0 : Nat) {cA : ClassId} (ht : tys[t0]? = some (cA, .boolean)) {n : Nat} {f : Nat → Int32} (ha : xaI w a cA = some (n, f)) {i : Int32} (hin : vp_in i n) (hdg : decode cc pc = .ok (.baload, 1))
    (kk : W p l e R s m args below meth c H locs cells slots Q (F0 m (pc + 1) ls (.int (f i.toNatClampNeg) :: rest))) : W p l e R s m args below meth c H locs cells slots Q (F0 m pc ls (.int i :: .ref a :: rest)) := by
  obtain ⟨⟨ws, hi, hP, hD⟩, hS, hA⟩ := hw
  obtain ⟨q0, hq⟩ := (hi _ _).mp (xaI_spec ha)
  exact va_zald hexec hb hK hP q0 t0 hq ht hin hdg kk
theorem xw_lald (hexec : p.tables.exec = Jvm.exec) (hb : c.code = cc) (hK : va_K D cl tys s) (hw : xw_S D cl A H0 w H locs) (t0 : Nat) {cA : ClassId} (ht : tys[t0]? = some (cA, .long)) {n : Nat} {f : Nat → Int64} (ha : xaL w a cA = some (n, f)) {i : Int32} (hin : vp_in i n) (hdg : decode cc pc = .ok (.laload, 1))
    (kk : W p l e R s m args below meth c H locs cells slots Q (F0 m (pc + 1) ls (.long (f i.toNatClampNeg) :: rest))) : W p l e R s m args below meth c H locs cells slots Q (F0 m pc ls (.int i :: .ref a :: rest)) := by
  obtain ⟨⟨ws, hi, hP, hD⟩, hS, hA⟩ := hw
  obtain ⟨q0, hq⟩ := (hi _ _).mp (xaL_spec ha)
  exact va_lald hexec hb hK hP q0 t0 hq ht hin hdg kk
theorem xw_aald (hexec : p.tables.exec = Jvm.exec) (hb : c.code = cc) (hK : va_K D cl tys s) (hw : xw_S D cl A H0 w H locs) (t0 : Nat) {cA : ClassId} {C : String} (ht : tys[t0]? = some (cA, .object C)) {n : Nat} {f : Nat → Option Nat} (ha : xaQ w a cA = some (n, f)) {i : Int32} (hin : vp_in i n) (hdg : decode cc pc = .ok (.aaload, 1))
    (kk : W p l e R s m args below meth c H locs cells slots Q (F0 m (pc + 1) ls (va_rf (f i.toNatClampNeg) :: rest))) : W p l e R s m args below meth c H locs cells slots Q (F0 m pc ls (.int i :: .ref a :: rest)) := by
  obtain ⟨⟨ws, hi, hP, hD⟩, hS, hA⟩ := hw
  obtain ⟨q0, hq⟩ := (hi _ _).mp (xaQ_spec ha)
  exact va_aldq hexec hb hK hP q0 t0 hq ht hin hdg kk
end XR
end
section
/-! ROWS OVER THE MAP: stores into arrays, new arrays, casts, locals that hold a reference or null, compares of longs -/
section XR2
variable {p : Program} {l : Launch} {e : Env} {R : Room} {s : State} {m : MethodId} {args : Array Value} {below : List Frame} {meth : Method} {c : Code} {H : Heap} {locs : List Loc} {cells slots : Nat} {Q : State → Prop}
variable {cc : ByteArray} {pc : Nat} {ls : Array Slot} {rest : List Value} {D : va_G} {cl : List vw_C} {A : Nat → Prop} {a : Nat} {tys : List (ClassId × FieldType)} {H0 : Heap} {w : xw_T}
theorem xw_iast (hexec : p.tables.exec = Jvm.exec) (hb : c.code = cc) (hK : va_K D cl tys s) (hw : xw_S D cl A H0 w H locs) (t0 : Nat) {cA : ClassId} (ht : tys[t0]? = some (cA, .int)) {n : Nat} {f : Nat → Int32} (ha : xaI w a cA = some (n, f)) {i x : Int32} (hin : vp_in i n) (hdg : decode cc pc = .ok (.iastore, 1))
    (kk : ∀ (H1 : Heap) (locs1 : List Loc), xw_S D cl A H0 (va_up w a (some (xcI cA n (upd f i.toNatClampNeg x)))) H1 locs1 → W p l e R s m args below meth c H1 locs1 cells slots Q (F0 m (pc + 1) ls rest)) : W p l e R s m args below meth c H locs cells slots Q (F0 m pc ls (.int x :: .int i :: .ref a :: rest)) := by
  obtain ⟨⟨ws, hi, hP, hD⟩, hS, hA⟩ := hw
  obtain ⟨q0, hq⟩ := (hi _ _).mp (xaI_spec ha)
  exact va_iast hexec hb hK hP hD hS q0 t0 hq ht hin hdg (fun H1 locs1 hP1 hD1 hS1 => kk H1 locs1 (xw_S_set hi hD hA hq hP1 hD1 hS1))
theorem xw_zast (hexec : p.tables.exec = Jvm.exec) (hb : c.code = cc) (hK : va_K D cl tys s) (hw : xw_S D cl A H0 w H locs) (t0 : Nat) {cA : ClassId} (ht : tys[t0]? = some (cA, .boolean)) {n : Nat} {f : Nat → Int32} (ha : xaI w a cA = some (n, f)) {i x : Int32} (hin : vp_in i n) (hdg : decode cc pc = .ok (.bastore, 1))
    (kk : ∀ (H1 : Heap) (locs1 : List Loc), xw_S D cl A H0 (va_up w a (some (xcI cA n (upd f i.toNatClampNeg (vp_nar .boolean x))))) H1 locs1 → W p l e R s m args below meth c H1 locs1 cells slots Q (F0 m (pc + 1) ls rest)) : W p l e R s m args below meth c H locs cells slots Q (F0 m pc ls (.int x :: .int i :: .ref a :: rest)) := by
  obtain ⟨⟨ws, hi, hP, hD⟩, hS, hA⟩ := hw
  obtain ⟨q0, hq⟩ := (hi _ _).mp (xaI_spec ha)
  exact va_zast hexec hb hK hP hD hS q0 t0 hq ht hin hdg (fun H1 locs1 hP1 hD1 hS1 => kk H1 locs1 (xw_S_set hi hD hA hq hP1 hD1 hS1))
theorem xw_last (hexec : p.tables.exec = Jvm.exec) (hb : c.code = cc) (hK : va_K D cl tys s) (hw : xw_S D cl A H0 w H locs) (t0 : Nat) {cA : ClassId} (ht : tys[t0]? = some (cA, .long)) {n : Nat} {f : Nat → Int64} (ha : xaL w a cA = some (n, f)) {i : Int32} {x : Int64} (hin : vp_in i n) (hdg : decode cc pc = .ok (.lastore, 1))
    (kk : ∀ (H1 : Heap) (locs1 : List Loc), xw_S D cl A H0 (va_up w a (some (xcL cA n (vp_updL f i.toNatClampNeg x)))) H1 locs1 → W p l e R s m args below meth c H1 locs1 cells slots Q (F0 m (pc + 1) ls rest)) : W p l e R s m args below meth c H locs cells slots Q (F0 m pc ls (.long x :: .int i :: .ref a :: rest)) := by
  obtain ⟨⟨ws, hi, hP, hD⟩, hS, hA⟩ := hw
  obtain ⟨q0, hq⟩ := (hi _ _).mp (xaL_spec ha)
  exact va_last hexec hb hK hP hD hS q0 t0 hq ht hin hdg (fun H1 locs1 hP1 hD1 hS1 => kk H1 locs1 (xw_S_set hi hD hA hq hP1 hD1 hS1))
/-- an object of a class of the world into an array of Objects (or of that class's name): what can be assigned is said by hasg -/
theorem xw_aast (hexec : p.tables.exec = Jvm.exec) (hb : c.code = cc) (hK : va_K D cl tys s) (hw : xw_S D cl A H0 w H locs) (t0 : Nat) {cA : ClassId} {E : String} (ht : tys[t0]? = some (cA, .object E)) {n : Nat} {f : Nat → Option Nat} (ha : xaQ w a cA = some (n, f)) {v ci : Nat} {vs : List Value} {r : vw_C} (hv : w v = some (.inr (ci, vs))) (hc : cl[ci]? = some r) (hasg : ∀ comp c0 : ClassId, s.vm.findClass E = some comp → s.vm.findClass r.1 = some c0 → s.vm.assignable c0 comp = true) {i : Int32} (hin : vp_in i n) (hdg : decode cc pc = .ok (.aastore, 1))
    (kk : ∀ (H1 : Heap) (locs1 : List Loc), xw_S D cl A H0 (va_up w a (some (xcQ cA n (va_up f i.toNatClampNeg (some v))))) H1 locs1 → W p l e R s m args below meth c H1 locs1 cells slots Q (F0 m (pc + 1) ls rest)) : W p l e R s m args below meth c H locs cells slots Q (F0 m pc ls (.ref v :: .int i :: .ref a :: rest)) := by
  obtain ⟨⟨ws, hi, hP, hD⟩, hS, hA⟩ := hw
  obtain ⟨q0, hq⟩ := (hi _ _).mp (xaQ_spec ha)
  obtain ⟨qk, hqk⟩ := (hi _ _).mp hv
  exact va_astqM hexec hb hK hP hD hS q0 t0 hq ht (va_rAny hK hP hqk hc hasg) hin hdg (fun H1 locs1 hP1 hD1 hS1 => kk H1 locs1 (xw_S_set hi hD hA hq hP1 hD1 hS1))
/-- the receiver of a call, by the map -/
theorem xw_recv (hK : va_K D cl tys s) (hw : xw_S D cl A H0 w H locs) {ci : Nat} {q : vw_C} {fs : List Value} (hc : cl[ci]? = some q) (he : w a = some (.inr (ci, fs))) : ∃ cell : Cell, H[a]? = some cell ∧ cell.vm.isStatics = false ∧ s.vm.findClass q.1 = some cell.cls := by
  obtain ⟨⟨ws, hi, hP, hD⟩, hS, hA⟩ := hw
  obtain ⟨q0, hq⟩ := (hi _ _).mp he
  exact va_recv hK hP hc hq
/-- a reference or null in a local -/
theorem xl_aload_n (hexec : p.tables.exec = Jvm.exec) (hb : c.code = cc) {k : Fin 4} {i : Nat} {r : Option Nat} (hdg : decode cc pc = .ok (.aload_n k, 1)) (hi : (k : Nat) = i) (hl : ls[i]? = some (.val (va_rf r)))
    (kk : W p l e R s m args below meth c H locs cells slots Q (F0 m (pc + 1) ls (va_rf r :: rest))) : W p l e R s m args below meth c H locs cells slots Q (F0 m pc ls rest) := by
  cases r with
  | none => exact lv_aload_nN hexec hb hdg hi hl kk
  | some x => exact lv_aload_n hexec hb hdg hi hl kk
theorem xl_aload (hexec : p.tables.exec = Jvm.exec) (hb : c.code = cc) {i : Nat} {r : Option Nat} (hdg : decode cc pc = .ok (.aload i, 2)) (hl : ls[i]? = some (.val (va_rf r)))
    (kk : W p l e R s m args below meth c H locs cells slots Q (F0 m (pc + 2) ls (va_rf r :: rest))) : W p l e R s m args below meth c H locs cells slots Q (F0 m pc ls rest) := by
  cases r with
  | none => exact lv_aloadN hexec hb hdg hl kk
  | some x => exact lv_aload hexec hb hdg hl kk
theorem xl_astore_n (hexec : p.tables.exec = Jvm.exec) (hb : c.code = cc) {k : Fin 4} {i nL : Nat} {r : Option Nat} {lv lv' : List (Nat × Value)} (hdg : decode cc pc = .ok (.astore_n k, 1)) (hi : (k : Nat) = i) (h : lv_has ls nL lv) (hn : i < nL) (hl : (i, va_rf r) :: lv.filter (fun q => !(q.1 == i) && !(q.1 + 1 == i && q.2.category == 2)) = lv')
    (kk : ∀ ls' : Array Slot, lv_has ls' nL lv' → W p l e R s m args below meth c H locs cells slots Q (F0 m (pc + 1) ls' rest)) : W p l e R s m args below meth c H locs cells slots Q (F0 m pc ls (va_rf r :: rest)) := by
  cases r with
  | none => exact lv_astore_nN hexec hb hdg hi h hn hl kk
  | some x => exact lv_astore_n hexec hb hdg hi h hn hl kk
theorem xl_astore (hexec : p.tables.exec = Jvm.exec) (hb : c.code = cc) {i nL : Nat} {r : Option Nat} {lv lv' : List (Nat × Value)} (hdg : decode cc pc = .ok (.astore i, 2)) (h : lv_has ls nL lv) (hn : i < nL) (hl : (i, va_rf r) :: lv.filter (fun q => !(q.1 == i) && !(q.1 + 1 == i && q.2.category == 2)) = lv')
    (kk : ∀ ls' : Array Slot, lv_has ls' nL lv' → W p l e R s m args below meth c H locs cells slots Q (F0 m (pc + 2) ls' rest)) : W p l e R s m args below meth c H locs cells slots Q (F0 m pc ls (va_rf r :: rest)) := by
  cases r with
  | none => exact lv_astoreN hexec hb hdg h hn hl kk
  | some x => exact lv_astore hexec hb hdg h hn hl kk
theorem xl_ifnull (hexec : p.tables.exec = Jvm.exec) (hb : c.code = cc) {r : Option Nat} {off : Int} {tgt : Nat} (hdg : decode cc pc = .ok (.ifnull off, 3)) (ht : (pc : Int) + off = (tgt : Int))
    (kt : r = none → W p l e R s m args below meth c H locs cells slots Q (F0 m tgt ls rest)) (kf : ¬ r = none → W p l e R s m args below meth c H locs cells slots Q (F0 m (pc + 3) ls rest)) : W p l e R s m args below meth c H locs cells slots Q (F0 m pc ls (va_rf r :: rest)) := by
  cases r with
  | none => exact lv_ifnullN hexec hb hdg ht (kt rfl)
  | some x => exact lv_ifnull hexec hb hdg (kf (fun h => by cases h))
theorem xl_ifnonnull (hexec : p.tables.exec = Jvm.exec) (hb : c.code = cc) {r : Option Nat} {off : Int} {tgt : Nat} (hdg : decode cc pc = .ok (.ifnonnull off, 3)) (ht : (pc : Int) + off = (tgt : Int))
    (kt : ¬ r = none → W p l e R s m args below meth c H locs cells slots Q (F0 m tgt ls rest)) (kf : r = none → W p l e R s m args below meth c H locs cells slots Q (F0 m (pc + 3) ls rest)) : W p l e R s m args below meth c H locs cells slots Q (F0 m pc ls (va_rf r :: rest)) := by
  cases r with
  | none => exact lv_ifnonnullN hexec hb hdg (kf rfl)
  | some x => exact lv_ifnonnull hexec hb hdg ht (kt (fun h => by cases h))
end XR2
end
section
/-! lcmp and the branch behind it, in one row -/
section XLC
variable {p : Program} {l : Launch} {e : Env} {R : Room} {s : State} {m : MethodId} {args : Array Value} {below : List Frame} {meth : Method} {c : Code} {H : Heap} {locs : List Loc} {cells slots : Nat} {Q : State → Prop} {cc : ByteArray} {pc : Nat} {ls : Array Slot} {rest : List Value}
theorem xl_lc_eq (hexec : p.tables.exec = Jvm.exec) (hb : c.code = cc) {x y : Int64} {off : Int} {tgt : Nat} (hd1 : decode cc pc = .ok (.lcmp, 1)) (hd2 : decode cc (pc + 1) = .ok (.ifCond .eq off, 3)) (ht : ((pc + 1 : Nat) : Int) + off = (tgt : Int))
    (kt : x = y → W p l e R s m args below meth c H locs cells slots Q (F0 m tgt ls rest)) (kf : ¬ x = y → W p l e R s m args below meth c H locs cells slots Q (F0 m (pc + 1 + 3) ls rest)) : W p l e R s m args below meth c H locs cells slots Q (F0 m pc ls (.long y :: .long x :: rest)) :=
  W.lcmp hexec hb hd1 (lv_if_eq hexec hb hd2 ht (fun h => kt ((lg_cmp_eq x y).mp h)) (fun h => kf (fun q => h ((lg_cmp_eq x y).mpr q))))
theorem xl_lc_ne (hexec : p.tables.exec = Jvm.exec) (hb : c.code = cc) {x y : Int64} {off : Int} {tgt : Nat} (hd1 : decode cc pc = .ok (.lcmp, 1)) (hd2 : decode cc (pc + 1) = .ok (.ifCond .ne off, 3)) (ht : ((pc + 1 : Nat) : Int) + off = (tgt : Int))
    (kt : ¬ x = y → W p l e R s m args below meth c H locs cells slots Q (F0 m tgt ls rest)) (kf : x = y → W p l e R s m args below meth c H locs cells slots Q (F0 m (pc + 1 + 3) ls rest)) : W p l e R s m args below meth c H locs cells slots Q (F0 m pc ls (.long y :: .long x :: rest)) :=
  W.lcmp hexec hb hd1 (lv_if_ne hexec hb hd2 ht (fun h => kt (fun q => h ((lg_cmp_eq x y).mpr q))) (fun h => kf ((lg_cmp_eq x y).mp h)))
theorem xl_lc_lt (hexec : p.tables.exec = Jvm.exec) (hb : c.code = cc) {x y : Int64} {off : Int} {tgt : Nat} (hd1 : decode cc pc = .ok (.lcmp, 1)) (hd2 : decode cc (pc + 1) = .ok (.ifCond .lt off, 3)) (ht : ((pc + 1 : Nat) : Int) + off = (tgt : Int))
    (kt : x < y → W p l e R s m args below meth c H locs cells slots Q (F0 m tgt ls rest)) (kf : ¬ x < y → W p l e R s m args below meth c H locs cells slots Q (F0 m (pc + 1 + 3) ls rest)) : W p l e R s m args below meth c H locs cells slots Q (F0 m pc ls (.long y :: .long x :: rest)) :=
  W.lcmp hexec hb hd1 (lv_if_lt hexec hb hd2 ht (fun h => kt ((lg_cmp_lt x y).mp h)) (fun h => kf (fun q => h ((lg_cmp_lt x y).mpr q))))
theorem xl_lc_ge (hexec : p.tables.exec = Jvm.exec) (hb : c.code = cc) {x y : Int64} {off : Int} {tgt : Nat} (hd1 : decode cc pc = .ok (.lcmp, 1)) (hd2 : decode cc (pc + 1) = .ok (.ifCond .ge off, 3)) (ht : ((pc + 1 : Nat) : Int) + off = (tgt : Int))
    (kt : y ≤ x → W p l e R s m args below meth c H locs cells slots Q (F0 m tgt ls rest)) (kf : ¬ y ≤ x → W p l e R s m args below meth c H locs cells slots Q (F0 m (pc + 1 + 3) ls rest)) : W p l e R s m args below meth c H locs cells slots Q (F0 m pc ls (.long y :: .long x :: rest)) :=
  W.lcmp hexec hb hd1 (lv_if_ge hexec hb hd2 ht (fun h => kt ((lg_cmp_ge x y).mp h)) (fun h => kf (fun q => h ((lg_cmp_ge x y).mpr q))))
theorem xl_lc_gt (hexec : p.tables.exec = Jvm.exec) (hb : c.code = cc) {x y : Int64} {off : Int} {tgt : Nat} (hd1 : decode cc pc = .ok (.lcmp, 1)) (hd2 : decode cc (pc + 1) = .ok (.ifCond .gt off, 3)) (ht : ((pc + 1 : Nat) : Int) + off = (tgt : Int))
    (kt : y < x → W p l e R s m args below meth c H locs cells slots Q (F0 m tgt ls rest)) (kf : ¬ y < x → W p l e R s m args below meth c H locs cells slots Q (F0 m (pc + 1 + 3) ls rest)) : W p l e R s m args below meth c H locs cells slots Q (F0 m pc ls (.long y :: .long x :: rest)) :=
  W.lcmp hexec hb hd1 (lv_if_gt hexec hb hd2 ht (fun h => kt ((lg_cmp_gt x y).mp h)) (fun h => kf (fun q => h ((lg_cmp_gt x y).mpr q))))
theorem xl_lc_le (hexec : p.tables.exec = Jvm.exec) (hb : c.code = cc) {x y : Int64} {off : Int} {tgt : Nat} (hd1 : decode cc pc = .ok (.lcmp, 1)) (hd2 : decode cc (pc + 1) = .ok (.ifCond .le off, 3)) (ht : ((pc + 1 : Nat) : Int) + off = (tgt : Int))
    (kt : x ≤ y → W p l e R s m args below meth c H locs cells slots Q (F0 m tgt ls rest)) (kf : ¬ x ≤ y → W p l e R s m args below meth c H locs cells slots Q (F0 m (pc + 1 + 3) ls rest)) : W p l e R s m args below meth c H locs cells slots Q (F0 m pc ls (.long y :: .long x :: rest)) :=
  W.lcmp hexec hb hd1 (lv_if_le hexec hb hd2 ht (fun h => kt ((lg_cmp_le x y).mp h)) (fun h => kf (fun q => h ((lg_cmp_le x y).mpr q))))
end XLC
end
