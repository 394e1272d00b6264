section
-- ===== PART A: goes FIRST, ahead of the names: the tables' words, and 'selects' of the private methods out of them =====
/-- a private method of a class that the tables say can be made, by its rows of tables_1 -/
def lw_okq (q : MethodName × Nat) : Prop := (q.1.cls ≠ "java/lang/invoke/MethodHandle" ∧ q.1.cls ≠ "java/lang/invoke/VarHandle") ∧ Cond.instantiable q.1.cls q.2 ∈ tables_1 ∧ Cond.privateMethod q.1 ∈ tables_1 ∧ Cond.instanceMethod q.1 ∈ tables_1
theorem lw_p0 : lw_okq (⟨"java/util/ArrayList", "add", "(Ljava/lang/Object;[Ljava/lang/Object;I)V"⟩, 3) := ⟨⟨by decide +kernel, by decide +kernel⟩, List.mem_of_getElem? (i := 31) (by decide +kernel), List.mem_of_getElem? (i := 109) (by decide +kernel), List.mem_of_getElem? (i := 110) (by decide +kernel)⟩
theorem lw_p1 : lw_okq (⟨"java/util/ArrayList", "grow", "()[Ljava/lang/Object;"⟩, 3) := ⟨⟨by decide +kernel, by decide +kernel⟩, List.mem_of_getElem? (i := 31) (by decide +kernel), List.mem_of_getElem? (i := 113) (by decide +kernel), List.mem_of_getElem? (i := 114) (by decide +kernel)⟩
theorem lw_p2 : lw_okq (⟨"java/util/ArrayList", "grow", "(I)[Ljava/lang/Object;"⟩, 3) := ⟨⟨by decide +kernel, by decide +kernel⟩, List.mem_of_getElem? (i := 31) (by decide +kernel), List.mem_of_getElem? (i := 117) (by decide +kernel), List.mem_of_getElem? (i := 118) (by decide +kernel)⟩
theorem lw_p3 : lw_okq (⟨"PostLedger", "isClosed", "(J)Z"⟩, 4) := ⟨⟨by decide +kernel, by decide +kernel⟩, List.mem_of_getElem? (i := 23) (by decide +kernel), List.mem_of_getElem? (i := 172) (by decide +kernel), List.mem_of_getElem? (i := 173) (by decide +kernel)⟩
theorem lw_p4 : lw_okq (⟨"PostLedger", "hasRoomForBatch", "()Z"⟩, 4) := ⟨⟨by decide +kernel, by decide +kernel⟩, List.mem_of_getElem? (i := 23) (by decide +kernel), List.mem_of_getElem? (i := 177) (by decide +kernel), List.mem_of_getElem? (i := 178) (by decide +kernel)⟩
theorem lw_p5 : lw_okq (⟨"PostLedger", "findBatch", "(I)LPostLedger$Batch;"⟩, 4) := ⟨⟨by decide +kernel, by decide +kernel⟩, List.mem_of_getElem? (i := 23) (by decide +kernel), List.mem_of_getElem? (i := 218) (by decide +kernel), List.mem_of_getElem? (i := 219) (by decide +kernel)⟩
theorem lw_p6 : lw_okq (⟨"PostLedger", "findAccount", "(I)LPostLedger$Account;"⟩, 4) := ⟨⟨by decide +kernel, by decide +kernel⟩, List.mem_of_getElem? (i := 23) (by decide +kernel), List.mem_of_getElem? (i := 236) (by decide +kernel), List.mem_of_getElem? (i := 237) (by decide +kernel)⟩
theorem lw_p7 : lw_okq (⟨"PostLedger", "findBatchOfRow", "(I)LPostLedger$Batch;"⟩, 4) := ⟨⟨by decide +kernel, by decide +kernel⟩, List.mem_of_getElem? (i := 23) (by decide +kernel), List.mem_of_getElem? (i := 295) (by decide +kernel), List.mem_of_getElem? (i := 296) (by decide +kernel)⟩
theorem lw_p8 : lw_okq (⟨"PostLedger", "enterIntoBooks", "(LPostLedger$Batch;)V"⟩, 4) := ⟨⟨by decide +kernel, by decide +kernel⟩, List.mem_of_getElem? (i := 23) (by decide +kernel), List.mem_of_getElem? (i := 309) (by decide +kernel), List.mem_of_getElem? (i := 310) (by decide +kernel)⟩
theorem lw_p9 : lw_okq (⟨"PostLedger", "totalOfKind", "(II)J"⟩, 4) := ⟨⟨by decide +kernel, by decide +kernel⟩, List.mem_of_getElem? (i := 23) (by decide +kernel), List.mem_of_getElem? (i := 321) (by decide +kernel), List.mem_of_getElem? (i := 322) (by decide +kernel)⟩
theorem lw_p10 : lw_okq (⟨"PostLedger", "firstOfKind", "(II)LPostLedger$Account;"⟩, 4) := ⟨⟨by decide +kernel, by decide +kernel⟩, List.mem_of_getElem? (i := 23) (by decide +kernel), List.mem_of_getElem? (i := 329) (by decide +kernel), List.mem_of_getElem? (i := 330) (by decide +kernel)⟩
theorem lw_p11 : lw_okq (⟨"PostLedger$Batch", "sumOfRows", "()J"⟩, 6) := ⟨⟨by decide +kernel, by decide +kernel⟩, List.mem_of_getElem? (i := 181) (by decide +kernel), List.mem_of_getElem? (i := 376) (by decide +kernel), List.mem_of_getElem? (i := 377) (by decide +kernel)⟩
theorem lw_p12 : lw_okq (⟨"PostLedger$Batch", "breaksLimit", "(LPostLedger$Row;I)Z"⟩, 6) := ⟨⟨by decide +kernel, by decide +kernel⟩, List.mem_of_getElem? (i := 181) (by decide +kernel), List.mem_of_getElem? (i := 382) (by decide +kernel), List.mem_of_getElem? (i := 383) (by decide +kernel)⟩
theorem lw_p13 : lw_okq (⟨"java/lang/Throwable", "fillInStackTrace", "(I)Ljava/lang/Throwable;"⟩, 6) := ⟨⟨by decide +kernel, by decide +kernel⟩, List.mem_of_getElem? (i := 435) (by decide +kernel), List.mem_of_getElem? (i := 433) (by decide +kernel), List.mem_of_getElem? (i := 434) (by decide +kernel)⟩
theorem lw_p14 : lw_okq (⟨"PostLedgerModel", "make", "(J)I"⟩, 17) := ⟨⟨by decide +kernel, by decide +kernel⟩, List.mem_of_getElem? (i := 465) (by decide +kernel), List.mem_of_getElem? (i := 548) (by decide +kernel), List.mem_of_getElem? (i := 549) (by decide +kernel)⟩
theorem lw_p15 : lw_okq (⟨"PostLedgerModel", "isBatch", "(I)Z"⟩, 17) := ⟨⟨by decide +kernel, by decide +kernel⟩, List.mem_of_getElem? (i := 465) (by decide +kernel), List.mem_of_getElem? (i := 556) (by decide +kernel), List.mem_of_getElem? (i := 557) (by decide +kernel)⟩
def lw_privs_1 : List (MethodName × Nat) := [(⟨"java/util/ArrayList", "add", "(Ljava/lang/Object;[Ljava/lang/Object;I)V"⟩, 3), (⟨"java/util/ArrayList", "grow", "()[Ljava/lang/Object;"⟩, 3), (⟨"java/util/ArrayList", "grow", "(I)[Ljava/lang/Object;"⟩, 3), (⟨"PostLedger", "isClosed", "(J)Z"⟩, 4), (⟨"PostLedger", "hasRoomForBatch", "()Z"⟩, 4), (⟨"PostLedger", "findBatch", "(I)LPostLedger$Batch;"⟩, 4), (⟨"PostLedger", "findAccount", "(I)LPostLedger$Account;"⟩, 4), (⟨"PostLedger", "findBatchOfRow", "(I)LPostLedger$Batch;"⟩, 4), (⟨"PostLedger", "enterIntoBooks", "(LPostLedger$Batch;)V"⟩, 4), (⟨"PostLedger", "totalOfKind", "(II)J"⟩, 4), (⟨"PostLedger", "firstOfKind", "(II)LPostLedger$Account;"⟩, 4), (⟨"PostLedger$Batch", "sumOfRows", "()J"⟩, 6), (⟨"PostLedger$Batch", "breaksLimit", "(LPostLedger$Row;I)Z"⟩, 6), (⟨"java/lang/Throwable", "fillInStackTrace", "(I)Ljava/lang/Throwable;"⟩, 6), (⟨"PostLedgerModel", "make", "(J)I"⟩, 17), (⟨"PostLedgerModel", "isBatch", "(I)Z"⟩, 17)]
theorem lw_r1 : ∀ q ∈ lw_privs_1, lw_okq q := List.forall_mem_cons.mpr ⟨lw_p0, List.forall_mem_cons.mpr ⟨lw_p1, List.forall_mem_cons.mpr ⟨lw_p2, List.forall_mem_cons.mpr ⟨lw_p3, List.forall_mem_cons.mpr ⟨lw_p4, List.forall_mem_cons.mpr ⟨lw_p5, List.forall_mem_cons.mpr ⟨lw_p6, List.forall_mem_cons.mpr ⟨lw_p7, List.forall_mem_cons.mpr ⟨lw_p8, List.forall_mem_cons.mpr ⟨lw_p9, List.forall_mem_cons.mpr ⟨lw_p10, List.forall_mem_cons.mpr ⟨lw_p11, List.forall_mem_cons.mpr ⟨lw_p12, List.forall_mem_cons.mpr ⟨lw_p13, List.forall_mem_cons.mpr ⟨lw_p14, List.forall_mem_cons.mpr ⟨lw_p15, fun _ h => absurd h List.not_mem_nil⟩⟩⟩⟩⟩⟩⟩⟩⟩⟩⟩⟩⟩⟩⟩⟩
theorem lw_p16 : lw_okq (⟨"PostLedgerModel", "isAccount", "(I)Z"⟩, 17) := ⟨⟨by decide +kernel, by decide +kernel⟩, List.mem_of_getElem? (i := 465) (by decide +kernel), List.mem_of_getElem? (i := 560) (by decide +kernel), List.mem_of_getElem? (i := 561) (by decide +kernel)⟩
theorem lw_p17 : lw_okq (⟨"PostLedgerModel", "put", "(IIJ)V"⟩, 17) := ⟨⟨by decide +kernel, by decide +kernel⟩, List.mem_of_getElem? (i := 465) (by decide +kernel), List.mem_of_getElem? (i := 566) (by decide +kernel), List.mem_of_getElem? (i := 567) (by decide +kernel)⟩
theorem lw_p18 : lw_okq (⟨"PostLedgerModel", "go", "(I)I"⟩, 17) := ⟨⟨by decide +kernel, by decide +kernel⟩, List.mem_of_getElem? (i := 465) (by decide +kernel), List.mem_of_getElem? (i := 575) (by decide +kernel), List.mem_of_getElem? (i := 576) (by decide +kernel)⟩
theorem lw_p19 : lw_okq (⟨"PostLedgerModel", "stops", "(I)I"⟩, 17) := ⟨⟨by decide +kernel, by decide +kernel⟩, List.mem_of_getElem? (i := 465) (by decide +kernel), List.mem_of_getElem? (i := 579) (by decide +kernel), List.mem_of_getElem? (i := 580) (by decide +kernel)⟩
theorem lw_p20 : lw_okq (⟨"PostLedgerModel", "balanceOf", "(IJ)J"⟩, 17) := ⟨⟨by decide +kernel, by decide +kernel⟩, List.mem_of_getElem? (i := 465) (by decide +kernel), List.mem_of_getElem? (i := 584) (by decide +kernel), List.mem_of_getElem? (i := 585) (by decide +kernel)⟩
theorem lw_p21 : lw_okq (⟨"PostLedgerModel", "part", "(III)J"⟩, 17) := ⟨⟨by decide +kernel, by decide +kernel⟩, List.mem_of_getElem? (i := 465) (by decide +kernel), List.mem_of_getElem? (i := 588) (by decide +kernel), List.mem_of_getElem? (i := 589) (by decide +kernel)⟩
theorem lw_p22 : lw_okq (⟨"PostLedgerModel", "batchOf", "(I)I"⟩, 17) := ⟨⟨by decide +kernel, by decide +kernel⟩, List.mem_of_getElem? (i := 465) (by decide +kernel), List.mem_of_getElem? (i := 605) (by decide +kernel), List.mem_of_getElem? (i := 606) (by decide +kernel)⟩
theorem lw_p23 : lw_okq (⟨"PostLedgerModel", "first", "(II)I"⟩, 17) := ⟨⟨by decide +kernel, by decide +kernel⟩, List.mem_of_getElem? (i := 465) (by decide +kernel), List.mem_of_getElem? (i := 614) (by decide +kernel), List.mem_of_getElem? (i := 615) (by decide +kernel)⟩
def lw_privs_2 : List (MethodName × Nat) := [(⟨"PostLedgerModel", "isAccount", "(I)Z"⟩, 17), (⟨"PostLedgerModel", "put", "(IIJ)V"⟩, 17), (⟨"PostLedgerModel", "go", "(I)I"⟩, 17), (⟨"PostLedgerModel", "stops", "(I)I"⟩, 17), (⟨"PostLedgerModel", "balanceOf", "(IJ)J"⟩, 17), (⟨"PostLedgerModel", "part", "(III)J"⟩, 17), (⟨"PostLedgerModel", "batchOf", "(I)I"⟩, 17), (⟨"PostLedgerModel", "first", "(II)I"⟩, 17)]
theorem lw_r2 : ∀ q ∈ lw_privs_2, lw_okq q := List.forall_mem_cons.mpr ⟨lw_p16, List.forall_mem_cons.mpr ⟨lw_p17, List.forall_mem_cons.mpr ⟨lw_p18, List.forall_mem_cons.mpr ⟨lw_p19, List.forall_mem_cons.mpr ⟨lw_p20, List.forall_mem_cons.mpr ⟨lw_p21, List.forall_mem_cons.mpr ⟨lw_p22, List.forall_mem_cons.mpr ⟨lw_p23, fun _ h => absurd h List.not_mem_nil⟩⟩⟩⟩⟩⟩⟩⟩
def lw_privs : List (MethodName × Nat) := lw_privs_1 ++ (lw_privs_2)
def lw_tbl : List Cond := k2_sels lw_privs ++ tables_1
theorem lw_privs_ok : ∀ q ∈ lw_privs, lw_okq q := by
  show ∀ q ∈ lw_privs_1 ++ (lw_privs_2), lw_okq q
  exact List.forall_mem_append.mpr ⟨lw_r1, lw_r2⟩
end
section
/-! Names: classes, fields, methods; the words that every method is given (xTB) -/
def RPL : String := "PostLedger"
def RAC : String := "PostLedger$Account"
def RBA : String := "PostLedger$Batch"
def RRW : String := "PostLedger$Row"
def RMO : String := "PostLedgerModel"
def RAL : String := "java/util/ArrayList"
def RAB : String := "java/util/AbstractList"
def RAN : String := "java/util/AbstractCollection"
def RAR : String := "java/util/Arrays"
def ROB : String := "java/util/Objects"
def RPC : String := "jdk/internal/util/Preconditions"
def RAS : String := "jdk/internal/util/ArraysSupport"
def RMA : String := "java/lang/Math"
def ROJ : String := "java/lang/Object"
def TAL : u_T := fun k => match k with
  | 0 => ("java/util/AbstractList", "modCount", "I", false)
  | 1 => ("java/util/ArrayList", "elementData", "[Ljava/lang/Object;", false)
  | _ => ("java/util/ArrayList", "size", "I", false)
def tyAL : Nat → FieldType := fun k => match k with
  | 0 => .int
  | 1 => .array (.object "java/lang/Object")
  | _ => .int
theorem nmAL : ∀ a, a < 3 → ∀ b, b < 3 → a ≠ b → (TAL a).2.1 ≠ (TAL b).2.1 := by decide +kernel
theorem tyAL_ok : ∀ k, k < 3 → parseFieldDescriptor (TAL k).2.2.1 = some (tyAL k) := by decide +kernel
def TAC : u_T := fun k => match k with
  | 0 => ("PostLedger$Account", "office", "I", true)
  | 1 => ("PostLedger$Account", "kind", "I", true)
  | 2 => ("PostLedger$Account", "limit", "I", false)
  | _ => ("PostLedger$Account", "total", "J", false)
def tyAC : Nat → FieldType := fun k => match k with
  | 0 => .int
  | 1 => .int
  | 2 => .int
  | _ => .long
theorem nmAC : ∀ a, a < 4 → ∀ b, b < 4 → a ≠ b → (TAC a).2.1 ≠ (TAC b).2.1 := by decide +kernel
theorem tyAC_ok : ∀ k, k < 4 → parseFieldDescriptor (TAC k).2.2.1 = some (tyAC k) := by decide +kernel
def TBA : u_T := fun k => match k with
  | 0 => ("PostLedger$Batch", "day", "I", true)
  | 1 => ("PostLedger$Batch", "rows", "Ljava/util/ArrayList;", true)
  | 2 => ("PostLedger$Batch", "standing", "LPostLedger$Standing;", false)
  | 3 => ("PostLedger$Batch", "failsByPlan", "Z", false)
  | 4 => ("PostLedger$Batch", "isPartOfReversal", "Z", false)
  | _ => ("PostLedger$Batch", "firstRowNumber", "I", false)
def tyBA : Nat → FieldType := fun k => match k with
  | 0 => .int
  | 1 => .object "java/util/ArrayList"
  | 2 => .object "PostLedger$Standing"
  | 3 => .boolean
  | 4 => .boolean
  | _ => .int
theorem nmBA : ∀ a, a < 6 → ∀ b, b < 6 → a ≠ b → (TBA a).2.1 ≠ (TBA b).2.1 := by decide +kernel
theorem tyBA_ok : ∀ k, k < 6 → parseFieldDescriptor (TBA k).2.2.1 = some (tyBA k) := by decide +kernel
def TRW : u_T := fun k => match k with
  | 0 => ("PostLedger$Row", "account", "LPostLedger$Account;", true)
  | _ => ("PostLedger$Row", "cents", "J", true)
def tyRW : Nat → FieldType := fun k => match k with
  | 0 => .object "PostLedger$Account"
  | _ => .long
theorem nmRW : ∀ a, a < 2 → ∀ b, b < 2 → a ≠ b → (TRW a).2.1 ≠ (TRW b).2.1 := by decide +kernel
theorem tyRW_ok : ∀ k, k < 2 → parseFieldDescriptor (TRW k).2.2.1 = some (tyRW k) := by decide +kernel
def TPL : u_T := fun k => match k with
  | 0 => ("PostLedger", "accounts", "Ljava/util/ArrayList;", true)
  | 1 => ("PostLedger", "batches", "Ljava/util/ArrayList;", true)
  | 2 => ("PostLedger", "firstOpenDay", "I", false)
  | _ => ("PostLedger", "postedRows", "I", false)
def tyPL : Nat → FieldType := fun k => match k with
  | 0 => .object "java/util/ArrayList"
  | 1 => .object "java/util/ArrayList"
  | 2 => .int
  | _ => .int
theorem nmPL : ∀ a, a < 4 → ∀ b, b < 4 → a ≠ b → (TPL a).2.1 ≠ (TPL b).2.1 := by decide +kernel
theorem tyPL_ok : ∀ k, k < 4 → parseFieldDescriptor (TPL k).2.2.1 = some (tyPL k) := by decide +kernel
def TMO : u_T := fun k => match k with
  | 0 => ("PostLedgerModel", "thrown", "I", false)
  | 1 => ("PostLedgerModel", "accounts", "I", false)
  | 2 => ("PostLedgerModel", "offices", "[I", true)
  | 3 => ("PostLedgerModel", "kinds", "[I", true)
  | 4 => ("PostLedgerModel", "limits", "[J", true)
  | 5 => ("PostLedgerModel", "batches", "I", false)
  | 6 => ("PostLedgerModel", "states", "[I", true)
  | 7 => ("PostLedgerModel", "days", "[J", true)
  | 8 => ("PostLedgerModel", "planned", "[Z", true)
  | 9 => ("PostLedgerModel", "free", "[Z", true)
  | 10 => ("PostLedgerModel", "back", "[Z", true)
  | 11 => ("PostLedgerModel", "rows", "[I", true)
  | 12 => ("PostLedgerModel", "rowAccounts", "[I", true)
  | 13 => ("PostLedgerModel", "rowCents", "[J", true)
  | 14 => ("PostLedgerModel", "posted", "I", false)
  | 15 => ("PostLedgerModel", "postedBatches", "[I", true)
  | _ => ("PostLedgerModel", "closed", "J", false)
def tyMO : Nat → FieldType := fun k => match k with
  | 0 => .int
  | 1 => .int
  | 2 => .array .int
  | 3 => .array .int
  | 4 => .array .long
  | 5 => .int
  | 6 => .array .int
  | 7 => .array .long
  | 8 => .array .boolean
  | 9 => .array .boolean
  | 10 => .array .boolean
  | 11 => .array .int
  | 12 => .array .int
  | 13 => .array .long
  | 14 => .int
  | 15 => .array .int
  | _ => .long
theorem nmMO : ∀ a, a < 17 → ∀ b, b < 17 → a ≠ b → (TMO a).2.1 ≠ (TMO b).2.1 := by decide +kernel
theorem tyMO_ok : ∀ k, k < 17 → parseFieldDescriptor (TMO k).2.2.1 = some (tyMO k) := by decide +kernel
abbrev vwCl : List vw_C := [(RAL, TAL, 3), (RAC, TAC, 4), (RBA, TBA, 6), (RRW, TRW, 2), (RPL, TPL, 4), (RMO, TMO, 17)]
abbrev cPL_init : ByteArray := prog_1_method_1_code
def yPL_init : MethodName := ⟨RPL, "<init>", "()V"⟩
abbrev cOJ_init : ByteArray := object_method_1_code
def yOJ_init : MethodName := ⟨ROJ, "<init>", "()V"⟩
abbrev cAL_init : ByteArray := prog_22_method_2_code
def yAL_init : MethodName := ⟨RAL, "<init>", "()V"⟩
abbrev cAB_init : ByteArray := prog_21_method_1_code
def yAB_init : MethodName := ⟨RAB, "<init>", "()V"⟩
abbrev cAN_init : ByteArray := prog_20_method_1_code
def yAN_init : MethodName := ⟨RAN, "<init>", "()V"⟩
abbrev cPL_account : ByteArray := prog_1_method_2_code
def yPL_account : MethodName := ⟨RPL, "account", "(II)I"⟩
abbrev cPL_isOffice : ByteArray := prog_1_method_16_code
def yPL_isOffice : MethodName := ⟨RPL, "isOffice", "(I)Z"⟩
abbrev cAL_size : ByteArray := prog_22_method_8_code
def yAL_size : MethodName := ⟨RAL, "size", "()I"⟩
abbrev cAC_init : ByteArray := prog_2_method_1_code
def yAC_init : MethodName := ⟨RAC, "<init>", "(II)V"⟩
abbrev cAL_add : ByteArray := prog_22_method_25_code
def yAL_add : MethodName := ⟨RAL, "add", "(Ljava/lang/Object;)Z"⟩
abbrev cAL_add2 : ByteArray := prog_22_method_24_code
def yAL_add2 : MethodName := ⟨RAL, "add", "(Ljava/lang/Object;[Ljava/lang/Object;I)V"⟩
abbrev cAL_grow : ByteArray := prog_22_method_7_code
def yAL_grow : MethodName := ⟨RAL, "grow", "()[Ljava/lang/Object;"⟩
abbrev cAL_grow2 : ByteArray := prog_22_method_6_code
def yAL_grow2 : MethodName := ⟨RAL, "grow", "(I)[Ljava/lang/Object;"⟩
abbrev cAS_newLength : ByteArray := prog_29_method_27_code
def yAS_newLength : MethodName := ⟨RAS, "newLength", "(III)I"⟩
abbrev cMA_max : ByteArray := prog_15_method_65_code
def yMA_max : MethodName := ⟨RMA, "max", "(II)I"⟩
abbrev cAS_hugeLength : ByteArray := prog_29_method_28_code
def yAS_hugeLength : MethodName := ⟨RAS, "hugeLength", "(II)I"⟩
abbrev cAR_copyOf : ByteArray := prog_23_method_119_code
def yAR_copyOf : MethodName := ⟨RAR, "copyOf", "([Ljava/lang/Object;I)[Ljava/lang/Object;"⟩
abbrev cAR_copyOf2 : ByteArray := prog_23_method_120_code
def yAR_copyOf2 : MethodName := ⟨RAR, "copyOf", "([Ljava/lang/Object;ILjava/lang/Class;)[Ljava/lang/Object;"⟩
abbrev cMA_min : ByteArray := prog_15_method_69_code
def yMA_min : MethodName := ⟨RMA, "min", "(II)I"⟩
abbrev cPL_batch : ByteArray := prog_1_method_3_code
def yPL_batch : MethodName := ⟨RPL, "batch", "(J)I"⟩
abbrev cPL_isDay : ByteArray := prog_1_method_17_code
def yPL_isDay : MethodName := ⟨RPL, "isDay", "(J)Z"⟩
abbrev cPL_isWithin : ByteArray := prog_1_method_15_code
def yPL_isWithin : MethodName := ⟨RPL, "isWithin", "(JJJ)Z"⟩
abbrev cPL_isClosed : ByteArray := prog_1_method_18_code
def yPL_isClosed : MethodName := ⟨RPL, "isClosed", "(J)Z"⟩
abbrev cPL_hasRoomForBatch : ByteArray := prog_1_method_19_code
def yPL_hasRoomForBatch : MethodName := ⟨RPL, "hasRoomForBatch", "()Z"⟩
abbrev cBA_init : ByteArray := prog_3_method_1_code
def yBA_init : MethodName := ⟨RBA, "<init>", "(I)V"⟩
abbrev cPL_row : ByteArray := prog_1_method_4_code
def yPL_row : MethodName := ⟨RPL, "row", "(IIJ)Z"⟩
abbrev cPL_findBatch : ByteArray := prog_1_method_21_code
def yPL_findBatch : MethodName := ⟨RPL, "findBatch", "(I)LPostLedger$Batch;"⟩
abbrev cAL_get : ByteArray := prog_22_method_20_code
def yAL_get : MethodName := ⟨RAL, "get", "(I)Ljava/lang/Object;"⟩
abbrev cOB_checkIndex : ByteArray := prog_26_method_17_code
def yOB_checkIndex : MethodName := ⟨ROB, "checkIndex", "(II)I"⟩
abbrev cPC_checkIndex : ByteArray := prog_30_method_11_code
def yPC_checkIndex : MethodName := ⟨RPC, "checkIndex", "(IILjava/util/function/BiFunction;)I"⟩
abbrev cAL_elementData : ByteArray := prog_22_method_18_code
def yAL_elementData : MethodName := ⟨RAL, "elementData", "(I)Ljava/lang/Object;"⟩
abbrev cPL_findAccount : ByteArray := prog_1_method_20_code
def yPL_findAccount : MethodName := ⟨RPL, "findAccount", "(I)LPostLedger$Account;"⟩
abbrev cBA_isOpen : ByteArray := prog_3_method_2_code
def yBA_isOpen : MethodName := ⟨RBA, "isOpen", "()Z"⟩
abbrev cBA_isFull : ByteArray := prog_3_method_4_code
def yBA_isFull : MethodName := ⟨RBA, "isFull", "()Z"⟩
abbrev cBA_addRow : ByteArray := prog_3_method_6_code
def yBA_addRow : MethodName := ⟨RBA, "addRow", "(LPostLedger$Account;J)V"⟩
abbrev cRW_init : ByteArray := prog_5_method_1_code
def yRW_init : MethodName := ⟨RRW, "<init>", "(LPostLedger$Account;J)V"⟩
abbrev cPL_balance : ByteArray := prog_1_method_6_code
def yPL_balance : MethodName := ⟨RPL, "balance", "(IJ)J"⟩
abbrev cBA_size : ByteArray := prog_3_method_3_code
def yBA_size : MethodName := ⟨RBA, "size", "()I"⟩
abbrev cBA_sumForAccount : ByteArray := prog_3_method_12_code
def yBA_sumForAccount : MethodName := ⟨RBA, "sumForAccount", "(LPostLedger$Account;I)J"⟩
abbrev cPL_close : ByteArray := prog_1_method_7_code
def yPL_close : MethodName := ⟨RPL, "close", "(J)I"⟩
abbrev cPL_reverse : ByteArray := prog_1_method_8_code
def yPL_reverse : MethodName := ⟨RPL, "reverse", "(I)I"⟩
abbrev cPL_findBatchOfRow : ByteArray := prog_1_method_22_code
def yPL_findBatchOfRow : MethodName := ⟨RPL, "findBatchOfRow", "(I)LPostLedger$Batch;"⟩
abbrev cBA_hasRowNumber : ByteArray := prog_3_method_5_code
def yBA_hasRowNumber : MethodName := ⟨RBA, "hasRowNumber", "(I)Z"⟩
abbrev cBA_addRowsWithOtherSign : ByteArray := prog_3_method_7_code
def yBA_addRowsWithOtherSign : MethodName := ⟨RBA, "addRowsWithOtherSign", "(LPostLedger$Batch;)V"⟩
abbrev cPL_enterIntoBooks : ByteArray := prog_1_method_25_code
def yPL_enterIntoBooks : MethodName := ⟨RPL, "enterIntoBooks", "(LPostLedger$Batch;)V"⟩
abbrev cBA_addToTotals : ByteArray := prog_3_method_8_code
def yBA_addToTotals : MethodName := ⟨RBA, "addToTotals", "()V"⟩
abbrev cPL_stock : ByteArray := prog_1_method_9_code
def yPL_stock : MethodName := ⟨RPL, "stock", "(IIJ)I"⟩
abbrev cPL_totalOfKind : ByteArray := prog_1_method_24_code
def yPL_totalOfKind : MethodName := ⟨RPL, "totalOfKind", "(II)J"⟩
abbrev cAC_isOfKind : ByteArray := prog_2_method_2_code
def yAC_isOfKind : MethodName := ⟨RAC, "isOfKind", "(II)Z"⟩
abbrev cPL_firstOfKind : ByteArray := prog_1_method_23_code
def yPL_firstOfKind : MethodName := ⟨RPL, "firstOfKind", "(II)LPostLedger$Account;"⟩
abbrev cPL_limit : ByteArray := prog_1_method_10_code
def yPL_limit : MethodName := ⟨RPL, "limit", "(IJ)I"⟩
abbrev cPL_fails : ByteArray := prog_1_method_11_code
def yPL_fails : MethodName := ⟨RPL, "fails", "(IZ)Z"⟩
abbrev cPL_hold : ByteArray := prog_1_method_12_code
def yPL_hold : MethodName := ⟨RPL, "hold", "(I)J"⟩
abbrev cBA_takenFromAccount : ByteArray := prog_3_method_13_code
def yBA_takenFromAccount : MethodName := ⟨RBA, "takenFromAccount", "(LPostLedger$Account;)J"⟩
abbrev cPL_rows : ByteArray := prog_1_method_13_code
def yPL_rows : MethodName := ⟨RPL, "rows", "()I"⟩
abbrev cPL_all : ByteArray := prog_1_method_14_code
def yPL_all : MethodName := ⟨RPL, "all", "()J"⟩
abbrev cPL_post : ByteArray := prog_1_method_5_code
def yPL_post : MethodName := ⟨RPL, "post", "(I)I"⟩
abbrev cBA_outcomeOfPosting : ByteArray := prog_3_method_9_code
def yBA_outcomeOfPosting : MethodName := ⟨RBA, "outcomeOfPosting", "()LPostLedger$Outcome;"⟩
abbrev cAL_isEmpty : ByteArray := prog_22_method_9_code
def yAL_isEmpty : MethodName := ⟨RAL, "isEmpty", "()Z"⟩
abbrev cBA_sumOfRows : ByteArray := prog_3_method_11_code
def yBA_sumOfRows : MethodName := ⟨RBA, "sumOfRows", "()J"⟩
abbrev cBA_breaksLimit : ByteArray := prog_3_method_10_code
def yBA_breaksLimit : MethodName := ⟨RBA, "breaksLimit", "(LPostLedger$Row;I)Z"⟩
abbrev cRW_takesFromCustomer : ByteArray := prog_5_method_2_code
def yRW_takesFromCustomer : MethodName := ⟨RRW, "takesFromCustomer", "()Z"⟩
abbrev cMO_init : ByteArray := prog_8_method_1_code
def yMO_init : MethodName := ⟨RMO, "<init>", "()V"⟩
abbrev cMO_thrown : ByteArray := prog_8_method_2_code
def yMO_thrown : MethodName := ⟨RMO, "thrown", "()I"⟩
abbrev cMO_account : ByteArray := prog_8_method_6_code
def yMO_account : MethodName := ⟨RMO, "account", "(II)I"⟩
abbrev cMO_isIn : ByteArray := prog_8_method_3_code
def yMO_isIn : MethodName := ⟨RMO, "isIn", "(JJJ)Z"⟩
abbrev cMO_batch : ByteArray := prog_8_method_8_code
def yMO_batch : MethodName := ⟨RMO, "batch", "(J)I"⟩
abbrev cMO_make : ByteArray := prog_8_method_7_code
def yMO_make : MethodName := ⟨RMO, "make", "(J)I"⟩
abbrev cMO_row : ByteArray := prog_8_method_10_code
def yMO_row : MethodName := ⟨RMO, "row", "(IIJ)Z"⟩
abbrev cMO_isBatch : ByteArray := prog_8_method_5_code
def yMO_isBatch : MethodName := ⟨RMO, "isBatch", "(I)Z"⟩
abbrev cMO_isAccount : ByteArray := prog_8_method_4_code
def yMO_isAccount : MethodName := ⟨RMO, "isAccount", "(I)Z"⟩
abbrev cMO_put : ByteArray := prog_8_method_9_code
def yMO_put : MethodName := ⟨RMO, "put", "(IIJ)V"⟩
abbrev cMO_post : ByteArray := prog_8_method_15_code
def yMO_post : MethodName := ⟨RMO, "post", "(I)I"⟩
abbrev cMO_go : ByteArray := prog_8_method_14_code
def yMO_go : MethodName := ⟨RMO, "go", "(I)I"⟩
abbrev cMO_stops : ByteArray := prog_8_method_13_code
def yMO_stops : MethodName := ⟨RMO, "stops", "(I)I"⟩
abbrev cMO_balanceOf : ByteArray := prog_8_method_12_code
def yMO_balanceOf : MethodName := ⟨RMO, "balanceOf", "(IJ)J"⟩
abbrev cMO_part : ByteArray := prog_8_method_11_code
def yMO_part : MethodName := ⟨RMO, "part", "(III)J"⟩
abbrev cMO_balance : ByteArray := prog_8_method_16_code
def yMO_balance : MethodName := ⟨RMO, "balance", "(IJ)J"⟩
abbrev cMO_close : ByteArray := prog_8_method_17_code
def yMO_close : MethodName := ⟨RMO, "close", "(J)I"⟩
abbrev cMO_reverse : ByteArray := prog_8_method_19_code
def yMO_reverse : MethodName := ⟨RMO, "reverse", "(I)I"⟩
abbrev cMO_batchOf : ByteArray := prog_8_method_18_code
def yMO_batchOf : MethodName := ⟨RMO, "batchOf", "(I)I"⟩
abbrev cMO_stock : ByteArray := prog_8_method_21_code
def yMO_stock : MethodName := ⟨RMO, "stock", "(IIJ)I"⟩
abbrev cMO_first : ByteArray := prog_8_method_20_code
def yMO_first : MethodName := ⟨RMO, "first", "(II)I"⟩
abbrev cMO_limit : ByteArray := prog_8_method_22_code
def yMO_limit : MethodName := ⟨RMO, "limit", "(IJ)I"⟩
abbrev cMO_fails : ByteArray := prog_8_method_23_code
def yMO_fails : MethodName := ⟨RMO, "fails", "(IZ)Z"⟩
abbrev cMO_hold : ByteArray := prog_8_method_24_code
def yMO_hold : MethodName := ⟨RMO, "hold", "(I)J"⟩
abbrev cMO_rows : ByteArray := prog_8_method_25_code
def yMO_rows : MethodName := ⟨RMO, "rows", "()I"⟩
abbrev cMO_all : ByteArray := prog_8_method_26_code
def yMO_all : MethodName := ⟨RMO, "all", "()J"⟩
def xTB : List Cond := lw_tbl.filter goodWord
theorem xTB_of {i : Nat} {w : Cond} (h : lw_tbl[i]? = some w) (hg : goodWord w = true) : w ∈ xTB := List.mem_filter.mpr ⟨List.mem_of_getElem? h, hg⟩
theorem xTB_good : ∀ w ∈ xTB, w ∈ xTB ∧ ((w.onTables && w.keeps) = true ∨ ∃ ty, w = .arrayClass ty) := fun w h => ⟨h, good_of_word (List.mem_filter.mp h).2⟩
theorem xTB_in : ∀ w ∈ xTB, w ∈ lw_tbl := fun _ h => (List.mem_filter.mp h).1
theorem inAL : ∀ w ∈ u_ws RAL TAL 3, w ∈ xTB := by
  intro w hw
  obtain ⟨k, hk, rfl⟩ := List.mem_map.mp hw
  have hk := List.mem_range.mp hk
  have h : ∀ k, k < 3 → lw_tbl[([77, 73, 75] : List Nat).getD k 0]? = some (u_lay RAL TAL k) ∧ goodWord (u_lay RAL TAL k) = true := by decide +kernel
  exact xTB_of (h k hk).1 (h k hk).2
theorem inAC : ∀ w ∈ u_ws RAC TAC 4, w ∈ xTB := by
  intro w hw
  obtain ⟨k, hk, rfl⟩ := List.mem_map.mp hw
  have hk := List.mem_range.mp hk
  have h : ∀ k, k < 4 → lw_tbl[([119, 121, 123, 125] : List Nat).getD k 0]? = some (u_lay RAC TAC k) ∧ goodWord (u_lay RAC TAC k) = true := by decide +kernel
  exact xTB_of (h k hk).1 (h k hk).2
theorem inBA : ∀ w ∈ u_ws RBA TBA 6, w ∈ xTB := by
  intro w hw
  obtain ⟨k, hk, rfl⟩ := List.mem_map.mp hw
  have hk := List.mem_range.mp hk
  have h : ∀ k, k < 6 → lw_tbl[([224, 226, 228, 230, 232, 234] : List Nat).getD k 0]? = some (u_lay RBA TBA k) ∧ goodWord (u_lay RBA TBA k) = true := by decide +kernel
  exact xTB_of (h k hk).1 (h k hk).2
theorem inRW : ∀ w ∈ u_ws RRW TRW 2, w ∈ xTB := by
  intro w hw
  obtain ⟨k, hk, rfl⟩ := List.mem_map.mp hw
  have hk := List.mem_range.mp hk
  have h : ∀ k, k < 2 → lw_tbl[([288, 290] : List Nat).getD k 0]? = some (u_lay RRW TRW k) ∧ goodWord (u_lay RRW TRW k) = true := by decide +kernel
  exact xTB_of (h k hk).1 (h k hk).2
theorem inPL : ∀ w ∈ u_ws RPL TPL 4, w ∈ xTB := by
  intro w hw
  obtain ⟨k, hk, rfl⟩ := List.mem_map.mp hw
  have hk := List.mem_range.mp hk
  have h : ∀ k, k < 4 → lw_tbl[([84, 86, 88, 90] : List Nat).getD k 0]? = some (u_lay RPL TPL k) ∧ goodWord (u_lay RPL TPL k) = true := by decide +kernel
  exact xTB_of (h k hk).1 (h k hk).2
theorem inMO : ∀ w ∈ u_ws RMO TMO 17, w ∈ xTB := by
  intro w hw
  obtain ⟨k, hk, rfl⟩ := List.mem_map.mp hw
  have hk := List.mem_range.mp hk
  have h : ∀ k, k < 17 → lw_tbl[([512, 514, 516, 518, 520, 522, 524, 526, 528, 530, 532, 534, 536, 538, 540, 542, 544] : List Nat).getD k 0]? = some (u_lay RMO TMO k) ∧ goodWord (u_lay RMO TMO k) = true := by decide +kernel
  exact xTB_of (h k hk).1 (h k hk).2
theorem xG_V {own : String} {idx : Nat} {C : String} {y : MethodName} {c : ByteArray} {n : Nat} {r : Option FieldType} (h1 : Cond.methodLink own idx y ∈ xTB) (h2 : Cond.instanceMethod y ∈ xTB) (h3 : Cond.selects C y y ∈ xTB) (h4 : Cond.initialized C ∈ xTB) (h5 : Cond.code y c n r ∈ xTB) : GoodIn xTB (wsV own idx C y (Cond.code y c n r :: xTB)) := by
  intro w hw
  refine xTB_good w ?_
  rcases List.mem_append.mp hw with h | h
  · simp only [List.mem_cons, List.not_mem_nil, or_false] at h
    rcases h with rfl | rfl | rfl | rfl <;> assumption
  · rcases List.mem_cons.mp h with rfl | h <;> assumption
theorem xG_S {own : String} {idx : Nat} {y : MethodName} {c : ByteArray} {n : Nat} {r : Option FieldType} (h1 : Cond.methodLink own idx y ∈ xTB) (h2 : Cond.static y ∈ xTB) (h4 : Cond.initialized y.cls ∈ xTB) (h5 : Cond.code y c n r ∈ xTB) : GoodIn xTB (va_wsS own idx y (Cond.code y c n r :: xTB)) := by
  intro w hw
  refine xTB_good w ?_
  rcases List.mem_append.mp hw with h | h
  · simp only [List.mem_cons, List.not_mem_nil, or_false] at h
    rcases h with rfl | rfl | rfl <;> assumption
  · rcases List.mem_cons.mp h with rfl | h <;> assumption
theorem xG_I {y : MethodName} {c : ByteArray} {n : Nat} {r : Option FieldType} (h5 : Cond.code y c n r ∈ xTB) : GoodIn xTB (Cond.code y c n r :: xTB) := by
  intro w hw
  refine xTB_good w ?_
  rcases List.mem_cons.mp hw with rfl | h <;> assumption
end
section
/-! The words, by their places in the table -/
theorem mw_0 : (Cond.methodLink RAN 1 objectInit : Cond) ∈ xTB := xTB_of (i := 65) (by decide +kernel) (by decide +kernel)
theorem mw_1 : (Cond.instanceMethod objectInit : Cond) ∈ xTB := xTB_of (i := 52) (by decide +kernel) (by decide +kernel)
theorem mw_2 : (Cond.code objectInit ⟨#[0xb1]⟩ 1 none : Cond) ∈ xTB := xTB_of (i := 53) (by decide +kernel) (by decide +kernel)
theorem mw_3 : (Cond.fieldLink RAB 7 "java/util/AbstractList" "modCount" "I" : Cond) ∈ xTB := xTB_of (i := 70) (by decide +kernel) (by decide +kernel)
theorem mw_4 : (Cond.methodLink RAB 1 yAN_init : Cond) ∈ xTB := xTB_of (i := 62) (by decide +kernel) (by decide +kernel)
theorem mw_5 : (Cond.code yAN_init cAN_init 1 none : Cond) ∈ xTB := xTB_of (i := 64) (by decide +kernel) (by decide +kernel)
theorem mw_6 : (Cond.initialized RAN : Cond) ∈ xTB := xTB_of (i := 26) (by decide +kernel) (by decide +kernel)
theorem mw_7 : (Cond.instanceMethod yAN_init : Cond) ∈ xTB := xTB_of (i := 63) (by decide +kernel) (by decide +kernel)
theorem mw_8 : (Cond.fieldLink RAL 9 "java/util/ArrayList" "elementData" "[Ljava/lang/Object;" : Cond) ∈ xTB := xTB_of (i := 68) (by decide +kernel) (by decide +kernel)
theorem mw_9 : (Cond.fieldLink RAL 39 "java/util/ArrayList" "DEFAULTCAPACITY_EMPTY_ELEMENTDATA" "[Ljava/lang/Object;" : Cond) ∈ xTB := xTB_of (i := 66) (by decide +kernel) (by decide +kernel)
theorem mw_10 : (Cond.methodLink RAL 1 yAB_init : Cond) ∈ xTB := xTB_of (i := 59) (by decide +kernel) (by decide +kernel)
theorem mw_11 : (Cond.code yAB_init cAB_init 1 none : Cond) ∈ xTB := xTB_of (i := 61) (by decide +kernel) (by decide +kernel)
theorem mw_12 : (Cond.initialized RAB : Cond) ∈ xTB := xTB_of (i := 27) (by decide +kernel) (by decide +kernel)
theorem mw_13 : (Cond.instanceMethod yAB_init : Cond) ∈ xTB := xTB_of (i := 60) (by decide +kernel) (by decide +kernel)
theorem mw_14 : (Cond.fieldLink RPL 23 "PostLedger" "postedRows" "I" : Cond) ∈ xTB := xTB_of (i := 83) (by decide +kernel) (by decide +kernel)
theorem mw_15 : (Cond.fieldLink RPL 19 "PostLedger" "firstOpenDay" "I" : Cond) ∈ xTB := xTB_of (i := 82) (by decide +kernel) (by decide +kernel)
theorem mw_16 : (Cond.fieldLink RPL 16 "PostLedger" "batches" "Ljava/util/ArrayList;" : Cond) ∈ xTB := xTB_of (i := 81) (by decide +kernel) (by decide +kernel)
theorem mw_17 : (Cond.methodLink RPL 9 yAL_init : Cond) ∈ xTB := xTB_of (i := 56) (by decide +kernel) (by decide +kernel)
theorem mw_18 : (Cond.code yAL_init cAL_init 1 none : Cond) ∈ xTB := xTB_of (i := 58) (by decide +kernel) (by decide +kernel)
theorem mw_19 : (Cond.initialized RAL : Cond) ∈ xTB := xTB_of (i := 28) (by decide +kernel) (by decide +kernel)
theorem mw_20 : (Cond.instanceMethod yAL_init : Cond) ∈ xTB := xTB_of (i := 57) (by decide +kernel) (by decide +kernel)
theorem mw_21 : (Cond.classLink RPL 7 RAL : Cond) ∈ xTB := xTB_of (i := 54) (by decide +kernel) (by decide +kernel)
theorem mw_22 : (Cond.instantiable RAL 3 : Cond) ∈ xTB := xTB_of (i := 55) (by decide +kernel) (by decide +kernel)
theorem mw_23 : (Cond.fieldLink RPL 10 "PostLedger" "accounts" "Ljava/util/ArrayList;" : Cond) ∈ xTB := xTB_of (i := 80) (by decide +kernel) (by decide +kernel)
theorem mw_24 : (Cond.methodLink RPL 1 objectInit : Cond) ∈ xTB := xTB_of (i := 51) (by decide +kernel) (by decide +kernel)
theorem mw_25 : (Cond.fieldLink RAL 48 "java/util/ArrayList" "size" "I" : Cond) ∈ xTB := xTB_of (i := 69) (by decide +kernel) (by decide +kernel)
theorem mw_26 : (Cond.fieldLink RAC 13 "PostLedger$Account" "kind" "I" : Cond) ∈ xTB := xTB_of (i := 113) (by decide +kernel) (by decide +kernel)
theorem mw_27 : (Cond.fieldLink RAC 7 "PostLedger$Account" "office" "I" : Cond) ∈ xTB := xTB_of (i := 112) (by decide +kernel) (by decide +kernel)
theorem mw_28 : (Cond.methodLink RAC 1 objectInit : Cond) ∈ xTB := xTB_of (i := 111) (by decide +kernel) (by decide +kernel)
theorem mw_29 : (Cond.constant RAS 200 2147483639 : Cond) ∈ xTB := xTB_of (i := 150) (by decide +kernel) (by decide +kernel)
theorem mw_30 : (Cond.methodLink RAS 201 yAS_hugeLength : Cond) ∈ xTB := xTB_of (i := 151) (by decide +kernel) (by decide +kernel)
theorem mw_31 : (Cond.static yAS_hugeLength : Cond) ∈ xTB := xTB_of (i := 152) (by decide +kernel) (by decide +kernel)
theorem mw_32 : (Cond.initialized RAS : Cond) ∈ xTB := xTB_of (i := 31) (by decide +kernel) (by decide +kernel)
theorem mw_33 : (Cond.code yAS_hugeLength cAS_hugeLength 3 (some (.int)) : Cond) ∈ xTB := xTB_of (i := 153) (by decide +kernel) (by decide +kernel)
theorem mw_34 : (Cond.code Lib.Math.max.name Lib.Math.max.code 2 (some .int) : Cond) ∈ xTB := xTB_of (i := 149) (by decide +kernel) (by decide +kernel)
theorem mw_35 : (Cond.methodLink RAS 194 yMA_max : Cond) ∈ xTB := xTB_of (i := 147) (by decide +kernel) (by decide +kernel)
theorem mw_36 : (Cond.static yMA_max : Cond) ∈ xTB := xTB_of (i := 148) (by decide +kernel) (by decide +kernel)
theorem mw_37 : (Cond.initialized RMA : Cond) ∈ xTB := xTB_of (i := 32) (by decide +kernel) (by decide +kernel)
theorem mw_38 : (Cond.methodLink RAR 150 ⟨"java/lang/System", "arraycopy", "(Ljava/lang/Object;ILjava/lang/Object;II)V"⟩ : Cond) ∈ xTB := xTB_of (i := 179) (by decide +kernel) (by decide +kernel)
theorem mw_39 : (Cond.native ⟨"java/lang/System", "arraycopy", "(Ljava/lang/Object;ILjava/lang/Object;II)V"⟩ : Cond) ∈ xTB := xTB_of (i := 181) (by decide +kernel) (by decide +kernel)
theorem mw_40 : (Cond.static ⟨"java/lang/System", "arraycopy", "(Ljava/lang/Object;ILjava/lang/Object;II)V"⟩ : Cond) ∈ xTB := xTB_of (i := 180) (by decide +kernel) (by decide +kernel)
theorem mw_41 : (Cond.initialized "java/lang/System" : Cond) ∈ xTB := xTB_of (i := 34) (by decide +kernel) (by decide +kernel)
theorem mw_42 : (Cond.code Lib.Math.min.name Lib.Math.min.code 2 (some .int) : Cond) ∈ xTB := xTB_of (i := 178) (by decide +kernel) (by decide +kernel)
theorem mw_43 : (Cond.methodLink RAR 304 yMA_min : Cond) ∈ xTB := xTB_of (i := 176) (by decide +kernel) (by decide +kernel)
theorem mw_44 : (Cond.static yMA_min : Cond) ∈ xTB := xTB_of (i := 177) (by decide +kernel) (by decide +kernel)
theorem mw_45 : (Cond.classLink RAR 2 ROJ : Cond) ∈ xTB := xTB_of (i := 175) (by decide +kernel) (by decide +kernel)
theorem mw_46 : (Cond.classLink RAR 110 "[Ljava/lang/Object;" : Cond) ∈ xTB := xTB_of (i := 173) (by decide +kernel) (by decide +kernel)
theorem mw_47 : (Cond.methodLink RAR 300 yAR_copyOf2 : Cond) ∈ xTB := xTB_of (i := 170) (by decide +kernel) (by decide +kernel)
theorem mw_48 : (Cond.static yAR_copyOf2 : Cond) ∈ xTB := xTB_of (i := 171) (by decide +kernel) (by decide +kernel)
theorem mw_49 : (Cond.initialized RAR : Cond) ∈ xTB := xTB_of (i := 33) (by decide +kernel) (by decide +kernel)
theorem mw_50 : (Cond.code yAR_copyOf2 cAR_copyOf2 4 (some (.array (.object "java/lang/Object"))) : Cond) ∈ xTB := xTB_of (i := 172) (by decide +kernel) (by decide +kernel)
theorem mw_51 : (Cond.methodLink RAR 86 ⟨"java/lang/Object", "getClass", "()Ljava/lang/Class;"⟩ : Cond) ∈ xTB := xTB_of (i := 157) (by decide +kernel) (by decide +kernel)
theorem mw_52 : (Cond.selects "[Ljava/lang/Object;" ⟨"java/lang/Object", "getClass", "()Ljava/lang/Class;"⟩ ⟨"java/lang/Object", "getClass", "()Ljava/lang/Class;"⟩ : Cond) ∈ xTB := xTB_of (i := 669) (by decide +kernel) (by decide +kernel)
theorem mw_53 : (Cond.instanceMethod ⟨"java/lang/Object", "getClass", "()Ljava/lang/Class;"⟩ : Cond) ∈ xTB := xTB_of (i := 158) (by decide +kernel) (by decide +kernel)
theorem mw_54 : (Cond.native ⟨"java/lang/Object", "getClass", "()Ljava/lang/Class;"⟩ : Cond) ∈ xTB := xTB_of (i := 169) (by decide +kernel) (by decide +kernel)
theorem mw_55 : (Cond.methodLink RAL 66 yAR_copyOf : Cond) ∈ xTB := xTB_of (i := 154) (by decide +kernel) (by decide +kernel)
theorem mw_56 : (Cond.static yAR_copyOf : Cond) ∈ xTB := xTB_of (i := 155) (by decide +kernel) (by decide +kernel)
theorem mw_57 : (Cond.code yAR_copyOf cAR_copyOf 2 (some (.array (.object "java/lang/Object"))) : Cond) ∈ xTB := xTB_of (i := 156) (by decide +kernel) (by decide +kernel)
theorem mw_58 : (Cond.methodLink RAL 73 yAS_newLength : Cond) ∈ xTB := xTB_of (i := 144) (by decide +kernel) (by decide +kernel)
theorem mw_59 : (Cond.static yAS_newLength : Cond) ∈ xTB := xTB_of (i := 145) (by decide +kernel) (by decide +kernel)
theorem mw_60 : (Cond.code yAS_newLength cAS_newLength 4 (some (.int)) : Cond) ∈ xTB := xTB_of (i := 146) (by decide +kernel) (by decide +kernel)
theorem mw_61 : (Cond.classLink RAL 7 ROJ : Cond) ∈ xTB := xTB_of (i := 183) (by decide +kernel) (by decide +kernel)
theorem mw_62 : (Cond.methodLink RAL 79 yMA_max : Cond) ∈ xTB := xTB_of (i := 182) (by decide +kernel) (by decide +kernel)
theorem mw_63 : (Cond.methodLink RAL 69 yAL_grow2 : Cond) ∈ xTB := xTB_of (i := 140) (by decide +kernel) (by decide +kernel)
theorem mw_64 : (Cond.instanceMethod yAL_grow2 : Cond) ∈ xTB := xTB_of (i := 142) (by decide +kernel) (by decide +kernel)
theorem mw_65 : (Cond.selects RAL yAL_grow2 yAL_grow2 : Cond) ∈ xTB := xTB_of (i := 2) (by decide +kernel) (by decide +kernel)
theorem mw_66 : (Cond.code yAL_grow2 cAL_grow2 4 (some (.array (.object "java/lang/Object"))) : Cond) ∈ xTB := xTB_of (i := 143) (by decide +kernel) (by decide +kernel)
theorem mw_67 : (Cond.methodLink RAL 129 yAL_grow : Cond) ∈ xTB := xTB_of (i := 136) (by decide +kernel) (by decide +kernel)
theorem mw_68 : (Cond.instanceMethod yAL_grow : Cond) ∈ xTB := xTB_of (i := 138) (by decide +kernel) (by decide +kernel)
theorem mw_69 : (Cond.selects RAL yAL_grow yAL_grow : Cond) ∈ xTB := xTB_of (i := 1) (by decide +kernel) (by decide +kernel)
theorem mw_70 : (Cond.code yAL_grow cAL_grow 1 (some (.array (.object "java/lang/Object"))) : Cond) ∈ xTB := xTB_of (i := 139) (by decide +kernel) (by decide +kernel)
theorem mw_71 : (Cond.methodLink RAL 131 yAL_add2 : Cond) ∈ xTB := xTB_of (i := 132) (by decide +kernel) (by decide +kernel)
theorem mw_72 : (Cond.instanceMethod yAL_add2 : Cond) ∈ xTB := xTB_of (i := 134) (by decide +kernel) (by decide +kernel)
theorem mw_73 : (Cond.selects RAL yAL_add2 yAL_add2 : Cond) ∈ xTB := xTB_of (i := 0) (by decide +kernel) (by decide +kernel)
theorem mw_74 : (Cond.code yAL_add2 cAL_add2 4 none : Cond) ∈ xTB := xTB_of (i := 135) (by decide +kernel) (by decide +kernel)
theorem mw_75 : (Cond.fieldLink RAL 63 "java/util/ArrayList" "modCount" "I" : Cond) ∈ xTB := xTB_of (i := 71) (by decide +kernel) (by decide +kernel)
theorem mw_76 : (Cond.sameField "java/util/ArrayList" "java/util/AbstractList" "modCount" "I" : Cond) ∈ xTB := xTB_of (i := 72) (by decide +kernel) (by decide +kernel)
theorem mw_77 : (Cond.constant RPL 30 (-2000000002) : Cond) ∈ xTB := xTB_of (i := 100) (by decide +kernel) (by decide +kernel)
theorem mw_78 : (Cond.methodLink RPL 31 yAL_size : Cond) ∈ xTB := xTB_of (i := 101) (by decide +kernel) (by decide +kernel)
theorem mw_79 : (Cond.instanceMethod yAL_size : Cond) ∈ xTB := xTB_of (i := 102) (by decide +kernel) (by decide +kernel)
theorem mw_80 : (Cond.selects RAL yAL_size yAL_size : Cond) ∈ xTB := xTB_of (i := 103) (by decide +kernel) (by decide +kernel)
theorem mw_81 : (Cond.code yAL_size cAL_size 1 (some (.int)) : Cond) ∈ xTB := xTB_of (i := 104) (by decide +kernel) (by decide +kernel)
theorem mw_82 : (Cond.methodLink RPL 41 yAL_add : Cond) ∈ xTB := xTB_of (i := 128) (by decide +kernel) (by decide +kernel)
theorem mw_83 : (Cond.instanceMethod yAL_add : Cond) ∈ xTB := xTB_of (i := 129) (by decide +kernel) (by decide +kernel)
theorem mw_84 : (Cond.selects RAL yAL_add yAL_add : Cond) ∈ xTB := xTB_of (i := 130) (by decide +kernel) (by decide +kernel)
theorem mw_85 : (Cond.code yAL_add cAL_add 2 (some (.boolean)) : Cond) ∈ xTB := xTB_of (i := 131) (by decide +kernel) (by decide +kernel)
theorem mw_86 : (Cond.methodLink RPL 38 yAC_init : Cond) ∈ xTB := xTB_of (i := 108) (by decide +kernel) (by decide +kernel)
theorem mw_87 : (Cond.code yAC_init cAC_init 3 none : Cond) ∈ xTB := xTB_of (i := 110) (by decide +kernel) (by decide +kernel)
theorem mw_88 : (Cond.initialized RAC : Cond) ∈ xTB := xTB_of (i := 30) (by decide +kernel) (by decide +kernel)
theorem mw_89 : (Cond.instanceMethod yAC_init : Cond) ∈ xTB := xTB_of (i := 109) (by decide +kernel) (by decide +kernel)
theorem mw_90 : (Cond.classLink RPL 36 RAC : Cond) ∈ xTB := xTB_of (i := 106) (by decide +kernel) (by decide +kernel)
theorem mw_91 : (Cond.instantiable RAC 4 : Cond) ∈ xTB := xTB_of (i := 107) (by decide +kernel) (by decide +kernel)
theorem mw_92 : (Cond.constant RPL 35 (-2000000004) : Cond) ∈ xTB := xTB_of (i := 105) (by decide +kernel) (by decide +kernel)
theorem mw_93 : (Cond.methodLink RPL 26 yPL_isOffice : Cond) ∈ xTB := xTB_of (i := 97) (by decide +kernel) (by decide +kernel)
theorem mw_94 : (Cond.static yPL_isOffice : Cond) ∈ xTB := xTB_of (i := 98) (by decide +kernel) (by decide +kernel)
theorem mw_95 : (Cond.initialized RPL : Cond) ∈ xTB := xTB_of (i := 25) (by decide +kernel) (by decide +kernel)
theorem mw_96 : (Cond.code yPL_isOffice cPL_isOffice 1 (some (.boolean)) : Cond) ∈ xTB := xTB_of (i := 99) (by decide +kernel) (by decide +kernel)
theorem mw_97 : (Cond.methodLink RPL 80 yPL_isWithin : Cond) ∈ xTB := xTB_of (i := 192) (by decide +kernel) (by decide +kernel)
theorem mw_98 : (Cond.static yPL_isWithin : Cond) ∈ xTB := xTB_of (i := 193) (by decide +kernel) (by decide +kernel)
theorem mw_99 : (Cond.code yPL_isWithin cPL_isWithin 6 (some (.boolean)) : Cond) ∈ xTB := xTB_of (i := 194) (by decide +kernel) (by decide +kernel)
theorem mw_100 : (Cond.constantLong RPL 180 20000 : Cond) ∈ xTB := xTB_of (i := 191) (by decide +kernel) (by decide +kernel)
theorem mw_101 : (Cond.fieldLink RBA 28 "PostLedger$Batch" "standing" "LPostLedger$Standing;" : Cond) ∈ xTB := xTB_of (i := 217) (by decide +kernel) (by decide +kernel)
theorem mw_102 : (Cond.fieldLink RBA 22 "PostLedger$Standing" "OPEN" "LPostLedger$Standing;" : Cond) ∈ xTB := xTB_of (i := 212) (by decide +kernel) (by decide +kernel)
theorem mw_103 : (Cond.fieldLink RBA 18 "PostLedger$Batch" "rows" "Ljava/util/ArrayList;" : Cond) ∈ xTB := xTB_of (i := 216) (by decide +kernel) (by decide +kernel)
theorem mw_104 : (Cond.methodLink RBA 17 yAL_init : Cond) ∈ xTB := xTB_of (i := 211) (by decide +kernel) (by decide +kernel)
theorem mw_105 : (Cond.classLink RBA 15 RAL : Cond) ∈ xTB := xTB_of (i := 210) (by decide +kernel) (by decide +kernel)
theorem mw_106 : (Cond.fieldLink RBA 9 "PostLedger$Batch" "day" "I" : Cond) ∈ xTB := xTB_of (i := 214) (by decide +kernel) (by decide +kernel)
theorem mw_107 : (Cond.methodLink RBA 3 objectInit : Cond) ∈ xTB := xTB_of (i := 209) (by decide +kernel) (by decide +kernel)
theorem mw_108 : (Cond.methodLink RPL 59 yBA_init : Cond) ∈ xTB := xTB_of (i := 206) (by decide +kernel) (by decide +kernel)
theorem mw_109 : (Cond.code yBA_init cBA_init 2 none : Cond) ∈ xTB := xTB_of (i := 208) (by decide +kernel) (by decide +kernel)
theorem mw_110 : (Cond.initialized RBA : Cond) ∈ xTB := xTB_of (i := 35) (by decide +kernel) (by decide +kernel)
theorem mw_111 : (Cond.instanceMethod yBA_init : Cond) ∈ xTB := xTB_of (i := 207) (by decide +kernel) (by decide +kernel)
theorem mw_112 : (Cond.classLink RPL 57 RBA : Cond) ∈ xTB := xTB_of (i := 204) (by decide +kernel) (by decide +kernel)
theorem mw_113 : (Cond.instantiable RBA 6 : Cond) ∈ xTB := xTB_of (i := 205) (by decide +kernel) (by decide +kernel)
theorem mw_114 : (Cond.methodLink RPL 53 yPL_hasRoomForBatch : Cond) ∈ xTB := xTB_of (i := 200) (by decide +kernel) (by decide +kernel)
theorem mw_115 : (Cond.instanceMethod yPL_hasRoomForBatch : Cond) ∈ xTB := xTB_of (i := 202) (by decide +kernel) (by decide +kernel)
theorem mw_116 : (Cond.selects RPL yPL_hasRoomForBatch yPL_hasRoomForBatch : Cond) ∈ xTB := xTB_of (i := 4) (by decide +kernel) (by decide +kernel)
theorem mw_117 : (Cond.code yPL_hasRoomForBatch cPL_hasRoomForBatch 1 (some (.boolean)) : Cond) ∈ xTB := xTB_of (i := 203) (by decide +kernel) (by decide +kernel)
theorem mw_118 : (Cond.constant RPL 52 (-2000000003) : Cond) ∈ xTB := xTB_of (i := 199) (by decide +kernel) (by decide +kernel)
theorem mw_119 : (Cond.methodLink RPL 49 yPL_isClosed : Cond) ∈ xTB := xTB_of (i := 195) (by decide +kernel) (by decide +kernel)
theorem mw_120 : (Cond.instanceMethod yPL_isClosed : Cond) ∈ xTB := xTB_of (i := 197) (by decide +kernel) (by decide +kernel)
theorem mw_121 : (Cond.selects RPL yPL_isClosed yPL_isClosed : Cond) ∈ xTB := xTB_of (i := 3) (by decide +kernel) (by decide +kernel)
theorem mw_122 : (Cond.code yPL_isClosed cPL_isClosed 3 (some (.boolean)) : Cond) ∈ xTB := xTB_of (i := 198) (by decide +kernel) (by decide +kernel)
theorem mw_123 : (Cond.methodLink RPL 45 yPL_isDay : Cond) ∈ xTB := xTB_of (i := 188) (by decide +kernel) (by decide +kernel)
theorem mw_124 : (Cond.static yPL_isDay : Cond) ∈ xTB := xTB_of (i := 189) (by decide +kernel) (by decide +kernel)
theorem mw_125 : (Cond.code yPL_isDay cPL_isDay 2 (some (.boolean)) : Cond) ∈ xTB := xTB_of (i := 190) (by decide +kernel) (by decide +kernel)
theorem mw_126 : (Cond.methodLink ROB 105 yPC_checkIndex : Cond) ∈ xTB := xTB_of (i := 252) (by decide +kernel) (by decide +kernel)
theorem mw_127 : (Cond.static yPC_checkIndex : Cond) ∈ xTB := xTB_of (i := 253) (by decide +kernel) (by decide +kernel)
theorem mw_128 : (Cond.initialized RPC : Cond) ∈ xTB := xTB_of (i := 39) (by decide +kernel) (by decide +kernel)
theorem mw_129 : (Cond.code yPC_checkIndex cPC_checkIndex 3 (some (.int)) : Cond) ∈ xTB := xTB_of (i := 254) (by decide +kernel) (by decide +kernel)
theorem mw_130 : (Cond.methodLink RAL 123 yAL_elementData : Cond) ∈ xTB := xTB_of (i := 255) (by decide +kernel) (by decide +kernel)
theorem mw_131 : (Cond.instanceMethod yAL_elementData : Cond) ∈ xTB := xTB_of (i := 256) (by decide +kernel) (by decide +kernel)
theorem mw_132 : (Cond.selects RAL yAL_elementData yAL_elementData : Cond) ∈ xTB := xTB_of (i := 257) (by decide +kernel) (by decide +kernel)
theorem mw_133 : (Cond.code yAL_elementData cAL_elementData 2 (some (.object "java/lang/Object")) : Cond) ∈ xTB := xTB_of (i := 258) (by decide +kernel) (by decide +kernel)
theorem mw_134 : (Cond.methodLink RAL 118 yOB_checkIndex : Cond) ∈ xTB := xTB_of (i := 249) (by decide +kernel) (by decide +kernel)
theorem mw_135 : (Cond.static yOB_checkIndex : Cond) ∈ xTB := xTB_of (i := 250) (by decide +kernel) (by decide +kernel)
theorem mw_136 : (Cond.initialized ROB : Cond) ∈ xTB := xTB_of (i := 38) (by decide +kernel) (by decide +kernel)
theorem mw_137 : (Cond.code yOB_checkIndex cOB_checkIndex 2 (some (.int)) : Cond) ∈ xTB := xTB_of (i := 251) (by decide +kernel) (by decide +kernel)
theorem mw_138 : (Cond.methodLink RPL 127 yAL_get : Cond) ∈ xTB := xTB_of (i := 245) (by decide +kernel) (by decide +kernel)
theorem mw_139 : (Cond.instanceMethod yAL_get : Cond) ∈ xTB := xTB_of (i := 246) (by decide +kernel) (by decide +kernel)
theorem mw_140 : (Cond.selects RAL yAL_get yAL_get : Cond) ∈ xTB := xTB_of (i := 247) (by decide +kernel) (by decide +kernel)
theorem mw_141 : (Cond.code yAL_get cAL_get 2 (some (.object "java/lang/Object")) : Cond) ∈ xTB := xTB_of (i := 248) (by decide +kernel) (by decide +kernel)
theorem mw_142 : (Cond.methodLink RBA 31 yAL_size : Cond) ∈ xTB := xTB_of (i := 271) (by decide +kernel) (by decide +kernel)
theorem mw_143 : (Cond.fieldLink RRW 15 "PostLedger$Row" "cents" "J" : Cond) ∈ xTB := xTB_of (i := 286) (by decide +kernel) (by decide +kernel)
theorem mw_144 : (Cond.fieldLink RRW 9 "PostLedger$Row" "account" "LPostLedger$Account;" : Cond) ∈ xTB := xTB_of (i := 284) (by decide +kernel) (by decide +kernel)
theorem mw_145 : (Cond.methodLink RRW 3 objectInit : Cond) ∈ xTB := xTB_of (i := 283) (by decide +kernel) (by decide +kernel)
theorem mw_146 : (Cond.methodLink RBA 43 yAL_add : Cond) ∈ xTB := xTB_of (i := 293) (by decide +kernel) (by decide +kernel)
theorem mw_147 : (Cond.methodLink RBA 40 yRW_init : Cond) ∈ xTB := xTB_of (i := 280) (by decide +kernel) (by decide +kernel)
theorem mw_148 : (Cond.code yRW_init cRW_init 4 none : Cond) ∈ xTB := xTB_of (i := 282) (by decide +kernel) (by decide +kernel)
theorem mw_149 : (Cond.initialized RRW : Cond) ∈ xTB := xTB_of (i := 40) (by decide +kernel) (by decide +kernel)
theorem mw_150 : (Cond.instanceMethod yRW_init : Cond) ∈ xTB := xTB_of (i := 281) (by decide +kernel) (by decide +kernel)
theorem mw_151 : (Cond.classLink RBA 38 RRW : Cond) ∈ xTB := xTB_of (i := 278) (by decide +kernel) (by decide +kernel)
theorem mw_152 : (Cond.instantiable RRW 2 : Cond) ∈ xTB := xTB_of (i := 279) (by decide +kernel) (by decide +kernel)
theorem mw_153 : (Cond.methodLink RPL 84 yBA_addRow : Cond) ∈ xTB := xTB_of (i := 274) (by decide +kernel) (by decide +kernel)
theorem mw_154 : (Cond.instanceMethod yBA_addRow : Cond) ∈ xTB := xTB_of (i := 275) (by decide +kernel) (by decide +kernel)
theorem mw_155 : (Cond.selects RBA yBA_addRow yBA_addRow : Cond) ∈ xTB := xTB_of (i := 276) (by decide +kernel) (by decide +kernel)
theorem mw_156 : (Cond.code yBA_addRow cBA_addRow 4 none : Cond) ∈ xTB := xTB_of (i := 277) (by decide +kernel) (by decide +kernel)
theorem mw_157 : (Cond.constantLong RPL 78 100000000 : Cond) ∈ xTB := xTB_of (i := 273) (by decide +kernel) (by decide +kernel)
theorem mw_158 : (Cond.constantLong RPL 76 (-100000000) : Cond) ∈ xTB := xTB_of (i := 272) (by decide +kernel) (by decide +kernel)
theorem mw_159 : (Cond.methodLink RPL 73 yBA_isFull : Cond) ∈ xTB := xTB_of (i := 267) (by decide +kernel) (by decide +kernel)
theorem mw_160 : (Cond.instanceMethod yBA_isFull : Cond) ∈ xTB := xTB_of (i := 268) (by decide +kernel) (by decide +kernel)
theorem mw_161 : (Cond.selects RBA yBA_isFull yBA_isFull : Cond) ∈ xTB := xTB_of (i := 269) (by decide +kernel) (by decide +kernel)
theorem mw_162 : (Cond.code yBA_isFull cBA_isFull 1 (some (.boolean)) : Cond) ∈ xTB := xTB_of (i := 270) (by decide +kernel) (by decide +kernel)
theorem mw_163 : (Cond.methodLink RPL 70 yBA_isOpen : Cond) ∈ xTB := xTB_of (i := 263) (by decide +kernel) (by decide +kernel)
theorem mw_164 : (Cond.instanceMethod yBA_isOpen : Cond) ∈ xTB := xTB_of (i := 264) (by decide +kernel) (by decide +kernel)
theorem mw_165 : (Cond.selects RBA yBA_isOpen yBA_isOpen : Cond) ∈ xTB := xTB_of (i := 265) (by decide +kernel) (by decide +kernel)
theorem mw_166 : (Cond.code yBA_isOpen cBA_isOpen 1 (some (.boolean)) : Cond) ∈ xTB := xTB_of (i := 266) (by decide +kernel) (by decide +kernel)
theorem mw_167 : (Cond.methodLink RPL 66 yPL_findAccount : Cond) ∈ xTB := xTB_of (i := 259) (by decide +kernel) (by decide +kernel)
theorem mw_168 : (Cond.instanceMethod yPL_findAccount : Cond) ∈ xTB := xTB_of (i := 261) (by decide +kernel) (by decide +kernel)
theorem mw_169 : (Cond.selects RPL yPL_findAccount yPL_findAccount : Cond) ∈ xTB := xTB_of (i := 6) (by decide +kernel) (by decide +kernel)
theorem mw_170 : (Cond.code yPL_findAccount cPL_findAccount 2 (some (.object "PostLedger$Account")) : Cond) ∈ xTB := xTB_of (i := 262) (by decide +kernel) (by decide +kernel)
theorem mw_171 : (Cond.methodLink RPL 62 yPL_findBatch : Cond) ∈ xTB := xTB_of (i := 241) (by decide +kernel) (by decide +kernel)
theorem mw_172 : (Cond.instanceMethod yPL_findBatch : Cond) ∈ xTB := xTB_of (i := 243) (by decide +kernel) (by decide +kernel)
theorem mw_173 : (Cond.selects RPL yPL_findBatch yPL_findBatch : Cond) ∈ xTB := xTB_of (i := 5) (by decide +kernel) (by decide +kernel)
theorem mw_174 : (Cond.code yPL_findBatch cPL_findBatch 2 (some (.object "PostLedger$Batch")) : Cond) ∈ xTB := xTB_of (i := 244) (by decide +kernel) (by decide +kernel)
theorem mw_175 : (Cond.fieldLink RBA 55 "PostLedger$Row" "cents" "J" : Cond) ∈ xTB := xTB_of (i := 287) (by decide +kernel) (by decide +kernel)
theorem mw_176 : (Cond.fieldLink RBA 51 "PostLedger$Row" "account" "LPostLedger$Account;" : Cond) ∈ xTB := xTB_of (i := 285) (by decide +kernel) (by decide +kernel)
theorem mw_177 : (Cond.methodLink RBA 47 yAL_get : Cond) ∈ xTB := xTB_of (i := 309) (by decide +kernel) (by decide +kernel)
theorem mw_178 : (Cond.methodLink RPL 134 yBA_sumForAccount : Cond) ∈ xTB := xTB_of (i := 305) (by decide +kernel) (by decide +kernel)
theorem mw_179 : (Cond.instanceMethod yBA_sumForAccount : Cond) ∈ xTB := xTB_of (i := 306) (by decide +kernel) (by decide +kernel)
theorem mw_180 : (Cond.selects RBA yBA_sumForAccount yBA_sumForAccount : Cond) ∈ xTB := xTB_of (i := 307) (by decide +kernel) (by decide +kernel)
theorem mw_181 : (Cond.code yBA_sumForAccount cBA_sumForAccount 7 (some (.long)) : Cond) ∈ xTB := xTB_of (i := 308) (by decide +kernel) (by decide +kernel)
theorem mw_182 : (Cond.methodLink RPL 133 yBA_size : Cond) ∈ xTB := xTB_of (i := 301) (by decide +kernel) (by decide +kernel)
theorem mw_183 : (Cond.instanceMethod yBA_size : Cond) ∈ xTB := xTB_of (i := 302) (by decide +kernel) (by decide +kernel)
theorem mw_184 : (Cond.selects RBA yBA_size yBA_size : Cond) ∈ xTB := xTB_of (i := 303) (by decide +kernel) (by decide +kernel)
theorem mw_185 : (Cond.code yBA_size cBA_size 1 (some (.int)) : Cond) ∈ xTB := xTB_of (i := 304) (by decide +kernel) (by decide +kernel)
theorem mw_186 : (Cond.fieldLink RPL 89 "PostLedger$Batch" "day" "I" : Cond) ∈ xTB := xTB_of (i := 215) (by decide +kernel) (by decide +kernel)
theorem mw_187 : (Cond.fieldLink RPL 131 "PostLedger$Standing" "POSTED" "LPostLedger$Standing;" : Cond) ∈ xTB := xTB_of (i := 299) (by decide +kernel) (by decide +kernel)
theorem mw_188 : (Cond.fieldLink RPL 112 "PostLedger$Batch" "standing" "LPostLedger$Standing;" : Cond) ∈ xTB := xTB_of (i := 218) (by decide +kernel) (by decide +kernel)
theorem mw_189 : (Cond.constantLong RPL 125 (-2000000001) : Cond) ∈ xTB := xTB_of (i := 298) (by decide +kernel) (by decide +kernel)
theorem mw_190 : (Cond.fieldLink RBA 35 "PostLedger$Batch" "firstRowNumber" "I" : Cond) ∈ xTB := xTB_of (i := 222) (by decide +kernel) (by decide +kernel)
theorem mw_191 : (Cond.methodLink RPL 182 yBA_hasRowNumber : Cond) ∈ xTB := xTB_of (i := 322) (by decide +kernel) (by decide +kernel)
theorem mw_192 : (Cond.instanceMethod yBA_hasRowNumber : Cond) ∈ xTB := xTB_of (i := 323) (by decide +kernel) (by decide +kernel)
theorem mw_193 : (Cond.selects RBA yBA_hasRowNumber yBA_hasRowNumber : Cond) ∈ xTB := xTB_of (i := 324) (by decide +kernel) (by decide +kernel)
theorem mw_194 : (Cond.code yBA_hasRowNumber cBA_hasRowNumber 2 (some (.boolean)) : Cond) ∈ xTB := xTB_of (i := 325) (by decide +kernel) (by decide +kernel)
theorem mw_195 : (Cond.methodLink RBA 59 yBA_addRow : Cond) ∈ xTB := xTB_of (i := 331) (by decide +kernel) (by decide +kernel)
theorem mw_196 : (Cond.fieldLink RBA 62 "PostLedger$Account" "total" "J" : Cond) ∈ xTB := xTB_of (i := 117) (by decide +kernel) (by decide +kernel)
theorem mw_197 : (Cond.methodLink RPL 192 yBA_addToTotals : Cond) ∈ xTB := xTB_of (i := 336) (by decide +kernel) (by decide +kernel)
theorem mw_198 : (Cond.instanceMethod yBA_addToTotals : Cond) ∈ xTB := xTB_of (i := 337) (by decide +kernel) (by decide +kernel)
theorem mw_199 : (Cond.selects RBA yBA_addToTotals yBA_addToTotals : Cond) ∈ xTB := xTB_of (i := 338) (by decide +kernel) (by decide +kernel)
theorem mw_200 : (Cond.code yBA_addToTotals cBA_addToTotals 3 none : Cond) ∈ xTB := xTB_of (i := 339) (by decide +kernel) (by decide +kernel)
theorem mw_201 : (Cond.fieldLink RPL 189 "PostLedger$Batch" "firstRowNumber" "I" : Cond) ∈ xTB := xTB_of (i := 223) (by decide +kernel) (by decide +kernel)
theorem mw_202 : (Cond.methodLink RPL 102 yPL_enterIntoBooks : Cond) ∈ xTB := xTB_of (i := 332) (by decide +kernel) (by decide +kernel)
theorem mw_203 : (Cond.instanceMethod yPL_enterIntoBooks : Cond) ∈ xTB := xTB_of (i := 334) (by decide +kernel) (by decide +kernel)
theorem mw_204 : (Cond.selects RPL yPL_enterIntoBooks yPL_enterIntoBooks : Cond) ∈ xTB := xTB_of (i := 8) (by decide +kernel) (by decide +kernel)
theorem mw_205 : (Cond.code yPL_enterIntoBooks cPL_enterIntoBooks 2 none : Cond) ∈ xTB := xTB_of (i := 335) (by decide +kernel) (by decide +kernel)
theorem mw_206 : (Cond.fieldLink RPL 141 "PostLedger$Batch" "isPartOfReversal" "Z" : Cond) ∈ xTB := xTB_of (i := 221) (by decide +kernel) (by decide +kernel)
theorem mw_207 : (Cond.methodLink RPL 151 yBA_addRowsWithOtherSign : Cond) ∈ xTB := xTB_of (i := 327) (by decide +kernel) (by decide +kernel)
theorem mw_208 : (Cond.instanceMethod yBA_addRowsWithOtherSign : Cond) ∈ xTB := xTB_of (i := 328) (by decide +kernel) (by decide +kernel)
theorem mw_209 : (Cond.selects RBA yBA_addRowsWithOtherSign yBA_addRowsWithOtherSign : Cond) ∈ xTB := xTB_of (i := 329) (by decide +kernel) (by decide +kernel)
theorem mw_210 : (Cond.code yBA_addRowsWithOtherSign cBA_addRowsWithOtherSign 5 none : Cond) ∈ xTB := xTB_of (i := 330) (by decide +kernel) (by decide +kernel)
theorem mw_211 : (Cond.methodLink RPL 145 yMA_max : Cond) ∈ xTB := xTB_of (i := 326) (by decide +kernel) (by decide +kernel)
theorem mw_212 : (Cond.methodLink RPL 138 yPL_findBatchOfRow : Cond) ∈ xTB := xTB_of (i := 318) (by decide +kernel) (by decide +kernel)
theorem mw_213 : (Cond.instanceMethod yPL_findBatchOfRow : Cond) ∈ xTB := xTB_of (i := 320) (by decide +kernel) (by decide +kernel)
theorem mw_214 : (Cond.selects RPL yPL_findBatchOfRow yPL_findBatchOfRow : Cond) ∈ xTB := xTB_of (i := 7) (by decide +kernel) (by decide +kernel)
theorem mw_215 : (Cond.code yPL_findBatchOfRow cPL_findBatchOfRow 4 (some (.object "PostLedger$Batch")) : Cond) ∈ xTB := xTB_of (i := 321) (by decide +kernel) (by decide +kernel)
theorem mw_216 : (Cond.fieldLink RPL 176 "PostLedger$Account" "total" "J" : Cond) ∈ xTB := xTB_of (i := 118) (by decide +kernel) (by decide +kernel)
theorem mw_217 : (Cond.methodLink RPL 185 yAC_isOfKind : Cond) ∈ xTB := xTB_of (i := 348) (by decide +kernel) (by decide +kernel)
theorem mw_218 : (Cond.instanceMethod yAC_isOfKind : Cond) ∈ xTB := xTB_of (i := 349) (by decide +kernel) (by decide +kernel)
theorem mw_219 : (Cond.selects RAC yAC_isOfKind yAC_isOfKind : Cond) ∈ xTB := xTB_of (i := 350) (by decide +kernel) (by decide +kernel)
theorem mw_220 : (Cond.code yAC_isOfKind cAC_isOfKind 3 (some (.boolean)) : Cond) ∈ xTB := xTB_of (i := 351) (by decide +kernel) (by decide +kernel)
theorem mw_221 : (Cond.constantLong RPL 164 1000000000 : Cond) ∈ xTB := xTB_of (i := 357) (by decide +kernel) (by decide +kernel)
theorem mw_222 : (Cond.constantLong RPL 162 (-1000000000) : Cond) ∈ xTB := xTB_of (i := 356) (by decide +kernel) (by decide +kernel)
theorem mw_223 : (Cond.methodLink RPL 158 yPL_firstOfKind : Cond) ∈ xTB := xTB_of (i := 352) (by decide +kernel) (by decide +kernel)
theorem mw_224 : (Cond.instanceMethod yPL_firstOfKind : Cond) ∈ xTB := xTB_of (i := 354) (by decide +kernel) (by decide +kernel)
theorem mw_225 : (Cond.selects RPL yPL_firstOfKind yPL_firstOfKind : Cond) ∈ xTB := xTB_of (i := 10) (by decide +kernel) (by decide +kernel)
theorem mw_226 : (Cond.code yPL_firstOfKind cPL_firstOfKind 5 (some (.object "PostLedger$Account")) : Cond) ∈ xTB := xTB_of (i := 355) (by decide +kernel) (by decide +kernel)
theorem mw_227 : (Cond.methodLink RPL 154 yPL_totalOfKind : Cond) ∈ xTB := xTB_of (i := 344) (by decide +kernel) (by decide +kernel)
theorem mw_228 : (Cond.instanceMethod yPL_totalOfKind : Cond) ∈ xTB := xTB_of (i := 346) (by decide +kernel) (by decide +kernel)
theorem mw_229 : (Cond.selects RPL yPL_totalOfKind yPL_totalOfKind : Cond) ∈ xTB := xTB_of (i := 9) (by decide +kernel) (by decide +kernel)
theorem mw_230 : (Cond.code yPL_totalOfKind cPL_totalOfKind 7 (some (.long)) : Cond) ∈ xTB := xTB_of (i := 347) (by decide +kernel) (by decide +kernel)
theorem mw_231 : (Cond.fieldLink RPL 166 "PostLedger$Account" "limit" "I" : Cond) ∈ xTB := xTB_of (i := 116) (by decide +kernel) (by decide +kernel)
theorem mw_232 : (Cond.constant RPL 88 (-2000000001) : Cond) ∈ xTB := xTB_of (i := 362) (by decide +kernel) (by decide +kernel)
theorem mw_233 : (Cond.fieldLink RPL 169 "PostLedger$Batch" "failsByPlan" "Z" : Cond) ∈ xTB := xTB_of (i := 220) (by decide +kernel) (by decide +kernel)
theorem mw_234 : (Cond.methodLink RPL 172 yBA_takenFromAccount : Cond) ∈ xTB := xTB_of (i := 371) (by decide +kernel) (by decide +kernel)
theorem mw_235 : (Cond.instanceMethod yBA_takenFromAccount : Cond) ∈ xTB := xTB_of (i := 372) (by decide +kernel) (by decide +kernel)
theorem mw_236 : (Cond.selects RBA yBA_takenFromAccount yBA_takenFromAccount : Cond) ∈ xTB := xTB_of (i := 373) (by decide +kernel) (by decide +kernel)
theorem mw_237 : (Cond.code yBA_takenFromAccount cBA_takenFromAccount 6 (some (.long)) : Cond) ∈ xTB := xTB_of (i := 374) (by decide +kernel) (by decide +kernel)
theorem mw_238 : (Cond.fieldLink RRW 19 "PostLedger$Account" "kind" "I" : Cond) ∈ xTB := xTB_of (i := 114) (by decide +kernel) (by decide +kernel)
theorem mw_239 : (Cond.fieldLink RBA 102 "PostLedger$Account" "limit" "I" : Cond) ∈ xTB := xTB_of (i := 115) (by decide +kernel) (by decide +kernel)
theorem mw_240 : (Cond.methodLink RBA 98 yBA_sumForAccount : Cond) ∈ xTB := xTB_of (i := 413) (by decide +kernel) (by decide +kernel)
theorem mw_241 : (Cond.methodLink RBA 95 yRW_takesFromCustomer : Cond) ∈ xTB := xTB_of (i := 409) (by decide +kernel) (by decide +kernel)
theorem mw_242 : (Cond.instanceMethod yRW_takesFromCustomer : Cond) ∈ xTB := xTB_of (i := 410) (by decide +kernel) (by decide +kernel)
theorem mw_243 : (Cond.selects RRW yRW_takesFromCustomer yRW_takesFromCustomer : Cond) ∈ xTB := xTB_of (i := 411) (by decide +kernel) (by decide +kernel)
theorem mw_244 : (Cond.code yRW_takesFromCustomer cRW_takesFromCustomer 1 (some (.boolean)) : Cond) ∈ xTB := xTB_of (i := 412) (by decide +kernel) (by decide +kernel)
theorem mw_245 : (Cond.fieldLink RBA 92 "PostLedger$Outcome" "POSTED" "LPostLedger$Outcome;" : Cond) ∈ xTB := xTB_of (i := 416) (by decide +kernel) (by decide +kernel)
theorem mw_246 : (Cond.fieldLink RBA 89 "PostLedger$Outcome" "FAILED" "LPostLedger$Outcome;" : Cond) ∈ xTB := xTB_of (i := 414) (by decide +kernel) (by decide +kernel)
theorem mw_247 : (Cond.fieldLink RBA 85 "PostLedger$Batch" "failsByPlan" "Z" : Cond) ∈ xTB := xTB_of (i := 219) (by decide +kernel) (by decide +kernel)
theorem mw_248 : (Cond.fieldLink RBA 75 "PostLedger$Outcome" "REFUSED" "LPostLedger$Outcome;" : Cond) ∈ xTB := xTB_of (i := 403) (by decide +kernel) (by decide +kernel)
theorem mw_249 : (Cond.methodLink RBA 81 yBA_breaksLimit : Cond) ∈ xTB := xTB_of (i := 405) (by decide +kernel) (by decide +kernel)
theorem mw_250 : (Cond.instanceMethod yBA_breaksLimit : Cond) ∈ xTB := xTB_of (i := 407) (by decide +kernel) (by decide +kernel)
theorem mw_251 : (Cond.selects RBA yBA_breaksLimit yBA_breaksLimit : Cond) ∈ xTB := xTB_of (i := 12) (by decide +kernel) (by decide +kernel)
theorem mw_252 : (Cond.code yBA_breaksLimit cBA_breaksLimit 4 (some (.boolean)) : Cond) ∈ xTB := xTB_of (i := 408) (by decide +kernel) (by decide +kernel)
theorem mw_253 : (Cond.methodLink RBA 71 yBA_sumOfRows : Cond) ∈ xTB := xTB_of (i := 399) (by decide +kernel) (by decide +kernel)
theorem mw_254 : (Cond.instanceMethod yBA_sumOfRows : Cond) ∈ xTB := xTB_of (i := 401) (by decide +kernel) (by decide +kernel)
theorem mw_255 : (Cond.selects RBA yBA_sumOfRows yBA_sumOfRows : Cond) ∈ xTB := xTB_of (i := 11) (by decide +kernel) (by decide +kernel)
theorem mw_256 : (Cond.code yBA_sumOfRows cBA_sumOfRows 4 (some (.long)) : Cond) ∈ xTB := xTB_of (i := 402) (by decide +kernel) (by decide +kernel)
theorem mw_257 : (Cond.methodLink RBA 67 yAL_isEmpty : Cond) ∈ xTB := xTB_of (i := 395) (by decide +kernel) (by decide +kernel)
theorem mw_258 : (Cond.instanceMethod yAL_isEmpty : Cond) ∈ xTB := xTB_of (i := 396) (by decide +kernel) (by decide +kernel)
theorem mw_259 : (Cond.selects RAL yAL_isEmpty yAL_isEmpty : Cond) ∈ xTB := xTB_of (i := 397) (by decide +kernel) (by decide +kernel)
theorem mw_260 : (Cond.code yAL_isEmpty cAL_isEmpty 1 (some (.boolean)) : Cond) ∈ xTB := xTB_of (i := 398) (by decide +kernel) (by decide +kernel)
theorem mw_261 : (Cond.fieldLink RMO 50 "PostLedgerModel" "closed" "J" : Cond) ∈ xTB := xTB_of (i := 511) (by decide +kernel) (by decide +kernel)
theorem mw_262 : (Cond.constantLong RMO 48 (-1) : Cond) ∈ xTB := xTB_of (i := 494) (by decide +kernel) (by decide +kernel)
theorem mw_263 : (Cond.fieldLink RMO 45 "PostLedgerModel" "postedBatches" "[I" : Cond) ∈ xTB := xTB_of (i := 510) (by decide +kernel) (by decide +kernel)
theorem mw_264 : (Cond.arrayClass .int : Cond) ∈ xTB := xTB_of (i := 547) (by decide +kernel) (by decide +kernel)
theorem mw_265 : (Cond.fieldLink RMO 42 "PostLedgerModel" "rowCents" "[J" : Cond) ∈ xTB := xTB_of (i := 508) (by decide +kernel) (by decide +kernel)
theorem mw_266 : (Cond.arrayClass .long : Cond) ∈ xTB := xTB_of (i := 548) (by decide +kernel) (by decide +kernel)
theorem mw_267 : (Cond.fieldLink RMO 39 "PostLedgerModel" "rowAccounts" "[I" : Cond) ∈ xTB := xTB_of (i := 507) (by decide +kernel) (by decide +kernel)
theorem mw_268 : (Cond.fieldLink RMO 36 "PostLedgerModel" "rows" "[I" : Cond) ∈ xTB := xTB_of (i := 506) (by decide +kernel) (by decide +kernel)
theorem mw_269 : (Cond.fieldLink RMO 33 "PostLedgerModel" "back" "[Z" : Cond) ∈ xTB := xTB_of (i := 505) (by decide +kernel) (by decide +kernel)
theorem mw_270 : (Cond.arrayClass .boolean : Cond) ∈ xTB := xTB_of (i := 549) (by decide +kernel) (by decide +kernel)
theorem mw_271 : (Cond.fieldLink RMO 30 "PostLedgerModel" "free" "[Z" : Cond) ∈ xTB := xTB_of (i := 504) (by decide +kernel) (by decide +kernel)
theorem mw_272 : (Cond.fieldLink RMO 26 "PostLedgerModel" "planned" "[Z" : Cond) ∈ xTB := xTB_of (i := 503) (by decide +kernel) (by decide +kernel)
theorem mw_273 : (Cond.fieldLink RMO 23 "PostLedgerModel" "days" "[J" : Cond) ∈ xTB := xTB_of (i := 502) (by decide +kernel) (by decide +kernel)
theorem mw_274 : (Cond.fieldLink RMO 20 "PostLedgerModel" "states" "[I" : Cond) ∈ xTB := xTB_of (i := 501) (by decide +kernel) (by decide +kernel)
theorem mw_275 : (Cond.fieldLink RMO 16 "PostLedgerModel" "limits" "[J" : Cond) ∈ xTB := xTB_of (i := 499) (by decide +kernel) (by decide +kernel)
theorem mw_276 : (Cond.fieldLink RMO 13 "PostLedgerModel" "kinds" "[I" : Cond) ∈ xTB := xTB_of (i := 498) (by decide +kernel) (by decide +kernel)
theorem mw_277 : (Cond.fieldLink RMO 7 "PostLedgerModel" "offices" "[I" : Cond) ∈ xTB := xTB_of (i := 497) (by decide +kernel) (by decide +kernel)
theorem mw_278 : (Cond.methodLink RMO 1 objectInit : Cond) ∈ xTB := xTB_of (i := 493) (by decide +kernel) (by decide +kernel)
theorem mw_279 : (Cond.fieldLink RMO 54 "PostLedgerModel" "thrown" "I" : Cond) ∈ xTB := xTB_of (i := 495) (by decide +kernel) (by decide +kernel)
theorem mw_280 : (Cond.constant RMO 72 (-2000000002) : Cond) ∈ xTB := xTB_of (i := 563) (by decide +kernel) (by decide +kernel)
theorem mw_281 : (Cond.fieldLink RMO 58 "PostLedgerModel" "accounts" "I" : Cond) ∈ xTB := xTB_of (i := 496) (by decide +kernel) (by decide +kernel)
theorem mw_282 : (Cond.constant RMO 73 (-2000000004) : Cond) ∈ xTB := xTB_of (i := 564) (by decide +kernel) (by decide +kernel)
theorem mw_283 : (Cond.methodLink RMO 61 yMO_isIn : Cond) ∈ xTB := xTB_of (i := 559) (by decide +kernel) (by decide +kernel)
theorem mw_284 : (Cond.static yMO_isIn : Cond) ∈ xTB := xTB_of (i := 560) (by decide +kernel) (by decide +kernel)
theorem mw_285 : (Cond.initialized RMO : Cond) ∈ xTB := xTB_of (i := 29) (by decide +kernel) (by decide +kernel)
theorem mw_286 : (Cond.code yMO_isIn cMO_isIn 6 (some (.boolean)) : Cond) ∈ xTB := xTB_of (i := 561) (by decide +kernel) (by decide +kernel)
theorem mw_287 : (Cond.constantLong RMO 70 5 : Cond) ∈ xTB := xTB_of (i := 562) (by decide +kernel) (by decide +kernel)
theorem mw_288 : (Cond.constantLong RMO 68 9 : Cond) ∈ xTB := xTB_of (i := 558) (by decide +kernel) (by decide +kernel)
theorem mw_289 : (Cond.fieldLink RMO 65 "PostLedgerModel" "batches" "I" : Cond) ∈ xTB := xTB_of (i := 500) (by decide +kernel) (by decide +kernel)
theorem mw_290 : (Cond.methodLink RMO 77 yMO_make : Cond) ∈ xTB := xTB_of (i := 571) (by decide +kernel) (by decide +kernel)
theorem mw_291 : (Cond.instanceMethod yMO_make : Cond) ∈ xTB := xTB_of (i := 573) (by decide +kernel) (by decide +kernel)
theorem mw_292 : (Cond.selects RMO yMO_make yMO_make : Cond) ∈ xTB := xTB_of (i := 14) (by decide +kernel) (by decide +kernel)
theorem mw_293 : (Cond.code yMO_make cMO_make 3 (some (.int)) : Cond) ∈ xTB := xTB_of (i := 574) (by decide +kernel) (by decide +kernel)
theorem mw_294 : (Cond.constant RMO 76 (-2000000003) : Cond) ∈ xTB := xTB_of (i := 570) (by decide +kernel) (by decide +kernel)
theorem mw_295 : (Cond.constantLong RMO 74 20000 : Cond) ∈ xTB := xTB_of (i := 569) (by decide +kernel) (by decide +kernel)
theorem mw_296 : (Cond.methodLink RMO 92 yMO_put : Cond) ∈ xTB := xTB_of (i := 589) (by decide +kernel) (by decide +kernel)
theorem mw_297 : (Cond.instanceMethod yMO_put : Cond) ∈ xTB := xTB_of (i := 591) (by decide +kernel) (by decide +kernel)
theorem mw_298 : (Cond.selects RMO yMO_put yMO_put : Cond) ∈ xTB := xTB_of (i := 17) (by decide +kernel) (by decide +kernel)
theorem mw_299 : (Cond.code yMO_put cMO_put 5 none : Cond) ∈ xTB := xTB_of (i := 592) (by decide +kernel) (by decide +kernel)
theorem mw_300 : (Cond.constantLong RMO 90 100000000 : Cond) ∈ xTB := xTB_of (i := 588) (by decide +kernel) (by decide +kernel)
theorem mw_301 : (Cond.constantLong RMO 88 (-100000000) : Cond) ∈ xTB := xTB_of (i := 587) (by decide +kernel) (by decide +kernel)
theorem mw_302 : (Cond.methodLink RMO 85 yMO_isAccount : Cond) ∈ xTB := xTB_of (i := 583) (by decide +kernel) (by decide +kernel)
theorem mw_303 : (Cond.instanceMethod yMO_isAccount : Cond) ∈ xTB := xTB_of (i := 585) (by decide +kernel) (by decide +kernel)
theorem mw_304 : (Cond.selects RMO yMO_isAccount yMO_isAccount : Cond) ∈ xTB := xTB_of (i := 16) (by decide +kernel) (by decide +kernel)
theorem mw_305 : (Cond.code yMO_isAccount cMO_isAccount 2 (some (.boolean)) : Cond) ∈ xTB := xTB_of (i := 586) (by decide +kernel) (by decide +kernel)
theorem mw_306 : (Cond.methodLink RMO 81 yMO_isBatch : Cond) ∈ xTB := xTB_of (i := 579) (by decide +kernel) (by decide +kernel)
theorem mw_307 : (Cond.instanceMethod yMO_isBatch : Cond) ∈ xTB := xTB_of (i := 581) (by decide +kernel) (by decide +kernel)
theorem mw_308 : (Cond.selects RMO yMO_isBatch yMO_isBatch : Cond) ∈ xTB := xTB_of (i := 15) (by decide +kernel) (by decide +kernel)
theorem mw_309 : (Cond.code yMO_isBatch cMO_isBatch 2 (some (.boolean)) : Cond) ∈ xTB := xTB_of (i := 582) (by decide +kernel) (by decide +kernel)
theorem mw_310 : (Cond.methodLink RMO 99 yMO_part : Cond) ∈ xTB := xTB_of (i := 611) (by decide +kernel) (by decide +kernel)
theorem mw_311 : (Cond.instanceMethod yMO_part : Cond) ∈ xTB := xTB_of (i := 613) (by decide +kernel) (by decide +kernel)
theorem mw_312 : (Cond.selects RMO yMO_part yMO_part : Cond) ∈ xTB := xTB_of (i := 21) (by decide +kernel) (by decide +kernel)
theorem mw_313 : (Cond.code yMO_part cMO_part 7 (some (.long)) : Cond) ∈ xTB := xTB_of (i := 614) (by decide +kernel) (by decide +kernel)
theorem mw_314 : (Cond.fieldLink RMO 96 "PostLedgerModel" "posted" "I" : Cond) ∈ xTB := xTB_of (i := 509) (by decide +kernel) (by decide +kernel)
theorem mw_315 : (Cond.methodLink RMO 105 yMO_balanceOf : Cond) ∈ xTB := xTB_of (i := 607) (by decide +kernel) (by decide +kernel)
theorem mw_316 : (Cond.instanceMethod yMO_balanceOf : Cond) ∈ xTB := xTB_of (i := 609) (by decide +kernel) (by decide +kernel)
theorem mw_317 : (Cond.selects RMO yMO_balanceOf yMO_balanceOf : Cond) ∈ xTB := xTB_of (i := 20) (by decide +kernel) (by decide +kernel)
theorem mw_318 : (Cond.code yMO_balanceOf cMO_balanceOf 8 (some (.long)) : Cond) ∈ xTB := xTB_of (i := 610) (by decide +kernel) (by decide +kernel)
theorem mw_319 : (Cond.constantLong RMO 103 9223372036854775807 : Cond) ∈ xTB := xTB_of (i := 606) (by decide +kernel) (by decide +kernel)
theorem mw_320 : (Cond.methodLink RMO 109 yMO_stops : Cond) ∈ xTB := xTB_of (i := 602) (by decide +kernel) (by decide +kernel)
theorem mw_321 : (Cond.instanceMethod yMO_stops : Cond) ∈ xTB := xTB_of (i := 604) (by decide +kernel) (by decide +kernel)
theorem mw_322 : (Cond.selects RMO yMO_stops yMO_stops : Cond) ∈ xTB := xTB_of (i := 19) (by decide +kernel) (by decide +kernel)
theorem mw_323 : (Cond.code yMO_stops cMO_stops 8 (some (.int)) : Cond) ∈ xTB := xTB_of (i := 605) (by decide +kernel) (by decide +kernel)
theorem mw_324 : (Cond.methodLink RMO 114 yMO_go : Cond) ∈ xTB := xTB_of (i := 598) (by decide +kernel) (by decide +kernel)
theorem mw_325 : (Cond.instanceMethod yMO_go : Cond) ∈ xTB := xTB_of (i := 600) (by decide +kernel) (by decide +kernel)
theorem mw_326 : (Cond.selects RMO yMO_go yMO_go : Cond) ∈ xTB := xTB_of (i := 18) (by decide +kernel) (by decide +kernel)
theorem mw_327 : (Cond.code yMO_go cMO_go 3 (some (.int)) : Cond) ∈ xTB := xTB_of (i := 601) (by decide +kernel) (by decide +kernel)
theorem mw_328 : (Cond.constant RMO 113 (-2000000001) : Cond) ∈ xTB := xTB_of (i := 597) (by decide +kernel) (by decide +kernel)
theorem mw_329 : (Cond.constantLong RMO 117 (-2000000001) : Cond) ∈ xTB := xTB_of (i := 619) (by decide +kernel) (by decide +kernel)
theorem mw_330 : (Cond.methodLink RMO 119 yMO_batchOf : Cond) ∈ xTB := xTB_of (i := 628) (by decide +kernel) (by decide +kernel)
theorem mw_331 : (Cond.instanceMethod yMO_batchOf : Cond) ∈ xTB := xTB_of (i := 630) (by decide +kernel) (by decide +kernel)
theorem mw_332 : (Cond.selects RMO yMO_batchOf yMO_batchOf : Cond) ∈ xTB := xTB_of (i := 22) (by decide +kernel) (by decide +kernel)
theorem mw_333 : (Cond.code yMO_batchOf cMO_batchOf 4 (some (.int)) : Cond) ∈ xTB := xTB_of (i := 631) (by decide +kernel) (by decide +kernel)
theorem mw_334 : (Cond.methodLink RMO 124 yMO_first : Cond) ∈ xTB := xTB_of (i := 637) (by decide +kernel) (by decide +kernel)
theorem mw_335 : (Cond.instanceMethod yMO_first : Cond) ∈ xTB := xTB_of (i := 639) (by decide +kernel) (by decide +kernel)
theorem mw_336 : (Cond.selects RMO yMO_first yMO_first : Cond) ∈ xTB := xTB_of (i := 23) (by decide +kernel) (by decide +kernel)
theorem mw_337 : (Cond.code yMO_first cMO_first 4 (some (.int)) : Cond) ∈ xTB := xTB_of (i := 640) (by decide +kernel) (by decide +kernel)
theorem mw_338 : (Cond.constantLong RMO 130 1000000000 : Cond) ∈ xTB := xTB_of (i := 642) (by decide +kernel) (by decide +kernel)
theorem mw_339 : (Cond.constantLong RMO 128 (-1000000000) : Cond) ∈ xTB := xTB_of (i := 641) (by decide +kernel) (by decide +kernel)
theorem mw_340 : (Cond.constantLong RMO 122 4 : Cond) ∈ xTB := xTB_of (i := 636) (by decide +kernel) (by decide +kernel)
def xW (y : MethodName) (c : ByteArray) (n : Nat) (r : Option FieldType) : List Cond := Cond.code y c n r :: xTB
end
section
/-! decode rows: JDK -/
theorem dAN_init_0 : decode cAN_init 0 = .ok (.aload_n 0, 1) := by decide +kernel
theorem dAN_init_1 : decode cAN_init 1 = .ok (.invokespecial 1, 3) := by decide +kernel
theorem dAN_init_4 : decode cAN_init 4 = .ok (.return_, 1) := by decide +kernel
theorem dAB_init_0 : decode cAB_init 0 = .ok (.aload_n 0, 1) := by decide +kernel
theorem dAB_init_1 : decode cAB_init 1 = .ok (.invokespecial 1, 3) := by decide +kernel
theorem dAB_init_4 : decode cAB_init 4 = .ok (.aload_n 0, 1) := by decide +kernel
theorem dAB_init_5 : decode cAB_init 5 = .ok (.iconst 0, 1) := by decide +kernel
theorem dAB_init_6 : decode cAB_init 6 = .ok (.putfield 7, 3) := by decide +kernel
theorem dAB_init_9 : decode cAB_init 9 = .ok (.return_, 1) := by decide +kernel
theorem dAL_init_0 : decode cAL_init 0 = .ok (.aload_n 0, 1) := by decide +kernel
theorem dAL_init_1 : decode cAL_init 1 = .ok (.invokespecial 1, 3) := by decide +kernel
theorem dAL_init_4 : decode cAL_init 4 = .ok (.aload_n 0, 1) := by decide +kernel
theorem dAL_init_5 : decode cAL_init 5 = .ok (.getstatic 39, 3) := by decide +kernel
theorem dAL_init_8 : decode cAL_init 8 = .ok (.putfield 9, 3) := by decide +kernel
theorem dAL_init_11 : decode cAL_init 11 = .ok (.return_, 1) := by decide +kernel
theorem dAL_size_0 : decode cAL_size 0 = .ok (.aload_n 0, 1) := by decide +kernel
theorem dAL_size_1 : decode cAL_size 1 = .ok (.getfield 48, 3) := by decide +kernel
theorem dAL_size_4 : decode cAL_size 4 = .ok (.ireturn, 1) := by decide +kernel
theorem dAS_hugeLength_0 : decode cAS_hugeLength 0 = .ok (.iload_n 0, 1) := by decide +kernel
theorem dAS_hugeLength_1 : decode cAS_hugeLength 1 = .ok (.iload_n 1, 1) := by decide +kernel
theorem dAS_hugeLength_2 : decode cAS_hugeLength 2 = .ok (.iadd, 1) := by decide +kernel
theorem dAS_hugeLength_3 : decode cAS_hugeLength 3 = .ok (.istore_n 2, 1) := by decide +kernel
theorem dAS_hugeLength_4 : decode cAS_hugeLength 4 = .ok (.iload_n 2, 1) := by decide +kernel
theorem dAS_hugeLength_5 : decode cAS_hugeLength 5 = .ok (.ifCond .ge 44, 3) := by decide +kernel
theorem dAS_hugeLength_8 : decode cAS_hugeLength 8 = .ok (.new 204, 3) := by decide +kernel
theorem dAS_hugeLength_11 : decode cAS_hugeLength 11 = .ok (.dup, 1) := by decide +kernel
theorem dAS_hugeLength_12 : decode cAS_hugeLength 12 = .ok (.new 89, 3) := by decide +kernel
theorem dAS_hugeLength_15 : decode cAS_hugeLength 15 = .ok (.dup, 1) := by decide +kernel
theorem dAS_hugeLength_16 : decode cAS_hugeLength 16 = .ok (.invokespecial 91, 3) := by decide +kernel
theorem dAS_hugeLength_19 : decode cAS_hugeLength 19 = .ok (.ldc 206, 2) := by decide +kernel
theorem dAS_hugeLength_21 : decode cAS_hugeLength 21 = .ok (.invokevirtual 94, 3) := by decide +kernel
theorem dAS_hugeLength_24 : decode cAS_hugeLength 24 = .ok (.iload_n 0, 1) := by decide +kernel
theorem dAS_hugeLength_25 : decode cAS_hugeLength 25 = .ok (.invokevirtual 98, 3) := by decide +kernel
theorem dAS_hugeLength_28 : decode cAS_hugeLength 28 = .ok (.ldc 208, 2) := by decide +kernel
theorem dAS_hugeLength_30 : decode cAS_hugeLength 30 = .ok (.invokevirtual 94, 3) := by decide +kernel
theorem dAS_hugeLength_33 : decode cAS_hugeLength 33 = .ok (.iload_n 1, 1) := by decide +kernel
theorem dAS_hugeLength_34 : decode cAS_hugeLength 34 = .ok (.invokevirtual 98, 3) := by decide +kernel
theorem dAS_hugeLength_37 : decode cAS_hugeLength 37 = .ok (.ldc 210, 2) := by decide +kernel
theorem dAS_hugeLength_39 : decode cAS_hugeLength 39 = .ok (.invokevirtual 94, 3) := by decide +kernel
theorem dAS_hugeLength_42 : decode cAS_hugeLength 42 = .ok (.invokevirtual 101, 3) := by decide +kernel
theorem dAS_hugeLength_45 : decode cAS_hugeLength 45 = .ok (.invokespecial 212, 3) := by decide +kernel
theorem dAS_hugeLength_48 : decode cAS_hugeLength 48 = .ok (.athrow, 1) := by decide +kernel
theorem dAS_hugeLength_49 : decode cAS_hugeLength 49 = .ok (.iload_n 2, 1) := by decide +kernel
theorem dAS_hugeLength_50 : decode cAS_hugeLength 50 = .ok (.ldc 200, 2) := by decide +kernel
theorem dAS_hugeLength_52 : decode cAS_hugeLength 52 = .ok (.if_icmp .gt 6, 3) := by decide +kernel
theorem dAS_hugeLength_55 : decode cAS_hugeLength 55 = .ok (.ldc 200, 2) := by decide +kernel
theorem dAS_hugeLength_57 : decode cAS_hugeLength 57 = .ok (.ireturn, 1) := by decide +kernel
theorem dAS_hugeLength_58 : decode cAS_hugeLength 58 = .ok (.iload_n 2, 1) := by decide +kernel
theorem dAS_hugeLength_59 : decode cAS_hugeLength 59 = .ok (.ireturn, 1) := by decide +kernel
theorem dAS_newLength_0 : decode cAS_newLength 0 = .ok (.iload_n 0, 1) := by decide +kernel
theorem dAS_newLength_1 : decode cAS_newLength 1 = .ok (.iload_n 1, 1) := by decide +kernel
theorem dAS_newLength_2 : decode cAS_newLength 2 = .ok (.iload_n 2, 1) := by decide +kernel
theorem dAS_newLength_3 : decode cAS_newLength 3 = .ok (.invokestatic 194, 3) := by decide +kernel
theorem dAS_newLength_6 : decode cAS_newLength 6 = .ok (.iadd, 1) := by decide +kernel
theorem dAS_newLength_7 : decode cAS_newLength 7 = .ok (.istore_n 3, 1) := by decide +kernel
theorem dAS_newLength_8 : decode cAS_newLength 8 = .ok (.iconst 0, 1) := by decide +kernel
theorem dAS_newLength_9 : decode cAS_newLength 9 = .ok (.iload_n 3, 1) := by decide +kernel
theorem dAS_newLength_10 : decode cAS_newLength 10 = .ok (.if_icmp .ge 11, 3) := by decide +kernel
theorem dAS_newLength_13 : decode cAS_newLength 13 = .ok (.iload_n 3, 1) := by decide +kernel
theorem dAS_newLength_14 : decode cAS_newLength 14 = .ok (.ldc 200, 2) := by decide +kernel
theorem dAS_newLength_16 : decode cAS_newLength 16 = .ok (.if_icmp .gt 5, 3) := by decide +kernel
theorem dAS_newLength_19 : decode cAS_newLength 19 = .ok (.iload_n 3, 1) := by decide +kernel
theorem dAS_newLength_20 : decode cAS_newLength 20 = .ok (.ireturn, 1) := by decide +kernel
theorem dAS_newLength_21 : decode cAS_newLength 21 = .ok (.iload_n 0, 1) := by decide +kernel
theorem dAS_newLength_22 : decode cAS_newLength 22 = .ok (.iload_n 1, 1) := by decide +kernel
theorem dAS_newLength_23 : decode cAS_newLength 23 = .ok (.invokestatic 201, 3) := by decide +kernel
theorem dAS_newLength_26 : decode cAS_newLength 26 = .ok (.ireturn, 1) := by decide +kernel
theorem dAR_copyOf2_0 : decode cAR_copyOf2 0 = .ok (.aload_n 2, 1) := by decide +kernel
theorem dAR_copyOf2_1 : decode cAR_copyOf2 1 = .ok (.ldc 110, 2) := by decide +kernel
theorem dAR_copyOf2_3 : decode cAR_copyOf2 3 = .ok (.if_acmp .ne 10, 3) := by decide +kernel
theorem dAR_copyOf2_6 : decode cAR_copyOf2 6 = .ok (.iload_n 1, 1) := by decide +kernel
theorem dAR_copyOf2_7 : decode cAR_copyOf2 7 = .ok (.anewarray 2, 3) := by decide +kernel
theorem dAR_copyOf2_10 : decode cAR_copyOf2 10 = .ok (.goto 14, 3) := by decide +kernel
theorem dAR_copyOf2_13 : decode cAR_copyOf2 13 = .ok (.aload_n 2, 1) := by decide +kernel
theorem dAR_copyOf2_14 : decode cAR_copyOf2 14 = .ok (.invokevirtual 90, 3) := by decide +kernel
theorem dAR_copyOf2_17 : decode cAR_copyOf2 17 = .ok (.iload_n 1, 1) := by decide +kernel
theorem dAR_copyOf2_18 : decode cAR_copyOf2 18 = .ok (.invokestatic 95, 3) := by decide +kernel
theorem dAR_copyOf2_21 : decode cAR_copyOf2 21 = .ok (.checkcast 110, 3) := by decide +kernel
theorem dAR_copyOf2_24 : decode cAR_copyOf2 24 = .ok (.astore_n 3, 1) := by decide +kernel
theorem dAR_copyOf2_25 : decode cAR_copyOf2 25 = .ok (.aload_n 0, 1) := by decide +kernel
theorem dAR_copyOf2_26 : decode cAR_copyOf2 26 = .ok (.iconst 0, 1) := by decide +kernel
theorem dAR_copyOf2_27 : decode cAR_copyOf2 27 = .ok (.aload_n 3, 1) := by decide +kernel
theorem dAR_copyOf2_28 : decode cAR_copyOf2 28 = .ok (.iconst 0, 1) := by decide +kernel
theorem dAR_copyOf2_29 : decode cAR_copyOf2 29 = .ok (.aload_n 0, 1) := by decide +kernel
theorem dAR_copyOf2_30 : decode cAR_copyOf2 30 = .ok (.arraylength, 1) := by decide +kernel
theorem dAR_copyOf2_31 : decode cAR_copyOf2 31 = .ok (.iload_n 1, 1) := by decide +kernel
theorem dAR_copyOf2_32 : decode cAR_copyOf2 32 = .ok (.invokestatic 304, 3) := by decide +kernel
theorem dAR_copyOf2_35 : decode cAR_copyOf2 35 = .ok (.invokestatic 150, 3) := by decide +kernel
theorem dAR_copyOf2_38 : decode cAR_copyOf2 38 = .ok (.aload_n 3, 1) := by decide +kernel
theorem dAR_copyOf2_39 : decode cAR_copyOf2 39 = .ok (.areturn, 1) := by decide +kernel
theorem dAR_copyOf_0 : decode cAR_copyOf 0 = .ok (.aload_n 0, 1) := by decide +kernel
theorem dAR_copyOf_1 : decode cAR_copyOf 1 = .ok (.iload_n 1, 1) := by decide +kernel
theorem dAR_copyOf_2 : decode cAR_copyOf 2 = .ok (.aload_n 0, 1) := by decide +kernel
theorem dAR_copyOf_3 : decode cAR_copyOf 3 = .ok (.invokevirtual 86, 3) := by decide +kernel
theorem dAR_copyOf_6 : decode cAR_copyOf 6 = .ok (.invokestatic 300, 3) := by decide +kernel
theorem dAR_copyOf_9 : decode cAR_copyOf 9 = .ok (.areturn, 1) := by decide +kernel
theorem dAL_grow2_0 : decode cAL_grow2 0 = .ok (.aload_n 0, 1) := by decide +kernel
theorem dAL_grow2_1 : decode cAL_grow2 1 = .ok (.getfield 9, 3) := by decide +kernel
theorem dAL_grow2_4 : decode cAL_grow2 4 = .ok (.arraylength, 1) := by decide +kernel
theorem dAL_grow2_5 : decode cAL_grow2 5 = .ok (.istore_n 2, 1) := by decide +kernel
theorem dAL_grow2_6 : decode cAL_grow2 6 = .ok (.iload_n 2, 1) := by decide +kernel
theorem dAL_grow2_7 : decode cAL_grow2 7 = .ok (.ifCond .gt 13, 3) := by decide +kernel
theorem dAL_grow2_10 : decode cAL_grow2 10 = .ok (.aload_n 0, 1) := by decide +kernel
theorem dAL_grow2_11 : decode cAL_grow2 11 = .ok (.getfield 9, 3) := by decide +kernel
theorem dAL_grow2_14 : decode cAL_grow2 14 = .ok (.getstatic 39, 3) := by decide +kernel
theorem dAL_grow2_17 : decode cAL_grow2 17 = .ok (.if_acmp .eq 28, 3) := by decide +kernel
theorem dAL_grow2_20 : decode cAL_grow2 20 = .ok (.iload_n 2, 1) := by decide +kernel
theorem dAL_grow2_21 : decode cAL_grow2 21 = .ok (.iload_n 1, 1) := by decide +kernel
theorem dAL_grow2_22 : decode cAL_grow2 22 = .ok (.iload_n 2, 1) := by decide +kernel
theorem dAL_grow2_23 : decode cAL_grow2 23 = .ok (.isub, 1) := by decide +kernel
theorem dAL_grow2_24 : decode cAL_grow2 24 = .ok (.iload_n 2, 1) := by decide +kernel
theorem dAL_grow2_25 : decode cAL_grow2 25 = .ok (.iconst 1, 1) := by decide +kernel
theorem dAL_grow2_26 : decode cAL_grow2 26 = .ok (.ishr, 1) := by decide +kernel
theorem dAL_grow2_27 : decode cAL_grow2 27 = .ok (.invokestatic 73, 3) := by decide +kernel
theorem dAL_grow2_30 : decode cAL_grow2 30 = .ok (.istore_n 3, 1) := by decide +kernel
theorem dAL_grow2_31 : decode cAL_grow2 31 = .ok (.aload_n 0, 1) := by decide +kernel
theorem dAL_grow2_32 : decode cAL_grow2 32 = .ok (.aload_n 0, 1) := by decide +kernel
theorem dAL_grow2_33 : decode cAL_grow2 33 = .ok (.getfield 9, 3) := by decide +kernel
theorem dAL_grow2_36 : decode cAL_grow2 36 = .ok (.iload_n 3, 1) := by decide +kernel
theorem dAL_grow2_37 : decode cAL_grow2 37 = .ok (.invokestatic 66, 3) := by decide +kernel
theorem dAL_grow2_40 : decode cAL_grow2 40 = .ok (.dup_x1, 1) := by decide +kernel
theorem dAL_grow2_41 : decode cAL_grow2 41 = .ok (.putfield 9, 3) := by decide +kernel
theorem dAL_grow2_44 : decode cAL_grow2 44 = .ok (.areturn, 1) := by decide +kernel
theorem dAL_grow2_45 : decode cAL_grow2 45 = .ok (.aload_n 0, 1) := by decide +kernel
theorem dAL_grow2_46 : decode cAL_grow2 46 = .ok (.bipush 10, 2) := by decide +kernel
theorem dAL_grow2_48 : decode cAL_grow2 48 = .ok (.iload_n 1, 1) := by decide +kernel
theorem dAL_grow2_49 : decode cAL_grow2 49 = .ok (.invokestatic 79, 3) := by decide +kernel
theorem dAL_grow2_52 : decode cAL_grow2 52 = .ok (.anewarray 7, 3) := by decide +kernel
theorem dAL_grow2_55 : decode cAL_grow2 55 = .ok (.dup_x1, 1) := by decide +kernel
theorem dAL_grow2_56 : decode cAL_grow2 56 = .ok (.putfield 9, 3) := by decide +kernel
theorem dAL_grow2_59 : decode cAL_grow2 59 = .ok (.areturn, 1) := by decide +kernel
theorem dAL_grow_0 : decode cAL_grow 0 = .ok (.aload_n 0, 1) := by decide +kernel
theorem dAL_grow_1 : decode cAL_grow 1 = .ok (.aload_n 0, 1) := by decide +kernel
theorem dAL_grow_2 : decode cAL_grow 2 = .ok (.getfield 48, 3) := by decide +kernel
theorem dAL_grow_5 : decode cAL_grow 5 = .ok (.iconst 1, 1) := by decide +kernel
theorem dAL_grow_6 : decode cAL_grow 6 = .ok (.iadd, 1) := by decide +kernel
theorem dAL_grow_7 : decode cAL_grow 7 = .ok (.invokevirtual 69, 3) := by decide +kernel
theorem dAL_grow_10 : decode cAL_grow 10 = .ok (.areturn, 1) := by decide +kernel
theorem dAL_add2_0 : decode cAL_add2 0 = .ok (.iload_n 3, 1) := by decide +kernel
theorem dAL_add2_1 : decode cAL_add2 1 = .ok (.aload_n 2, 1) := by decide +kernel
theorem dAL_add2_2 : decode cAL_add2 2 = .ok (.arraylength, 1) := by decide +kernel
theorem dAL_add2_3 : decode cAL_add2 3 = .ok (.if_icmp .ne 8, 3) := by decide +kernel
theorem dAL_add2_6 : decode cAL_add2 6 = .ok (.aload_n 0, 1) := by decide +kernel
theorem dAL_add2_7 : decode cAL_add2 7 = .ok (.invokevirtual 129, 3) := by decide +kernel
theorem dAL_add2_10 : decode cAL_add2 10 = .ok (.astore_n 2, 1) := by decide +kernel
theorem dAL_add2_11 : decode cAL_add2 11 = .ok (.aload_n 2, 1) := by decide +kernel
theorem dAL_add2_12 : decode cAL_add2 12 = .ok (.iload_n 3, 1) := by decide +kernel
theorem dAL_add2_13 : decode cAL_add2 13 = .ok (.aload_n 1, 1) := by decide +kernel
theorem dAL_add2_14 : decode cAL_add2 14 = .ok (.aastore, 1) := by decide +kernel
theorem dAL_add2_15 : decode cAL_add2 15 = .ok (.aload_n 0, 1) := by decide +kernel
theorem dAL_add2_16 : decode cAL_add2 16 = .ok (.iload_n 3, 1) := by decide +kernel
theorem dAL_add2_17 : decode cAL_add2 17 = .ok (.iconst 1, 1) := by decide +kernel
theorem dAL_add2_18 : decode cAL_add2 18 = .ok (.iadd, 1) := by decide +kernel
theorem dAL_add2_19 : decode cAL_add2 19 = .ok (.putfield 48, 3) := by decide +kernel
theorem dAL_add2_22 : decode cAL_add2 22 = .ok (.return_, 1) := by decide +kernel
theorem dAL_add_0 : decode cAL_add 0 = .ok (.aload_n 0, 1) := by decide +kernel
theorem dAL_add_1 : decode cAL_add 1 = .ok (.dup, 1) := by decide +kernel
theorem dAL_add_2 : decode cAL_add 2 = .ok (.getfield 63, 3) := by decide +kernel
theorem dAL_add_5 : decode cAL_add 5 = .ok (.iconst 1, 1) := by decide +kernel
theorem dAL_add_6 : decode cAL_add 6 = .ok (.iadd, 1) := by decide +kernel
theorem dAL_add_7 : decode cAL_add 7 = .ok (.putfield 63, 3) := by decide +kernel
theorem dAL_add_10 : decode cAL_add 10 = .ok (.aload_n 0, 1) := by decide +kernel
theorem dAL_add_11 : decode cAL_add 11 = .ok (.aload_n 1, 1) := by decide +kernel
theorem dAL_add_12 : decode cAL_add 12 = .ok (.aload_n 0, 1) := by decide +kernel
theorem dAL_add_13 : decode cAL_add 13 = .ok (.getfield 9, 3) := by decide +kernel
theorem dAL_add_16 : decode cAL_add 16 = .ok (.aload_n 0, 1) := by decide +kernel
theorem dAL_add_17 : decode cAL_add 17 = .ok (.getfield 48, 3) := by decide +kernel
theorem dAL_add_20 : decode cAL_add 20 = .ok (.invokevirtual 131, 3) := by decide +kernel
theorem dAL_add_23 : decode cAL_add 23 = .ok (.iconst 1, 1) := by decide +kernel
theorem dAL_add_24 : decode cAL_add 24 = .ok (.ireturn, 1) := by decide +kernel
theorem dPC_checkIndex_0 : decode cPC_checkIndex 0 = .ok (.iload_n 0, 1) := by decide +kernel
theorem dPC_checkIndex_1 : decode cPC_checkIndex 1 = .ok (.ifCond .lt 8, 3) := by decide +kernel
theorem dPC_checkIndex_4 : decode cPC_checkIndex 4 = .ok (.iload_n 0, 1) := by decide +kernel
theorem dPC_checkIndex_5 : decode cPC_checkIndex 5 = .ok (.iload_n 1, 1) := by decide +kernel
theorem dPC_checkIndex_6 : decode cPC_checkIndex 6 = .ok (.if_icmp .lt 10, 3) := by decide +kernel
theorem dPC_checkIndex_9 : decode cPC_checkIndex 9 = .ok (.aload_n 2, 1) := by decide +kernel
theorem dPC_checkIndex_10 : decode cPC_checkIndex 10 = .ok (.iload_n 0, 1) := by decide +kernel
theorem dPC_checkIndex_11 : decode cPC_checkIndex 11 = .ok (.iload_n 1, 1) := by decide +kernel
theorem dPC_checkIndex_12 : decode cPC_checkIndex 12 = .ok (.invokestatic 95, 3) := by decide +kernel
theorem dPC_checkIndex_15 : decode cPC_checkIndex 15 = .ok (.athrow, 1) := by decide +kernel
theorem dPC_checkIndex_16 : decode cPC_checkIndex 16 = .ok (.iload_n 0, 1) := by decide +kernel
theorem dPC_checkIndex_17 : decode cPC_checkIndex 17 = .ok (.ireturn, 1) := by decide +kernel
theorem dOB_checkIndex_0 : decode cOB_checkIndex 0 = .ok (.iload_n 0, 1) := by decide +kernel
theorem dOB_checkIndex_1 : decode cOB_checkIndex 1 = .ok (.iload_n 1, 1) := by decide +kernel
theorem dOB_checkIndex_2 : decode cOB_checkIndex 2 = .ok (.aconst_null, 1) := by decide +kernel
theorem dOB_checkIndex_3 : decode cOB_checkIndex 3 = .ok (.invokestatic 105, 3) := by decide +kernel
theorem dOB_checkIndex_6 : decode cOB_checkIndex 6 = .ok (.ireturn, 1) := by decide +kernel
theorem dAL_elementData_0 : decode cAL_elementData 0 = .ok (.aload_n 0, 1) := by decide +kernel
theorem dAL_elementData_1 : decode cAL_elementData 1 = .ok (.getfield 9, 3) := by decide +kernel
theorem dAL_elementData_4 : decode cAL_elementData 4 = .ok (.iload_n 1, 1) := by decide +kernel
theorem dAL_elementData_5 : decode cAL_elementData 5 = .ok (.aaload, 1) := by decide +kernel
theorem dAL_elementData_6 : decode cAL_elementData 6 = .ok (.areturn, 1) := by decide +kernel
theorem dAL_get_0 : decode cAL_get 0 = .ok (.iload_n 1, 1) := by decide +kernel
theorem dAL_get_1 : decode cAL_get 1 = .ok (.aload_n 0, 1) := by decide +kernel
theorem dAL_get_2 : decode cAL_get 2 = .ok (.getfield 48, 3) := by decide +kernel
theorem dAL_get_5 : decode cAL_get 5 = .ok (.invokestatic 118, 3) := by decide +kernel
theorem dAL_get_8 : decode cAL_get 8 = .ok (.pop, 1) := by decide +kernel
theorem dAL_get_9 : decode cAL_get 9 = .ok (.aload_n 0, 1) := by decide +kernel
theorem dAL_get_10 : decode cAL_get 10 = .ok (.iload_n 1, 1) := by decide +kernel
theorem dAL_get_11 : decode cAL_get 11 = .ok (.invokevirtual 123, 3) := by decide +kernel
theorem dAL_get_14 : decode cAL_get 14 = .ok (.areturn, 1) := by decide +kernel
theorem dAL_isEmpty_0 : decode cAL_isEmpty 0 = .ok (.aload_n 0, 1) := by decide +kernel
theorem dAL_isEmpty_1 : decode cAL_isEmpty 1 = .ok (.getfield 48, 3) := by decide +kernel
theorem dAL_isEmpty_4 : decode cAL_isEmpty 4 = .ok (.ifCond .ne 7, 3) := by decide +kernel
theorem dAL_isEmpty_7 : decode cAL_isEmpty 7 = .ok (.iconst 1, 1) := by decide +kernel
theorem dAL_isEmpty_8 : decode cAL_isEmpty 8 = .ok (.goto 4, 3) := by decide +kernel
theorem dAL_isEmpty_11 : decode cAL_isEmpty 11 = .ok (.iconst 0, 1) := by decide +kernel
theorem dAL_isEmpty_12 : decode cAL_isEmpty 12 = .ok (.ireturn, 1) := by decide +kernel
end
section
/-! WHAT STANDS BEHIND EVERY METHOD: statics, constants, array classes. E.1: array classes (0 Object, 1 int, 2 long, 3 boolean); E.2: addresses (0 OPEN, 1 POSTED, 2 VOID; 3 POSTED, 4 FAILED, 5 REFUSED of Outcome; 6 the empty array; 7 the mirror of Object[]; 8 the text of the exception) -/
abbrev xE_T : Type := (Nat → ClassId) × (Nat → Nat)
abbrev xtys (E : xE_T) : List (ClassId × FieldType) := [(E.1 0, .object "java/lang/Object"), (E.1 1, .int), (E.1 2, .long), (E.1 3, .boolean)]
def xZ (C n d : String) (a : Nat) (A : Nat → Prop) (U : State) : Prop := va_Z C n d (.ref a) A U U.heap
def xF (E : xE_T) (A : Nat → Prop) (U : State) : Prop :=
  (va_Nw (.castable "PostLedger$Row" "java/lang/Object") U ∧ va_Nw (.castable "PostLedger$Account" "java/lang/Object") U ∧ va_Nw (.castable "PostLedger$Batch" "java/lang/Object") U) ∧
  (va_AO "java/lang/Object" U ∧ va_Dc U ∧ va_Mi "[Ljava/lang/Object;" (E.2 7) U ∧ vk_R "PostLedger" 120 "the batch is refused" (E.2 8) U) ∧
  (xZ "PostLedger$Standing" "OPEN" "LPostLedger$Standing;" (E.2 0) A U ∧ xZ "PostLedger$Standing" "POSTED" "LPostLedger$Standing;" (E.2 1) A U ∧ xZ "PostLedger$Standing" "VOID" "LPostLedger$Standing;" (E.2 2) A U) ∧
  (xZ "PostLedger$Outcome" "POSTED" "LPostLedger$Outcome;" (E.2 3) A U ∧ xZ "PostLedger$Outcome" "FAILED" "LPostLedger$Outcome;" (E.2 4) A U ∧ xZ "PostLedger$Outcome" "REFUSED" "LPostLedger$Outcome;" (E.2 5) A U) ∧
  (xZ "java/util/ArrayList" "DEFAULTCAPACITY_EMPTY_ELEMENTDATA" "[Ljava/lang/Object;" (E.2 6) A U ∧ va_T (.object "java/lang/Object") (E.2 6) 0 (fun _ => .null) A U U.heap) ∧
  (va_Zq "java/lang/Throwable" "UNASSIGNED_STACK" "[Ljava/lang/StackTraceElement;" A U U.heap ∧ va_Zq "java/lang/Throwable" "SUPPRESSED_SENTINEL" "Ljava/util/List;" A U U.heap)
theorem xZ_of {C n d : String} {a : Nat} {A : Nat → Prop} {s U : State} (h : xZ C n d a A s) (hvm : s.vm.Alike U.vm) (hq : ∀ q : Nat, q < s.heap.size → ¬ A q → U.heap[q]? = s.heap[q]?) : xZ C n d a A U := (h.kept hq).moved hvm
theorem xF_of {E : xE_T} {A : Nat → Prop} {s U : State} {locs : List Loc} (h : xF E A s) (hW : s.WarmedH U.vm) (hS : va_S A s.heap U.heap locs) : xF E A U := by
  obtain ⟨⟨a1, a2, a3⟩, ⟨b1, b2, b3, b4⟩, ⟨c1, c2, c3⟩, ⟨d1, d2, d3⟩, ⟨e1, e2⟩, ⟨f1, f2⟩⟩ := h
  have hq : ∀ q : Nat, q < s.heap.size → ¬ A q → U.heap[q]? = s.heap[q]? := hS.2.1
  have hvm := hW.alike
  exact ⟨⟨a1.warmC hW, a2.warmC hW, a3.warmC hW⟩, ⟨b1.moved hvm, b2.moved hvm, b3.moved hvm, b4.warm hW⟩, ⟨xZ_of c1 hvm hq, xZ_of c2 hvm hq, xZ_of c3 hvm hq⟩, ⟨xZ_of d1 hvm hq, xZ_of d2 hvm hq, xZ_of d3 hvm hq⟩, ⟨xZ_of e1 hvm hq, (e2.kept hq).moved hvm⟩, ⟨(f1.kept hq).moved hvm, (f2.kept hq).moved hvm⟩⟩
theorem xF_same {E : xE_T} {A : Nat → Prop} {u U : State} (hv : U.vm = u.vm) (hh : U.heap = u.heap) (h : xF E A u) : xF E A U := by
  obtain ⟨⟨a1, a2, a3⟩, ⟨b1, b2, b3, b4⟩, ⟨c1, c2, c3⟩, ⟨d1, d2, d3⟩, ⟨e1, e2⟩, ⟨f1, f2⟩⟩ := h
  have hvm : u.vm.Alike U.vm := by rw [hv]; exact Vm.Alike.refl _
  have hq : ∀ q : Nat, q < u.heap.size → ¬ A q → U.heap[q]? = u.heap[q]? := fun q _ _ => by rw [hh]
  exact ⟨⟨a1.same rfl hv.symm, a2.same rfl hv.symm, a3.same rfl hv.symm⟩, ⟨b1.moved hvm, b2.moved hvm, b3.moved hvm, b4.same hv⟩, ⟨xZ_of c1 hvm hq, xZ_of c2 hvm hq, xZ_of c3 hvm hq⟩, ⟨xZ_of d1 hvm hq, xZ_of d2 hvm hq, xZ_of d3 hvm hq⟩, ⟨xZ_of e1 hvm hq, (e2.kept hq).moved hvm⟩, ⟨(f1.kept hq).moved hvm, (f2.kept hq).moved hvm⟩⟩
end
section
/-! THE WORLD AS A FUNCTION: what is known of the heap is a partial map from addresses to cells. Rows of the kit work on lists of cells: here each is turned to the map. -/
abbrev xw_T : Type := Nat → Option va_E
def xw_in (w : xw_T) (ws : va_W) : Prop := ∀ (a : Nat) (e : va_E), w a = some e ↔ ∃ k : Nat, ws[k]? = some (a, e)
/-- the map stands in the heap: inside a method -/
def xw_S (D : va_G) (cl : List vw_C) (A : Nat → Prop) (H0 : Heap) (w : xw_T) (H : Heap) (locs : List Loc) : Prop := (∃ ws : va_W, xw_in w ws ∧ va_P D cl ws H ∧ va_D A ws) ∧ va_S A H0 H locs ∧ ∀ q : Nat, H0.size ≤ q → A q
theorem xw_in_set {A : Nat → Prop} {w : xw_T} {ws : va_W} {k a : Nat} {e0 e : va_E} (h : xw_in w ws) (hD : va_D A ws) (hk : ws[k]? = some (a, e0)) : xw_in (va_up w a (some e)) (ws.set k (a, e)) := by
  have hl := (List.getElem?_eq_some_iff.mp hk).1
  intro b e'
  by_cases hb : b = a
  · subst hb
    rw [va_up_self]
    constructor
    · intro he
      refine ⟨k, ?_⟩
      rw [List.getElem?_set_self hl, Option.some.inj he]
    · rintro ⟨j, hj⟩
      by_cases hjk : j = k
      · subst hjk
        rw [List.getElem?_set_self hl] at hj
        have := Option.some.inj hj
        rw [(Prod.mk.inj this).2]
      · rw [List.getElem?_set_ne (Ne.symm hjk)] at hj
        exact absurd (hD.1 j k _ _ hj hk rfl) hjk
  · rw [va_up_ne _ _ hb]
    constructor
    · intro he
      obtain ⟨j, hj⟩ := (h b e').mp he
      refine ⟨j, ?_⟩
      have hjk : j ≠ k := by
        intro q
        subst q
        rw [hk] at hj
        exact hb (Prod.mk.inj (Option.some.inj hj)).1.symm
      rw [List.getElem?_set_ne (Ne.symm hjk)]
      exact hj
    · rintro ⟨j, hj⟩
      by_cases hjk : j = k
      · subst hjk
        rw [List.getElem?_set_self hl] at hj
        exact absurd (Prod.mk.inj (Option.some.inj hj)).1.symm hb
      · rw [List.getElem?_set_ne (Ne.symm hjk)] at hj
        exact (h b e').mpr ⟨j, hj⟩
theorem xw_in_fresh {A : Nat → Prop} {w : xw_T} {ws : va_W} {q : Nat} {e : va_E} (h : xw_in w ws) (hD : va_D A (ws ++ [(q, e)])) : w q = none := by
  cases hq : w q with
  | none => rfl
  | some e1 =>
    obtain ⟨k, hk⟩ := (h q e1).mp hq
    have hl := (List.getElem?_eq_some_iff.mp hk).1
    have h1 : (ws ++ [(q, e)])[k]? = some (q, e1) := by rw [List.getElem?_append_left hl]; exact hk
    have h2 : (ws ++ [(q, e)])[ws.length]? = some (q, e) := by rw [List.getElem?_append_right (Nat.le_refl _), Nat.sub_self]; rfl
    have := hD.1 _ _ _ _ h1 h2 rfl
    omega
theorem xw_in_push {A : Nat → Prop} {w : xw_T} {ws : va_W} {q : Nat} {e : va_E} (h : xw_in w ws) (hD : va_D A (ws ++ [(q, e)])) : xw_in (va_up w q (some e)) (ws ++ [(q, e)]) := by
  have hf := xw_in_fresh h hD
  have h2 : (ws ++ [(q, e)])[ws.length]? = some (q, e) := by rw [List.getElem?_append_right (Nat.le_refl _), Nat.sub_self]; rfl
  intro b e'
  by_cases hb : b = q
  · subst hb
    rw [va_up_self]
    constructor
    · intro he
      exact ⟨ws.length, by rw [h2, Option.some.inj he]⟩
    · rintro ⟨j, hj⟩
      have hjk := hD.1 _ _ _ _ hj h2 rfl
      subst hjk
      rw [h2] at hj
      rw [(Prod.mk.inj (Option.some.inj hj)).2]
  · rw [va_up_ne _ _ hb]
    constructor
    · intro he
      obtain ⟨j, hj⟩ := (h b e').mp he
      exact ⟨j, by rw [List.getElem?_append_left (List.getElem?_eq_some_iff.mp hj).1]; exact hj⟩
    · rintro ⟨j, hj⟩
      by_cases hl : j < ws.length
      · rw [List.getElem?_append_left hl] at hj
        exact (h b e').mpr ⟨j, hj⟩
      · have hjl := (List.getElem?_eq_some_iff.mp hj).1
        rw [List.length_append, List.length_singleton] at hjl
        have : j = ws.length := by omega
        subst this
        rw [h2] at hj
        exact absurd (Prod.mk.inj (Option.some.inj hj)).1.symm hb
/-- a field, an array, of the map -/
def xg (w : xw_T) (a ci k : Nat) : Option Value := match w a with
  | some (.inr o) => if o.1 = ci then o.2[k]? else none
  | _ => none
def xvI : Option Value → Option Int32
  | some (.int x) => some x
  | _ => none
def xvL : Option Value → Option Int64
  | some (.long x) => some x
  | _ => none
def xvR : Option Value → Option (Option Nat)
  | some (.ref x) => some (some x)
  | some .null => some none
  | _ => none
def xgI (w : xw_T) (a ci k : Nat) : Option Int32 := xvI (xg w a ci k)
def xgL (w : xw_T) (a ci k : Nat) : Option Int64 := xvL (xg w a ci k)
def xgR (w : xw_T) (a ci k : Nat) : Option (Option Nat) := xvR (xg w a ci k)
def xp (w : xw_T) (a k : Nat) (v : Value) : xw_T := match w a with
  | some (.inr o) => va_up w a (some (.inr (o.1, o.2.set k v)))
  | _ => w
def xaE (w : xw_T) (a : Nat) (cA : ClassId) : Option vp_A := match w a with
  | some (.inl x) => if x.1 = cA then some x.2 else none
  | _ => none
def xvaI : Option vp_A → Option (Nat × (Nat → Int32))
  | some (n, .inl f) => some (n, f)
  | _ => none
def xvaL : Option vp_A → Option (Nat × (Nat → Int64))
  | some (n, .inr (.inl f)) => some (n, f)
  | _ => none
def xvaQ : Option vp_A → Option (Nat × (Nat → Option Nat))
  | some (n, .inr (.inr (.inr (.inr f)))) => some (n, f)
  | _ => none
def xaI (w : xw_T) (a : Nat) (cA : ClassId) : Option (Nat × (Nat → Int32)) := xvaI (xaE w a cA)
def xaL (w : xw_T) (a : Nat) (cA : ClassId) : Option (Nat × (Nat → Int64)) := xvaL (xaE w a cA)
def xaQ (w : xw_T) (a : Nat) (cA : ClassId) : Option (Nat × (Nat → Option Nat)) := xvaQ (xaE w a cA)
abbrev xcI (cA : ClassId) (n : Nat) (f : Nat → Int32) : va_E := .inl (cA, n, .inl f)
abbrev xcL (cA : ClassId) (n : Nat) (f : Nat → Int64) : va_E := .inl (cA, n, .inr (.inl f))
abbrev xcQ (cA : ClassId) (n : Nat) (f : Nat → Option Nat) : va_E := .inl (cA, n, .inr (.inr (.inr (.inr f))))
theorem xg_spec {w : xw_T} {a ci k : Nat} {v : Value} (h : xg w a ci k = some v) : ∃ fs : List Value, w a = some (.inr (ci, fs)) ∧ fs[k]? = some v := by
  unfold xg at h
  cases hw : w a with
  | none => rw [hw] at h; cases h
  | some e =>
    rw [hw] at h
    cases e with
    | inl x => cases h
    | inr o =>
      obtain ⟨o1, o2⟩ := o
      dsimp only at h
      by_cases ho : o1 = ci
      · subst ho
        rw [if_pos rfl] at h
        exact ⟨o2, rfl, h⟩
      · rw [if_neg ho] at h; cases h
theorem xgI_spec {w : xw_T} {a ci k : Nat} {v : Int32} (h : xgI w a ci k = some v) : xg w a ci k = some (.int v) := by
  unfold xgI at h
  cases hx : xg w a ci k with
  | none => rw [hx] at h; cases h
  | some y => rw [hx] at h; cases y <;> first | (cases h; rfl) | cases h
theorem xgL_spec {w : xw_T} {a ci k : Nat} {v : Int64} (h : xgL w a ci k = some v) : xg w a ci k = some (.long v) := by
  unfold xgL at h
  cases hx : xg w a ci k with
  | none => rw [hx] at h; cases h
  | some y => rw [hx] at h; cases y <;> first | (cases h; rfl) | cases h
theorem xgR_spec {w : xw_T} {a ci k : Nat} {v : Option Nat} (h : xgR w a ci k = some v) : xg w a ci k = some (va_rf v) := by
  unfold xgR at h
  cases hx : xg w a ci k with
  | none => rw [hx] at h; cases h
  | some y => rw [hx] at h; cases y <;> first | (cases h; rfl) | cases h
theorem xaE_spec {w : xw_T} {a : Nat} {cA : ClassId} {x : vp_A} (h : xaE w a cA = some x) : w a = some (.inl (cA, x)) := by
  unfold xaE at h
  cases hw : w a with
  | none => rw [hw] at h; cases h
  | some e =>
    rw [hw] at h
    cases e with
    | inr o => cases h
    | inl y =>
      obtain ⟨y1, y2⟩ := y
      dsimp only at h
      by_cases ho : y1 = cA
      · subst ho
        rw [if_pos rfl] at h
        rw [Option.some.inj h]
      · rw [if_neg ho] at h; cases h
theorem xaI_spec {w : xw_T} {a : Nat} {cA : ClassId} {n : Nat} {f : Nat → Int32} (h : xaI w a cA = some (n, f)) : w a = some (xcI cA n f) := by
  unfold xaI at h
  cases hx : xaE w a cA with
  | none => rw [hx] at h; cases h
  | some y =>
    rw [hx] at h
    obtain ⟨n1, y⟩ := y
    rcases y with y | y | y | y | y <;> first | (cases h; exact xaE_spec hx) | cases h
theorem xaL_spec {w : xw_T} {a : Nat} {cA : ClassId} {n : Nat} {f : Nat → Int64} (h : xaL w a cA = some (n, f)) : w a = some (xcL cA n f) := by
  unfold xaL at h
  cases hx : xaE w a cA with
  | none => rw [hx] at h; cases h
  | some y =>
    rw [hx] at h
    obtain ⟨n1, y⟩ := y
    rcases y with y | y | y | y | y <;> first | (cases h; exact xaE_spec hx) | cases h
theorem xaQ_spec {w : xw_T} {a : Nat} {cA : ClassId} {n : Nat} {f : Nat → Option Nat} (h : xaQ w a cA = some (n, f)) : w a = some (xcQ cA n f) := by
  unfold xaQ at h
  cases hx : xaE w a cA with
  | none => rw [hx] at h; cases h
  | some y =>
    rw [hx] at h
    obtain ⟨n1, y⟩ := y
    rcases y with y | y | y | y | y <;> first | (cases h; exact xaE_spec hx) | cases h
/-- the same read off the map -/
theorem xg_of {w : xw_T} {a ci k : Nat} {fs : List Value} (h : w a = some (.inr (ci, fs))) : xg w a ci k = fs[k]? := by
  unfold xg; rw [h]; exact if_pos rfl
theorem xp_of {w : xw_T} {a ci k : Nat} {fs : List Value} {v : Value} (h : w a = some (.inr (ci, fs))) : xp w a k v = va_up w a (some (.inr (ci, fs.set k v))) := by
  unfold xp; rw [h]
theorem xaI_of {w : xw_T} {a : Nat} {cA : ClassId} {n : Nat} {f : Nat → Int32} (h : w a = some (xcI cA n f)) : xaI w a cA = some (n, f) := by
  unfold xaI xaE; rw [h]; dsimp only; rw [if_pos rfl]; rfl
theorem xaL_of {w : xw_T} {a : Nat} {cA : ClassId} {n : Nat} {f : Nat → Int64} (h : w a = some (xcL cA n f)) : xaL w a cA = some (n, f) := by
  unfold xaL xaE; rw [h]; dsimp only; rw [if_pos rfl]; rfl
theorem xaQ_of {w : xw_T} {a : Nat} {cA : ClassId} {n : Nat} {f : Nat → Option Nat} (h : w a = some (xcQ cA n f)) : xaQ w a cA = some (n, f) := by
  unfold xaQ xaE; rw [h]; dsimp only; rw [if_pos rfl]; rfl
theorem va_rf_cat (r : Option Nat) : (va_rf r).category = 1 := by cases r <;> rfl
theorem xcat_i (x : Int32) : (Value.int x).category = 1 := rfl
theorem xcat_l (x : Int64) : (Value.long x).category = 2 := rfl
theorem xcat_r (x : Nat) : (Value.ref x).category = 1 := rfl
theorem xcat_n : (Value.null).category = 1 := rfl
end
section
/-! ROWS OVER THE MAP: fields, arrays, new -/
section XR
variable {p : Program} {l : Launch} {e : Env} {R : Room} {s : State} {m : MethodId} {args : Array Value} {below : List Frame} {meth : Method} {c : Code} {H : Heap} {locs : List Loc} {cells slots : Nat} {Q : State → Prop}
variable {cc : ByteArray} {pc : Nat} {ls : Array Slot} {rest : List Value} {D : va_G} {cl : List vw_C} {A : Nat → Prop} {a : Nat} {tys : List (ClassId × FieldType)} {H0 : Heap} {w : xw_T}
theorem xw_get (hexec : p.tables.exec = Jvm.exec) (hb : c.code = cc) {own ref C : String} {T : u_T} {N ci index : Nat} {Ts : List Cond} (hts : ∀ w ∈ Ts, w.before args s = true) (hin : ∀ w ∈ u_ws C T N, w ∈ Ts) (hown : s.vm.findClass own = some m.cls) (hK : va_K D cl tys s) (hw : xw_S D cl A H0 w H locs) (hc : cl[ci]? = some (C, T, N)) (k : Nat) (hk : k < N) (hlink : (Cond.fieldLink own index ref (T k).2.1 (T k).2.2.1).before args s = true) (hsame : ∀ x, s.fieldFound? (T k).1 (T k).2.1 (T k).2.2.1 = some x → s.fieldFound? ref (T k).2.1 (T k).2.2.1 = some x) {v : Value} (hv : xg w a ci k = some v) (hdg : decode cc pc = .ok (.getfield index, 3))
    (kk : W p l e R s m args below meth c H locs cells slots Q (F0 m (pc + 3) ls (v :: rest))) : W p l e R s m args below meth c H locs cells slots Q (F0 m pc ls (.ref a :: rest)) := by
  obtain ⟨⟨ws, hi, hP, hD⟩, hS, hA⟩ := hw
  obtain ⟨fs, h1, h2⟩ := xg_spec hv
  obtain ⟨q0, hq⟩ := (hi _ _).mp h1
  exact va_get hexec hb hts hin hown hK hP q0 hq hc k hk hlink hsame h2 hdg kk
theorem xw_getI (hexec : p.tables.exec = Jvm.exec) (hb : c.code = cc) {own ref C : String} {T : u_T} {N ci index : Nat} {Ts : List Cond} (hts : ∀ w ∈ Ts, w.before args s = true) (hin : ∀ w ∈ u_ws C T N, w ∈ Ts) (hown : s.vm.findClass own = some m.cls) (hK : va_K D cl tys s) (hw : xw_S D cl A H0 w H locs) (hc : cl[ci]? = some (C, T, N)) (k : Nat) (hk : k < N) (hlink : (Cond.fieldLink own index ref (T k).2.1 (T k).2.2.1).before args s = true) (hsame : ∀ x, s.fieldFound? (T k).1 (T k).2.1 (T k).2.2.1 = some x → s.fieldFound? ref (T k).2.1 (T k).2.2.1 = some x) {v : Int32} (hv : xgI w a ci k = some v) (hdg : decode cc pc = .ok (.getfield index, 3))
    (kk : W p l e R s m args below meth c H locs cells slots Q (F0 m (pc + 3) ls (.int v :: rest))) : W p l e R s m args below meth c H locs cells slots Q (F0 m pc ls (.ref a :: rest)) := xw_get hexec hb hts hin hown hK hw hc k hk hlink hsame (xgI_spec hv) hdg kk
theorem xw_getL (hexec : p.tables.exec = Jvm.exec) (hb : c.code = cc) {own ref C : String} {T : u_T} {N ci index : Nat} {Ts : List Cond} (hts : ∀ w ∈ Ts, w.before args s = true) (hin : ∀ w ∈ u_ws C T N, w ∈ Ts) (hown : s.vm.findClass own = some m.cls) (hK : va_K D cl tys s) (hw : xw_S D cl A H0 w H locs) (hc : cl[ci]? = some (C, T, N)) (k : Nat) (hk : k < N) (hlink : (Cond.fieldLink own index ref (T k).2.1 (T k).2.2.1).before args s = true) (hsame : ∀ x, s.fieldFound? (T k).1 (T k).2.1 (T k).2.2.1 = some x → s.fieldFound? ref (T k).2.1 (T k).2.2.1 = some x) {v : Int64} (hv : xgL w a ci k = some v) (hdg : decode cc pc = .ok (.getfield index, 3))
    (kk : W p l e R s m args below meth c H locs cells slots Q (F0 m (pc + 3) ls (.long v :: rest))) : W p l e R s m args below meth c H locs cells slots Q (F0 m pc ls (.ref a :: rest)) := xw_get hexec hb hts hin hown hK hw hc k hk hlink hsame (xgL_spec hv) hdg kk
theorem xw_getR (hexec : p.tables.exec = Jvm.exec) (hb : c.code = cc) {own ref C : String} {T : u_T} {N ci index : Nat} {Ts : List Cond} (hts : ∀ w ∈ Ts, w.before args s = true) (hin : ∀ w ∈ u_ws C T N, w ∈ Ts) (hown : s.vm.findClass own = some m.cls) (hK : va_K D cl tys s) (hw : xw_S D cl A H0 w H locs) (hc : cl[ci]? = some (C, T, N)) (k : Nat) (hk : k < N) (hlink : (Cond.fieldLink own index ref (T k).2.1 (T k).2.2.1).before args s = true) (hsame : ∀ x, s.fieldFound? (T k).1 (T k).2.1 (T k).2.2.1 = some x → s.fieldFound? ref (T k).2.1 (T k).2.2.1 = some x) {v : Option Nat} (hv : xgR w a ci k = some v) (hdg : decode cc pc = .ok (.getfield index, 3))
    (kk : W p l e R s m args below meth c H locs cells slots Q (F0 m (pc + 3) ls (va_rf v :: rest))) : W p l e R s m args below meth c H locs cells slots Q (F0 m pc ls (.ref a :: rest)) := xw_get hexec hb hts hin hown hK hw hc k hk hlink hsame (xgR_spec hv) hdg kk
theorem xw_S_set {ws : va_W} {k : Nat} {e0 e1 : va_E} {H1 : Heap} {locs1 : List Loc} (hi : xw_in w ws) (hD0 : va_D A ws) (hA : ∀ q : Nat, H0.size ≤ q → A q) (hk : ws[k]? = some (a, e0)) (hP : va_P D cl (ws.set k (a, e1)) H1) (hD : va_D A (ws.set k (a, e1))) (hS : va_S A H0 H1 locs1) : xw_S D cl A H0 (va_up w a (some e1)) H1 locs1 :=
  ⟨⟨_, xw_in_set hi hD0 hk, hP, hD⟩, hS, hA⟩
theorem xw_put (hexec : p.tables.exec = Jvm.exec) (hb : c.code = cc) {own ref C : String} {T : u_T} {N ci index : Nat} {Ts : List Cond} (hts : ∀ w ∈ Ts, w.before args s = true) (hin : ∀ w ∈ u_ws C T N, w ∈ Ts) (ty0 : Nat → FieldType) (hty : ∀ k, k < N → parseFieldDescriptor (T k).2.2.1 = some (ty0 k)) (hnm : ∀ a, a < N → ∀ b, b < N → a ≠ b → (T a).2.1 ≠ (T b).2.1) (hown : s.vm.findClass own = some m.cls) (hK : va_K D cl tys s) (hw : xw_S D cl A H0 w H locs) (hc : cl[ci]? = some (C, T, N)) (k : Nat) (hk : k < N) (hlink : (Cond.fieldLink own index ref (T k).2.1 (T k).2.2.1).before args s = true) (hsame : ∀ x, s.fieldFound? (T k).1 (T k).2.1 (T k).2.2.1 = some x → s.fieldFound? ref (T k).2.1 (T k).2.2.1 = some x) (hfin : (T k).2.2.2 = false) {ty : FieldType} {v : Value} (hd : parseFieldDescriptor (T k).2.2.1 = some ty) (hn : narrow ty v = v) (hfit : fits ty v = true) (hv : ∃ v0, xg w a ci k = some v0)
    (hdg : decode cc pc = .ok (.putfield index, 3)) (kk : ∀ (H1 : Heap) (locs1 : List Loc), xw_S D cl A H0 (xp w a k v) H1 locs1 → W p l e R s m args below meth c H1 locs1 cells slots Q (F0 m (pc + 3) ls rest)) : W p l e R s m args below meth c H locs cells slots Q (F0 m pc ls (v :: .ref a :: rest)) := by
  obtain ⟨⟨ws, hi, hP, hD⟩, hS, hA⟩ := hw
  obtain ⟨v0, hv⟩ := hv
  obtain ⟨fs, h1, h2⟩ := xg_spec hv
  obtain ⟨q0, hq⟩ := (hi _ _).mp h1
  rw [xp_of h1] at kk
  exact va_put hexec hb hts hin ty0 hty hnm hown hK hP hD hS q0 hq hc k hk hlink hsame hfin hd hn hfit (List.getElem?_eq_some_iff.mp h2).1 hdg (fun H1 locs1 hP1 hD1 hS1 => kk H1 locs1 (xw_S_set hi hD hA hq hP1 hD1 hS1))
theorem xw_putF (hexec : p.tables.exec = Jvm.exec) (hb : c.code = cc) {own ref C : String} {T : u_T} {N ci index : Nat} {Ts : List Cond} (hts : ∀ w ∈ Ts, w.before args s = true) (hin : ∀ w ∈ u_ws C T N, w ∈ Ts) (ty0 : Nat → FieldType) (hty : ∀ k, k < N → parseFieldDescriptor (T k).2.2.1 = some (ty0 k)) (hnm : ∀ a, a < N → ∀ b, b < N → a ≠ b → (T a).2.1 ≠ (T b).2.1) (hown : s.vm.findClass own = some m.cls) (hK : va_K D cl tys s) (hw : xw_S D cl A H0 w H locs) (hc : cl[ci]? = some (C, T, N)) (k : Nat) (hk : k < N) (hlink : (Cond.fieldLink own index ref (T k).2.1 (T k).2.2.1).before args s = true) (hsame : ∀ x, s.fieldFound? (T k).1 (T k).2.1 (T k).2.2.1 = some x → s.fieldFound? ref (T k).2.1 (T k).2.2.1 = some x) (hfin : (T k).2.2.2 = true) (hin2 : meth.name = "<init>") (hdecl : (T k).1 = own) {ty : FieldType} {v : Value} (hd : parseFieldDescriptor (T k).2.2.1 = some ty) (hn : narrow ty v = v) (hfit : fits ty v = true) (hv : ∃ v0, xg w a ci k = some v0)
    (hdg : decode cc pc = .ok (.putfield index, 3)) (kk : ∀ (H1 : Heap) (locs1 : List Loc), xw_S D cl A H0 (xp w a k v) H1 locs1 → W p l e R s m args below meth c H1 locs1 cells slots Q (F0 m (pc + 3) ls rest)) : W p l e R s m args below meth c H locs cells slots Q (F0 m pc ls (v :: .ref a :: rest)) := by
  obtain ⟨⟨ws, hi, hP, hD⟩, hS, hA⟩ := hw
  obtain ⟨v0, hv⟩ := hv
  obtain ⟨fs, h1, h2⟩ := xg_spec hv
  obtain ⟨q0, hq⟩ := (hi _ _).mp h1
  rw [xp_of h1] at kk
  exact va_putF hexec hb hts hin ty0 hty hnm hown hK hP hD hS q0 hq hc k hk hlink hsame hfin hin2 hdecl hd hn hfit (List.getElem?_eq_some_iff.mp h2).1 hdg (fun H1 locs1 hP1 hD1 hS1 => kk H1 locs1 (xw_S_set hi hD hA hq hP1 hD1 hS1))
theorem xw_getN (hexec : p.tables.exec = Jvm.exec) (hb : c.code = cc) {own ref C host : String} {T : u_T} {N ci index : Nat} {Ts : List Cond} (hts : ∀ w ∈ Ts, w.before args s = true) (hin : ∀ w ∈ u_ws C T N, w ∈ Ts) (hown : s.vm.findClass own = some m.cls) (hK : va_K D cl tys s) (hw : xw_S D cl A H0 w H locs) (hc : cl[ci]? = some (C, T, N)) (k : Nat) (hk : k < N) (hlink : (Cond.fieldLinkNest own index ref (T k).2.1 (T k).2.2.1 host).before args s = true) (hsame : ∀ x, s.fieldFound? (T k).1 (T k).2.1 (T k).2.2.1 = some x → s.fieldFound? ref (T k).2.1 (T k).2.2.1 = some x) {v : Value} (hv : xg w a ci k = some v) (hdg : decode cc pc = .ok (.getfield index, 3))
    (kk : W p l e R s m args below meth c H locs cells slots Q (F0 m (pc + 3) ls (v :: rest))) : W p l e R s m args below meth c H locs cells slots Q (F0 m pc ls (.ref a :: rest)) := by
  obtain ⟨⟨ws, hi, hP, hD⟩, hS, hA⟩ := hw
  obtain ⟨fs, h1, h2⟩ := xg_spec hv
  obtain ⟨q0, hq⟩ := (hi _ _).mp h1
  exact va_getN hexec hb hts hin hown hK hP q0 hq hc k hk hlink hsame h2 hdg kk
theorem xw_putN (hexec : p.tables.exec = Jvm.exec) (hb : c.code = cc) {own ref C host : String} {T : u_T} {N ci index : Nat} {Ts : List Cond} (hts : ∀ w ∈ Ts, w.before args s = true) (hin : ∀ w ∈ u_ws C T N, w ∈ Ts) (ty0 : Nat → FieldType) (hty : ∀ k, k < N → parseFieldDescriptor (T k).2.2.1 = some (ty0 k)) (hnm : ∀ a, a < N → ∀ b, b < N → a ≠ b → (T a).2.1 ≠ (T b).2.1) (hown : s.vm.findClass own = some m.cls) (hK : va_K D cl tys s) (hw : xw_S D cl A H0 w H locs) (hc : cl[ci]? = some (C, T, N)) (k : Nat) (hk : k < N) (hlink : (Cond.fieldLinkNest own index ref (T k).2.1 (T k).2.2.1 host).before args s = true) (hsame : ∀ x, s.fieldFound? (T k).1 (T k).2.1 (T k).2.2.1 = some x → s.fieldFound? ref (T k).2.1 (T k).2.2.1 = some x) (hfin : (T k).2.2.2 = false) {ty : FieldType} {v : Value} (hd : parseFieldDescriptor (T k).2.2.1 = some ty) (hn : narrow ty v = v) (hfit : fits ty v = true) (hv : ∃ v0, xg w a ci k = some v0)
    (hdg : decode cc pc = .ok (.putfield index, 3)) (kk : ∀ (H1 : Heap) (locs1 : List Loc), xw_S D cl A H0 (xp w a k v) H1 locs1 → W p l e R s m args below meth c H1 locs1 cells slots Q (F0 m (pc + 3) ls rest)) : W p l e R s m args below meth c H locs cells slots Q (F0 m pc ls (v :: .ref a :: rest)) := by
  obtain ⟨⟨ws, hi, hP, hD⟩, hS, hA⟩ := hw
  obtain ⟨v0, hv⟩ := hv
  obtain ⟨fs, h1, h2⟩ := xg_spec hv
  obtain ⟨q0, hq⟩ := (hi _ _).mp h1
  rw [xp_of h1] at kk
  exact va_putN hexec hb hts hin ty0 hty hnm hown hK hP hD hS q0 hq hc k hk hlink hsame hfin hd hn hfit (List.getElem?_eq_some_iff.mp h2).1 hdg (fun H1 locs1 hP1 hD1 hS1 => kk H1 locs1 (xw_S_set hi hD hA hq hP1 hD1 hS1))
theorem xw_new (hexec : p.tables.exec = Jvm.exec) (hb : c.code = cc) {own C : String} {T : u_T} {N ci index : Nat} {Ts : List Cond} (hts : ∀ w ∈ Ts, w.before args s = true) (hin : ∀ w ∈ u_ws C T N, w ∈ Ts) (ty : Nat → FieldType) (hty : ∀ k, k < N → parseFieldDescriptor (T k).2.2.1 = some (ty k)) (hown : s.vm.findClass own = some m.cls) (hcl : (Cond.classLink own index C).before args s = true) (hinst : (Cond.instantiable C N).before args s = true) (hini : (Cond.initialized C).before args s = true)
    (hK : va_K D cl tys s) (hw : xw_S D cl A H0 w H locs) (hc : cl[ci]? = some (C, T, N)) {fs : List Value} (hfs : ∀ j, j < N → defaultValue (ty j) = vp_V fs j) (hcells : cells + 1 ≤ R.cells) (hslots : slots + N ≤ R.slots) (hdg : decode cc pc = .ok (.new index, 3))
    (kk : ∀ (q : Nat) (H1 : Heap), w q = none → xw_S D cl A H0 (va_up w q (some (.inr (ci, fs)))) H1 locs → W p l e R s m args below meth c H1 locs (cells + 1) (slots + N) Q (F0 m (pc + 3) ls (.ref q :: rest))) : W p l e R s m args below meth c H locs cells slots Q (F0 m pc ls rest) := by
  obtain ⟨⟨ws, hi, hP, hD⟩, hS, hA⟩ := hw
  exact va_new hexec hb hts hin ty hty hown hcl hinst hini hK hP hD hS hA hc hfs hcells hslots hdg (fun q H1 hP1 hD1 hS1 => kk q H1 (xw_in_fresh hi hD1) ⟨⟨_, xw_in_push hi hD1, hP1, hD1⟩, hS1, hA⟩)
/-- arrays -/
theorem xw_alen (hexec : p.tables.exec = Jvm.exec) (hb : c.code = cc) (hK : va_K D cl tys s) (hw : xw_S D cl A H0 w H locs) (t0 : Nat) {cA : ClassId} {ty : FieldType} (ht : tys[t0]? = some (cA, ty)) {x : vp_A} (ha : w a = some (.inl (cA, x))) (hdg : decode cc pc = .ok (.arraylength, 1))
    (kk : W p l e R s m args below meth c H locs cells slots Q (F0 m (pc + 1) ls (.int (nI x.1) :: rest))) : W p l e R s m args below meth c H locs cells slots Q (F0 m pc ls (.ref a :: rest)) := by
  obtain ⟨⟨ws, hi, hP, hD⟩, hS, hA⟩ := hw
  obtain ⟨q0, hq⟩ := (hi _ _).mp ha
  exact va_alen hexec hb hK hP q0 t0 hq ht rfl hdg kk
theorem xw_iald (hexec : p.tables.exec = Jvm.exec) (hb : c.code = cc) (hK : va_K D cl tys s) (hw : xw_S D cl A H0 w H locs) (t0 : Nat) {cA : ClassId} (ht : tys[t0]? = some (cA, .int)) {n : Nat} {f : Nat → Int32} (ha : xaI w a cA = some (n, f)) {i : Int32} (hin : vp_in i n) (hdg : decode cc pc = .ok (.iaload, 1))
    (kk : W p l e R s m args below meth c H locs cells slots Q (F0 m (pc + 1) ls (.int (f i.toNatClampNeg) :: rest))) : W p l e R s m args below meth c H locs cells slots Q (F0 m pc ls (.int i :: .ref a :: rest)) := by
  obtain ⟨⟨ws, hi, hP, hD⟩, hS, hA⟩ := hw
  obtain ⟨q0, hq⟩ := (hi _ _).mp (xaI_spec ha)
  exact va_iald hexec hb hK hP q0 t0 hq ht hin hdg kk
theorem xw_zald (hexec : p.tables.exec = Jvm.exec) (hb : c.code = cc) (hK : va_K D cl tys s) (hw : xw_S D cl A H0 w H locs) (t0 : Nat) {cA : ClassId} (ht : tys[t0]? = some (cA, .boolean)) {n : Nat} {f : Nat → Int32} (ha : xaI w a cA = some (n, f)) {i : Int32} (hin : vp_in i n) (hdg : decode cc pc = .ok (.baload, 1))
    (kk : W p l e R s m args below meth c H locs cells slots Q (F0 m (pc + 1) ls (.int (f i.toNatClampNeg) :: rest))) : W p l e R s m args below meth c H locs cells slots Q (F0 m pc ls (.int i :: .ref a :: rest)) := by
  obtain ⟨⟨ws, hi, hP, hD⟩, hS, hA⟩ := hw
  obtain ⟨q0, hq⟩ := (hi _ _).mp (xaI_spec ha)
  exact va_zald hexec hb hK hP q0 t0 hq ht hin hdg kk
theorem xw_lald (hexec : p.tables.exec = Jvm.exec) (hb : c.code = cc) (hK : va_K D cl tys s) (hw : xw_S D cl A H0 w H locs) (t0 : Nat) {cA : ClassId} (ht : tys[t0]? = some (cA, .long)) {n : Nat} {f : Nat → Int64} (ha : xaL w a cA = some (n, f)) {i : Int32} (hin : vp_in i n) (hdg : decode cc pc = .ok (.laload, 1))
    (kk : W p l e R s m args below meth c H locs cells slots Q (F0 m (pc + 1) ls (.long (f i.toNatClampNeg) :: rest))) : W p l e R s m args below meth c H locs cells slots Q (F0 m pc ls (.int i :: .ref a :: rest)) := by
  obtain ⟨⟨ws, hi, hP, hD⟩, hS, hA⟩ := hw
  obtain ⟨q0, hq⟩ := (hi _ _).mp (xaL_spec ha)
  exact va_lald hexec hb hK hP q0 t0 hq ht hin hdg kk
theorem xw_aald (hexec : p.tables.exec = Jvm.exec) (hb : c.code = cc) (hK : va_K D cl tys s) (hw : xw_S D cl A H0 w H locs) (t0 : Nat) {cA : ClassId} {C : String} (ht : tys[t0]? = some (cA, .object C)) {n : Nat} {f : Nat → Option Nat} (ha : xaQ w a cA = some (n, f)) {i : Int32} (hin : vp_in i n) (hdg : decode cc pc = .ok (.aaload, 1))
    (kk : W p l e R s m args below meth c H locs cells slots Q (F0 m (pc + 1) ls (va_rf (f i.toNatClampNeg) :: rest))) : W p l e R s m args below meth c H locs cells slots Q (F0 m pc ls (.int i :: .ref a :: rest)) := by
  obtain ⟨⟨ws, hi, hP, hD⟩, hS, hA⟩ := hw
  obtain ⟨q0, hq⟩ := (hi _ _).mp (xaQ_spec ha)
  exact va_aldq hexec hb hK hP q0 t0 hq ht hin hdg kk
end XR
end
section
/-! ROWS OVER THE MAP: stores into arrays, new arrays, casts, locals that hold a reference or null, compares of longs -/
section XR2
variable {p : Program} {l : Launch} {e : Env} {R : Room} {s : State} {m : MethodId} {args : Array Value} {below : List Frame} {meth : Method} {c : Code} {H : Heap} {locs : List Loc} {cells slots : Nat} {Q : State → Prop}
variable {cc : ByteArray} {pc : Nat} {ls : Array Slot} {rest : List Value} {D : va_G} {cl : List vw_C} {A : Nat → Prop} {a : Nat} {tys : List (ClassId × FieldType)} {H0 : Heap} {w : xw_T}
theorem xw_iast (hexec : p.tables.exec = Jvm.exec) (hb : c.code = cc) (hK : va_K D cl tys s) (hw : xw_S D cl A H0 w H locs) (t0 : Nat) {cA : ClassId} (ht : tys[t0]? = some (cA, .int)) {n : Nat} {f : Nat → Int32} (ha : xaI w a cA = some (n, f)) {i x : Int32} (hin : vp_in i n) (hdg : decode cc pc = .ok (.iastore, 1))
    (kk : ∀ (H1 : Heap) (locs1 : List Loc), xw_S D cl A H0 (va_up w a (some (xcI cA n (upd f i.toNatClampNeg x)))) H1 locs1 → W p l e R s m args below meth c H1 locs1 cells slots Q (F0 m (pc + 1) ls rest)) : W p l e R s m args below meth c H locs cells slots Q (F0 m pc ls (.int x :: .int i :: .ref a :: rest)) := by
  obtain ⟨⟨ws, hi, hP, hD⟩, hS, hA⟩ := hw
  obtain ⟨q0, hq⟩ := (hi _ _).mp (xaI_spec ha)
  exact va_iast hexec hb hK hP hD hS q0 t0 hq ht hin hdg (fun H1 locs1 hP1 hD1 hS1 => kk H1 locs1 (xw_S_set hi hD hA hq hP1 hD1 hS1))
theorem xw_zast (hexec : p.tables.exec = Jvm.exec) (hb : c.code = cc) (hK : va_K D cl tys s) (hw : xw_S D cl A H0 w H locs) (t0 : Nat) {cA : ClassId} (ht : tys[t0]? = some (cA, .boolean)) {n : Nat} {f : Nat → Int32} (ha : xaI w a cA = some (n, f)) {i x : Int32} (hin : vp_in i n) (hdg : decode cc pc = .ok (.bastore, 1))
    (kk : ∀ (H1 : Heap) (locs1 : List Loc), xw_S D cl A H0 (va_up w a (some (xcI cA n (upd f i.toNatClampNeg (vp_nar .boolean x))))) H1 locs1 → W p l e R s m args below meth c H1 locs1 cells slots Q (F0 m (pc + 1) ls rest)) : W p l e R s m args below meth c H locs cells slots Q (F0 m pc ls (.int x :: .int i :: .ref a :: rest)) := by
  obtain ⟨⟨ws, hi, hP, hD⟩, hS, hA⟩ := hw
  obtain ⟨q0, hq⟩ := (hi _ _).mp (xaI_spec ha)
  exact va_zast hexec hb hK hP hD hS q0 t0 hq ht hin hdg (fun H1 locs1 hP1 hD1 hS1 => kk H1 locs1 (xw_S_set hi hD hA hq hP1 hD1 hS1))
theorem xw_last (hexec : p.tables.exec = Jvm.exec) (hb : c.code = cc) (hK : va_K D cl tys s) (hw : xw_S D cl A H0 w H locs) (t0 : Nat) {cA : ClassId} (ht : tys[t0]? = some (cA, .long)) {n : Nat} {f : Nat → Int64} (ha : xaL w a cA = some (n, f)) {i : Int32} {x : Int64} (hin : vp_in i n) (hdg : decode cc pc = .ok (.lastore, 1))
    (kk : ∀ (H1 : Heap) (locs1 : List Loc), xw_S D cl A H0 (va_up w a (some (xcL cA n (vp_updL f i.toNatClampNeg x)))) H1 locs1 → W p l e R s m args below meth c H1 locs1 cells slots Q (F0 m (pc + 1) ls rest)) : W p l e R s m args below meth c H locs cells slots Q (F0 m pc ls (.long x :: .int i :: .ref a :: rest)) := by
  obtain ⟨⟨ws, hi, hP, hD⟩, hS, hA⟩ := hw
  obtain ⟨q0, hq⟩ := (hi _ _).mp (xaL_spec ha)
  exact va_last hexec hb hK hP hD hS q0 t0 hq ht hin hdg (fun H1 locs1 hP1 hD1 hS1 => kk H1 locs1 (xw_S_set hi hD hA hq hP1 hD1 hS1))
/-- an object of a class of the world into an array of Objects (or of that class's name): what can be assigned is said by hasg -/
theorem xw_aast (hexec : p.tables.exec = Jvm.exec) (hb : c.code = cc) (hK : va_K D cl tys s) (hw : xw_S D cl A H0 w H locs) (t0 : Nat) {cA : ClassId} {E : String} (ht : tys[t0]? = some (cA, .object E)) {n : Nat} {f : Nat → Option Nat} (ha : xaQ w a cA = some (n, f)) {v ci : Nat} {vs : List Value} {r : vw_C} (hv : w v = some (.inr (ci, vs))) (hc : cl[ci]? = some r) (hasg : ∀ comp c0 : ClassId, s.vm.findClass E = some comp → s.vm.findClass r.1 = some c0 → s.vm.assignable c0 comp = true) {i : Int32} (hin : vp_in i n) (hdg : decode cc pc = .ok (.aastore, 1))
    (kk : ∀ (H1 : Heap) (locs1 : List Loc), xw_S D cl A H0 (va_up w a (some (xcQ cA n (va_up f i.toNatClampNeg (some v))))) H1 locs1 → W p l e R s m args below meth c H1 locs1 cells slots Q (F0 m (pc + 1) ls rest)) : W p l e R s m args below meth c H locs cells slots Q (F0 m pc ls (.ref v :: .int i :: .ref a :: rest)) := by
  obtain ⟨⟨ws, hi, hP, hD⟩, hS, hA⟩ := hw
  obtain ⟨q0, hq⟩ := (hi _ _).mp (xaQ_spec ha)
  obtain ⟨qk, hqk⟩ := (hi _ _).mp hv
  exact va_astqM hexec hb hK hP hD hS q0 t0 hq ht (va_rAny hK hP hqk hc hasg) hin hdg (fun H1 locs1 hP1 hD1 hS1 => kk H1 locs1 (xw_S_set hi hD hA hq hP1 hD1 hS1))
/-- the receiver of a call, by the map -/
theorem xw_recv (hK : va_K D cl tys s) (hw : xw_S D cl A H0 w H locs) {ci : Nat} {q : vw_C} {fs : List Value} (hc : cl[ci]? = some q) (he : w a = some (.inr (ci, fs))) : ∃ cell : Cell, H[a]? = some cell ∧ cell.vm.isStatics = false ∧ s.vm.findClass q.1 = some cell.cls := by
  obtain ⟨⟨ws, hi, hP, hD⟩, hS, hA⟩ := hw
  obtain ⟨q0, hq⟩ := (hi _ _).mp he
  exact va_recv hK hP hc hq
/-- a reference or null in a local -/
theorem xl_aload_n (hexec : p.tables.exec = Jvm.exec) (hb : c.code = cc) {k : Fin 4} {i : Nat} {r : Option Nat} (hdg : decode cc pc = .ok (.aload_n k, 1)) (hi : (k : Nat) = i) (hl : ls[i]? = some (.val (va_rf r)))
    (kk : W p l e R s m args below meth c H locs cells slots Q (F0 m (pc + 1) ls (va_rf r :: rest))) : W p l e R s m args below meth c H locs cells slots Q (F0 m pc ls rest) := by
  cases r with
  | none => exact lv_aload_nN hexec hb hdg hi hl kk
  | some x => exact lv_aload_n hexec hb hdg hi hl kk
theorem xl_aload (hexec : p.tables.exec = Jvm.exec) (hb : c.code = cc) {i : Nat} {r : Option Nat} (hdg : decode cc pc = .ok (.aload i, 2)) (hl : ls[i]? = some (.val (va_rf r)))
    (kk : W p l e R s m args below meth c H locs cells slots Q (F0 m (pc + 2) ls (va_rf r :: rest))) : W p l e R s m args below meth c H locs cells slots Q (F0 m pc ls rest) := by
  cases r with
  | none => exact lv_aloadN hexec hb hdg hl kk
  | some x => exact lv_aload hexec hb hdg hl kk
theorem xl_astore_n (hexec : p.tables.exec = Jvm.exec) (hb : c.code = cc) {k : Fin 4} {i nL : Nat} {r : Option Nat} {lv lv' : List (Nat × Value)} (hdg : decode cc pc = .ok (.astore_n k, 1)) (hi : (k : Nat) = i) (h : lv_has ls nL lv) (hn : i < nL) (hl : (i, va_rf r) :: lv.filter (fun q => !(q.1 == i) && !(q.1 + 1 == i && q.2.category == 2)) = lv')
    (kk : ∀ ls' : Array Slot, lv_has ls' nL lv' → W p l e R s m args below meth c H locs cells slots Q (F0 m (pc + 1) ls' rest)) : W p l e R s m args below meth c H locs cells slots Q (F0 m pc ls (va_rf r :: rest)) := by
  cases r with
  | none => exact lv_astore_nN hexec hb hdg hi h hn hl kk
  | some x => exact lv_astore_n hexec hb hdg hi h hn hl kk
theorem xl_astore (hexec : p.tables.exec = Jvm.exec) (hb : c.code = cc) {i nL : Nat} {r : Option Nat} {lv lv' : List (Nat × Value)} (hdg : decode cc pc = .ok (.astore i, 2)) (h : lv_has ls nL lv) (hn : i < nL) (hl : (i, va_rf r) :: lv.filter (fun q => !(q.1 == i) && !(q.1 + 1 == i && q.2.category == 2)) = lv')
    (kk : ∀ ls' : Array Slot, lv_has ls' nL lv' → W p l e R s m args below meth c H locs cells slots Q (F0 m (pc + 2) ls' rest)) : W p l e R s m args below meth c H locs cells slots Q (F0 m pc ls (va_rf r :: rest)) := by
  cases r with
  | none => exact lv_astoreN hexec hb hdg h hn hl kk
  | some x => exact lv_astore hexec hb hdg h hn hl kk
theorem xl_ifnull (hexec : p.tables.exec = Jvm.exec) (hb : c.code = cc) {r : Option Nat} {off : Int} {tgt : Nat} (hdg : decode cc pc = .ok (.ifnull off, 3)) (ht : (pc : Int) + off = (tgt : Int))
    (kt : r = none → W p l e R s m args below meth c H locs cells slots Q (F0 m tgt ls rest)) (kf : ¬ r = none → W p l e R s m args below meth c H locs cells slots Q (F0 m (pc + 3) ls rest)) : W p l e R s m args below meth c H locs cells slots Q (F0 m pc ls (va_rf r :: rest)) := by
  cases r with
  | none => exact lv_ifnullN hexec hb hdg ht (kt rfl)
  | some x => exact lv_ifnull hexec hb hdg (kf (fun h => by cases h))
theorem xl_ifnonnull (hexec : p.tables.exec = Jvm.exec) (hb : c.code = cc) {r : Option Nat} {off : Int} {tgt : Nat} (hdg : decode cc pc = .ok (.ifnonnull off, 3)) (ht : (pc : Int) + off = (tgt : Int))
    (kt : ¬ r = none → W p l e R s m args below meth c H locs cells slots Q (F0 m tgt ls rest)) (kf : r = none → W p l e R s m args below meth c H locs cells slots Q (F0 m (pc + 3) ls rest)) : W p l e R s m args below meth c H locs cells slots Q (F0 m pc ls (va_rf r :: rest)) := by
  cases r with
  | none => exact lv_ifnonnullN hexec hb hdg (kf rfl)
  | some x => exact lv_ifnonnull hexec hb hdg ht (kt (fun h => by cases h))
end XR2
end
section
/-! lcmp and the branch behind it, in one row -/
section XLC
variable {p : Program} {l : Launch} {e : Env} {R : Room} {s : State} {m : MethodId} {args : Array Value} {below : List Frame} {meth : Method} {c : Code} {H : Heap} {locs : List Loc} {cells slots : Nat} {Q : State → Prop} {cc : ByteArray} {pc : Nat} {ls : Array Slot} {rest : List Value}
theorem xl_lc_eq (hexec : p.tables.exec = Jvm.exec) (hb : c.code = cc) {x y : Int64} {off : Int} {tgt : Nat} (hd1 : decode cc pc = .ok (.lcmp, 1)) (hd2 : decode cc (pc + 1) = .ok (.ifCond .eq off, 3)) (ht : ((pc + 1 : Nat) : Int) + off = (tgt : Int))
    (kt : x = y → W p l e R s m args below meth c H locs cells slots Q (F0 m tgt ls rest)) (kf : ¬ x = y → W p l e R s m args below meth c H locs cells slots Q (F0 m (pc + 1 + 3) ls rest)) : W p l e R s m args below meth c H locs cells slots Q (F0 m pc ls (.long y :: .long x :: rest)) :=
  W.lcmp hexec hb hd1 (lv_if_eq hexec hb hd2 ht (fun h => kt ((lg_cmp_eq x y).mp h)) (fun h => kf (fun q => h ((lg_cmp_eq x y).mpr q))))
theorem xl_lc_ne (hexec : p.tables.exec = Jvm.exec) (hb : c.code = cc) {x y : Int64} {off : Int} {tgt : Nat} (hd1 : decode cc pc = .ok (.lcmp, 1)) (hd2 : decode cc (pc + 1) = .ok (.ifCond .ne off, 3)) (ht : ((pc + 1 : Nat) : Int) + off = (tgt : Int))
    (kt : ¬ x = y → W p l e R s m args below meth c H locs cells slots Q (F0 m tgt ls rest)) (kf : x = y → W p l e R s m args below meth c H locs cells slots Q (F0 m (pc + 1 + 3) ls rest)) : W p l e R s m args below meth c H locs cells slots Q (F0 m pc ls (.long y :: .long x :: rest)) :=
  W.lcmp hexec hb hd1 (lv_if_ne hexec hb hd2 ht (fun h => kt (fun q => h ((lg_cmp_eq x y).mpr q))) (fun h => kf ((lg_cmp_eq x y).mp h)))
theorem xl_lc_lt (hexec : p.tables.exec = Jvm.exec) (hb : c.code = cc) {x y : Int64} {off : Int} {tgt : Nat} (hd1 : decode cc pc = .ok (.lcmp, 1)) (hd2 : decode cc (pc + 1) = .ok (.ifCond .lt off, 3)) (ht : ((pc + 1 : Nat) : Int) + off = (tgt : Int))
    (kt : x < y → W p l e R s m args below meth c H locs cells slots Q (F0 m tgt ls rest)) (kf : ¬ x < y → W p l e R s m args below meth c H locs cells slots Q (F0 m (pc + 1 + 3) ls rest)) : W p l e R s m args below meth c H locs cells slots Q (F0 m pc ls (.long y :: .long x :: rest)) :=
  W.lcmp hexec hb hd1 (lv_if_lt hexec hb hd2 ht (fun h => kt ((lg_cmp_lt x y).mp h)) (fun h => kf (fun q => h ((lg_cmp_lt x y).mpr q))))
theorem xl_lc_ge (hexec : p.tables.exec = Jvm.exec) (hb : c.code = cc) {x y : Int64} {off : Int} {tgt : Nat} (hd1 : decode cc pc = .ok (.lcmp, 1)) (hd2 : decode cc (pc + 1) = .ok (.ifCond .ge off, 3)) (ht : ((pc + 1 : Nat) : Int) + off = (tgt : Int))
    (kt : y ≤ x → W p l e R s m args below meth c H locs cells slots Q (F0 m tgt ls rest)) (kf : ¬ y ≤ x → W p l e R s m args below meth c H locs cells slots Q (F0 m (pc + 1 + 3) ls rest)) : W p l e R s m args below meth c H locs cells slots Q (F0 m pc ls (.long y :: .long x :: rest)) :=
  W.lcmp hexec hb hd1 (lv_if_ge hexec hb hd2 ht (fun h => kt ((lg_cmp_ge x y).mp h)) (fun h => kf (fun q => h ((lg_cmp_ge x y).mpr q))))
theorem xl_lc_gt (hexec : p.tables.exec = Jvm.exec) (hb : c.code = cc) {x y : Int64} {off : Int} {tgt : Nat} (hd1 : decode cc pc = .ok (.lcmp, 1)) (hd2 : decode cc (pc + 1) = .ok (.ifCond .gt off, 3)) (ht : ((pc + 1 : Nat) : Int) + off = (tgt : Int))
    (kt : y < x → W p l e R s m args below meth c H locs cells slots Q (F0 m tgt ls rest)) (kf : ¬ y < x → W p l e R s m args below meth c H locs cells slots Q (F0 m (pc + 1 + 3) ls rest)) : W p l e R s m args below meth c H locs cells slots Q (F0 m pc ls (.long y :: .long x :: rest)) :=
  W.lcmp hexec hb hd1 (lv_if_gt hexec hb hd2 ht (fun h => kt ((lg_cmp_gt x y).mp h)) (fun h => kf (fun q => h ((lg_cmp_gt x y).mpr q))))
theorem xl_lc_le (hexec : p.tables.exec = Jvm.exec) (hb : c.code = cc) {x y : Int64} {off : Int} {tgt : Nat} (hd1 : decode cc pc = .ok (.lcmp, 1)) (hd2 : decode cc (pc + 1) = .ok (.ifCond .le off, 3)) (ht : ((pc + 1 : Nat) : Int) + off = (tgt : Int))
    (kt : x ≤ y → W p l e R s m args below meth c H locs cells slots Q (F0 m tgt ls rest)) (kf : ¬ x ≤ y → W p l e R s m args below meth c H locs cells slots Q (F0 m (pc + 1 + 3) ls rest)) : W p l e R s m args below meth c H locs cells slots Q (F0 m pc ls (.long y :: .long x :: rest)) :=
  W.lcmp hexec hb hd1 (lv_if_le hexec hb hd2 ht (fun h => kt ((lg_cmp_le x y).mp h)) (fun h => kf (fun q => h ((lg_cmp_le x y).mpr q))))
end XLC
end
section
/-! CALLS AND ENDS OVER THE MAP -/
/-- a method's start and end: the map stands -/
def xB (D : va_G) (A : Nat → Prop) (w : xw_T) (t : State) : Prop := ∃ ws : va_W, xw_in w ws ∧ va_P D vwCl ws t.heap ∧ va_D A ws
def xP (D : va_G) (E : xE_T) (A : Nat → Prop) (w : xw_T) (U : State) : Prop := (xB D A w U ∧ ∀ q : Nat, U.heap.size ≤ q → A q) ∧ va_K D vwCl (xtys E) U ∧ xF E A U
section XC
variable {p : Program} {l : Launch} {e : Env} {R : Room} {s : State} {m : MethodId} {args : Array Value} {below : List Frame} {meth : Method} {c : Code} {H : Heap} {locs : List Loc} {cells slots : Nat} {Q : State → Prop}
variable {cc : ByteArray} {pc : Nat} {ls : Array Slot} {rest st0 : List Value} {D : va_G} {E : xE_T} {A : Nat → Prop} {w : xw_T} {mc ms : Nat} {a : Array Value}
theorem xw_S0 (h : xB D A w s ∧ ∀ q : Nat, s.heap.size ≤ q → A q) : xw_S D vwCl A s.heap w s.heap [] := ⟨h.1, va_S.rf, h.2⟩
theorem xP_of {U : State} (hw : xw_S D vwCl A s.heap w H locs) (hK : va_K D vwCl (xtys E) s) (hE : xF E A s) (hU : U.heap = H) (hW : s.WarmedH U.vm) : xP D E A w U := by
  obtain ⟨⟨ws, h1, h2, h3⟩, hS, hA⟩ := hw
  refine ⟨⟨⟨ws, h1, by rw [hU]; exact h2, h3⟩, fun q hq => hA q (Nat.le_trans hS.1 (by rw [← hU]; exact hq))⟩, va_K.moved hW.alike hK, xF_of hE hW (by rw [hU]; exact hS)⟩
theorem xP_blind {U : State} {g : JFrame} {mk : MethodId} {a : Array Value} (h : xP D E A w U) : xP D E A w (U.calling g mk a) :=
  ⟨h.1, va_K.moved (u := U) (U := U.calling g mk a) (Vm.Alike.refl U.vm) h.2.1, xF_same (u := U) (U := U.calling g mk a) rfl rfl h.2.2⟩
theorem xw_preV {ci : Nat} {q : vw_C} {b : Nat} {fs : List Value} {As : List Value} (hw : xw_S D vwCl A s.heap w H locs) (hK : va_K D vwCl (xtys E) s) (hE : xF E A s) (hc : vwCl[ci]? = some q) (hk : w b = some (.inr (ci, fs))) : PreV s H q.1 b (va_Pc (.ref b :: As) (xP D E A w)) As :=
  ⟨fun _ _ _ _ h => ⟨h.1, xP_blind h.2⟩, xw_recv hK hw hc hk, fun _ hU hW => ⟨rfl, xP_of hw hK hE hU hW⟩⟩
theorem xw_preS {As : List Value} (hw : xw_S D vwCl A s.heap w H locs) (hK : va_K D vwCl (xtys E) s) (hE : xF E A s) : PreS s H (va_Pc As (xP D E A w)) As :=
  ⟨fun _ _ _ _ h => ⟨h.1, xP_blind h.2⟩, fun _ hU hW => ⟨rfl, xP_of hw hK hE hU hW⟩⟩
theorem xB_of {t : State} {H1 : Heap} (ht : t.heap = H1) (hB : xB D A w t) : ∃ ws : va_W, xw_in w ws ∧ va_P D vwCl ws H1 ∧ va_D A ws := by
  obtain ⟨ws, h1, h2, h3⟩ := hB
  exact ⟨ws, h1, by rw [← ht]; exact h2, h3⟩
theorem xw_calli {w0 : xw_T} {post : Int32 → xw_T → Prop} (hr : va_Run p l e R s m args below meth c H locs cells slots mc ms (F0 m pc ls st0) rest (va_Qi post (xB D A) A a) A) (hw : xw_S D vwCl A s.heap w0 H locs)
    (kk : ∀ (r : Int32) (w1 : xw_T) (H1 : Heap) (locs1 : List Loc), post r w1 → xw_S D vwCl A s.heap w1 H1 locs1 → W p l e R s m args below meth c H1 locs1 (cells + mc) (slots + ms) Q (F0 m (pc + 3) ls (.int r :: rest))) : W p l e R s m args below meth c H locs cells slots Q (F0 m pc ls st0) :=
  va_calli hr hw.2.1 (fun _ _ h => h) (fun _ h => h) (fun r u _ H1 locs1 ht _ hp hB _ _ hS => kk r u H1 locs1 hp ⟨xB_of ht hB, hS, hw.2.2⟩)
theorem xw_calll {w0 : xw_T} {post : Int64 → xw_T → Prop} (hr : va_Run p l e R s m args below meth c H locs cells slots mc ms (F0 m pc ls st0) rest (va_Ql post (xB D A) A a) A) (hw : xw_S D vwCl A s.heap w0 H locs)
    (kk : ∀ (r : Int64) (w1 : xw_T) (H1 : Heap) (locs1 : List Loc), post r w1 → xw_S D vwCl A s.heap w1 H1 locs1 → W p l e R s m args below meth c H1 locs1 (cells + mc) (slots + ms) Q (F0 m (pc + 3) ls (.long r :: rest))) : W p l e R s m args below meth c H locs cells slots Q (F0 m pc ls st0) :=
  va_calll hr hw.2.1 (fun _ _ h => h) (fun _ h => h) (fun r u _ H1 locs1 ht _ hp hB _ _ hS => kk r u H1 locs1 hp ⟨xB_of ht hB, hS, hw.2.2⟩)
theorem xw_callq {w0 : xw_T} {post : Option Nat → xw_T → Prop} (hr : va_Run p l e R s m args below meth c H locs cells slots mc ms (F0 m pc ls st0) rest (va_Qq post (xB D A) A a) A) (hw : xw_S D vwCl A s.heap w0 H locs)
    (kk : ∀ (r : Option Nat) (w1 : xw_T) (H1 : Heap) (locs1 : List Loc), post r w1 → xw_S D vwCl A s.heap w1 H1 locs1 → W p l e R s m args below meth c H1 locs1 (cells + mc) (slots + ms) Q (F0 m (pc + 3) ls (va_rf r :: rest))) : W p l e R s m args below meth c H locs cells slots Q (F0 m pc ls st0) :=
  va_callq hr hw.2.1 (fun _ _ h => h) (fun _ h => h) (fun r u _ H1 locs1 ht _ hp hB _ _ hS => kk r u H1 locs1 hp ⟨xB_of ht hB, hS, hw.2.2⟩)
theorem xw_callv {w0 : xw_T} {post : xw_T → Prop} (hr : va_Run p l e R s m args below meth c H locs cells slots mc ms (F0 m pc ls st0) rest (va_Qv post (xB D A) A a) A) (hw : xw_S D vwCl A s.heap w0 H locs)
    (kk : ∀ (w1 : xw_T) (H1 : Heap) (locs1 : List Loc), post w1 → xw_S D vwCl A s.heap w1 H1 locs1 → W p l e R s m args below meth c H1 locs1 (cells + mc) (slots + ms) Q (F0 m (pc + 3) ls rest)) : W p l e R s m args below meth c H locs cells slots Q (F0 m pc ls st0) :=
  va_callv hr hw.2.1 (fun _ _ h => h) (fun _ h => h) (fun u _ H1 locs1 ht _ hp hB _ _ hS => kk u H1 locs1 hp ⟨xB_of ht hB, hS, hw.2.2⟩)
theorem xw_iret {post : Int32 → xw_T → Prop} {v : Int32} (hx : p.tables.exec = Jvm.exec) (hb : c.code = cc) (hr : meth.sig.returnType = some .int) (hlocks : meth.locks = false) (hw : xw_S D vwCl A s.heap w H locs) (h : post v w) (hdg : decode cc pc = .ok (.ireturn, 1)) : W p l e R s m args below meth c H locs cells slots (MQ below (va_Qi post (xB D A) A) args s cells slots A) (F0 m pc ls [.int v]) :=
  W.iret hx hb hr (fun t ht _ => ⟨⟨v, w, rfl, h, xB_of (H1 := t.heap) rfl (by rw [← ht] at hw; exact hw.1)⟩, hw.2.1.F ht⟩) hw.2.1.2.2 hdg hlocks
theorem xw_zret {post : Int32 → xw_T → Prop} {v : Int32} {ty : FieldType} (hn : narrow ty (.int v) = .int v) (hx : p.tables.exec = Jvm.exec) (hb : c.code = cc) (hr : meth.sig.returnType = some ty) (hlocks : meth.locks = false) (hw : xw_S D vwCl A s.heap w H locs) (h : post v w) (hdg : decode cc pc = .ok (.ireturn, 1)) : W p l e R s m args below meth c H locs cells slots (MQ below (va_Qi post (xB D A) A) args s cells slots A) (F0 m pc ls [.int v]) :=
  W.zret hx hb hr hn (fun t ht _ => ⟨⟨v, w, rfl, h, xB_of (H1 := t.heap) rfl (by rw [← ht] at hw; exact hw.1)⟩, hw.2.1.F ht⟩) hw.2.1.2.2 hdg hlocks
theorem xw_lret {post : Int64 → xw_T → Prop} {v : Int64} (hx : p.tables.exec = Jvm.exec) (hb : c.code = cc) (hr : meth.sig.returnType = some .long) (hlocks : meth.locks = false) (hw : xw_S D vwCl A s.heap w H locs) (h : post v w) (hdg : decode cc pc = .ok (.lreturn, 1)) : W p l e R s m args below meth c H locs cells slots (MQ below (va_Ql post (xB D A) A) args s cells slots A) (F0 m pc ls [.long v]) :=
  W.lret hx hb hr (fun t ht _ => ⟨⟨v, w, rfl, h, xB_of (H1 := t.heap) rfl (by rw [← ht] at hw; exact hw.1)⟩, hw.2.1.F ht⟩) hw.2.1.2.2 hdg hlocks
theorem xw_vret {post : xw_T → Prop} (hx : p.tables.exec = Jvm.exec) (hb : c.code = cc) (hr : meth.sig.returnType = none) (hlocks : meth.locks = false) (hw : xw_S D vwCl A s.heap w H locs) (h : post w) (hdg : decode cc pc = .ok (.return_, 1)) : W p l e R s m args below meth c H locs cells slots (MQ below (va_Qv post (xB D A) A) args s cells slots A) (F0 m pc ls []) :=
  W.vret hx hb hr (fun t ht _ => ⟨⟨w, rfl, h, xB_of (H1 := t.heap) rfl (by rw [← ht] at hw; exact hw.1)⟩, hw.2.1.F ht⟩) hw.2.1.2.2 hdg hlocks
theorem xw_aret {post : Option Nat → xw_T → Prop} {r : Option Nat} {rt : FieldType} (hrt : (∃ n, rt = .object n) ∨ ∃ t, rt = .array t) (hx : p.tables.exec = Jvm.exec) (hb : c.code = cc) (hr : meth.sig.returnType = some rt) (hlocks : meth.locks = false) (hw : xw_S D vwCl A s.heap w H locs) (h : post r w) (hdg : decode cc pc = .ok (.areturn, 1)) : W p l e R s m args below meth c H locs cells slots (MQ below (va_Qq post (xB D A) A) args s cells slots A) (F0 m pc ls [va_rf r]) :=
  W.aret hx hb hr hrt (by cases r with | none => exact Or.inl rfl | some x => exact Or.inr ⟨x, rfl⟩) (fun t ht _ => ⟨⟨r, w, rfl, h, xB_of (H1 := t.heap) rfl (by rw [← ht] at hw; exact hw.1)⟩, hw.2.1.F ht⟩) hw.2.1.2.2 hdg hlocks
theorem xl_start {vs : List Value} {n : Nat} {lvs : List (Nat × Value)} (h1 : (lg_sl vs).length ≤ n) (h2 : lv_args 0 vs = lvs) (kk : ∀ ls : Array Slot, lv_has ls n lvs → W p l e R s m args below meth c H locs cells slots Q (F0 m 0 ls [])) : W p l e R s m args below meth c H locs cells slots Q (entryFrame m vs.toArray n) := by
  have hl := lv_entry vs (n := n) h1
  rw [h2] at hl
  rw [lg_entry_eq]
  exact kk _ hl
end XC
theorem xn_rf (r : Option Nat) (ty : FieldType) (h : (∃ n, ty = .object n) ∨ ∃ t, ty = .array t) : narrow ty (va_rf r) = va_rf r := by
  rcases h with ⟨n, rfl⟩ | ⟨t, rfl⟩ <;> cases r <;> rfl
theorem xf_rf (r : Option Nat) (ty : FieldType) (h : (∃ n, ty = .object n) ∨ ∃ t, ty = .array t) : fits ty (va_rf r) = true := by
  rcases h with ⟨n, rfl⟩ | ⟨t, rfl⟩ <;> cases r <;> rfl
end
section
/-! ROWS OF THEIR OWN: new arrays, the length of an array that may be the empty static one, getClass, the mirror, arraycopy -/
/-- the length of an array: our own, or the static empty one -/
def xlen (E : xE_T) (w : xw_T) (a : Nat) (t : Nat) : Option Nat := if a = E.2 6 ∧ t = 0 then some 0 else (xaE w a (E.1 t)).map (fun x => x.1)
section XS
variable {p : Program} {l : Launch} {e : Env} {R : Room} {s : State} {m : MethodId} {args : Array Value} {below : List Frame} {meth : Method} {c : Code} {H : Heap} {locs : List Loc} {cells slots : Nat} {Q : State → Prop}
variable {cc : ByteArray} {pc : Nat} {ls : Array Slot} {rest : List Value} {D : va_G} {E : xE_T} {A : Nat → Prop} {a : Nat} {w : xw_T}
theorem xw_len (hx : p.tables.exec = Jvm.exec) (hb : c.code = cc) (hK : va_K D vwCl (xtys E) s) (hE : xF E A s) (hw : xw_S D vwCl A s.heap w H locs) (t : Nat) (ht : t < 4) {n : Nat} (hn : xlen E w a t = some n) (hdg : decode cc pc = .ok (.arraylength, 1))
    (kk : W p l e R s m args below meth c H locs cells slots Q (F0 m (pc + 1) ls (.int (nI n) :: rest))) : W p l e R s m args below meth c H locs cells slots Q (F0 m pc ls (.ref a :: rest)) := by
  unfold xlen at hn
  by_cases h0 : a = E.2 6 ∧ t = 0
  · rw [if_pos h0] at hn
    cases hn
    rw [h0.1]
    exact va_tlen hx hb hE.2.2.2.2.1.2 hw.2.1 rfl hdg kk
  · rw [if_neg h0] at hn
    cases hx2 : xaE w a (E.1 t) with
    | none => rw [hx2] at hn; cases hn
    | some y =>
      rw [hx2] at hn
      cases hn
      have ha := xaE_spec hx2
      match t, ht with
      | 0, _ => exact xw_alen hx hb hK hw 0 rfl ha hdg kk
      | 1, _ => exact xw_alen hx hb hK hw 1 rfl ha hdg kk
      | 2, _ => exact xw_alen hx hb hK hw 2 rfl ha hdg kk
      | 3, _ => exact xw_alen hx hb hK hw 3 rfl ha hdg kk
theorem xw_newq (hx : p.tables.exec = Jvm.exec) (hb : c.code = cc) {own : String} {index : Nat} (hown : s.vm.findClass own = some m.cls) (hclink : (Cond.classLink own index "java/lang/Object").before args s = true) (hK : va_K D vwCl (xtys E) s) (hE : xF E A s) (hw : xw_S D vwCl A s.heap w H locs)
    {n : Int32} {N' : Nat} (hn : ¬ n < 0) (hN : n.toNatClampNeg = N') (hbytes : N' * 4 ≤ 536870912) (hcells : cells + 1 ≤ R.cells) (hslots : slots + N' ≤ R.slots) (hdg : decode cc pc = .ok (.anewarray index, 3))
    (kk : ∀ (q : Nat) (H1 : Heap), w q = none → xw_S D vwCl A s.heap (va_up w q (some (xcQ (E.1 0) N' (fun _ => none)))) H1 locs → W p l e R s m args below meth c H1 locs (cells + 1) (slots + N') Q (F0 m (pc + 3) ls (.ref q :: rest))) : W p l e R s m args below meth c H locs cells slots Q (F0 m pc ls (.int n :: rest)) := by
  obtain ⟨⟨ws, hi, hP, hD⟩, hS, hA⟩ := hw
  refine va_newq hx hb hown hclink hE.2.1.1 hK hP hD hS hA hn hN hbytes hcells hslots hdg (fun q cA H1 hK1 hP1 hD1 hS1 => ?_)
  have h1 : va_RA s (E.1 0) (.object "java/lang/Object") := (hK.2 0 _ rfl).2
  have h2 : va_RA s cA (.object "java/lang/Object") := (hK1.2 4 _ rfl).2
  have hc : cA = E.1 0 := Option.some.inj ((va_nmO h2 rfl).symm.trans (va_nmO h1 rfl))
  subst hc
  exact kk q H1 (xw_in_fresh hi hD1) ⟨⟨_, xw_in_push hi hD1, hP1, hD1⟩, hS1, hA⟩
theorem xw_newi (hx : p.tables.exec = Jvm.exec) (hb : c.code = cc) (harr : (Cond.arrayClass .int).before args s = true) (hK : va_K D vwCl (xtys E) s) (hw : xw_S D vwCl A s.heap w H locs)
    {n : Int32} {N' : Nat} (hn : ¬ n < 0) (hN : n.toNatClampNeg = N') (hbytes : N' * componentBytes .int ≤ 536870912) (hcells : cells + 1 ≤ R.cells) (hslots : slots + N' ≤ R.slots) (hdg : decode cc pc = .ok (.newarray .int, 2))
    (kk : ∀ (q : Nat) (H1 : Heap), w q = none → xw_S D vwCl A s.heap (va_up w q (some (xcI (E.1 1) N' (fun _ => 0)))) H1 locs → W p l e R s m args below meth c H1 locs (cells + 1) (slots + N') Q (F0 m (pc + 2) ls (.ref q :: rest))) : W p l e R s m args below meth c H locs cells slots Q (F0 m pc ls (.int n :: rest)) := by
  obtain ⟨⟨ws, hi, hP, hD⟩, hS, hA⟩ := hw
  refine va_newa (atype := .int) (a0 := (N', .inl (fun _ => 0))) (ty := .int) hx hb harr rfl hK hP hD hS hA (fun _ => rfl) hn hN hbytes hcells hslots hdg (fun q cA H1 hK1 hP1 hD1 hS1 => ?_)
  have h1 : va_RA s (E.1 1) .int := (hK.2 1 _ rfl).2
  have h2 : va_RA s cA .int := (hK1.2 4 _ rfl).2
  have hc : cA = E.1 1 := Option.some.inj (h2.symm.trans h1)
  subst hc
  exact kk q H1 (xw_in_fresh hi hD1) ⟨⟨_, xw_in_push hi hD1, hP1, hD1⟩, hS1, hA⟩
theorem xw_newl (hx : p.tables.exec = Jvm.exec) (hb : c.code = cc) (harr : (Cond.arrayClass .long).before args s = true) (hK : va_K D vwCl (xtys E) s) (hw : xw_S D vwCl A s.heap w H locs)
    {n : Int32} {N' : Nat} (hn : ¬ n < 0) (hN : n.toNatClampNeg = N') (hbytes : N' * componentBytes .long ≤ 536870912) (hcells : cells + 1 ≤ R.cells) (hslots : slots + N' ≤ R.slots) (hdg : decode cc pc = .ok (.newarray .long, 2))
    (kk : ∀ (q : Nat) (H1 : Heap), w q = none → xw_S D vwCl A s.heap (va_up w q (some (xcL (E.1 2) N' (fun _ => 0)))) H1 locs → W p l e R s m args below meth c H1 locs (cells + 1) (slots + N') Q (F0 m (pc + 2) ls (.ref q :: rest))) : W p l e R s m args below meth c H locs cells slots Q (F0 m pc ls (.int n :: rest)) := by
  obtain ⟨⟨ws, hi, hP, hD⟩, hS, hA⟩ := hw
  refine va_newa (atype := .long) (a0 := (N', .inr (.inl (fun _ => 0)))) (ty := .long) hx hb harr rfl hK hP hD hS hA (fun _ => rfl) hn hN hbytes hcells hslots hdg (fun q cA H1 hK1 hP1 hD1 hS1 => ?_)
  have h1 : va_RA s (E.1 2) .long := (hK.2 2 _ rfl).2
  have h2 : va_RA s cA .long := (hK1.2 4 _ rfl).2
  have hc : cA = E.1 2 := Option.some.inj (h2.symm.trans h1)
  subst hc
  exact kk q H1 (xw_in_fresh hi hD1) ⟨⟨_, xw_in_push hi hD1, hP1, hD1⟩, hS1, hA⟩
theorem xw_newz (hx : p.tables.exec = Jvm.exec) (hb : c.code = cc) (harr : (Cond.arrayClass .boolean).before args s = true) (hK : va_K D vwCl (xtys E) s) (hw : xw_S D vwCl A s.heap w H locs)
    {n : Int32} {N' : Nat} (hn : ¬ n < 0) (hN : n.toNatClampNeg = N') (hbytes : N' * componentBytes .boolean ≤ 536870912) (hcells : cells + 1 ≤ R.cells) (hslots : slots + N' ≤ R.slots) (hdg : decode cc pc = .ok (.newarray .boolean, 2))
    (kk : ∀ (q : Nat) (H1 : Heap), w q = none → xw_S D vwCl A s.heap (va_up w q (some (xcI (E.1 3) N' (fun _ => 0)))) H1 locs → W p l e R s m args below meth c H1 locs (cells + 1) (slots + N') Q (F0 m (pc + 2) ls (.ref q :: rest))) : W p l e R s m args below meth c H locs cells slots Q (F0 m pc ls (.int n :: rest)) := by
  obtain ⟨⟨ws, hi, hP, hD⟩, hS, hA⟩ := hw
  refine va_newa (atype := .boolean) (a0 := (N', .inl (fun _ => 0))) (ty := .boolean) hx hb harr rfl hK hP hD hS hA (fun _ => rfl) hn hN hbytes hcells hslots hdg (fun q cA H1 hK1 hP1 hD1 hS1 => ?_)
  have h1 : va_RA s (E.1 3) .boolean := (hK.2 3 _ rfl).2
  have h2 : va_RA s cA .boolean := (hK1.2 4 _ rfl).2
  have hc : cA = E.1 3 := Option.some.inj (h2.symm.trans h1)
  subst hc
  exact kk q H1 (xw_in_fresh hi hD1) ⟨⟨_, xw_in_push hi hD1, hP1, hD1⟩, hS1, hA⟩
/-- our own array of Objects: a cell of its class -/
theorem xw_recvQ (hK : va_K D vwCl (xtys E) s) (hw : xw_S D vwCl A s.heap w H locs) {n : Nat} {f : Nat → Option Nat} (ha : xaQ w a (E.1 0) = some (n, f)) : ∃ cell : Cell, H[a]? = some cell ∧ cell.vm.isStatics = false ∧ s.vm.findClass "[Ljava/lang/Object;" = some cell.cls := by
  obtain ⟨⟨ws, hi, hP, hD⟩, hS, hA⟩ := hw
  obtain ⟨q0, hq⟩ := (hi _ _).mp (xaQ_spec ha)
  have h1 : va_RA s (E.1 0) (.object "java/lang/Object") := (hK.2 0 _ rfl).2
  exact ⟨_, hP q0 _ hq, rfl, va_nmO h1 rfl⟩
/-- an object of a class of the world, or an element of an array of Objects that holds such: can be stored into an array of Objects -/
theorem xw_any {E0 : String} (hK : va_K D vwCl (xtys E) s) (hw : xw_S D vwCl A s.heap w H locs) {v ci : Nat} {vs : List Value} {r : vw_C} (hv : w v = some (.inr (ci, vs))) (hc : vwCl[ci]? = some r) (hca : va_Nw (.castable r.1 E0) s) : va_Any E0 s H v := by
  obtain ⟨⟨ws, hi, hP, hD⟩, hS, hA⟩ := hw
  obtain ⟨qk, hqk⟩ := (hi _ _).mp hv
  exact va_rAny hK hP hqk hc (vb_asgC hca)
/-- what may lie in our arrays of Objects: accounts, batches, rows -/
def xOb (w : xw_T) (v : Nat) : Prop := ∃ vs : List Value, w v = some (.inr (1, vs)) ∨ w v = some (.inr (2, vs)) ∨ w v = some (.inr (3, vs))
theorem xw_anyO (hK : va_K D vwCl (xtys E) s) (hE : xF E A s) (hw : xw_S D vwCl A s.heap w H locs) {v : Nat} (hv : xOb w v) : va_Any "java/lang/Object" s H v := by
  obtain ⟨vs, h | h | h⟩ := hv
  · exact xw_any hK hw (ci := 1) h rfl hE.1.2.1
  · exact xw_any hK hw (ci := 2) h rfl hE.1.2.2
  · exact xw_any hK hw (ci := 3) h rfl hE.1.1
theorem xw_aasO (hx : p.tables.exec = Jvm.exec) (hb : c.code = cc) (hK : va_K D vwCl (xtys E) s) (hE : xF E A s) (hw : xw_S D vwCl A s.heap w H locs) {n : Nat} {f : Nat → Option Nat} (ha : xaQ w a (E.1 0) = some (n, f)) {v : Nat} (hv : xOb w v) {i : Int32} (hin : vp_in i n) (hdg : decode cc pc = .ok (.aastore, 1))
    (kk : ∀ (H1 : Heap) (locs1 : List Loc), xw_S D vwCl A s.heap (va_up w a (some (xcQ (E.1 0) n (va_up f i.toNatClampNeg (some v))))) H1 locs1 → W p l e R s m args below meth c H1 locs1 cells slots Q (F0 m (pc + 1) ls rest)) : W p l e R s m args below meth c H locs cells slots Q (F0 m pc ls (.ref v :: .int i :: .ref a :: rest)) := by
  have hany := xw_anyO hK hE hw hv
  obtain ⟨⟨ws, hi, hP, hD⟩, hS, hA⟩ := hw
  obtain ⟨q0, hq⟩ := (hi _ _).mp (xaQ_spec ha)
  exact va_astqM hx hb hK hP hD hS q0 0 hq rfl hany hin hdg (fun H1 locs1 hP1 hD1 hS1 => kk H1 locs1 (xw_S_set hi hD hA hq hP1 hD1 hS1))
theorem xw_copy (hx : p.tables.exec = Jvm.exec) (hb : c.code = cc) (hml : c.maxLocals = ls.size) {own : String} {index : Nat} (hown : s.vm.findClass own = some m.cls) (hlink : (Cond.methodLink own index arraycopyName).before args s = true) (hnat : (Cond.native arraycopyName).before args s = true) (hstat : (Cond.static arraycopyName).before args s = true) (hini : (Cond.initialized "java/lang/System").before args s = true)
    (hK : va_K D vwCl (xtys E) s) (hE : xF E A s) (hw : xw_S D vwCl A s.heap w H locs) {a0 : Nat} {n0 n1 : Nat} {f g : Nat → Option Nat} (ha0 : xaQ w a0 (E.1 0) = some (n0, f)) (ha1 : xaQ w a (E.1 0) = some (n1, g))
    {sp dp n : Int32} (hc : ¬ sp < 0 ∧ ¬ dp < 0 ∧ ¬ n < 0 ∧ sp.toNatClampNeg + n.toNatClampNeg ≤ n0 ∧ dp.toNatClampNeg + n.toNatClampNeg ≤ n1) (hel : ∀ i : Nat, i < n.toNatClampNeg → ∀ y : Nat, f (sp.toNatClampNeg + i) = some y → xOb w y)
    (hframes : 1 ≤ R.frames) (hlocals : (rest.map fun v => v.category).sum + (nativeFrameWords "java/lang/System" "arraycopy" 5 + 11) ≤ R.locals) (hdg : decode cc pc = .ok (.invokestatic index, 3))
    (kk : ∀ (H1 : Heap) (locs1 : List Loc), xw_S D vwCl A s.heap (va_up w a (some (xcQ (E.1 0) n1 (va_cpy f g sp.toNatClampNeg dp.toNatClampNeg n.toNatClampNeg)))) H1 locs1 → W p l e R s m args below meth c H1 locs1 cells slots Q (F0 m (pc + 3) ls rest)) : W p l e R s m args below meth c H locs cells slots Q (F0 m pc ls (.int n :: .int dp :: .ref a :: .int sp :: .ref a0 :: rest)) := by
  have hany : ∀ i : Nat, i < n.toNatClampNeg → ∀ y : Nat, f (sp.toNatClampNeg + i) = some y → va_Any "java/lang/Object" s H y := fun i hi y hy => xw_anyO hK hE hw (hel i hi y hy)
  obtain ⟨⟨ws, hi, hP, hD⟩, hS, hA⟩ := hw
  obtain ⟨q0, hq0⟩ := (hi _ _).mp (xaQ_spec ha0)
  obtain ⟨q1, hq1⟩ := (hi _ _).mp (xaQ_spec ha1)
  obtain ⟨h1, h2, h3, h4, h5⟩ := hc
  exact va_copyM hx hb hml hown hlink hnat hstat hini hK hP hD hS q0 q1 0 0 hq0 hq1 rfl rfl h1 h2 h3 h4 h5 hany hframes hlocals hdg (fun H1 locs1 hP1 hD1 hS1 => kk H1 locs1 (xw_S_set hi hD hA hq1 hP1 hD1 hS1))
end XS
end
section
/-! A HEAP BY NAMES: every object of the two systems has a name (a triple of numbers), an address (ad), a content (ct). Names that are alive have addresses of their own. -/
abbrev xR : Type := Nat × Nat × Nat
def xup {α : Type} (f : xR → α) (r : xR) (v : α) : xR → α := fun z => if z = r then v else f z
theorem xup_self {α : Type} (f : xR → α) (r : xR) (v : α) : xup f r v r = v := if_pos rfl
theorem xup_ne {α : Type} (f : xR → α) {r z : xR} (v : α) (h : z ≠ r) : xup f r v z = f z := if_neg h
def xRp (w : xw_T) (ad : xR → Nat) (ct : xR → Option va_E) : Prop := (∀ (r : xR) (e : va_E), ct r = some e → w (ad r) = some e) ∧ ∀ r z : xR, ct r ≠ none → ct z ≠ none → ad r = ad z → r = z
theorem xRp.at {w : xw_T} {ad : xR → Nat} {ct : xR → Option va_E} (h : xRp w ad ct) {r : xR} {e : va_E} (he : ct r = some e) : w (ad r) = some e := h.1 r e he
theorem xRp.set {w : xw_T} {ad : xR → Nat} {ct : xR → Option va_E} (h : xRp w ad ct) {r : xR} {e0 : va_E} (he : ct r = some e0) (e : va_E) : xRp (va_up w (ad r) (some e)) ad (xup ct r (some e)) := by
  have hl : ∀ z, xup ct r (some e) z ≠ none → ct z ≠ none := by
    intro z hz
    by_cases q : z = r
    · rw [q, he]; exact fun x => by cases x
    · rw [xup_ne _ _ q] at hz; exact hz
  refine ⟨fun z e' hz => ?_, fun z y hz hy e' => h.2 z y (hl z hz) (hl y hy) e'⟩
  by_cases q : z = r
  · subst q
    rw [xup_self] at hz
    rw [va_up_self]; exact hz
  · have hz' := hz
    rw [xup_ne _ _ q] at hz
    have ha : ad z ≠ ad r := fun x => q (h.2 z r (by rw [hz]; exact fun x => by cases x) (by rw [he]; exact fun x => by cases x) x)
    rw [va_up_ne _ _ ha]
    exact h.1 z e' hz
theorem xRp.new {w : xw_T} {ad : xR → Nat} {ct : xR → Option va_E} (h : xRp w ad ct) {r : xR} {q : Nat} (hr : ct r = none) (hq : w q = none) (e : va_E) : xRp (va_up w q (some e)) (xup ad r q) (xup ct r (some e)) := by
  have hne : ∀ z e', ct z = some e' → ad z ≠ q := by
    intro z e' hz x
    have := h.1 z e' hz
    rw [x, hq] at this
    cases this
  refine ⟨fun z e' hz => ?_, fun z y hz hy x => ?_⟩
  · by_cases k : z = r
    · subst k
      rw [xup_self] at hz
      rw [xup_self, va_up_self]; exact hz
    · rw [xup_ne _ _ k] at hz
      rw [xup_ne _ _ k, va_up_ne _ _ (hne z e' hz)]
      exact h.1 z e' hz
  · by_cases k : z = r
    · by_cases k2 : y = r
      · rw [k, k2]
      · rw [xup_ne _ _ k2] at hy
        rw [k, xup_self, xup_ne _ _ k2] at x
        obtain ⟨e', he'⟩ := Option.ne_none_iff_exists'.mp hy
        exact absurd x.symm (hne y e' he')
    · rw [xup_ne _ _ k] at hz
      obtain ⟨e', he'⟩ := Option.ne_none_iff_exists'.mp hz
      by_cases k2 : y = r
      · rw [k2, xup_self, xup_ne _ _ k] at x
        exact absurd x (hne z e' he')
      · rw [xup_ne _ _ k2] at hy
        rw [xup_ne _ _ k, xup_ne _ _ k2] at x
        exact h.2 z y hz hy x
/-- another table of contents that says no more -/
theorem xRp.mono {w : xw_T} {ad ad' : xR → Nat} {ct ct' : xR → Option va_E} (h : xRp w ad ct) (hc : ∀ r e, ct' r = some e → ct r = some e) (ha : ∀ r, ct' r ≠ none → ad' r = ad r) : xRp w ad' ct' := by
  have hl : ∀ z, ct' z ≠ none → ct z ≠ none := by
    intro z hz
    obtain ⟨e, he⟩ := Option.ne_none_iff_exists'.mp hz
    rw [hc z e he]; exact fun x => by cases x
  refine ⟨fun r e he => ?_, fun r z hr hz x => h.2 r z (hl r hr) (hl z hz) (by rw [← ha r hr, ← ha z hz]; exact x)⟩
  rw [ha r (by rw [he]; exact fun x => by cases x)]
  exact h.1 r e (hc r e he)
end
section
/-! meanings and walks: JDK -/
def wp_AN_init (E : xE_T) (post : xw_T → Prop) (w : xw_T) (h0 : Nat) : Prop := post w
set_option maxHeartbeats 4000000 in
set_option maxRecDepth 100000 in
theorem c_AN_init (l : Launch) (D : va_G) (E : xE_T) (A : Nat → Prop) (post : xw_T → Prop) (w : xw_T) (h0 : Nat) (h : wp_AN_init E post w h0) : Met l yAN_init (xW yAN_init cAN_init 1 none) ({ frames := 1, cells := 0, slots := 0, locals := 12 } : Room) (va_Pc [.ref h0] (xP D E A w)) (va_Qv post (xB D A) A) 0 0 A := by
  refine Met.ofW (cc := cAN_init) (maxL := 1) (ret := none) (by decide) rfl ?_
  intro p e s m args below meth c s₁ B hml hv
  obtain ⟨rfl, hw, hK, hE⟩ := hv
  have hx := B.exec
  have hb := B.bytes
  have hr := B.returns
  have hts : ∀ w ∈ xTB, w.before _ s = true := fun w hw => atoms_spec (ws := xW yAN_init cAN_init 1 none) B.pre w (List.mem_cons_of_mem _ hw)
  have hown : s.vm.findClass RAN = some m.cls := findClass_of_methodNamed B.named
  have hlocks := B.notSynchronized
  have hin : meth.name = "<init>" := (name_of_methodNamed B.named B.method).1
  have hw : xw_S D vwCl A s.heap w s.heap [] := xw_S0 hw
  refine xl_start (lvs := [(0, .ref h0)]) (by first | exact Nat.le_of_ble_eq_true rfl | simp [lg_sl, va_rf_cat, xcat_i, xcat_l, xcat_r, xcat_n]) (by first | rfl | simp [lv_args, va_rf_cat, xcat_i, xcat_l, xcat_r, xcat_n]) (fun ls hl => ?_)
  unfold wp_AN_init at h
  refine lv_aload_n hx hb dAN_init_0 rfl (lv_at hl 0 rfl) ?_
  refine W.objInit hx hb hown (hts _ mw_0) (hts _ mw_1) (hts _ mw_2) rfl (by rw [hml]; exact hl.1) rfl dAN_init_1 (Nat.le_of_ble_eq_true rfl) (Nat.le_of_ble_eq_true rfl) ?_
  refine W.widen (k := 0) (n := 0) (Nat.le_of_ble_eq_true rfl) (Nat.le_of_ble_eq_true rfl) ?_
  exact xw_vret hx hb hr hlocks hw h dAN_init_4
def wp_AB_init (E : xE_T) (post : xw_T → Prop) (w : xw_T) (h0 : Nat) : Prop := wp_AN_init E (fun w2 => (∃ v0, xg w2 h0 0 0 = some v0) ∧ ∀ w3, w3 = xp w2 h0 0 (.int 0) → (post w3)) w h0
set_option maxHeartbeats 4000000 in
set_option maxRecDepth 100000 in
theorem c_AB_init (l : Launch) (D : va_G) (E : xE_T) (A : Nat → Prop) (post : xw_T → Prop) (w : xw_T) (h0 : Nat) (h : wp_AB_init E post w h0) : Met l yAB_init (xW yAB_init cAB_init 1 none) ({ frames := 2, cells := 0, slots := 0, locals := 32 } : Room) (va_Pc [.ref h0] (xP D E A w)) (va_Qv post (xB D A) A) 0 0 A := by
  refine Met.ofW (cc := cAB_init) (maxL := 1) (ret := none) (by decide) rfl ?_
  intro p e s m args below meth c s₁ B hml hv
  obtain ⟨rfl, hw, hK, hE⟩ := hv
  have hx := B.exec
  have hb := B.bytes
  have hr := B.returns
  have hts : ∀ w ∈ xTB, w.before _ s = true := fun w hw => atoms_spec (ws := xW yAB_init cAB_init 1 none) B.pre w (List.mem_cons_of_mem _ hw)
  have hown : s.vm.findClass RAB = some m.cls := findClass_of_methodNamed B.named
  have hlocks := B.notSynchronized
  have hin : meth.name = "<init>" := (name_of_methodNamed B.named B.method).1
  have hw : xw_S D vwCl A s.heap w s.heap [] := xw_S0 hw
  refine xl_start (lvs := [(0, .ref h0)]) (by first | exact Nat.le_of_ble_eq_true rfl | simp [lg_sl, va_rf_cat, xcat_i, xcat_l, xcat_r, xcat_n]) (by first | rfl | simp [lv_args, va_rf_cat, xcat_i, xcat_l, xcat_r, xcat_n]) (fun ls hl => ?_)
  unfold wp_AB_init at h
  refine lv_aload_n hx hb dAB_init_0 rfl (lv_at hl 0 rfl) ?_
  have hcall := h
  clear h
  refine xw_callv (va_runI (As := []) (rest := []) ⟨hx, hb, hml, hown, hts⟩ (c_AN_init l D E A _ w h0 hcall) (cwI 0 hts (xG_I mw_5) rfl rfl rfl (hts _ mw_6) (hts _ mw_4) (hts _ mw_7) rfl (by decide +kernel) ⟨(Nat.le_of_ble_eq_true rfl), (Nat.le_of_ble_eq_true rfl)⟩) (xw_preS hw hK hE) rfl rfl hl.1 rfl (lv_room (by first | exact Nat.le_of_ble_eq_true rfl | simp [va_rf_cat, xcat_i, xcat_l, xcat_r, xcat_n])) dAB_init_1 ⟨(Nat.le_of_ble_eq_true rfl), (Nat.le_of_ble_eq_true rfl)⟩) hw (fun w2 H locs h hw => ?_)
  clear hcall
  refine lv_aload_n hx hb dAB_init_4 rfl (lv_at hl 0 rfl) ?_
  refine lv_iconst (v := 0) hx hb dAB_init_5 (by decide) ?_
  obtain ⟨hv, h⟩ := h
  refine xw_put (ty := (.int)) (C := RAL) (T := TAL) (N := 3) (ref := "java/util/AbstractList") hx hb hts inAL tyAL tyAL_ok nmAL hown hK hw rfl 0 (by decide) (hts _ mw_3) (fun _ h9 => h9) rfl (by decide +kernel) rfl rfl hv dAB_init_6 (fun H locs hw => ?_)
  replace h := h _ rfl
  generalize xp w2 h0 0 (.int 0) = w3 at hw h
  refine W.widen (k := 0) (n := 0) (Nat.le_of_ble_eq_true rfl) (Nat.le_of_ble_eq_true rfl) ?_
  exact xw_vret hx hb hr hlocks hw h dAB_init_9
def wp_AL_init (E : xE_T) (post : xw_T → Prop) (w : xw_T) (h0 : Nat) : Prop := wp_AB_init E (fun w2 => (∃ v0, xg w2 h0 0 1 = some v0) ∧ ∀ w3, w3 = xp w2 h0 1 (.ref (E.2 6)) → (post w3)) w h0
set_option maxHeartbeats 4000000 in
set_option maxRecDepth 100000 in
theorem c_AL_init (l : Launch) (D : va_G) (E : xE_T) (A : Nat → Prop) (post : xw_T → Prop) (w : xw_T) (h0 : Nat) (h : wp_AL_init E post w h0) : Met l yAL_init (xW yAL_init cAL_init 1 none) ({ frames := 3, cells := 0, slots := 0, locals := 52 } : Room) (va_Pc [.ref h0] (xP D E A w)) (va_Qv post (xB D A) A) 0 0 A := by
  refine Met.ofW (cc := cAL_init) (maxL := 1) (ret := none) (by decide) rfl ?_
  intro p e s m args below meth c s₁ B hml hv
  obtain ⟨rfl, hw, hK, hE⟩ := hv
  have hx := B.exec
  have hb := B.bytes
  have hr := B.returns
  have hts : ∀ w ∈ xTB, w.before _ s = true := fun w hw => atoms_spec (ws := xW yAL_init cAL_init 1 none) B.pre w (List.mem_cons_of_mem _ hw)
  have hown : s.vm.findClass RAL = some m.cls := findClass_of_methodNamed B.named
  have hlocks := B.notSynchronized
  have hin : meth.name = "<init>" := (name_of_methodNamed B.named B.method).1
  have hw : xw_S D vwCl A s.heap w s.heap [] := xw_S0 hw
  refine xl_start (lvs := [(0, .ref h0)]) (by first | exact Nat.le_of_ble_eq_true rfl | simp [lg_sl, va_rf_cat, xcat_i, xcat_l, xcat_r, xcat_n]) (by first | rfl | simp [lv_args, va_rf_cat, xcat_i, xcat_l, xcat_r, xcat_n]) (fun ls hl => ?_)
  unfold wp_AL_init at h
  refine lv_aload_n hx hb dAL_init_0 rfl (lv_at hl 0 rfl) ?_
  have hcall := h
  clear h
  refine xw_callv (va_runI (As := []) (rest := []) ⟨hx, hb, hml, hown, hts⟩ (c_AB_init l D E A _ w h0 hcall) (cwI 0 hts (xG_I mw_11) rfl rfl rfl (hts _ mw_12) (hts _ mw_10) (hts _ mw_13) rfl (by decide +kernel) ⟨(Nat.le_of_ble_eq_true rfl), (Nat.le_of_ble_eq_true rfl)⟩) (xw_preS hw hK hE) rfl rfl hl.1 rfl (lv_room (by first | exact Nat.le_of_ble_eq_true rfl | simp [va_rf_cat, xcat_i, xcat_l, xcat_r, xcat_n])) dAL_init_1 ⟨(Nat.le_of_ble_eq_true rfl), (Nat.le_of_ble_eq_true rfl)⟩) hw (fun w2 H locs h hw => ?_)
  clear hcall
  refine lv_aload_n hx hb dAL_init_4 rfl (lv_at hl 0 rfl) ?_
  refine va_gets hx hb hE.2.2.2.2.1.1 hw.2.1 hown (hts _ mw_9) (fun _ h9 => h9) dAL_init_5 ?_
  obtain ⟨hv, h⟩ := h
  refine xw_put (ty := (.array (.object "java/lang/Object"))) (C := RAL) (T := TAL) (N := 3) (ref := RAL) hx hb hts inAL tyAL tyAL_ok nmAL hown hK hw rfl 1 (by decide) (hts _ mw_8) (fun _ h9 => h9) rfl (by decide +kernel) rfl rfl hv dAL_init_8 (fun H locs hw => ?_)
  replace h := h _ rfl
  generalize xp w2 h0 1 (.ref (E.2 6)) = w3 at hw h
  refine W.widen (k := 0) (n := 0) (Nat.le_of_ble_eq_true rfl) (Nat.le_of_ble_eq_true rfl) ?_
  exact xw_vret hx hb hr hlocks hw h dAL_init_11
def wp_AL_size (E : xE_T) (post : Int32 → xw_T → Prop) (w : xw_T) (h0 : Nat) : Prop := ∃ v1, xgI w h0 0 2 = some v1 ∧ (post v1 w)
set_option maxHeartbeats 4000000 in
set_option maxRecDepth 100000 in
theorem c_AL_size (l : Launch) (D : va_G) (E : xE_T) (A : Nat → Prop) (post : Int32 → xw_T → Prop) (w : xw_T) (h0 : Nat) (h : wp_AL_size E post w h0) : Met l yAL_size (xW yAL_size cAL_size 1 (some (.int))) ({ frames := 0, cells := 0, slots := 0, locals := 0 } : Room) (va_Pc [.ref h0] (xP D E A w)) (va_Qi post (xB D A) A) 0 0 A := by
  refine Met.ofW (cc := cAL_size) (maxL := 1) (ret := (some (.int))) (by decide) rfl ?_
  intro p e s m args below meth c s₁ B hml hv
  obtain ⟨rfl, hw, hK, hE⟩ := hv
  have hx := B.exec
  have hb := B.bytes
  have hr := B.returns
  have hts : ∀ w ∈ xTB, w.before _ s = true := fun w hw => atoms_spec (ws := xW yAL_size cAL_size 1 (some (.int))) B.pre w (List.mem_cons_of_mem _ hw)
  have hown : s.vm.findClass RAL = some m.cls := findClass_of_methodNamed B.named
  have hlocks := B.notSynchronized
  have hw : xw_S D vwCl A s.heap w s.heap [] := xw_S0 hw
  refine xl_start (lvs := [(0, .ref h0)]) (by first | exact Nat.le_of_ble_eq_true rfl | simp [lg_sl, va_rf_cat, xcat_i, xcat_l, xcat_r, xcat_n]) (by first | rfl | simp [lv_args, va_rf_cat, xcat_i, xcat_l, xcat_r, xcat_n]) (fun ls hl => ?_)
  unfold wp_AL_size at h
  refine lv_aload_n hx hb dAL_size_0 rfl (lv_at hl 0 rfl) ?_
  obtain ⟨v1, hv, h⟩ := h
  refine xw_getI (C := RAL) (T := TAL) (N := 3) (ref := RAL) hx hb hts inAL hown hK hw rfl 2 (by decide) (hts _ mw_25) (fun _ h9 => h9) hv dAL_size_1 ?_
  refine W.widen (k := 0) (n := 0) (Nat.le_of_ble_eq_true rfl) (Nat.le_of_ble_eq_true rfl) ?_
  exact xw_iret hx hb hr hlocks hw h dAL_size_4
def wp_AS_hugeLength (E : xE_T) (post : Int32 → xw_T → Prop) (w : xw_T) (p0 : Int32) (p1 : Int32) : Prop := (0 ≤ (p0 + p1) → ((2147483639 < (p0 + p1) → (post (p0 + p1) w)) ∧ (¬ 2147483639 < (p0 + p1) → (post 2147483639 w)))) ∧ (¬ 0 ≤ (p0 + p1) → (False))
set_option maxHeartbeats 4000000 in
set_option maxRecDepth 100000 in
theorem c_AS_hugeLength (l : Launch) (D : va_G) (E : xE_T) (A : Nat → Prop) (post : Int32 → xw_T → Prop) (w : xw_T) (p0 : Int32) (p1 : Int32) (h : wp_AS_hugeLength E post w p0 p1) : Met l yAS_hugeLength (xW yAS_hugeLength cAS_hugeLength 3 (some (.int))) ({ frames := 0, cells := 0, slots := 0, locals := 0 } : Room) (va_Pc [.int p0, .int p1] (xP D E A w)) (va_Qi post (xB D A) A) 0 0 A := by
  refine Met.ofW (cc := cAS_hugeLength) (maxL := 3) (ret := (some (.int))) (by decide) rfl ?_
  intro p e s m args below meth c s₁ B hml hv
  obtain ⟨rfl, hw, hK, hE⟩ := hv
  have hx := B.exec
  have hb := B.bytes
  have hr := B.returns
  have hts : ∀ w ∈ xTB, w.before _ s = true := fun w hw => atoms_spec (ws := xW yAS_hugeLength cAS_hugeLength 3 (some (.int))) B.pre w (List.mem_cons_of_mem _ hw)
  have hown : s.vm.findClass RAS = some m.cls := findClass_of_methodNamed B.named
  have hlocks := B.notSynchronized
  have hw : xw_S D vwCl A s.heap w s.heap [] := xw_S0 hw
  refine xl_start (lvs := [(0, .int p0), (1, .int p1)]) (by first | exact Nat.le_of_ble_eq_true rfl | simp [lg_sl, va_rf_cat, xcat_i, xcat_l, xcat_r, xcat_n]) (by first | rfl | simp [lv_args, va_rf_cat, xcat_i, xcat_l, xcat_r, xcat_n]) (fun ls hl => ?_)
  unfold wp_AS_hugeLength at h
  refine lv_iload_n hx hb dAS_hugeLength_0 rfl (lv_at hl 0 rfl) ?_
  refine lv_iload_n hx hb dAS_hugeLength_1 rfl (lv_at hl 1 rfl) ?_
  refine lv_iadd hx hb dAS_hugeLength_2 ?_
  refine lv_istore_n (i := 2) (lv' := [(2, .int (p0 + p1)), (0, .int p0), (1, .int p1)]) hx hb dAS_hugeLength_3 rfl hl (by decide) (by first | rfl | simp [va_rf_cat, xcat_i, xcat_l, xcat_r, xcat_n]) (fun ls hl => ?_)
  refine lv_iload_n hx hb dAS_hugeLength_4 rfl (lv_at hl 0 rfl) ?_
  refine lv_if_ge (tgt := 49) hx hb dAS_hugeLength_5 rfl (fun hc => ?_) (fun hc => ?_)
  · replace h := h.1 hc
    refine lv_iload_n hx hb dAS_hugeLength_49 rfl (lv_at hl 0 rfl) ?_
    refine lv_ldc (v := 2147483639) hx hb hown (hts _ mw_29) dAS_hugeLength_50 ?_
    refine lv_icmp_gt (tgt := 58) hx hb dAS_hugeLength_52 rfl (fun hc => ?_) (fun hc => ?_)
    · replace h := h.1 hc
      refine lv_iload_n hx hb dAS_hugeLength_58 rfl (lv_at hl 0 rfl) ?_
      refine W.widen (k := 0) (n := 0) (Nat.le_of_ble_eq_true rfl) (Nat.le_of_ble_eq_true rfl) ?_
      exact xw_iret hx hb hr hlocks hw h dAS_hugeLength_59
    · replace h := h.2 hc
      refine lv_ldc (v := 2147483639) hx hb hown (hts _ mw_29) dAS_hugeLength_55 ?_
      refine W.widen (k := 0) (n := 0) (Nat.le_of_ble_eq_true rfl) (Nat.le_of_ble_eq_true rfl) ?_
      exact xw_iret hx hb hr hlocks hw h dAS_hugeLength_57
  · replace h := h.2 hc
    exact h.elim
def wp_AS_newLength (E : xE_T) (post : Int32 → xw_T → Prop) (w : xw_T) (p0 : Int32) (p1 : Int32) (p2 : Int32) : Prop := ∀ r1 : Int32, r1 = (if p1 < p2 then p2 else p1) → (((p0 + r1) ≤ 0 → (wp_AS_hugeLength E (fun r2 w3 => post r2 w3) w p0 p1)) ∧ (¬ (p0 + r1) ≤ 0 → ((2147483639 < (p0 + r1) → (wp_AS_hugeLength E (fun r4 w5 => post r4 w5) w p0 p1)) ∧ (¬ 2147483639 < (p0 + r1) → (post (p0 + r1) w)))))
set_option maxHeartbeats 4000000 in
set_option maxRecDepth 100000 in
theorem c_AS_newLength (l : Launch) (D : va_G) (E : xE_T) (A : Nat → Prop) (post : Int32 → xw_T → Prop) (w : xw_T) (p0 : Int32) (p1 : Int32) (p2 : Int32) (h : wp_AS_newLength E post w p0 p1 p2) : Met l yAS_newLength (xW yAS_newLength cAS_newLength 4 (some (.int))) ({ frames := 1, cells := 0, slots := 0, locals := 22 } : Room) (va_Pc [.int p0, .int p1, .int p2] (xP D E A w)) (va_Qi post (xB D A) A) 0 0 A := by
  refine Met.ofW (cc := cAS_newLength) (maxL := 4) (ret := (some (.int))) (by decide) rfl ?_
  intro p e s m args below meth c s₁ B hml hv
  obtain ⟨rfl, hw, hK, hE⟩ := hv
  have hx := B.exec
  have hb := B.bytes
  have hr := B.returns
  have hts : ∀ w ∈ xTB, w.before _ s = true := fun w hw => atoms_spec (ws := xW yAS_newLength cAS_newLength 4 (some (.int))) B.pre w (List.mem_cons_of_mem _ hw)
  have hown : s.vm.findClass RAS = some m.cls := findClass_of_methodNamed B.named
  have hlocks := B.notSynchronized
  have hw : xw_S D vwCl A s.heap w s.heap [] := xw_S0 hw
  refine xl_start (lvs := [(0, .int p0), (1, .int p1), (2, .int p2)]) (by first | exact Nat.le_of_ble_eq_true rfl | simp [lg_sl, va_rf_cat, xcat_i, xcat_l, xcat_r, xcat_n]) (by first | rfl | simp [lv_args, va_rf_cat, xcat_i, xcat_l, xcat_r, xcat_n]) (fun ls hl => ?_)
  unfold wp_AS_newLength at h
  refine lv_iload_n hx hb dAS_newLength_0 rfl (lv_at hl 0 rfl) ?_
  refine lv_iload_n hx hb dAS_newLength_1 rfl (lv_at hl 1 rfl) ?_
  refine lv_iload_n hx hb dAS_newLength_2 rfl (lv_at hl 2 rfl) ?_
  refine va_mmax hx hb (hml.trans hl.1.symm) hown (hts _ mw_35) (hts _ mw_36) (hts _ mw_37) (hts _ mw_34) (Nat.le_of_ble_eq_true rfl) (by first | exact Nat.le_of_ble_eq_true rfl | simp [va_rf_cat, xcat_i, xcat_l, xcat_r, xcat_n]) (Nat.le_of_ble_eq_true rfl) (Nat.le_of_ble_eq_true rfl) dAS_newLength_3 ?_
  replace h := h _ rfl
  generalize (if p1 < p2 then p2 else p1) = r1 at h ⊢
  refine lv_iadd hx hb dAS_newLength_6 ?_
  refine lv_istore_n (i := 3) (lv' := [(3, .int (p0 + r1)), (0, .int p0), (1, .int p1), (2, .int p2)]) hx hb dAS_newLength_7 rfl hl (by decide) (by first | rfl | simp [va_rf_cat, xcat_i, xcat_l, xcat_r, xcat_n]) (fun ls hl => ?_)
  refine lv_iconst (v := 0) hx hb dAS_newLength_8 (by decide) ?_
  refine lv_iload_n hx hb dAS_newLength_9 rfl (lv_at hl 0 rfl) ?_
  refine lv_icmp_ge (tgt := 21) hx hb dAS_newLength_10 rfl (fun hc => ?_) (fun hc => ?_)
  · replace h := h.1 hc
    refine lv_iload_n hx hb dAS_newLength_21 rfl (lv_at hl 1 rfl) ?_
    refine lv_iload_n hx hb dAS_newLength_22 rfl (lv_at hl 2 rfl) ?_
    have hcall := h
    clear h
    refine xw_calli (va_runS (As := [.int p0, .int p1]) (rest := []) ⟨hx, hb, hml, hown, hts⟩ (c_AS_hugeLength l D E A _ w p0 p1 hcall) (va_cwS 2 hts (xG_S mw_30 mw_31 mw_32 mw_33) rfl rfl rfl (by decide +kernel) ⟨(Nat.le_of_ble_eq_true rfl), (Nat.le_of_ble_eq_true rfl)⟩) (xw_preS hw hK hE) rfl rfl hl.1 rfl (lv_room (by first | exact Nat.le_of_ble_eq_true rfl | simp [va_rf_cat, xcat_i, xcat_l, xcat_r, xcat_n])) dAS_newLength_23 ⟨(Nat.le_of_ble_eq_true rfl), (Nat.le_of_ble_eq_true rfl)⟩) hw (fun r2 w3 H locs h hw => ?_)
    clear hcall
    refine W.widen (k := 0) (n := 0) (Nat.le_of_ble_eq_true rfl) (Nat.le_of_ble_eq_true rfl) ?_
    exact xw_iret hx hb hr hlocks hw h dAS_newLength_26
  · replace h := h.2 hc
    refine lv_iload_n hx hb dAS_newLength_13 rfl (lv_at hl 0 rfl) ?_
    refine lv_ldc (v := 2147483639) hx hb hown (hts _ mw_29) dAS_newLength_14 ?_
    refine lv_icmp_gt (tgt := 21) hx hb dAS_newLength_16 rfl (fun hc => ?_) (fun hc => ?_)
    · replace h := h.1 hc
      refine lv_iload_n hx hb dAS_newLength_21 rfl (lv_at hl 1 rfl) ?_
      refine lv_iload_n hx hb dAS_newLength_22 rfl (lv_at hl 2 rfl) ?_
      have hcall := h
      clear h
      refine xw_calli (va_runS (As := [.int p0, .int p1]) (rest := []) ⟨hx, hb, hml, hown, hts⟩ (c_AS_hugeLength l D E A _ w p0 p1 hcall) (va_cwS 2 hts (xG_S mw_30 mw_31 mw_32 mw_33) rfl rfl rfl (by decide +kernel) ⟨(Nat.le_of_ble_eq_true rfl), (Nat.le_of_ble_eq_true rfl)⟩) (xw_preS hw hK hE) rfl rfl hl.1 rfl (lv_room (by first | exact Nat.le_of_ble_eq_true rfl | simp [va_rf_cat, xcat_i, xcat_l, xcat_r, xcat_n])) dAS_newLength_23 ⟨(Nat.le_of_ble_eq_true rfl), (Nat.le_of_ble_eq_true rfl)⟩) hw (fun r4 w5 H locs h hw => ?_)
      clear hcall
      refine W.widen (k := 0) (n := 0) (Nat.le_of_ble_eq_true rfl) (Nat.le_of_ble_eq_true rfl) ?_
      exact xw_iret hx hb hr hlocks hw h dAS_newLength_26
    · replace h := h.2 hc
      refine lv_iload_n hx hb dAS_newLength_19 rfl (lv_at hl 0 rfl) ?_
      refine W.widen (k := 0) (n := 0) (Nat.le_of_ble_eq_true rfl) (Nat.le_of_ble_eq_true rfl) ?_
      exact xw_iret hx hb hr hlocks hw h dAS_newLength_20
def wp_AR_copyOf2 (E : xE_T) (post : Option Nat → xw_T → Prop) (w : xw_T) (p0 : Option Nat) (p1 : Int32) (p2 : Option Nat) : Prop := (¬ p2 = (some (E.2 7)) → (False)) ∧ (p2 = (some (E.2 7)) → (∃ n3 : Nat, ¬ p1 < 0 ∧ p1.toNatClampNeg = n3 ∧ n3 ≤ 366 ∧ ∀ q1 : Nat, w q1 = none → ∀ w2, w2 = va_up w q1 (some (xcQ (E.1 0) n3 (fun _ => none))) → (∃ a4 : Nat, p0 = some a4 ∧ (∃ n5 : Nat, xlen E w2 a4 0 = some n5 ∧ (∀ r6 : Int32, r6 = (if p1 < (nI n5) then p1 else (nI n5)) → (∃ n7 f8 n9 f10, xaQ w2 a4 (E.1 0) = some (n7, f8) ∧ xaQ w2 q1 (E.1 0) = some (n9, f10) ∧ (¬ (0 : Int32) < 0 ∧ ¬ (0 : Int32) < 0 ∧ ¬ r6 < 0 ∧ (0 : Int32).toNatClampNeg + r6.toNatClampNeg ≤ n7 ∧ (0 : Int32).toNatClampNeg + r6.toNatClampNeg ≤ n9) ∧ (∀ i : Nat, i < r6.toNatClampNeg → ∀ y : Nat, f8 ((0 : Int32).toNatClampNeg + i) = some y → xOb w2 y) ∧ ∀ w11, w11 = va_up w2 q1 (some (xcQ (E.1 0) n9 (va_cpy f8 f10 (0 : Int32).toNatClampNeg (0 : Int32).toNatClampNeg r6.toNatClampNeg))) → (post (some q1) w11)))))))
set_option maxHeartbeats 4000000 in
set_option maxRecDepth 100000 in
theorem c_AR_copyOf2 (l : Launch) (D : va_G) (E : xE_T) (A : Nat → Prop) (post : Option Nat → xw_T → Prop) (w : xw_T) (p0 : Option Nat) (p1 : Int32) (p2 : Option Nat) (h : wp_AR_copyOf2 E post w p0 p1 p2) : Met l yAR_copyOf2 (xW yAR_copyOf2 cAR_copyOf2 4 (some (.array (.object "java/lang/Object")))) ({ frames := 1, cells := 1, slots := 366, locals := 18 } : Room) (va_Pc [va_rf p0, .int p1, va_rf p2] (xP D E A w)) (va_Qq post (xB D A) A) 1 366 A := by
  refine Met.ofW (cc := cAR_copyOf2) (maxL := 4) (ret := (some (.array (.object "java/lang/Object")))) (by decide) rfl ?_
  intro p e s m args below meth c s₁ B hml hv
  obtain ⟨rfl, hw, hK, hE⟩ := hv
  have hx := B.exec
  have hb := B.bytes
  have hr := B.returns
  have hts : ∀ w ∈ xTB, w.before _ s = true := fun w hw => atoms_spec (ws := xW yAR_copyOf2 cAR_copyOf2 4 (some (.array (.object "java/lang/Object")))) B.pre w (List.mem_cons_of_mem _ hw)
  have hown : s.vm.findClass RAR = some m.cls := findClass_of_methodNamed B.named
  have hlocks := B.notSynchronized
  have hw : xw_S D vwCl A s.heap w s.heap [] := xw_S0 hw
  refine xl_start (lvs := [(0, va_rf p0), (1, .int p1), (2, va_rf p2)]) (by first | exact Nat.le_of_ble_eq_true rfl | simp [lg_sl, va_rf_cat, xcat_i, xcat_l, xcat_r, xcat_n]) (by first | rfl | simp [lv_args, va_rf_cat, xcat_i, xcat_l, xcat_r, xcat_n]) (fun ls hl => ?_)
  unfold wp_AR_copyOf2 at h
  refine xl_aload_n hx hb dAR_copyOf2_0 rfl (lv_at hl 2 rfl) ?_
  refine va_ldcM (C := "[Ljava/lang/Object;") hx hb hown (hts _ mw_46) hE.2.1.2.2.1 dAR_copyOf2_1 ?_
  refine lv_acmp_ne (rx := p2) (ry := (some (E.2 7))) (tgt := 13) hx hb dAR_copyOf2_3 rfl (fun hc => ?_) (fun hc => ?_)
  · replace h := h.1 hc
    refine xl_aload_n hx hb dAR_copyOf2_13 rfl (lv_at hl 2 rfl) ?_
    exact h.elim
  · replace h := h.2 hc
    refine lv_iload_n hx hb dAR_copyOf2_6 rfl (lv_at hl 1 rfl) ?_
    obtain ⟨n3, hn0, hn1, hn2, h⟩ := h
    refine xw_newq (N' := n3) hx hb hown (hts _ mw_45) hK hE hw hn0 hn1 (by omega) (Nat.le_of_ble_eq_true rfl) (Nat.le_trans (Nat.add_le_add_left hn2 _) (Nat.le_of_ble_eq_true rfl)) dAR_copyOf2_7 (fun q1 H hq hw => ?_)
    refine W.widen (k := 1) (n := 366) (Nat.le_of_ble_eq_true rfl) (Nat.add_le_add_left hn2 _) ?_
    replace h := h _ hq _ rfl
    generalize va_up w q1 (some (xcQ (E.1 0) n3 (fun _ => none))) = w2 at hw h
    refine lv_goto (tgt := 24) hx hb dAR_copyOf2_10 rfl ?_
    refine lv_astore_n (i := 3) (lv' := [(3, .ref q1), (0, va_rf p0), (1, .int p1), (2, va_rf p2)]) hx hb dAR_copyOf2_24 rfl hl (by decide) (by first | rfl | simp [va_rf_cat, xcat_i, xcat_l, xcat_r, xcat_n]) (fun ls hl => ?_)
    refine xl_aload_n hx hb dAR_copyOf2_25 rfl (lv_at hl 1 rfl) ?_
    refine lv_iconst (v := 0) hx hb dAR_copyOf2_26 (by decide) ?_
    refine lv_aload_n hx hb dAR_copyOf2_27 rfl (lv_at hl 0 rfl) ?_
    refine lv_iconst (v := 0) hx hb dAR_copyOf2_28 (by decide) ?_
    refine xl_aload_n hx hb dAR_copyOf2_29 rfl (lv_at hl 1 rfl) ?_
    obtain ⟨a4, rfl, h⟩ := h
    obtain ⟨n5, hn, h⟩ := h
    refine xw_len hx hb hK hE hw 0 (by decide) hn dAR_copyOf2_30 ?_
    refine lv_iload_n hx hb dAR_copyOf2_31 rfl (lv_at hl 2 rfl) ?_
    refine va_mmin hx hb (hml.trans hl.1.symm) hown (hts _ mw_43) (hts _ mw_44) (hts _ mw_37) (hts _ mw_42) (Nat.le_of_ble_eq_true rfl) (by first | exact Nat.le_of_ble_eq_true rfl | simp [va_rf_cat, xcat_i, xcat_l, xcat_r, xcat_n]) (Nat.le_of_ble_eq_true rfl) (Nat.le_of_ble_eq_true rfl) dAR_copyOf2_32 ?_
    replace h := h _ rfl
    generalize (if p1 < (nI n5) then p1 else (nI n5)) = r6 at h ⊢
    obtain ⟨n7, f8, n9, f10, ha0, ha1, hcc, hel, h⟩ := h
    refine xw_copy hx hb (hml.trans hl.1.symm) hown (hts _ mw_38) (hts _ mw_39) (hts _ mw_40) (hts _ mw_41) hK hE hw ha0 ha1 hcc hel (Nat.le_of_ble_eq_true rfl) (by first | exact Nat.le_of_ble_eq_true rfl | simp [nativeFrameWords, va_rf_cat, xcat_i, xcat_l, xcat_r, xcat_n]) dAR_copyOf2_35 (fun H locs hw => ?_)
    replace h := h _ rfl
    generalize va_up w2 q1 (some (xcQ (E.1 0) n9 (va_cpy f8 f10 (0 : Int32).toNatClampNeg (0 : Int32).toNatClampNeg r6.toNatClampNeg))) = w11 at hw h
    refine lv_aload_n hx hb dAR_copyOf2_38 rfl (lv_at hl 0 rfl) ?_
    refine W.widen (k := 1) (n := 366) (Nat.le_of_ble_eq_true rfl) (Nat.le_of_ble_eq_true rfl) ?_
    exact xw_aret (r := (some q1)) (Or.inr ⟨_, rfl⟩) hx hb hr hlocks hw h dAR_copyOf2_39
def wp_AR_copyOf (E : xE_T) (post : Option Nat → xw_T → Prop) (w : xw_T) (p0 : Option Nat) (p1 : Int32) : Prop := ∃ a1 : Nat, p0 = some a1 ∧ ((∃ n2 f3, xaQ w a1 (E.1 0) = some (n2, f3)) ∧ (wp_AR_copyOf2 E (fun r4 w5 => post r4 w5) w (some a1) p1 (some (E.2 7))))
set_option maxHeartbeats 4000000 in
set_option maxRecDepth 100000 in
theorem c_AR_copyOf (l : Launch) (D : va_G) (E : xE_T) (A : Nat → Prop) (post : Option Nat → xw_T → Prop) (w : xw_T) (p0 : Option Nat) (p1 : Int32) (h : wp_AR_copyOf E post w p0 p1) : Met l yAR_copyOf (xW yAR_copyOf cAR_copyOf 2 (some (.array (.object "java/lang/Object")))) ({ frames := 2, cells := 1, slots := 366, locals := 41 } : Room) (va_Pc [va_rf p0, .int p1] (xP D E A w)) (va_Qq post (xB D A) A) 1 366 A := by
  refine Met.ofW (cc := cAR_copyOf) (maxL := 2) (ret := (some (.array (.object "java/lang/Object")))) (by decide) rfl ?_
  intro p e s m args below meth c s₁ B hml hv
  obtain ⟨rfl, hw, hK, hE⟩ := hv
  have hx := B.exec
  have hb := B.bytes
  have hr := B.returns
  have hts : ∀ w ∈ xTB, w.before _ s = true := fun w hw => atoms_spec (ws := xW yAR_copyOf cAR_copyOf 2 (some (.array (.object "java/lang/Object")))) B.pre w (List.mem_cons_of_mem _ hw)
  have hown : s.vm.findClass RAR = some m.cls := findClass_of_methodNamed B.named
  have hlocks := B.notSynchronized
  have hw : xw_S D vwCl A s.heap w s.heap [] := xw_S0 hw
  refine xl_start (lvs := [(0, va_rf p0), (1, .int p1)]) (by first | exact Nat.le_of_ble_eq_true rfl | simp [lg_sl, va_rf_cat, xcat_i, xcat_l, xcat_r, xcat_n]) (by first | rfl | simp [lv_args, va_rf_cat, xcat_i, xcat_l, xcat_r, xcat_n]) (fun ls hl => ?_)
  unfold wp_AR_copyOf at h
  refine xl_aload_n hx hb dAR_copyOf_0 rfl (lv_at hl 0 rfl) ?_
  refine lv_iload_n hx hb dAR_copyOf_1 rfl (lv_at hl 1 rfl) ?_
  refine xl_aload_n hx hb dAR_copyOf_2 rfl (lv_at hl 0 rfl) ?_
  obtain ⟨a1, rfl, h⟩ := h
  obtain ⟨⟨n2, f3, ha⟩, h⟩ := h
  refine va_getC (C := "[Ljava/lang/Object;") hx hb (hml.trans hl.1.symm) hown (hts _ mw_51) hE.2.1.2.1.use (hts _ mw_52) (hts _ mw_53) (hts _ mw_54) hE.2.1.2.2.1 (xw_recvQ hK hw ha) (Nat.le_of_ble_eq_true rfl) (by first | exact Nat.le_of_ble_eq_true rfl | simp [va_rf_cat, xcat_i, xcat_l, xcat_r, xcat_n]) dAR_copyOf_3 ?_
  have hcall := h
  clear h
  refine xw_callq (va_runS (As := [.ref a1, .int p1, .ref (E.2 7)]) (rest := []) ⟨hx, hb, hml, hown, hts⟩ (c_AR_copyOf2 l D E A _ w (some a1) p1 (some (E.2 7)) hcall) (va_cwS 3 hts (xG_S mw_47 mw_48 mw_49 mw_50) rfl rfl rfl (by decide +kernel) ⟨(Nat.le_of_ble_eq_true rfl), (Nat.le_of_ble_eq_true rfl)⟩) (xw_preS hw hK hE) rfl rfl hl.1 rfl (lv_room (by first | exact Nat.le_of_ble_eq_true rfl | simp [va_rf_cat, xcat_i, xcat_l, xcat_r, xcat_n])) dAR_copyOf_6 ⟨(Nat.le_of_ble_eq_true rfl), (Nat.le_of_ble_eq_true rfl)⟩) hw (fun r4 w5 H locs h hw => ?_)
  clear hcall
  refine W.widen (k := 1) (n := 366) (Nat.le_of_ble_eq_true rfl) (Nat.le_of_ble_eq_true rfl) ?_
  exact xw_aret (r := r4) (Or.inr ⟨_, rfl⟩) hx hb hr hlocks hw h dAR_copyOf_9
def wp_AL_grow2 (E : xE_T) (post : Option Nat → xw_T → Prop) (w : xw_T) (h0 : Nat) (p0 : Int32) : Prop := ∃ v1, xgR w h0 0 1 = some v1 ∧ (∃ a2 : Nat, v1 = some a2 ∧ (∃ n3 : Nat, xlen E w a2 0 = some n3 ∧ ((0 < (nI n3) → (wp_AS_newLength E (fun r4 w5 => ∃ v6, xgR w5 h0 0 1 = some v6 ∧ (wp_AR_copyOf E (fun r7 w8 => (∃ v0, xg w8 h0 0 1 = some v0) ∧ ∀ w9, w9 = xp w8 h0 1 (va_rf r7) → (post r7 w9)) w5 v6 r4)) w (nI n3) (p0 - (nI n3)) ((nI n3) >>> (1 &&& 31)))) ∧ (¬ 0 < (nI n3) → (∃ v10, xgR w h0 0 1 = some v10 ∧ ((v10 = (some (E.2 6)) → (∀ r11 : Int32, r11 = (if 10 < p0 then p0 else 10) → (∃ n14 : Nat, ¬ r11 < 0 ∧ r11.toNatClampNeg = n14 ∧ n14 ≤ 366 ∧ ∀ q12 : Nat, w q12 = none → ∀ w13, w13 = va_up w q12 (some (xcQ (E.1 0) n14 (fun _ => none))) → ((∃ v0, xg w13 h0 0 1 = some v0) ∧ ∀ w15, w15 = xp w13 h0 1 (.ref q12) → (post (some q12) w15))))) ∧ (¬ v10 = (some (E.2 6)) → (wp_AS_newLength E (fun r16 w17 => ∃ v18, xgR w17 h0 0 1 = some v18 ∧ (wp_AR_copyOf E (fun r19 w20 => (∃ v0, xg w20 h0 0 1 = some v0) ∧ ∀ w21, w21 = xp w20 h0 1 (va_rf r19) → (post r19 w21)) w17 v18 r16)) w (nI n3) (p0 - (nI n3)) ((nI n3) >>> (1 &&& 31))))))))))
set_option maxHeartbeats 4000000 in
set_option maxRecDepth 100000 in
theorem c_AL_grow2 (l : Launch) (D : va_G) (E : xE_T) (A : Nat → Prop) (post : Option Nat → xw_T → Prop) (w : xw_T) (h0 : Nat) (p0 : Int32) (h : wp_AL_grow2 E post w h0 p0) : Met l yAL_grow2 (xW yAL_grow2 cAL_grow2 4 (some (.array (.object "java/lang/Object")))) ({ frames := 3, cells := 1, slots := 366, locals := 62 } : Room) (va_Pc [.ref h0, .int p0] (xP D E A w)) (va_Qq post (xB D A) A) 1 366 A := by
  refine Met.ofW (cc := cAL_grow2) (maxL := 4) (ret := (some (.array (.object "java/lang/Object")))) (by decide) rfl ?_
  intro p e s m args below meth c s₁ B hml hv
  obtain ⟨rfl, hw, hK, hE⟩ := hv
  have hx := B.exec
  have hb := B.bytes
  have hr := B.returns
  have hts : ∀ w ∈ xTB, w.before _ s = true := fun w hw => atoms_spec (ws := xW yAL_grow2 cAL_grow2 4 (some (.array (.object "java/lang/Object")))) B.pre w (List.mem_cons_of_mem _ hw)
  have hown : s.vm.findClass RAL = some m.cls := findClass_of_methodNamed B.named
  have hlocks := B.notSynchronized
  have hw : xw_S D vwCl A s.heap w s.heap [] := xw_S0 hw
  refine xl_start (lvs := [(0, .ref h0), (1, .int p0)]) (by first | exact Nat.le_of_ble_eq_true rfl | simp [lg_sl, va_rf_cat, xcat_i, xcat_l, xcat_r, xcat_n]) (by first | rfl | simp [lv_args, va_rf_cat, xcat_i, xcat_l, xcat_r, xcat_n]) (fun ls hl => ?_)
  unfold wp_AL_grow2 at h
  refine lv_aload_n hx hb dAL_grow2_0 rfl (lv_at hl 0 rfl) ?_
  obtain ⟨v1, hv, h⟩ := h
  refine xw_getR (C := RAL) (T := TAL) (N := 3) (ref := RAL) hx hb hts inAL hown hK hw rfl 1 (by decide) (hts _ mw_8) (fun _ h9 => h9) hv dAL_grow2_1 ?_
  obtain ⟨a2, rfl, h⟩ := h
  obtain ⟨n3, hn, h⟩ := h
  refine xw_len hx hb hK hE hw 0 (by decide) hn dAL_grow2_4 ?_
  refine lv_istore_n (i := 2) (lv' := [(2, .int (nI n3)), (0, .ref h0), (1, .int p0)]) hx hb dAL_grow2_5 rfl hl (by decide) (by first | rfl | simp [va_rf_cat, xcat_i, xcat_l, xcat_r, xcat_n]) (fun ls hl => ?_)
  refine lv_iload_n hx hb dAL_grow2_6 rfl (lv_at hl 0 rfl) ?_
  refine lv_if_gt (tgt := 20) hx hb dAL_grow2_7 rfl (fun hc => ?_) (fun hc => ?_)
  · replace h := h.1 hc
    refine lv_iload_n hx hb dAL_grow2_20 rfl (lv_at hl 0 rfl) ?_
    refine lv_iload_n hx hb dAL_grow2_21 rfl (lv_at hl 2 rfl) ?_
    refine lv_iload_n hx hb dAL_grow2_22 rfl (lv_at hl 0 rfl) ?_
    refine lv_isub hx hb dAL_grow2_23 ?_
    refine lv_iload_n hx hb dAL_grow2_24 rfl (lv_at hl 0 rfl) ?_
    refine lv_iconst (v := 1) hx hb dAL_grow2_25 (by decide) ?_
    refine lv_ishr hx hb dAL_grow2_26 ?_
    have hcall := h
    clear h
    refine xw_calli (va_runS (As := [.int (nI n3), .int (p0 - (nI n3)), .int ((nI n3) >>> (1 &&& 31))]) (rest := []) ⟨hx, hb, hml, hown, hts⟩ (c_AS_newLength l D E A _ w (nI n3) (p0 - (nI n3)) ((nI n3) >>> (1 &&& 31)) hcall) (va_cwS 3 hts (xG_S mw_58 mw_59 mw_32 mw_60) rfl rfl rfl (by decide +kernel) ⟨(Nat.le_of_ble_eq_true rfl), (Nat.le_of_ble_eq_true rfl)⟩) (xw_preS hw hK hE) rfl rfl hl.1 rfl (lv_room (by first | exact Nat.le_of_ble_eq_true rfl | simp [va_rf_cat, xcat_i, xcat_l, xcat_r, xcat_n])) dAL_grow2_27 ⟨(Nat.le_of_ble_eq_true rfl), (Nat.le_of_ble_eq_true rfl)⟩) hw (fun r4 w5 H locs h hw => ?_)
    clear hcall
    refine lv_istore_n (i := 3) (lv' := [(3, .int r4), (2, .int (nI n3)), (0, .ref h0), (1, .int p0)]) hx hb dAL_grow2_30 rfl hl (by decide) (by first | rfl | simp [va_rf_cat, xcat_i, xcat_l, xcat_r, xcat_n]) (fun ls hl => ?_)
    refine lv_aload_n hx hb dAL_grow2_31 rfl (lv_at hl 2 rfl) ?_
    refine lv_aload_n hx hb dAL_grow2_32 rfl (lv_at hl 2 rfl) ?_
    obtain ⟨v6, hv, h⟩ := h
    refine xw_getR (C := RAL) (T := TAL) (N := 3) (ref := RAL) hx hb hts inAL hown hK hw rfl 1 (by decide) (hts _ mw_8) (fun _ h9 => h9) hv dAL_grow2_33 ?_
    refine lv_iload_n hx hb dAL_grow2_36 rfl (lv_at hl 0 rfl) ?_
    have hcall := h
    clear h
    refine xw_callq (va_runS (As := [va_rf v6, .int r4]) (rest := [.ref h0]) ⟨hx, hb, hml, hown, hts⟩ (c_AR_copyOf l D E A _ w5 v6 r4 hcall) (va_cwS 2 hts (xG_S mw_55 mw_56 mw_49 mw_57) rfl rfl rfl (by decide +kernel) ⟨(Nat.le_of_ble_eq_true rfl), (Nat.le_of_ble_eq_true rfl)⟩) (xw_preS hw hK hE) rfl rfl hl.1 rfl (lv_room (by first | exact Nat.le_of_ble_eq_true rfl | simp [va_rf_cat, xcat_i, xcat_l, xcat_r, xcat_n])) dAL_grow2_37 ⟨(Nat.le_of_ble_eq_true rfl), (Nat.le_of_ble_eq_true rfl)⟩) hw (fun r7 w8 H locs h hw => ?_)
    clear hcall
    refine lv_dup_x1 hx hb dAL_grow2_40 (va_rf_cat _) rfl ?_
    obtain ⟨hv, h⟩ := h
    refine xw_put (ty := (.array (.object "java/lang/Object"))) (C := RAL) (T := TAL) (N := 3) (ref := RAL) hx hb hts inAL tyAL tyAL_ok nmAL hown hK hw rfl 1 (by decide) (hts _ mw_8) (fun _ h9 => h9) rfl (by decide +kernel) (xn_rf _ _ (Or.inr ⟨_, rfl⟩)) (xf_rf _ _ (Or.inr ⟨_, rfl⟩)) hv dAL_grow2_41 (fun H locs hw => ?_)
    replace h := h _ rfl
    generalize xp w8 h0 1 (va_rf r7) = w9 at hw h
    refine W.widen (k := 1) (n := 366) (Nat.le_of_ble_eq_true rfl) (Nat.le_of_ble_eq_true rfl) ?_
    exact xw_aret (r := r7) (Or.inr ⟨_, rfl⟩) hx hb hr hlocks hw h dAL_grow2_44
  · replace h := h.2 hc
    refine lv_aload_n hx hb dAL_grow2_10 rfl (lv_at hl 1 rfl) ?_
    obtain ⟨v10, hv, h⟩ := h
    refine xw_getR (C := RAL) (T := TAL) (N := 3) (ref := RAL) hx hb hts inAL hown hK hw rfl 1 (by decide) (hts _ mw_8) (fun _ h9 => h9) hv dAL_grow2_11 ?_
    refine va_gets hx hb hE.2.2.2.2.1.1 hw.2.1 hown (hts _ mw_9) (fun _ h9 => h9) dAL_grow2_14 ?_
    refine lv_acmp_eq (rx := v10) (ry := (some (E.2 6))) (tgt := 45) hx hb dAL_grow2_17 rfl (fun hc => ?_) (fun hc => ?_)
    · replace h := h.1 hc
      refine lv_aload_n hx hb dAL_grow2_45 rfl (lv_at hl 1 rfl) ?_
      refine lv_bipush (v := 10) hx hb dAL_grow2_46 (by decide) ?_
      refine lv_iload_n hx hb dAL_grow2_48 rfl (lv_at hl 2 rfl) ?_
      refine va_mmax hx hb (hml.trans hl.1.symm) hown (hts _ mw_62) (hts _ mw_36) (hts _ mw_37) (hts _ mw_34) (Nat.le_of_ble_eq_true rfl) (by first | exact Nat.le_of_ble_eq_true rfl | simp [va_rf_cat, xcat_i, xcat_l, xcat_r, xcat_n]) (Nat.le_of_ble_eq_true rfl) (Nat.le_of_ble_eq_true rfl) dAL_grow2_49 ?_
      replace h := h _ rfl
      generalize (if 10 < p0 then p0 else 10) = r11 at h ⊢
      obtain ⟨n14, hn0, hn1, hn2, h⟩ := h
      refine xw_newq (N' := n14) hx hb hown (hts _ mw_61) hK hE hw hn0 hn1 (by omega) (Nat.le_of_ble_eq_true rfl) (Nat.le_trans (Nat.add_le_add_left hn2 _) (Nat.le_of_ble_eq_true rfl)) dAL_grow2_52 (fun q12 H hq hw => ?_)
      refine W.widen (k := 1) (n := 366) (Nat.le_of_ble_eq_true rfl) (Nat.add_le_add_left hn2 _) ?_
      replace h := h _ hq _ rfl
      generalize va_up w q12 (some (xcQ (E.1 0) n14 (fun _ => none))) = w13 at hw h
      refine lv_dup_x1 hx hb dAL_grow2_55 rfl rfl ?_
      obtain ⟨hv, h⟩ := h
      refine xw_put (ty := (.array (.object "java/lang/Object"))) (C := RAL) (T := TAL) (N := 3) (ref := RAL) hx hb hts inAL tyAL tyAL_ok nmAL hown hK hw rfl 1 (by decide) (hts _ mw_8) (fun _ h9 => h9) rfl (by decide +kernel) rfl rfl hv dAL_grow2_56 (fun H locs hw => ?_)
      replace h := h _ rfl
      generalize xp w13 h0 1 (.ref q12) = w15 at hw h
      refine W.widen (k := 1) (n := 366) (Nat.le_of_ble_eq_true rfl) (Nat.le_of_ble_eq_true rfl) ?_
      exact xw_aret (r := (some q12)) (Or.inr ⟨_, rfl⟩) hx hb hr hlocks hw h dAL_grow2_59
    · replace h := h.2 hc
      refine lv_iload_n hx hb dAL_grow2_20 rfl (lv_at hl 0 rfl) ?_
      refine lv_iload_n hx hb dAL_grow2_21 rfl (lv_at hl 2 rfl) ?_
      refine lv_iload_n hx hb dAL_grow2_22 rfl (lv_at hl 0 rfl) ?_
      refine lv_isub hx hb dAL_grow2_23 ?_
      refine lv_iload_n hx hb dAL_grow2_24 rfl (lv_at hl 0 rfl) ?_
      refine lv_iconst (v := 1) hx hb dAL_grow2_25 (by decide) ?_
      refine lv_ishr hx hb dAL_grow2_26 ?_
      have hcall := h
      clear h
      refine xw_calli (va_runS (As := [.int (nI n3), .int (p0 - (nI n3)), .int ((nI n3) >>> (1 &&& 31))]) (rest := []) ⟨hx, hb, hml, hown, hts⟩ (c_AS_newLength l D E A _ w (nI n3) (p0 - (nI n3)) ((nI n3) >>> (1 &&& 31)) hcall) (va_cwS 3 hts (xG_S mw_58 mw_59 mw_32 mw_60) rfl rfl rfl (by decide +kernel) ⟨(Nat.le_of_ble_eq_true rfl), (Nat.le_of_ble_eq_true rfl)⟩) (xw_preS hw hK hE) rfl rfl hl.1 rfl (lv_room (by first | exact Nat.le_of_ble_eq_true rfl | simp [va_rf_cat, xcat_i, xcat_l, xcat_r, xcat_n])) dAL_grow2_27 ⟨(Nat.le_of_ble_eq_true rfl), (Nat.le_of_ble_eq_true rfl)⟩) hw (fun r16 w17 H locs h hw => ?_)
      clear hcall
      refine lv_istore_n (i := 3) (lv' := [(3, .int r16), (2, .int (nI n3)), (0, .ref h0), (1, .int p0)]) hx hb dAL_grow2_30 rfl hl (by decide) (by first | rfl | simp [va_rf_cat, xcat_i, xcat_l, xcat_r, xcat_n]) (fun ls hl => ?_)
      refine lv_aload_n hx hb dAL_grow2_31 rfl (lv_at hl 2 rfl) ?_
      refine lv_aload_n hx hb dAL_grow2_32 rfl (lv_at hl 2 rfl) ?_
      obtain ⟨v18, hv, h⟩ := h
      refine xw_getR (C := RAL) (T := TAL) (N := 3) (ref := RAL) hx hb hts inAL hown hK hw rfl 1 (by decide) (hts _ mw_8) (fun _ h9 => h9) hv dAL_grow2_33 ?_
      refine lv_iload_n hx hb dAL_grow2_36 rfl (lv_at hl 0 rfl) ?_
      have hcall := h
      clear h
      refine xw_callq (va_runS (As := [va_rf v18, .int r16]) (rest := [.ref h0]) ⟨hx, hb, hml, hown, hts⟩ (c_AR_copyOf l D E A _ w17 v18 r16 hcall) (va_cwS 2 hts (xG_S mw_55 mw_56 mw_49 mw_57) rfl rfl rfl (by decide +kernel) ⟨(Nat.le_of_ble_eq_true rfl), (Nat.le_of_ble_eq_true rfl)⟩) (xw_preS hw hK hE) rfl rfl hl.1 rfl (lv_room (by first | exact Nat.le_of_ble_eq_true rfl | simp [va_rf_cat, xcat_i, xcat_l, xcat_r, xcat_n])) dAL_grow2_37 ⟨(Nat.le_of_ble_eq_true rfl), (Nat.le_of_ble_eq_true rfl)⟩) hw (fun r19 w20 H locs h hw => ?_)
      clear hcall
      refine lv_dup_x1 hx hb dAL_grow2_40 (va_rf_cat _) rfl ?_
      obtain ⟨hv, h⟩ := h
      refine xw_put (ty := (.array (.object "java/lang/Object"))) (C := RAL) (T := TAL) (N := 3) (ref := RAL) hx hb hts inAL tyAL tyAL_ok nmAL hown hK hw rfl 1 (by decide) (hts _ mw_8) (fun _ h9 => h9) rfl (by decide +kernel) (xn_rf _ _ (Or.inr ⟨_, rfl⟩)) (xf_rf _ _ (Or.inr ⟨_, rfl⟩)) hv dAL_grow2_41 (fun H locs hw => ?_)
      replace h := h _ rfl
      generalize xp w20 h0 1 (va_rf r19) = w21 at hw h
      refine W.widen (k := 1) (n := 366) (Nat.le_of_ble_eq_true rfl) (Nat.le_of_ble_eq_true rfl) ?_
      exact xw_aret (r := r19) (Or.inr ⟨_, rfl⟩) hx hb hr hlocks hw h dAL_grow2_44
def wp_AL_grow (E : xE_T) (post : Option Nat → xw_T → Prop) (w : xw_T) (h0 : Nat) : Prop := ∃ v1, xgI w h0 0 2 = some v1 ∧ ((∃ fs, w h0 = some (.inr (0, fs))) ∧ wp_AL_grow2 E (fun r2 w3 => post r2 w3) w h0 (v1 + 1))
set_option maxHeartbeats 4000000 in
set_option maxRecDepth 100000 in
theorem c_AL_grow (l : Launch) (D : va_G) (E : xE_T) (A : Nat → Prop) (post : Option Nat → xw_T → Prop) (w : xw_T) (h0 : Nat) (h : wp_AL_grow E post w h0) : Met l yAL_grow (xW yAL_grow cAL_grow 1 (some (.array (.object "java/lang/Object")))) ({ frames := 4, cells := 1, slots := 366, locals := 85 } : Room) (va_Pc [.ref h0] (xP D E A w)) (va_Qq post (xB D A) A) 1 366 A := by
  refine Met.ofW (cc := cAL_grow) (maxL := 1) (ret := (some (.array (.object "java/lang/Object")))) (by decide) rfl ?_
  intro p e s m args below meth c s₁ B hml hv
  obtain ⟨rfl, hw, hK, hE⟩ := hv
  have hx := B.exec
  have hb := B.bytes
  have hr := B.returns
  have hts : ∀ w ∈ xTB, w.before _ s = true := fun w hw => atoms_spec (ws := xW yAL_grow cAL_grow 1 (some (.array (.object "java/lang/Object")))) B.pre w (List.mem_cons_of_mem _ hw)
  have hown : s.vm.findClass RAL = some m.cls := findClass_of_methodNamed B.named
  have hlocks := B.notSynchronized
  have hw : xw_S D vwCl A s.heap w s.heap [] := xw_S0 hw
  refine xl_start (lvs := [(0, .ref h0)]) (by first | exact Nat.le_of_ble_eq_true rfl | simp [lg_sl, va_rf_cat, xcat_i, xcat_l, xcat_r, xcat_n]) (by first | rfl | simp [lv_args, va_rf_cat, xcat_i, xcat_l, xcat_r, xcat_n]) (fun ls hl => ?_)
  unfold wp_AL_grow at h
  refine lv_aload_n hx hb dAL_grow_0 rfl (lv_at hl 0 rfl) ?_
  refine lv_aload_n hx hb dAL_grow_1 rfl (lv_at hl 0 rfl) ?_
  obtain ⟨v1, hv, h⟩ := h
  refine xw_getI (C := RAL) (T := TAL) (N := 3) (ref := RAL) hx hb hts inAL hown hK hw rfl 2 (by decide) (hts _ mw_25) (fun _ h9 => h9) hv dAL_grow_2 ?_
  refine lv_iconst (v := 1) hx hb dAL_grow_5 (by decide) ?_
  refine lv_iadd hx hb dAL_grow_6 ?_
  obtain ⟨⟨fs, hk⟩, h⟩ := h
  have hcall := h
  clear h
  refine xw_callq (va_runV (As := [.int (v1 + 1)]) (rest := []) ⟨hx, hb, hml, hown, hts⟩ (c_AL_grow2 l D E A _ w h0 (v1 + 1) hcall) (cwV 1 hts (xG_V mw_63 mw_64 mw_65 mw_19 mw_66) rfl rfl rfl (by decide +kernel) ⟨(Nat.le_of_ble_eq_true rfl), (Nat.le_of_ble_eq_true rfl)⟩) (xw_preV (ci := 0) hw hK hE rfl hk) rfl rfl hl.1 rfl (lv_room (by first | exact Nat.le_of_ble_eq_true rfl | simp [va_rf_cat, xcat_i, xcat_l, xcat_r, xcat_n])) dAL_grow_7 ⟨(Nat.le_of_ble_eq_true rfl), (Nat.le_of_ble_eq_true rfl)⟩) hw (fun r2 w3 H locs h hw => ?_)
  clear hcall
  refine W.widen (k := 1) (n := 366) (Nat.le_of_ble_eq_true rfl) (Nat.le_of_ble_eq_true rfl) ?_
  exact xw_aret (r := r2) (Or.inr ⟨_, rfl⟩) hx hb hr hlocks hw h dAL_grow_10
def wp_AL_add2 (E : xE_T) (post : xw_T → Prop) (w : xw_T) (h0 : Nat) (p0 : Option Nat) (p1 : Option Nat) (p2 : Int32) : Prop := ∃ a1 : Nat, p1 = some a1 ∧ (∃ n2 : Nat, xlen E w a1 0 = some n2 ∧ ((¬ p2 = (nI n2) → (∃ a3 : Nat, p0 = some a3 ∧ (∃ n4 f5, xaQ w a1 (E.1 0) = some (n4, f5) ∧ xOb w a3 ∧ vp_in p2 n4 ∧ ∀ w6, w6 = va_up w a1 (some (xcQ (E.1 0) n4 (va_up f5 p2.toNatClampNeg (some a3)))) → ((∃ v0, xg w6 h0 0 2 = some v0) ∧ ∀ w7, w7 = xp w6 h0 2 (.int (p2 + 1)) → (post w7))))) ∧ (p2 = (nI n2) → ((∃ fs, w h0 = some (.inr (0, fs))) ∧ wp_AL_grow E (fun r8 w9 => ∃ a10 : Nat, p0 = some a10 ∧ (∃ a11 : Nat, r8 = some a11 ∧ (∃ n12 f13, xaQ w9 a11 (E.1 0) = some (n12, f13) ∧ xOb w9 a10 ∧ vp_in p2 n12 ∧ ∀ w14, w14 = va_up w9 a11 (some (xcQ (E.1 0) n12 (va_up f13 p2.toNatClampNeg (some a10)))) → ((∃ v0, xg w14 h0 0 2 = some v0) ∧ ∀ w15, w15 = xp w14 h0 2 (.int (p2 + 1)) → (post w15))))) w h0))))
set_option maxHeartbeats 4000000 in
set_option maxRecDepth 100000 in
theorem c_AL_add2 (l : Launch) (D : va_G) (E : xE_T) (A : Nat → Prop) (post : xw_T → Prop) (w : xw_T) (h0 : Nat) (p0 : Option Nat) (p1 : Option Nat) (p2 : Int32) (h : wp_AL_add2 E post w h0 p0 p1 p2) : Met l yAL_add2 (xW yAL_add2 cAL_add2 4 none) ({ frames := 5, cells := 1, slots := 366, locals := 105 } : Room) (va_Pc [.ref h0, va_rf p0, va_rf p1, .int p2] (xP D E A w)) (va_Qv post (xB D A) A) 1 366 A := by
  refine Met.ofW (cc := cAL_add2) (maxL := 4) (ret := none) (by decide) rfl ?_
  intro p e s m args below meth c s₁ B hml hv
  obtain ⟨rfl, hw, hK, hE⟩ := hv
  have hx := B.exec
  have hb := B.bytes
  have hr := B.returns
  have hts : ∀ w ∈ xTB, w.before _ s = true := fun w hw => atoms_spec (ws := xW yAL_add2 cAL_add2 4 none) B.pre w (List.mem_cons_of_mem _ hw)
  have hown : s.vm.findClass RAL = some m.cls := findClass_of_methodNamed B.named
  have hlocks := B.notSynchronized
  have hw : xw_S D vwCl A s.heap w s.heap [] := xw_S0 hw
  refine xl_start (lvs := [(0, .ref h0), (1, va_rf p0), (2, va_rf p1), (3, .int p2)]) (by first | exact Nat.le_of_ble_eq_true rfl | simp [lg_sl, va_rf_cat, xcat_i, xcat_l, xcat_r, xcat_n]) (by first | rfl | simp [lv_args, va_rf_cat, xcat_i, xcat_l, xcat_r, xcat_n]) (fun ls hl => ?_)
  unfold wp_AL_add2 at h
  refine lv_iload_n hx hb dAL_add2_0 rfl (lv_at hl 3 rfl) ?_
  refine xl_aload_n hx hb dAL_add2_1 rfl (lv_at hl 2 rfl) ?_
  obtain ⟨a1, rfl, h⟩ := h
  obtain ⟨n2, hn, h⟩ := h
  refine xw_len hx hb hK hE hw 0 (by decide) hn dAL_add2_2 ?_
  refine lv_icmp_ne (tgt := 11) hx hb dAL_add2_3 rfl (fun hc => ?_) (fun hc => ?_)
  · replace h := h.1 hc
    refine lv_aload_n hx hb dAL_add2_11 rfl (lv_at hl 2 rfl) ?_
    refine lv_iload_n hx hb dAL_add2_12 rfl (lv_at hl 3 rfl) ?_
    refine xl_aload_n hx hb dAL_add2_13 rfl (lv_at hl 1 rfl) ?_
    obtain ⟨a3, rfl, h⟩ := h
    obtain ⟨n4, f5, ha, hob, hin9, h⟩ := h
    refine xw_aasO hx hb hK hE hw ha hob hin9 dAL_add2_14 (fun H locs hw => ?_)
    replace h := h _ rfl
    generalize va_up w a1 (some (xcQ (E.1 0) n4 (va_up f5 p2.toNatClampNeg (some a3)))) = w6 at hw h
    refine lv_aload_n hx hb dAL_add2_15 rfl (lv_at hl 0 rfl) ?_
    refine lv_iload_n hx hb dAL_add2_16 rfl (lv_at hl 3 rfl) ?_
    refine lv_iconst (v := 1) hx hb dAL_add2_17 (by decide) ?_
    refine lv_iadd hx hb dAL_add2_18 ?_
    obtain ⟨hv, h⟩ := h
    refine xw_put (ty := (.int)) (C := RAL) (T := TAL) (N := 3) (ref := RAL) hx hb hts inAL tyAL tyAL_ok nmAL hown hK hw rfl 2 (by decide) (hts _ mw_25) (fun _ h9 => h9) rfl (by decide +kernel) rfl rfl hv dAL_add2_19 (fun H locs hw => ?_)
    replace h := h _ rfl
    generalize xp w6 h0 2 (.int (p2 + 1)) = w7 at hw h
    refine W.widen (k := 1) (n := 366) (Nat.le_of_ble_eq_true rfl) (Nat.le_of_ble_eq_true rfl) ?_
    exact xw_vret hx hb hr hlocks hw h dAL_add2_22
  · replace h := h.2 hc
    refine lv_aload_n hx hb dAL_add2_6 rfl (lv_at hl 0 rfl) ?_
    obtain ⟨⟨fs, hk⟩, h⟩ := h
    have hcall := h
    clear h
    refine xw_callq (va_runV (As := []) (rest := []) ⟨hx, hb, hml, hown, hts⟩ (c_AL_grow l D E A _ w h0 hcall) (cwV 0 hts (xG_V mw_67 mw_68 mw_69 mw_19 mw_70) rfl rfl rfl (by decide +kernel) ⟨(Nat.le_of_ble_eq_true rfl), (Nat.le_of_ble_eq_true rfl)⟩) (xw_preV (ci := 0) hw hK hE rfl hk) rfl rfl hl.1 rfl (lv_room (by first | exact Nat.le_of_ble_eq_true rfl | simp [va_rf_cat, xcat_i, xcat_l, xcat_r, xcat_n])) dAL_add2_7 ⟨(Nat.le_of_ble_eq_true rfl), (Nat.le_of_ble_eq_true rfl)⟩) hw (fun r8 w9 H locs h hw => ?_)
    clear hcall
    refine xl_astore_n (i := 2) (lv' := [(2, va_rf r8), (0, .ref h0), (1, va_rf p0), (3, .int p2)]) hx hb dAL_add2_10 rfl hl (by decide) (by first | rfl | simp [va_rf_cat, xcat_i, xcat_l, xcat_r, xcat_n]) (fun ls hl => ?_)
    refine xl_aload_n hx hb dAL_add2_11 rfl (lv_at hl 0 rfl) ?_
    refine lv_iload_n hx hb dAL_add2_12 rfl (lv_at hl 3 rfl) ?_
    refine xl_aload_n hx hb dAL_add2_13 rfl (lv_at hl 2 rfl) ?_
    obtain ⟨a10, rfl, h⟩ := h
    obtain ⟨a11, rfl, h⟩ := h
    obtain ⟨n12, f13, ha, hob, hin9, h⟩ := h
    refine xw_aasO hx hb hK hE hw ha hob hin9 dAL_add2_14 (fun H locs hw => ?_)
    replace h := h _ rfl
    generalize va_up w9 a11 (some (xcQ (E.1 0) n12 (va_up f13 p2.toNatClampNeg (some a10)))) = w14 at hw h
    refine lv_aload_n hx hb dAL_add2_15 rfl (lv_at hl 1 rfl) ?_
    refine lv_iload_n hx hb dAL_add2_16 rfl (lv_at hl 3 rfl) ?_
    refine lv_iconst (v := 1) hx hb dAL_add2_17 (by decide) ?_
    refine lv_iadd hx hb dAL_add2_18 ?_
    obtain ⟨hv, h⟩ := h
    refine xw_put (ty := (.int)) (C := RAL) (T := TAL) (N := 3) (ref := RAL) hx hb hts inAL tyAL tyAL_ok nmAL hown hK hw rfl 2 (by decide) (hts _ mw_25) (fun _ h9 => h9) rfl (by decide +kernel) rfl rfl hv dAL_add2_19 (fun H locs hw => ?_)
    replace h := h _ rfl
    generalize xp w14 h0 2 (.int (p2 + 1)) = w15 at hw h
    refine W.widen (k := 1) (n := 366) (Nat.le_of_ble_eq_true rfl) (Nat.le_of_ble_eq_true rfl) ?_
    exact xw_vret hx hb hr hlocks hw h dAL_add2_22
def wp_AL_add (E : xE_T) (post : Int32 → xw_T → Prop) (w : xw_T) (h0 : Nat) (p0 : Option Nat) : Prop := ∃ v1, xgI w h0 0 0 = some v1 ∧ ((∃ v0, xg w h0 0 0 = some v0) ∧ ∀ w2, w2 = xp w h0 0 (.int (v1 + 1)) → (∃ v3, xgR w2 h0 0 1 = some v3 ∧ (∃ v4, xgI w2 h0 0 2 = some v4 ∧ ((∃ fs, w2 h0 = some (.inr (0, fs))) ∧ wp_AL_add2 E (fun w6 => post 1 w6) w2 h0 p0 v3 v4))))
set_option maxHeartbeats 4000000 in
set_option maxRecDepth 100000 in
theorem c_AL_add (l : Launch) (D : va_G) (E : xE_T) (A : Nat → Prop) (post : Int32 → xw_T → Prop) (w : xw_T) (h0 : Nat) (p0 : Option Nat) (h : wp_AL_add E post w h0 p0) : Met l yAL_add (xW yAL_add cAL_add 2 (some (.boolean))) ({ frames := 6, cells := 1, slots := 366, locals := 128 } : Room) (va_Pc [.ref h0, va_rf p0] (xP D E A w)) (va_Qi post (xB D A) A) 1 366 A := by
  refine Met.ofW (cc := cAL_add) (maxL := 2) (ret := (some (.boolean))) (by decide) rfl ?_
  intro p e s m args below meth c s₁ B hml hv
  obtain ⟨rfl, hw, hK, hE⟩ := hv
  have hx := B.exec
  have hb := B.bytes
  have hr := B.returns
  have hts : ∀ w ∈ xTB, w.before _ s = true := fun w hw => atoms_spec (ws := xW yAL_add cAL_add 2 (some (.boolean))) B.pre w (List.mem_cons_of_mem _ hw)
  have hown : s.vm.findClass RAL = some m.cls := findClass_of_methodNamed B.named
  have hlocks := B.notSynchronized
  have hw : xw_S D vwCl A s.heap w s.heap [] := xw_S0 hw
  refine xl_start (lvs := [(0, .ref h0), (1, va_rf p0)]) (by first | exact Nat.le_of_ble_eq_true rfl | simp [lg_sl, va_rf_cat, xcat_i, xcat_l, xcat_r, xcat_n]) (by first | rfl | simp [lv_args, va_rf_cat, xcat_i, xcat_l, xcat_r, xcat_n]) (fun ls hl => ?_)
  unfold wp_AL_add at h
  refine lv_aload_n hx hb dAL_add_0 rfl (lv_at hl 0 rfl) ?_
  refine lv_dup hx hb dAL_add_1 rfl ?_
  obtain ⟨v1, hv, h⟩ := h
  refine xw_getI (C := RAL) (T := TAL) (N := 3) (ref := RAL) hx hb hts inAL hown hK hw rfl 0 (by decide) (hts _ mw_75) (fun x h9 => u_same (hts _ mw_76) x h9) hv dAL_add_2 ?_
  refine lv_iconst (v := 1) hx hb dAL_add_5 (by decide) ?_
  refine lv_iadd hx hb dAL_add_6 ?_
  obtain ⟨hv, h⟩ := h
  refine xw_put (ty := (.int)) (C := RAL) (T := TAL) (N := 3) (ref := RAL) hx hb hts inAL tyAL tyAL_ok nmAL hown hK hw rfl 0 (by decide) (hts _ mw_75) (fun x h9 => u_same (hts _ mw_76) x h9) rfl (by decide +kernel) rfl rfl hv dAL_add_7 (fun H locs hw => ?_)
  replace h := h _ rfl
  generalize xp w h0 0 (.int (v1 + 1)) = w2 at hw h
  refine lv_aload_n hx hb dAL_add_10 rfl (lv_at hl 0 rfl) ?_
  refine xl_aload_n hx hb dAL_add_11 rfl (lv_at hl 1 rfl) ?_
  refine lv_aload_n hx hb dAL_add_12 rfl (lv_at hl 0 rfl) ?_
  obtain ⟨v3, hv, h⟩ := h
  refine xw_getR (C := RAL) (T := TAL) (N := 3) (ref := RAL) hx hb hts inAL hown hK hw rfl 1 (by decide) (hts _ mw_8) (fun _ h9 => h9) hv dAL_add_13 ?_
  refine lv_aload_n hx hb dAL_add_16 rfl (lv_at hl 0 rfl) ?_
  obtain ⟨v4, hv, h⟩ := h
  refine xw_getI (C := RAL) (T := TAL) (N := 3) (ref := RAL) hx hb hts inAL hown hK hw rfl 2 (by decide) (hts _ mw_25) (fun _ h9 => h9) hv dAL_add_17 ?_
  obtain ⟨⟨fs, hk⟩, h⟩ := h
  have hcall := h
  clear h
  refine xw_callv (va_runV (As := [va_rf p0, va_rf v3, .int v4]) (rest := []) ⟨hx, hb, hml, hown, hts⟩ (c_AL_add2 l D E A _ w2 h0 p0 v3 v4 hcall) (cwV 3 hts (xG_V mw_71 mw_72 mw_73 mw_19 mw_74) rfl rfl rfl (by decide +kernel) ⟨(Nat.le_of_ble_eq_true rfl), (Nat.le_of_ble_eq_true rfl)⟩) (xw_preV (ci := 0) hw hK hE rfl hk) rfl rfl hl.1 rfl (lv_room (by first | exact Nat.le_of_ble_eq_true rfl | simp [va_rf_cat, xcat_i, xcat_l, xcat_r, xcat_n])) dAL_add_20 ⟨(Nat.le_of_ble_eq_true rfl), (Nat.le_of_ble_eq_true rfl)⟩) hw (fun w6 H locs h hw => ?_)
  clear hcall
  refine lv_iconst (v := 1) hx hb dAL_add_23 (by decide) ?_
  refine W.widen (k := 1) (n := 366) (Nat.le_of_ble_eq_true rfl) (Nat.le_of_ble_eq_true rfl) ?_
  exact xw_zret (by decide) hx hb hr hlocks hw h dAL_add_24
def wp_PC_checkIndex (E : xE_T) (post : Int32 → xw_T → Prop) (w : xw_T) (p0 : Int32) (p1 : Int32) (p2 : Option Nat) : Prop := (p0 < 0 → (False)) ∧ (¬ p0 < 0 → ((p0 < p1 → (post p0 w)) ∧ (¬ p0 < p1 → (False))))
set_option maxHeartbeats 4000000 in
set_option maxRecDepth 100000 in
theorem c_PC_checkIndex (l : Launch) (D : va_G) (E : xE_T) (A : Nat → Prop) (post : Int32 → xw_T → Prop) (w : xw_T) (p0 : Int32) (p1 : Int32) (p2 : Option Nat) (h : wp_PC_checkIndex E post w p0 p1 p2) : Met l yPC_checkIndex (xW yPC_checkIndex cPC_checkIndex 3 (some (.int))) ({ frames := 0, cells := 0, slots := 0, locals := 0 } : Room) (va_Pc [.int p0, .int p1, va_rf p2] (xP D E A w)) (va_Qi post (xB D A) A) 0 0 A := by
  refine Met.ofW (cc := cPC_checkIndex) (maxL := 3) (ret := (some (.int))) (by decide) rfl ?_
  intro p e s m args below meth c s₁ B hml hv
  obtain ⟨rfl, hw, hK, hE⟩ := hv
  have hx := B.exec
  have hb := B.bytes
  have hr := B.returns
  have hts : ∀ w ∈ xTB, w.before _ s = true := fun w hw => atoms_spec (ws := xW yPC_checkIndex cPC_checkIndex 3 (some (.int))) B.pre w (List.mem_cons_of_mem _ hw)
  have hown : s.vm.findClass RPC = some m.cls := findClass_of_methodNamed B.named
  have hlocks := B.notSynchronized
  have hw : xw_S D vwCl A s.heap w s.heap [] := xw_S0 hw
  refine xl_start (lvs := [(0, .int p0), (1, .int p1), (2, va_rf p2)]) (by first | exact Nat.le_of_ble_eq_true rfl | simp [lg_sl, va_rf_cat, xcat_i, xcat_l, xcat_r, xcat_n]) (by first | rfl | simp [lv_args, va_rf_cat, xcat_i, xcat_l, xcat_r, xcat_n]) (fun ls hl => ?_)
  unfold wp_PC_checkIndex at h
  refine lv_iload_n hx hb dPC_checkIndex_0 rfl (lv_at hl 0 rfl) ?_
  refine lv_if_lt (tgt := 9) hx hb dPC_checkIndex_1 rfl (fun hc => ?_) (fun hc => ?_)
  · replace h := h.1 hc
    refine xl_aload_n hx hb dPC_checkIndex_9 rfl (lv_at hl 2 rfl) ?_
    refine lv_iload_n hx hb dPC_checkIndex_10 rfl (lv_at hl 0 rfl) ?_
    refine lv_iload_n hx hb dPC_checkIndex_11 rfl (lv_at hl 1 rfl) ?_
    exact h.elim
  · replace h := h.2 hc
    refine lv_iload_n hx hb dPC_checkIndex_4 rfl (lv_at hl 0 rfl) ?_
    refine lv_iload_n hx hb dPC_checkIndex_5 rfl (lv_at hl 1 rfl) ?_
    refine lv_icmp_lt (tgt := 16) hx hb dPC_checkIndex_6 rfl (fun hc => ?_) (fun hc => ?_)
    · replace h := h.1 hc
      refine lv_iload_n hx hb dPC_checkIndex_16 rfl (lv_at hl 0 rfl) ?_
      refine W.widen (k := 0) (n := 0) (Nat.le_of_ble_eq_true rfl) (Nat.le_of_ble_eq_true rfl) ?_
      exact xw_iret hx hb hr hlocks hw h dPC_checkIndex_17
    · replace h := h.2 hc
      refine xl_aload_n hx hb dPC_checkIndex_9 rfl (lv_at hl 2 rfl) ?_
      refine lv_iload_n hx hb dPC_checkIndex_10 rfl (lv_at hl 0 rfl) ?_
      refine lv_iload_n hx hb dPC_checkIndex_11 rfl (lv_at hl 1 rfl) ?_
      exact h.elim
def wp_OB_checkIndex (E : xE_T) (post : Int32 → xw_T → Prop) (w : xw_T) (p0 : Int32) (p1 : Int32) : Prop := wp_PC_checkIndex E (fun r1 w2 => post r1 w2) w p0 p1 none
set_option maxHeartbeats 4000000 in
set_option maxRecDepth 100000 in
theorem c_OB_checkIndex (l : Launch) (D : va_G) (E : xE_T) (A : Nat → Prop) (post : Int32 → xw_T → Prop) (w : xw_T) (p0 : Int32) (p1 : Int32) (h : wp_OB_checkIndex E post w p0 p1) : Met l yOB_checkIndex (xW yOB_checkIndex cOB_checkIndex 2 (some (.int))) ({ frames := 1, cells := 0, slots := 0, locals := 22 } : Room) (va_Pc [.int p0, .int p1] (xP D E A w)) (va_Qi post (xB D A) A) 0 0 A := by
  refine Met.ofW (cc := cOB_checkIndex) (maxL := 2) (ret := (some (.int))) (by decide) rfl ?_
  intro p e s m args below meth c s₁ B hml hv
  obtain ⟨rfl, hw, hK, hE⟩ := hv
  have hx := B.exec
  have hb := B.bytes
  have hr := B.returns
  have hts : ∀ w ∈ xTB, w.before _ s = true := fun w hw => atoms_spec (ws := xW yOB_checkIndex cOB_checkIndex 2 (some (.int))) B.pre w (List.mem_cons_of_mem _ hw)
  have hown : s.vm.findClass ROB = some m.cls := findClass_of_methodNamed B.named
  have hlocks := B.notSynchronized
  have hw : xw_S D vwCl A s.heap w s.heap [] := xw_S0 hw
  refine xl_start (lvs := [(0, .int p0), (1, .int p1)]) (by first | exact Nat.le_of_ble_eq_true rfl | simp [lg_sl, va_rf_cat, xcat_i, xcat_l, xcat_r, xcat_n]) (by first | rfl | simp [lv_args, va_rf_cat, xcat_i, xcat_l, xcat_r, xcat_n]) (fun ls hl => ?_)
  unfold wp_OB_checkIndex at h
  refine lv_iload_n hx hb dOB_checkIndex_0 rfl (lv_at hl 0 rfl) ?_
  refine lv_iload_n hx hb dOB_checkIndex_1 rfl (lv_at hl 1 rfl) ?_
  refine lv_null hx hb dOB_checkIndex_2 ?_
  have hcall := h
  clear h
  refine xw_calli (va_runS (As := [.int p0, .int p1, va_rf none]) (rest := []) ⟨hx, hb, hml, hown, hts⟩ (c_PC_checkIndex l D E A _ w p0 p1 none hcall) (va_cwS 3 hts (xG_S mw_126 mw_127 mw_128 mw_129) rfl rfl rfl (by decide +kernel) ⟨(Nat.le_of_ble_eq_true rfl), (Nat.le_of_ble_eq_true rfl)⟩) (xw_preS hw hK hE) rfl rfl hl.1 rfl (lv_room (by first | exact Nat.le_of_ble_eq_true rfl | simp [va_rf_cat, xcat_i, xcat_l, xcat_r, xcat_n])) dOB_checkIndex_3 ⟨(Nat.le_of_ble_eq_true rfl), (Nat.le_of_ble_eq_true rfl)⟩) hw (fun r1 w2 H locs h hw => ?_)
  clear hcall
  refine W.widen (k := 0) (n := 0) (Nat.le_of_ble_eq_true rfl) (Nat.le_of_ble_eq_true rfl) ?_
  exact xw_iret hx hb hr hlocks hw h dOB_checkIndex_6
def wp_AL_elementData (E : xE_T) (post : Option Nat → xw_T → Prop) (w : xw_T) (h0 : Nat) (p0 : Int32) : Prop := ∃ v1, xgR w h0 0 1 = some v1 ∧ (∃ a2 : Nat, v1 = some a2 ∧ (∃ n3 f4, xaQ w a2 (E.1 0) = some (n3, f4) ∧ vp_in p0 n3 ∧ ∃ v5, f4 p0.toNatClampNeg = v5 ∧ (post v5 w)))
set_option maxHeartbeats 4000000 in
set_option maxRecDepth 100000 in
theorem c_AL_elementData (l : Launch) (D : va_G) (E : xE_T) (A : Nat → Prop) (post : Option Nat → xw_T → Prop) (w : xw_T) (h0 : Nat) (p0 : Int32) (h : wp_AL_elementData E post w h0 p0) : Met l yAL_elementData (xW yAL_elementData cAL_elementData 2 (some (.object "java/lang/Object"))) ({ frames := 0, cells := 0, slots := 0, locals := 0 } : Room) (va_Pc [.ref h0, .int p0] (xP D E A w)) (va_Qq post (xB D A) A) 0 0 A := by
  refine Met.ofW (cc := cAL_elementData) (maxL := 2) (ret := (some (.object "java/lang/Object"))) (by decide) rfl ?_
  intro p e s m args below meth c s₁ B hml hv
  obtain ⟨rfl, hw, hK, hE⟩ := hv
  have hx := B.exec
  have hb := B.bytes
  have hr := B.returns
  have hts : ∀ w ∈ xTB, w.before _ s = true := fun w hw => atoms_spec (ws := xW yAL_elementData cAL_elementData 2 (some (.object "java/lang/Object"))) B.pre w (List.mem_cons_of_mem _ hw)
  have hown : s.vm.findClass RAL = some m.cls := findClass_of_methodNamed B.named
  have hlocks := B.notSynchronized
  have hw : xw_S D vwCl A s.heap w s.heap [] := xw_S0 hw
  refine xl_start (lvs := [(0, .ref h0), (1, .int p0)]) (by first | exact Nat.le_of_ble_eq_true rfl | simp [lg_sl, va_rf_cat, xcat_i, xcat_l, xcat_r, xcat_n]) (by first | rfl | simp [lv_args, va_rf_cat, xcat_i, xcat_l, xcat_r, xcat_n]) (fun ls hl => ?_)
  unfold wp_AL_elementData at h
  refine lv_aload_n hx hb dAL_elementData_0 rfl (lv_at hl 0 rfl) ?_
  obtain ⟨v1, hv, h⟩ := h
  refine xw_getR (C := RAL) (T := TAL) (N := 3) (ref := RAL) hx hb hts inAL hown hK hw rfl 1 (by decide) (hts _ mw_8) (fun _ h9 => h9) hv dAL_elementData_1 ?_
  refine lv_iload_n hx hb dAL_elementData_4 rfl (lv_at hl 1 rfl) ?_
  obtain ⟨a2, rfl, h⟩ := h
  obtain ⟨n3, f4, ha, hin9, v5, ev, h⟩ := h
  refine xw_aald hx hb hK hw 0 rfl ha hin9 dAL_elementData_5 ?_
  rw [ev]
  refine W.widen (k := 0) (n := 0) (Nat.le_of_ble_eq_true rfl) (Nat.le_of_ble_eq_true rfl) ?_
  exact xw_aret (r := v5) (Or.inl ⟨_, rfl⟩) hx hb hr hlocks hw h dAL_elementData_6
def wp_AL_get (E : xE_T) (post : Option Nat → xw_T → Prop) (w : xw_T) (h0 : Nat) (p0 : Int32) : Prop := ∃ v1, xgI w h0 0 2 = some v1 ∧ (wp_OB_checkIndex E (fun r2 w3 => (∃ fs, w3 h0 = some (.inr (0, fs))) ∧ wp_AL_elementData E (fun r4 w5 => post r4 w5) w3 h0 p0) w p0 v1)
set_option maxHeartbeats 4000000 in
set_option maxRecDepth 100000 in
theorem c_AL_get (l : Launch) (D : va_G) (E : xE_T) (A : Nat → Prop) (post : Option Nat → xw_T → Prop) (w : xw_T) (h0 : Nat) (p0 : Int32) (h : wp_AL_get E post w h0 p0) : Met l yAL_get (xW yAL_get cAL_get 2 (some (.object "java/lang/Object"))) ({ frames := 2, cells := 0, slots := 0, locals := 43 } : Room) (va_Pc [.ref h0, .int p0] (xP D E A w)) (va_Qq post (xB D A) A) 0 0 A := by
  refine Met.ofW (cc := cAL_get) (maxL := 2) (ret := (some (.object "java/lang/Object"))) (by decide) rfl ?_
  intro p e s m args below meth c s₁ B hml hv
  obtain ⟨rfl, hw, hK, hE⟩ := hv
  have hx := B.exec
  have hb := B.bytes
  have hr := B.returns
  have hts : ∀ w ∈ xTB, w.before _ s = true := fun w hw => atoms_spec (ws := xW yAL_get cAL_get 2 (some (.object "java/lang/Object"))) B.pre w (List.mem_cons_of_mem _ hw)
  have hown : s.vm.findClass RAL = some m.cls := findClass_of_methodNamed B.named
  have hlocks := B.notSynchronized
  have hw : xw_S D vwCl A s.heap w s.heap [] := xw_S0 hw
  refine xl_start (lvs := [(0, .ref h0), (1, .int p0)]) (by first | exact Nat.le_of_ble_eq_true rfl | simp [lg_sl, va_rf_cat, xcat_i, xcat_l, xcat_r, xcat_n]) (by first | rfl | simp [lv_args, va_rf_cat, xcat_i, xcat_l, xcat_r, xcat_n]) (fun ls hl => ?_)
  unfold wp_AL_get at h
  refine lv_iload_n hx hb dAL_get_0 rfl (lv_at hl 1 rfl) ?_
  refine lv_aload_n hx hb dAL_get_1 rfl (lv_at hl 0 rfl) ?_
  obtain ⟨v1, hv, h⟩ := h
  refine xw_getI (C := RAL) (T := TAL) (N := 3) (ref := RAL) hx hb hts inAL hown hK hw rfl 2 (by decide) (hts _ mw_25) (fun _ h9 => h9) hv dAL_get_2 ?_
  have hcall := h
  clear h
  refine xw_calli (va_runS (As := [.int p0, .int v1]) (rest := []) ⟨hx, hb, hml, hown, hts⟩ (c_OB_checkIndex l D E A _ w p0 v1 hcall) (va_cwS 2 hts (xG_S mw_134 mw_135 mw_136 mw_137) rfl rfl rfl (by decide +kernel) ⟨(Nat.le_of_ble_eq_true rfl), (Nat.le_of_ble_eq_true rfl)⟩) (xw_preS hw hK hE) rfl rfl hl.1 rfl (lv_room (by first | exact Nat.le_of_ble_eq_true rfl | simp [va_rf_cat, xcat_i, xcat_l, xcat_r, xcat_n])) dAL_get_5 ⟨(Nat.le_of_ble_eq_true rfl), (Nat.le_of_ble_eq_true rfl)⟩) hw (fun r2 w3 H locs h hw => ?_)
  clear hcall
  refine lv_pop hx hb dAL_get_8 rfl ?_
  refine lv_aload_n hx hb dAL_get_9 rfl (lv_at hl 0 rfl) ?_
  refine lv_iload_n hx hb dAL_get_10 rfl (lv_at hl 1 rfl) ?_
  obtain ⟨⟨fs, hk⟩, h⟩ := h
  have hcall := h
  clear h
  refine xw_callq (va_runV (As := [.int p0]) (rest := []) ⟨hx, hb, hml, hown, hts⟩ (c_AL_elementData l D E A _ w3 h0 p0 hcall) (cwV 1 hts (xG_V mw_130 mw_131 mw_132 mw_19 mw_133) rfl rfl rfl (by decide +kernel) ⟨(Nat.le_of_ble_eq_true rfl), (Nat.le_of_ble_eq_true rfl)⟩) (xw_preV (ci := 0) hw hK hE rfl hk) rfl rfl hl.1 rfl (lv_room (by first | exact Nat.le_of_ble_eq_true rfl | simp [va_rf_cat, xcat_i, xcat_l, xcat_r, xcat_n])) dAL_get_11 ⟨(Nat.le_of_ble_eq_true rfl), (Nat.le_of_ble_eq_true rfl)⟩) hw (fun r4 w5 H locs h hw => ?_)
  clear hcall
  refine W.widen (k := 0) (n := 0) (Nat.le_of_ble_eq_true rfl) (Nat.le_of_ble_eq_true rfl) ?_
  exact xw_aret (r := r4) (Or.inl ⟨_, rfl⟩) hx hb hr hlocks hw h dAL_get_14
def wp_AL_isEmpty (E : xE_T) (post : Int32 → xw_T → Prop) (w : xw_T) (h0 : Nat) : Prop := ∃ v1, xgI w h0 0 2 = some v1 ∧ ((¬ v1 = 0 → (post 0 w)) ∧ (v1 = 0 → (post 1 w)))
set_option maxHeartbeats 4000000 in
set_option maxRecDepth 100000 in
theorem c_AL_isEmpty (l : Launch) (D : va_G) (E : xE_T) (A : Nat → Prop) (post : Int32 → xw_T → Prop) (w : xw_T) (h0 : Nat) (h : wp_AL_isEmpty E post w h0) : Met l yAL_isEmpty (xW yAL_isEmpty cAL_isEmpty 1 (some (.boolean))) ({ frames := 0, cells := 0, slots := 0, locals := 0 } : Room) (va_Pc [.ref h0] (xP D E A w)) (va_Qi post (xB D A) A) 0 0 A := by
  refine Met.ofW (cc := cAL_isEmpty) (maxL := 1) (ret := (some (.boolean))) (by decide) rfl ?_
  intro p e s m args below meth c s₁ B hml hv
  obtain ⟨rfl, hw, hK, hE⟩ := hv
  have hx := B.exec
  have hb := B.bytes
  have hr := B.returns
  have hts : ∀ w ∈ xTB, w.before _ s = true := fun w hw => atoms_spec (ws := xW yAL_isEmpty cAL_isEmpty 1 (some (.boolean))) B.pre w (List.mem_cons_of_mem _ hw)
  have hown : s.vm.findClass RAL = some m.cls := findClass_of_methodNamed B.named
  have hlocks := B.notSynchronized
  have hw : xw_S D vwCl A s.heap w s.heap [] := xw_S0 hw
  refine xl_start (lvs := [(0, .ref h0)]) (by first | exact Nat.le_of_ble_eq_true rfl | simp [lg_sl, va_rf_cat, xcat_i, xcat_l, xcat_r, xcat_n]) (by first | rfl | simp [lv_args, va_rf_cat, xcat_i, xcat_l, xcat_r, xcat_n]) (fun ls hl => ?_)
  unfold wp_AL_isEmpty at h
  refine lv_aload_n hx hb dAL_isEmpty_0 rfl (lv_at hl 0 rfl) ?_
  obtain ⟨v1, hv, h⟩ := h
  refine xw_getI (C := RAL) (T := TAL) (N := 3) (ref := RAL) hx hb hts inAL hown hK hw rfl 2 (by decide) (hts _ mw_25) (fun _ h9 => h9) hv dAL_isEmpty_1 ?_
  refine lv_if_ne (tgt := 11) hx hb dAL_isEmpty_4 rfl (fun hc => ?_) (fun hc => ?_)
  · replace h := h.1 hc
    refine lv_iconst (v := 0) hx hb dAL_isEmpty_11 (by decide) ?_
    refine W.widen (k := 0) (n := 0) (Nat.le_of_ble_eq_true rfl) (Nat.le_of_ble_eq_true rfl) ?_
    exact xw_zret (by decide) hx hb hr hlocks hw h dAL_isEmpty_12
  · replace h := h.2 hc
    refine lv_iconst (v := 1) hx hb dAL_isEmpty_7 (by decide) ?_
    refine lv_goto (tgt := 12) hx hb dAL_isEmpty_8 rfl ?_
    refine W.widen (k := 0) (n := 0) (Nat.le_of_ble_eq_true rfl) (Nat.le_of_ble_eq_true rfl) ?_
    exact xw_zret (by decide) hx hb hr hlocks hw h dAL_isEmpty_12
end
