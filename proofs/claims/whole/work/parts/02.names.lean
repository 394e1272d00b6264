/-! Names: classes, fields, methods; the words that every method is given (xTB) -/
def RPL : String := "PostLedger"
def RAC : String := "PostLedger$Account"
def RBA : String := "PostLedger$Batch"
def RRW : String := "PostLedger$Row"
def RMO : String := "PostLedgerModel"
def RAL : String := "java/util/ArrayList"
def RAB : String := "java/util/AbstractList"
def RAN : String := "java/util/AbstractCollection"
def RAR : String := "java/util/Arrays"
def ROB : String := "java/util/Objects"
def RPC : String := "jdk/internal/util/Preconditions"
def RAS : String := "jdk/internal/util/ArraysSupport"
def RMA : String := "java/lang/Math"
def ROJ : String := "java/lang/Object"
def TAL : u_T := fun k => match k with
  | 0 => ("java/util/AbstractList", "modCount", "I", false)
  | 1 => ("java/util/ArrayList", "elementData", "[Ljava/lang/Object;", false)
  | _ => ("java/util/ArrayList", "size", "I", false)
def tyAL : Nat → FieldType := fun k => match k with
  | 0 => .int
  | 1 => .array (.object "java/lang/Object")
  | _ => .int
theorem nmAL : ∀ a, a < 3 → ∀ b, b < 3 → a ≠ b → (TAL a).2.1 ≠ (TAL b).2.1 := by decide +kernel
theorem tyAL_ok : ∀ k, k < 3 → parseFieldDescriptor (TAL k).2.2.1 = some (tyAL k) := by decide +kernel
def TAC : u_T := fun k => match k with
  | 0 => ("PostLedger$Account", "office", "I", true)
  | 1 => ("PostLedger$Account", "kind", "I", true)
  | 2 => ("PostLedger$Account", "limit", "I", false)
  | _ => ("PostLedger$Account", "total", "J", false)
def tyAC : Nat → FieldType := fun k => match k with
  | 0 => .int
  | 1 => .int
  | 2 => .int
  | _ => .long
theorem nmAC : ∀ a, a < 4 → ∀ b, b < 4 → a ≠ b → (TAC a).2.1 ≠ (TAC b).2.1 := by decide +kernel
theorem tyAC_ok : ∀ k, k < 4 → parseFieldDescriptor (TAC k).2.2.1 = some (tyAC k) := by decide +kernel
def TBA : u_T := fun k => match k with
  | 0 => ("PostLedger$Batch", "day", "I", true)
  | 1 => ("PostLedger$Batch", "rows", "Ljava/util/ArrayList;", true)
  | 2 => ("PostLedger$Batch", "standing", "LPostLedger$Standing;", false)
  | 3 => ("PostLedger$Batch", "failsByPlan", "Z", false)
  | 4 => ("PostLedger$Batch", "isPartOfReversal", "Z", false)
  | _ => ("PostLedger$Batch", "firstRowNumber", "I", false)
def tyBA : Nat → FieldType := fun k => match k with
  | 0 => .int
  | 1 => .object "java/util/ArrayList"
  | 2 => .object "PostLedger$Standing"
  | 3 => .boolean
  | 4 => .boolean
  | _ => .int
theorem nmBA : ∀ a, a < 6 → ∀ b, b < 6 → a ≠ b → (TBA a).2.1 ≠ (TBA b).2.1 := by decide +kernel
theorem tyBA_ok : ∀ k, k < 6 → parseFieldDescriptor (TBA k).2.2.1 = some (tyBA k) := by decide +kernel
def TRW : u_T := fun k => match k with
  | 0 => ("PostLedger$Row", "account", "LPostLedger$Account;", true)
  | _ => ("PostLedger$Row", "cents", "J", true)
def tyRW : Nat → FieldType := fun k => match k with
  | 0 => .object "PostLedger$Account"
  | _ => .long
theorem nmRW : ∀ a, a < 2 → ∀ b, b < 2 → a ≠ b → (TRW a).2.1 ≠ (TRW b).2.1 := by decide +kernel
theorem tyRW_ok : ∀ k, k < 2 → parseFieldDescriptor (TRW k).2.2.1 = some (tyRW k) := by decide +kernel
def TPL : u_T := fun k => match k with
  | 0 => ("PostLedger", "accounts", "Ljava/util/ArrayList;", true)
  | 1 => ("PostLedger", "batches", "Ljava/util/ArrayList;", true)
  | 2 => ("PostLedger", "firstOpenDay", "I", false)
  | _ => ("PostLedger", "postedRows", "I", false)
def tyPL : Nat → FieldType := fun k => match k with
  | 0 => .object "java/util/ArrayList"
  | 1 => .object "java/util/ArrayList"
  | 2 => .int
  | _ => .int
theorem nmPL : ∀ a, a < 4 → ∀ b, b < 4 → a ≠ b → (TPL a).2.1 ≠ (TPL b).2.1 := by decide +kernel
theorem tyPL_ok : ∀ k, k < 4 → parseFieldDescriptor (TPL k).2.2.1 = some (tyPL k) := by decide +kernel
def TMO : u_T := fun k => match k with
  | 0 => ("PostLedgerModel", "thrown", "I", false)
  | 1 => ("PostLedgerModel", "accounts", "I", false)
  | 2 => ("PostLedgerModel", "offices", "[I", true)
  | 3 => ("PostLedgerModel", "kinds", "[I", true)
  | 4 => ("PostLedgerModel", "limits", "[J", true)
  | 5 => ("PostLedgerModel", "batches", "I", false)
  | 6 => ("PostLedgerModel", "states", "[I", true)
  | 7 => ("PostLedgerModel", "days", "[J", true)
  | 8 => ("PostLedgerModel", "planned", "[Z", true)
  | 9 => ("PostLedgerModel", "free", "[Z", true)
  | 10 => ("PostLedgerModel", "back", "[Z", true)
  | 11 => ("PostLedgerModel", "rows", "[I", true)
  | 12 => ("PostLedgerModel", "rowAccounts", "[I", true)
  | 13 => ("PostLedgerModel", "rowCents", "[J", true)
  | 14 => ("PostLedgerModel", "posted", "I", false)
  | 15 => ("PostLedgerModel", "postedBatches", "[I", true)
  | _ => ("PostLedgerModel", "closed", "J", false)
def tyMO : Nat → FieldType := fun k => match k with
  | 0 => .int
  | 1 => .int
  | 2 => .array .int
  | 3 => .array .int
  | 4 => .array .long
  | 5 => .int
  | 6 => .array .int
  | 7 => .array .long
  | 8 => .array .boolean
  | 9 => .array .boolean
  | 10 => .array .boolean
  | 11 => .array .int
  | 12 => .array .int
  | 13 => .array .long
  | 14 => .int
  | 15 => .array .int
  | _ => .long
theorem nmMO : ∀ a, a < 17 → ∀ b, b < 17 → a ≠ b → (TMO a).2.1 ≠ (TMO b).2.1 := by decide +kernel
theorem tyMO_ok : ∀ k, k < 17 → parseFieldDescriptor (TMO k).2.2.1 = some (tyMO k) := by decide +kernel
abbrev vwCl : List vw_C := [(RAL, TAL, 3), (RAC, TAC, 4), (RBA, TBA, 6), (RRW, TRW, 2), (RPL, TPL, 4), (RMO, TMO, 17)]
abbrev cPL_init : ByteArray := prog_1_method_1_code
def yPL_init : MethodName := ⟨RPL, "<init>", "()V"⟩
abbrev cOJ_init : ByteArray := object_method_1_code
def yOJ_init : MethodName := ⟨ROJ, "<init>", "()V"⟩
abbrev cAL_init : ByteArray := prog_22_method_2_code
def yAL_init : MethodName := ⟨RAL, "<init>", "()V"⟩
abbrev cAB_init : ByteArray := prog_21_method_1_code
def yAB_init : MethodName := ⟨RAB, "<init>", "()V"⟩
abbrev cAN_init : ByteArray := prog_20_method_1_code
def yAN_init : MethodName := ⟨RAN, "<init>", "()V"⟩
abbrev cPL_account : ByteArray := prog_1_method_2_code
def yPL_account : MethodName := ⟨RPL, "account", "(II)I"⟩
abbrev cPL_isOffice : ByteArray := prog_1_method_16_code
def yPL_isOffice : MethodName := ⟨RPL, "isOffice", "(I)Z"⟩
abbrev cAL_size : ByteArray := prog_22_method_8_code
def yAL_size : MethodName := ⟨RAL, "size", "()I"⟩
abbrev cAC_init : ByteArray := prog_2_method_1_code
def yAC_init : MethodName := ⟨RAC, "<init>", "(II)V"⟩
abbrev cAL_add : ByteArray := prog_22_method_25_code
def yAL_add : MethodName := ⟨RAL, "add", "(Ljava/lang/Object;)Z"⟩
abbrev cAL_add2 : ByteArray := prog_22_method_24_code
def yAL_add2 : MethodName := ⟨RAL, "add", "(Ljava/lang/Object;[Ljava/lang/Object;I)V"⟩
abbrev cAL_grow : ByteArray := prog_22_method_7_code
def yAL_grow : MethodName := ⟨RAL, "grow", "()[Ljava/lang/Object;"⟩
abbrev cAL_grow2 : ByteArray := prog_22_method_6_code
def yAL_grow2 : MethodName := ⟨RAL, "grow", "(I)[Ljava/lang/Object;"⟩
abbrev cAS_newLength : ByteArray := prog_29_method_27_code
def yAS_newLength : MethodName := ⟨RAS, "newLength", "(III)I"⟩
abbrev cMA_max : ByteArray := prog_15_method_65_code
def yMA_max : MethodName := ⟨RMA, "max", "(II)I"⟩
abbrev cAS_hugeLength : ByteArray := prog_29_method_28_code
def yAS_hugeLength : MethodName := ⟨RAS, "hugeLength", "(II)I"⟩
abbrev cAR_copyOf : ByteArray := prog_23_method_119_code
def yAR_copyOf : MethodName := ⟨RAR, "copyOf", "([Ljava/lang/Object;I)[Ljava/lang/Object;"⟩
abbrev cAR_copyOf2 : ByteArray := prog_23_method_120_code
def yAR_copyOf2 : MethodName := ⟨RAR, "copyOf", "([Ljava/lang/Object;ILjava/lang/Class;)[Ljava/lang/Object;"⟩
abbrev cMA_min : ByteArray := prog_15_method_69_code
def yMA_min : MethodName := ⟨RMA, "min", "(II)I"⟩
abbrev cPL_batch : ByteArray := prog_1_method_3_code
def yPL_batch : MethodName := ⟨RPL, "batch", "(J)I"⟩
abbrev cPL_isDay : ByteArray := prog_1_method_17_code
def yPL_isDay : MethodName := ⟨RPL, "isDay", "(J)Z"⟩
abbrev cPL_isWithin : ByteArray := prog_1_method_15_code
def yPL_isWithin : MethodName := ⟨RPL, "isWithin", "(JJJ)Z"⟩
abbrev cPL_isClosed : ByteArray := prog_1_method_18_code
def yPL_isClosed : MethodName := ⟨RPL, "isClosed", "(J)Z"⟩
abbrev cPL_hasRoomForBatch : ByteArray := prog_1_method_19_code
def yPL_hasRoomForBatch : MethodName := ⟨RPL, "hasRoomForBatch", "()Z"⟩
abbrev cBA_init : ByteArray := prog_3_method_1_code
def yBA_init : MethodName := ⟨RBA, "<init>", "(I)V"⟩
abbrev cPL_row : ByteArray := prog_1_method_4_code
def yPL_row : MethodName := ⟨RPL, "row", "(IIJ)Z"⟩
abbrev cPL_findBatch : ByteArray := prog_1_method_21_code
def yPL_findBatch : MethodName := ⟨RPL, "findBatch", "(I)LPostLedger$Batch;"⟩
abbrev cAL_get : ByteArray := prog_22_method_20_code
def yAL_get : MethodName := ⟨RAL, "get", "(I)Ljava/lang/Object;"⟩
abbrev cOB_checkIndex : ByteArray := prog_26_method_17_code
def yOB_checkIndex : MethodName := ⟨ROB, "checkIndex", "(II)I"⟩
abbrev cPC_checkIndex : ByteArray := prog_30_method_11_code
def yPC_checkIndex : MethodName := ⟨RPC, "checkIndex", "(IILjava/util/function/BiFunction;)I"⟩
abbrev cAL_elementData : ByteArray := prog_22_method_18_code
def yAL_elementData : MethodName := ⟨RAL, "elementData", "(I)Ljava/lang/Object;"⟩
abbrev cPL_findAccount : ByteArray := prog_1_method_20_code
def yPL_findAccount : MethodName := ⟨RPL, "findAccount", "(I)LPostLedger$Account;"⟩
abbrev cBA_isOpen : ByteArray := prog_3_method_2_code
def yBA_isOpen : MethodName := ⟨RBA, "isOpen", "()Z"⟩
abbrev cBA_isFull : ByteArray := prog_3_method_4_code
def yBA_isFull : MethodName := ⟨RBA, "isFull", "()Z"⟩
abbrev cBA_addRow : ByteArray := prog_3_method_6_code
def yBA_addRow : MethodName := ⟨RBA, "addRow", "(LPostLedger$Account;J)V"⟩
abbrev cRW_init : ByteArray := prog_5_method_1_code
def yRW_init : MethodName := ⟨RRW, "<init>", "(LPostLedger$Account;J)V"⟩
abbrev cPL_balance : ByteArray := prog_1_method_6_code
def yPL_balance : MethodName := ⟨RPL, "balance", "(IJ)J"⟩
abbrev cBA_size : ByteArray := prog_3_method_3_code
def yBA_size : MethodName := ⟨RBA, "size", "()I"⟩
abbrev cBA_sumForAccount : ByteArray := prog_3_method_12_code
def yBA_sumForAccount : MethodName := ⟨RBA, "sumForAccount", "(LPostLedger$Account;I)J"⟩
abbrev cPL_close : ByteArray := prog_1_method_7_code
def yPL_close : MethodName := ⟨RPL, "close", "(J)I"⟩
abbrev cPL_reverse : ByteArray := prog_1_method_8_code
def yPL_reverse : MethodName := ⟨RPL, "reverse", "(I)I"⟩
abbrev cPL_findBatchOfRow : ByteArray := prog_1_method_22_code
def yPL_findBatchOfRow : MethodName := ⟨RPL, "findBatchOfRow", "(I)LPostLedger$Batch;"⟩
abbrev cBA_hasRowNumber : ByteArray := prog_3_method_5_code
def yBA_hasRowNumber : MethodName := ⟨RBA, "hasRowNumber", "(I)Z"⟩
abbrev cBA_addRowsWithOtherSign : ByteArray := prog_3_method_7_code
def yBA_addRowsWithOtherSign : MethodName := ⟨RBA, "addRowsWithOtherSign", "(LPostLedger$Batch;)V"⟩
abbrev cPL_enterIntoBooks : ByteArray := prog_1_method_25_code
def yPL_enterIntoBooks : MethodName := ⟨RPL, "enterIntoBooks", "(LPostLedger$Batch;)V"⟩
abbrev cBA_addToTotals : ByteArray := prog_3_method_8_code
def yBA_addToTotals : MethodName := ⟨RBA, "addToTotals", "()V"⟩
abbrev cPL_stock : ByteArray := prog_1_method_9_code
def yPL_stock : MethodName := ⟨RPL, "stock", "(IIJ)I"⟩
abbrev cPL_totalOfKind : ByteArray := prog_1_method_24_code
def yPL_totalOfKind : MethodName := ⟨RPL, "totalOfKind", "(II)J"⟩
abbrev cAC_isOfKind : ByteArray := prog_2_method_2_code
def yAC_isOfKind : MethodName := ⟨RAC, "isOfKind", "(II)Z"⟩
abbrev cPL_firstOfKind : ByteArray := prog_1_method_23_code
def yPL_firstOfKind : MethodName := ⟨RPL, "firstOfKind", "(II)LPostLedger$Account;"⟩
abbrev cPL_limit : ByteArray := prog_1_method_10_code
def yPL_limit : MethodName := ⟨RPL, "limit", "(IJ)I"⟩
abbrev cPL_fails : ByteArray := prog_1_method_11_code
def yPL_fails : MethodName := ⟨RPL, "fails", "(IZ)Z"⟩
abbrev cPL_hold : ByteArray := prog_1_method_12_code
def yPL_hold : MethodName := ⟨RPL, "hold", "(I)J"⟩
abbrev cBA_takenFromAccount : ByteArray := prog_3_method_13_code
def yBA_takenFromAccount : MethodName := ⟨RBA, "takenFromAccount", "(LPostLedger$Account;)J"⟩
abbrev cPL_rows : ByteArray := prog_1_method_13_code
def yPL_rows : MethodName := ⟨RPL, "rows", "()I"⟩
abbrev cPL_all : ByteArray := prog_1_method_14_code
def yPL_all : MethodName := ⟨RPL, "all", "()J"⟩
abbrev cPL_post : ByteArray := prog_1_method_5_code
def yPL_post : MethodName := ⟨RPL, "post", "(I)I"⟩
abbrev cBA_outcomeOfPosting : ByteArray := prog_3_method_9_code
def yBA_outcomeOfPosting : MethodName := ⟨RBA, "outcomeOfPosting", "()LPostLedger$Outcome;"⟩
abbrev cAL_isEmpty : ByteArray := prog_22_method_9_code
def yAL_isEmpty : MethodName := ⟨RAL, "isEmpty", "()Z"⟩
abbrev cBA_sumOfRows : ByteArray := prog_3_method_11_code
def yBA_sumOfRows : MethodName := ⟨RBA, "sumOfRows", "()J"⟩
abbrev cBA_breaksLimit : ByteArray := prog_3_method_10_code
def yBA_breaksLimit : MethodName := ⟨RBA, "breaksLimit", "(LPostLedger$Row;I)Z"⟩
abbrev cRW_takesFromCustomer : ByteArray := prog_5_method_2_code
def yRW_takesFromCustomer : MethodName := ⟨RRW, "takesFromCustomer", "()Z"⟩
abbrev cMO_init : ByteArray := prog_8_method_1_code
def yMO_init : MethodName := ⟨RMO, "<init>", "()V"⟩
abbrev cMO_thrown : ByteArray := prog_8_method_2_code
def yMO_thrown : MethodName := ⟨RMO, "thrown", "()I"⟩
abbrev cMO_account : ByteArray := prog_8_method_6_code
def yMO_account : MethodName := ⟨RMO, "account", "(II)I"⟩
abbrev cMO_isIn : ByteArray := prog_8_method_3_code
def yMO_isIn : MethodName := ⟨RMO, "isIn", "(JJJ)Z"⟩
abbrev cMO_batch : ByteArray := prog_8_method_8_code
def yMO_batch : MethodName := ⟨RMO, "batch", "(J)I"⟩
abbrev cMO_make : ByteArray := prog_8_method_7_code
def yMO_make : MethodName := ⟨RMO, "make", "(J)I"⟩
abbrev cMO_row : ByteArray := prog_8_method_10_code
def yMO_row : MethodName := ⟨RMO, "row", "(IIJ)Z"⟩
abbrev cMO_isBatch : ByteArray := prog_8_method_5_code
def yMO_isBatch : MethodName := ⟨RMO, "isBatch", "(I)Z"⟩
abbrev cMO_isAccount : ByteArray := prog_8_method_4_code
def yMO_isAccount : MethodName := ⟨RMO, "isAccount", "(I)Z"⟩
abbrev cMO_put : ByteArray := prog_8_method_9_code
def yMO_put : MethodName := ⟨RMO, "put", "(IIJ)V"⟩
abbrev cMO_post : ByteArray := prog_8_method_15_code
def yMO_post : MethodName := ⟨RMO, "post", "(I)I"⟩
abbrev cMO_go : ByteArray := prog_8_method_14_code
def yMO_go : MethodName := ⟨RMO, "go", "(I)I"⟩
abbrev cMO_stops : ByteArray := prog_8_method_13_code
def yMO_stops : MethodName := ⟨RMO, "stops", "(I)I"⟩
abbrev cMO_balanceOf : ByteArray := prog_8_method_12_code
def yMO_balanceOf : MethodName := ⟨RMO, "balanceOf", "(IJ)J"⟩
abbrev cMO_part : ByteArray := prog_8_method_11_code
def yMO_part : MethodName := ⟨RMO, "part", "(III)J"⟩
abbrev cMO_balance : ByteArray := prog_8_method_16_code
def yMO_balance : MethodName := ⟨RMO, "balance", "(IJ)J"⟩
abbrev cMO_close : ByteArray := prog_8_method_17_code
def yMO_close : MethodName := ⟨RMO, "close", "(J)I"⟩
abbrev cMO_reverse : ByteArray := prog_8_method_19_code
def yMO_reverse : MethodName := ⟨RMO, "reverse", "(I)I"⟩
abbrev cMO_batchOf : ByteArray := prog_8_method_18_code
def yMO_batchOf : MethodName := ⟨RMO, "batchOf", "(I)I"⟩
abbrev cMO_stock : ByteArray := prog_8_method_21_code
def yMO_stock : MethodName := ⟨RMO, "stock", "(IIJ)I"⟩
abbrev cMO_first : ByteArray := prog_8_method_20_code
def yMO_first : MethodName := ⟨RMO, "first", "(II)I"⟩
abbrev cMO_limit : ByteArray := prog_8_method_22_code
def yMO_limit : MethodName := ⟨RMO, "limit", "(IJ)I"⟩
abbrev cMO_fails : ByteArray := prog_8_method_23_code
def yMO_fails : MethodName := ⟨RMO, "fails", "(IZ)Z"⟩
abbrev cMO_hold : ByteArray := prog_8_method_24_code
def yMO_hold : MethodName := ⟨RMO, "hold", "(I)J"⟩
abbrev cMO_rows : ByteArray := prog_8_method_25_code
def yMO_rows : MethodName := ⟨RMO, "rows", "()I"⟩
abbrev cMO_all : ByteArray := prog_8_method_26_code
def yMO_all : MethodName := ⟨RMO, "all", "()J"⟩
def xTB : List Cond := lw_tbl.filter goodWord
theorem xTB_of {i : Nat} {w : Cond} (h : lw_tbl[i]? = some w) (hg : goodWord w = true) : w ∈ xTB := List.mem_filter.mpr ⟨List.mem_of_getElem? h, hg⟩
theorem xTB_good : ∀ w ∈ xTB, w ∈ xTB ∧ ((w.onTables && w.keeps) = true ∨ ∃ ty, w = .arrayClass ty) := fun w h => ⟨h, good_of_word (List.mem_filter.mp h).2⟩
theorem xTB_in : ∀ w ∈ xTB, w ∈ lw_tbl := fun _ h => (List.mem_filter.mp h).1
theorem inAL : ∀ w ∈ u_ws RAL TAL 3, w ∈ xTB := by
  intro w hw
  obtain ⟨k, hk, rfl⟩ := List.mem_map.mp hw
  have hk := List.mem_range.mp hk
  have h : ∀ k, k < 3 → lw_tbl[([77, 73, 75] : List Nat).getD k 0]? = some (u_lay RAL TAL k) ∧ goodWord (u_lay RAL TAL k) = true := by decide +kernel
  exact xTB_of (h k hk).1 (h k hk).2
theorem inAC : ∀ w ∈ u_ws RAC TAC 4, w ∈ xTB := by
  intro w hw
  obtain ⟨k, hk, rfl⟩ := List.mem_map.mp hw
  have hk := List.mem_range.mp hk
  have h : ∀ k, k < 4 → lw_tbl[([119, 121, 123, 125] : List Nat).getD k 0]? = some (u_lay RAC TAC k) ∧ goodWord (u_lay RAC TAC k) = true := by decide +kernel
  exact xTB_of (h k hk).1 (h k hk).2
theorem inBA : ∀ w ∈ u_ws RBA TBA 6, w ∈ xTB := by
  intro w hw
  obtain ⟨k, hk, rfl⟩ := List.mem_map.mp hw
  have hk := List.mem_range.mp hk
  have h : ∀ k, k < 6 → lw_tbl[([224, 226, 228, 230, 232, 234] : List Nat).getD k 0]? = some (u_lay RBA TBA k) ∧ goodWord (u_lay RBA TBA k) = true := by decide +kernel
  exact xTB_of (h k hk).1 (h k hk).2
theorem inRW : ∀ w ∈ u_ws RRW TRW 2, w ∈ xTB := by
  intro w hw
  obtain ⟨k, hk, rfl⟩ := List.mem_map.mp hw
  have hk := List.mem_range.mp hk
  have h : ∀ k, k < 2 → lw_tbl[([288, 290] : List Nat).getD k 0]? = some (u_lay RRW TRW k) ∧ goodWord (u_lay RRW TRW k) = true := by decide +kernel
  exact xTB_of (h k hk).1 (h k hk).2
theorem inPL : ∀ w ∈ u_ws RPL TPL 4, w ∈ xTB := by
  intro w hw
  obtain ⟨k, hk, rfl⟩ := List.mem_map.mp hw
  have hk := List.mem_range.mp hk
  have h : ∀ k, k < 4 → lw_tbl[([84, 86, 88, 90] : List Nat).getD k 0]? = some (u_lay RPL TPL k) ∧ goodWord (u_lay RPL TPL k) = true := by decide +kernel
  exact xTB_of (h k hk).1 (h k hk).2
theorem inMO : ∀ w ∈ u_ws RMO TMO 17, w ∈ xTB := by
  intro w hw
  obtain ⟨k, hk, rfl⟩ := List.mem_map.mp hw
  have hk := List.mem_range.mp hk
  have h : ∀ k, k < 17 → lw_tbl[([512, 514, 516, 518, 520, 522, 524, 526, 528, 530, 532, 534, 536, 538, 540, 542, 544] : List Nat).getD k 0]? = some (u_lay RMO TMO k) ∧ goodWord (u_lay RMO TMO k) = true := by decide +kernel
  exact xTB_of (h k hk).1 (h k hk).2
theorem xG_V {own : String} {idx : Nat} {C : String} {y : MethodName} {c : ByteArray} {n : Nat} {r : Option FieldType} (h1 : Cond.methodLink own idx y ∈ xTB) (h2 : Cond.instanceMethod y ∈ xTB) (h3 : Cond.selects C y y ∈ xTB) (h4 : Cond.initialized C ∈ xTB) (h5 : Cond.code y c n r ∈ xTB) : GoodIn xTB (wsV own idx C y (Cond.code y c n r :: xTB)) := by
  intro w hw
  refine xTB_good w ?_
  rcases List.mem_append.mp hw with h | h
  · simp only [List.mem_cons, List.not_mem_nil, or_false] at h
    rcases h with rfl | rfl | rfl | rfl <;> assumption
  · rcases List.mem_cons.mp h with rfl | h <;> assumption
theorem xG_S {own : String} {idx : Nat} {y : MethodName} {c : ByteArray} {n : Nat} {r : Option FieldType} (h1 : Cond.methodLink own idx y ∈ xTB) (h2 : Cond.static y ∈ xTB) (h4 : Cond.initialized y.cls ∈ xTB) (h5 : Cond.code y c n r ∈ xTB) : GoodIn xTB (va_wsS own idx y (Cond.code y c n r :: xTB)) := by
  intro w hw
  refine xTB_good w ?_
  rcases List.mem_append.mp hw with h | h
  · simp only [List.mem_cons, List.not_mem_nil, or_false] at h
    rcases h with rfl | rfl | rfl <;> assumption
  · rcases List.mem_cons.mp h with rfl | h <;> assumption
theorem xG_I {y : MethodName} {c : ByteArray} {n : Nat} {r : Option FieldType} (h5 : Cond.code y c n r ∈ xTB) : GoodIn xTB (Cond.code y c n r :: xTB) := by
  intro w hw
  refine xTB_good w ?_
  rcases List.mem_cons.mp hw with rfl | h <;> assumption
