/-! decode rows: CLS -/
theorem dPL_init_0 : decode cPL_init 0 = .ok (.aload_n 0, 1) := by decide +kernel
theorem dPL_init_1 : decode cPL_init 1 = .ok (.invokespecial 1, 3) := by decide +kernel
theorem dPL_init_4 : decode cPL_init 4 = .ok (.aload_n 0, 1) := by decide +kernel
theorem dPL_init_5 : decode cPL_init 5 = .ok (.new 7, 3) := by decide +kernel
theorem dPL_init_8 : decode cPL_init 8 = .ok (.dup, 1) := by decide +kernel
theorem dPL_init_9 : decode cPL_init 9 = .ok (.invokespecial 9, 3) := by decide +kernel
theorem dPL_init_12 : decode cPL_init 12 = .ok (.putfield 10, 3) := by decide +kernel
theorem dPL_init_15 : decode cPL_init 15 = .ok (.aload_n 0, 1) := by decide +kernel
theorem dPL_init_16 : decode cPL_init 16 = .ok (.new 7, 3) := by decide +kernel
theorem dPL_init_19 : decode cPL_init 19 = .ok (.dup, 1) := by decide +kernel
theorem dPL_init_20 : decode cPL_init 20 = .ok (.invokespecial 9, 3) := by decide +kernel
theorem dPL_init_23 : decode cPL_init 23 = .ok (.putfield 16, 3) := by decide +kernel
theorem dPL_init_26 : decode cPL_init 26 = .ok (.aload_n 0, 1) := by decide +kernel
theorem dPL_init_27 : decode cPL_init 27 = .ok (.iconst 0, 1) := by decide +kernel
theorem dPL_init_28 : decode cPL_init 28 = .ok (.putfield 19, 3) := by decide +kernel
theorem dPL_init_31 : decode cPL_init 31 = .ok (.aload_n 0, 1) := by decide +kernel
theorem dPL_init_32 : decode cPL_init 32 = .ok (.iconst 0, 1) := by decide +kernel
theorem dPL_init_33 : decode cPL_init 33 = .ok (.putfield 23, 3) := by decide +kernel
theorem dPL_init_36 : decode cPL_init 36 = .ok (.return_, 1) := by decide +kernel
theorem dPL_isOffice_0 : decode cPL_isOffice 0 = .ok (.iload_n 0, 1) := by decide +kernel
theorem dPL_isOffice_1 : decode cPL_isOffice 1 = .ok (.ifCond .lt 13, 3) := by decide +kernel
theorem dPL_isOffice_4 : decode cPL_isOffice 4 = .ok (.iload_n 0, 1) := by decide +kernel
theorem dPL_isOffice_5 : decode cPL_isOffice 5 = .ok (.bipush 10, 2) := by decide +kernel
theorem dPL_isOffice_7 : decode cPL_isOffice 7 = .ok (.if_icmp .ge 7, 3) := by decide +kernel
theorem dPL_isOffice_10 : decode cPL_isOffice 10 = .ok (.iconst 1, 1) := by decide +kernel
theorem dPL_isOffice_11 : decode cPL_isOffice 11 = .ok (.goto 4, 3) := by decide +kernel
theorem dPL_isOffice_14 : decode cPL_isOffice 14 = .ok (.iconst 0, 1) := by decide +kernel
theorem dPL_isOffice_15 : decode cPL_isOffice 15 = .ok (.ireturn, 1) := by decide +kernel
theorem dAC_init_0 : decode cAC_init 0 = .ok (.aload_n 0, 1) := by decide +kernel
theorem dAC_init_1 : decode cAC_init 1 = .ok (.invokespecial 1, 3) := by decide +kernel
theorem dAC_init_4 : decode cAC_init 4 = .ok (.aload_n 0, 1) := by decide +kernel
theorem dAC_init_5 : decode cAC_init 5 = .ok (.iload_n 1, 1) := by decide +kernel
theorem dAC_init_6 : decode cAC_init 6 = .ok (.putfield 7, 3) := by decide +kernel
theorem dAC_init_9 : decode cAC_init 9 = .ok (.aload_n 0, 1) := by decide +kernel
theorem dAC_init_10 : decode cAC_init 10 = .ok (.iload_n 2, 1) := by decide +kernel
theorem dAC_init_11 : decode cAC_init 11 = .ok (.putfield 13, 3) := by decide +kernel
theorem dAC_init_14 : decode cAC_init 14 = .ok (.return_, 1) := by decide +kernel
theorem dPL_account_0 : decode cPL_account 0 = .ok (.iload_n 1, 1) := by decide +kernel
theorem dPL_account_1 : decode cPL_account 1 = .ok (.invokestatic 26, 3) := by decide +kernel
theorem dPL_account_4 : decode cPL_account 4 = .ok (.ifCond .eq 13, 3) := by decide +kernel
theorem dPL_account_7 : decode cPL_account 7 = .ok (.iload_n 2, 1) := by decide +kernel
theorem dPL_account_8 : decode cPL_account 8 = .ok (.ifCond .lt 9, 3) := by decide +kernel
theorem dPL_account_11 : decode cPL_account 11 = .ok (.iload_n 2, 1) := by decide +kernel
theorem dPL_account_12 : decode cPL_account 12 = .ok (.bipush 6, 2) := by decide +kernel
theorem dPL_account_14 : decode cPL_account 14 = .ok (.if_icmp .lt 6, 3) := by decide +kernel
theorem dPL_account_17 : decode cPL_account 17 = .ok (.ldc 30, 2) := by decide +kernel
theorem dPL_account_19 : decode cPL_account 19 = .ok (.ireturn, 1) := by decide +kernel
theorem dPL_account_20 : decode cPL_account 20 = .ok (.aload_n 0, 1) := by decide +kernel
theorem dPL_account_21 : decode cPL_account 21 = .ok (.getfield 10, 3) := by decide +kernel
theorem dPL_account_24 : decode cPL_account 24 = .ok (.invokevirtual 31, 3) := by decide +kernel
theorem dPL_account_27 : decode cPL_account 27 = .ok (.bipush 60, 2) := by decide +kernel
theorem dPL_account_29 : decode cPL_account 29 = .ok (.if_icmp .lt 6, 3) := by decide +kernel
theorem dPL_account_32 : decode cPL_account 32 = .ok (.ldc 35, 2) := by decide +kernel
theorem dPL_account_34 : decode cPL_account 34 = .ok (.ireturn, 1) := by decide +kernel
theorem dPL_account_35 : decode cPL_account 35 = .ok (.aload_n 0, 1) := by decide +kernel
theorem dPL_account_36 : decode cPL_account 36 = .ok (.getfield 10, 3) := by decide +kernel
theorem dPL_account_39 : decode cPL_account 39 = .ok (.new 36, 3) := by decide +kernel
theorem dPL_account_42 : decode cPL_account 42 = .ok (.dup, 1) := by decide +kernel
theorem dPL_account_43 : decode cPL_account 43 = .ok (.iload_n 1, 1) := by decide +kernel
theorem dPL_account_44 : decode cPL_account 44 = .ok (.iload_n 2, 1) := by decide +kernel
theorem dPL_account_45 : decode cPL_account 45 = .ok (.invokespecial 38, 3) := by decide +kernel
theorem dPL_account_48 : decode cPL_account 48 = .ok (.invokevirtual 41, 3) := by decide +kernel
theorem dPL_account_51 : decode cPL_account 51 = .ok (.pop, 1) := by decide +kernel
theorem dPL_account_52 : decode cPL_account 52 = .ok (.aload_n 0, 1) := by decide +kernel
theorem dPL_account_53 : decode cPL_account 53 = .ok (.getfield 10, 3) := by decide +kernel
theorem dPL_account_56 : decode cPL_account 56 = .ok (.invokevirtual 31, 3) := by decide +kernel
theorem dPL_account_59 : decode cPL_account 59 = .ok (.ireturn, 1) := by decide +kernel
theorem dPL_isWithin_0 : decode cPL_isWithin 0 = .ok (.lload_n 0, 1) := by decide +kernel
theorem dPL_isWithin_1 : decode cPL_isWithin 1 = .ok (.lload_n 2, 1) := by decide +kernel
theorem dPL_isWithin_2 : decode cPL_isWithin 2 = .ok (.lcmp, 1) := by decide +kernel
theorem dPL_isWithin_3 : decode cPL_isWithin 3 = .ok (.ifCond .lt 14, 3) := by decide +kernel
theorem dPL_isWithin_6 : decode cPL_isWithin 6 = .ok (.lload_n 0, 1) := by decide +kernel
theorem dPL_isWithin_7 : decode cPL_isWithin 7 = .ok (.lload 4, 2) := by decide +kernel
theorem dPL_isWithin_9 : decode cPL_isWithin 9 = .ok (.lcmp, 1) := by decide +kernel
theorem dPL_isWithin_10 : decode cPL_isWithin 10 = .ok (.ifCond .gt 7, 3) := by decide +kernel
theorem dPL_isWithin_13 : decode cPL_isWithin 13 = .ok (.iconst 1, 1) := by decide +kernel
theorem dPL_isWithin_14 : decode cPL_isWithin 14 = .ok (.goto 4, 3) := by decide +kernel
theorem dPL_isWithin_17 : decode cPL_isWithin 17 = .ok (.iconst 0, 1) := by decide +kernel
theorem dPL_isWithin_18 : decode cPL_isWithin 18 = .ok (.ireturn, 1) := by decide +kernel
theorem dPL_isDay_0 : decode cPL_isDay 0 = .ok (.lload_n 0, 1) := by decide +kernel
theorem dPL_isDay_1 : decode cPL_isDay 1 = .ok (.lconst 0, 1) := by decide +kernel
theorem dPL_isDay_2 : decode cPL_isDay 2 = .ok (.ldc2_w 180, 3) := by decide +kernel
theorem dPL_isDay_5 : decode cPL_isDay 5 = .ok (.invokestatic 80, 3) := by decide +kernel
theorem dPL_isDay_8 : decode cPL_isDay 8 = .ok (.ireturn, 1) := by decide +kernel
theorem dPL_isClosed_0 : decode cPL_isClosed 0 = .ok (.lload_n 1, 1) := by decide +kernel
theorem dPL_isClosed_1 : decode cPL_isClosed 1 = .ok (.aload_n 0, 1) := by decide +kernel
theorem dPL_isClosed_2 : decode cPL_isClosed 2 = .ok (.getfield 19, 3) := by decide +kernel
theorem dPL_isClosed_5 : decode cPL_isClosed 5 = .ok (.i2l, 1) := by decide +kernel
theorem dPL_isClosed_6 : decode cPL_isClosed 6 = .ok (.lcmp, 1) := by decide +kernel
theorem dPL_isClosed_7 : decode cPL_isClosed 7 = .ok (.ifCond .ge 7, 3) := by decide +kernel
theorem dPL_isClosed_10 : decode cPL_isClosed 10 = .ok (.iconst 1, 1) := by decide +kernel
theorem dPL_isClosed_11 : decode cPL_isClosed 11 = .ok (.goto 4, 3) := by decide +kernel
theorem dPL_isClosed_14 : decode cPL_isClosed 14 = .ok (.iconst 0, 1) := by decide +kernel
theorem dPL_isClosed_15 : decode cPL_isClosed 15 = .ok (.ireturn, 1) := by decide +kernel
theorem dPL_hasRoomForBatch_0 : decode cPL_hasRoomForBatch 0 = .ok (.aload_n 0, 1) := by decide +kernel
theorem dPL_hasRoomForBatch_1 : decode cPL_hasRoomForBatch 1 = .ok (.getfield 16, 3) := by decide +kernel
theorem dPL_hasRoomForBatch_4 : decode cPL_hasRoomForBatch 4 = .ok (.invokevirtual 31, 3) := by decide +kernel
theorem dPL_hasRoomForBatch_7 : decode cPL_hasRoomForBatch 7 = .ok (.sipush 300, 3) := by decide +kernel
theorem dPL_hasRoomForBatch_10 : decode cPL_hasRoomForBatch 10 = .ok (.if_icmp .ge 7, 3) := by decide +kernel
theorem dPL_hasRoomForBatch_13 : decode cPL_hasRoomForBatch 13 = .ok (.iconst 1, 1) := by decide +kernel
theorem dPL_hasRoomForBatch_14 : decode cPL_hasRoomForBatch 14 = .ok (.goto 4, 3) := by decide +kernel
theorem dPL_hasRoomForBatch_17 : decode cPL_hasRoomForBatch 17 = .ok (.iconst 0, 1) := by decide +kernel
theorem dPL_hasRoomForBatch_18 : decode cPL_hasRoomForBatch 18 = .ok (.ireturn, 1) := by decide +kernel
theorem dBA_init_0 : decode cBA_init 0 = .ok (.aload_n 0, 1) := by decide +kernel
theorem dBA_init_1 : decode cBA_init 1 = .ok (.invokespecial 3, 3) := by decide +kernel
theorem dBA_init_4 : decode cBA_init 4 = .ok (.aload_n 0, 1) := by decide +kernel
theorem dBA_init_5 : decode cBA_init 5 = .ok (.iload_n 1, 1) := by decide +kernel
theorem dBA_init_6 : decode cBA_init 6 = .ok (.putfield 9, 3) := by decide +kernel
theorem dBA_init_9 : decode cBA_init 9 = .ok (.aload_n 0, 1) := by decide +kernel
theorem dBA_init_10 : decode cBA_init 10 = .ok (.new 15, 3) := by decide +kernel
theorem dBA_init_13 : decode cBA_init 13 = .ok (.dup, 1) := by decide +kernel
theorem dBA_init_14 : decode cBA_init 14 = .ok (.invokespecial 17, 3) := by decide +kernel
theorem dBA_init_17 : decode cBA_init 17 = .ok (.putfield 18, 3) := by decide +kernel
theorem dBA_init_20 : decode cBA_init 20 = .ok (.aload_n 0, 1) := by decide +kernel
theorem dBA_init_21 : decode cBA_init 21 = .ok (.getstatic 22, 3) := by decide +kernel
theorem dBA_init_24 : decode cBA_init 24 = .ok (.putfield 28, 3) := by decide +kernel
theorem dBA_init_27 : decode cBA_init 27 = .ok (.return_, 1) := by decide +kernel
theorem dPL_batch_0 : decode cPL_batch 0 = .ok (.lload_n 1, 1) := by decide +kernel
theorem dPL_batch_1 : decode cPL_batch 1 = .ok (.invokestatic 45, 3) := by decide +kernel
theorem dPL_batch_4 : decode cPL_batch 4 = .ok (.ifCond .ne 6, 3) := by decide +kernel
theorem dPL_batch_7 : decode cPL_batch 7 = .ok (.ldc 30, 2) := by decide +kernel
theorem dPL_batch_9 : decode cPL_batch 9 = .ok (.ireturn, 1) := by decide +kernel
theorem dPL_batch_10 : decode cPL_batch 10 = .ok (.aload_n 0, 1) := by decide +kernel
theorem dPL_batch_11 : decode cPL_batch 11 = .ok (.lload_n 1, 1) := by decide +kernel
theorem dPL_batch_12 : decode cPL_batch 12 = .ok (.invokevirtual 49, 3) := by decide +kernel
theorem dPL_batch_15 : decode cPL_batch 15 = .ok (.ifCond .eq 6, 3) := by decide +kernel
theorem dPL_batch_18 : decode cPL_batch 18 = .ok (.ldc 52, 2) := by decide +kernel
theorem dPL_batch_20 : decode cPL_batch 20 = .ok (.ireturn, 1) := by decide +kernel
theorem dPL_batch_21 : decode cPL_batch 21 = .ok (.aload_n 0, 1) := by decide +kernel
theorem dPL_batch_22 : decode cPL_batch 22 = .ok (.invokevirtual 53, 3) := by decide +kernel
theorem dPL_batch_25 : decode cPL_batch 25 = .ok (.ifCond .ne 6, 3) := by decide +kernel
theorem dPL_batch_28 : decode cPL_batch 28 = .ok (.ldc 35, 2) := by decide +kernel
theorem dPL_batch_30 : decode cPL_batch 30 = .ok (.ireturn, 1) := by decide +kernel
theorem dPL_batch_31 : decode cPL_batch 31 = .ok (.aload_n 0, 1) := by decide +kernel
theorem dPL_batch_32 : decode cPL_batch 32 = .ok (.getfield 16, 3) := by decide +kernel
theorem dPL_batch_35 : decode cPL_batch 35 = .ok (.new 57, 3) := by decide +kernel
theorem dPL_batch_38 : decode cPL_batch 38 = .ok (.dup, 1) := by decide +kernel
theorem dPL_batch_39 : decode cPL_batch 39 = .ok (.lload_n 1, 1) := by decide +kernel
theorem dPL_batch_40 : decode cPL_batch 40 = .ok (.l2i, 1) := by decide +kernel
theorem dPL_batch_41 : decode cPL_batch 41 = .ok (.invokespecial 59, 3) := by decide +kernel
theorem dPL_batch_44 : decode cPL_batch 44 = .ok (.invokevirtual 41, 3) := by decide +kernel
theorem dPL_batch_47 : decode cPL_batch 47 = .ok (.pop, 1) := by decide +kernel
theorem dPL_batch_48 : decode cPL_batch 48 = .ok (.aload_n 0, 1) := by decide +kernel
theorem dPL_batch_49 : decode cPL_batch 49 = .ok (.getfield 16, 3) := by decide +kernel
theorem dPL_batch_52 : decode cPL_batch 52 = .ok (.invokevirtual 31, 3) := by decide +kernel
theorem dPL_batch_55 : decode cPL_batch 55 = .ok (.ireturn, 1) := by decide +kernel
theorem dPL_findBatch_0 : decode cPL_findBatch 0 = .ok (.iload_n 1, 1) := by decide +kernel
theorem dPL_findBatch_1 : decode cPL_findBatch 1 = .ok (.iconst 1, 1) := by decide +kernel
theorem dPL_findBatch_2 : decode cPL_findBatch 2 = .ok (.if_icmp .lt 30, 3) := by decide +kernel
theorem dPL_findBatch_5 : decode cPL_findBatch 5 = .ok (.iload_n 1, 1) := by decide +kernel
theorem dPL_findBatch_6 : decode cPL_findBatch 6 = .ok (.aload_n 0, 1) := by decide +kernel
theorem dPL_findBatch_7 : decode cPL_findBatch 7 = .ok (.getfield 16, 3) := by decide +kernel
theorem dPL_findBatch_10 : decode cPL_findBatch 10 = .ok (.invokevirtual 31, 3) := by decide +kernel
theorem dPL_findBatch_13 : decode cPL_findBatch 13 = .ok (.if_icmp .gt 19, 3) := by decide +kernel
theorem dPL_findBatch_16 : decode cPL_findBatch 16 = .ok (.aload_n 0, 1) := by decide +kernel
theorem dPL_findBatch_17 : decode cPL_findBatch 17 = .ok (.getfield 16, 3) := by decide +kernel
theorem dPL_findBatch_20 : decode cPL_findBatch 20 = .ok (.iload_n 1, 1) := by decide +kernel
theorem dPL_findBatch_21 : decode cPL_findBatch 21 = .ok (.iconst 1, 1) := by decide +kernel
theorem dPL_findBatch_22 : decode cPL_findBatch 22 = .ok (.isub, 1) := by decide +kernel
theorem dPL_findBatch_23 : decode cPL_findBatch 23 = .ok (.invokevirtual 127, 3) := by decide +kernel
theorem dPL_findBatch_26 : decode cPL_findBatch 26 = .ok (.checkcast 57, 3) := by decide +kernel
theorem dPL_findBatch_29 : decode cPL_findBatch 29 = .ok (.goto 4, 3) := by decide +kernel
theorem dPL_findBatch_32 : decode cPL_findBatch 32 = .ok (.aconst_null, 1) := by decide +kernel
theorem dPL_findBatch_33 : decode cPL_findBatch 33 = .ok (.areturn, 1) := by decide +kernel
theorem dPL_findAccount_0 : decode cPL_findAccount 0 = .ok (.iload_n 1, 1) := by decide +kernel
theorem dPL_findAccount_1 : decode cPL_findAccount 1 = .ok (.iconst 1, 1) := by decide +kernel
theorem dPL_findAccount_2 : decode cPL_findAccount 2 = .ok (.if_icmp .lt 30, 3) := by decide +kernel
theorem dPL_findAccount_5 : decode cPL_findAccount 5 = .ok (.iload_n 1, 1) := by decide +kernel
theorem dPL_findAccount_6 : decode cPL_findAccount 6 = .ok (.aload_n 0, 1) := by decide +kernel
theorem dPL_findAccount_7 : decode cPL_findAccount 7 = .ok (.getfield 10, 3) := by decide +kernel
theorem dPL_findAccount_10 : decode cPL_findAccount 10 = .ok (.invokevirtual 31, 3) := by decide +kernel
theorem dPL_findAccount_13 : decode cPL_findAccount 13 = .ok (.if_icmp .gt 19, 3) := by decide +kernel
theorem dPL_findAccount_16 : decode cPL_findAccount 16 = .ok (.aload_n 0, 1) := by decide +kernel
theorem dPL_findAccount_17 : decode cPL_findAccount 17 = .ok (.getfield 10, 3) := by decide +kernel
theorem dPL_findAccount_20 : decode cPL_findAccount 20 = .ok (.iload_n 1, 1) := by decide +kernel
theorem dPL_findAccount_21 : decode cPL_findAccount 21 = .ok (.iconst 1, 1) := by decide +kernel
theorem dPL_findAccount_22 : decode cPL_findAccount 22 = .ok (.isub, 1) := by decide +kernel
theorem dPL_findAccount_23 : decode cPL_findAccount 23 = .ok (.invokevirtual 127, 3) := by decide +kernel
theorem dPL_findAccount_26 : decode cPL_findAccount 26 = .ok (.checkcast 36, 3) := by decide +kernel
theorem dPL_findAccount_29 : decode cPL_findAccount 29 = .ok (.goto 4, 3) := by decide +kernel
theorem dPL_findAccount_32 : decode cPL_findAccount 32 = .ok (.aconst_null, 1) := by decide +kernel
theorem dPL_findAccount_33 : decode cPL_findAccount 33 = .ok (.areturn, 1) := by decide +kernel
theorem dBA_isOpen_0 : decode cBA_isOpen 0 = .ok (.aload_n 0, 1) := by decide +kernel
theorem dBA_isOpen_1 : decode cBA_isOpen 1 = .ok (.getfield 28, 3) := by decide +kernel
theorem dBA_isOpen_4 : decode cBA_isOpen 4 = .ok (.getstatic 22, 3) := by decide +kernel
theorem dBA_isOpen_7 : decode cBA_isOpen 7 = .ok (.if_acmp .ne 7, 3) := by decide +kernel
theorem dBA_isOpen_10 : decode cBA_isOpen 10 = .ok (.iconst 1, 1) := by decide +kernel
theorem dBA_isOpen_11 : decode cBA_isOpen 11 = .ok (.goto 4, 3) := by decide +kernel
theorem dBA_isOpen_14 : decode cBA_isOpen 14 = .ok (.iconst 0, 1) := by decide +kernel
theorem dBA_isOpen_15 : decode cBA_isOpen 15 = .ok (.ireturn, 1) := by decide +kernel
theorem dBA_isFull_0 : decode cBA_isFull 0 = .ok (.aload_n 0, 1) := by decide +kernel
theorem dBA_isFull_1 : decode cBA_isFull 1 = .ok (.getfield 18, 3) := by decide +kernel
theorem dBA_isFull_4 : decode cBA_isFull 4 = .ok (.invokevirtual 31, 3) := by decide +kernel
theorem dBA_isFull_7 : decode cBA_isFull 7 = .ok (.bipush 12, 2) := by decide +kernel
theorem dBA_isFull_9 : decode cBA_isFull 9 = .ok (.if_icmp .lt 7, 3) := by decide +kernel
theorem dBA_isFull_12 : decode cBA_isFull 12 = .ok (.iconst 1, 1) := by decide +kernel
theorem dBA_isFull_13 : decode cBA_isFull 13 = .ok (.goto 4, 3) := by decide +kernel
theorem dBA_isFull_16 : decode cBA_isFull 16 = .ok (.iconst 0, 1) := by decide +kernel
theorem dBA_isFull_17 : decode cBA_isFull 17 = .ok (.ireturn, 1) := by decide +kernel
theorem dRW_init_0 : decode cRW_init 0 = .ok (.aload_n 0, 1) := by decide +kernel
theorem dRW_init_1 : decode cRW_init 1 = .ok (.invokespecial 3, 3) := by decide +kernel
theorem dRW_init_4 : decode cRW_init 4 = .ok (.aload_n 0, 1) := by decide +kernel
theorem dRW_init_5 : decode cRW_init 5 = .ok (.aload_n 1, 1) := by decide +kernel
theorem dRW_init_6 : decode cRW_init 6 = .ok (.putfield 9, 3) := by decide +kernel
theorem dRW_init_9 : decode cRW_init 9 = .ok (.aload_n 0, 1) := by decide +kernel
theorem dRW_init_10 : decode cRW_init 10 = .ok (.lload_n 2, 1) := by decide +kernel
theorem dRW_init_11 : decode cRW_init 11 = .ok (.putfield 15, 3) := by decide +kernel
theorem dRW_init_14 : decode cRW_init 14 = .ok (.return_, 1) := by decide +kernel
theorem dBA_addRow_0 : decode cBA_addRow 0 = .ok (.aload_n 0, 1) := by decide +kernel
theorem dBA_addRow_1 : decode cBA_addRow 1 = .ok (.getfield 18, 3) := by decide +kernel
theorem dBA_addRow_4 : decode cBA_addRow 4 = .ok (.new 38, 3) := by decide +kernel
theorem dBA_addRow_7 : decode cBA_addRow 7 = .ok (.dup, 1) := by decide +kernel
theorem dBA_addRow_8 : decode cBA_addRow 8 = .ok (.aload_n 1, 1) := by decide +kernel
theorem dBA_addRow_9 : decode cBA_addRow 9 = .ok (.lload_n 2, 1) := by decide +kernel
theorem dBA_addRow_10 : decode cBA_addRow 10 = .ok (.invokespecial 40, 3) := by decide +kernel
theorem dBA_addRow_13 : decode cBA_addRow 13 = .ok (.invokevirtual 43, 3) := by decide +kernel
theorem dBA_addRow_16 : decode cBA_addRow 16 = .ok (.pop, 1) := by decide +kernel
theorem dBA_addRow_17 : decode cBA_addRow 17 = .ok (.return_, 1) := by decide +kernel
theorem dPL_row_0 : decode cPL_row 0 = .ok (.aload_n 0, 1) := by decide +kernel
theorem dPL_row_1 : decode cPL_row 1 = .ok (.iload_n 1, 1) := by decide +kernel
theorem dPL_row_2 : decode cPL_row 2 = .ok (.invokevirtual 62, 3) := by decide +kernel
theorem dPL_row_5 : decode cPL_row 5 = .ok (.astore 5, 2) := by decide +kernel
theorem dPL_row_7 : decode cPL_row 7 = .ok (.aload_n 0, 1) := by decide +kernel
theorem dPL_row_8 : decode cPL_row 8 = .ok (.iload_n 2, 1) := by decide +kernel
theorem dPL_row_9 : decode cPL_row 9 = .ok (.invokevirtual 66, 3) := by decide +kernel
theorem dPL_row_12 : decode cPL_row 12 = .ok (.astore 6, 2) := by decide +kernel
theorem dPL_row_14 : decode cPL_row 14 = .ok (.aload 5, 2) := by decide +kernel
theorem dPL_row_16 : decode cPL_row 16 = .ok (.ifnull 24, 3) := by decide +kernel
theorem dPL_row_19 : decode cPL_row 19 = .ok (.aload 6, 2) := by decide +kernel
theorem dPL_row_21 : decode cPL_row 21 = .ok (.ifnull 19, 3) := by decide +kernel
theorem dPL_row_24 : decode cPL_row 24 = .ok (.aload 5, 2) := by decide +kernel
theorem dPL_row_26 : decode cPL_row 26 = .ok (.invokevirtual 70, 3) := by decide +kernel
theorem dPL_row_29 : decode cPL_row 29 = .ok (.ifCond .eq 11, 3) := by decide +kernel
theorem dPL_row_32 : decode cPL_row 32 = .ok (.aload 5, 2) := by decide +kernel
theorem dPL_row_34 : decode cPL_row 34 = .ok (.invokevirtual 73, 3) := by decide +kernel
theorem dPL_row_37 : decode cPL_row 37 = .ok (.ifCond .eq 5, 3) := by decide +kernel
theorem dPL_row_40 : decode cPL_row 40 = .ok (.iconst 0, 1) := by decide +kernel
theorem dPL_row_41 : decode cPL_row 41 = .ok (.ireturn, 1) := by decide +kernel
theorem dPL_row_42 : decode cPL_row 42 = .ok (.lload_n 3, 1) := by decide +kernel
theorem dPL_row_43 : decode cPL_row 43 = .ok (.lconst 0, 1) := by decide +kernel
theorem dPL_row_44 : decode cPL_row 44 = .ok (.lcmp, 1) := by decide +kernel
theorem dPL_row_45 : decode cPL_row 45 = .ok (.ifCond .eq 16, 3) := by decide +kernel
theorem dPL_row_48 : decode cPL_row 48 = .ok (.lload_n 3, 1) := by decide +kernel
theorem dPL_row_49 : decode cPL_row 49 = .ok (.ldc2_w 76, 3) := by decide +kernel
theorem dPL_row_52 : decode cPL_row 52 = .ok (.ldc2_w 78, 3) := by decide +kernel
theorem dPL_row_55 : decode cPL_row 55 = .ok (.invokestatic 80, 3) := by decide +kernel
theorem dPL_row_58 : decode cPL_row 58 = .ok (.ifCond .ne 5, 3) := by decide +kernel
theorem dPL_row_61 : decode cPL_row 61 = .ok (.iconst 0, 1) := by decide +kernel
theorem dPL_row_62 : decode cPL_row 62 = .ok (.ireturn, 1) := by decide +kernel
theorem dPL_row_63 : decode cPL_row 63 = .ok (.aload 5, 2) := by decide +kernel
theorem dPL_row_65 : decode cPL_row 65 = .ok (.aload 6, 2) := by decide +kernel
theorem dPL_row_67 : decode cPL_row 67 = .ok (.lload_n 3, 1) := by decide +kernel
theorem dPL_row_68 : decode cPL_row 68 = .ok (.invokevirtual 84, 3) := by decide +kernel
theorem dPL_row_71 : decode cPL_row 71 = .ok (.iconst 1, 1) := by decide +kernel
theorem dPL_row_72 : decode cPL_row 72 = .ok (.ireturn, 1) := by decide +kernel
theorem dBA_size_0 : decode cBA_size 0 = .ok (.aload_n 0, 1) := by decide +kernel
theorem dBA_size_1 : decode cBA_size 1 = .ok (.getfield 18, 3) := by decide +kernel
theorem dBA_size_4 : decode cBA_size 4 = .ok (.invokevirtual 31, 3) := by decide +kernel
theorem dBA_size_7 : decode cBA_size 7 = .ok (.ireturn, 1) := by decide +kernel
theorem dBA_sumForAccount_0 : decode cBA_sumForAccount 0 = .ok (.lconst 0, 1) := by decide +kernel
theorem dBA_sumForAccount_1 : decode cBA_sumForAccount 1 = .ok (.lstore_n 3, 1) := by decide +kernel
theorem dBA_sumForAccount_2 : decode cBA_sumForAccount 2 = .ok (.iconst 0, 1) := by decide +kernel
theorem dBA_sumForAccount_3 : decode cBA_sumForAccount 3 = .ok (.istore 5, 2) := by decide +kernel
theorem dBA_sumForAccount_5 : decode cBA_sumForAccount 5 = .ok (.iload 5, 2) := by decide +kernel
theorem dBA_sumForAccount_7 : decode cBA_sumForAccount 7 = .ok (.iload_n 2, 1) := by decide +kernel
theorem dBA_sumForAccount_8 : decode cBA_sumForAccount 8 = .ok (.if_icmp .ge 52, 3) := by decide +kernel
theorem dBA_sumForAccount_11 : decode cBA_sumForAccount 11 = .ok (.iload 5, 2) := by decide +kernel
theorem dBA_sumForAccount_13 : decode cBA_sumForAccount 13 = .ok (.aload_n 0, 1) := by decide +kernel
theorem dBA_sumForAccount_14 : decode cBA_sumForAccount 14 = .ok (.getfield 18, 3) := by decide +kernel
theorem dBA_sumForAccount_17 : decode cBA_sumForAccount 17 = .ok (.invokevirtual 31, 3) := by decide +kernel
theorem dBA_sumForAccount_20 : decode cBA_sumForAccount 20 = .ok (.if_icmp .ge 40, 3) := by decide +kernel
theorem dBA_sumForAccount_23 : decode cBA_sumForAccount 23 = .ok (.aload_n 0, 1) := by decide +kernel
theorem dBA_sumForAccount_24 : decode cBA_sumForAccount 24 = .ok (.getfield 18, 3) := by decide +kernel
theorem dBA_sumForAccount_27 : decode cBA_sumForAccount 27 = .ok (.iload 5, 2) := by decide +kernel
theorem dBA_sumForAccount_29 : decode cBA_sumForAccount 29 = .ok (.invokevirtual 47, 3) := by decide +kernel
theorem dBA_sumForAccount_32 : decode cBA_sumForAccount 32 = .ok (.checkcast 38, 3) := by decide +kernel
theorem dBA_sumForAccount_35 : decode cBA_sumForAccount 35 = .ok (.astore 6, 2) := by decide +kernel
theorem dBA_sumForAccount_37 : decode cBA_sumForAccount 37 = .ok (.aload 6, 2) := by decide +kernel
theorem dBA_sumForAccount_39 : decode cBA_sumForAccount 39 = .ok (.getfield 51, 3) := by decide +kernel
theorem dBA_sumForAccount_42 : decode cBA_sumForAccount 42 = .ok (.aload_n 1, 1) := by decide +kernel
theorem dBA_sumForAccount_43 : decode cBA_sumForAccount 43 = .ok (.if_acmp .ne 11, 3) := by decide +kernel
theorem dBA_sumForAccount_46 : decode cBA_sumForAccount 46 = .ok (.lload_n 3, 1) := by decide +kernel
theorem dBA_sumForAccount_47 : decode cBA_sumForAccount 47 = .ok (.aload 6, 2) := by decide +kernel
theorem dBA_sumForAccount_49 : decode cBA_sumForAccount 49 = .ok (.getfield 55, 3) := by decide +kernel
theorem dBA_sumForAccount_52 : decode cBA_sumForAccount 52 = .ok (.ladd, 1) := by decide +kernel
theorem dBA_sumForAccount_53 : decode cBA_sumForAccount 53 = .ok (.lstore_n 3, 1) := by decide +kernel
theorem dBA_sumForAccount_54 : decode cBA_sumForAccount 54 = .ok (.iinc 5 1, 3) := by decide +kernel
theorem dBA_sumForAccount_57 : decode cBA_sumForAccount 57 = .ok (.goto (-52), 3) := by decide +kernel
theorem dBA_sumForAccount_60 : decode cBA_sumForAccount 60 = .ok (.lload_n 3, 1) := by decide +kernel
theorem dBA_sumForAccount_61 : decode cBA_sumForAccount 61 = .ok (.lreturn, 1) := by decide +kernel
theorem dPL_balance_0 : decode cPL_balance 0 = .ok (.aload_n 0, 1) := by decide +kernel
theorem dPL_balance_1 : decode cPL_balance 1 = .ok (.iload_n 1, 1) := by decide +kernel
theorem dPL_balance_2 : decode cPL_balance 2 = .ok (.invokevirtual 66, 3) := by decide +kernel
theorem dPL_balance_5 : decode cPL_balance 5 = .ok (.astore 4, 2) := by decide +kernel
theorem dPL_balance_7 : decode cPL_balance 7 = .ok (.aload 4, 2) := by decide +kernel
theorem dPL_balance_9 : decode cPL_balance 9 = .ok (.ifnonnull 7, 3) := by decide +kernel
theorem dPL_balance_12 : decode cPL_balance 12 = .ok (.ldc2_w 125, 3) := by decide +kernel
theorem dPL_balance_15 : decode cPL_balance 15 = .ok (.lreturn, 1) := by decide +kernel
theorem dPL_balance_16 : decode cPL_balance 16 = .ok (.lconst 0, 1) := by decide +kernel
theorem dPL_balance_17 : decode cPL_balance 17 = .ok (.lstore 5, 2) := by decide +kernel
theorem dPL_balance_19 : decode cPL_balance 19 = .ok (.iconst 0, 1) := by decide +kernel
theorem dPL_balance_20 : decode cPL_balance 20 = .ok (.istore 7, 2) := by decide +kernel
theorem dPL_balance_22 : decode cPL_balance 22 = .ok (.iload 7, 2) := by decide +kernel
theorem dPL_balance_24 : decode cPL_balance 24 = .ok (.aload_n 0, 1) := by decide +kernel
theorem dPL_balance_25 : decode cPL_balance 25 = .ok (.getfield 16, 3) := by decide +kernel
theorem dPL_balance_28 : decode cPL_balance 28 = .ok (.invokevirtual 31, 3) := by decide +kernel
theorem dPL_balance_31 : decode cPL_balance 31 = .ok (.if_icmp .ge 62, 3) := by decide +kernel
theorem dPL_balance_34 : decode cPL_balance 34 = .ok (.aload_n 0, 1) := by decide +kernel
theorem dPL_balance_35 : decode cPL_balance 35 = .ok (.getfield 16, 3) := by decide +kernel
theorem dPL_balance_38 : decode cPL_balance 38 = .ok (.iload 7, 2) := by decide +kernel
theorem dPL_balance_40 : decode cPL_balance 40 = .ok (.invokevirtual 127, 3) := by decide +kernel
theorem dPL_balance_43 : decode cPL_balance 43 = .ok (.checkcast 57, 3) := by decide +kernel
theorem dPL_balance_46 : decode cPL_balance 46 = .ok (.astore 8, 2) := by decide +kernel
theorem dPL_balance_48 : decode cPL_balance 48 = .ok (.aload 8, 2) := by decide +kernel
theorem dPL_balance_50 : decode cPL_balance 50 = .ok (.getfield 112, 3) := by decide +kernel
theorem dPL_balance_53 : decode cPL_balance 53 = .ok (.getstatic 131, 3) := by decide +kernel
theorem dPL_balance_56 : decode cPL_balance 56 = .ok (.if_acmp .ne 31, 3) := by decide +kernel
theorem dPL_balance_59 : decode cPL_balance 59 = .ok (.aload 8, 2) := by decide +kernel
theorem dPL_balance_61 : decode cPL_balance 61 = .ok (.getfield 89, 3) := by decide +kernel
theorem dPL_balance_64 : decode cPL_balance 64 = .ok (.i2l, 1) := by decide +kernel
theorem dPL_balance_65 : decode cPL_balance 65 = .ok (.lload_n 2, 1) := by decide +kernel
theorem dPL_balance_66 : decode cPL_balance 66 = .ok (.lcmp, 1) := by decide +kernel
theorem dPL_balance_67 : decode cPL_balance 67 = .ok (.ifCond .gt 20, 3) := by decide +kernel
theorem dPL_balance_70 : decode cPL_balance 70 = .ok (.lload 5, 2) := by decide +kernel
theorem dPL_balance_72 : decode cPL_balance 72 = .ok (.aload 8, 2) := by decide +kernel
theorem dPL_balance_74 : decode cPL_balance 74 = .ok (.aload 4, 2) := by decide +kernel
theorem dPL_balance_76 : decode cPL_balance 76 = .ok (.aload 8, 2) := by decide +kernel
theorem dPL_balance_78 : decode cPL_balance 78 = .ok (.invokevirtual 133, 3) := by decide +kernel
theorem dPL_balance_81 : decode cPL_balance 81 = .ok (.invokevirtual 134, 3) := by decide +kernel
theorem dPL_balance_84 : decode cPL_balance 84 = .ok (.ladd, 1) := by decide +kernel
theorem dPL_balance_85 : decode cPL_balance 85 = .ok (.lstore 5, 2) := by decide +kernel
theorem dPL_balance_87 : decode cPL_balance 87 = .ok (.iinc 7 1, 3) := by decide +kernel
theorem dPL_balance_90 : decode cPL_balance 90 = .ok (.goto (-68), 3) := by decide +kernel
theorem dPL_balance_93 : decode cPL_balance 93 = .ok (.lload 5, 2) := by decide +kernel
theorem dPL_balance_95 : decode cPL_balance 95 = .ok (.lreturn, 1) := by decide +kernel
theorem dPL_close_0 : decode cPL_close 0 = .ok (.lload_n 1, 1) := by decide +kernel
theorem dPL_close_1 : decode cPL_close 1 = .ok (.invokestatic 45, 3) := by decide +kernel
theorem dPL_close_4 : decode cPL_close 4 = .ok (.ifCond .ne 6, 3) := by decide +kernel
theorem dPL_close_7 : decode cPL_close 7 = .ok (.ldc 30, 2) := by decide +kernel
theorem dPL_close_9 : decode cPL_close 9 = .ok (.ireturn, 1) := by decide +kernel
theorem dPL_close_10 : decode cPL_close 10 = .ok (.aload_n 0, 1) := by decide +kernel
theorem dPL_close_11 : decode cPL_close 11 = .ok (.lload_n 1, 1) := by decide +kernel
theorem dPL_close_12 : decode cPL_close 12 = .ok (.invokevirtual 49, 3) := by decide +kernel
theorem dPL_close_15 : decode cPL_close 15 = .ok (.ifCond .eq 5, 3) := by decide +kernel
theorem dPL_close_18 : decode cPL_close 18 = .ok (.iconst 0, 1) := by decide +kernel
theorem dPL_close_19 : decode cPL_close 19 = .ok (.ireturn, 1) := by decide +kernel
theorem dPL_close_20 : decode cPL_close 20 = .ok (.aload_n 0, 1) := by decide +kernel
theorem dPL_close_21 : decode cPL_close 21 = .ok (.getfield 19, 3) := by decide +kernel
theorem dPL_close_24 : decode cPL_close 24 = .ok (.istore_n 3, 1) := by decide +kernel
theorem dPL_close_25 : decode cPL_close 25 = .ok (.aload_n 0, 1) := by decide +kernel
theorem dPL_close_26 : decode cPL_close 26 = .ok (.lload_n 1, 1) := by decide +kernel
theorem dPL_close_27 : decode cPL_close 27 = .ok (.l2i, 1) := by decide +kernel
theorem dPL_close_28 : decode cPL_close 28 = .ok (.iconst 1, 1) := by decide +kernel
theorem dPL_close_29 : decode cPL_close 29 = .ok (.iadd, 1) := by decide +kernel
theorem dPL_close_30 : decode cPL_close 30 = .ok (.putfield 19, 3) := by decide +kernel
theorem dPL_close_33 : decode cPL_close 33 = .ok (.aload_n 0, 1) := by decide +kernel
theorem dPL_close_34 : decode cPL_close 34 = .ok (.getfield 19, 3) := by decide +kernel
theorem dPL_close_37 : decode cPL_close 37 = .ok (.iload_n 3, 1) := by decide +kernel
theorem dPL_close_38 : decode cPL_close 38 = .ok (.isub, 1) := by decide +kernel
theorem dPL_close_39 : decode cPL_close 39 = .ok (.ireturn, 1) := by decide +kernel
theorem dBA_hasRowNumber_0 : decode cBA_hasRowNumber 0 = .ok (.iload_n 1, 1) := by decide +kernel
theorem dBA_hasRowNumber_1 : decode cBA_hasRowNumber 1 = .ok (.aload_n 0, 1) := by decide +kernel
theorem dBA_hasRowNumber_2 : decode cBA_hasRowNumber 2 = .ok (.getfield 35, 3) := by decide +kernel
theorem dBA_hasRowNumber_5 : decode cBA_hasRowNumber 5 = .ok (.if_icmp .lt 23, 3) := by decide +kernel
theorem dBA_hasRowNumber_8 : decode cBA_hasRowNumber 8 = .ok (.iload_n 1, 1) := by decide +kernel
theorem dBA_hasRowNumber_9 : decode cBA_hasRowNumber 9 = .ok (.aload_n 0, 1) := by decide +kernel
theorem dBA_hasRowNumber_10 : decode cBA_hasRowNumber 10 = .ok (.getfield 35, 3) := by decide +kernel
theorem dBA_hasRowNumber_13 : decode cBA_hasRowNumber 13 = .ok (.aload_n 0, 1) := by decide +kernel
theorem dBA_hasRowNumber_14 : decode cBA_hasRowNumber 14 = .ok (.getfield 18, 3) := by decide +kernel
theorem dBA_hasRowNumber_17 : decode cBA_hasRowNumber 17 = .ok (.invokevirtual 31, 3) := by decide +kernel
theorem dBA_hasRowNumber_20 : decode cBA_hasRowNumber 20 = .ok (.iadd, 1) := by decide +kernel
theorem dBA_hasRowNumber_21 : decode cBA_hasRowNumber 21 = .ok (.if_icmp .ge 7, 3) := by decide +kernel
theorem dBA_hasRowNumber_24 : decode cBA_hasRowNumber 24 = .ok (.iconst 1, 1) := by decide +kernel
theorem dBA_hasRowNumber_25 : decode cBA_hasRowNumber 25 = .ok (.goto 4, 3) := by decide +kernel
theorem dBA_hasRowNumber_28 : decode cBA_hasRowNumber 28 = .ok (.iconst 0, 1) := by decide +kernel
theorem dBA_hasRowNumber_29 : decode cBA_hasRowNumber 29 = .ok (.ireturn, 1) := by decide +kernel
theorem dPL_findBatchOfRow_0 : decode cPL_findBatchOfRow 0 = .ok (.iconst 0, 1) := by decide +kernel
theorem dPL_findBatchOfRow_1 : decode cPL_findBatchOfRow 1 = .ok (.istore_n 2, 1) := by decide +kernel
theorem dPL_findBatchOfRow_2 : decode cPL_findBatchOfRow 2 = .ok (.iload_n 2, 1) := by decide +kernel
theorem dPL_findBatchOfRow_3 : decode cPL_findBatchOfRow 3 = .ok (.aload_n 0, 1) := by decide +kernel
theorem dPL_findBatchOfRow_4 : decode cPL_findBatchOfRow 4 = .ok (.getfield 16, 3) := by decide +kernel
theorem dPL_findBatchOfRow_7 : decode cPL_findBatchOfRow 7 = .ok (.invokevirtual 31, 3) := by decide +kernel
theorem dPL_findBatchOfRow_10 : decode cPL_findBatchOfRow 10 = .ok (.if_icmp .ge 41, 3) := by decide +kernel
theorem dPL_findBatchOfRow_13 : decode cPL_findBatchOfRow 13 = .ok (.aload_n 0, 1) := by decide +kernel
theorem dPL_findBatchOfRow_14 : decode cPL_findBatchOfRow 14 = .ok (.getfield 16, 3) := by decide +kernel
theorem dPL_findBatchOfRow_17 : decode cPL_findBatchOfRow 17 = .ok (.iload_n 2, 1) := by decide +kernel
theorem dPL_findBatchOfRow_18 : decode cPL_findBatchOfRow 18 = .ok (.invokevirtual 127, 3) := by decide +kernel
theorem dPL_findBatchOfRow_21 : decode cPL_findBatchOfRow 21 = .ok (.checkcast 57, 3) := by decide +kernel
theorem dPL_findBatchOfRow_24 : decode cPL_findBatchOfRow 24 = .ok (.astore_n 3, 1) := by decide +kernel
theorem dPL_findBatchOfRow_25 : decode cPL_findBatchOfRow 25 = .ok (.aload_n 3, 1) := by decide +kernel
theorem dPL_findBatchOfRow_26 : decode cPL_findBatchOfRow 26 = .ok (.getfield 112, 3) := by decide +kernel
theorem dPL_findBatchOfRow_29 : decode cPL_findBatchOfRow 29 = .ok (.getstatic 131, 3) := by decide +kernel
theorem dPL_findBatchOfRow_32 : decode cPL_findBatchOfRow 32 = .ok (.if_acmp .ne 13, 3) := by decide +kernel
theorem dPL_findBatchOfRow_35 : decode cPL_findBatchOfRow 35 = .ok (.aload_n 3, 1) := by decide +kernel
theorem dPL_findBatchOfRow_36 : decode cPL_findBatchOfRow 36 = .ok (.iload_n 1, 1) := by decide +kernel
theorem dPL_findBatchOfRow_37 : decode cPL_findBatchOfRow 37 = .ok (.invokevirtual 182, 3) := by decide +kernel
theorem dPL_findBatchOfRow_40 : decode cPL_findBatchOfRow 40 = .ok (.ifCond .eq 5, 3) := by decide +kernel
theorem dPL_findBatchOfRow_43 : decode cPL_findBatchOfRow 43 = .ok (.aload_n 3, 1) := by decide +kernel
theorem dPL_findBatchOfRow_44 : decode cPL_findBatchOfRow 44 = .ok (.areturn, 1) := by decide +kernel
theorem dPL_findBatchOfRow_45 : decode cPL_findBatchOfRow 45 = .ok (.iinc 2 1, 3) := by decide +kernel
theorem dPL_findBatchOfRow_48 : decode cPL_findBatchOfRow 48 = .ok (.goto (-46), 3) := by decide +kernel
theorem dPL_findBatchOfRow_51 : decode cPL_findBatchOfRow 51 = .ok (.aconst_null, 1) := by decide +kernel
theorem dPL_findBatchOfRow_52 : decode cPL_findBatchOfRow 52 = .ok (.areturn, 1) := by decide +kernel
theorem dBA_addRowsWithOtherSign_0 : decode cBA_addRowsWithOtherSign 0 = .ok (.aload_n 1, 1) := by decide +kernel
theorem dBA_addRowsWithOtherSign_1 : decode cBA_addRowsWithOtherSign 1 = .ok (.getfield 18, 3) := by decide +kernel
theorem dBA_addRowsWithOtherSign_4 : decode cBA_addRowsWithOtherSign 4 = .ok (.invokevirtual 31, 3) := by decide +kernel
theorem dBA_addRowsWithOtherSign_7 : decode cBA_addRowsWithOtherSign 7 = .ok (.istore_n 2, 1) := by decide +kernel
theorem dBA_addRowsWithOtherSign_8 : decode cBA_addRowsWithOtherSign 8 = .ok (.iconst 0, 1) := by decide +kernel
theorem dBA_addRowsWithOtherSign_9 : decode cBA_addRowsWithOtherSign 9 = .ok (.istore_n 3, 1) := by decide +kernel
theorem dBA_addRowsWithOtherSign_10 : decode cBA_addRowsWithOtherSign 10 = .ok (.iload_n 3, 1) := by decide +kernel
theorem dBA_addRowsWithOtherSign_11 : decode cBA_addRowsWithOtherSign 11 = .ok (.iload_n 2, 1) := by decide +kernel
theorem dBA_addRowsWithOtherSign_12 : decode cBA_addRowsWithOtherSign 12 = .ok (.if_icmp .ge 37, 3) := by decide +kernel
theorem dBA_addRowsWithOtherSign_15 : decode cBA_addRowsWithOtherSign 15 = .ok (.aload_n 1, 1) := by decide +kernel
theorem dBA_addRowsWithOtherSign_16 : decode cBA_addRowsWithOtherSign 16 = .ok (.getfield 18, 3) := by decide +kernel
theorem dBA_addRowsWithOtherSign_19 : decode cBA_addRowsWithOtherSign 19 = .ok (.iload_n 3, 1) := by decide +kernel
theorem dBA_addRowsWithOtherSign_20 : decode cBA_addRowsWithOtherSign 20 = .ok (.invokevirtual 47, 3) := by decide +kernel
theorem dBA_addRowsWithOtherSign_23 : decode cBA_addRowsWithOtherSign 23 = .ok (.checkcast 38, 3) := by decide +kernel
theorem dBA_addRowsWithOtherSign_26 : decode cBA_addRowsWithOtherSign 26 = .ok (.astore 4, 2) := by decide +kernel
theorem dBA_addRowsWithOtherSign_28 : decode cBA_addRowsWithOtherSign 28 = .ok (.aload_n 0, 1) := by decide +kernel
theorem dBA_addRowsWithOtherSign_29 : decode cBA_addRowsWithOtherSign 29 = .ok (.aload 4, 2) := by decide +kernel
theorem dBA_addRowsWithOtherSign_31 : decode cBA_addRowsWithOtherSign 31 = .ok (.getfield 51, 3) := by decide +kernel
theorem dBA_addRowsWithOtherSign_34 : decode cBA_addRowsWithOtherSign 34 = .ok (.aload 4, 2) := by decide +kernel
theorem dBA_addRowsWithOtherSign_36 : decode cBA_addRowsWithOtherSign 36 = .ok (.getfield 55, 3) := by decide +kernel
theorem dBA_addRowsWithOtherSign_39 : decode cBA_addRowsWithOtherSign 39 = .ok (.lneg, 1) := by decide +kernel
theorem dBA_addRowsWithOtherSign_40 : decode cBA_addRowsWithOtherSign 40 = .ok (.invokevirtual 59, 3) := by decide +kernel
theorem dBA_addRowsWithOtherSign_43 : decode cBA_addRowsWithOtherSign 43 = .ok (.iinc 3 1, 3) := by decide +kernel
theorem dBA_addRowsWithOtherSign_46 : decode cBA_addRowsWithOtherSign 46 = .ok (.goto (-36), 3) := by decide +kernel
theorem dBA_addRowsWithOtherSign_49 : decode cBA_addRowsWithOtherSign 49 = .ok (.return_, 1) := by decide +kernel
theorem dBA_addToTotals_0 : decode cBA_addToTotals 0 = .ok (.iconst 0, 1) := by decide +kernel
theorem dBA_addToTotals_1 : decode cBA_addToTotals 1 = .ok (.istore_n 1, 1) := by decide +kernel
theorem dBA_addToTotals_2 : decode cBA_addToTotals 2 = .ok (.iload_n 1, 1) := by decide +kernel
theorem dBA_addToTotals_3 : decode cBA_addToTotals 3 = .ok (.aload_n 0, 1) := by decide +kernel
theorem dBA_addToTotals_4 : decode cBA_addToTotals 4 = .ok (.getfield 18, 3) := by decide +kernel
theorem dBA_addToTotals_7 : decode cBA_addToTotals 7 = .ok (.invokevirtual 31, 3) := by decide +kernel
theorem dBA_addToTotals_10 : decode cBA_addToTotals 10 = .ok (.if_icmp .ge 37, 3) := by decide +kernel
theorem dBA_addToTotals_13 : decode cBA_addToTotals 13 = .ok (.aload_n 0, 1) := by decide +kernel
theorem dBA_addToTotals_14 : decode cBA_addToTotals 14 = .ok (.getfield 18, 3) := by decide +kernel
theorem dBA_addToTotals_17 : decode cBA_addToTotals 17 = .ok (.iload_n 1, 1) := by decide +kernel
theorem dBA_addToTotals_18 : decode cBA_addToTotals 18 = .ok (.invokevirtual 47, 3) := by decide +kernel
theorem dBA_addToTotals_21 : decode cBA_addToTotals 21 = .ok (.checkcast 38, 3) := by decide +kernel
theorem dBA_addToTotals_24 : decode cBA_addToTotals 24 = .ok (.astore_n 2, 1) := by decide +kernel
theorem dBA_addToTotals_25 : decode cBA_addToTotals 25 = .ok (.aload_n 2, 1) := by decide +kernel
theorem dBA_addToTotals_26 : decode cBA_addToTotals 26 = .ok (.getfield 51, 3) := by decide +kernel
theorem dBA_addToTotals_29 : decode cBA_addToTotals 29 = .ok (.dup, 1) := by decide +kernel
theorem dBA_addToTotals_30 : decode cBA_addToTotals 30 = .ok (.getfield 62, 3) := by decide +kernel
theorem dBA_addToTotals_33 : decode cBA_addToTotals 33 = .ok (.aload_n 2, 1) := by decide +kernel
theorem dBA_addToTotals_34 : decode cBA_addToTotals 34 = .ok (.getfield 55, 3) := by decide +kernel
theorem dBA_addToTotals_37 : decode cBA_addToTotals 37 = .ok (.ladd, 1) := by decide +kernel
theorem dBA_addToTotals_38 : decode cBA_addToTotals 38 = .ok (.putfield 62, 3) := by decide +kernel
theorem dBA_addToTotals_41 : decode cBA_addToTotals 41 = .ok (.iinc 1 1, 3) := by decide +kernel
theorem dBA_addToTotals_44 : decode cBA_addToTotals 44 = .ok (.goto (-42), 3) := by decide +kernel
theorem dBA_addToTotals_47 : decode cBA_addToTotals 47 = .ok (.return_, 1) := by decide +kernel
theorem dPL_enterIntoBooks_0 : decode cPL_enterIntoBooks 0 = .ok (.aload_n 1, 1) := by decide +kernel
theorem dPL_enterIntoBooks_1 : decode cPL_enterIntoBooks 1 = .ok (.getstatic 131, 3) := by decide +kernel
theorem dPL_enterIntoBooks_4 : decode cPL_enterIntoBooks 4 = .ok (.putfield 112, 3) := by decide +kernel
theorem dPL_enterIntoBooks_7 : decode cPL_enterIntoBooks 7 = .ok (.aload_n 1, 1) := by decide +kernel
theorem dPL_enterIntoBooks_8 : decode cPL_enterIntoBooks 8 = .ok (.aload_n 0, 1) := by decide +kernel
theorem dPL_enterIntoBooks_9 : decode cPL_enterIntoBooks 9 = .ok (.getfield 23, 3) := by decide +kernel
theorem dPL_enterIntoBooks_12 : decode cPL_enterIntoBooks 12 = .ok (.iconst 1, 1) := by decide +kernel
theorem dPL_enterIntoBooks_13 : decode cPL_enterIntoBooks 13 = .ok (.iadd, 1) := by decide +kernel
theorem dPL_enterIntoBooks_14 : decode cPL_enterIntoBooks 14 = .ok (.putfield 189, 3) := by decide +kernel
theorem dPL_enterIntoBooks_17 : decode cPL_enterIntoBooks 17 = .ok (.aload_n 0, 1) := by decide +kernel
theorem dPL_enterIntoBooks_18 : decode cPL_enterIntoBooks 18 = .ok (.dup, 1) := by decide +kernel
theorem dPL_enterIntoBooks_19 : decode cPL_enterIntoBooks 19 = .ok (.getfield 23, 3) := by decide +kernel
theorem dPL_enterIntoBooks_22 : decode cPL_enterIntoBooks 22 = .ok (.aload_n 1, 1) := by decide +kernel
theorem dPL_enterIntoBooks_23 : decode cPL_enterIntoBooks 23 = .ok (.invokevirtual 133, 3) := by decide +kernel
theorem dPL_enterIntoBooks_26 : decode cPL_enterIntoBooks 26 = .ok (.iadd, 1) := by decide +kernel
theorem dPL_enterIntoBooks_27 : decode cPL_enterIntoBooks 27 = .ok (.putfield 23, 3) := by decide +kernel
theorem dPL_enterIntoBooks_30 : decode cPL_enterIntoBooks 30 = .ok (.aload_n 1, 1) := by decide +kernel
theorem dPL_enterIntoBooks_31 : decode cPL_enterIntoBooks 31 = .ok (.invokevirtual 192, 3) := by decide +kernel
theorem dPL_enterIntoBooks_34 : decode cPL_enterIntoBooks 34 = .ok (.return_, 1) := by decide +kernel
theorem dPL_reverse_0 : decode cPL_reverse 0 = .ok (.aload_n 0, 1) := by decide +kernel
theorem dPL_reverse_1 : decode cPL_reverse 1 = .ok (.iload_n 1, 1) := by decide +kernel
theorem dPL_reverse_2 : decode cPL_reverse 2 = .ok (.invokevirtual 138, 3) := by decide +kernel
theorem dPL_reverse_5 : decode cPL_reverse 5 = .ok (.astore_n 2, 1) := by decide +kernel
theorem dPL_reverse_6 : decode cPL_reverse 6 = .ok (.aload_n 2, 1) := by decide +kernel
theorem dPL_reverse_7 : decode cPL_reverse 7 = .ok (.ifnull 10, 3) := by decide +kernel
theorem dPL_reverse_10 : decode cPL_reverse 10 = .ok (.aload_n 2, 1) := by decide +kernel
theorem dPL_reverse_11 : decode cPL_reverse 11 = .ok (.getfield 141, 3) := by decide +kernel
theorem dPL_reverse_14 : decode cPL_reverse 14 = .ok (.ifCond .eq 5, 3) := by decide +kernel
theorem dPL_reverse_17 : decode cPL_reverse 17 = .ok (.iconst 0, 1) := by decide +kernel
theorem dPL_reverse_18 : decode cPL_reverse 18 = .ok (.ireturn, 1) := by decide +kernel
theorem dPL_reverse_19 : decode cPL_reverse 19 = .ok (.aload_n 0, 1) := by decide +kernel
theorem dPL_reverse_20 : decode cPL_reverse 20 = .ok (.invokevirtual 53, 3) := by decide +kernel
theorem dPL_reverse_23 : decode cPL_reverse 23 = .ok (.ifCond .ne 6, 3) := by decide +kernel
theorem dPL_reverse_26 : decode cPL_reverse 26 = .ok (.ldc 35, 2) := by decide +kernel
theorem dPL_reverse_28 : decode cPL_reverse 28 = .ok (.ireturn, 1) := by decide +kernel
theorem dPL_reverse_29 : decode cPL_reverse 29 = .ok (.new 57, 3) := by decide +kernel
theorem dPL_reverse_32 : decode cPL_reverse 32 = .ok (.dup, 1) := by decide +kernel
theorem dPL_reverse_33 : decode cPL_reverse 33 = .ok (.aload_n 2, 1) := by decide +kernel
theorem dPL_reverse_34 : decode cPL_reverse 34 = .ok (.getfield 89, 3) := by decide +kernel
theorem dPL_reverse_37 : decode cPL_reverse 37 = .ok (.aload_n 0, 1) := by decide +kernel
theorem dPL_reverse_38 : decode cPL_reverse 38 = .ok (.getfield 19, 3) := by decide +kernel
theorem dPL_reverse_41 : decode cPL_reverse 41 = .ok (.invokestatic 145, 3) := by decide +kernel
theorem dPL_reverse_44 : decode cPL_reverse 44 = .ok (.invokespecial 59, 3) := by decide +kernel
theorem dPL_reverse_47 : decode cPL_reverse 47 = .ok (.astore_n 3, 1) := by decide +kernel
theorem dPL_reverse_48 : decode cPL_reverse 48 = .ok (.aload_n 3, 1) := by decide +kernel
theorem dPL_reverse_49 : decode cPL_reverse 49 = .ok (.aload_n 2, 1) := by decide +kernel
theorem dPL_reverse_50 : decode cPL_reverse 50 = .ok (.invokevirtual 151, 3) := by decide +kernel
theorem dPL_reverse_53 : decode cPL_reverse 53 = .ok (.aload_n 2, 1) := by decide +kernel
theorem dPL_reverse_54 : decode cPL_reverse 54 = .ok (.iconst 1, 1) := by decide +kernel
theorem dPL_reverse_55 : decode cPL_reverse 55 = .ok (.putfield 141, 3) := by decide +kernel
theorem dPL_reverse_58 : decode cPL_reverse 58 = .ok (.aload_n 3, 1) := by decide +kernel
theorem dPL_reverse_59 : decode cPL_reverse 59 = .ok (.iconst 1, 1) := by decide +kernel
theorem dPL_reverse_60 : decode cPL_reverse 60 = .ok (.putfield 141, 3) := by decide +kernel
theorem dPL_reverse_63 : decode cPL_reverse 63 = .ok (.aload_n 0, 1) := by decide +kernel
theorem dPL_reverse_64 : decode cPL_reverse 64 = .ok (.getfield 16, 3) := by decide +kernel
theorem dPL_reverse_67 : decode cPL_reverse 67 = .ok (.aload_n 3, 1) := by decide +kernel
theorem dPL_reverse_68 : decode cPL_reverse 68 = .ok (.invokevirtual 41, 3) := by decide +kernel
theorem dPL_reverse_71 : decode cPL_reverse 71 = .ok (.pop, 1) := by decide +kernel
theorem dPL_reverse_72 : decode cPL_reverse 72 = .ok (.aload_n 0, 1) := by decide +kernel
theorem dPL_reverse_73 : decode cPL_reverse 73 = .ok (.aload_n 3, 1) := by decide +kernel
theorem dPL_reverse_74 : decode cPL_reverse 74 = .ok (.invokevirtual 102, 3) := by decide +kernel
theorem dPL_reverse_77 : decode cPL_reverse 77 = .ok (.iconst 1, 1) := by decide +kernel
theorem dPL_reverse_78 : decode cPL_reverse 78 = .ok (.ireturn, 1) := by decide +kernel
theorem dAC_isOfKind_0 : decode cAC_isOfKind 0 = .ok (.aload_n 0, 1) := by decide +kernel
theorem dAC_isOfKind_1 : decode cAC_isOfKind 1 = .ok (.getfield 7, 3) := by decide +kernel
theorem dAC_isOfKind_4 : decode cAC_isOfKind 4 = .ok (.iload_n 1, 1) := by decide +kernel
theorem dAC_isOfKind_5 : decode cAC_isOfKind 5 = .ok (.if_icmp .ne 15, 3) := by decide +kernel
theorem dAC_isOfKind_8 : decode cAC_isOfKind 8 = .ok (.aload_n 0, 1) := by decide +kernel
theorem dAC_isOfKind_9 : decode cAC_isOfKind 9 = .ok (.getfield 13, 3) := by decide +kernel
theorem dAC_isOfKind_12 : decode cAC_isOfKind 12 = .ok (.iload_n 2, 1) := by decide +kernel
theorem dAC_isOfKind_13 : decode cAC_isOfKind 13 = .ok (.if_icmp .ne 7, 3) := by decide +kernel
theorem dAC_isOfKind_16 : decode cAC_isOfKind 16 = .ok (.iconst 1, 1) := by decide +kernel
theorem dAC_isOfKind_17 : decode cAC_isOfKind 17 = .ok (.goto 4, 3) := by decide +kernel
theorem dAC_isOfKind_20 : decode cAC_isOfKind 20 = .ok (.iconst 0, 1) := by decide +kernel
theorem dAC_isOfKind_21 : decode cAC_isOfKind 21 = .ok (.ireturn, 1) := by decide +kernel
theorem dPL_totalOfKind_0 : decode cPL_totalOfKind 0 = .ok (.lconst 0, 1) := by decide +kernel
theorem dPL_totalOfKind_1 : decode cPL_totalOfKind 1 = .ok (.lstore_n 3, 1) := by decide +kernel
theorem dPL_totalOfKind_2 : decode cPL_totalOfKind 2 = .ok (.iconst 0, 1) := by decide +kernel
theorem dPL_totalOfKind_3 : decode cPL_totalOfKind 3 = .ok (.istore 5, 2) := by decide +kernel
theorem dPL_totalOfKind_5 : decode cPL_totalOfKind 5 = .ok (.iload 5, 2) := by decide +kernel
theorem dPL_totalOfKind_7 : decode cPL_totalOfKind 7 = .ok (.aload_n 0, 1) := by decide +kernel
theorem dPL_totalOfKind_8 : decode cPL_totalOfKind 8 = .ok (.getfield 10, 3) := by decide +kernel
theorem dPL_totalOfKind_11 : decode cPL_totalOfKind 11 = .ok (.invokevirtual 31, 3) := by decide +kernel
theorem dPL_totalOfKind_14 : decode cPL_totalOfKind 14 = .ok (.if_icmp .ge 41, 3) := by decide +kernel
theorem dPL_totalOfKind_17 : decode cPL_totalOfKind 17 = .ok (.aload_n 0, 1) := by decide +kernel
theorem dPL_totalOfKind_18 : decode cPL_totalOfKind 18 = .ok (.getfield 10, 3) := by decide +kernel
theorem dPL_totalOfKind_21 : decode cPL_totalOfKind 21 = .ok (.iload 5, 2) := by decide +kernel
theorem dPL_totalOfKind_23 : decode cPL_totalOfKind 23 = .ok (.invokevirtual 127, 3) := by decide +kernel
theorem dPL_totalOfKind_26 : decode cPL_totalOfKind 26 = .ok (.checkcast 36, 3) := by decide +kernel
theorem dPL_totalOfKind_29 : decode cPL_totalOfKind 29 = .ok (.astore 6, 2) := by decide +kernel
theorem dPL_totalOfKind_31 : decode cPL_totalOfKind 31 = .ok (.aload 6, 2) := by decide +kernel
theorem dPL_totalOfKind_33 : decode cPL_totalOfKind 33 = .ok (.iload_n 1, 1) := by decide +kernel
theorem dPL_totalOfKind_34 : decode cPL_totalOfKind 34 = .ok (.iload_n 2, 1) := by decide +kernel
theorem dPL_totalOfKind_35 : decode cPL_totalOfKind 35 = .ok (.invokevirtual 185, 3) := by decide +kernel
theorem dPL_totalOfKind_38 : decode cPL_totalOfKind 38 = .ok (.ifCond .eq 11, 3) := by decide +kernel
theorem dPL_totalOfKind_41 : decode cPL_totalOfKind 41 = .ok (.lload_n 3, 1) := by decide +kernel
theorem dPL_totalOfKind_42 : decode cPL_totalOfKind 42 = .ok (.aload 6, 2) := by decide +kernel
theorem dPL_totalOfKind_44 : decode cPL_totalOfKind 44 = .ok (.getfield 176, 3) := by decide +kernel
theorem dPL_totalOfKind_47 : decode cPL_totalOfKind 47 = .ok (.ladd, 1) := by decide +kernel
theorem dPL_totalOfKind_48 : decode cPL_totalOfKind 48 = .ok (.lstore_n 3, 1) := by decide +kernel
theorem dPL_totalOfKind_49 : decode cPL_totalOfKind 49 = .ok (.iinc 5 1, 3) := by decide +kernel
theorem dPL_totalOfKind_52 : decode cPL_totalOfKind 52 = .ok (.goto (-47), 3) := by decide +kernel
theorem dPL_totalOfKind_55 : decode cPL_totalOfKind 55 = .ok (.lload_n 3, 1) := by decide +kernel
theorem dPL_totalOfKind_56 : decode cPL_totalOfKind 56 = .ok (.lreturn, 1) := by decide +kernel
theorem dPL_firstOfKind_0 : decode cPL_firstOfKind 0 = .ok (.iconst 0, 1) := by decide +kernel
theorem dPL_firstOfKind_1 : decode cPL_firstOfKind 1 = .ok (.istore_n 3, 1) := by decide +kernel
theorem dPL_firstOfKind_2 : decode cPL_firstOfKind 2 = .ok (.iload_n 3, 1) := by decide +kernel
theorem dPL_firstOfKind_3 : decode cPL_firstOfKind 3 = .ok (.aload_n 0, 1) := by decide +kernel
theorem dPL_firstOfKind_4 : decode cPL_firstOfKind 4 = .ok (.getfield 10, 3) := by decide +kernel
theorem dPL_firstOfKind_7 : decode cPL_firstOfKind 7 = .ok (.invokevirtual 31, 3) := by decide +kernel
theorem dPL_firstOfKind_10 : decode cPL_firstOfKind 10 = .ok (.if_icmp .ge 35, 3) := by decide +kernel
theorem dPL_firstOfKind_13 : decode cPL_firstOfKind 13 = .ok (.aload_n 0, 1) := by decide +kernel
theorem dPL_firstOfKind_14 : decode cPL_firstOfKind 14 = .ok (.getfield 10, 3) := by decide +kernel
theorem dPL_firstOfKind_17 : decode cPL_firstOfKind 17 = .ok (.iload_n 3, 1) := by decide +kernel
theorem dPL_firstOfKind_18 : decode cPL_firstOfKind 18 = .ok (.invokevirtual 127, 3) := by decide +kernel
theorem dPL_firstOfKind_21 : decode cPL_firstOfKind 21 = .ok (.checkcast 36, 3) := by decide +kernel
theorem dPL_firstOfKind_24 : decode cPL_firstOfKind 24 = .ok (.astore 4, 2) := by decide +kernel
theorem dPL_firstOfKind_26 : decode cPL_firstOfKind 26 = .ok (.aload 4, 2) := by decide +kernel
theorem dPL_firstOfKind_28 : decode cPL_firstOfKind 28 = .ok (.iload_n 1, 1) := by decide +kernel
theorem dPL_firstOfKind_29 : decode cPL_firstOfKind 29 = .ok (.iload_n 2, 1) := by decide +kernel
theorem dPL_firstOfKind_30 : decode cPL_firstOfKind 30 = .ok (.invokevirtual 185, 3) := by decide +kernel
theorem dPL_firstOfKind_33 : decode cPL_firstOfKind 33 = .ok (.ifCond .eq 6, 3) := by decide +kernel
theorem dPL_firstOfKind_36 : decode cPL_firstOfKind 36 = .ok (.aload 4, 2) := by decide +kernel
theorem dPL_firstOfKind_38 : decode cPL_firstOfKind 38 = .ok (.areturn, 1) := by decide +kernel
theorem dPL_firstOfKind_39 : decode cPL_firstOfKind 39 = .ok (.iinc 3 1, 3) := by decide +kernel
theorem dPL_firstOfKind_42 : decode cPL_firstOfKind 42 = .ok (.goto (-40), 3) := by decide +kernel
theorem dPL_firstOfKind_45 : decode cPL_firstOfKind 45 = .ok (.aconst_null, 1) := by decide +kernel
theorem dPL_firstOfKind_46 : decode cPL_firstOfKind 46 = .ok (.areturn, 1) := by decide +kernel
theorem dPL_stock_0 : decode cPL_stock 0 = .ok (.iload_n 1, 1) := by decide +kernel
theorem dPL_stock_1 : decode cPL_stock 1 = .ok (.invokestatic 26, 3) := by decide +kernel
theorem dPL_stock_4 : decode cPL_stock 4 = .ok (.ifCond .eq 25, 3) := by decide +kernel
theorem dPL_stock_7 : decode cPL_stock 7 = .ok (.iload_n 2, 1) := by decide +kernel
theorem dPL_stock_8 : decode cPL_stock 8 = .ok (.ifCond .lt 21, 3) := by decide +kernel
theorem dPL_stock_11 : decode cPL_stock 11 = .ok (.iload_n 2, 1) := by decide +kernel
theorem dPL_stock_12 : decode cPL_stock 12 = .ok (.iconst 5, 1) := by decide +kernel
theorem dPL_stock_13 : decode cPL_stock 13 = .ok (.if_icmp .ge 16, 3) := by decide +kernel
theorem dPL_stock_16 : decode cPL_stock 16 = .ok (.lload_n 3, 1) := by decide +kernel
theorem dPL_stock_17 : decode cPL_stock 17 = .ok (.ldc2_w 76, 3) := by decide +kernel
theorem dPL_stock_20 : decode cPL_stock 20 = .ok (.ldc2_w 78, 3) := by decide +kernel
theorem dPL_stock_23 : decode cPL_stock 23 = .ok (.invokestatic 80, 3) := by decide +kernel
theorem dPL_stock_26 : decode cPL_stock 26 = .ok (.ifCond .ne 6, 3) := by decide +kernel
theorem dPL_stock_29 : decode cPL_stock 29 = .ok (.ldc 30, 2) := by decide +kernel
theorem dPL_stock_31 : decode cPL_stock 31 = .ok (.ireturn, 1) := by decide +kernel
theorem dPL_stock_32 : decode cPL_stock 32 = .ok (.lload_n 3, 1) := by decide +kernel
theorem dPL_stock_33 : decode cPL_stock 33 = .ok (.aload_n 0, 1) := by decide +kernel
theorem dPL_stock_34 : decode cPL_stock 34 = .ok (.iload_n 1, 1) := by decide +kernel
theorem dPL_stock_35 : decode cPL_stock 35 = .ok (.iload_n 2, 1) := by decide +kernel
theorem dPL_stock_36 : decode cPL_stock 36 = .ok (.invokevirtual 154, 3) := by decide +kernel
theorem dPL_stock_39 : decode cPL_stock 39 = .ok (.lsub, 1) := by decide +kernel
theorem dPL_stock_40 : decode cPL_stock 40 = .ok (.lstore 5, 2) := by decide +kernel
theorem dPL_stock_42 : decode cPL_stock 42 = .ok (.lload 5, 2) := by decide +kernel
theorem dPL_stock_44 : decode cPL_stock 44 = .ok (.lconst 0, 1) := by decide +kernel
theorem dPL_stock_45 : decode cPL_stock 45 = .ok (.lcmp, 1) := by decide +kernel
theorem dPL_stock_46 : decode cPL_stock 46 = .ok (.ifCond .ne 5, 3) := by decide +kernel
theorem dPL_stock_49 : decode cPL_stock 49 = .ok (.iconst 0, 1) := by decide +kernel
theorem dPL_stock_50 : decode cPL_stock 50 = .ok (.ireturn, 1) := by decide +kernel
theorem dPL_stock_51 : decode cPL_stock 51 = .ok (.aload_n 0, 1) := by decide +kernel
theorem dPL_stock_52 : decode cPL_stock 52 = .ok (.iload_n 1, 1) := by decide +kernel
theorem dPL_stock_53 : decode cPL_stock 53 = .ok (.iload_n 2, 1) := by decide +kernel
theorem dPL_stock_54 : decode cPL_stock 54 = .ok (.invokevirtual 158, 3) := by decide +kernel
theorem dPL_stock_57 : decode cPL_stock 57 = .ok (.astore 7, 2) := by decide +kernel
theorem dPL_stock_59 : decode cPL_stock 59 = .ok (.aload_n 0, 1) := by decide +kernel
theorem dPL_stock_60 : decode cPL_stock 60 = .ok (.iload_n 1, 1) := by decide +kernel
theorem dPL_stock_61 : decode cPL_stock 61 = .ok (.iconst 5, 1) := by decide +kernel
theorem dPL_stock_62 : decode cPL_stock 62 = .ok (.invokevirtual 158, 3) := by decide +kernel
theorem dPL_stock_65 : decode cPL_stock 65 = .ok (.astore 8, 2) := by decide +kernel
theorem dPL_stock_67 : decode cPL_stock 67 = .ok (.aload 7, 2) := by decide +kernel
theorem dPL_stock_69 : decode cPL_stock 69 = .ok (.ifnull 22, 3) := by decide +kernel
theorem dPL_stock_72 : decode cPL_stock 72 = .ok (.aload 8, 2) := by decide +kernel
theorem dPL_stock_74 : decode cPL_stock 74 = .ok (.ifnull 17, 3) := by decide +kernel
theorem dPL_stock_77 : decode cPL_stock 77 = .ok (.lload 5, 2) := by decide +kernel
theorem dPL_stock_79 : decode cPL_stock 79 = .ok (.ldc2_w 162, 3) := by decide +kernel
theorem dPL_stock_82 : decode cPL_stock 82 = .ok (.ldc2_w 164, 3) := by decide +kernel
theorem dPL_stock_85 : decode cPL_stock 85 = .ok (.invokestatic 80, 3) := by decide +kernel
theorem dPL_stock_88 : decode cPL_stock 88 = .ok (.ifCond .ne 6, 3) := by decide +kernel
theorem dPL_stock_91 : decode cPL_stock 91 = .ok (.ldc 52, 2) := by decide +kernel
theorem dPL_stock_93 : decode cPL_stock 93 = .ok (.ireturn, 1) := by decide +kernel
theorem dPL_stock_94 : decode cPL_stock 94 = .ok (.aload_n 0, 1) := by decide +kernel
theorem dPL_stock_95 : decode cPL_stock 95 = .ok (.invokevirtual 53, 3) := by decide +kernel
theorem dPL_stock_98 : decode cPL_stock 98 = .ok (.ifCond .ne 6, 3) := by decide +kernel
theorem dPL_stock_101 : decode cPL_stock 101 = .ok (.ldc 35, 2) := by decide +kernel
theorem dPL_stock_103 : decode cPL_stock 103 = .ok (.ireturn, 1) := by decide +kernel
theorem dPL_stock_104 : decode cPL_stock 104 = .ok (.new 57, 3) := by decide +kernel
theorem dPL_stock_107 : decode cPL_stock 107 = .ok (.dup, 1) := by decide +kernel
theorem dPL_stock_108 : decode cPL_stock 108 = .ok (.aload_n 0, 1) := by decide +kernel
theorem dPL_stock_109 : decode cPL_stock 109 = .ok (.getfield 19, 3) := by decide +kernel
theorem dPL_stock_112 : decode cPL_stock 112 = .ok (.invokespecial 59, 3) := by decide +kernel
theorem dPL_stock_115 : decode cPL_stock 115 = .ok (.astore 9, 2) := by decide +kernel
theorem dPL_stock_117 : decode cPL_stock 117 = .ok (.aload 9, 2) := by decide +kernel
theorem dPL_stock_119 : decode cPL_stock 119 = .ok (.aload 7, 2) := by decide +kernel
theorem dPL_stock_121 : decode cPL_stock 121 = .ok (.lload 5, 2) := by decide +kernel
theorem dPL_stock_123 : decode cPL_stock 123 = .ok (.invokevirtual 84, 3) := by decide +kernel
theorem dPL_stock_126 : decode cPL_stock 126 = .ok (.aload 9, 2) := by decide +kernel
theorem dPL_stock_128 : decode cPL_stock 128 = .ok (.aload 8, 2) := by decide +kernel
theorem dPL_stock_130 : decode cPL_stock 130 = .ok (.lload 5, 2) := by decide +kernel
theorem dPL_stock_132 : decode cPL_stock 132 = .ok (.lneg, 1) := by decide +kernel
theorem dPL_stock_133 : decode cPL_stock 133 = .ok (.invokevirtual 84, 3) := by decide +kernel
theorem dPL_stock_136 : decode cPL_stock 136 = .ok (.aload_n 0, 1) := by decide +kernel
theorem dPL_stock_137 : decode cPL_stock 137 = .ok (.getfield 16, 3) := by decide +kernel
theorem dPL_stock_140 : decode cPL_stock 140 = .ok (.aload 9, 2) := by decide +kernel
theorem dPL_stock_142 : decode cPL_stock 142 = .ok (.invokevirtual 41, 3) := by decide +kernel
theorem dPL_stock_145 : decode cPL_stock 145 = .ok (.pop, 1) := by decide +kernel
theorem dPL_stock_146 : decode cPL_stock 146 = .ok (.aload_n 0, 1) := by decide +kernel
theorem dPL_stock_147 : decode cPL_stock 147 = .ok (.aload 9, 2) := by decide +kernel
theorem dPL_stock_149 : decode cPL_stock 149 = .ok (.invokevirtual 102, 3) := by decide +kernel
theorem dPL_stock_152 : decode cPL_stock 152 = .ok (.lload 5, 2) := by decide +kernel
theorem dPL_stock_154 : decode cPL_stock 154 = .ok (.l2i, 1) := by decide +kernel
theorem dPL_stock_155 : decode cPL_stock 155 = .ok (.ireturn, 1) := by decide +kernel
theorem dPL_limit_0 : decode cPL_limit 0 = .ok (.aload_n 0, 1) := by decide +kernel
theorem dPL_limit_1 : decode cPL_limit 1 = .ok (.iload_n 1, 1) := by decide +kernel
theorem dPL_limit_2 : decode cPL_limit 2 = .ok (.invokevirtual 66, 3) := by decide +kernel
theorem dPL_limit_5 : decode cPL_limit 5 = .ok (.astore 4, 2) := by decide +kernel
theorem dPL_limit_7 : decode cPL_limit 7 = .ok (.aload 4, 2) := by decide +kernel
theorem dPL_limit_9 : decode cPL_limit 9 = .ok (.ifnonnull 6, 3) := by decide +kernel
theorem dPL_limit_12 : decode cPL_limit 12 = .ok (.ldc 88, 2) := by decide +kernel
theorem dPL_limit_14 : decode cPL_limit 14 = .ok (.ireturn, 1) := by decide +kernel
theorem dPL_limit_15 : decode cPL_limit 15 = .ok (.lload_n 2, 1) := by decide +kernel
theorem dPL_limit_16 : decode cPL_limit 16 = .ok (.lconst 0, 1) := by decide +kernel
theorem dPL_limit_17 : decode cPL_limit 17 = .ok (.ldc2_w 78, 3) := by decide +kernel
theorem dPL_limit_20 : decode cPL_limit 20 = .ok (.invokestatic 80, 3) := by decide +kernel
theorem dPL_limit_23 : decode cPL_limit 23 = .ok (.ifCond .ne 6, 3) := by decide +kernel
theorem dPL_limit_26 : decode cPL_limit 26 = .ok (.ldc 30, 2) := by decide +kernel
theorem dPL_limit_28 : decode cPL_limit 28 = .ok (.ireturn, 1) := by decide +kernel
theorem dPL_limit_29 : decode cPL_limit 29 = .ok (.aload 4, 2) := by decide +kernel
theorem dPL_limit_31 : decode cPL_limit 31 = .ok (.getfield 166, 3) := by decide +kernel
theorem dPL_limit_34 : decode cPL_limit 34 = .ok (.istore 5, 2) := by decide +kernel
theorem dPL_limit_36 : decode cPL_limit 36 = .ok (.aload 4, 2) := by decide +kernel
theorem dPL_limit_38 : decode cPL_limit 38 = .ok (.lload_n 2, 1) := by decide +kernel
theorem dPL_limit_39 : decode cPL_limit 39 = .ok (.l2i, 1) := by decide +kernel
theorem dPL_limit_40 : decode cPL_limit 40 = .ok (.putfield 166, 3) := by decide +kernel
theorem dPL_limit_43 : decode cPL_limit 43 = .ok (.iload 5, 2) := by decide +kernel
theorem dPL_limit_45 : decode cPL_limit 45 = .ok (.ireturn, 1) := by decide +kernel
theorem dPL_fails_0 : decode cPL_fails 0 = .ok (.aload_n 0, 1) := by decide +kernel
theorem dPL_fails_1 : decode cPL_fails 1 = .ok (.iload_n 1, 1) := by decide +kernel
theorem dPL_fails_2 : decode cPL_fails 2 = .ok (.invokevirtual 62, 3) := by decide +kernel
theorem dPL_fails_5 : decode cPL_fails 5 = .ok (.astore_n 3, 1) := by decide +kernel
theorem dPL_fails_6 : decode cPL_fails 6 = .ok (.aload_n 3, 1) := by decide +kernel
theorem dPL_fails_7 : decode cPL_fails 7 = .ok (.ifnull 18, 3) := by decide +kernel
theorem dPL_fails_10 : decode cPL_fails 10 = .ok (.aload_n 3, 1) := by decide +kernel
theorem dPL_fails_11 : decode cPL_fails 11 = .ok (.invokevirtual 70, 3) := by decide +kernel
theorem dPL_fails_14 : decode cPL_fails 14 = .ok (.ifCond .eq 11, 3) := by decide +kernel
theorem dPL_fails_17 : decode cPL_fails 17 = .ok (.aload_n 3, 1) := by decide +kernel
theorem dPL_fails_18 : decode cPL_fails 18 = .ok (.getfield 169, 3) := by decide +kernel
theorem dPL_fails_21 : decode cPL_fails 21 = .ok (.iload_n 2, 1) := by decide +kernel
theorem dPL_fails_22 : decode cPL_fails 22 = .ok (.if_icmp .ne 5, 3) := by decide +kernel
theorem dPL_fails_25 : decode cPL_fails 25 = .ok (.iconst 0, 1) := by decide +kernel
theorem dPL_fails_26 : decode cPL_fails 26 = .ok (.ireturn, 1) := by decide +kernel
theorem dPL_fails_27 : decode cPL_fails 27 = .ok (.aload_n 3, 1) := by decide +kernel
theorem dPL_fails_28 : decode cPL_fails 28 = .ok (.iload_n 2, 1) := by decide +kernel
theorem dPL_fails_29 : decode cPL_fails 29 = .ok (.putfield 169, 3) := by decide +kernel
theorem dPL_fails_32 : decode cPL_fails 32 = .ok (.iconst 1, 1) := by decide +kernel
theorem dPL_fails_33 : decode cPL_fails 33 = .ok (.ireturn, 1) := by decide +kernel
theorem dBA_takenFromAccount_0 : decode cBA_takenFromAccount 0 = .ok (.lconst 0, 1) := by decide +kernel
theorem dBA_takenFromAccount_1 : decode cBA_takenFromAccount 1 = .ok (.lstore_n 2, 1) := by decide +kernel
theorem dBA_takenFromAccount_2 : decode cBA_takenFromAccount 2 = .ok (.iconst 0, 1) := by decide +kernel
theorem dBA_takenFromAccount_3 : decode cBA_takenFromAccount 3 = .ok (.istore 4, 2) := by decide +kernel
theorem dBA_takenFromAccount_5 : decode cBA_takenFromAccount 5 = .ok (.iload 4, 2) := by decide +kernel
theorem dBA_takenFromAccount_7 : decode cBA_takenFromAccount 7 = .ok (.aload_n 0, 1) := by decide +kernel
theorem dBA_takenFromAccount_8 : decode cBA_takenFromAccount 8 = .ok (.getfield 18, 3) := by decide +kernel
theorem dBA_takenFromAccount_11 : decode cBA_takenFromAccount 11 = .ok (.invokevirtual 31, 3) := by decide +kernel
theorem dBA_takenFromAccount_14 : decode cBA_takenFromAccount 14 = .ok (.if_icmp .ge 50, 3) := by decide +kernel
theorem dBA_takenFromAccount_17 : decode cBA_takenFromAccount 17 = .ok (.aload_n 0, 1) := by decide +kernel
theorem dBA_takenFromAccount_18 : decode cBA_takenFromAccount 18 = .ok (.getfield 18, 3) := by decide +kernel
theorem dBA_takenFromAccount_21 : decode cBA_takenFromAccount 21 = .ok (.iload 4, 2) := by decide +kernel
theorem dBA_takenFromAccount_23 : decode cBA_takenFromAccount 23 = .ok (.invokevirtual 47, 3) := by decide +kernel
theorem dBA_takenFromAccount_26 : decode cBA_takenFromAccount 26 = .ok (.checkcast 38, 3) := by decide +kernel
theorem dBA_takenFromAccount_29 : decode cBA_takenFromAccount 29 = .ok (.astore 5, 2) := by decide +kernel
theorem dBA_takenFromAccount_31 : decode cBA_takenFromAccount 31 = .ok (.aload 5, 2) := by decide +kernel
theorem dBA_takenFromAccount_33 : decode cBA_takenFromAccount 33 = .ok (.getfield 51, 3) := by decide +kernel
theorem dBA_takenFromAccount_36 : decode cBA_takenFromAccount 36 = .ok (.aload_n 1, 1) := by decide +kernel
theorem dBA_takenFromAccount_37 : decode cBA_takenFromAccount 37 = .ok (.if_acmp .ne 21, 3) := by decide +kernel
theorem dBA_takenFromAccount_40 : decode cBA_takenFromAccount 40 = .ok (.aload 5, 2) := by decide +kernel
theorem dBA_takenFromAccount_42 : decode cBA_takenFromAccount 42 = .ok (.getfield 55, 3) := by decide +kernel
theorem dBA_takenFromAccount_45 : decode cBA_takenFromAccount 45 = .ok (.lconst 0, 1) := by decide +kernel
theorem dBA_takenFromAccount_46 : decode cBA_takenFromAccount 46 = .ok (.lcmp, 1) := by decide +kernel
theorem dBA_takenFromAccount_47 : decode cBA_takenFromAccount 47 = .ok (.ifCond .ge 11, 3) := by decide +kernel
theorem dBA_takenFromAccount_50 : decode cBA_takenFromAccount 50 = .ok (.lload_n 2, 1) := by decide +kernel
theorem dBA_takenFromAccount_51 : decode cBA_takenFromAccount 51 = .ok (.aload 5, 2) := by decide +kernel
theorem dBA_takenFromAccount_53 : decode cBA_takenFromAccount 53 = .ok (.getfield 55, 3) := by decide +kernel
theorem dBA_takenFromAccount_56 : decode cBA_takenFromAccount 56 = .ok (.lsub, 1) := by decide +kernel
theorem dBA_takenFromAccount_57 : decode cBA_takenFromAccount 57 = .ok (.lstore_n 2, 1) := by decide +kernel
theorem dBA_takenFromAccount_58 : decode cBA_takenFromAccount 58 = .ok (.iinc 4 1, 3) := by decide +kernel
theorem dBA_takenFromAccount_61 : decode cBA_takenFromAccount 61 = .ok (.goto (-56), 3) := by decide +kernel
theorem dBA_takenFromAccount_64 : decode cBA_takenFromAccount 64 = .ok (.lload_n 2, 1) := by decide +kernel
theorem dBA_takenFromAccount_65 : decode cBA_takenFromAccount 65 = .ok (.lreturn, 1) := by decide +kernel
theorem dPL_hold_0 : decode cPL_hold 0 = .ok (.aload_n 0, 1) := by decide +kernel
theorem dPL_hold_1 : decode cPL_hold 1 = .ok (.iload_n 1, 1) := by decide +kernel
theorem dPL_hold_2 : decode cPL_hold 2 = .ok (.invokevirtual 66, 3) := by decide +kernel
theorem dPL_hold_5 : decode cPL_hold 5 = .ok (.astore_n 2, 1) := by decide +kernel
theorem dPL_hold_6 : decode cPL_hold 6 = .ok (.aload_n 2, 1) := by decide +kernel
theorem dPL_hold_7 : decode cPL_hold 7 = .ok (.ifnonnull 7, 3) := by decide +kernel
theorem dPL_hold_10 : decode cPL_hold 10 = .ok (.ldc2_w 125, 3) := by decide +kernel
theorem dPL_hold_13 : decode cPL_hold 13 = .ok (.lreturn, 1) := by decide +kernel
theorem dPL_hold_14 : decode cPL_hold 14 = .ok (.lconst 0, 1) := by decide +kernel
theorem dPL_hold_15 : decode cPL_hold 15 = .ok (.lstore_n 3, 1) := by decide +kernel
theorem dPL_hold_16 : decode cPL_hold 16 = .ok (.iconst 0, 1) := by decide +kernel
theorem dPL_hold_17 : decode cPL_hold 17 = .ok (.istore 5, 2) := by decide +kernel
theorem dPL_hold_19 : decode cPL_hold 19 = .ok (.iload 5, 2) := by decide +kernel
theorem dPL_hold_21 : decode cPL_hold 21 = .ok (.aload_n 0, 1) := by decide +kernel
theorem dPL_hold_22 : decode cPL_hold 22 = .ok (.getfield 16, 3) := by decide +kernel
theorem dPL_hold_25 : decode cPL_hold 25 = .ok (.invokevirtual 31, 3) := by decide +kernel
theorem dPL_hold_28 : decode cPL_hold 28 = .ok (.if_icmp .ge 40, 3) := by decide +kernel
theorem dPL_hold_31 : decode cPL_hold 31 = .ok (.aload_n 0, 1) := by decide +kernel
theorem dPL_hold_32 : decode cPL_hold 32 = .ok (.getfield 16, 3) := by decide +kernel
theorem dPL_hold_35 : decode cPL_hold 35 = .ok (.iload 5, 2) := by decide +kernel
theorem dPL_hold_37 : decode cPL_hold 37 = .ok (.invokevirtual 127, 3) := by decide +kernel
theorem dPL_hold_40 : decode cPL_hold 40 = .ok (.checkcast 57, 3) := by decide +kernel
theorem dPL_hold_43 : decode cPL_hold 43 = .ok (.astore 6, 2) := by decide +kernel
theorem dPL_hold_45 : decode cPL_hold 45 = .ok (.aload 6, 2) := by decide +kernel
theorem dPL_hold_47 : decode cPL_hold 47 = .ok (.invokevirtual 70, 3) := by decide +kernel
theorem dPL_hold_50 : decode cPL_hold 50 = .ok (.ifCond .eq 12, 3) := by decide +kernel
theorem dPL_hold_53 : decode cPL_hold 53 = .ok (.lload_n 3, 1) := by decide +kernel
theorem dPL_hold_54 : decode cPL_hold 54 = .ok (.aload 6, 2) := by decide +kernel
theorem dPL_hold_56 : decode cPL_hold 56 = .ok (.aload_n 2, 1) := by decide +kernel
theorem dPL_hold_57 : decode cPL_hold 57 = .ok (.invokevirtual 172, 3) := by decide +kernel
theorem dPL_hold_60 : decode cPL_hold 60 = .ok (.ladd, 1) := by decide +kernel
theorem dPL_hold_61 : decode cPL_hold 61 = .ok (.lstore_n 3, 1) := by decide +kernel
theorem dPL_hold_62 : decode cPL_hold 62 = .ok (.iinc 5 1, 3) := by decide +kernel
theorem dPL_hold_65 : decode cPL_hold 65 = .ok (.goto (-46), 3) := by decide +kernel
theorem dPL_hold_68 : decode cPL_hold 68 = .ok (.lload_n 3, 1) := by decide +kernel
theorem dPL_hold_69 : decode cPL_hold 69 = .ok (.lreturn, 1) := by decide +kernel
theorem dPL_rows_0 : decode cPL_rows 0 = .ok (.aload_n 0, 1) := by decide +kernel
theorem dPL_rows_1 : decode cPL_rows 1 = .ok (.getfield 23, 3) := by decide +kernel
theorem dPL_rows_4 : decode cPL_rows 4 = .ok (.ireturn, 1) := by decide +kernel
theorem dPL_all_0 : decode cPL_all 0 = .ok (.lconst 0, 1) := by decide +kernel
theorem dPL_all_1 : decode cPL_all 1 = .ok (.lstore_n 1, 1) := by decide +kernel
theorem dPL_all_2 : decode cPL_all 2 = .ok (.iconst 0, 1) := by decide +kernel
theorem dPL_all_3 : decode cPL_all 3 = .ok (.istore_n 3, 1) := by decide +kernel
theorem dPL_all_4 : decode cPL_all 4 = .ok (.iload_n 3, 1) := by decide +kernel
theorem dPL_all_5 : decode cPL_all 5 = .ok (.aload_n 0, 1) := by decide +kernel
theorem dPL_all_6 : decode cPL_all 6 = .ok (.getfield 10, 3) := by decide +kernel
theorem dPL_all_9 : decode cPL_all 9 = .ok (.invokevirtual 31, 3) := by decide +kernel
theorem dPL_all_12 : decode cPL_all 12 = .ok (.if_icmp .ge 26, 3) := by decide +kernel
theorem dPL_all_15 : decode cPL_all 15 = .ok (.lload_n 1, 1) := by decide +kernel
theorem dPL_all_16 : decode cPL_all 16 = .ok (.aload_n 0, 1) := by decide +kernel
theorem dPL_all_17 : decode cPL_all 17 = .ok (.getfield 10, 3) := by decide +kernel
theorem dPL_all_20 : decode cPL_all 20 = .ok (.iload_n 3, 1) := by decide +kernel
theorem dPL_all_21 : decode cPL_all 21 = .ok (.invokevirtual 127, 3) := by decide +kernel
theorem dPL_all_24 : decode cPL_all 24 = .ok (.checkcast 36, 3) := by decide +kernel
theorem dPL_all_27 : decode cPL_all 27 = .ok (.getfield 176, 3) := by decide +kernel
theorem dPL_all_30 : decode cPL_all 30 = .ok (.ladd, 1) := by decide +kernel
theorem dPL_all_31 : decode cPL_all 31 = .ok (.lstore_n 1, 1) := by decide +kernel
theorem dPL_all_32 : decode cPL_all 32 = .ok (.iinc 3 1, 3) := by decide +kernel
theorem dPL_all_35 : decode cPL_all 35 = .ok (.goto (-31), 3) := by decide +kernel
theorem dPL_all_38 : decode cPL_all 38 = .ok (.lload_n 1, 1) := by decide +kernel
theorem dPL_all_39 : decode cPL_all 39 = .ok (.lreturn, 1) := by decide +kernel
theorem dBA_sumOfRows_0 : decode cBA_sumOfRows 0 = .ok (.lconst 0, 1) := by decide +kernel
theorem dBA_sumOfRows_1 : decode cBA_sumOfRows 1 = .ok (.lstore_n 1, 1) := by decide +kernel
theorem dBA_sumOfRows_2 : decode cBA_sumOfRows 2 = .ok (.iconst 0, 1) := by decide +kernel
theorem dBA_sumOfRows_3 : decode cBA_sumOfRows 3 = .ok (.istore_n 3, 1) := by decide +kernel
theorem dBA_sumOfRows_4 : decode cBA_sumOfRows 4 = .ok (.iload_n 3, 1) := by decide +kernel
theorem dBA_sumOfRows_5 : decode cBA_sumOfRows 5 = .ok (.aload_n 0, 1) := by decide +kernel
theorem dBA_sumOfRows_6 : decode cBA_sumOfRows 6 = .ok (.getfield 18, 3) := by decide +kernel
theorem dBA_sumOfRows_9 : decode cBA_sumOfRows 9 = .ok (.invokevirtual 31, 3) := by decide +kernel
theorem dBA_sumOfRows_12 : decode cBA_sumOfRows 12 = .ok (.if_icmp .ge 26, 3) := by decide +kernel
theorem dBA_sumOfRows_15 : decode cBA_sumOfRows 15 = .ok (.lload_n 1, 1) := by decide +kernel
theorem dBA_sumOfRows_16 : decode cBA_sumOfRows 16 = .ok (.aload_n 0, 1) := by decide +kernel
theorem dBA_sumOfRows_17 : decode cBA_sumOfRows 17 = .ok (.getfield 18, 3) := by decide +kernel
theorem dBA_sumOfRows_20 : decode cBA_sumOfRows 20 = .ok (.iload_n 3, 1) := by decide +kernel
theorem dBA_sumOfRows_21 : decode cBA_sumOfRows 21 = .ok (.invokevirtual 47, 3) := by decide +kernel
theorem dBA_sumOfRows_24 : decode cBA_sumOfRows 24 = .ok (.checkcast 38, 3) := by decide +kernel
theorem dBA_sumOfRows_27 : decode cBA_sumOfRows 27 = .ok (.getfield 55, 3) := by decide +kernel
theorem dBA_sumOfRows_30 : decode cBA_sumOfRows 30 = .ok (.ladd, 1) := by decide +kernel
theorem dBA_sumOfRows_31 : decode cBA_sumOfRows 31 = .ok (.lstore_n 1, 1) := by decide +kernel
theorem dBA_sumOfRows_32 : decode cBA_sumOfRows 32 = .ok (.iinc 3 1, 3) := by decide +kernel
theorem dBA_sumOfRows_35 : decode cBA_sumOfRows 35 = .ok (.goto (-31), 3) := by decide +kernel
theorem dBA_sumOfRows_38 : decode cBA_sumOfRows 38 = .ok (.lload_n 1, 1) := by decide +kernel
theorem dBA_sumOfRows_39 : decode cBA_sumOfRows 39 = .ok (.lreturn, 1) := by decide +kernel
theorem dRW_takesFromCustomer_0 : decode cRW_takesFromCustomer 0 = .ok (.aload_n 0, 1) := by decide +kernel
theorem dRW_takesFromCustomer_1 : decode cRW_takesFromCustomer 1 = .ok (.getfield 15, 3) := by decide +kernel
theorem dRW_takesFromCustomer_4 : decode cRW_takesFromCustomer 4 = .ok (.lconst 0, 1) := by decide +kernel
theorem dRW_takesFromCustomer_5 : decode cRW_takesFromCustomer 5 = .ok (.lcmp, 1) := by decide +kernel
theorem dRW_takesFromCustomer_6 : decode cRW_takesFromCustomer 6 = .ok (.ifCond .ge 18, 3) := by decide +kernel
theorem dRW_takesFromCustomer_9 : decode cRW_takesFromCustomer 9 = .ok (.aload_n 0, 1) := by decide +kernel
theorem dRW_takesFromCustomer_10 : decode cRW_takesFromCustomer 10 = .ok (.getfield 9, 3) := by decide +kernel
theorem dRW_takesFromCustomer_13 : decode cRW_takesFromCustomer 13 = .ok (.getfield 19, 3) := by decide +kernel
theorem dRW_takesFromCustomer_16 : decode cRW_takesFromCustomer 16 = .ok (.iconst 3, 1) := by decide +kernel
theorem dRW_takesFromCustomer_17 : decode cRW_takesFromCustomer 17 = .ok (.if_icmp .ne 7, 3) := by decide +kernel
theorem dRW_takesFromCustomer_20 : decode cRW_takesFromCustomer 20 = .ok (.iconst 1, 1) := by decide +kernel
theorem dRW_takesFromCustomer_21 : decode cRW_takesFromCustomer 21 = .ok (.goto 4, 3) := by decide +kernel
theorem dRW_takesFromCustomer_24 : decode cRW_takesFromCustomer 24 = .ok (.iconst 0, 1) := by decide +kernel
theorem dRW_takesFromCustomer_25 : decode cRW_takesFromCustomer 25 = .ok (.ireturn, 1) := by decide +kernel
theorem dBA_breaksLimit_0 : decode cBA_breaksLimit 0 = .ok (.aload_n 1, 1) := by decide +kernel
theorem dBA_breaksLimit_1 : decode cBA_breaksLimit 1 = .ok (.getfield 51, 3) := by decide +kernel
theorem dBA_breaksLimit_4 : decode cBA_breaksLimit 4 = .ok (.astore_n 3, 1) := by decide +kernel
theorem dBA_breaksLimit_5 : decode cBA_breaksLimit 5 = .ok (.aload_n 1, 1) := by decide +kernel
theorem dBA_breaksLimit_6 : decode cBA_breaksLimit 6 = .ok (.invokevirtual 95, 3) := by decide +kernel
theorem dBA_breaksLimit_9 : decode cBA_breaksLimit 9 = .ok (.ifCond .eq 28, 3) := by decide +kernel
theorem dBA_breaksLimit_12 : decode cBA_breaksLimit 12 = .ok (.aload_n 3, 1) := by decide +kernel
theorem dBA_breaksLimit_13 : decode cBA_breaksLimit 13 = .ok (.getfield 62, 3) := by decide +kernel
theorem dBA_breaksLimit_16 : decode cBA_breaksLimit 16 = .ok (.aload_n 0, 1) := by decide +kernel
theorem dBA_breaksLimit_17 : decode cBA_breaksLimit 17 = .ok (.aload_n 3, 1) := by decide +kernel
theorem dBA_breaksLimit_18 : decode cBA_breaksLimit 18 = .ok (.iload_n 2, 1) := by decide +kernel
theorem dBA_breaksLimit_19 : decode cBA_breaksLimit 19 = .ok (.invokevirtual 98, 3) := by decide +kernel
theorem dBA_breaksLimit_22 : decode cBA_breaksLimit 22 = .ok (.ladd, 1) := by decide +kernel
theorem dBA_breaksLimit_23 : decode cBA_breaksLimit 23 = .ok (.aload_n 3, 1) := by decide +kernel
theorem dBA_breaksLimit_24 : decode cBA_breaksLimit 24 = .ok (.getfield 102, 3) := by decide +kernel
theorem dBA_breaksLimit_27 : decode cBA_breaksLimit 27 = .ok (.ineg, 1) := by decide +kernel
theorem dBA_breaksLimit_28 : decode cBA_breaksLimit 28 = .ok (.i2l, 1) := by decide +kernel
theorem dBA_breaksLimit_29 : decode cBA_breaksLimit 29 = .ok (.lcmp, 1) := by decide +kernel
theorem dBA_breaksLimit_30 : decode cBA_breaksLimit 30 = .ok (.ifCond .ge 7, 3) := by decide +kernel
theorem dBA_breaksLimit_33 : decode cBA_breaksLimit 33 = .ok (.iconst 1, 1) := by decide +kernel
theorem dBA_breaksLimit_34 : decode cBA_breaksLimit 34 = .ok (.goto 4, 3) := by decide +kernel
theorem dBA_breaksLimit_37 : decode cBA_breaksLimit 37 = .ok (.iconst 0, 1) := by decide +kernel
theorem dBA_breaksLimit_38 : decode cBA_breaksLimit 38 = .ok (.ireturn, 1) := by decide +kernel
theorem dBA_outcomeOfPosting_0 : decode cBA_outcomeOfPosting 0 = .ok (.aload_n 0, 1) := by decide +kernel
theorem dBA_outcomeOfPosting_1 : decode cBA_outcomeOfPosting 1 = .ok (.getfield 18, 3) := by decide +kernel
theorem dBA_outcomeOfPosting_4 : decode cBA_outcomeOfPosting 4 = .ok (.invokevirtual 67, 3) := by decide +kernel
theorem dBA_outcomeOfPosting_7 : decode cBA_outcomeOfPosting 7 = .ok (.ifCond .ne 12, 3) := by decide +kernel
theorem dBA_outcomeOfPosting_10 : decode cBA_outcomeOfPosting 10 = .ok (.aload_n 0, 1) := by decide +kernel
theorem dBA_outcomeOfPosting_11 : decode cBA_outcomeOfPosting 11 = .ok (.invokevirtual 71, 3) := by decide +kernel
theorem dBA_outcomeOfPosting_14 : decode cBA_outcomeOfPosting 14 = .ok (.lconst 0, 1) := by decide +kernel
theorem dBA_outcomeOfPosting_15 : decode cBA_outcomeOfPosting 15 = .ok (.lcmp, 1) := by decide +kernel
theorem dBA_outcomeOfPosting_16 : decode cBA_outcomeOfPosting 16 = .ok (.ifCond .eq 7, 3) := by decide +kernel
theorem dBA_outcomeOfPosting_19 : decode cBA_outcomeOfPosting 19 = .ok (.getstatic 75, 3) := by decide +kernel
theorem dBA_outcomeOfPosting_22 : decode cBA_outcomeOfPosting 22 = .ok (.areturn, 1) := by decide +kernel
theorem dBA_outcomeOfPosting_23 : decode cBA_outcomeOfPosting 23 = .ok (.iconst 0, 1) := by decide +kernel
theorem dBA_outcomeOfPosting_24 : decode cBA_outcomeOfPosting 24 = .ok (.istore_n 1, 1) := by decide +kernel
theorem dBA_outcomeOfPosting_25 : decode cBA_outcomeOfPosting 25 = .ok (.iload_n 1, 1) := by decide +kernel
theorem dBA_outcomeOfPosting_26 : decode cBA_outcomeOfPosting 26 = .ok (.aload_n 0, 1) := by decide +kernel
theorem dBA_outcomeOfPosting_27 : decode cBA_outcomeOfPosting 27 = .ok (.getfield 18, 3) := by decide +kernel
theorem dBA_outcomeOfPosting_30 : decode cBA_outcomeOfPosting 30 = .ok (.invokevirtual 31, 3) := by decide +kernel
theorem dBA_outcomeOfPosting_33 : decode cBA_outcomeOfPosting 33 = .ok (.if_icmp .ge 45, 3) := by decide +kernel
theorem dBA_outcomeOfPosting_36 : decode cBA_outcomeOfPosting 36 = .ok (.aload_n 0, 1) := by decide +kernel
theorem dBA_outcomeOfPosting_37 : decode cBA_outcomeOfPosting 37 = .ok (.aload_n 0, 1) := by decide +kernel
theorem dBA_outcomeOfPosting_38 : decode cBA_outcomeOfPosting 38 = .ok (.getfield 18, 3) := by decide +kernel
theorem dBA_outcomeOfPosting_41 : decode cBA_outcomeOfPosting 41 = .ok (.iload_n 1, 1) := by decide +kernel
theorem dBA_outcomeOfPosting_42 : decode cBA_outcomeOfPosting 42 = .ok (.invokevirtual 47, 3) := by decide +kernel
theorem dBA_outcomeOfPosting_45 : decode cBA_outcomeOfPosting 45 = .ok (.checkcast 38, 3) := by decide +kernel
theorem dBA_outcomeOfPosting_48 : decode cBA_outcomeOfPosting 48 = .ok (.iload_n 1, 1) := by decide +kernel
theorem dBA_outcomeOfPosting_49 : decode cBA_outcomeOfPosting 49 = .ok (.iconst 1, 1) := by decide +kernel
theorem dBA_outcomeOfPosting_50 : decode cBA_outcomeOfPosting 50 = .ok (.iadd, 1) := by decide +kernel
theorem dBA_outcomeOfPosting_51 : decode cBA_outcomeOfPosting 51 = .ok (.invokevirtual 81, 3) := by decide +kernel
theorem dBA_outcomeOfPosting_54 : decode cBA_outcomeOfPosting 54 = .ok (.ifCond .eq 7, 3) := by decide +kernel
theorem dBA_outcomeOfPosting_57 : decode cBA_outcomeOfPosting 57 = .ok (.getstatic 75, 3) := by decide +kernel
theorem dBA_outcomeOfPosting_60 : decode cBA_outcomeOfPosting 60 = .ok (.areturn, 1) := by decide +kernel
theorem dBA_outcomeOfPosting_61 : decode cBA_outcomeOfPosting 61 = .ok (.aload_n 0, 1) := by decide +kernel
theorem dBA_outcomeOfPosting_62 : decode cBA_outcomeOfPosting 62 = .ok (.getfield 85, 3) := by decide +kernel
theorem dBA_outcomeOfPosting_65 : decode cBA_outcomeOfPosting 65 = .ok (.ifCond .eq 7, 3) := by decide +kernel
theorem dBA_outcomeOfPosting_68 : decode cBA_outcomeOfPosting 68 = .ok (.getstatic 89, 3) := by decide +kernel
theorem dBA_outcomeOfPosting_71 : decode cBA_outcomeOfPosting 71 = .ok (.areturn, 1) := by decide +kernel
theorem dBA_outcomeOfPosting_72 : decode cBA_outcomeOfPosting 72 = .ok (.iinc 1 1, 3) := by decide +kernel
theorem dBA_outcomeOfPosting_75 : decode cBA_outcomeOfPosting 75 = .ok (.goto (-50), 3) := by decide +kernel
theorem dBA_outcomeOfPosting_78 : decode cBA_outcomeOfPosting 78 = .ok (.getstatic 92, 3) := by decide +kernel
theorem dBA_outcomeOfPosting_81 : decode cBA_outcomeOfPosting 81 = .ok (.areturn, 1) := by decide +kernel
