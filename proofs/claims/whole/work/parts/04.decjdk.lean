/-! decode rows: JDK -/
theorem dAN_init_0 : decode cAN_init 0 = .ok (.aload_n 0, 1) := by decide +kernel
theorem dAN_init_1 : decode cAN_init 1 = .ok (.invokespecial 1, 3) := by decide +kernel
theorem dAN_init_4 : decode cAN_init 4 = .ok (.return_, 1) := by decide +kernel
theorem dAB_init_0 : decode cAB_init 0 = .ok (.aload_n 0, 1) := by decide +kernel
theorem dAB_init_1 : decode cAB_init 1 = .ok (.invokespecial 1, 3) := by decide +kernel
theorem dAB_init_4 : decode cAB_init 4 = .ok (.aload_n 0, 1) := by decide +kernel
theorem dAB_init_5 : decode cAB_init 5 = .ok (.iconst 0, 1) := by decide +kernel
theorem dAB_init_6 : decode cAB_init 6 = .ok (.putfield 7, 3) := by decide +kernel
theorem dAB_init_9 : decode cAB_init 9 = .ok (.return_, 1) := by decide +kernel
theorem dAL_init_0 : decode cAL_init 0 = .ok (.aload_n 0, 1) := by decide +kernel
theorem dAL_init_1 : decode cAL_init 1 = .ok (.invokespecial 1, 3) := by decide +kernel
theorem dAL_init_4 : decode cAL_init 4 = .ok (.aload_n 0, 1) := by decide +kernel
theorem dAL_init_5 : decode cAL_init 5 = .ok (.getstatic 39, 3) := by decide +kernel
theorem dAL_init_8 : decode cAL_init 8 = .ok (.putfield 9, 3) := by decide +kernel
theorem dAL_init_11 : decode cAL_init 11 = .ok (.return_, 1) := by decide +kernel
theorem dAL_size_0 : decode cAL_size 0 = .ok (.aload_n 0, 1) := by decide +kernel
theorem dAL_size_1 : decode cAL_size 1 = .ok (.getfield 48, 3) := by decide +kernel
theorem dAL_size_4 : decode cAL_size 4 = .ok (.ireturn, 1) := by decide +kernel
theorem dAS_hugeLength_0 : decode cAS_hugeLength 0 = .ok (.iload_n 0, 1) := by decide +kernel
theorem dAS_hugeLength_1 : decode cAS_hugeLength 1 = .ok (.iload_n 1, 1) := by decide +kernel
theorem dAS_hugeLength_2 : decode cAS_hugeLength 2 = .ok (.iadd, 1) := by decide +kernel
theorem dAS_hugeLength_3 : decode cAS_hugeLength 3 = .ok (.istore_n 2, 1) := by decide +kernel
theorem dAS_hugeLength_4 : decode cAS_hugeLength 4 = .ok (.iload_n 2, 1) := by decide +kernel
theorem dAS_hugeLength_5 : decode cAS_hugeLength 5 = .ok (.ifCond .ge 44, 3) := by decide +kernel
theorem dAS_hugeLength_8 : decode cAS_hugeLength 8 = .ok (.new 204, 3) := by decide +kernel
theorem dAS_hugeLength_11 : decode cAS_hugeLength 11 = .ok (.dup, 1) := by decide +kernel
theorem dAS_hugeLength_12 : decode cAS_hugeLength 12 = .ok (.new 89, 3) := by decide +kernel
theorem dAS_hugeLength_15 : decode cAS_hugeLength 15 = .ok (.dup, 1) := by decide +kernel
theorem dAS_hugeLength_16 : decode cAS_hugeLength 16 = .ok (.invokespecial 91, 3) := by decide +kernel
theorem dAS_hugeLength_19 : decode cAS_hugeLength 19 = .ok (.ldc 206, 2) := by decide +kernel
theorem dAS_hugeLength_21 : decode cAS_hugeLength 21 = .ok (.invokevirtual 94, 3) := by decide +kernel
theorem dAS_hugeLength_24 : decode cAS_hugeLength 24 = .ok (.iload_n 0, 1) := by decide +kernel
theorem dAS_hugeLength_25 : decode cAS_hugeLength 25 = .ok (.invokevirtual 98, 3) := by decide +kernel
theorem dAS_hugeLength_28 : decode cAS_hugeLength 28 = .ok (.ldc 208, 2) := by decide +kernel
theorem dAS_hugeLength_30 : decode cAS_hugeLength 30 = .ok (.invokevirtual 94, 3) := by decide +kernel
theorem dAS_hugeLength_33 : decode cAS_hugeLength 33 = .ok (.iload_n 1, 1) := by decide +kernel
theorem dAS_hugeLength_34 : decode cAS_hugeLength 34 = .ok (.invokevirtual 98, 3) := by decide +kernel
theorem dAS_hugeLength_37 : decode cAS_hugeLength 37 = .ok (.ldc 210, 2) := by decide +kernel
theorem dAS_hugeLength_39 : decode cAS_hugeLength 39 = .ok (.invokevirtual 94, 3) := by decide +kernel
theorem dAS_hugeLength_42 : decode cAS_hugeLength 42 = .ok (.invokevirtual 101, 3) := by decide +kernel
theorem dAS_hugeLength_45 : decode cAS_hugeLength 45 = .ok (.invokespecial 212, 3) := by decide +kernel
theorem dAS_hugeLength_48 : decode cAS_hugeLength 48 = .ok (.athrow, 1) := by decide +kernel
theorem dAS_hugeLength_49 : decode cAS_hugeLength 49 = .ok (.iload_n 2, 1) := by decide +kernel
theorem dAS_hugeLength_50 : decode cAS_hugeLength 50 = .ok (.ldc 200, 2) := by decide +kernel
theorem dAS_hugeLength_52 : decode cAS_hugeLength 52 = .ok (.if_icmp .gt 6, 3) := by decide +kernel
theorem dAS_hugeLength_55 : decode cAS_hugeLength 55 = .ok (.ldc 200, 2) := by decide +kernel
theorem dAS_hugeLength_57 : decode cAS_hugeLength 57 = .ok (.ireturn, 1) := by decide +kernel
theorem dAS_hugeLength_58 : decode cAS_hugeLength 58 = .ok (.iload_n 2, 1) := by decide +kernel
theorem dAS_hugeLength_59 : decode cAS_hugeLength 59 = .ok (.ireturn, 1) := by decide +kernel
theorem dAS_newLength_0 : decode cAS_newLength 0 = .ok (.iload_n 0, 1) := by decide +kernel
theorem dAS_newLength_1 : decode cAS_newLength 1 = .ok (.iload_n 1, 1) := by decide +kernel
theorem dAS_newLength_2 : decode cAS_newLength 2 = .ok (.iload_n 2, 1) := by decide +kernel
theorem dAS_newLength_3 : decode cAS_newLength 3 = .ok (.invokestatic 194, 3) := by decide +kernel
theorem dAS_newLength_6 : decode cAS_newLength 6 = .ok (.iadd, 1) := by decide +kernel
theorem dAS_newLength_7 : decode cAS_newLength 7 = .ok (.istore_n 3, 1) := by decide +kernel
theorem dAS_newLength_8 : decode cAS_newLength 8 = .ok (.iconst 0, 1) := by decide +kernel
theorem dAS_newLength_9 : decode cAS_newLength 9 = .ok (.iload_n 3, 1) := by decide +kernel
theorem dAS_newLength_10 : decode cAS_newLength 10 = .ok (.if_icmp .ge 11, 3) := by decide +kernel
theorem dAS_newLength_13 : decode cAS_newLength 13 = .ok (.iload_n 3, 1) := by decide +kernel
theorem dAS_newLength_14 : decode cAS_newLength 14 = .ok (.ldc 200, 2) := by decide +kernel
theorem dAS_newLength_16 : decode cAS_newLength 16 = .ok (.if_icmp .gt 5, 3) := by decide +kernel
theorem dAS_newLength_19 : decode cAS_newLength 19 = .ok (.iload_n 3, 1) := by decide +kernel
theorem dAS_newLength_20 : decode cAS_newLength 20 = .ok (.ireturn, 1) := by decide +kernel
theorem dAS_newLength_21 : decode cAS_newLength 21 = .ok (.iload_n 0, 1) := by decide +kernel
theorem dAS_newLength_22 : decode cAS_newLength 22 = .ok (.iload_n 1, 1) := by decide +kernel
theorem dAS_newLength_23 : decode cAS_newLength 23 = .ok (.invokestatic 201, 3) := by decide +kernel
theorem dAS_newLength_26 : decode cAS_newLength 26 = .ok (.ireturn, 1) := by decide +kernel
theorem dAR_copyOf2_0 : decode cAR_copyOf2 0 = .ok (.aload_n 2, 1) := by decide +kernel
theorem dAR_copyOf2_1 : decode cAR_copyOf2 1 = .ok (.ldc 110, 2) := by decide +kernel
theorem dAR_copyOf2_3 : decode cAR_copyOf2 3 = .ok (.if_acmp .ne 10, 3) := by decide +kernel
theorem dAR_copyOf2_6 : decode cAR_copyOf2 6 = .ok (.iload_n 1, 1) := by decide +kernel
theorem dAR_copyOf2_7 : decode cAR_copyOf2 7 = .ok (.anewarray 2, 3) := by decide +kernel
theorem dAR_copyOf2_10 : decode cAR_copyOf2 10 = .ok (.goto 14, 3) := by decide +kernel
theorem dAR_copyOf2_13 : decode cAR_copyOf2 13 = .ok (.aload_n 2, 1) := by decide +kernel
theorem dAR_copyOf2_14 : decode cAR_copyOf2 14 = .ok (.invokevirtual 90, 3) := by decide +kernel
theorem dAR_copyOf2_17 : decode cAR_copyOf2 17 = .ok (.iload_n 1, 1) := by decide +kernel
theorem dAR_copyOf2_18 : decode cAR_copyOf2 18 = .ok (.invokestatic 95, 3) := by decide +kernel
theorem dAR_copyOf2_21 : decode cAR_copyOf2 21 = .ok (.checkcast 110, 3) := by decide +kernel
theorem dAR_copyOf2_24 : decode cAR_copyOf2 24 = .ok (.astore_n 3, 1) := by decide +kernel
theorem dAR_copyOf2_25 : decode cAR_copyOf2 25 = .ok (.aload_n 0, 1) := by decide +kernel
theorem dAR_copyOf2_26 : decode cAR_copyOf2 26 = .ok (.iconst 0, 1) := by decide +kernel
theorem dAR_copyOf2_27 : decode cAR_copyOf2 27 = .ok (.aload_n 3, 1) := by decide +kernel
theorem dAR_copyOf2_28 : decode cAR_copyOf2 28 = .ok (.iconst 0, 1) := by decide +kernel
theorem dAR_copyOf2_29 : decode cAR_copyOf2 29 = .ok (.aload_n 0, 1) := by decide +kernel
theorem dAR_copyOf2_30 : decode cAR_copyOf2 30 = .ok (.arraylength, 1) := by decide +kernel
theorem dAR_copyOf2_31 : decode cAR_copyOf2 31 = .ok (.iload_n 1, 1) := by decide +kernel
theorem dAR_copyOf2_32 : decode cAR_copyOf2 32 = .ok (.invokestatic 304, 3) := by decide +kernel
theorem dAR_copyOf2_35 : decode cAR_copyOf2 35 = .ok (.invokestatic 150, 3) := by decide +kernel
theorem dAR_copyOf2_38 : decode cAR_copyOf2 38 = .ok (.aload_n 3, 1) := by decide +kernel
theorem dAR_copyOf2_39 : decode cAR_copyOf2 39 = .ok (.areturn, 1) := by decide +kernel
theorem dAR_copyOf_0 : decode cAR_copyOf 0 = .ok (.aload_n 0, 1) := by decide +kernel
theorem dAR_copyOf_1 : decode cAR_copyOf 1 = .ok (.iload_n 1, 1) := by decide +kernel
theorem dAR_copyOf_2 : decode cAR_copyOf 2 = .ok (.aload_n 0, 1) := by decide +kernel
theorem dAR_copyOf_3 : decode cAR_copyOf 3 = .ok (.invokevirtual 86, 3) := by decide +kernel
theorem dAR_copyOf_6 : decode cAR_copyOf 6 = .ok (.invokestatic 300, 3) := by decide +kernel
theorem dAR_copyOf_9 : decode cAR_copyOf 9 = .ok (.areturn, 1) := by decide +kernel
theorem dAL_grow2_0 : decode cAL_grow2 0 = .ok (.aload_n 0, 1) := by decide +kernel
theorem dAL_grow2_1 : decode cAL_grow2 1 = .ok (.getfield 9, 3) := by decide +kernel
theorem dAL_grow2_4 : decode cAL_grow2 4 = .ok (.arraylength, 1) := by decide +kernel
theorem dAL_grow2_5 : decode cAL_grow2 5 = .ok (.istore_n 2, 1) := by decide +kernel
theorem dAL_grow2_6 : decode cAL_grow2 6 = .ok (.iload_n 2, 1) := by decide +kernel
theorem dAL_grow2_7 : decode cAL_grow2 7 = .ok (.ifCond .gt 13, 3) := by decide +kernel
theorem dAL_grow2_10 : decode cAL_grow2 10 = .ok (.aload_n 0, 1) := by decide +kernel
theorem dAL_grow2_11 : decode cAL_grow2 11 = .ok (.getfield 9, 3) := by decide +kernel
theorem dAL_grow2_14 : decode cAL_grow2 14 = .ok (.getstatic 39, 3) := by decide +kernel
theorem dAL_grow2_17 : decode cAL_grow2 17 = .ok (.if_acmp .eq 28, 3) := by decide +kernel
theorem dAL_grow2_20 : decode cAL_grow2 20 = .ok (.iload_n 2, 1) := by decide +kernel
theorem dAL_grow2_21 : decode cAL_grow2 21 = .ok (.iload_n 1, 1) := by decide +kernel
theorem dAL_grow2_22 : decode cAL_grow2 22 = .ok (.iload_n 2, 1) := by decide +kernel
theorem dAL_grow2_23 : decode cAL_grow2 23 = .ok (.isub, 1) := by decide +kernel
theorem dAL_grow2_24 : decode cAL_grow2 24 = .ok (.iload_n 2, 1) := by decide +kernel
theorem dAL_grow2_25 : decode cAL_grow2 25 = .ok (.iconst 1, 1) := by decide +kernel
theorem dAL_grow2_26 : decode cAL_grow2 26 = .ok (.ishr, 1) := by decide +kernel
theorem dAL_grow2_27 : decode cAL_grow2 27 = .ok (.invokestatic 73, 3) := by decide +kernel
theorem dAL_grow2_30 : decode cAL_grow2 30 = .ok (.istore_n 3, 1) := by decide +kernel
theorem dAL_grow2_31 : decode cAL_grow2 31 = .ok (.aload_n 0, 1) := by decide +kernel
theorem dAL_grow2_32 : decode cAL_grow2 32 = .ok (.aload_n 0, 1) := by decide +kernel
theorem dAL_grow2_33 : decode cAL_grow2 33 = .ok (.getfield 9, 3) := by decide +kernel
theorem dAL_grow2_36 : decode cAL_grow2 36 = .ok (.iload_n 3, 1) := by decide +kernel
theorem dAL_grow2_37 : decode cAL_grow2 37 = .ok (.invokestatic 66, 3) := by decide +kernel
theorem dAL_grow2_40 : decode cAL_grow2 40 = .ok (.dup_x1, 1) := by decide +kernel
theorem dAL_grow2_41 : decode cAL_grow2 41 = .ok (.putfield 9, 3) := by decide +kernel
theorem dAL_grow2_44 : decode cAL_grow2 44 = .ok (.areturn, 1) := by decide +kernel
theorem dAL_grow2_45 : decode cAL_grow2 45 = .ok (.aload_n 0, 1) := by decide +kernel
theorem dAL_grow2_46 : decode cAL_grow2 46 = .ok (.bipush 10, 2) := by decide +kernel
theorem dAL_grow2_48 : decode cAL_grow2 48 = .ok (.iload_n 1, 1) := by decide +kernel
theorem dAL_grow2_49 : decode cAL_grow2 49 = .ok (.invokestatic 79, 3) := by decide +kernel
theorem dAL_grow2_52 : decode cAL_grow2 52 = .ok (.anewarray 7, 3) := by decide +kernel
theorem dAL_grow2_55 : decode cAL_grow2 55 = .ok (.dup_x1, 1) := by decide +kernel
theorem dAL_grow2_56 : decode cAL_grow2 56 = .ok (.putfield 9, 3) := by decide +kernel
theorem dAL_grow2_59 : decode cAL_grow2 59 = .ok (.areturn, 1) := by decide +kernel
theorem dAL_grow_0 : decode cAL_grow 0 = .ok (.aload_n 0, 1) := by decide +kernel
theorem dAL_grow_1 : decode cAL_grow 1 = .ok (.aload_n 0, 1) := by decide +kernel
theorem dAL_grow_2 : decode cAL_grow 2 = .ok (.getfield 48, 3) := by decide +kernel
theorem dAL_grow_5 : decode cAL_grow 5 = .ok (.iconst 1, 1) := by decide +kernel
theorem dAL_grow_6 : decode cAL_grow 6 = .ok (.iadd, 1) := by decide +kernel
theorem dAL_grow_7 : decode cAL_grow 7 = .ok (.invokevirtual 69, 3) := by decide +kernel
theorem dAL_grow_10 : decode cAL_grow 10 = .ok (.areturn, 1) := by decide +kernel
theorem dAL_add2_0 : decode cAL_add2 0 = .ok (.iload_n 3, 1) := by decide +kernel
theorem dAL_add2_1 : decode cAL_add2 1 = .ok (.aload_n 2, 1) := by decide +kernel
theorem dAL_add2_2 : decode cAL_add2 2 = .ok (.arraylength, 1) := by decide +kernel
theorem dAL_add2_3 : decode cAL_add2 3 = .ok (.if_icmp .ne 8, 3) := by decide +kernel
theorem dAL_add2_6 : decode cAL_add2 6 = .ok (.aload_n 0, 1) := by decide +kernel
theorem dAL_add2_7 : decode cAL_add2 7 = .ok (.invokevirtual 129, 3) := by decide +kernel
theorem dAL_add2_10 : decode cAL_add2 10 = .ok (.astore_n 2, 1) := by decide +kernel
theorem dAL_add2_11 : decode cAL_add2 11 = .ok (.aload_n 2, 1) := by decide +kernel
theorem dAL_add2_12 : decode cAL_add2 12 = .ok (.iload_n 3, 1) := by decide +kernel
theorem dAL_add2_13 : decode cAL_add2 13 = .ok (.aload_n 1, 1) := by decide +kernel
theorem dAL_add2_14 : decode cAL_add2 14 = .ok (.aastore, 1) := by decide +kernel
theorem dAL_add2_15 : decode cAL_add2 15 = .ok (.aload_n 0, 1) := by decide +kernel
theorem dAL_add2_16 : decode cAL_add2 16 = .ok (.iload_n 3, 1) := by decide +kernel
theorem dAL_add2_17 : decode cAL_add2 17 = .ok (.iconst 1, 1) := by decide +kernel
theorem dAL_add2_18 : decode cAL_add2 18 = .ok (.iadd, 1) := by decide +kernel
theorem dAL_add2_19 : decode cAL_add2 19 = .ok (.putfield 48, 3) := by decide +kernel
theorem dAL_add2_22 : decode cAL_add2 22 = .ok (.return_, 1) := by decide +kernel
theorem dAL_add_0 : decode cAL_add 0 = .ok (.aload_n 0, 1) := by decide +kernel
theorem dAL_add_1 : decode cAL_add 1 = .ok (.dup, 1) := by decide +kernel
theorem dAL_add_2 : decode cAL_add 2 = .ok (.getfield 63, 3) := by decide +kernel
theorem dAL_add_5 : decode cAL_add 5 = .ok (.iconst 1, 1) := by decide +kernel
theorem dAL_add_6 : decode cAL_add 6 = .ok (.iadd, 1) := by decide +kernel
theorem dAL_add_7 : decode cAL_add 7 = .ok (.putfield 63, 3) := by decide +kernel
theorem dAL_add_10 : decode cAL_add 10 = .ok (.aload_n 0, 1) := by decide +kernel
theorem dAL_add_11 : decode cAL_add 11 = .ok (.aload_n 1, 1) := by decide +kernel
theorem dAL_add_12 : decode cAL_add 12 = .ok (.aload_n 0, 1) := by decide +kernel
theorem dAL_add_13 : decode cAL_add 13 = .ok (.getfield 9, 3) := by decide +kernel
theorem dAL_add_16 : decode cAL_add 16 = .ok (.aload_n 0, 1) := by decide +kernel
theorem dAL_add_17 : decode cAL_add 17 = .ok (.getfield 48, 3) := by decide +kernel
theorem dAL_add_20 : decode cAL_add 20 = .ok (.invokevirtual 131, 3) := by decide +kernel
theorem dAL_add_23 : decode cAL_add 23 = .ok (.iconst 1, 1) := by decide +kernel
theorem dAL_add_24 : decode cAL_add 24 = .ok (.ireturn, 1) := by decide +kernel
theorem dPC_checkIndex_0 : decode cPC_checkIndex 0 = .ok (.iload_n 0, 1) := by decide +kernel
theorem dPC_checkIndex_1 : decode cPC_checkIndex 1 = .ok (.ifCond .lt 8, 3) := by decide +kernel
theorem dPC_checkIndex_4 : decode cPC_checkIndex 4 = .ok (.iload_n 0, 1) := by decide +kernel
theorem dPC_checkIndex_5 : decode cPC_checkIndex 5 = .ok (.iload_n 1, 1) := by decide +kernel
theorem dPC_checkIndex_6 : decode cPC_checkIndex 6 = .ok (.if_icmp .lt 10, 3) := by decide +kernel
theorem dPC_checkIndex_9 : decode cPC_checkIndex 9 = .ok (.aload_n 2, 1) := by decide +kernel
theorem dPC_checkIndex_10 : decode cPC_checkIndex 10 = .ok (.iload_n 0, 1) := by decide +kernel
theorem dPC_checkIndex_11 : decode cPC_checkIndex 11 = .ok (.iload_n 1, 1) := by decide +kernel
theorem dPC_checkIndex_12 : decode cPC_checkIndex 12 = .ok (.invokestatic 95, 3) := by decide +kernel
theorem dPC_checkIndex_15 : decode cPC_checkIndex 15 = .ok (.athrow, 1) := by decide +kernel
theorem dPC_checkIndex_16 : decode cPC_checkIndex 16 = .ok (.iload_n 0, 1) := by decide +kernel
theorem dPC_checkIndex_17 : decode cPC_checkIndex 17 = .ok (.ireturn, 1) := by decide +kernel
theorem dOB_checkIndex_0 : decode cOB_checkIndex 0 = .ok (.iload_n 0, 1) := by decide +kernel
theorem dOB_checkIndex_1 : decode cOB_checkIndex 1 = .ok (.iload_n 1, 1) := by decide +kernel
theorem dOB_checkIndex_2 : decode cOB_checkIndex 2 = .ok (.aconst_null, 1) := by decide +kernel
theorem dOB_checkIndex_3 : decode cOB_checkIndex 3 = .ok (.invokestatic 105, 3) := by decide +kernel
theorem dOB_checkIndex_6 : decode cOB_checkIndex 6 = .ok (.ireturn, 1) := by decide +kernel
theorem dAL_elementData_0 : decode cAL_elementData 0 = .ok (.aload_n 0, 1) := by decide +kernel
theorem dAL_elementData_1 : decode cAL_elementData 1 = .ok (.getfield 9, 3) := by decide +kernel
theorem dAL_elementData_4 : decode cAL_elementData 4 = .ok (.iload_n 1, 1) := by decide +kernel
theorem dAL_elementData_5 : decode cAL_elementData 5 = .ok (.aaload, 1) := by decide +kernel
theorem dAL_elementData_6 : decode cAL_elementData 6 = .ok (.areturn, 1) := by decide +kernel
theorem dAL_get_0 : decode cAL_get 0 = .ok (.iload_n 1, 1) := by decide +kernel
theorem dAL_get_1 : decode cAL_get 1 = .ok (.aload_n 0, 1) := by decide +kernel
theorem dAL_get_2 : decode cAL_get 2 = .ok (.getfield 48, 3) := by decide +kernel
theorem dAL_get_5 : decode cAL_get 5 = .ok (.invokestatic 118, 3) := by decide +kernel
theorem dAL_get_8 : decode cAL_get 8 = .ok (.pop, 1) := by decide +kernel
theorem dAL_get_9 : decode cAL_get 9 = .ok (.aload_n 0, 1) := by decide +kernel
theorem dAL_get_10 : decode cAL_get 10 = .ok (.iload_n 1, 1) := by decide +kernel
theorem dAL_get_11 : decode cAL_get 11 = .ok (.invokevirtual 123, 3) := by decide +kernel
theorem dAL_get_14 : decode cAL_get 14 = .ok (.areturn, 1) := by decide +kernel
theorem dAL_isEmpty_0 : decode cAL_isEmpty 0 = .ok (.aload_n 0, 1) := by decide +kernel
theorem dAL_isEmpty_1 : decode cAL_isEmpty 1 = .ok (.getfield 48, 3) := by decide +kernel
theorem dAL_isEmpty_4 : decode cAL_isEmpty 4 = .ok (.ifCond .ne 7, 3) := by decide +kernel
theorem dAL_isEmpty_7 : decode cAL_isEmpty 7 = .ok (.iconst 1, 1) := by decide +kernel
theorem dAL_isEmpty_8 : decode cAL_isEmpty 8 = .ok (.goto 4, 3) := by decide +kernel
theorem dAL_isEmpty_11 : decode cAL_isEmpty 11 = .ok (.iconst 0, 1) := by decide +kernel
theorem dAL_isEmpty_12 : decode cAL_isEmpty 12 = .ok (.ireturn, 1) := by decide +kernel
