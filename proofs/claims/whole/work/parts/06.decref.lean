/-! decode rows: REF -/
theorem dMO_init_0 : decode cMO_init 0 = .ok (.aload_n 0, 1) := by decide +kernel
theorem dMO_init_1 : decode cMO_init 1 = .ok (.invokespecial 1, 3) := by decide +kernel
theorem dMO_init_4 : decode cMO_init 4 = .ok (.aload_n 0, 1) := by decide +kernel
theorem dMO_init_5 : decode cMO_init 5 = .ok (.bipush 61, 2) := by decide +kernel
theorem dMO_init_7 : decode cMO_init 7 = .ok (.newarray .int, 2) := by decide +kernel
theorem dMO_init_9 : decode cMO_init 9 = .ok (.putfield 7, 3) := by decide +kernel
theorem dMO_init_12 : decode cMO_init 12 = .ok (.aload_n 0, 1) := by decide +kernel
theorem dMO_init_13 : decode cMO_init 13 = .ok (.bipush 61, 2) := by decide +kernel
theorem dMO_init_15 : decode cMO_init 15 = .ok (.newarray .int, 2) := by decide +kernel
theorem dMO_init_17 : decode cMO_init 17 = .ok (.putfield 13, 3) := by decide +kernel
theorem dMO_init_20 : decode cMO_init 20 = .ok (.aload_n 0, 1) := by decide +kernel
theorem dMO_init_21 : decode cMO_init 21 = .ok (.bipush 61, 2) := by decide +kernel
theorem dMO_init_23 : decode cMO_init 23 = .ok (.newarray .long, 2) := by decide +kernel
theorem dMO_init_25 : decode cMO_init 25 = .ok (.putfield 16, 3) := by decide +kernel
theorem dMO_init_28 : decode cMO_init 28 = .ok (.aload_n 0, 1) := by decide +kernel
theorem dMO_init_29 : decode cMO_init 29 = .ok (.sipush 301, 3) := by decide +kernel
theorem dMO_init_32 : decode cMO_init 32 = .ok (.newarray .int, 2) := by decide +kernel
theorem dMO_init_34 : decode cMO_init 34 = .ok (.putfield 20, 3) := by decide +kernel
theorem dMO_init_37 : decode cMO_init 37 = .ok (.aload_n 0, 1) := by decide +kernel
theorem dMO_init_38 : decode cMO_init 38 = .ok (.sipush 301, 3) := by decide +kernel
theorem dMO_init_41 : decode cMO_init 41 = .ok (.newarray .long, 2) := by decide +kernel
theorem dMO_init_43 : decode cMO_init 43 = .ok (.putfield 23, 3) := by decide +kernel
theorem dMO_init_46 : decode cMO_init 46 = .ok (.aload_n 0, 1) := by decide +kernel
theorem dMO_init_47 : decode cMO_init 47 = .ok (.sipush 301, 3) := by decide +kernel
theorem dMO_init_50 : decode cMO_init 50 = .ok (.newarray .boolean, 2) := by decide +kernel
theorem dMO_init_52 : decode cMO_init 52 = .ok (.putfield 26, 3) := by decide +kernel
theorem dMO_init_55 : decode cMO_init 55 = .ok (.aload_n 0, 1) := by decide +kernel
theorem dMO_init_56 : decode cMO_init 56 = .ok (.sipush 301, 3) := by decide +kernel
theorem dMO_init_59 : decode cMO_init 59 = .ok (.newarray .boolean, 2) := by decide +kernel
theorem dMO_init_61 : decode cMO_init 61 = .ok (.putfield 30, 3) := by decide +kernel
theorem dMO_init_64 : decode cMO_init 64 = .ok (.aload_n 0, 1) := by decide +kernel
theorem dMO_init_65 : decode cMO_init 65 = .ok (.sipush 301, 3) := by decide +kernel
theorem dMO_init_68 : decode cMO_init 68 = .ok (.newarray .boolean, 2) := by decide +kernel
theorem dMO_init_70 : decode cMO_init 70 = .ok (.putfield 33, 3) := by decide +kernel
theorem dMO_init_73 : decode cMO_init 73 = .ok (.aload_n 0, 1) := by decide +kernel
theorem dMO_init_74 : decode cMO_init 74 = .ok (.sipush 301, 3) := by decide +kernel
theorem dMO_init_77 : decode cMO_init 77 = .ok (.newarray .int, 2) := by decide +kernel
theorem dMO_init_79 : decode cMO_init 79 = .ok (.putfield 36, 3) := by decide +kernel
theorem dMO_init_82 : decode cMO_init 82 = .ok (.aload_n 0, 1) := by decide +kernel
theorem dMO_init_83 : decode cMO_init 83 = .ok (.sipush 3612, 3) := by decide +kernel
theorem dMO_init_86 : decode cMO_init 86 = .ok (.newarray .int, 2) := by decide +kernel
theorem dMO_init_88 : decode cMO_init 88 = .ok (.putfield 39, 3) := by decide +kernel
theorem dMO_init_91 : decode cMO_init 91 = .ok (.aload_n 0, 1) := by decide +kernel
theorem dMO_init_92 : decode cMO_init 92 = .ok (.sipush 3612, 3) := by decide +kernel
theorem dMO_init_95 : decode cMO_init 95 = .ok (.newarray .long, 2) := by decide +kernel
theorem dMO_init_97 : decode cMO_init 97 = .ok (.putfield 42, 3) := by decide +kernel
theorem dMO_init_100 : decode cMO_init 100 = .ok (.aload_n 0, 1) := by decide +kernel
theorem dMO_init_101 : decode cMO_init 101 = .ok (.sipush 300, 3) := by decide +kernel
theorem dMO_init_104 : decode cMO_init 104 = .ok (.newarray .int, 2) := by decide +kernel
theorem dMO_init_106 : decode cMO_init 106 = .ok (.putfield 45, 3) := by decide +kernel
theorem dMO_init_109 : decode cMO_init 109 = .ok (.aload_n 0, 1) := by decide +kernel
theorem dMO_init_110 : decode cMO_init 110 = .ok (.ldc2_w 48, 3) := by decide +kernel
theorem dMO_init_113 : decode cMO_init 113 = .ok (.putfield 50, 3) := by decide +kernel
theorem dMO_init_116 : decode cMO_init 116 = .ok (.aload_n 0, 1) := by decide +kernel
theorem dMO_init_117 : decode cMO_init 117 = .ok (.ldc2_w 48, 3) := by decide +kernel
theorem dMO_init_120 : decode cMO_init 120 = .ok (.putfield 50, 3) := by decide +kernel
theorem dMO_init_123 : decode cMO_init 123 = .ok (.return_, 1) := by decide +kernel
theorem dMO_thrown_0 : decode cMO_thrown 0 = .ok (.aload_n 0, 1) := by decide +kernel
theorem dMO_thrown_1 : decode cMO_thrown 1 = .ok (.getfield 54, 3) := by decide +kernel
theorem dMO_thrown_4 : decode cMO_thrown 4 = .ok (.ireturn, 1) := by decide +kernel
theorem dMO_isIn_0 : decode cMO_isIn 0 = .ok (.lload_n 0, 1) := by decide +kernel
theorem dMO_isIn_1 : decode cMO_isIn 1 = .ok (.lload_n 2, 1) := by decide +kernel
theorem dMO_isIn_2 : decode cMO_isIn 2 = .ok (.lcmp, 1) := by decide +kernel
theorem dMO_isIn_3 : decode cMO_isIn 3 = .ok (.ifCond .lt 14, 3) := by decide +kernel
theorem dMO_isIn_6 : decode cMO_isIn 6 = .ok (.lload_n 0, 1) := by decide +kernel
theorem dMO_isIn_7 : decode cMO_isIn 7 = .ok (.lload 4, 2) := by decide +kernel
theorem dMO_isIn_9 : decode cMO_isIn 9 = .ok (.lcmp, 1) := by decide +kernel
theorem dMO_isIn_10 : decode cMO_isIn 10 = .ok (.ifCond .gt 7, 3) := by decide +kernel
theorem dMO_isIn_13 : decode cMO_isIn 13 = .ok (.iconst 1, 1) := by decide +kernel
theorem dMO_isIn_14 : decode cMO_isIn 14 = .ok (.goto 4, 3) := by decide +kernel
theorem dMO_isIn_17 : decode cMO_isIn 17 = .ok (.iconst 0, 1) := by decide +kernel
theorem dMO_isIn_18 : decode cMO_isIn 18 = .ok (.ireturn, 1) := by decide +kernel
theorem dMO_account_0 : decode cMO_account 0 = .ok (.aload_n 0, 1) := by decide +kernel
theorem dMO_account_1 : decode cMO_account 1 = .ok (.iconst 0, 1) := by decide +kernel
theorem dMO_account_2 : decode cMO_account 2 = .ok (.putfield 54, 3) := by decide +kernel
theorem dMO_account_5 : decode cMO_account 5 = .ok (.iload_n 1, 1) := by decide +kernel
theorem dMO_account_6 : decode cMO_account 6 = .ok (.i2l, 1) := by decide +kernel
theorem dMO_account_7 : decode cMO_account 7 = .ok (.lconst 0, 1) := by decide +kernel
theorem dMO_account_8 : decode cMO_account 8 = .ok (.ldc2_w 68, 3) := by decide +kernel
theorem dMO_account_11 : decode cMO_account 11 = .ok (.invokestatic 61, 3) := by decide +kernel
theorem dMO_account_14 : decode cMO_account 14 = .ok (.ifCond .eq 15, 3) := by decide +kernel
theorem dMO_account_17 : decode cMO_account 17 = .ok (.iload_n 2, 1) := by decide +kernel
theorem dMO_account_18 : decode cMO_account 18 = .ok (.i2l, 1) := by decide +kernel
theorem dMO_account_19 : decode cMO_account 19 = .ok (.lconst 0, 1) := by decide +kernel
theorem dMO_account_20 : decode cMO_account 20 = .ok (.ldc2_w 70, 3) := by decide +kernel
theorem dMO_account_23 : decode cMO_account 23 = .ok (.invokestatic 61, 3) := by decide +kernel
theorem dMO_account_26 : decode cMO_account 26 = .ok (.ifCond .ne 6, 3) := by decide +kernel
theorem dMO_account_29 : decode cMO_account 29 = .ok (.ldc 72, 2) := by decide +kernel
theorem dMO_account_31 : decode cMO_account 31 = .ok (.ireturn, 1) := by decide +kernel
theorem dMO_account_32 : decode cMO_account 32 = .ok (.aload_n 0, 1) := by decide +kernel
theorem dMO_account_33 : decode cMO_account 33 = .ok (.getfield 58, 3) := by decide +kernel
theorem dMO_account_36 : decode cMO_account 36 = .ok (.bipush 60, 2) := by decide +kernel
theorem dMO_account_38 : decode cMO_account 38 = .ok (.if_icmp .ne 6, 3) := by decide +kernel
theorem dMO_account_41 : decode cMO_account 41 = .ok (.ldc 73, 2) := by decide +kernel
theorem dMO_account_43 : decode cMO_account 43 = .ok (.ireturn, 1) := by decide +kernel
theorem dMO_account_44 : decode cMO_account 44 = .ok (.aload_n 0, 1) := by decide +kernel
theorem dMO_account_45 : decode cMO_account 45 = .ok (.dup, 1) := by decide +kernel
theorem dMO_account_46 : decode cMO_account 46 = .ok (.getfield 58, 3) := by decide +kernel
theorem dMO_account_49 : decode cMO_account 49 = .ok (.iconst 1, 1) := by decide +kernel
theorem dMO_account_50 : decode cMO_account 50 = .ok (.iadd, 1) := by decide +kernel
theorem dMO_account_51 : decode cMO_account 51 = .ok (.putfield 58, 3) := by decide +kernel
theorem dMO_account_54 : decode cMO_account 54 = .ok (.aload_n 0, 1) := by decide +kernel
theorem dMO_account_55 : decode cMO_account 55 = .ok (.getfield 7, 3) := by decide +kernel
theorem dMO_account_58 : decode cMO_account 58 = .ok (.aload_n 0, 1) := by decide +kernel
theorem dMO_account_59 : decode cMO_account 59 = .ok (.getfield 58, 3) := by decide +kernel
theorem dMO_account_62 : decode cMO_account 62 = .ok (.iload_n 1, 1) := by decide +kernel
theorem dMO_account_63 : decode cMO_account 63 = .ok (.iastore, 1) := by decide +kernel
theorem dMO_account_64 : decode cMO_account 64 = .ok (.aload_n 0, 1) := by decide +kernel
theorem dMO_account_65 : decode cMO_account 65 = .ok (.getfield 13, 3) := by decide +kernel
theorem dMO_account_68 : decode cMO_account 68 = .ok (.aload_n 0, 1) := by decide +kernel
theorem dMO_account_69 : decode cMO_account 69 = .ok (.getfield 58, 3) := by decide +kernel
theorem dMO_account_72 : decode cMO_account 72 = .ok (.iload_n 2, 1) := by decide +kernel
theorem dMO_account_73 : decode cMO_account 73 = .ok (.iastore, 1) := by decide +kernel
theorem dMO_account_74 : decode cMO_account 74 = .ok (.aload_n 0, 1) := by decide +kernel
theorem dMO_account_75 : decode cMO_account 75 = .ok (.getfield 58, 3) := by decide +kernel
theorem dMO_account_78 : decode cMO_account 78 = .ok (.ireturn, 1) := by decide +kernel
theorem dMO_make_0 : decode cMO_make 0 = .ok (.aload_n 0, 1) := by decide +kernel
theorem dMO_make_1 : decode cMO_make 1 = .ok (.dup, 1) := by decide +kernel
theorem dMO_make_2 : decode cMO_make 2 = .ok (.getfield 65, 3) := by decide +kernel
theorem dMO_make_5 : decode cMO_make 5 = .ok (.iconst 1, 1) := by decide +kernel
theorem dMO_make_6 : decode cMO_make 6 = .ok (.iadd, 1) := by decide +kernel
theorem dMO_make_7 : decode cMO_make 7 = .ok (.putfield 65, 3) := by decide +kernel
theorem dMO_make_10 : decode cMO_make 10 = .ok (.aload_n 0, 1) := by decide +kernel
theorem dMO_make_11 : decode cMO_make 11 = .ok (.getfield 20, 3) := by decide +kernel
theorem dMO_make_14 : decode cMO_make 14 = .ok (.aload_n 0, 1) := by decide +kernel
theorem dMO_make_15 : decode cMO_make 15 = .ok (.getfield 65, 3) := by decide +kernel
theorem dMO_make_18 : decode cMO_make 18 = .ok (.iconst 0, 1) := by decide +kernel
theorem dMO_make_19 : decode cMO_make 19 = .ok (.iastore, 1) := by decide +kernel
theorem dMO_make_20 : decode cMO_make 20 = .ok (.aload_n 0, 1) := by decide +kernel
theorem dMO_make_21 : decode cMO_make 21 = .ok (.getfield 23, 3) := by decide +kernel
theorem dMO_make_24 : decode cMO_make 24 = .ok (.aload_n 0, 1) := by decide +kernel
theorem dMO_make_25 : decode cMO_make 25 = .ok (.getfield 65, 3) := by decide +kernel
theorem dMO_make_28 : decode cMO_make 28 = .ok (.lload_n 1, 1) := by decide +kernel
theorem dMO_make_29 : decode cMO_make 29 = .ok (.lastore, 1) := by decide +kernel
theorem dMO_make_30 : decode cMO_make 30 = .ok (.aload_n 0, 1) := by decide +kernel
theorem dMO_make_31 : decode cMO_make 31 = .ok (.getfield 65, 3) := by decide +kernel
theorem dMO_make_34 : decode cMO_make 34 = .ok (.ireturn, 1) := by decide +kernel
theorem dMO_batch_0 : decode cMO_batch 0 = .ok (.aload_n 0, 1) := by decide +kernel
theorem dMO_batch_1 : decode cMO_batch 1 = .ok (.iconst 0, 1) := by decide +kernel
theorem dMO_batch_2 : decode cMO_batch 2 = .ok (.putfield 54, 3) := by decide +kernel
theorem dMO_batch_5 : decode cMO_batch 5 = .ok (.lload_n 1, 1) := by decide +kernel
theorem dMO_batch_6 : decode cMO_batch 6 = .ok (.lconst 0, 1) := by decide +kernel
theorem dMO_batch_7 : decode cMO_batch 7 = .ok (.ldc2_w 74, 3) := by decide +kernel
theorem dMO_batch_10 : decode cMO_batch 10 = .ok (.invokestatic 61, 3) := by decide +kernel
theorem dMO_batch_13 : decode cMO_batch 13 = .ok (.ifCond .ne 6, 3) := by decide +kernel
theorem dMO_batch_16 : decode cMO_batch 16 = .ok (.ldc 72, 2) := by decide +kernel
theorem dMO_batch_18 : decode cMO_batch 18 = .ok (.ireturn, 1) := by decide +kernel
theorem dMO_batch_19 : decode cMO_batch 19 = .ok (.lload_n 1, 1) := by decide +kernel
theorem dMO_batch_20 : decode cMO_batch 20 = .ok (.aload_n 0, 1) := by decide +kernel
theorem dMO_batch_21 : decode cMO_batch 21 = .ok (.getfield 50, 3) := by decide +kernel
theorem dMO_batch_24 : decode cMO_batch 24 = .ok (.lcmp, 1) := by decide +kernel
theorem dMO_batch_25 : decode cMO_batch 25 = .ok (.ifCond .gt 8, 3) := by decide +kernel
theorem dMO_batch_28 : decode cMO_batch 28 = .ok (.ldc 76, 2) := by decide +kernel
theorem dMO_batch_30 : decode cMO_batch 30 = .ok (.goto 23, 3) := by decide +kernel
theorem dMO_batch_33 : decode cMO_batch 33 = .ok (.aload_n 0, 1) := by decide +kernel
theorem dMO_batch_34 : decode cMO_batch 34 = .ok (.getfield 65, 3) := by decide +kernel
theorem dMO_batch_37 : decode cMO_batch 37 = .ok (.sipush 300, 3) := by decide +kernel
theorem dMO_batch_40 : decode cMO_batch 40 = .ok (.if_icmp .ne 8, 3) := by decide +kernel
theorem dMO_batch_43 : decode cMO_batch 43 = .ok (.ldc 73, 2) := by decide +kernel
theorem dMO_batch_45 : decode cMO_batch 45 = .ok (.goto 8, 3) := by decide +kernel
theorem dMO_batch_48 : decode cMO_batch 48 = .ok (.aload_n 0, 1) := by decide +kernel
theorem dMO_batch_49 : decode cMO_batch 49 = .ok (.lload_n 1, 1) := by decide +kernel
theorem dMO_batch_50 : decode cMO_batch 50 = .ok (.invokevirtual 77, 3) := by decide +kernel
theorem dMO_batch_53 : decode cMO_batch 53 = .ok (.ireturn, 1) := by decide +kernel
theorem dMO_isBatch_0 : decode cMO_isBatch 0 = .ok (.iload_n 1, 1) := by decide +kernel
theorem dMO_isBatch_1 : decode cMO_isBatch 1 = .ok (.i2l, 1) := by decide +kernel
theorem dMO_isBatch_2 : decode cMO_isBatch 2 = .ok (.lconst 1, 1) := by decide +kernel
theorem dMO_isBatch_3 : decode cMO_isBatch 3 = .ok (.aload_n 0, 1) := by decide +kernel
theorem dMO_isBatch_4 : decode cMO_isBatch 4 = .ok (.getfield 65, 3) := by decide +kernel
theorem dMO_isBatch_7 : decode cMO_isBatch 7 = .ok (.i2l, 1) := by decide +kernel
theorem dMO_isBatch_8 : decode cMO_isBatch 8 = .ok (.invokestatic 61, 3) := by decide +kernel
theorem dMO_isBatch_11 : decode cMO_isBatch 11 = .ok (.ireturn, 1) := by decide +kernel
theorem dMO_isAccount_0 : decode cMO_isAccount 0 = .ok (.iload_n 1, 1) := by decide +kernel
theorem dMO_isAccount_1 : decode cMO_isAccount 1 = .ok (.i2l, 1) := by decide +kernel
theorem dMO_isAccount_2 : decode cMO_isAccount 2 = .ok (.lconst 1, 1) := by decide +kernel
theorem dMO_isAccount_3 : decode cMO_isAccount 3 = .ok (.aload_n 0, 1) := by decide +kernel
theorem dMO_isAccount_4 : decode cMO_isAccount 4 = .ok (.getfield 58, 3) := by decide +kernel
theorem dMO_isAccount_7 : decode cMO_isAccount 7 = .ok (.i2l, 1) := by decide +kernel
theorem dMO_isAccount_8 : decode cMO_isAccount 8 = .ok (.invokestatic 61, 3) := by decide +kernel
theorem dMO_isAccount_11 : decode cMO_isAccount 11 = .ok (.ireturn, 1) := by decide +kernel
theorem dMO_put_0 : decode cMO_put 0 = .ok (.aload_n 0, 1) := by decide +kernel
theorem dMO_put_1 : decode cMO_put 1 = .ok (.getfield 39, 3) := by decide +kernel
theorem dMO_put_4 : decode cMO_put 4 = .ok (.bipush 12, 2) := by decide +kernel
theorem dMO_put_6 : decode cMO_put 6 = .ok (.iload_n 1, 1) := by decide +kernel
theorem dMO_put_7 : decode cMO_put 7 = .ok (.imul, 1) := by decide +kernel
theorem dMO_put_8 : decode cMO_put 8 = .ok (.aload_n 0, 1) := by decide +kernel
theorem dMO_put_9 : decode cMO_put 9 = .ok (.getfield 36, 3) := by decide +kernel
theorem dMO_put_12 : decode cMO_put 12 = .ok (.iload_n 1, 1) := by decide +kernel
theorem dMO_put_13 : decode cMO_put 13 = .ok (.iaload, 1) := by decide +kernel
theorem dMO_put_14 : decode cMO_put 14 = .ok (.iadd, 1) := by decide +kernel
theorem dMO_put_15 : decode cMO_put 15 = .ok (.iload_n 2, 1) := by decide +kernel
theorem dMO_put_16 : decode cMO_put 16 = .ok (.iastore, 1) := by decide +kernel
theorem dMO_put_17 : decode cMO_put 17 = .ok (.aload_n 0, 1) := by decide +kernel
theorem dMO_put_18 : decode cMO_put 18 = .ok (.getfield 42, 3) := by decide +kernel
theorem dMO_put_21 : decode cMO_put 21 = .ok (.bipush 12, 2) := by decide +kernel
theorem dMO_put_23 : decode cMO_put 23 = .ok (.iload_n 1, 1) := by decide +kernel
theorem dMO_put_24 : decode cMO_put 24 = .ok (.imul, 1) := by decide +kernel
theorem dMO_put_25 : decode cMO_put 25 = .ok (.aload_n 0, 1) := by decide +kernel
theorem dMO_put_26 : decode cMO_put 26 = .ok (.getfield 36, 3) := by decide +kernel
theorem dMO_put_29 : decode cMO_put 29 = .ok (.iload_n 1, 1) := by decide +kernel
theorem dMO_put_30 : decode cMO_put 30 = .ok (.iaload, 1) := by decide +kernel
theorem dMO_put_31 : decode cMO_put 31 = .ok (.iadd, 1) := by decide +kernel
theorem dMO_put_32 : decode cMO_put 32 = .ok (.lload_n 3, 1) := by decide +kernel
theorem dMO_put_33 : decode cMO_put 33 = .ok (.lastore, 1) := by decide +kernel
theorem dMO_put_34 : decode cMO_put 34 = .ok (.aload_n 0, 1) := by decide +kernel
theorem dMO_put_35 : decode cMO_put 35 = .ok (.getfield 36, 3) := by decide +kernel
theorem dMO_put_38 : decode cMO_put 38 = .ok (.iload_n 1, 1) := by decide +kernel
theorem dMO_put_39 : decode cMO_put 39 = .ok (.dup2, 1) := by decide +kernel
theorem dMO_put_40 : decode cMO_put 40 = .ok (.iaload, 1) := by decide +kernel
theorem dMO_put_41 : decode cMO_put 41 = .ok (.iconst 1, 1) := by decide +kernel
theorem dMO_put_42 : decode cMO_put 42 = .ok (.iadd, 1) := by decide +kernel
theorem dMO_put_43 : decode cMO_put 43 = .ok (.iastore, 1) := by decide +kernel
theorem dMO_put_44 : decode cMO_put 44 = .ok (.return_, 1) := by decide +kernel
theorem dMO_row_0 : decode cMO_row 0 = .ok (.aload_n 0, 1) := by decide +kernel
theorem dMO_row_1 : decode cMO_row 1 = .ok (.iconst 0, 1) := by decide +kernel
theorem dMO_row_2 : decode cMO_row 2 = .ok (.putfield 54, 3) := by decide +kernel
theorem dMO_row_5 : decode cMO_row 5 = .ok (.aload_n 0, 1) := by decide +kernel
theorem dMO_row_6 : decode cMO_row 6 = .ok (.iload_n 1, 1) := by decide +kernel
theorem dMO_row_7 : decode cMO_row 7 = .ok (.invokevirtual 81, 3) := by decide +kernel
theorem dMO_row_10 : decode cMO_row 10 = .ok (.ifCond .eq 34, 3) := by decide +kernel
theorem dMO_row_13 : decode cMO_row 13 = .ok (.aload_n 0, 1) := by decide +kernel
theorem dMO_row_14 : decode cMO_row 14 = .ok (.iload_n 2, 1) := by decide +kernel
theorem dMO_row_15 : decode cMO_row 15 = .ok (.invokevirtual 85, 3) := by decide +kernel
theorem dMO_row_18 : decode cMO_row 18 = .ok (.ifCond .eq 26, 3) := by decide +kernel
theorem dMO_row_21 : decode cMO_row 21 = .ok (.lload_n 3, 1) := by decide +kernel
theorem dMO_row_22 : decode cMO_row 22 = .ok (.lconst 0, 1) := by decide +kernel
theorem dMO_row_23 : decode cMO_row 23 = .ok (.lcmp, 1) := by decide +kernel
theorem dMO_row_24 : decode cMO_row 24 = .ok (.ifCond .eq 20, 3) := by decide +kernel
theorem dMO_row_27 : decode cMO_row 27 = .ok (.lload_n 3, 1) := by decide +kernel
theorem dMO_row_28 : decode cMO_row 28 = .ok (.ldc2_w 88, 3) := by decide +kernel
theorem dMO_row_31 : decode cMO_row 31 = .ok (.ldc2_w 90, 3) := by decide +kernel
theorem dMO_row_34 : decode cMO_row 34 = .ok (.invokestatic 61, 3) := by decide +kernel
theorem dMO_row_37 : decode cMO_row 37 = .ok (.ifCond .eq 7, 3) := by decide +kernel
theorem dMO_row_40 : decode cMO_row 40 = .ok (.iconst 1, 1) := by decide +kernel
theorem dMO_row_41 : decode cMO_row 41 = .ok (.goto 4, 3) := by decide +kernel
theorem dMO_row_44 : decode cMO_row 44 = .ok (.iconst 0, 1) := by decide +kernel
theorem dMO_row_45 : decode cMO_row 45 = .ok (.istore 5, 2) := by decide +kernel
theorem dMO_row_47 : decode cMO_row 47 = .ok (.iload 5, 2) := by decide +kernel
theorem dMO_row_49 : decode cMO_row 49 = .ok (.ifCond .eq 27, 3) := by decide +kernel
theorem dMO_row_52 : decode cMO_row 52 = .ok (.aload_n 0, 1) := by decide +kernel
theorem dMO_row_53 : decode cMO_row 53 = .ok (.getfield 20, 3) := by decide +kernel
theorem dMO_row_56 : decode cMO_row 56 = .ok (.iload_n 1, 1) := by decide +kernel
theorem dMO_row_57 : decode cMO_row 57 = .ok (.iaload, 1) := by decide +kernel
theorem dMO_row_58 : decode cMO_row 58 = .ok (.ifCond .ne 18, 3) := by decide +kernel
theorem dMO_row_61 : decode cMO_row 61 = .ok (.aload_n 0, 1) := by decide +kernel
theorem dMO_row_62 : decode cMO_row 62 = .ok (.getfield 36, 3) := by decide +kernel
theorem dMO_row_65 : decode cMO_row 65 = .ok (.iload_n 1, 1) := by decide +kernel
theorem dMO_row_66 : decode cMO_row 66 = .ok (.iaload, 1) := by decide +kernel
theorem dMO_row_67 : decode cMO_row 67 = .ok (.bipush 12, 2) := by decide +kernel
theorem dMO_row_69 : decode cMO_row 69 = .ok (.if_icmp .ge 7, 3) := by decide +kernel
theorem dMO_row_72 : decode cMO_row 72 = .ok (.iconst 1, 1) := by decide +kernel
theorem dMO_row_73 : decode cMO_row 73 = .ok (.goto 4, 3) := by decide +kernel
theorem dMO_row_76 : decode cMO_row 76 = .ok (.iconst 0, 1) := by decide +kernel
theorem dMO_row_77 : decode cMO_row 77 = .ok (.istore 5, 2) := by decide +kernel
theorem dMO_row_79 : decode cMO_row 79 = .ok (.iload 5, 2) := by decide +kernel
theorem dMO_row_81 : decode cMO_row 81 = .ok (.ifCond .eq 10, 3) := by decide +kernel
theorem dMO_row_84 : decode cMO_row 84 = .ok (.aload_n 0, 1) := by decide +kernel
theorem dMO_row_85 : decode cMO_row 85 = .ok (.iload_n 1, 1) := by decide +kernel
theorem dMO_row_86 : decode cMO_row 86 = .ok (.iload_n 2, 1) := by decide +kernel
theorem dMO_row_87 : decode cMO_row 87 = .ok (.lload_n 3, 1) := by decide +kernel
theorem dMO_row_88 : decode cMO_row 88 = .ok (.invokevirtual 92, 3) := by decide +kernel
theorem dMO_row_91 : decode cMO_row 91 = .ok (.iload 5, 2) := by decide +kernel
theorem dMO_row_93 : decode cMO_row 93 = .ok (.ireturn, 1) := by decide +kernel
theorem dMO_part_0 : decode cMO_part 0 = .ok (.lconst 0, 1) := by decide +kernel
theorem dMO_part_1 : decode cMO_part 1 = .ok (.lstore 4, 2) := by decide +kernel
theorem dMO_part_3 : decode cMO_part 3 = .ok (.iconst 0, 1) := by decide +kernel
theorem dMO_part_4 : decode cMO_part 4 = .ok (.istore 6, 2) := by decide +kernel
theorem dMO_part_6 : decode cMO_part 6 = .ok (.iload 6, 2) := by decide +kernel
theorem dMO_part_8 : decode cMO_part 8 = .ok (.iload_n 2, 1) := by decide +kernel
theorem dMO_part_9 : decode cMO_part 9 = .ok (.if_icmp .ge 47, 3) := by decide +kernel
theorem dMO_part_12 : decode cMO_part 12 = .ok (.aload_n 0, 1) := by decide +kernel
theorem dMO_part_13 : decode cMO_part 13 = .ok (.getfield 39, 3) := by decide +kernel
theorem dMO_part_16 : decode cMO_part 16 = .ok (.bipush 12, 2) := by decide +kernel
theorem dMO_part_18 : decode cMO_part 18 = .ok (.iload_n 1, 1) := by decide +kernel
theorem dMO_part_19 : decode cMO_part 19 = .ok (.imul, 1) := by decide +kernel
theorem dMO_part_20 : decode cMO_part 20 = .ok (.iload 6, 2) := by decide +kernel
theorem dMO_part_22 : decode cMO_part 22 = .ok (.iadd, 1) := by decide +kernel
theorem dMO_part_23 : decode cMO_part 23 = .ok (.iaload, 1) := by decide +kernel
theorem dMO_part_24 : decode cMO_part 24 = .ok (.iload_n 3, 1) := by decide +kernel
theorem dMO_part_25 : decode cMO_part 25 = .ok (.if_icmp .ne 21, 3) := by decide +kernel
theorem dMO_part_28 : decode cMO_part 28 = .ok (.lload 4, 2) := by decide +kernel
theorem dMO_part_30 : decode cMO_part 30 = .ok (.aload_n 0, 1) := by decide +kernel
theorem dMO_part_31 : decode cMO_part 31 = .ok (.getfield 42, 3) := by decide +kernel
theorem dMO_part_34 : decode cMO_part 34 = .ok (.bipush 12, 2) := by decide +kernel
theorem dMO_part_36 : decode cMO_part 36 = .ok (.iload_n 1, 1) := by decide +kernel
theorem dMO_part_37 : decode cMO_part 37 = .ok (.imul, 1) := by decide +kernel
theorem dMO_part_38 : decode cMO_part 38 = .ok (.iload 6, 2) := by decide +kernel
theorem dMO_part_40 : decode cMO_part 40 = .ok (.iadd, 1) := by decide +kernel
theorem dMO_part_41 : decode cMO_part 41 = .ok (.laload, 1) := by decide +kernel
theorem dMO_part_42 : decode cMO_part 42 = .ok (.ladd, 1) := by decide +kernel
theorem dMO_part_43 : decode cMO_part 43 = .ok (.goto 5, 3) := by decide +kernel
theorem dMO_part_46 : decode cMO_part 46 = .ok (.lload 4, 2) := by decide +kernel
theorem dMO_part_48 : decode cMO_part 48 = .ok (.lstore 4, 2) := by decide +kernel
theorem dMO_part_50 : decode cMO_part 50 = .ok (.iinc 6 1, 3) := by decide +kernel
theorem dMO_part_53 : decode cMO_part 53 = .ok (.goto (-47), 3) := by decide +kernel
theorem dMO_part_56 : decode cMO_part 56 = .ok (.lload 4, 2) := by decide +kernel
theorem dMO_part_58 : decode cMO_part 58 = .ok (.lreturn, 1) := by decide +kernel
theorem dMO_balanceOf_0 : decode cMO_balanceOf 0 = .ok (.lconst 0, 1) := by decide +kernel
theorem dMO_balanceOf_1 : decode cMO_balanceOf 1 = .ok (.lstore 4, 2) := by decide +kernel
theorem dMO_balanceOf_3 : decode cMO_balanceOf 3 = .ok (.iconst 0, 1) := by decide +kernel
theorem dMO_balanceOf_4 : decode cMO_balanceOf 4 = .ok (.istore 6, 2) := by decide +kernel
theorem dMO_balanceOf_6 : decode cMO_balanceOf 6 = .ok (.iload 6, 2) := by decide +kernel
theorem dMO_balanceOf_8 : decode cMO_balanceOf 8 = .ok (.aload_n 0, 1) := by decide +kernel
theorem dMO_balanceOf_9 : decode cMO_balanceOf 9 = .ok (.getfield 96, 3) := by decide +kernel
theorem dMO_balanceOf_12 : decode cMO_balanceOf 12 = .ok (.if_icmp .ge 54, 3) := by decide +kernel
theorem dMO_balanceOf_15 : decode cMO_balanceOf 15 = .ok (.aload_n 0, 1) := by decide +kernel
theorem dMO_balanceOf_16 : decode cMO_balanceOf 16 = .ok (.getfield 45, 3) := by decide +kernel
theorem dMO_balanceOf_19 : decode cMO_balanceOf 19 = .ok (.iload 6, 2) := by decide +kernel
theorem dMO_balanceOf_21 : decode cMO_balanceOf 21 = .ok (.iaload, 1) := by decide +kernel
theorem dMO_balanceOf_22 : decode cMO_balanceOf 22 = .ok (.istore 7, 2) := by decide +kernel
theorem dMO_balanceOf_24 : decode cMO_balanceOf 24 = .ok (.aload_n 0, 1) := by decide +kernel
theorem dMO_balanceOf_25 : decode cMO_balanceOf 25 = .ok (.getfield 23, 3) := by decide +kernel
theorem dMO_balanceOf_28 : decode cMO_balanceOf 28 = .ok (.iload 7, 2) := by decide +kernel
theorem dMO_balanceOf_30 : decode cMO_balanceOf 30 = .ok (.laload, 1) := by decide +kernel
theorem dMO_balanceOf_31 : decode cMO_balanceOf 31 = .ok (.lload_n 2, 1) := by decide +kernel
theorem dMO_balanceOf_32 : decode cMO_balanceOf 32 = .ok (.lcmp, 1) := by decide +kernel
theorem dMO_balanceOf_33 : decode cMO_balanceOf 33 = .ok (.ifCond .gt 23, 3) := by decide +kernel
theorem dMO_balanceOf_36 : decode cMO_balanceOf 36 = .ok (.lload 4, 2) := by decide +kernel
theorem dMO_balanceOf_38 : decode cMO_balanceOf 38 = .ok (.aload_n 0, 1) := by decide +kernel
theorem dMO_balanceOf_39 : decode cMO_balanceOf 39 = .ok (.iload 7, 2) := by decide +kernel
theorem dMO_balanceOf_41 : decode cMO_balanceOf 41 = .ok (.aload_n 0, 1) := by decide +kernel
theorem dMO_balanceOf_42 : decode cMO_balanceOf 42 = .ok (.getfield 36, 3) := by decide +kernel
theorem dMO_balanceOf_45 : decode cMO_balanceOf 45 = .ok (.iload 7, 2) := by decide +kernel
theorem dMO_balanceOf_47 : decode cMO_balanceOf 47 = .ok (.iaload, 1) := by decide +kernel
theorem dMO_balanceOf_48 : decode cMO_balanceOf 48 = .ok (.iload_n 1, 1) := by decide +kernel
theorem dMO_balanceOf_49 : decode cMO_balanceOf 49 = .ok (.invokevirtual 99, 3) := by decide +kernel
theorem dMO_balanceOf_52 : decode cMO_balanceOf 52 = .ok (.ladd, 1) := by decide +kernel
theorem dMO_balanceOf_53 : decode cMO_balanceOf 53 = .ok (.goto 5, 3) := by decide +kernel
theorem dMO_balanceOf_56 : decode cMO_balanceOf 56 = .ok (.lload 4, 2) := by decide +kernel
theorem dMO_balanceOf_58 : decode cMO_balanceOf 58 = .ok (.lstore 4, 2) := by decide +kernel
theorem dMO_balanceOf_60 : decode cMO_balanceOf 60 = .ok (.iinc 6 1, 3) := by decide +kernel
theorem dMO_balanceOf_63 : decode cMO_balanceOf 63 = .ok (.goto (-57), 3) := by decide +kernel
theorem dMO_balanceOf_66 : decode cMO_balanceOf 66 = .ok (.lload 4, 2) := by decide +kernel
theorem dMO_balanceOf_68 : decode cMO_balanceOf 68 = .ok (.lreturn, 1) := by decide +kernel
theorem dMO_stops_0 : decode cMO_stops 0 = .ok (.lconst 0, 1) := by decide +kernel
theorem dMO_stops_1 : decode cMO_stops 1 = .ok (.lstore_n 2, 1) := by decide +kernel
theorem dMO_stops_2 : decode cMO_stops 2 = .ok (.iconst 0, 1) := by decide +kernel
theorem dMO_stops_3 : decode cMO_stops 3 = .ok (.istore 4, 2) := by decide +kernel
theorem dMO_stops_5 : decode cMO_stops 5 = .ok (.iload 4, 2) := by decide +kernel
theorem dMO_stops_7 : decode cMO_stops 7 = .ok (.aload_n 0, 1) := by decide +kernel
theorem dMO_stops_8 : decode cMO_stops 8 = .ok (.getfield 36, 3) := by decide +kernel
theorem dMO_stops_11 : decode cMO_stops 11 = .ok (.iload_n 1, 1) := by decide +kernel
theorem dMO_stops_12 : decode cMO_stops 12 = .ok (.iaload, 1) := by decide +kernel
theorem dMO_stops_13 : decode cMO_stops 13 = .ok (.if_icmp .ge 24, 3) := by decide +kernel
theorem dMO_stops_16 : decode cMO_stops 16 = .ok (.lload_n 2, 1) := by decide +kernel
theorem dMO_stops_17 : decode cMO_stops 17 = .ok (.aload_n 0, 1) := by decide +kernel
theorem dMO_stops_18 : decode cMO_stops 18 = .ok (.getfield 42, 3) := by decide +kernel
theorem dMO_stops_21 : decode cMO_stops 21 = .ok (.bipush 12, 2) := by decide +kernel
theorem dMO_stops_23 : decode cMO_stops 23 = .ok (.iload_n 1, 1) := by decide +kernel
theorem dMO_stops_24 : decode cMO_stops 24 = .ok (.imul, 1) := by decide +kernel
theorem dMO_stops_25 : decode cMO_stops 25 = .ok (.iload 4, 2) := by decide +kernel
theorem dMO_stops_27 : decode cMO_stops 27 = .ok (.iadd, 1) := by decide +kernel
theorem dMO_stops_28 : decode cMO_stops 28 = .ok (.laload, 1) := by decide +kernel
theorem dMO_stops_29 : decode cMO_stops 29 = .ok (.ladd, 1) := by decide +kernel
theorem dMO_stops_30 : decode cMO_stops 30 = .ok (.lstore_n 2, 1) := by decide +kernel
theorem dMO_stops_31 : decode cMO_stops 31 = .ok (.iinc 4 1, 3) := by decide +kernel
theorem dMO_stops_34 : decode cMO_stops 34 = .ok (.goto (-29), 3) := by decide +kernel
theorem dMO_stops_37 : decode cMO_stops 37 = .ok (.aload_n 0, 1) := by decide +kernel
theorem dMO_stops_38 : decode cMO_stops 38 = .ok (.getfield 36, 3) := by decide +kernel
theorem dMO_stops_41 : decode cMO_stops 41 = .ok (.iload_n 1, 1) := by decide +kernel
theorem dMO_stops_42 : decode cMO_stops 42 = .ok (.iaload, 1) := by decide +kernel
theorem dMO_stops_43 : decode cMO_stops 43 = .ok (.ifCond .eq 9, 3) := by decide +kernel
theorem dMO_stops_46 : decode cMO_stops 46 = .ok (.lload_n 2, 1) := by decide +kernel
theorem dMO_stops_47 : decode cMO_stops 47 = .ok (.lconst 0, 1) := by decide +kernel
theorem dMO_stops_48 : decode cMO_stops 48 = .ok (.lcmp, 1) := by decide +kernel
theorem dMO_stops_49 : decode cMO_stops 49 = .ok (.ifCond .eq 5, 3) := by decide +kernel
theorem dMO_stops_52 : decode cMO_stops 52 = .ok (.iconst (-1), 1) := by decide +kernel
theorem dMO_stops_53 : decode cMO_stops 53 = .ok (.ireturn, 1) := by decide +kernel
theorem dMO_stops_54 : decode cMO_stops 54 = .ok (.iconst 0, 1) := by decide +kernel
theorem dMO_stops_55 : decode cMO_stops 55 = .ok (.istore 4, 2) := by decide +kernel
theorem dMO_stops_57 : decode cMO_stops 57 = .ok (.iconst 1, 1) := by decide +kernel
theorem dMO_stops_58 : decode cMO_stops 58 = .ok (.istore 5, 2) := by decide +kernel
theorem dMO_stops_60 : decode cMO_stops 60 = .ok (.iload 4, 2) := by decide +kernel
theorem dMO_stops_62 : decode cMO_stops 62 = .ok (.aload_n 0, 1) := by decide +kernel
theorem dMO_stops_63 : decode cMO_stops 63 = .ok (.getfield 36, 3) := by decide +kernel
theorem dMO_stops_66 : decode cMO_stops 66 = .ok (.iload_n 1, 1) := by decide +kernel
theorem dMO_stops_67 : decode cMO_stops 67 = .ok (.iaload, 1) := by decide +kernel
theorem dMO_stops_68 : decode cMO_stops 68 = .ok (.if_icmp .ge 130, 3) := by decide +kernel
theorem dMO_stops_71 : decode cMO_stops 71 = .ok (.iload 5, 2) := by decide +kernel
theorem dMO_stops_73 : decode cMO_stops 73 = .ok (.ifCond .eq 125, 3) := by decide +kernel
theorem dMO_stops_76 : decode cMO_stops 76 = .ok (.aload_n 0, 1) := by decide +kernel
theorem dMO_stops_77 : decode cMO_stops 77 = .ok (.getfield 39, 3) := by decide +kernel
theorem dMO_stops_80 : decode cMO_stops 80 = .ok (.bipush 12, 2) := by decide +kernel
theorem dMO_stops_82 : decode cMO_stops 82 = .ok (.iload_n 1, 1) := by decide +kernel
theorem dMO_stops_83 : decode cMO_stops 83 = .ok (.imul, 1) := by decide +kernel
theorem dMO_stops_84 : decode cMO_stops 84 = .ok (.iload 4, 2) := by decide +kernel
theorem dMO_stops_86 : decode cMO_stops 86 = .ok (.iadd, 1) := by decide +kernel
theorem dMO_stops_87 : decode cMO_stops 87 = .ok (.iaload, 1) := by decide +kernel
theorem dMO_stops_88 : decode cMO_stops 88 = .ok (.istore 6, 2) := by decide +kernel
theorem dMO_stops_90 : decode cMO_stops 90 = .ok (.aload_n 0, 1) := by decide +kernel
theorem dMO_stops_91 : decode cMO_stops 91 = .ok (.getfield 30, 3) := by decide +kernel
theorem dMO_stops_94 : decode cMO_stops 94 = .ok (.iload_n 1, 1) := by decide +kernel
theorem dMO_stops_95 : decode cMO_stops 95 = .ok (.baload, 1) := by decide +kernel
theorem dMO_stops_96 : decode cMO_stops 96 = .ok (.ifCond .ne 35, 3) := by decide +kernel
theorem dMO_stops_99 : decode cMO_stops 99 = .ok (.aload_n 0, 1) := by decide +kernel
theorem dMO_stops_100 : decode cMO_stops 100 = .ok (.getfield 13, 3) := by decide +kernel
theorem dMO_stops_103 : decode cMO_stops 103 = .ok (.iload 6, 2) := by decide +kernel
theorem dMO_stops_105 : decode cMO_stops 105 = .ok (.iaload, 1) := by decide +kernel
theorem dMO_stops_106 : decode cMO_stops 106 = .ok (.iconst 3, 1) := by decide +kernel
theorem dMO_stops_107 : decode cMO_stops 107 = .ok (.if_icmp .ne 24, 3) := by decide +kernel
theorem dMO_stops_110 : decode cMO_stops 110 = .ok (.aload_n 0, 1) := by decide +kernel
theorem dMO_stops_111 : decode cMO_stops 111 = .ok (.getfield 42, 3) := by decide +kernel
theorem dMO_stops_114 : decode cMO_stops 114 = .ok (.bipush 12, 2) := by decide +kernel
theorem dMO_stops_116 : decode cMO_stops 116 = .ok (.iload_n 1, 1) := by decide +kernel
theorem dMO_stops_117 : decode cMO_stops 117 = .ok (.imul, 1) := by decide +kernel
theorem dMO_stops_118 : decode cMO_stops 118 = .ok (.iload 4, 2) := by decide +kernel
theorem dMO_stops_120 : decode cMO_stops 120 = .ok (.iadd, 1) := by decide +kernel
theorem dMO_stops_121 : decode cMO_stops 121 = .ok (.laload, 1) := by decide +kernel
theorem dMO_stops_122 : decode cMO_stops 122 = .ok (.lconst 0, 1) := by decide +kernel
theorem dMO_stops_123 : decode cMO_stops 123 = .ok (.lcmp, 1) := by decide +kernel
theorem dMO_stops_124 : decode cMO_stops 124 = .ok (.ifCond .ge 7, 3) := by decide +kernel
theorem dMO_stops_127 : decode cMO_stops 127 = .ok (.iconst 1, 1) := by decide +kernel
theorem dMO_stops_128 : decode cMO_stops 128 = .ok (.goto 4, 3) := by decide +kernel
theorem dMO_stops_131 : decode cMO_stops 131 = .ok (.iconst 0, 1) := by decide +kernel
theorem dMO_stops_132 : decode cMO_stops 132 = .ok (.istore 7, 2) := by decide +kernel
theorem dMO_stops_134 : decode cMO_stops 134 = .ok (.iload 7, 2) := by decide +kernel
theorem dMO_stops_136 : decode cMO_stops 136 = .ok (.ifCond .eq 36, 3) := by decide +kernel
theorem dMO_stops_139 : decode cMO_stops 139 = .ok (.aload_n 0, 1) := by decide +kernel
theorem dMO_stops_140 : decode cMO_stops 140 = .ok (.iload 6, 2) := by decide +kernel
theorem dMO_stops_142 : decode cMO_stops 142 = .ok (.ldc2_w 103, 3) := by decide +kernel
theorem dMO_stops_145 : decode cMO_stops 145 = .ok (.invokevirtual 105, 3) := by decide +kernel
theorem dMO_stops_148 : decode cMO_stops 148 = .ok (.aload_n 0, 1) := by decide +kernel
theorem dMO_stops_149 : decode cMO_stops 149 = .ok (.iload_n 1, 1) := by decide +kernel
theorem dMO_stops_150 : decode cMO_stops 150 = .ok (.iload 4, 2) := by decide +kernel
theorem dMO_stops_152 : decode cMO_stops 152 = .ok (.iconst 1, 1) := by decide +kernel
theorem dMO_stops_153 : decode cMO_stops 153 = .ok (.iadd, 1) := by decide +kernel
theorem dMO_stops_154 : decode cMO_stops 154 = .ok (.iload 6, 2) := by decide +kernel
theorem dMO_stops_156 : decode cMO_stops 156 = .ok (.invokevirtual 99, 3) := by decide +kernel
theorem dMO_stops_159 : decode cMO_stops 159 = .ok (.ladd, 1) := by decide +kernel
theorem dMO_stops_160 : decode cMO_stops 160 = .ok (.aload_n 0, 1) := by decide +kernel
theorem dMO_stops_161 : decode cMO_stops 161 = .ok (.getfield 16, 3) := by decide +kernel
theorem dMO_stops_164 : decode cMO_stops 164 = .ok (.iload 6, 2) := by decide +kernel
theorem dMO_stops_166 : decode cMO_stops 166 = .ok (.laload, 1) := by decide +kernel
theorem dMO_stops_167 : decode cMO_stops 167 = .ok (.lneg, 1) := by decide +kernel
theorem dMO_stops_168 : decode cMO_stops 168 = .ok (.lcmp, 1) := by decide +kernel
theorem dMO_stops_169 : decode cMO_stops 169 = .ok (.ifCond .lt 7, 3) := by decide +kernel
theorem dMO_stops_172 : decode cMO_stops 172 = .ok (.iconst 1, 1) := by decide +kernel
theorem dMO_stops_173 : decode cMO_stops 173 = .ok (.goto 4, 3) := by decide +kernel
theorem dMO_stops_176 : decode cMO_stops 176 = .ok (.iconst 0, 1) := by decide +kernel
theorem dMO_stops_177 : decode cMO_stops 177 = .ok (.istore 5, 2) := by decide +kernel
theorem dMO_stops_179 : decode cMO_stops 179 = .ok (.iload 5, 2) := by decide +kernel
theorem dMO_stops_181 : decode cMO_stops 181 = .ok (.ifCond .eq 10, 3) := by decide +kernel
theorem dMO_stops_184 : decode cMO_stops 184 = .ok (.iload 4, 2) := by decide +kernel
theorem dMO_stops_186 : decode cMO_stops 186 = .ok (.iconst 1, 1) := by decide +kernel
theorem dMO_stops_187 : decode cMO_stops 187 = .ok (.iadd, 1) := by decide +kernel
theorem dMO_stops_188 : decode cMO_stops 188 = .ok (.goto 5, 3) := by decide +kernel
theorem dMO_stops_191 : decode cMO_stops 191 = .ok (.iload 4, 2) := by decide +kernel
theorem dMO_stops_193 : decode cMO_stops 193 = .ok (.istore 4, 2) := by decide +kernel
theorem dMO_stops_195 : decode cMO_stops 195 = .ok (.goto (-135), 3) := by decide +kernel
theorem dMO_stops_198 : decode cMO_stops 198 = .ok (.iload 4, 2) := by decide +kernel
theorem dMO_stops_200 : decode cMO_stops 200 = .ok (.ireturn, 1) := by decide +kernel
theorem dMO_go_0 : decode cMO_go 0 = .ok (.aload_n 0, 1) := by decide +kernel
theorem dMO_go_1 : decode cMO_go 1 = .ok (.iload_n 1, 1) := by decide +kernel
theorem dMO_go_2 : decode cMO_go 2 = .ok (.invokevirtual 109, 3) := by decide +kernel
theorem dMO_go_5 : decode cMO_go 5 = .ok (.istore_n 2, 1) := by decide +kernel
theorem dMO_go_6 : decode cMO_go 6 = .ok (.aload_n 0, 1) := by decide +kernel
theorem dMO_go_7 : decode cMO_go 7 = .ok (.getfield 20, 3) := by decide +kernel
theorem dMO_go_10 : decode cMO_go 10 = .ok (.iload_n 1, 1) := by decide +kernel
theorem dMO_go_11 : decode cMO_go 11 = .ok (.iconst 2, 1) := by decide +kernel
theorem dMO_go_12 : decode cMO_go 12 = .ok (.iastore, 1) := by decide +kernel
theorem dMO_go_13 : decode cMO_go 13 = .ok (.iload_n 2, 1) := by decide +kernel
theorem dMO_go_14 : decode cMO_go 14 = .ok (.ifCond .lt 26, 3) := by decide +kernel
theorem dMO_go_17 : decode cMO_go 17 = .ok (.iload_n 2, 1) := by decide +kernel
theorem dMO_go_18 : decode cMO_go 18 = .ok (.aload_n 0, 1) := by decide +kernel
theorem dMO_go_19 : decode cMO_go 19 = .ok (.getfield 36, 3) := by decide +kernel
theorem dMO_go_22 : decode cMO_go 22 = .ok (.iload_n 1, 1) := by decide +kernel
theorem dMO_go_23 : decode cMO_go 23 = .ok (.iaload, 1) := by decide +kernel
theorem dMO_go_24 : decode cMO_go 24 = .ok (.if_icmp .ge 18, 3) := by decide +kernel
theorem dMO_go_27 : decode cMO_go 27 = .ok (.iload_n 2, 1) := by decide +kernel
theorem dMO_go_28 : decode cMO_go 28 = .ok (.ifCond .eq 12, 3) := by decide +kernel
theorem dMO_go_31 : decode cMO_go 31 = .ok (.aload_n 0, 1) := by decide +kernel
theorem dMO_go_32 : decode cMO_go 32 = .ok (.getfield 26, 3) := by decide +kernel
theorem dMO_go_35 : decode cMO_go 35 = .ok (.iload_n 1, 1) := by decide +kernel
theorem dMO_go_36 : decode cMO_go 36 = .ok (.baload, 1) := by decide +kernel
theorem dMO_go_37 : decode cMO_go 37 = .ok (.ifCond .ne 5, 3) := by decide +kernel
theorem dMO_go_40 : decode cMO_go 40 = .ok (.iconst (-1), 1) := by decide +kernel
theorem dMO_go_41 : decode cMO_go 41 = .ok (.ireturn, 1) := by decide +kernel
theorem dMO_go_42 : decode cMO_go 42 = .ok (.aload_n 0, 1) := by decide +kernel
theorem dMO_go_43 : decode cMO_go 43 = .ok (.getfield 26, 3) := by decide +kernel
theorem dMO_go_46 : decode cMO_go 46 = .ok (.iload_n 1, 1) := by decide +kernel
theorem dMO_go_47 : decode cMO_go 47 = .ok (.baload, 1) := by decide +kernel
theorem dMO_go_48 : decode cMO_go 48 = .ok (.ifCond .eq 5, 3) := by decide +kernel
theorem dMO_go_51 : decode cMO_go 51 = .ok (.iconst 0, 1) := by decide +kernel
theorem dMO_go_52 : decode cMO_go 52 = .ok (.ireturn, 1) := by decide +kernel
theorem dMO_go_53 : decode cMO_go 53 = .ok (.aload_n 0, 1) := by decide +kernel
theorem dMO_go_54 : decode cMO_go 54 = .ok (.getfield 20, 3) := by decide +kernel
theorem dMO_go_57 : decode cMO_go 57 = .ok (.iload_n 1, 1) := by decide +kernel
theorem dMO_go_58 : decode cMO_go 58 = .ok (.iconst 1, 1) := by decide +kernel
theorem dMO_go_59 : decode cMO_go 59 = .ok (.iastore, 1) := by decide +kernel
theorem dMO_go_60 : decode cMO_go 60 = .ok (.aload_n 0, 1) := by decide +kernel
theorem dMO_go_61 : decode cMO_go 61 = .ok (.getfield 45, 3) := by decide +kernel
theorem dMO_go_64 : decode cMO_go 64 = .ok (.aload_n 0, 1) := by decide +kernel
theorem dMO_go_65 : decode cMO_go 65 = .ok (.getfield 96, 3) := by decide +kernel
theorem dMO_go_68 : decode cMO_go 68 = .ok (.iload_n 1, 1) := by decide +kernel
theorem dMO_go_69 : decode cMO_go 69 = .ok (.iastore, 1) := by decide +kernel
theorem dMO_go_70 : decode cMO_go 70 = .ok (.aload_n 0, 1) := by decide +kernel
theorem dMO_go_71 : decode cMO_go 71 = .ok (.dup, 1) := by decide +kernel
theorem dMO_go_72 : decode cMO_go 72 = .ok (.getfield 96, 3) := by decide +kernel
theorem dMO_go_75 : decode cMO_go 75 = .ok (.iconst 1, 1) := by decide +kernel
theorem dMO_go_76 : decode cMO_go 76 = .ok (.iadd, 1) := by decide +kernel
theorem dMO_go_77 : decode cMO_go 77 = .ok (.putfield 96, 3) := by decide +kernel
theorem dMO_go_80 : decode cMO_go 80 = .ok (.iconst 1, 1) := by decide +kernel
theorem dMO_go_81 : decode cMO_go 81 = .ok (.ireturn, 1) := by decide +kernel
theorem dMO_post_0 : decode cMO_post 0 = .ok (.aload_n 0, 1) := by decide +kernel
theorem dMO_post_1 : decode cMO_post 1 = .ok (.iconst 0, 1) := by decide +kernel
theorem dMO_post_2 : decode cMO_post 2 = .ok (.putfield 54, 3) := by decide +kernel
theorem dMO_post_5 : decode cMO_post 5 = .ok (.aload_n 0, 1) := by decide +kernel
theorem dMO_post_6 : decode cMO_post 6 = .ok (.iload_n 1, 1) := by decide +kernel
theorem dMO_post_7 : decode cMO_post 7 = .ok (.invokevirtual 81, 3) := by decide +kernel
theorem dMO_post_10 : decode cMO_post 10 = .ok (.ifCond .ne 6, 3) := by decide +kernel
theorem dMO_post_13 : decode cMO_post 13 = .ok (.ldc 113, 2) := by decide +kernel
theorem dMO_post_15 : decode cMO_post 15 = .ok (.ireturn, 1) := by decide +kernel
theorem dMO_post_16 : decode cMO_post 16 = .ok (.aload_n 0, 1) := by decide +kernel
theorem dMO_post_17 : decode cMO_post 17 = .ok (.getfield 20, 3) := by decide +kernel
theorem dMO_post_20 : decode cMO_post 20 = .ok (.iload_n 1, 1) := by decide +kernel
theorem dMO_post_21 : decode cMO_post 21 = .ok (.iaload, 1) := by decide +kernel
theorem dMO_post_22 : decode cMO_post 22 = .ok (.ifCond .ne 17, 3) := by decide +kernel
theorem dMO_post_25 : decode cMO_post 25 = .ok (.aload_n 0, 1) := by decide +kernel
theorem dMO_post_26 : decode cMO_post 26 = .ok (.getfield 23, 3) := by decide +kernel
theorem dMO_post_29 : decode cMO_post 29 = .ok (.iload_n 1, 1) := by decide +kernel
theorem dMO_post_30 : decode cMO_post 30 = .ok (.laload, 1) := by decide +kernel
theorem dMO_post_31 : decode cMO_post 31 = .ok (.aload_n 0, 1) := by decide +kernel
theorem dMO_post_32 : decode cMO_post 32 = .ok (.getfield 50, 3) := by decide +kernel
theorem dMO_post_35 : decode cMO_post 35 = .ok (.lcmp, 1) := by decide +kernel
theorem dMO_post_36 : decode cMO_post 36 = .ok (.ifCond .gt 6, 3) := by decide +kernel
theorem dMO_post_39 : decode cMO_post 39 = .ok (.ldc 76, 2) := by decide +kernel
theorem dMO_post_41 : decode cMO_post 41 = .ok (.ireturn, 1) := by decide +kernel
theorem dMO_post_42 : decode cMO_post 42 = .ok (.aload_n 0, 1) := by decide +kernel
theorem dMO_post_43 : decode cMO_post 43 = .ok (.iload_n 1, 1) := by decide +kernel
theorem dMO_post_44 : decode cMO_post 44 = .ok (.invokevirtual 114, 3) := by decide +kernel
theorem dMO_post_47 : decode cMO_post 47 = .ok (.istore_n 2, 1) := by decide +kernel
theorem dMO_post_48 : decode cMO_post 48 = .ok (.aload_n 0, 1) := by decide +kernel
theorem dMO_post_49 : decode cMO_post 49 = .ok (.iload_n 2, 1) := by decide +kernel
theorem dMO_post_50 : decode cMO_post 50 = .ok (.ifCond .ge 7, 3) := by decide +kernel
theorem dMO_post_53 : decode cMO_post 53 = .ok (.iconst 1, 1) := by decide +kernel
theorem dMO_post_54 : decode cMO_post 54 = .ok (.goto 4, 3) := by decide +kernel
theorem dMO_post_57 : decode cMO_post 57 = .ok (.iconst 0, 1) := by decide +kernel
theorem dMO_post_58 : decode cMO_post 58 = .ok (.putfield 54, 3) := by decide +kernel
theorem dMO_post_61 : decode cMO_post 61 = .ok (.iload_n 2, 1) := by decide +kernel
theorem dMO_post_62 : decode cMO_post 62 = .ok (.ifCond .ge 7, 3) := by decide +kernel
theorem dMO_post_65 : decode cMO_post 65 = .ok (.iconst 0, 1) := by decide +kernel
theorem dMO_post_66 : decode cMO_post 66 = .ok (.goto 4, 3) := by decide +kernel
theorem dMO_post_69 : decode cMO_post 69 = .ok (.iload_n 2, 1) := by decide +kernel
theorem dMO_post_70 : decode cMO_post 70 = .ok (.ireturn, 1) := by decide +kernel
theorem dMO_balance_0 : decode cMO_balance 0 = .ok (.aload_n 0, 1) := by decide +kernel
theorem dMO_balance_1 : decode cMO_balance 1 = .ok (.iconst 0, 1) := by decide +kernel
theorem dMO_balance_2 : decode cMO_balance 2 = .ok (.putfield 54, 3) := by decide +kernel
theorem dMO_balance_5 : decode cMO_balance 5 = .ok (.aload_n 0, 1) := by decide +kernel
theorem dMO_balance_6 : decode cMO_balance 6 = .ok (.iload_n 1, 1) := by decide +kernel
theorem dMO_balance_7 : decode cMO_balance 7 = .ok (.invokevirtual 85, 3) := by decide +kernel
theorem dMO_balance_10 : decode cMO_balance 10 = .ok (.ifCond .eq 12, 3) := by decide +kernel
theorem dMO_balance_13 : decode cMO_balance 13 = .ok (.aload_n 0, 1) := by decide +kernel
theorem dMO_balance_14 : decode cMO_balance 14 = .ok (.iload_n 1, 1) := by decide +kernel
theorem dMO_balance_15 : decode cMO_balance 15 = .ok (.lload_n 2, 1) := by decide +kernel
theorem dMO_balance_16 : decode cMO_balance 16 = .ok (.invokevirtual 105, 3) := by decide +kernel
theorem dMO_balance_19 : decode cMO_balance 19 = .ok (.goto 6, 3) := by decide +kernel
theorem dMO_balance_22 : decode cMO_balance 22 = .ok (.ldc2_w 117, 3) := by decide +kernel
theorem dMO_balance_25 : decode cMO_balance 25 = .ok (.lreturn, 1) := by decide +kernel
theorem dMO_close_0 : decode cMO_close 0 = .ok (.aload_n 0, 1) := by decide +kernel
theorem dMO_close_1 : decode cMO_close 1 = .ok (.iconst 0, 1) := by decide +kernel
theorem dMO_close_2 : decode cMO_close 2 = .ok (.putfield 54, 3) := by decide +kernel
theorem dMO_close_5 : decode cMO_close 5 = .ok (.lload_n 1, 1) := by decide +kernel
theorem dMO_close_6 : decode cMO_close 6 = .ok (.lconst 0, 1) := by decide +kernel
theorem dMO_close_7 : decode cMO_close 7 = .ok (.ldc2_w 74, 3) := by decide +kernel
theorem dMO_close_10 : decode cMO_close 10 = .ok (.invokestatic 61, 3) := by decide +kernel
theorem dMO_close_13 : decode cMO_close 13 = .ok (.ifCond .ne 6, 3) := by decide +kernel
theorem dMO_close_16 : decode cMO_close 16 = .ok (.ldc 72, 2) := by decide +kernel
theorem dMO_close_18 : decode cMO_close 18 = .ok (.ireturn, 1) := by decide +kernel
theorem dMO_close_19 : decode cMO_close 19 = .ok (.lload_n 1, 1) := by decide +kernel
theorem dMO_close_20 : decode cMO_close 20 = .ok (.aload_n 0, 1) := by decide +kernel
theorem dMO_close_21 : decode cMO_close 21 = .ok (.getfield 50, 3) := by decide +kernel
theorem dMO_close_24 : decode cMO_close 24 = .ok (.lcmp, 1) := by decide +kernel
theorem dMO_close_25 : decode cMO_close 25 = .ok (.ifCond .le 13, 3) := by decide +kernel
theorem dMO_close_28 : decode cMO_close 28 = .ok (.lload_n 1, 1) := by decide +kernel
theorem dMO_close_29 : decode cMO_close 29 = .ok (.aload_n 0, 1) := by decide +kernel
theorem dMO_close_30 : decode cMO_close 30 = .ok (.getfield 50, 3) := by decide +kernel
theorem dMO_close_33 : decode cMO_close 33 = .ok (.lsub, 1) := by decide +kernel
theorem dMO_close_34 : decode cMO_close 34 = .ok (.l2i, 1) := by decide +kernel
theorem dMO_close_35 : decode cMO_close 35 = .ok (.goto 4, 3) := by decide +kernel
theorem dMO_close_38 : decode cMO_close 38 = .ok (.iconst 0, 1) := by decide +kernel
theorem dMO_close_39 : decode cMO_close 39 = .ok (.istore_n 3, 1) := by decide +kernel
theorem dMO_close_40 : decode cMO_close 40 = .ok (.aload_n 0, 1) := by decide +kernel
theorem dMO_close_41 : decode cMO_close 41 = .ok (.aload_n 0, 1) := by decide +kernel
theorem dMO_close_42 : decode cMO_close 42 = .ok (.getfield 50, 3) := by decide +kernel
theorem dMO_close_45 : decode cMO_close 45 = .ok (.iload_n 3, 1) := by decide +kernel
theorem dMO_close_46 : decode cMO_close 46 = .ok (.i2l, 1) := by decide +kernel
theorem dMO_close_47 : decode cMO_close 47 = .ok (.ladd, 1) := by decide +kernel
theorem dMO_close_48 : decode cMO_close 48 = .ok (.putfield 50, 3) := by decide +kernel
theorem dMO_close_51 : decode cMO_close 51 = .ok (.iload_n 3, 1) := by decide +kernel
theorem dMO_close_52 : decode cMO_close 52 = .ok (.ireturn, 1) := by decide +kernel
theorem dMO_batchOf_0 : decode cMO_batchOf 0 = .ok (.iload_n 1, 1) := by decide +kernel
theorem dMO_batchOf_1 : decode cMO_batchOf 1 = .ok (.istore_n 2, 1) := by decide +kernel
theorem dMO_batchOf_2 : decode cMO_batchOf 2 = .ok (.iconst 0, 1) := by decide +kernel
theorem dMO_batchOf_3 : decode cMO_batchOf 3 = .ok (.istore_n 3, 1) := by decide +kernel
theorem dMO_batchOf_4 : decode cMO_batchOf 4 = .ok (.iload_n 3, 1) := by decide +kernel
theorem dMO_batchOf_5 : decode cMO_batchOf 5 = .ok (.aload_n 0, 1) := by decide +kernel
theorem dMO_batchOf_6 : decode cMO_batchOf 6 = .ok (.getfield 96, 3) := by decide +kernel
theorem dMO_batchOf_9 : decode cMO_batchOf 9 = .ok (.if_icmp .ge 38, 3) := by decide +kernel
theorem dMO_batchOf_12 : decode cMO_batchOf 12 = .ok (.iload_n 1, 1) := by decide +kernel
theorem dMO_batchOf_13 : decode cMO_batchOf 13 = .ok (.ifCond .le 34, 3) := by decide +kernel
theorem dMO_batchOf_16 : decode cMO_batchOf 16 = .ok (.iload_n 2, 1) := by decide +kernel
theorem dMO_batchOf_17 : decode cMO_batchOf 17 = .ok (.aload_n 0, 1) := by decide +kernel
theorem dMO_batchOf_18 : decode cMO_batchOf 18 = .ok (.getfield 36, 3) := by decide +kernel
theorem dMO_batchOf_21 : decode cMO_batchOf 21 = .ok (.aload_n 0, 1) := by decide +kernel
theorem dMO_batchOf_22 : decode cMO_batchOf 22 = .ok (.getfield 45, 3) := by decide +kernel
theorem dMO_batchOf_25 : decode cMO_batchOf 25 = .ok (.iload_n 3, 1) := by decide +kernel
theorem dMO_batchOf_26 : decode cMO_batchOf 26 = .ok (.iaload, 1) := by decide +kernel
theorem dMO_batchOf_27 : decode cMO_batchOf 27 = .ok (.iaload, 1) := by decide +kernel
theorem dMO_batchOf_28 : decode cMO_batchOf 28 = .ok (.isub, 1) := by decide +kernel
theorem dMO_batchOf_29 : decode cMO_batchOf 29 = .ok (.istore_n 2, 1) := by decide +kernel
theorem dMO_batchOf_30 : decode cMO_batchOf 30 = .ok (.iload_n 2, 1) := by decide +kernel
theorem dMO_batchOf_31 : decode cMO_batchOf 31 = .ok (.ifCond .gt 10, 3) := by decide +kernel
theorem dMO_batchOf_34 : decode cMO_batchOf 34 = .ok (.aload_n 0, 1) := by decide +kernel
theorem dMO_batchOf_35 : decode cMO_batchOf 35 = .ok (.getfield 45, 3) := by decide +kernel
theorem dMO_batchOf_38 : decode cMO_batchOf 38 = .ok (.iload_n 3, 1) := by decide +kernel
theorem dMO_batchOf_39 : decode cMO_batchOf 39 = .ok (.iaload, 1) := by decide +kernel
theorem dMO_batchOf_40 : decode cMO_batchOf 40 = .ok (.ireturn, 1) := by decide +kernel
theorem dMO_batchOf_41 : decode cMO_batchOf 41 = .ok (.iinc 3 1, 3) := by decide +kernel
theorem dMO_batchOf_44 : decode cMO_batchOf 44 = .ok (.goto (-40), 3) := by decide +kernel
theorem dMO_batchOf_47 : decode cMO_batchOf 47 = .ok (.iconst 0, 1) := by decide +kernel
theorem dMO_batchOf_48 : decode cMO_batchOf 48 = .ok (.ireturn, 1) := by decide +kernel
theorem dMO_reverse_0 : decode cMO_reverse 0 = .ok (.aload_n 0, 1) := by decide +kernel
theorem dMO_reverse_1 : decode cMO_reverse 1 = .ok (.iconst 0, 1) := by decide +kernel
theorem dMO_reverse_2 : decode cMO_reverse 2 = .ok (.putfield 54, 3) := by decide +kernel
theorem dMO_reverse_5 : decode cMO_reverse 5 = .ok (.aload_n 0, 1) := by decide +kernel
theorem dMO_reverse_6 : decode cMO_reverse 6 = .ok (.iload_n 1, 1) := by decide +kernel
theorem dMO_reverse_7 : decode cMO_reverse 7 = .ok (.invokevirtual 119, 3) := by decide +kernel
theorem dMO_reverse_10 : decode cMO_reverse 10 = .ok (.istore_n 2, 1) := by decide +kernel
theorem dMO_reverse_11 : decode cMO_reverse 11 = .ok (.iload_n 2, 1) := by decide +kernel
theorem dMO_reverse_12 : decode cMO_reverse 12 = .ok (.ifCond .eq 12, 3) := by decide +kernel
theorem dMO_reverse_15 : decode cMO_reverse 15 = .ok (.aload_n 0, 1) := by decide +kernel
theorem dMO_reverse_16 : decode cMO_reverse 16 = .ok (.getfield 33, 3) := by decide +kernel
theorem dMO_reverse_19 : decode cMO_reverse 19 = .ok (.iload_n 2, 1) := by decide +kernel
theorem dMO_reverse_20 : decode cMO_reverse 20 = .ok (.baload, 1) := by decide +kernel
theorem dMO_reverse_21 : decode cMO_reverse 21 = .ok (.ifCond .eq 5, 3) := by decide +kernel
theorem dMO_reverse_24 : decode cMO_reverse 24 = .ok (.iconst 0, 1) := by decide +kernel
theorem dMO_reverse_25 : decode cMO_reverse 25 = .ok (.ireturn, 1) := by decide +kernel
theorem dMO_reverse_26 : decode cMO_reverse 26 = .ok (.aload_n 0, 1) := by decide +kernel
theorem dMO_reverse_27 : decode cMO_reverse 27 = .ok (.getfield 65, 3) := by decide +kernel
theorem dMO_reverse_30 : decode cMO_reverse 30 = .ok (.sipush 300, 3) := by decide +kernel
theorem dMO_reverse_33 : decode cMO_reverse 33 = .ok (.if_icmp .ne 6, 3) := by decide +kernel
theorem dMO_reverse_36 : decode cMO_reverse 36 = .ok (.ldc 73, 2) := by decide +kernel
theorem dMO_reverse_38 : decode cMO_reverse 38 = .ok (.ireturn, 1) := by decide +kernel
theorem dMO_reverse_39 : decode cMO_reverse 39 = .ok (.aload_n 0, 1) := by decide +kernel
theorem dMO_reverse_40 : decode cMO_reverse 40 = .ok (.getfield 33, 3) := by decide +kernel
theorem dMO_reverse_43 : decode cMO_reverse 43 = .ok (.iload_n 2, 1) := by decide +kernel
theorem dMO_reverse_44 : decode cMO_reverse 44 = .ok (.iconst 1, 1) := by decide +kernel
theorem dMO_reverse_45 : decode cMO_reverse 45 = .ok (.bastore, 1) := by decide +kernel
theorem dMO_reverse_46 : decode cMO_reverse 46 = .ok (.aload_n 0, 1) := by decide +kernel
theorem dMO_reverse_47 : decode cMO_reverse 47 = .ok (.aload_n 0, 1) := by decide +kernel
theorem dMO_reverse_48 : decode cMO_reverse 48 = .ok (.getfield 23, 3) := by decide +kernel
theorem dMO_reverse_51 : decode cMO_reverse 51 = .ok (.iload_n 2, 1) := by decide +kernel
theorem dMO_reverse_52 : decode cMO_reverse 52 = .ok (.laload, 1) := by decide +kernel
theorem dMO_reverse_53 : decode cMO_reverse 53 = .ok (.aload_n 0, 1) := by decide +kernel
theorem dMO_reverse_54 : decode cMO_reverse 54 = .ok (.getfield 50, 3) := by decide +kernel
theorem dMO_reverse_57 : decode cMO_reverse 57 = .ok (.lcmp, 1) := by decide +kernel
theorem dMO_reverse_58 : decode cMO_reverse 58 = .ok (.ifCond .le 12, 3) := by decide +kernel
theorem dMO_reverse_61 : decode cMO_reverse 61 = .ok (.aload_n 0, 1) := by decide +kernel
theorem dMO_reverse_62 : decode cMO_reverse 62 = .ok (.getfield 23, 3) := by decide +kernel
theorem dMO_reverse_65 : decode cMO_reverse 65 = .ok (.iload_n 2, 1) := by decide +kernel
theorem dMO_reverse_66 : decode cMO_reverse 66 = .ok (.laload, 1) := by decide +kernel
theorem dMO_reverse_67 : decode cMO_reverse 67 = .ok (.goto 9, 3) := by decide +kernel
theorem dMO_reverse_70 : decode cMO_reverse 70 = .ok (.aload_n 0, 1) := by decide +kernel
theorem dMO_reverse_71 : decode cMO_reverse 71 = .ok (.getfield 50, 3) := by decide +kernel
theorem dMO_reverse_74 : decode cMO_reverse 74 = .ok (.lconst 1, 1) := by decide +kernel
theorem dMO_reverse_75 : decode cMO_reverse 75 = .ok (.ladd, 1) := by decide +kernel
theorem dMO_reverse_76 : decode cMO_reverse 76 = .ok (.invokevirtual 77, 3) := by decide +kernel
theorem dMO_reverse_79 : decode cMO_reverse 79 = .ok (.istore_n 3, 1) := by decide +kernel
theorem dMO_reverse_80 : decode cMO_reverse 80 = .ok (.aload_n 0, 1) := by decide +kernel
theorem dMO_reverse_81 : decode cMO_reverse 81 = .ok (.getfield 33, 3) := by decide +kernel
theorem dMO_reverse_84 : decode cMO_reverse 84 = .ok (.iload_n 3, 1) := by decide +kernel
theorem dMO_reverse_85 : decode cMO_reverse 85 = .ok (.iconst 1, 1) := by decide +kernel
theorem dMO_reverse_86 : decode cMO_reverse 86 = .ok (.bastore, 1) := by decide +kernel
theorem dMO_reverse_87 : decode cMO_reverse 87 = .ok (.aload_n 0, 1) := by decide +kernel
theorem dMO_reverse_88 : decode cMO_reverse 88 = .ok (.getfield 30, 3) := by decide +kernel
theorem dMO_reverse_91 : decode cMO_reverse 91 = .ok (.iload_n 3, 1) := by decide +kernel
theorem dMO_reverse_92 : decode cMO_reverse 92 = .ok (.iconst 1, 1) := by decide +kernel
theorem dMO_reverse_93 : decode cMO_reverse 93 = .ok (.bastore, 1) := by decide +kernel
theorem dMO_reverse_94 : decode cMO_reverse 94 = .ok (.iconst 0, 1) := by decide +kernel
theorem dMO_reverse_95 : decode cMO_reverse 95 = .ok (.istore 4, 2) := by decide +kernel
theorem dMO_reverse_97 : decode cMO_reverse 97 = .ok (.iload 4, 2) := by decide +kernel
theorem dMO_reverse_99 : decode cMO_reverse 99 = .ok (.aload_n 0, 1) := by decide +kernel
theorem dMO_reverse_100 : decode cMO_reverse 100 = .ok (.getfield 36, 3) := by decide +kernel
theorem dMO_reverse_103 : decode cMO_reverse 103 = .ok (.iload_n 2, 1) := by decide +kernel
theorem dMO_reverse_104 : decode cMO_reverse 104 = .ok (.iaload, 1) := by decide +kernel
theorem dMO_reverse_105 : decode cMO_reverse 105 = .ok (.if_icmp .ge 39, 3) := by decide +kernel
theorem dMO_reverse_108 : decode cMO_reverse 108 = .ok (.aload_n 0, 1) := by decide +kernel
theorem dMO_reverse_109 : decode cMO_reverse 109 = .ok (.iload_n 3, 1) := by decide +kernel
theorem dMO_reverse_110 : decode cMO_reverse 110 = .ok (.aload_n 0, 1) := by decide +kernel
theorem dMO_reverse_111 : decode cMO_reverse 111 = .ok (.getfield 39, 3) := by decide +kernel
theorem dMO_reverse_114 : decode cMO_reverse 114 = .ok (.bipush 12, 2) := by decide +kernel
theorem dMO_reverse_116 : decode cMO_reverse 116 = .ok (.iload_n 2, 1) := by decide +kernel
theorem dMO_reverse_117 : decode cMO_reverse 117 = .ok (.imul, 1) := by decide +kernel
theorem dMO_reverse_118 : decode cMO_reverse 118 = .ok (.iload 4, 2) := by decide +kernel
theorem dMO_reverse_120 : decode cMO_reverse 120 = .ok (.iadd, 1) := by decide +kernel
theorem dMO_reverse_121 : decode cMO_reverse 121 = .ok (.iaload, 1) := by decide +kernel
theorem dMO_reverse_122 : decode cMO_reverse 122 = .ok (.aload_n 0, 1) := by decide +kernel
theorem dMO_reverse_123 : decode cMO_reverse 123 = .ok (.getfield 42, 3) := by decide +kernel
theorem dMO_reverse_126 : decode cMO_reverse 126 = .ok (.bipush 12, 2) := by decide +kernel
theorem dMO_reverse_128 : decode cMO_reverse 128 = .ok (.iload_n 2, 1) := by decide +kernel
theorem dMO_reverse_129 : decode cMO_reverse 129 = .ok (.imul, 1) := by decide +kernel
theorem dMO_reverse_130 : decode cMO_reverse 130 = .ok (.iload 4, 2) := by decide +kernel
theorem dMO_reverse_132 : decode cMO_reverse 132 = .ok (.iadd, 1) := by decide +kernel
theorem dMO_reverse_133 : decode cMO_reverse 133 = .ok (.laload, 1) := by decide +kernel
theorem dMO_reverse_134 : decode cMO_reverse 134 = .ok (.lneg, 1) := by decide +kernel
theorem dMO_reverse_135 : decode cMO_reverse 135 = .ok (.invokevirtual 92, 3) := by decide +kernel
theorem dMO_reverse_138 : decode cMO_reverse 138 = .ok (.iinc 4 1, 3) := by decide +kernel
theorem dMO_reverse_141 : decode cMO_reverse 141 = .ok (.goto (-44), 3) := by decide +kernel
theorem dMO_reverse_144 : decode cMO_reverse 144 = .ok (.aload_n 0, 1) := by decide +kernel
theorem dMO_reverse_145 : decode cMO_reverse 145 = .ok (.iload_n 3, 1) := by decide +kernel
theorem dMO_reverse_146 : decode cMO_reverse 146 = .ok (.invokevirtual 114, 3) := by decide +kernel
theorem dMO_reverse_149 : decode cMO_reverse 149 = .ok (.ireturn, 1) := by decide +kernel
theorem dMO_first_0 : decode cMO_first 0 = .ok (.iconst 1, 1) := by decide +kernel
theorem dMO_first_1 : decode cMO_first 1 = .ok (.istore_n 3, 1) := by decide +kernel
theorem dMO_first_2 : decode cMO_first 2 = .ok (.iload_n 3, 1) := by decide +kernel
theorem dMO_first_3 : decode cMO_first 3 = .ok (.aload_n 0, 1) := by decide +kernel
theorem dMO_first_4 : decode cMO_first 4 = .ok (.getfield 58, 3) := by decide +kernel
theorem dMO_first_7 : decode cMO_first 7 = .ok (.if_icmp .gt 29, 3) := by decide +kernel
theorem dMO_first_10 : decode cMO_first 10 = .ok (.aload_n 0, 1) := by decide +kernel
theorem dMO_first_11 : decode cMO_first 11 = .ok (.getfield 7, 3) := by decide +kernel
theorem dMO_first_14 : decode cMO_first 14 = .ok (.iload_n 3, 1) := by decide +kernel
theorem dMO_first_15 : decode cMO_first 15 = .ok (.iaload, 1) := by decide +kernel
theorem dMO_first_16 : decode cMO_first 16 = .ok (.iload_n 1, 1) := by decide +kernel
theorem dMO_first_17 : decode cMO_first 17 = .ok (.if_icmp .ne 13, 3) := by decide +kernel
theorem dMO_first_20 : decode cMO_first 20 = .ok (.aload_n 0, 1) := by decide +kernel
theorem dMO_first_21 : decode cMO_first 21 = .ok (.getfield 13, 3) := by decide +kernel
theorem dMO_first_24 : decode cMO_first 24 = .ok (.iload_n 3, 1) := by decide +kernel
theorem dMO_first_25 : decode cMO_first 25 = .ok (.iaload, 1) := by decide +kernel
theorem dMO_first_26 : decode cMO_first 26 = .ok (.iload_n 2, 1) := by decide +kernel
theorem dMO_first_27 : decode cMO_first 27 = .ok (.if_icmp .eq 9, 3) := by decide +kernel
theorem dMO_first_30 : decode cMO_first 30 = .ok (.iinc 3 1, 3) := by decide +kernel
theorem dMO_first_33 : decode cMO_first 33 = .ok (.goto (-31), 3) := by decide +kernel
theorem dMO_first_36 : decode cMO_first 36 = .ok (.iload_n 3, 1) := by decide +kernel
theorem dMO_first_37 : decode cMO_first 37 = .ok (.aload_n 0, 1) := by decide +kernel
theorem dMO_first_38 : decode cMO_first 38 = .ok (.getfield 58, 3) := by decide +kernel
theorem dMO_first_41 : decode cMO_first 41 = .ok (.if_icmp .gt 7, 3) := by decide +kernel
theorem dMO_first_44 : decode cMO_first 44 = .ok (.iload_n 3, 1) := by decide +kernel
theorem dMO_first_45 : decode cMO_first 45 = .ok (.goto 4, 3) := by decide +kernel
theorem dMO_first_48 : decode cMO_first 48 = .ok (.iconst 0, 1) := by decide +kernel
theorem dMO_first_49 : decode cMO_first 49 = .ok (.ireturn, 1) := by decide +kernel
theorem dMO_stock_0 : decode cMO_stock 0 = .ok (.aload_n 0, 1) := by decide +kernel
theorem dMO_stock_1 : decode cMO_stock 1 = .ok (.iconst 0, 1) := by decide +kernel
theorem dMO_stock_2 : decode cMO_stock 2 = .ok (.putfield 54, 3) := by decide +kernel
theorem dMO_stock_5 : decode cMO_stock 5 = .ok (.iload_n 1, 1) := by decide +kernel
theorem dMO_stock_6 : decode cMO_stock 6 = .ok (.i2l, 1) := by decide +kernel
theorem dMO_stock_7 : decode cMO_stock 7 = .ok (.lconst 0, 1) := by decide +kernel
theorem dMO_stock_8 : decode cMO_stock 8 = .ok (.ldc2_w 68, 3) := by decide +kernel
theorem dMO_stock_11 : decode cMO_stock 11 = .ok (.invokestatic 61, 3) := by decide +kernel
theorem dMO_stock_14 : decode cMO_stock 14 = .ok (.ifCond .eq 28, 3) := by decide +kernel
theorem dMO_stock_17 : decode cMO_stock 17 = .ok (.iload_n 2, 1) := by decide +kernel
theorem dMO_stock_18 : decode cMO_stock 18 = .ok (.i2l, 1) := by decide +kernel
theorem dMO_stock_19 : decode cMO_stock 19 = .ok (.lconst 0, 1) := by decide +kernel
theorem dMO_stock_20 : decode cMO_stock 20 = .ok (.ldc2_w 122, 3) := by decide +kernel
theorem dMO_stock_23 : decode cMO_stock 23 = .ok (.invokestatic 61, 3) := by decide +kernel
theorem dMO_stock_26 : decode cMO_stock 26 = .ok (.ifCond .eq 16, 3) := by decide +kernel
theorem dMO_stock_29 : decode cMO_stock 29 = .ok (.lload_n 3, 1) := by decide +kernel
theorem dMO_stock_30 : decode cMO_stock 30 = .ok (.ldc2_w 88, 3) := by decide +kernel
theorem dMO_stock_33 : decode cMO_stock 33 = .ok (.ldc2_w 90, 3) := by decide +kernel
theorem dMO_stock_36 : decode cMO_stock 36 = .ok (.invokestatic 61, 3) := by decide +kernel
theorem dMO_stock_39 : decode cMO_stock 39 = .ok (.ifCond .ne 6, 3) := by decide +kernel
theorem dMO_stock_42 : decode cMO_stock 42 = .ok (.ldc 72, 2) := by decide +kernel
theorem dMO_stock_44 : decode cMO_stock 44 = .ok (.ireturn, 1) := by decide +kernel
theorem dMO_stock_45 : decode cMO_stock 45 = .ok (.lconst 0, 1) := by decide +kernel
theorem dMO_stock_46 : decode cMO_stock 46 = .ok (.lstore 5, 2) := by decide +kernel
theorem dMO_stock_48 : decode cMO_stock 48 = .ok (.iconst 1, 1) := by decide +kernel
theorem dMO_stock_49 : decode cMO_stock 49 = .ok (.istore 7, 2) := by decide +kernel
theorem dMO_stock_51 : decode cMO_stock 51 = .ok (.iload 7, 2) := by decide +kernel
theorem dMO_stock_53 : decode cMO_stock 53 = .ok (.aload_n 0, 1) := by decide +kernel
theorem dMO_stock_54 : decode cMO_stock 54 = .ok (.getfield 58, 3) := by decide +kernel
theorem dMO_stock_57 : decode cMO_stock 57 = .ok (.if_icmp .gt 50, 3) := by decide +kernel
theorem dMO_stock_60 : decode cMO_stock 60 = .ok (.aload_n 0, 1) := by decide +kernel
theorem dMO_stock_61 : decode cMO_stock 61 = .ok (.getfield 7, 3) := by decide +kernel
theorem dMO_stock_64 : decode cMO_stock 64 = .ok (.iload 7, 2) := by decide +kernel
theorem dMO_stock_66 : decode cMO_stock 66 = .ok (.iaload, 1) := by decide +kernel
theorem dMO_stock_67 : decode cMO_stock 67 = .ok (.iload_n 1, 1) := by decide +kernel
theorem dMO_stock_68 : decode cMO_stock 68 = .ok (.if_icmp .ne 29, 3) := by decide +kernel
theorem dMO_stock_71 : decode cMO_stock 71 = .ok (.aload_n 0, 1) := by decide +kernel
theorem dMO_stock_72 : decode cMO_stock 72 = .ok (.getfield 13, 3) := by decide +kernel
theorem dMO_stock_75 : decode cMO_stock 75 = .ok (.iload 7, 2) := by decide +kernel
theorem dMO_stock_77 : decode cMO_stock 77 = .ok (.iaload, 1) := by decide +kernel
theorem dMO_stock_78 : decode cMO_stock 78 = .ok (.iload_n 2, 1) := by decide +kernel
theorem dMO_stock_79 : decode cMO_stock 79 = .ok (.if_icmp .ne 18, 3) := by decide +kernel
theorem dMO_stock_82 : decode cMO_stock 82 = .ok (.lload 5, 2) := by decide +kernel
theorem dMO_stock_84 : decode cMO_stock 84 = .ok (.aload_n 0, 1) := by decide +kernel
theorem dMO_stock_85 : decode cMO_stock 85 = .ok (.iload 7, 2) := by decide +kernel
theorem dMO_stock_87 : decode cMO_stock 87 = .ok (.ldc2_w 103, 3) := by decide +kernel
theorem dMO_stock_90 : decode cMO_stock 90 = .ok (.invokevirtual 105, 3) := by decide +kernel
theorem dMO_stock_93 : decode cMO_stock 93 = .ok (.ladd, 1) := by decide +kernel
theorem dMO_stock_94 : decode cMO_stock 94 = .ok (.goto 5, 3) := by decide +kernel
theorem dMO_stock_97 : decode cMO_stock 97 = .ok (.lload 5, 2) := by decide +kernel
theorem dMO_stock_99 : decode cMO_stock 99 = .ok (.lstore 5, 2) := by decide +kernel
theorem dMO_stock_101 : decode cMO_stock 101 = .ok (.iinc 7 1, 3) := by decide +kernel
theorem dMO_stock_104 : decode cMO_stock 104 = .ok (.goto (-53), 3) := by decide +kernel
theorem dMO_stock_107 : decode cMO_stock 107 = .ok (.lload_n 3, 1) := by decide +kernel
theorem dMO_stock_108 : decode cMO_stock 108 = .ok (.lload 5, 2) := by decide +kernel
theorem dMO_stock_110 : decode cMO_stock 110 = .ok (.lsub, 1) := by decide +kernel
theorem dMO_stock_111 : decode cMO_stock 111 = .ok (.lstore 7, 2) := by decide +kernel
theorem dMO_stock_113 : decode cMO_stock 113 = .ok (.lload 7, 2) := by decide +kernel
theorem dMO_stock_115 : decode cMO_stock 115 = .ok (.lconst 0, 1) := by decide +kernel
theorem dMO_stock_116 : decode cMO_stock 116 = .ok (.lcmp, 1) := by decide +kernel
theorem dMO_stock_117 : decode cMO_stock 117 = .ok (.ifCond .ne 5, 3) := by decide +kernel
theorem dMO_stock_120 : decode cMO_stock 120 = .ok (.iconst 0, 1) := by decide +kernel
theorem dMO_stock_121 : decode cMO_stock 121 = .ok (.ireturn, 1) := by decide +kernel
theorem dMO_stock_122 : decode cMO_stock 122 = .ok (.aload_n 0, 1) := by decide +kernel
theorem dMO_stock_123 : decode cMO_stock 123 = .ok (.iload_n 1, 1) := by decide +kernel
theorem dMO_stock_124 : decode cMO_stock 124 = .ok (.iload_n 2, 1) := by decide +kernel
theorem dMO_stock_125 : decode cMO_stock 125 = .ok (.invokevirtual 124, 3) := by decide +kernel
theorem dMO_stock_128 : decode cMO_stock 128 = .ok (.ifCond .eq 26, 3) := by decide +kernel
theorem dMO_stock_131 : decode cMO_stock 131 = .ok (.aload_n 0, 1) := by decide +kernel
theorem dMO_stock_132 : decode cMO_stock 132 = .ok (.iload_n 1, 1) := by decide +kernel
theorem dMO_stock_133 : decode cMO_stock 133 = .ok (.iconst 5, 1) := by decide +kernel
theorem dMO_stock_134 : decode cMO_stock 134 = .ok (.invokevirtual 124, 3) := by decide +kernel
theorem dMO_stock_137 : decode cMO_stock 137 = .ok (.ifCond .eq 17, 3) := by decide +kernel
theorem dMO_stock_140 : decode cMO_stock 140 = .ok (.lload 7, 2) := by decide +kernel
theorem dMO_stock_142 : decode cMO_stock 142 = .ok (.ldc2_w 128, 3) := by decide +kernel
theorem dMO_stock_145 : decode cMO_stock 145 = .ok (.ldc2_w 130, 3) := by decide +kernel
theorem dMO_stock_148 : decode cMO_stock 148 = .ok (.invokestatic 61, 3) := by decide +kernel
theorem dMO_stock_151 : decode cMO_stock 151 = .ok (.ifCond .ne 6, 3) := by decide +kernel
theorem dMO_stock_154 : decode cMO_stock 154 = .ok (.ldc 76, 2) := by decide +kernel
theorem dMO_stock_156 : decode cMO_stock 156 = .ok (.ireturn, 1) := by decide +kernel
theorem dMO_stock_157 : decode cMO_stock 157 = .ok (.aload_n 0, 1) := by decide +kernel
theorem dMO_stock_158 : decode cMO_stock 158 = .ok (.getfield 65, 3) := by decide +kernel
theorem dMO_stock_161 : decode cMO_stock 161 = .ok (.sipush 300, 3) := by decide +kernel
theorem dMO_stock_164 : decode cMO_stock 164 = .ok (.if_icmp .ne 6, 3) := by decide +kernel
theorem dMO_stock_167 : decode cMO_stock 167 = .ok (.ldc 73, 2) := by decide +kernel
theorem dMO_stock_169 : decode cMO_stock 169 = .ok (.ireturn, 1) := by decide +kernel
theorem dMO_stock_170 : decode cMO_stock 170 = .ok (.aload_n 0, 1) := by decide +kernel
theorem dMO_stock_171 : decode cMO_stock 171 = .ok (.aload_n 0, 1) := by decide +kernel
theorem dMO_stock_172 : decode cMO_stock 172 = .ok (.getfield 50, 3) := by decide +kernel
theorem dMO_stock_175 : decode cMO_stock 175 = .ok (.lconst 1, 1) := by decide +kernel
theorem dMO_stock_176 : decode cMO_stock 176 = .ok (.ladd, 1) := by decide +kernel
theorem dMO_stock_177 : decode cMO_stock 177 = .ok (.invokevirtual 77, 3) := by decide +kernel
theorem dMO_stock_180 : decode cMO_stock 180 = .ok (.istore 9, 2) := by decide +kernel
theorem dMO_stock_182 : decode cMO_stock 182 = .ok (.aload_n 0, 1) := by decide +kernel
theorem dMO_stock_183 : decode cMO_stock 183 = .ok (.getfield 30, 3) := by decide +kernel
theorem dMO_stock_186 : decode cMO_stock 186 = .ok (.iload 9, 2) := by decide +kernel
theorem dMO_stock_188 : decode cMO_stock 188 = .ok (.iconst 1, 1) := by decide +kernel
theorem dMO_stock_189 : decode cMO_stock 189 = .ok (.bastore, 1) := by decide +kernel
theorem dMO_stock_190 : decode cMO_stock 190 = .ok (.aload_n 0, 1) := by decide +kernel
theorem dMO_stock_191 : decode cMO_stock 191 = .ok (.iload 9, 2) := by decide +kernel
theorem dMO_stock_193 : decode cMO_stock 193 = .ok (.aload_n 0, 1) := by decide +kernel
theorem dMO_stock_194 : decode cMO_stock 194 = .ok (.iload_n 1, 1) := by decide +kernel
theorem dMO_stock_195 : decode cMO_stock 195 = .ok (.iload_n 2, 1) := by decide +kernel
theorem dMO_stock_196 : decode cMO_stock 196 = .ok (.invokevirtual 124, 3) := by decide +kernel
theorem dMO_stock_199 : decode cMO_stock 199 = .ok (.lload 7, 2) := by decide +kernel
theorem dMO_stock_201 : decode cMO_stock 201 = .ok (.invokevirtual 92, 3) := by decide +kernel
theorem dMO_stock_204 : decode cMO_stock 204 = .ok (.aload_n 0, 1) := by decide +kernel
theorem dMO_stock_205 : decode cMO_stock 205 = .ok (.iload 9, 2) := by decide +kernel
theorem dMO_stock_207 : decode cMO_stock 207 = .ok (.aload_n 0, 1) := by decide +kernel
theorem dMO_stock_208 : decode cMO_stock 208 = .ok (.iload_n 1, 1) := by decide +kernel
theorem dMO_stock_209 : decode cMO_stock 209 = .ok (.iconst 5, 1) := by decide +kernel
theorem dMO_stock_210 : decode cMO_stock 210 = .ok (.invokevirtual 124, 3) := by decide +kernel
theorem dMO_stock_213 : decode cMO_stock 213 = .ok (.lload 7, 2) := by decide +kernel
theorem dMO_stock_215 : decode cMO_stock 215 = .ok (.lneg, 1) := by decide +kernel
theorem dMO_stock_216 : decode cMO_stock 216 = .ok (.invokevirtual 92, 3) := by decide +kernel
theorem dMO_stock_219 : decode cMO_stock 219 = .ok (.aload_n 0, 1) := by decide +kernel
theorem dMO_stock_220 : decode cMO_stock 220 = .ok (.iload 9, 2) := by decide +kernel
theorem dMO_stock_222 : decode cMO_stock 222 = .ok (.invokevirtual 114, 3) := by decide +kernel
theorem dMO_stock_225 : decode cMO_stock 225 = .ok (.istore 10, 2) := by decide +kernel
theorem dMO_stock_227 : decode cMO_stock 227 = .ok (.iload 10, 2) := by decide +kernel
theorem dMO_stock_229 : decode cMO_stock 229 = .ok (.ifCond .le 9, 3) := by decide +kernel
theorem dMO_stock_232 : decode cMO_stock 232 = .ok (.lload 7, 2) := by decide +kernel
theorem dMO_stock_234 : decode cMO_stock 234 = .ok (.l2i, 1) := by decide +kernel
theorem dMO_stock_235 : decode cMO_stock 235 = .ok (.goto 4, 3) := by decide +kernel
theorem dMO_stock_238 : decode cMO_stock 238 = .ok (.iconst 0, 1) := by decide +kernel
theorem dMO_stock_239 : decode cMO_stock 239 = .ok (.ireturn, 1) := by decide +kernel
theorem dMO_limit_0 : decode cMO_limit 0 = .ok (.aload_n 0, 1) := by decide +kernel
theorem dMO_limit_1 : decode cMO_limit 1 = .ok (.iconst 0, 1) := by decide +kernel
theorem dMO_limit_2 : decode cMO_limit 2 = .ok (.putfield 54, 3) := by decide +kernel
theorem dMO_limit_5 : decode cMO_limit 5 = .ok (.aload_n 0, 1) := by decide +kernel
theorem dMO_limit_6 : decode cMO_limit 6 = .ok (.iload_n 1, 1) := by decide +kernel
theorem dMO_limit_7 : decode cMO_limit 7 = .ok (.invokevirtual 85, 3) := by decide +kernel
theorem dMO_limit_10 : decode cMO_limit 10 = .ok (.ifCond .ne 6, 3) := by decide +kernel
theorem dMO_limit_13 : decode cMO_limit 13 = .ok (.ldc 113, 2) := by decide +kernel
theorem dMO_limit_15 : decode cMO_limit 15 = .ok (.ireturn, 1) := by decide +kernel
theorem dMO_limit_16 : decode cMO_limit 16 = .ok (.lload_n 2, 1) := by decide +kernel
theorem dMO_limit_17 : decode cMO_limit 17 = .ok (.lconst 0, 1) := by decide +kernel
theorem dMO_limit_18 : decode cMO_limit 18 = .ok (.ldc2_w 90, 3) := by decide +kernel
theorem dMO_limit_21 : decode cMO_limit 21 = .ok (.invokestatic 61, 3) := by decide +kernel
theorem dMO_limit_24 : decode cMO_limit 24 = .ok (.ifCond .ne 6, 3) := by decide +kernel
theorem dMO_limit_27 : decode cMO_limit 27 = .ok (.ldc 72, 2) := by decide +kernel
theorem dMO_limit_29 : decode cMO_limit 29 = .ok (.ireturn, 1) := by decide +kernel
theorem dMO_limit_30 : decode cMO_limit 30 = .ok (.aload_n 0, 1) := by decide +kernel
theorem dMO_limit_31 : decode cMO_limit 31 = .ok (.getfield 16, 3) := by decide +kernel
theorem dMO_limit_34 : decode cMO_limit 34 = .ok (.iload_n 1, 1) := by decide +kernel
theorem dMO_limit_35 : decode cMO_limit 35 = .ok (.laload, 1) := by decide +kernel
theorem dMO_limit_36 : decode cMO_limit 36 = .ok (.l2i, 1) := by decide +kernel
theorem dMO_limit_37 : decode cMO_limit 37 = .ok (.istore 4, 2) := by decide +kernel
theorem dMO_limit_39 : decode cMO_limit 39 = .ok (.aload_n 0, 1) := by decide +kernel
theorem dMO_limit_40 : decode cMO_limit 40 = .ok (.getfield 16, 3) := by decide +kernel
theorem dMO_limit_43 : decode cMO_limit 43 = .ok (.iload_n 1, 1) := by decide +kernel
theorem dMO_limit_44 : decode cMO_limit 44 = .ok (.lload_n 2, 1) := by decide +kernel
theorem dMO_limit_45 : decode cMO_limit 45 = .ok (.lastore, 1) := by decide +kernel
theorem dMO_limit_46 : decode cMO_limit 46 = .ok (.iload 4, 2) := by decide +kernel
theorem dMO_limit_48 : decode cMO_limit 48 = .ok (.ireturn, 1) := by decide +kernel
theorem dMO_fails_0 : decode cMO_fails 0 = .ok (.aload_n 0, 1) := by decide +kernel
theorem dMO_fails_1 : decode cMO_fails 1 = .ok (.iconst 0, 1) := by decide +kernel
theorem dMO_fails_2 : decode cMO_fails 2 = .ok (.putfield 54, 3) := by decide +kernel
theorem dMO_fails_5 : decode cMO_fails 5 = .ok (.aload_n 0, 1) := by decide +kernel
theorem dMO_fails_6 : decode cMO_fails 6 = .ok (.iload_n 1, 1) := by decide +kernel
theorem dMO_fails_7 : decode cMO_fails 7 = .ok (.invokevirtual 81, 3) := by decide +kernel
theorem dMO_fails_10 : decode cMO_fails 10 = .ok (.ifCond .eq 12, 3) := by decide +kernel
theorem dMO_fails_13 : decode cMO_fails 13 = .ok (.aload_n 0, 1) := by decide +kernel
theorem dMO_fails_14 : decode cMO_fails 14 = .ok (.getfield 20, 3) := by decide +kernel
theorem dMO_fails_17 : decode cMO_fails 17 = .ok (.iload_n 1, 1) := by decide +kernel
theorem dMO_fails_18 : decode cMO_fails 18 = .ok (.iaload, 1) := by decide +kernel
theorem dMO_fails_19 : decode cMO_fails 19 = .ok (.ifCond .eq 5, 3) := by decide +kernel
theorem dMO_fails_22 : decode cMO_fails 22 = .ok (.iconst 0, 1) := by decide +kernel
theorem dMO_fails_23 : decode cMO_fails 23 = .ok (.ireturn, 1) := by decide +kernel
theorem dMO_fails_24 : decode cMO_fails 24 = .ok (.aload_n 0, 1) := by decide +kernel
theorem dMO_fails_25 : decode cMO_fails 25 = .ok (.getfield 26, 3) := by decide +kernel
theorem dMO_fails_28 : decode cMO_fails 28 = .ok (.iload_n 1, 1) := by decide +kernel
theorem dMO_fails_29 : decode cMO_fails 29 = .ok (.baload, 1) := by decide +kernel
theorem dMO_fails_30 : decode cMO_fails 30 = .ok (.iload_n 2, 1) := by decide +kernel
theorem dMO_fails_31 : decode cMO_fails 31 = .ok (.if_icmp .eq 7, 3) := by decide +kernel
theorem dMO_fails_34 : decode cMO_fails 34 = .ok (.iconst 1, 1) := by decide +kernel
theorem dMO_fails_35 : decode cMO_fails 35 = .ok (.goto 4, 3) := by decide +kernel
theorem dMO_fails_38 : decode cMO_fails 38 = .ok (.iconst 0, 1) := by decide +kernel
theorem dMO_fails_39 : decode cMO_fails 39 = .ok (.istore_n 3, 1) := by decide +kernel
theorem dMO_fails_40 : decode cMO_fails 40 = .ok (.aload_n 0, 1) := by decide +kernel
theorem dMO_fails_41 : decode cMO_fails 41 = .ok (.getfield 26, 3) := by decide +kernel
theorem dMO_fails_44 : decode cMO_fails 44 = .ok (.iload_n 1, 1) := by decide +kernel
theorem dMO_fails_45 : decode cMO_fails 45 = .ok (.iload_n 2, 1) := by decide +kernel
theorem dMO_fails_46 : decode cMO_fails 46 = .ok (.bastore, 1) := by decide +kernel
theorem dMO_fails_47 : decode cMO_fails 47 = .ok (.iload_n 3, 1) := by decide +kernel
theorem dMO_fails_48 : decode cMO_fails 48 = .ok (.ireturn, 1) := by decide +kernel
theorem dMO_hold_0 : decode cMO_hold 0 = .ok (.aload_n 0, 1) := by decide +kernel
theorem dMO_hold_1 : decode cMO_hold 1 = .ok (.iconst 0, 1) := by decide +kernel
theorem dMO_hold_2 : decode cMO_hold 2 = .ok (.putfield 54, 3) := by decide +kernel
theorem dMO_hold_5 : decode cMO_hold 5 = .ok (.aload_n 0, 1) := by decide +kernel
theorem dMO_hold_6 : decode cMO_hold 6 = .ok (.iload_n 1, 1) := by decide +kernel
theorem dMO_hold_7 : decode cMO_hold 7 = .ok (.invokevirtual 85, 3) := by decide +kernel
theorem dMO_hold_10 : decode cMO_hold 10 = .ok (.ifCond .ne 7, 3) := by decide +kernel
theorem dMO_hold_13 : decode cMO_hold 13 = .ok (.ldc2_w 117, 3) := by decide +kernel
theorem dMO_hold_16 : decode cMO_hold 16 = .ok (.lreturn, 1) := by decide +kernel
theorem dMO_hold_17 : decode cMO_hold 17 = .ok (.lconst 0, 1) := by decide +kernel
theorem dMO_hold_18 : decode cMO_hold 18 = .ok (.lstore_n 2, 1) := by decide +kernel
theorem dMO_hold_19 : decode cMO_hold 19 = .ok (.iconst 1, 1) := by decide +kernel
theorem dMO_hold_20 : decode cMO_hold 20 = .ok (.istore 4, 2) := by decide +kernel
theorem dMO_hold_22 : decode cMO_hold 22 = .ok (.iload 4, 2) := by decide +kernel
theorem dMO_hold_24 : decode cMO_hold 24 = .ok (.aload_n 0, 1) := by decide +kernel
theorem dMO_hold_25 : decode cMO_hold 25 = .ok (.getfield 65, 3) := by decide +kernel
theorem dMO_hold_28 : decode cMO_hold 28 = .ok (.if_icmp .gt 88, 3) := by decide +kernel
theorem dMO_hold_31 : decode cMO_hold 31 = .ok (.iconst 0, 1) := by decide +kernel
theorem dMO_hold_32 : decode cMO_hold 32 = .ok (.istore 5, 2) := by decide +kernel
theorem dMO_hold_34 : decode cMO_hold 34 = .ok (.iload 5, 2) := by decide +kernel
theorem dMO_hold_36 : decode cMO_hold 36 = .ok (.aload_n 0, 1) := by decide +kernel
theorem dMO_hold_37 : decode cMO_hold 37 = .ok (.getfield 36, 3) := by decide +kernel
theorem dMO_hold_40 : decode cMO_hold 40 = .ok (.iload 4, 2) := by decide +kernel
theorem dMO_hold_42 : decode cMO_hold 42 = .ok (.iaload, 1) := by decide +kernel
theorem dMO_hold_43 : decode cMO_hold 43 = .ok (.if_icmp .ge 67, 3) := by decide +kernel
theorem dMO_hold_46 : decode cMO_hold 46 = .ok (.aload_n 0, 1) := by decide +kernel
theorem dMO_hold_47 : decode cMO_hold 47 = .ok (.getfield 20, 3) := by decide +kernel
theorem dMO_hold_50 : decode cMO_hold 50 = .ok (.iload 4, 2) := by decide +kernel
theorem dMO_hold_52 : decode cMO_hold 52 = .ok (.iaload, 1) := by decide +kernel
theorem dMO_hold_53 : decode cMO_hold 53 = .ok (.ifCond .ne 57, 3) := by decide +kernel
theorem dMO_hold_56 : decode cMO_hold 56 = .ok (.aload_n 0, 1) := by decide +kernel
theorem dMO_hold_57 : decode cMO_hold 57 = .ok (.getfield 42, 3) := by decide +kernel
theorem dMO_hold_60 : decode cMO_hold 60 = .ok (.bipush 12, 2) := by decide +kernel
theorem dMO_hold_62 : decode cMO_hold 62 = .ok (.iload 4, 2) := by decide +kernel
theorem dMO_hold_64 : decode cMO_hold 64 = .ok (.imul, 1) := by decide +kernel
theorem dMO_hold_65 : decode cMO_hold 65 = .ok (.iload 5, 2) := by decide +kernel
theorem dMO_hold_67 : decode cMO_hold 67 = .ok (.iadd, 1) := by decide +kernel
theorem dMO_hold_68 : decode cMO_hold 68 = .ok (.laload, 1) := by decide +kernel
theorem dMO_hold_69 : decode cMO_hold 69 = .ok (.lstore 6, 2) := by decide +kernel
theorem dMO_hold_71 : decode cMO_hold 71 = .ok (.aload_n 0, 1) := by decide +kernel
theorem dMO_hold_72 : decode cMO_hold 72 = .ok (.getfield 39, 3) := by decide +kernel
theorem dMO_hold_75 : decode cMO_hold 75 = .ok (.bipush 12, 2) := by decide +kernel
theorem dMO_hold_77 : decode cMO_hold 77 = .ok (.iload 4, 2) := by decide +kernel
theorem dMO_hold_79 : decode cMO_hold 79 = .ok (.imul, 1) := by decide +kernel
theorem dMO_hold_80 : decode cMO_hold 80 = .ok (.iload 5, 2) := by decide +kernel
theorem dMO_hold_82 : decode cMO_hold 82 = .ok (.iadd, 1) := by decide +kernel
theorem dMO_hold_83 : decode cMO_hold 83 = .ok (.iaload, 1) := by decide +kernel
theorem dMO_hold_84 : decode cMO_hold 84 = .ok (.iload_n 1, 1) := by decide +kernel
theorem dMO_hold_85 : decode cMO_hold 85 = .ok (.if_icmp .ne 17, 3) := by decide +kernel
theorem dMO_hold_88 : decode cMO_hold 88 = .ok (.lload 6, 2) := by decide +kernel
theorem dMO_hold_90 : decode cMO_hold 90 = .ok (.lconst 0, 1) := by decide +kernel
theorem dMO_hold_91 : decode cMO_hold 91 = .ok (.lcmp, 1) := by decide +kernel
theorem dMO_hold_92 : decode cMO_hold 92 = .ok (.ifCond .ge 10, 3) := by decide +kernel
theorem dMO_hold_95 : decode cMO_hold 95 = .ok (.lload_n 2, 1) := by decide +kernel
theorem dMO_hold_96 : decode cMO_hold 96 = .ok (.lload 6, 2) := by decide +kernel
theorem dMO_hold_98 : decode cMO_hold 98 = .ok (.lsub, 1) := by decide +kernel
theorem dMO_hold_99 : decode cMO_hold 99 = .ok (.goto 4, 3) := by decide +kernel
theorem dMO_hold_102 : decode cMO_hold 102 = .ok (.lload_n 2, 1) := by decide +kernel
theorem dMO_hold_103 : decode cMO_hold 103 = .ok (.lstore_n 2, 1) := by decide +kernel
theorem dMO_hold_104 : decode cMO_hold 104 = .ok (.iinc 5 1, 3) := by decide +kernel
theorem dMO_hold_107 : decode cMO_hold 107 = .ok (.goto (-73), 3) := by decide +kernel
theorem dMO_hold_110 : decode cMO_hold 110 = .ok (.iinc 4 1, 3) := by decide +kernel
theorem dMO_hold_113 : decode cMO_hold 113 = .ok (.goto (-91), 3) := by decide +kernel
theorem dMO_hold_116 : decode cMO_hold 116 = .ok (.lload_n 2, 1) := by decide +kernel
theorem dMO_hold_117 : decode cMO_hold 117 = .ok (.lreturn, 1) := by decide +kernel
theorem dMO_rows_0 : decode cMO_rows 0 = .ok (.aload_n 0, 1) := by decide +kernel
theorem dMO_rows_1 : decode cMO_rows 1 = .ok (.iconst 0, 1) := by decide +kernel
theorem dMO_rows_2 : decode cMO_rows 2 = .ok (.putfield 54, 3) := by decide +kernel
theorem dMO_rows_5 : decode cMO_rows 5 = .ok (.iconst 0, 1) := by decide +kernel
theorem dMO_rows_6 : decode cMO_rows 6 = .ok (.istore_n 1, 1) := by decide +kernel
theorem dMO_rows_7 : decode cMO_rows 7 = .ok (.iconst 0, 1) := by decide +kernel
theorem dMO_rows_8 : decode cMO_rows 8 = .ok (.istore_n 2, 1) := by decide +kernel
theorem dMO_rows_9 : decode cMO_rows 9 = .ok (.iload_n 2, 1) := by decide +kernel
theorem dMO_rows_10 : decode cMO_rows 10 = .ok (.aload_n 0, 1) := by decide +kernel
theorem dMO_rows_11 : decode cMO_rows 11 = .ok (.getfield 96, 3) := by decide +kernel
theorem dMO_rows_14 : decode cMO_rows 14 = .ok (.if_icmp .ge 23, 3) := by decide +kernel
theorem dMO_rows_17 : decode cMO_rows 17 = .ok (.iload_n 1, 1) := by decide +kernel
theorem dMO_rows_18 : decode cMO_rows 18 = .ok (.aload_n 0, 1) := by decide +kernel
theorem dMO_rows_19 : decode cMO_rows 19 = .ok (.getfield 36, 3) := by decide +kernel
theorem dMO_rows_22 : decode cMO_rows 22 = .ok (.aload_n 0, 1) := by decide +kernel
theorem dMO_rows_23 : decode cMO_rows 23 = .ok (.getfield 45, 3) := by decide +kernel
theorem dMO_rows_26 : decode cMO_rows 26 = .ok (.iload_n 2, 1) := by decide +kernel
theorem dMO_rows_27 : decode cMO_rows 27 = .ok (.iaload, 1) := by decide +kernel
theorem dMO_rows_28 : decode cMO_rows 28 = .ok (.iaload, 1) := by decide +kernel
theorem dMO_rows_29 : decode cMO_rows 29 = .ok (.iadd, 1) := by decide +kernel
theorem dMO_rows_30 : decode cMO_rows 30 = .ok (.istore_n 1, 1) := by decide +kernel
theorem dMO_rows_31 : decode cMO_rows 31 = .ok (.iinc 2 1, 3) := by decide +kernel
theorem dMO_rows_34 : decode cMO_rows 34 = .ok (.goto (-25), 3) := by decide +kernel
theorem dMO_rows_37 : decode cMO_rows 37 = .ok (.iload_n 1, 1) := by decide +kernel
theorem dMO_rows_38 : decode cMO_rows 38 = .ok (.ireturn, 1) := by decide +kernel
theorem dMO_all_0 : decode cMO_all 0 = .ok (.aload_n 0, 1) := by decide +kernel
theorem dMO_all_1 : decode cMO_all 1 = .ok (.iconst 0, 1) := by decide +kernel
theorem dMO_all_2 : decode cMO_all 2 = .ok (.putfield 54, 3) := by decide +kernel
theorem dMO_all_5 : decode cMO_all 5 = .ok (.lconst 0, 1) := by decide +kernel
theorem dMO_all_6 : decode cMO_all 6 = .ok (.lstore_n 1, 1) := by decide +kernel
theorem dMO_all_7 : decode cMO_all 7 = .ok (.iconst 1, 1) := by decide +kernel
theorem dMO_all_8 : decode cMO_all 8 = .ok (.istore_n 3, 1) := by decide +kernel
theorem dMO_all_9 : decode cMO_all 9 = .ok (.iload_n 3, 1) := by decide +kernel
theorem dMO_all_10 : decode cMO_all 10 = .ok (.aload_n 0, 1) := by decide +kernel
theorem dMO_all_11 : decode cMO_all 11 = .ok (.getfield 58, 3) := by decide +kernel
theorem dMO_all_14 : decode cMO_all 14 = .ok (.if_icmp .gt 20, 3) := by decide +kernel
theorem dMO_all_17 : decode cMO_all 17 = .ok (.lload_n 1, 1) := by decide +kernel
theorem dMO_all_18 : decode cMO_all 18 = .ok (.aload_n 0, 1) := by decide +kernel
theorem dMO_all_19 : decode cMO_all 19 = .ok (.iload_n 3, 1) := by decide +kernel
theorem dMO_all_20 : decode cMO_all 20 = .ok (.ldc2_w 103, 3) := by decide +kernel
theorem dMO_all_23 : decode cMO_all 23 = .ok (.invokevirtual 105, 3) := by decide +kernel
theorem dMO_all_26 : decode cMO_all 26 = .ok (.ladd, 1) := by decide +kernel
theorem dMO_all_27 : decode cMO_all 27 = .ok (.lstore_n 1, 1) := by decide +kernel
theorem dMO_all_28 : decode cMO_all 28 = .ok (.iinc 3 1, 3) := by decide +kernel
theorem dMO_all_31 : decode cMO_all 31 = .ok (.goto (-22), 3) := by decide +kernel
theorem dMO_all_34 : decode cMO_all 34 = .ok (.lload_n 1, 1) := by decide +kernel
theorem dMO_all_35 : decode cMO_all 35 = .ok (.lreturn, 1) := by decide +kernel
