/-! decode rows: THR -/
theorem dPL_post_0 : decode cPL_post 0 = .ok (.aload_n 0, 1) := by decide +kernel
theorem dPL_post_1 : decode cPL_post 1 = .ok (.iload_n 1, 1) := by decide +kernel
theorem dPL_post_2 : decode cPL_post 2 = .ok (.invokevirtual 62, 3) := by decide +kernel
theorem dPL_post_5 : decode cPL_post 5 = .ok (.astore_n 2, 1) := by decide +kernel
theorem dPL_post_6 : decode cPL_post 6 = .ok (.aload_n 2, 1) := by decide +kernel
theorem dPL_post_7 : decode cPL_post 7 = .ok (.ifnonnull 6, 3) := by decide +kernel
theorem dPL_post_10 : decode cPL_post 10 = .ok (.ldc 88, 2) := by decide +kernel
theorem dPL_post_12 : decode cPL_post 12 = .ok (.ireturn, 1) := by decide +kernel
theorem dPL_post_13 : decode cPL_post 13 = .ok (.aload_n 2, 1) := by decide +kernel
theorem dPL_post_14 : decode cPL_post 14 = .ok (.invokevirtual 70, 3) := by decide +kernel
theorem dPL_post_17 : decode cPL_post 17 = .ok (.ifCond .eq 15, 3) := by decide +kernel
theorem dPL_post_20 : decode cPL_post 20 = .ok (.aload_n 0, 1) := by decide +kernel
theorem dPL_post_21 : decode cPL_post 21 = .ok (.aload_n 2, 1) := by decide +kernel
theorem dPL_post_22 : decode cPL_post 22 = .ok (.getfield 89, 3) := by decide +kernel
theorem dPL_post_25 : decode cPL_post 25 = .ok (.i2l, 1) := by decide +kernel
theorem dPL_post_26 : decode cPL_post 26 = .ok (.invokevirtual 49, 3) := by decide +kernel
theorem dPL_post_29 : decode cPL_post 29 = .ok (.ifCond .eq 6, 3) := by decide +kernel
theorem dPL_post_32 : decode cPL_post 32 = .ok (.ldc 52, 2) := by decide +kernel
theorem dPL_post_34 : decode cPL_post 34 = .ok (.ireturn, 1) := by decide +kernel
theorem dPL_post_35 : decode cPL_post 35 = .ok (.aload_n 2, 1) := by decide +kernel
theorem dPL_post_36 : decode cPL_post 36 = .ok (.invokevirtual 92, 3) := by decide +kernel
theorem dPL_post_39 : decode cPL_post 39 = .ok (.astore_n 3, 1) := by decide +kernel
theorem dPL_post_40 : decode cPL_post 40 = .ok (.aload_n 3, 1) := by decide +kernel
theorem dPL_post_41 : decode cPL_post 41 = .ok (.getstatic 96, 3) := by decide +kernel
theorem dPL_post_44 : decode cPL_post 44 = .ok (.if_acmp .ne 10, 3) := by decide +kernel
theorem dPL_post_47 : decode cPL_post 47 = .ok (.aload_n 0, 1) := by decide +kernel
theorem dPL_post_48 : decode cPL_post 48 = .ok (.aload_n 2, 1) := by decide +kernel
theorem dPL_post_49 : decode cPL_post 49 = .ok (.invokevirtual 102, 3) := by decide +kernel
theorem dPL_post_52 : decode cPL_post 52 = .ok (.iconst 1, 1) := by decide +kernel
theorem dPL_post_53 : decode cPL_post 53 = .ok (.ireturn, 1) := by decide +kernel
theorem dPL_post_54 : decode cPL_post 54 = .ok (.aload_n 2, 1) := by decide +kernel
theorem dPL_post_55 : decode cPL_post 55 = .ok (.getstatic 106, 3) := by decide +kernel
theorem dPL_post_58 : decode cPL_post 58 = .ok (.putfield 112, 3) := by decide +kernel
theorem dPL_post_61 : decode cPL_post 61 = .ok (.aload_n 3, 1) := by decide +kernel
theorem dPL_post_62 : decode cPL_post 62 = .ok (.getstatic 115, 3) := by decide +kernel
theorem dPL_post_65 : decode cPL_post 65 = .ok (.if_acmp .ne 13, 3) := by decide +kernel
theorem dPL_post_68 : decode cPL_post 68 = .ok (.new 118, 3) := by decide +kernel
theorem dPL_post_71 : decode cPL_post 71 = .ok (.dup, 1) := by decide +kernel
theorem dPL_post_72 : decode cPL_post 72 = .ok (.ldc 120, 2) := by decide +kernel
theorem dPL_post_74 : decode cPL_post 74 = .ok (.invokespecial 122, 3) := by decide +kernel
theorem dPL_post_77 : decode cPL_post 77 = .ok (.athrow, 1) := by decide +kernel
theorem dPL_post_78 : decode cPL_post 78 = .ok (.iconst 0, 1) := by decide +kernel
theorem dPL_post_79 : decode cPL_post 79 = .ok (.ireturn, 1) := by decide +kernel
