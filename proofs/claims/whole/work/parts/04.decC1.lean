theorem d_Ty_init_0 : decode b_Ty_init 0 = .ok (.aload_n 0, 1) := by decide +kernel
theorem d_Ty_init_1 : decode b_Ty_init 1 = .ok (.iconst 5, 1) := by decide +kernel
theorem d_Ty_init_2 : decode b_Ty_init 2 = .ok (.iload_n 1, 1) := by decide +kernel
theorem d_Ty_init_3 : decode b_Ty_init 3 = .ok (.iload_n 2, 1) := by decide +kernel
theorem d_Ty_init_4 : decode b_Ty_init 4 = .ok (.invokespecial 3, 3) := by decide +kernel
theorem d_Ty_init_7 : decode b_Ty_init 7 = .ok (.aload_n 0, 1) := by decide +kernel
theorem d_Ty_init_8 : decode b_Ty_init 8 = .ok (.iload_n 3, 1) := by decide +kernel
theorem d_Ty_init_9 : decode b_Ty_init 9 = .ok (.putfield 9, 3) := by decide +kernel
theorem d_Ty_init_12 : decode b_Ty_init 12 = .ok (.aload_n 0, 1) := by decide +kernel
theorem d_Ty_init_13 : decode b_Ty_init 13 = .ok (.iload 4, 2) := by decide +kernel
theorem d_Ty_init_15 : decode b_Ty_init 15 = .ok (.putfield 15, 3) := by decide +kernel
theorem d_Ty_init_18 : decode b_Ty_init 18 = .ok (.aload_n 0, 1) := by decide +kernel
theorem d_Ty_init_19 : decode b_Ty_init 19 = .ok (.iload 5, 2) := by decide +kernel
theorem d_Ty_init_21 : decode b_Ty_init 21 = .ok (.putfield 18, 3) := by decide +kernel
theorem d_Ty_init_24 : decode b_Ty_init 24 = .ok (.return_, 1) := by decide +kernel
theorem d_TC_first_0 : decode b_TC_first 0 = .ok (.aload_n 0, 1) := by decide +kernel
theorem d_TC_first_1 : decode b_TC_first 1 = .ok (.aload_n 0, 1) := by decide +kernel
theorem d_TC_first_2 : decode b_TC_first 2 = .ok (.iload_n 1, 1) := by decide +kernel
theorem d_TC_first_3 : decode b_TC_first 3 = .ok (.iload_n 2, 1) := by decide +kernel
theorem d_TC_first_4 : decode b_TC_first 4 = .ok (.invokevirtual 61, 3) := by decide +kernel
theorem d_TC_first_7 : decode b_TC_first 7 = .ok (.ifCond .eq 28, 3) := by decide +kernel
theorem d_TC_first_10 : decode b_TC_first 10 = .ok (.iload_n 3, 1) := by decide +kernel
theorem d_TC_first_11 : decode b_TC_first 11 = .ok (.invokestatic 101, 3) := by decide +kernel
theorem d_TC_first_14 : decode b_TC_first 14 = .ok (.ifCond .eq 21, 3) := by decide +kernel
theorem d_TC_first_17 : decode b_TC_first 17 = .ok (.iload 4, 2) := by decide +kernel
theorem d_TC_first_19 : decode b_TC_first 19 = .ok (.invokestatic 101, 3) := by decide +kernel
theorem d_TC_first_22 : decode b_TC_first 22 = .ok (.ifCond .eq 13, 3) := by decide +kernel
theorem d_TC_first_25 : decode b_TC_first 25 = .ok (.iload_n 3, 1) := by decide +kernel
theorem d_TC_first_26 : decode b_TC_first 26 = .ok (.iload 4, 2) := by decide +kernel
theorem d_TC_first_28 : decode b_TC_first 28 = .ok (.if_icmp .eq 7, 3) := by decide +kernel
theorem d_TC_first_31 : decode b_TC_first 31 = .ok (.iconst 1, 1) := by decide +kernel
theorem d_TC_first_32 : decode b_TC_first 32 = .ok (.goto 4, 3) := by decide +kernel
theorem d_TC_first_35 : decode b_TC_first 35 = .ok (.iconst 0, 1) := by decide +kernel
theorem d_TC_first_36 : decode b_TC_first 36 = .ok (.invokevirtual 65, 3) := by decide +kernel
theorem d_TC_first_39 : decode b_TC_first 39 = .ok (.istore 5, 2) := by decide +kernel
theorem d_TC_first_41 : decode b_TC_first 41 = .ok (.iload 5, 2) := by decide +kernel
theorem d_TC_first_43 : decode b_TC_first 43 = .ok (.ifCond .eq 8, 3) := by decide +kernel
theorem d_TC_first_46 : decode b_TC_first 46 = .ok (.iload 5, 2) := by decide +kernel
theorem d_TC_first_48 : decode b_TC_first 48 = .ok (.goto 19, 3) := by decide +kernel
theorem d_TC_first_51 : decode b_TC_first 51 = .ok (.aload_n 0, 1) := by decide +kernel
theorem d_TC_first_52 : decode b_TC_first 52 = .ok (.new 126, 3) := by decide +kernel
theorem d_TC_first_55 : decode b_TC_first 55 = .ok (.dup, 1) := by decide +kernel
theorem d_TC_first_56 : decode b_TC_first 56 = .ok (.iload_n 1, 1) := by decide +kernel
theorem d_TC_first_57 : decode b_TC_first 57 = .ok (.iload_n 2, 1) := by decide +kernel
theorem d_TC_first_58 : decode b_TC_first 58 = .ok (.iload_n 3, 1) := by decide +kernel
theorem d_TC_first_59 : decode b_TC_first 59 = .ok (.iload 4, 2) := by decide +kernel
theorem d_TC_first_61 : decode b_TC_first 61 = .ok (.invokespecial 128, 3) := by decide +kernel
theorem d_TC_first_64 : decode b_TC_first 64 = .ok (.invokevirtual 73, 3) := by decide +kernel
theorem d_TC_first_67 : decode b_TC_first 67 = .ok (.ireturn, 1) := by decide +kernel
theorem d_Fi_init_0 : decode b_Fi_init 0 = .ok (.aload_n 0, 1) := by decide +kernel
theorem d_Fi_init_1 : decode b_Fi_init 1 = .ok (.bipush 6, 2) := by decide +kernel
theorem d_Fi_init_3 : decode b_Fi_init 3 = .ok (.iload_n 1, 1) := by decide +kernel
theorem d_Fi_init_4 : decode b_Fi_init 4 = .ok (.iload_n 2, 1) := by decide +kernel
theorem d_Fi_init_5 : decode b_Fi_init 5 = .ok (.invokespecial 3, 3) := by decide +kernel
theorem d_Fi_init_8 : decode b_Fi_init 8 = .ok (.aload_n 0, 1) := by decide +kernel
theorem d_Fi_init_9 : decode b_Fi_init 9 = .ok (.iload_n 3, 1) := by decide +kernel
theorem d_Fi_init_10 : decode b_Fi_init 10 = .ok (.putfield 9, 3) := by decide +kernel
theorem d_Fi_init_13 : decode b_Fi_init 13 = .ok (.aload_n 0, 1) := by decide +kernel
theorem d_Fi_init_14 : decode b_Fi_init 14 = .ok (.iload 4, 2) := by decide +kernel
theorem d_Fi_init_16 : decode b_Fi_init 16 = .ok (.putfield 15, 3) := by decide +kernel
theorem d_Fi_init_19 : decode b_Fi_init 19 = .ok (.return_, 1) := by decide +kernel
theorem d_TC_undo_0 : decode b_TC_undo 0 = .ok (.aload_n 0, 1) := by decide +kernel
theorem d_TC_undo_1 : decode b_TC_undo 1 = .ok (.getfield 37, 3) := by decide +kernel
theorem d_TC_undo_4 : decode b_TC_undo 4 = .ok (.ifCond .gt 5, 3) := by decide +kernel
theorem d_TC_undo_7 : decode b_TC_undo 7 = .ok (.iconst (-1), 1) := by decide +kernel
theorem d_TC_undo_8 : decode b_TC_undo 8 = .ok (.ireturn, 1) := by decide +kernel
theorem d_TC_undo_9 : decode b_TC_undo 9 = .ok (.aload_n 0, 1) := by decide +kernel
theorem d_TC_undo_10 : decode b_TC_undo 10 = .ok (.dup, 1) := by decide +kernel
theorem d_TC_undo_11 : decode b_TC_undo 11 = .ok (.getfield 37, 3) := by decide +kernel
theorem d_TC_undo_14 : decode b_TC_undo 14 = .ok (.iconst 1, 1) := by decide +kernel
theorem d_TC_undo_15 : decode b_TC_undo 15 = .ok (.isub, 1) := by decide +kernel
theorem d_TC_undo_16 : decode b_TC_undo 16 = .ok (.putfield 37, 3) := by decide +kernel
theorem d_TC_undo_19 : decode b_TC_undo 19 = .ok (.aload_n 0, 1) := by decide +kernel
theorem d_TC_undo_20 : decode b_TC_undo 20 = .ok (.getfield 22, 3) := by decide +kernel
theorem d_TC_undo_23 : decode b_TC_undo 23 = .ok (.aload_n 0, 1) := by decide +kernel
theorem d_TC_undo_24 : decode b_TC_undo 24 = .ok (.getfield 37, 3) := by decide +kernel
theorem d_TC_undo_27 : decode b_TC_undo 27 = .ok (.aconst_null, 1) := by decide +kernel
theorem d_TC_undo_28 : decode b_TC_undo 28 = .ok (.aastore, 1) := by decide +kernel
theorem d_TC_undo_29 : decode b_TC_undo 29 = .ok (.aload_n 0, 1) := by decide +kernel
theorem d_TC_undo_30 : decode b_TC_undo 30 = .ok (.getfield 37, 3) := by decide +kernel
theorem d_TC_undo_33 : decode b_TC_undo 33 = .ok (.ireturn, 1) := by decide +kernel
theorem d_TC_cut_0 : decode b_TC_cut 0 = .ok (.aload_n 0, 1) := by decide +kernel
theorem d_TC_cut_1 : decode b_TC_cut 1 = .ok (.iload_n 1, 1) := by decide +kernel
theorem d_TC_cut_2 : decode b_TC_cut 2 = .ok (.invokevirtual 129, 3) := by decide +kernel
theorem d_TC_cut_5 : decode b_TC_cut 5 = .ok (.ifCond .eq 13, 3) := by decide +kernel
theorem d_TC_cut_8 : decode b_TC_cut 8 = .ok (.iload_n 2, 1) := by decide +kernel
theorem d_TC_cut_9 : decode b_TC_cut 9 = .ok (.iconst 0, 1) := by decide +kernel
theorem d_TC_cut_10 : decode b_TC_cut 10 = .ok (.bipush 63, 2) := by decide +kernel
theorem d_TC_cut_12 : decode b_TC_cut 12 = .ok (.invokestatic 53, 3) := by decide +kernel
theorem d_TC_cut_15 : decode b_TC_cut 15 = .ok (.ifCond .ne 6, 3) := by decide +kernel
theorem d_TC_cut_18 : decode b_TC_cut 18 = .ok (.bipush (-2), 2) := by decide +kernel
theorem d_TC_cut_20 : decode b_TC_cut 20 = .ok (.ireturn, 1) := by decide +kernel
theorem d_TC_cut_21 : decode b_TC_cut 21 = .ok (.aload_n 0, 1) := by decide +kernel
theorem d_TC_cut_22 : decode b_TC_cut 22 = .ok (.getfield 10, 3) := by decide +kernel
theorem d_TC_cut_25 : decode b_TC_cut 25 = .ok (.getfield 41, 3) := by decide +kernel
theorem d_TC_cut_28 : decode b_TC_cut 28 = .ok (.iload_n 1, 1) := by decide +kernel
theorem d_TC_cut_29 : decode b_TC_cut 29 = .ok (.iaload, 1) := by decide +kernel
theorem d_TC_cut_30 : decode b_TC_cut 30 = .ok (.iload_n 2, 1) := by decide +kernel
theorem d_TC_cut_31 : decode b_TC_cut 31 = .ok (.iand, 1) := by decide +kernel
theorem d_TC_cut_32 : decode b_TC_cut 32 = .ok (.ifCond .ne 6, 3) := by decide +kernel
theorem d_TC_cut_35 : decode b_TC_cut 35 = .ok (.bipush (-4), 2) := by decide +kernel
theorem d_TC_cut_37 : decode b_TC_cut 37 = .ok (.ireturn, 1) := by decide +kernel
theorem d_TC_cut_38 : decode b_TC_cut 38 = .ok (.aload_n 0, 1) := by decide +kernel
theorem d_TC_cut_39 : decode b_TC_cut 39 = .ok (.getfield 10, 3) := by decide +kernel
theorem d_TC_cut_42 : decode b_TC_cut 42 = .ok (.iload_n 1, 1) := by decide +kernel
theorem d_TC_cut_43 : decode b_TC_cut 43 = .ok (.iload_n 2, 1) := by decide +kernel
theorem d_TC_cut_44 : decode b_TC_cut 44 = .ok (.bipush 10, 2) := by decide +kernel
theorem d_TC_cut_46 : decode b_TC_cut 46 = .ok (.iconst 0, 1) := by decide +kernel
theorem d_TC_cut_47 : decode b_TC_cut 47 = .ok (.invokevirtual 132, 3) := by decide +kernel
theorem d_TC_cut_50 : decode b_TC_cut 50 = .ok (.ireturn, 1) := by decide +kernel
theorem d_Ch_keepOnly_0 : decode b_Ch_keepOnly 0 = .ok (.iload_n 1, 1) := by decide +kernel
theorem d_Ch_keepOnly_1 : decode b_Ch_keepOnly 1 = .ok (.ifCond .lt 9, 3) := by decide +kernel
theorem d_Ch_keepOnly_4 : decode b_Ch_keepOnly 4 = .ok (.iload_n 1, 1) := by decide +kernel
theorem d_Ch_keepOnly_5 : decode b_Ch_keepOnly 5 = .ok (.bipush 6, 2) := by decide +kernel
theorem d_Ch_keepOnly_7 : decode b_Ch_keepOnly 7 = .ok (.if_icmp .lt 5, 3) := by decide +kernel
theorem d_Ch_keepOnly_10 : decode b_Ch_keepOnly 10 = .ok (.iconst 0, 1) := by decide +kernel
theorem d_Ch_keepOnly_11 : decode b_Ch_keepOnly 11 = .ok (.ireturn, 1) := by decide +kernel
theorem d_Ch_keepOnly_12 : decode b_Ch_keepOnly 12 = .ok (.aload_n 0, 1) := by decide +kernel
theorem d_Ch_keepOnly_13 : decode b_Ch_keepOnly 13 = .ok (.getfield 9, 3) := by decide +kernel
theorem d_Ch_keepOnly_16 : decode b_Ch_keepOnly 16 = .ok (.iload_n 1, 1) := by decide +kernel
theorem d_Ch_keepOnly_17 : decode b_Ch_keepOnly 17 = .ok (.iaload, 1) := by decide +kernel
theorem d_Ch_keepOnly_18 : decode b_Ch_keepOnly 18 = .ok (.iload_n 2, 1) := by decide +kernel
theorem d_Ch_keepOnly_19 : decode b_Ch_keepOnly 19 = .ok (.iconst (-1), 1) := by decide +kernel
theorem d_Ch_keepOnly_20 : decode b_Ch_keepOnly 20 = .ok (.ixor, 1) := by decide +kernel
theorem d_Ch_keepOnly_21 : decode b_Ch_keepOnly 21 = .ok (.iand, 1) := by decide +kernel
theorem d_Ch_keepOnly_22 : decode b_Ch_keepOnly 22 = .ok (.istore 5, 2) := by decide +kernel
theorem d_Ch_keepOnly_24 : decode b_Ch_keepOnly 24 = .ok (.iload 5, 2) := by decide +kernel
theorem d_Ch_keepOnly_26 : decode b_Ch_keepOnly 26 = .ok (.ifCond .ne 5, 3) := by decide +kernel
theorem d_Ch_keepOnly_29 : decode b_Ch_keepOnly 29 = .ok (.iconst 0, 1) := by decide +kernel
theorem d_Ch_keepOnly_30 : decode b_Ch_keepOnly 30 = .ok (.ireturn, 1) := by decide +kernel
theorem d_Ch_keepOnly_31 : decode b_Ch_keepOnly 31 = .ok (.iconst 0, 1) := by decide +kernel
theorem d_Ch_keepOnly_32 : decode b_Ch_keepOnly 32 = .ok (.istore 6, 2) := by decide +kernel
theorem d_Ch_keepOnly_34 : decode b_Ch_keepOnly 34 = .ok (.iload 6, 2) := by decide +kernel
theorem d_Ch_keepOnly_36 : decode b_Ch_keepOnly 36 = .ok (.bipush 6, 2) := by decide +kernel
theorem d_Ch_keepOnly_38 : decode b_Ch_keepOnly 38 = .ok (.if_icmp .ge 46, 3) := by decide +kernel
theorem d_Ch_keepOnly_41 : decode b_Ch_keepOnly 41 = .ok (.iload 5, 2) := by decide +kernel
theorem d_Ch_keepOnly_43 : decode b_Ch_keepOnly 43 = .ok (.iload 6, 2) := by decide +kernel
theorem d_Ch_keepOnly_45 : decode b_Ch_keepOnly 45 = .ok (.invokestatic 27, 3) := by decide +kernel
theorem d_Ch_keepOnly_48 : decode b_Ch_keepOnly 48 = .ok (.ifCond .eq 30, 3) := by decide +kernel
theorem d_Ch_keepOnly_51 : decode b_Ch_keepOnly 51 = .ok (.aload_n 0, 1) := by decide +kernel
theorem d_Ch_keepOnly_52 : decode b_Ch_keepOnly 52 = .ok (.getfield 15, 3) := by decide +kernel
theorem d_Ch_keepOnly_55 : decode b_Ch_keepOnly 55 = .ok (.iload_n 1, 1) := by decide +kernel
theorem d_Ch_keepOnly_56 : decode b_Ch_keepOnly 56 = .ok (.bipush 6, 2) := by decide +kernel
theorem d_Ch_keepOnly_58 : decode b_Ch_keepOnly 58 = .ok (.imul, 1) := by decide +kernel
theorem d_Ch_keepOnly_59 : decode b_Ch_keepOnly 59 = .ok (.iload 6, 2) := by decide +kernel
theorem d_Ch_keepOnly_61 : decode b_Ch_keepOnly 61 = .ok (.iadd, 1) := by decide +kernel
theorem d_Ch_keepOnly_62 : decode b_Ch_keepOnly 62 = .ok (.iload_n 3, 1) := by decide +kernel
theorem d_Ch_keepOnly_63 : decode b_Ch_keepOnly 63 = .ok (.iastore, 1) := by decide +kernel
theorem d_Ch_keepOnly_64 : decode b_Ch_keepOnly 64 = .ok (.aload_n 0, 1) := by decide +kernel
theorem d_Ch_keepOnly_65 : decode b_Ch_keepOnly 65 = .ok (.getfield 18, 3) := by decide +kernel
theorem d_Ch_keepOnly_68 : decode b_Ch_keepOnly 68 = .ok (.iload_n 1, 1) := by decide +kernel
theorem d_Ch_keepOnly_69 : decode b_Ch_keepOnly 69 = .ok (.bipush 6, 2) := by decide +kernel
theorem d_Ch_keepOnly_71 : decode b_Ch_keepOnly 71 = .ok (.imul, 1) := by decide +kernel
theorem d_Ch_keepOnly_72 : decode b_Ch_keepOnly 72 = .ok (.iload 6, 2) := by decide +kernel
theorem d_Ch_keepOnly_74 : decode b_Ch_keepOnly 74 = .ok (.iadd, 1) := by decide +kernel
theorem d_Ch_keepOnly_75 : decode b_Ch_keepOnly 75 = .ok (.iload 4, 2) := by decide +kernel
theorem d_Ch_keepOnly_77 : decode b_Ch_keepOnly 77 = .ok (.iastore, 1) := by decide +kernel
theorem d_Ch_keepOnly_78 : decode b_Ch_keepOnly 78 = .ok (.iinc 6 1, 3) := by decide +kernel
theorem d_Ch_keepOnly_81 : decode b_Ch_keepOnly 81 = .ok (.goto (-47), 3) := by decide +kernel
theorem d_Ch_keepOnly_84 : decode b_Ch_keepOnly 84 = .ok (.aload_n 0, 1) := by decide +kernel
theorem d_Ch_keepOnly_85 : decode b_Ch_keepOnly 85 = .ok (.getfield 9, 3) := by decide +kernel
theorem d_Ch_keepOnly_88 : decode b_Ch_keepOnly 88 = .ok (.iload_n 1, 1) := by decide +kernel
theorem d_Ch_keepOnly_89 : decode b_Ch_keepOnly 89 = .ok (.dup2, 1) := by decide +kernel
theorem d_Ch_keepOnly_90 : decode b_Ch_keepOnly 90 = .ok (.iaload, 1) := by decide +kernel
theorem d_Ch_keepOnly_91 : decode b_Ch_keepOnly 91 = .ok (.iload_n 2, 1) := by decide +kernel
theorem d_Ch_keepOnly_92 : decode b_Ch_keepOnly 92 = .ok (.iand, 1) := by decide +kernel
theorem d_Ch_keepOnly_93 : decode b_Ch_keepOnly 93 = .ok (.iastore, 1) := by decide +kernel
theorem d_Ch_keepOnly_94 : decode b_Ch_keepOnly 94 = .ok (.iload 5, 2) := by decide +kernel
theorem d_Ch_keepOnly_96 : decode b_Ch_keepOnly 96 = .ok (.invokestatic 31, 3) := by decide +kernel
theorem d_Ch_keepOnly_99 : decode b_Ch_keepOnly 99 = .ok (.ireturn, 1) := by decide +kernel
theorem d_JI_bitCount_0 : decode b_JI_bitCount 0 = .ok (.iload_n 0, 1) := by decide +kernel
theorem d_JI_bitCount_1 : decode b_JI_bitCount 1 = .ok (.iload_n 0, 1) := by decide +kernel
theorem d_JI_bitCount_2 : decode b_JI_bitCount 2 = .ok (.iconst 1, 1) := by decide +kernel
theorem d_JI_bitCount_3 : decode b_JI_bitCount 3 = .ok (.iushr, 1) := by decide +kernel
theorem d_JI_bitCount_4 : decode b_JI_bitCount 4 = .ok (.ldc_w 265, 3) := by decide +kernel
theorem d_JI_bitCount_7 : decode b_JI_bitCount 7 = .ok (.iand, 1) := by decide +kernel
theorem d_JI_bitCount_8 : decode b_JI_bitCount 8 = .ok (.isub, 1) := by decide +kernel
theorem d_JI_bitCount_9 : decode b_JI_bitCount 9 = .ok (.istore_n 0, 1) := by decide +kernel
theorem d_JI_bitCount_10 : decode b_JI_bitCount 10 = .ok (.iload_n 0, 1) := by decide +kernel
theorem d_JI_bitCount_11 : decode b_JI_bitCount 11 = .ok (.ldc_w 266, 3) := by decide +kernel
theorem d_JI_bitCount_14 : decode b_JI_bitCount 14 = .ok (.iand, 1) := by decide +kernel
theorem d_JI_bitCount_15 : decode b_JI_bitCount 15 = .ok (.iload_n 0, 1) := by decide +kernel
theorem d_JI_bitCount_16 : decode b_JI_bitCount 16 = .ok (.iconst 2, 1) := by decide +kernel
theorem d_JI_bitCount_17 : decode b_JI_bitCount 17 = .ok (.iushr, 1) := by decide +kernel
theorem d_JI_bitCount_18 : decode b_JI_bitCount 18 = .ok (.ldc_w 266, 3) := by decide +kernel
theorem d_JI_bitCount_21 : decode b_JI_bitCount 21 = .ok (.iand, 1) := by decide +kernel
theorem d_JI_bitCount_22 : decode b_JI_bitCount 22 = .ok (.iadd, 1) := by decide +kernel
theorem d_JI_bitCount_23 : decode b_JI_bitCount 23 = .ok (.istore_n 0, 1) := by decide +kernel
theorem d_JI_bitCount_24 : decode b_JI_bitCount 24 = .ok (.iload_n 0, 1) := by decide +kernel
theorem d_JI_bitCount_25 : decode b_JI_bitCount 25 = .ok (.iload_n 0, 1) := by decide +kernel
theorem d_JI_bitCount_26 : decode b_JI_bitCount 26 = .ok (.iconst 4, 1) := by decide +kernel
theorem d_JI_bitCount_27 : decode b_JI_bitCount 27 = .ok (.iushr, 1) := by decide +kernel
theorem d_JI_bitCount_28 : decode b_JI_bitCount 28 = .ok (.iadd, 1) := by decide +kernel
theorem d_JI_bitCount_29 : decode b_JI_bitCount 29 = .ok (.ldc_w 267, 3) := by decide +kernel
theorem d_JI_bitCount_32 : decode b_JI_bitCount 32 = .ok (.iand, 1) := by decide +kernel
theorem d_JI_bitCount_33 : decode b_JI_bitCount 33 = .ok (.istore_n 0, 1) := by decide +kernel
theorem d_JI_bitCount_34 : decode b_JI_bitCount 34 = .ok (.iload_n 0, 1) := by decide +kernel
theorem d_JI_bitCount_35 : decode b_JI_bitCount 35 = .ok (.iload_n 0, 1) := by decide +kernel
theorem d_JI_bitCount_36 : decode b_JI_bitCount 36 = .ok (.bipush 8, 2) := by decide +kernel
theorem d_JI_bitCount_38 : decode b_JI_bitCount 38 = .ok (.iushr, 1) := by decide +kernel
theorem d_JI_bitCount_39 : decode b_JI_bitCount 39 = .ok (.iadd, 1) := by decide +kernel
theorem d_JI_bitCount_40 : decode b_JI_bitCount 40 = .ok (.istore_n 0, 1) := by decide +kernel
theorem d_JI_bitCount_41 : decode b_JI_bitCount 41 = .ok (.iload_n 0, 1) := by decide +kernel
theorem d_JI_bitCount_42 : decode b_JI_bitCount 42 = .ok (.iload_n 0, 1) := by decide +kernel
theorem d_JI_bitCount_43 : decode b_JI_bitCount 43 = .ok (.bipush 16, 2) := by decide +kernel
theorem d_JI_bitCount_45 : decode b_JI_bitCount 45 = .ok (.iushr, 1) := by decide +kernel
theorem d_JI_bitCount_46 : decode b_JI_bitCount 46 = .ok (.iadd, 1) := by decide +kernel
theorem d_JI_bitCount_47 : decode b_JI_bitCount 47 = .ok (.istore_n 0, 1) := by decide +kernel
theorem d_JI_bitCount_48 : decode b_JI_bitCount 48 = .ok (.iload_n 0, 1) := by decide +kernel
theorem d_JI_bitCount_49 : decode b_JI_bitCount 49 = .ok (.bipush 63, 2) := by decide +kernel
theorem d_JI_bitCount_51 : decode b_JI_bitCount 51 = .ok (.iand, 1) := by decide +kernel
theorem d_JI_bitCount_52 : decode b_JI_bitCount 52 = .ok (.ireturn, 1) := by decide +kernel
theorem d_TC_run_0 : decode b_TC_run 0 = .ok (.iconst 0, 1) := by decide +kernel
theorem d_TC_run_1 : decode b_TC_run 1 = .ok (.istore_n 1, 1) := by decide +kernel
theorem d_TC_run_2 : decode b_TC_run 2 = .ok (.iconst 1, 1) := by decide +kernel
theorem d_TC_run_3 : decode b_TC_run 3 = .ok (.istore_n 2, 1) := by decide +kernel
theorem d_TC_run_4 : decode b_TC_run 4 = .ok (.iload_n 2, 1) := by decide +kernel
theorem d_TC_run_5 : decode b_TC_run 5 = .ok (.bipush 100, 2) := by decide +kernel
theorem d_TC_run_7 : decode b_TC_run 7 = .ok (.if_icmp .gt 104, 3) := by decide +kernel
theorem d_TC_run_10 : decode b_TC_run 10 = .ok (.aload_n 0, 1) := by decide +kernel
theorem d_TC_run_11 : decode b_TC_run 11 = .ok (.iload_n 2, 1) := by decide +kernel
theorem d_TC_run_12 : decode b_TC_run 12 = .ok (.putfield 50, 3) := by decide +kernel
theorem d_TC_run_15 : decode b_TC_run 15 = .ok (.iload_n 1, 1) := by decide +kernel
theorem d_TC_run_16 : decode b_TC_run 16 = .ok (.istore_n 3, 1) := by decide +kernel
theorem d_TC_run_17 : decode b_TC_run 17 = .ok (.iconst 0, 1) := by decide +kernel
theorem d_TC_run_18 : decode b_TC_run 18 = .ok (.istore 4, 2) := by decide +kernel
theorem d_TC_run_20 : decode b_TC_run 20 = .ok (.iload 4, 2) := by decide +kernel
theorem d_TC_run_22 : decode b_TC_run 22 = .ok (.aload_n 0, 1) := by decide +kernel
theorem d_TC_run_23 : decode b_TC_run 23 = .ok (.getfield 37, 3) := by decide +kernel
theorem d_TC_run_26 : decode b_TC_run 26 = .ok (.if_icmp .ge 71, 3) := by decide +kernel
theorem d_TC_run_29 : decode b_TC_run 29 = .ok (.aload_n 0, 1) := by decide +kernel
theorem d_TC_run_30 : decode b_TC_run 30 = .ok (.iload 4, 2) := by decide +kernel
theorem d_TC_run_32 : decode b_TC_run 32 = .ok (.invokevirtual 77, 3) := by decide +kernel
theorem d_TC_run_35 : decode b_TC_run 35 = .ok (.astore 5, 2) := by decide +kernel
theorem d_TC_run_37 : decode b_TC_run 37 = .ok (.aload 5, 2) := by decide +kernel
theorem d_TC_run_39 : decode b_TC_run 39 = .ok (.ifnonnull 6, 3) := by decide +kernel
theorem d_TC_run_42 : decode b_TC_run 42 = .ok (.goto 49, 3) := by decide +kernel
theorem d_TC_run_45 : decode b_TC_run 45 = .ok (.aload 5, 2) := by decide +kernel
theorem d_TC_run_47 : decode b_TC_run 47 = .ok (.aload_n 0, 1) := by decide +kernel
theorem d_TC_run_48 : decode b_TC_run 48 = .ok (.getfield 10, 3) := by decide +kernel
theorem d_TC_run_51 : decode b_TC_run 51 = .ok (.getfield 41, 3) := by decide +kernel
theorem d_TC_run_54 : decode b_TC_run 54 = .ok (.aload_n 0, 1) := by decide +kernel
theorem d_TC_run_55 : decode b_TC_run 55 = .ok (.getfield 29, 3) := by decide +kernel
theorem d_TC_run_58 : decode b_TC_run 58 = .ok (.invokevirtual 135, 3) := by decide +kernel
theorem d_TC_run_61 : decode b_TC_run 61 = .ok (.aload 5, 2) := by decide +kernel
theorem d_TC_run_63 : decode b_TC_run 63 = .ok (.aload_n 0, 1) := by decide +kernel
theorem d_TC_run_64 : decode b_TC_run 64 = .ok (.getfield 29, 3) := by decide +kernel
theorem d_TC_run_67 : decode b_TC_run 67 = .ok (.invokevirtual 139, 3) := by decide +kernel
theorem d_TC_run_70 : decode b_TC_run 70 = .ok (.ifCond .ne 9, 3) := by decide +kernel
theorem d_TC_run_73 : decode b_TC_run 73 = .ok (.bipush (-100), 2) := by decide +kernel
theorem d_TC_run_75 : decode b_TC_run 75 = .ok (.iload 4, 2) := by decide +kernel
theorem d_TC_run_77 : decode b_TC_run 77 = .ok (.isub, 1) := by decide +kernel
theorem d_TC_run_78 : decode b_TC_run 78 = .ok (.ireturn, 1) := by decide +kernel
theorem d_TC_run_79 : decode b_TC_run 79 = .ok (.iload_n 1, 1) := by decide +kernel
theorem d_TC_run_80 : decode b_TC_run 80 = .ok (.aload_n 0, 1) := by decide +kernel
theorem d_TC_run_81 : decode b_TC_run 81 = .ok (.aload 5, 2) := by decide +kernel
theorem d_TC_run_83 : decode b_TC_run 83 = .ok (.iload 4, 2) := by decide +kernel
theorem d_TC_run_85 : decode b_TC_run 85 = .ok (.iload_n 2, 1) := by decide +kernel
theorem d_TC_run_86 : decode b_TC_run 86 = .ok (.invokevirtual 143, 3) := by decide +kernel
theorem d_TC_run_89 : decode b_TC_run 89 = .ok (.iadd, 1) := by decide +kernel
theorem d_TC_run_90 : decode b_TC_run 90 = .ok (.istore_n 1, 1) := by decide +kernel
theorem d_TC_run_91 : decode b_TC_run 91 = .ok (.iinc 4 1, 3) := by decide +kernel
theorem d_TC_run_94 : decode b_TC_run 94 = .ok (.goto (-74), 3) := by decide +kernel
theorem d_TC_run_97 : decode b_TC_run 97 = .ok (.iload_n 1, 1) := by decide +kernel
theorem d_TC_run_98 : decode b_TC_run 98 = .ok (.iload_n 3, 1) := by decide +kernel
theorem d_TC_run_99 : decode b_TC_run 99 = .ok (.if_icmp .ne 6, 3) := by decide +kernel
theorem d_TC_run_102 : decode b_TC_run 102 = .ok (.goto 9, 3) := by decide +kernel
theorem d_TC_run_105 : decode b_TC_run 105 = .ok (.iinc 2 1, 3) := by decide +kernel
theorem d_TC_run_108 : decode b_TC_run 108 = .ok (.goto (-104), 3) := by decide +kernel
theorem d_TC_run_111 : decode b_TC_run 111 = .ok (.iload_n 1, 1) := by decide +kernel
theorem d_TC_run_112 : decode b_TC_run 112 = .ok (.ireturn, 1) := by decide +kernel
theorem d_Co_lay_0 : decode b_Co_lay 0 = .ok (.iconst 0, 1) := by decide +kernel
theorem d_Co_lay_1 : decode b_Co_lay 1 = .ok (.istore_n 3, 1) := by decide +kernel
theorem d_Co_lay_2 : decode b_Co_lay 2 = .ok (.iload_n 3, 1) := by decide +kernel
theorem d_Co_lay_3 : decode b_Co_lay 3 = .ok (.aload_n 0, 1) := by decide +kernel
theorem d_Co_lay_4 : decode b_Co_lay 4 = .ok (.getfield 19, 3) := by decide +kernel
theorem d_Co_lay_7 : decode b_Co_lay 7 = .ok (.if_icmp .ge 53, 3) := by decide +kernel
theorem d_Co_lay_10 : decode b_Co_lay 10 = .ok (.iload_n 3, 1) := by decide +kernel
theorem d_Co_lay_11 : decode b_Co_lay 11 = .ok (.bipush 6, 2) := by decide +kernel
theorem d_Co_lay_13 : decode b_Co_lay 13 = .ok (.if_icmp .ge 47, 3) := by decide +kernel
theorem d_Co_lay_16 : decode b_Co_lay 16 = .ok (.aload_n 0, 1) := by decide +kernel
theorem d_Co_lay_17 : decode b_Co_lay 17 = .ok (.getfield 22, 3) := by decide +kernel
theorem d_Co_lay_20 : decode b_Co_lay 20 = .ok (.iload_n 3, 1) := by decide +kernel
theorem d_Co_lay_21 : decode b_Co_lay 21 = .ok (.invokestatic 9, 3) := by decide +kernel
theorem d_Co_lay_24 : decode b_Co_lay 24 = .ok (.istore 4, 2) := by decide +kernel
theorem d_Co_lay_26 : decode b_Co_lay 26 = .ok (.aload_n 2, 1) := by decide +kernel
theorem d_Co_lay_27 : decode b_Co_lay 27 = .ok (.getfield 34, 3) := by decide +kernel
theorem d_Co_lay_30 : decode b_Co_lay 30 = .ok (.iload_n 3, 1) := by decide +kernel
theorem d_Co_lay_31 : decode b_Co_lay 31 = .ok (.iload 4, 2) := by decide +kernel
theorem d_Co_lay_33 : decode b_Co_lay 33 = .ok (.aload_n 1, 1) := by decide +kernel
theorem d_Co_lay_34 : decode b_Co_lay 34 = .ok (.arraylength, 1) := by decide +kernel
theorem d_Co_lay_35 : decode b_Co_lay 35 = .ok (.if_icmp .ge 10, 3) := by decide +kernel
theorem d_Co_lay_38 : decode b_Co_lay 38 = .ok (.aload_n 1, 1) := by decide +kernel
theorem d_Co_lay_39 : decode b_Co_lay 39 = .ok (.iload 4, 2) := by decide +kernel
theorem d_Co_lay_41 : decode b_Co_lay 41 = .ok (.iaload, 1) := by decide +kernel
theorem d_Co_lay_42 : decode b_Co_lay 42 = .ok (.goto 4, 3) := by decide +kernel
theorem d_Co_lay_45 : decode b_Co_lay 45 = .ok (.iconst 0, 1) := by decide +kernel
theorem d_Co_lay_46 : decode b_Co_lay 46 = .ok (.iastore, 1) := by decide +kernel
theorem d_Co_lay_47 : decode b_Co_lay 47 = .ok (.aload_n 2, 1) := by decide +kernel
theorem d_Co_lay_48 : decode b_Co_lay 48 = .ok (.getfield 40, 3) := by decide +kernel
theorem d_Co_lay_51 : decode b_Co_lay 51 = .ok (.iload_n 3, 1) := by decide +kernel
theorem d_Co_lay_52 : decode b_Co_lay 52 = .ok (.iconst 0, 1) := by decide +kernel
theorem d_Co_lay_53 : decode b_Co_lay 53 = .ok (.iastore, 1) := by decide +kernel
theorem d_Co_lay_54 : decode b_Co_lay 54 = .ok (.iinc 3 1, 3) := by decide +kernel
theorem d_Co_lay_57 : decode b_Co_lay 57 = .ok (.goto (-55), 3) := by decide +kernel
theorem d_Co_lay_60 : decode b_Co_lay 60 = .ok (.return_, 1) := by decide +kernel
theorem d_Wa_keeps_0 : decode b_Wa_keeps 0 = .ok (.aload_n 1, 1) := by decide +kernel
theorem d_Wa_keeps_1 : decode b_Wa_keeps 1 = .ok (.invokevirtual 9, 3) := by decide +kernel
theorem d_Wa_keeps_4 : decode b_Wa_keeps 4 = .ok (.aload_n 0, 1) := by decide +kernel
theorem d_Wa_keeps_5 : decode b_Wa_keeps 5 = .ok (.iconst 0, 1) := by decide +kernel
theorem d_Wa_keeps_6 : decode b_Wa_keeps 6 = .ok (.iconst 0, 1) := by decide +kernel
theorem d_Wa_keeps_7 : decode b_Wa_keeps 7 = .ok (.aload_n 1, 1) := by decide +kernel
theorem d_Wa_keeps_8 : decode b_Wa_keeps 8 = .ok (.invokevirtual 15, 3) := by decide +kernel
theorem d_Wa_keeps_11 : decode b_Wa_keeps 11 = .ok (.ifCond .le 7, 3) := by decide +kernel
theorem d_Wa_keeps_14 : decode b_Wa_keeps 14 = .ok (.iconst 1, 1) := by decide +kernel
theorem d_Wa_keeps_15 : decode b_Wa_keeps 15 = .ok (.goto 4, 3) := by decide +kernel
theorem d_Wa_keeps_18 : decode b_Wa_keeps 18 = .ok (.iconst 0, 1) := by decide +kernel
theorem d_Wa_keeps_19 : decode b_Wa_keeps 19 = .ok (.ireturn, 1) := by decide +kernel
theorem d_Pl_forget_0 : decode b_Pl_forget 0 = .ok (.aload_n 0, 1) := by decide +kernel
theorem d_Pl_forget_1 : decode b_Pl_forget 1 = .ok (.dup, 1) := by decide +kernel
theorem d_Pl_forget_2 : decode b_Pl_forget 2 = .ok (.getfield 34, 3) := by decide +kernel
theorem d_Pl_forget_5 : decode b_Pl_forget 5 = .ok (.iconst 1, 1) := by decide +kernel
theorem d_Pl_forget_6 : decode b_Pl_forget 6 = .ok (.iadd, 1) := by decide +kernel
theorem d_Pl_forget_7 : decode b_Pl_forget 7 = .ok (.putfield 34, 3) := by decide +kernel
theorem d_Pl_forget_10 : decode b_Pl_forget 10 = .ok (.return_, 1) := by decide +kernel
theorem d_Wa_wordsFrom_0 : decode b_Wa_wordsFrom 0 = .ok (.iload_n 1, 1) := by decide +kernel
theorem d_Wa_wordsFrom_1 : decode b_Wa_wordsFrom 1 = .ok (.ifCond .lt 17, 3) := by decide +kernel
theorem d_Wa_wordsFrom_4 : decode b_Wa_wordsFrom 4 = .ok (.iload_n 1, 1) := by decide +kernel
theorem d_Wa_wordsFrom_5 : decode b_Wa_wordsFrom 5 = .ok (.aload_n 0, 1) := by decide +kernel
theorem d_Wa_wordsFrom_6 : decode b_Wa_wordsFrom 6 = .ok (.getfield 21, 3) := by decide +kernel
theorem d_Wa_wordsFrom_9 : decode b_Wa_wordsFrom 9 = .ok (.if_icmp .ge 9, 3) := by decide +kernel
theorem d_Wa_wordsFrom_12 : decode b_Wa_wordsFrom 12 = .ok (.iload_n 1, 1) := by decide +kernel
theorem d_Wa_wordsFrom_13 : decode b_Wa_wordsFrom 13 = .ok (.bipush 6, 2) := by decide +kernel
theorem d_Wa_wordsFrom_15 : decode b_Wa_wordsFrom 15 = .ok (.if_icmp .lt 17, 3) := by decide +kernel
theorem d_Wa_wordsFrom_18 : decode b_Wa_wordsFrom 18 = .ok (.aload_n 0, 1) := by decide +kernel
theorem d_Wa_wordsFrom_19 : decode b_Wa_wordsFrom 19 = .ok (.iload_n 2, 1) := by decide +kernel
theorem d_Wa_wordsFrom_20 : decode b_Wa_wordsFrom 20 = .ok (.invokevirtual 25, 3) := by decide +kernel
theorem d_Wa_wordsFrom_23 : decode b_Wa_wordsFrom 23 = .ok (.ifCond .eq 7, 3) := by decide +kernel
theorem d_Wa_wordsFrom_26 : decode b_Wa_wordsFrom 26 = .ok (.iconst 1, 1) := by decide +kernel
theorem d_Wa_wordsFrom_27 : decode b_Wa_wordsFrom 27 = .ok (.goto 4, 3) := by decide +kernel
theorem d_Wa_wordsFrom_30 : decode b_Wa_wordsFrom 30 = .ok (.iconst 0, 1) := by decide +kernel
theorem d_Wa_wordsFrom_31 : decode b_Wa_wordsFrom 31 = .ok (.ireturn, 1) := by decide +kernel
theorem d_Wa_wordsFrom_32 : decode b_Wa_wordsFrom 32 = .ok (.aload_n 3, 1) := by decide +kernel
theorem d_Wa_wordsFrom_33 : decode b_Wa_wordsFrom 33 = .ok (.iload_n 1, 1) := by decide +kernel
theorem d_Wa_wordsFrom_34 : decode b_Wa_wordsFrom 34 = .ok (.iload_n 2, 1) := by decide +kernel
theorem d_Wa_wordsFrom_35 : decode b_Wa_wordsFrom 35 = .ok (.invokevirtual 29, 3) := by decide +kernel
theorem d_Wa_wordsFrom_38 : decode b_Wa_wordsFrom 38 = .ok (.istore 4, 2) := by decide +kernel
theorem d_Wa_wordsFrom_40 : decode b_Wa_wordsFrom 40 = .ok (.iload 4, 2) := by decide +kernel
theorem d_Wa_wordsFrom_42 : decode b_Wa_wordsFrom 42 = .ok (.iconst (-1), 1) := by decide +kernel
theorem d_Wa_wordsFrom_43 : decode b_Wa_wordsFrom 43 = .ok (.if_icmp .eq 6, 3) := by decide +kernel
theorem d_Wa_wordsFrom_46 : decode b_Wa_wordsFrom 46 = .ok (.iload 4, 2) := by decide +kernel
theorem d_Wa_wordsFrom_48 : decode b_Wa_wordsFrom 48 = .ok (.ireturn, 1) := by decide +kernel
theorem d_Wa_wordsFrom_49 : decode b_Wa_wordsFrom 49 = .ok (.iconst 0, 1) := by decide +kernel
theorem d_Wa_wordsFrom_50 : decode b_Wa_wordsFrom 50 = .ok (.istore 5, 2) := by decide +kernel
theorem d_Wa_wordsFrom_52 : decode b_Wa_wordsFrom 52 = .ok (.iconst 0, 1) := by decide +kernel
theorem d_Wa_wordsFrom_53 : decode b_Wa_wordsFrom 53 = .ok (.istore 6, 2) := by decide +kernel
theorem d_Wa_wordsFrom_55 : decode b_Wa_wordsFrom 55 = .ok (.iload 6, 2) := by decide +kernel
theorem d_Wa_wordsFrom_57 : decode b_Wa_wordsFrom 57 = .ok (.bipush 6, 2) := by decide +kernel
theorem d_Wa_wordsFrom_59 : decode b_Wa_wordsFrom 59 = .ok (.if_icmp .ge 84, 3) := by decide +kernel
theorem d_Wa_wordsFrom_62 : decode b_Wa_wordsFrom 62 = .ok (.aload_n 3, 1) := by decide +kernel
theorem d_Wa_wordsFrom_63 : decode b_Wa_wordsFrom 63 = .ok (.getfield 33, 3) := by decide +kernel
theorem d_Wa_wordsFrom_66 : decode b_Wa_wordsFrom 66 = .ok (.iload_n 1, 1) := by decide +kernel
theorem d_Wa_wordsFrom_67 : decode b_Wa_wordsFrom 67 = .ok (.iaload, 1) := by decide +kernel
theorem d_Wa_wordsFrom_68 : decode b_Wa_wordsFrom 68 = .ok (.iload 6, 2) := by decide +kernel
theorem d_Wa_wordsFrom_70 : decode b_Wa_wordsFrom 70 = .ok (.invokestatic 37, 3) := by decide +kernel
theorem d_Wa_wordsFrom_73 : decode b_Wa_wordsFrom 73 = .ok (.ifCond .eq 14, 3) := by decide +kernel
theorem d_Wa_wordsFrom_76 : decode b_Wa_wordsFrom 76 = .ok (.aload_n 0, 1) := by decide +kernel
theorem d_Wa_wordsFrom_77 : decode b_Wa_wordsFrom 77 = .ok (.iload_n 2, 1) := by decide +kernel
theorem d_Wa_wordsFrom_78 : decode b_Wa_wordsFrom 78 = .ok (.iload_n 1, 1) := by decide +kernel
theorem d_Wa_wordsFrom_79 : decode b_Wa_wordsFrom 79 = .ok (.iload 6, 2) := by decide +kernel
theorem d_Wa_wordsFrom_81 : decode b_Wa_wordsFrom 81 = .ok (.invokevirtual 41, 3) := by decide +kernel
theorem d_Wa_wordsFrom_84 : decode b_Wa_wordsFrom 84 = .ok (.goto 4, 3) := by decide +kernel
theorem d_Wa_wordsFrom_87 : decode b_Wa_wordsFrom 87 = .ok (.iconst (-1), 1) := by decide +kernel
theorem d_Wa_wordsFrom_88 : decode b_Wa_wordsFrom 88 = .ok (.istore 7, 2) := by decide +kernel
theorem d_Wa_wordsFrom_90 : decode b_Wa_wordsFrom 90 = .ok (.iload 7, 2) := by decide +kernel
theorem d_Wa_wordsFrom_92 : decode b_Wa_wordsFrom 92 = .ok (.iconst (-1), 1) := by decide +kernel
theorem d_Wa_wordsFrom_93 : decode b_Wa_wordsFrom 93 = .ok (.if_icmp .ne 7, 3) := by decide +kernel
theorem d_Wa_wordsFrom_96 : decode b_Wa_wordsFrom 96 = .ok (.iconst 0, 1) := by decide +kernel
theorem d_Wa_wordsFrom_97 : decode b_Wa_wordsFrom 97 = .ok (.goto 13, 3) := by decide +kernel
theorem d_Wa_wordsFrom_100 : decode b_Wa_wordsFrom 100 = .ok (.aload_n 0, 1) := by decide +kernel
theorem d_Wa_wordsFrom_101 : decode b_Wa_wordsFrom 101 = .ok (.iload_n 1, 1) := by decide +kernel
theorem d_Wa_wordsFrom_102 : decode b_Wa_wordsFrom 102 = .ok (.iconst 1, 1) := by decide +kernel
theorem d_Wa_wordsFrom_103 : decode b_Wa_wordsFrom 103 = .ok (.iadd, 1) := by decide +kernel
theorem d_Wa_wordsFrom_104 : decode b_Wa_wordsFrom 104 = .ok (.iload 7, 2) := by decide +kernel
theorem d_Wa_wordsFrom_106 : decode b_Wa_wordsFrom 106 = .ok (.aload_n 3, 1) := by decide +kernel
theorem d_Wa_wordsFrom_107 : decode b_Wa_wordsFrom 107 = .ok (.invokevirtual 15, 3) := by decide +kernel
theorem d_Wa_wordsFrom_110 : decode b_Wa_wordsFrom 110 = .ok (.istore 8, 2) := by decide +kernel
theorem d_Wa_wordsFrom_112 : decode b_Wa_wordsFrom 112 = .ok (.iload 8, 2) := by decide +kernel
theorem d_Wa_wordsFrom_114 : decode b_Wa_wordsFrom 114 = .ok (.ifCond .le 23, 3) := by decide +kernel
theorem d_Wa_wordsFrom_117 : decode b_Wa_wordsFrom 117 = .ok (.aload_n 3, 1) := by decide +kernel
theorem d_Wa_wordsFrom_118 : decode b_Wa_wordsFrom 118 = .ok (.getfield 45, 3) := by decide +kernel
theorem d_Wa_wordsFrom_121 : decode b_Wa_wordsFrom 121 = .ok (.iload_n 1, 1) := by decide +kernel
theorem d_Wa_wordsFrom_122 : decode b_Wa_wordsFrom 122 = .ok (.dup2, 1) := by decide +kernel
theorem d_Wa_wordsFrom_123 : decode b_Wa_wordsFrom 123 = .ok (.iaload, 1) := by decide +kernel
theorem d_Wa_wordsFrom_124 : decode b_Wa_wordsFrom 124 = .ok (.iconst 1, 1) := by decide +kernel
theorem d_Wa_wordsFrom_125 : decode b_Wa_wordsFrom 125 = .ok (.iload 6, 2) := by decide +kernel
theorem d_Wa_wordsFrom_127 : decode b_Wa_wordsFrom 127 = .ok (.ishl, 1) := by decide +kernel
theorem d_Wa_wordsFrom_128 : decode b_Wa_wordsFrom 128 = .ok (.ior, 1) := by decide +kernel
theorem d_Wa_wordsFrom_129 : decode b_Wa_wordsFrom 129 = .ok (.iastore, 1) := by decide +kernel
theorem d_Wa_wordsFrom_130 : decode b_Wa_wordsFrom 130 = .ok (.iload 5, 2) := by decide +kernel
theorem d_Wa_wordsFrom_132 : decode b_Wa_wordsFrom 132 = .ok (.iload 8, 2) := by decide +kernel
theorem d_Wa_wordsFrom_134 : decode b_Wa_wordsFrom 134 = .ok (.iadd, 1) := by decide +kernel
theorem d_Wa_wordsFrom_135 : decode b_Wa_wordsFrom 135 = .ok (.istore 5, 2) := by decide +kernel
theorem d_Wa_wordsFrom_137 : decode b_Wa_wordsFrom 137 = .ok (.iinc 6 1, 3) := by decide +kernel
theorem d_Wa_wordsFrom_140 : decode b_Wa_wordsFrom 140 = .ok (.goto (-85), 3) := by decide +kernel
theorem d_Wa_wordsFrom_143 : decode b_Wa_wordsFrom 143 = .ok (.aload_n 3, 1) := by decide +kernel
theorem d_Wa_wordsFrom_144 : decode b_Wa_wordsFrom 144 = .ok (.iload_n 1, 1) := by decide +kernel
theorem d_Wa_wordsFrom_145 : decode b_Wa_wordsFrom 145 = .ok (.iload_n 2, 1) := by decide +kernel
theorem d_Wa_wordsFrom_146 : decode b_Wa_wordsFrom 146 = .ok (.iload 5, 2) := by decide +kernel
theorem d_Wa_wordsFrom_148 : decode b_Wa_wordsFrom 148 = .ok (.invokevirtual 48, 3) := by decide +kernel
theorem d_Wa_wordsFrom_151 : decode b_Wa_wordsFrom 151 = .ok (.iload 5, 2) := by decide +kernel
theorem d_Wa_wordsFrom_153 : decode b_Wa_wordsFrom 153 = .ok (.ireturn, 1) := by decide +kernel
theorem d_El_isGoodAtEnd_0 : decode b_El_isGoodAtEnd 0 = .ok (.iconst 1, 1) := by decide +kernel
theorem d_El_isGoodAtEnd_1 : decode b_El_isGoodAtEnd 1 = .ok (.ireturn, 1) := by decide +kernel
theorem d_Fi_isGoodAtEnd_0 : decode b_Fi_isGoodAtEnd 0 = .ok (.iconst 1, 1) := by decide +kernel
theorem d_Fi_isGoodAtEnd_1 : decode b_Fi_isGoodAtEnd 1 = .ok (.ireturn, 1) := by decide +kernel
theorem d_Or_isGoodAtEnd_0 : decode b_Or_isGoodAtEnd 0 = .ok (.iload_n 1, 1) := by decide +kernel
theorem d_Or_isGoodAtEnd_1 : decode b_Or_isGoodAtEnd 1 = .ok (.bipush 63, 2) := by decide +kernel
theorem d_Or_isGoodAtEnd_3 : decode b_Or_isGoodAtEnd 3 = .ok (.if_icmp .eq 10, 3) := by decide +kernel
theorem d_Or_isGoodAtEnd_6 : decode b_Or_isGoodAtEnd 6 = .ok (.aload_n 0, 1) := by decide +kernel
theorem d_Or_isGoodAtEnd_7 : decode b_Or_isGoodAtEnd 7 = .ok (.getfield 9, 3) := by decide +kernel
theorem d_Or_isGoodAtEnd_10 : decode b_Or_isGoodAtEnd 10 = .ok (.ifCond .ne 7, 3) := by decide +kernel
theorem d_Or_isGoodAtEnd_13 : decode b_Or_isGoodAtEnd 13 = .ok (.iconst 1, 1) := by decide +kernel
theorem d_Or_isGoodAtEnd_14 : decode b_Or_isGoodAtEnd 14 = .ok (.goto 4, 3) := by decide +kernel
theorem d_Or_isGoodAtEnd_17 : decode b_Or_isGoodAtEnd 17 = .ok (.iconst 0, 1) := by decide +kernel
theorem d_Or_isGoodAtEnd_18 : decode b_Or_isGoodAtEnd 18 = .ok (.ireturn, 1) := by decide +kernel
theorem d_Su_isGoodAtEnd_0 : decode b_Su_isGoodAtEnd 0 = .ok (.iload_n 1, 1) := by decide +kernel
theorem d_Su_isGoodAtEnd_1 : decode b_Su_isGoodAtEnd 1 = .ok (.aload_n 0, 1) := by decide +kernel
theorem d_Su_isGoodAtEnd_2 : decode b_Su_isGoodAtEnd 2 = .ok (.getfield 9, 3) := by decide +kernel
theorem d_Su_isGoodAtEnd_5 : decode b_Su_isGoodAtEnd 5 = .ok (.aload_n 0, 1) := by decide +kernel
theorem d_Su_isGoodAtEnd_6 : decode b_Su_isGoodAtEnd 6 = .ok (.getfield 15, 3) := by decide +kernel
theorem d_Su_isGoodAtEnd_9 : decode b_Su_isGoodAtEnd 9 = .ok (.invokestatic 18, 3) := by decide +kernel
theorem d_Su_isGoodAtEnd_12 : decode b_Su_isGoodAtEnd 12 = .ok (.ireturn, 1) := by decide +kernel
theorem d_Ty_isGoodAtEnd_0 : decode b_Ty_isGoodAtEnd 0 = .ok (.iload_n 1, 1) := by decide +kernel
theorem d_Ty_isGoodAtEnd_1 : decode b_Ty_isGoodAtEnd 1 = .ok (.aload_n 0, 1) := by decide +kernel
theorem d_Ty_isGoodAtEnd_2 : decode b_Ty_isGoodAtEnd 2 = .ok (.getfield 15, 3) := by decide +kernel
theorem d_Ty_isGoodAtEnd_5 : decode b_Ty_isGoodAtEnd 5 = .ok (.aload_n 0, 1) := by decide +kernel
theorem d_Ty_isGoodAtEnd_6 : decode b_Ty_isGoodAtEnd 6 = .ok (.getfield 18, 3) := by decide +kernel
theorem d_Ty_isGoodAtEnd_9 : decode b_Ty_isGoodAtEnd 9 = .ok (.invokestatic 21, 3) := by decide +kernel
theorem d_Ty_isGoodAtEnd_12 : decode b_Ty_isGoodAtEnd 12 = .ok (.ireturn, 1) := by decide +kernel
theorem d_Pl_recall_0 : decode b_Pl_recall 0 = .ok (.iload_n 1, 1) := by decide +kernel
theorem d_Pl_recall_1 : decode b_Pl_recall 1 = .ok (.iload_n 2, 1) := by decide +kernel
theorem d_Pl_recall_2 : decode b_Pl_recall 2 = .ok (.invokestatic 38, 3) := by decide +kernel
theorem d_Pl_recall_5 : decode b_Pl_recall 5 = .ok (.ifCond .eq 35, 3) := by decide +kernel
theorem d_Pl_recall_8 : decode b_Pl_recall 8 = .ok (.aload_n 0, 1) := by decide +kernel
theorem d_Pl_recall_9 : decode b_Pl_recall 9 = .ok (.getfield 27, 3) := by decide +kernel
theorem d_Pl_recall_12 : decode b_Pl_recall 12 = .ok (.iload_n 1, 1) := by decide +kernel
theorem d_Pl_recall_13 : decode b_Pl_recall 13 = .ok (.bipush 64, 2) := by decide +kernel
theorem d_Pl_recall_15 : decode b_Pl_recall 15 = .ok (.imul, 1) := by decide +kernel
theorem d_Pl_recall_16 : decode b_Pl_recall 16 = .ok (.iload_n 2, 1) := by decide +kernel
theorem d_Pl_recall_17 : decode b_Pl_recall 17 = .ok (.iadd, 1) := by decide +kernel
theorem d_Pl_recall_18 : decode b_Pl_recall 18 = .ok (.iaload, 1) := by decide +kernel
theorem d_Pl_recall_19 : decode b_Pl_recall 19 = .ok (.aload_n 0, 1) := by decide +kernel
theorem d_Pl_recall_20 : decode b_Pl_recall 20 = .ok (.getfield 34, 3) := by decide +kernel
theorem d_Pl_recall_23 : decode b_Pl_recall 23 = .ok (.if_icmp .ne 17, 3) := by decide +kernel
theorem d_Pl_recall_26 : decode b_Pl_recall 26 = .ok (.aload_n 0, 1) := by decide +kernel
theorem d_Pl_recall_27 : decode b_Pl_recall 27 = .ok (.getfield 24, 3) := by decide +kernel
theorem d_Pl_recall_30 : decode b_Pl_recall 30 = .ok (.iload_n 1, 1) := by decide +kernel
theorem d_Pl_recall_31 : decode b_Pl_recall 31 = .ok (.bipush 64, 2) := by decide +kernel
theorem d_Pl_recall_33 : decode b_Pl_recall 33 = .ok (.imul, 1) := by decide +kernel
theorem d_Pl_recall_34 : decode b_Pl_recall 34 = .ok (.iload_n 2, 1) := by decide +kernel
theorem d_Pl_recall_35 : decode b_Pl_recall 35 = .ok (.iadd, 1) := by decide +kernel
theorem d_Pl_recall_36 : decode b_Pl_recall 36 = .ok (.iaload, 1) := by decide +kernel
theorem d_Pl_recall_37 : decode b_Pl_recall 37 = .ok (.goto 4, 3) := by decide +kernel
theorem d_Pl_recall_40 : decode b_Pl_recall 40 = .ok (.iconst (-1), 1) := by decide +kernel
theorem d_Pl_recall_41 : decode b_Pl_recall 41 = .ok (.ireturn, 1) := by decide +kernel
theorem d_Pl_isRemembered_0 : decode b_Pl_isRemembered 0 = .ok (.iload_n 0, 1) := by decide +kernel
theorem d_Pl_isRemembered_1 : decode b_Pl_isRemembered 1 = .ok (.iconst 0, 1) := by decide +kernel
theorem d_Pl_isRemembered_2 : decode b_Pl_isRemembered 2 = .ok (.iconst 5, 1) := by decide +kernel
theorem d_Pl_isRemembered_3 : decode b_Pl_isRemembered 3 = .ok (.invokestatic 42, 3) := by decide +kernel
theorem d_Pl_isRemembered_6 : decode b_Pl_isRemembered 6 = .ok (.ifCond .eq 17, 3) := by decide +kernel
theorem d_Pl_isRemembered_9 : decode b_Pl_isRemembered 9 = .ok (.iload_n 1, 1) := by decide +kernel
theorem d_Pl_isRemembered_10 : decode b_Pl_isRemembered 10 = .ok (.iconst 0, 1) := by decide +kernel
theorem d_Pl_isRemembered_11 : decode b_Pl_isRemembered 11 = .ok (.bipush 63, 2) := by decide +kernel
theorem d_Pl_isRemembered_13 : decode b_Pl_isRemembered 13 = .ok (.invokestatic 42, 3) := by decide +kernel
theorem d_Pl_isRemembered_16 : decode b_Pl_isRemembered 16 = .ok (.ifCond .eq 7, 3) := by decide +kernel
theorem d_Pl_isRemembered_19 : decode b_Pl_isRemembered 19 = .ok (.iconst 1, 1) := by decide +kernel
theorem d_Pl_isRemembered_20 : decode b_Pl_isRemembered 20 = .ok (.goto 4, 3) := by decide +kernel
theorem d_Pl_isRemembered_23 : decode b_Pl_isRemembered 23 = .ok (.iconst 0, 1) := by decide +kernel
theorem d_Pl_isRemembered_24 : decode b_Pl_isRemembered 24 = .ok (.ireturn, 1) := by decide +kernel
theorem d_El_after_0 : decode b_El_after 0 = .ok (.iload_n 2, 1) := by decide +kernel
theorem d_El_after_1 : decode b_El_after 1 = .ok (.ifCond .ne 19, 3) := by decide +kernel
theorem d_El_after_4 : decode b_El_after 4 = .ok (.iload_n 3, 1) := by decide +kernel
theorem d_El_after_5 : decode b_El_after 5 = .ok (.aload_n 0, 1) := by decide +kernel
theorem d_El_after_6 : decode b_El_after 6 = .ok (.getfield 9, 3) := by decide +kernel
theorem d_El_after_9 : decode b_El_after 9 = .ok (.iconst 2, 1) := by decide +kernel
theorem d_El_after_10 : decode b_El_after 10 = .ok (.isub, 1) := by decide +kernel
theorem d_El_after_11 : decode b_El_after 11 = .ok (.if_icmp .ge 7, 3) := by decide +kernel
theorem d_El_after_14 : decode b_El_after 14 = .ok (.iload_n 3, 1) := by decide +kernel
theorem d_El_after_15 : decode b_El_after 15 = .ok (.goto 4, 3) := by decide +kernel
theorem d_El_after_18 : decode b_El_after 18 = .ok (.iconst (-1), 1) := by decide +kernel
theorem d_El_after_19 : decode b_El_after 19 = .ok (.ireturn, 1) := by decide +kernel
theorem d_El_after_20 : decode b_El_after 20 = .ok (.iload_n 2, 1) := by decide +kernel
theorem d_El_after_21 : decode b_El_after 21 = .ok (.iconst 1, 1) := by decide +kernel
theorem d_El_after_22 : decode b_El_after 22 = .ok (.if_icmp .ne 9, 3) := by decide +kernel
theorem d_El_after_25 : decode b_El_after 25 = .ok (.iload_n 1, 1) := by decide +kernel
theorem d_El_after_26 : decode b_El_after 26 = .ok (.iload_n 3, 1) := by decide +kernel
theorem d_El_after_27 : decode b_El_after 27 = .ok (.iconst 3, 1) := by decide +kernel
theorem d_El_after_28 : decode b_El_after 28 = .ok (.ishl, 1) := by decide +kernel
theorem d_El_after_29 : decode b_El_after 29 = .ok (.ior, 1) := by decide +kernel
theorem d_El_after_30 : decode b_El_after 30 = .ok (.ireturn, 1) := by decide +kernel
theorem d_El_after_31 : decode b_El_after 31 = .ok (.iload_n 2, 1) := by decide +kernel
theorem d_El_after_32 : decode b_El_after 32 = .ok (.iconst 2, 1) := by decide +kernel
theorem d_El_after_33 : decode b_El_after 33 = .ok (.isub, 1) := by decide +kernel
theorem d_El_after_34 : decode b_El_after 34 = .ok (.iload_n 1, 1) := by decide +kernel
theorem d_El_after_35 : decode b_El_after 35 = .ok (.iconst 0, 1) := by decide +kernel
theorem d_El_after_36 : decode b_El_after 36 = .ok (.invokestatic 15, 3) := by decide +kernel
theorem d_El_after_39 : decode b_El_after 39 = .ok (.if_icmp .ne 7, 3) := by decide +kernel
theorem d_El_after_42 : decode b_El_after 42 = .ok (.iconst 1, 1) := by decide +kernel
theorem d_El_after_43 : decode b_El_after 43 = .ok (.goto 4, 3) := by decide +kernel
theorem d_El_after_46 : decode b_El_after 46 = .ok (.iconst 0, 1) := by decide +kernel
theorem d_El_after_47 : decode b_El_after 47 = .ok (.istore 4, 2) := by decide +kernel
theorem d_El_after_49 : decode b_El_after 49 = .ok (.iload 4, 2) := by decide +kernel
theorem d_El_after_51 : decode b_El_after 51 = .ok (.ifCond .eq 16, 3) := by decide +kernel
theorem d_El_after_54 : decode b_El_after 54 = .ok (.iload_n 3, 1) := by decide +kernel
theorem d_El_after_55 : decode b_El_after 55 = .ok (.iload_n 1, 1) := by decide +kernel
theorem d_El_after_56 : decode b_El_after 56 = .ok (.iconst 1, 1) := by decide +kernel
theorem d_El_after_57 : decode b_El_after 57 = .ok (.invokestatic 15, 3) := by decide +kernel
theorem d_El_after_60 : decode b_El_after 60 = .ok (.if_icmp .eq 7, 3) := by decide +kernel
theorem d_El_after_63 : decode b_El_after 63 = .ok (.iconst (-1), 1) := by decide +kernel
theorem d_El_after_64 : decode b_El_after 64 = .ok (.goto 4, 3) := by decide +kernel
theorem d_El_after_67 : decode b_El_after 67 = .ok (.iload_n 1, 1) := by decide +kernel
theorem d_El_after_68 : decode b_El_after 68 = .ok (.ireturn, 1) := by decide +kernel
theorem d_Fi_after_0 : decode b_Fi_after 0 = .ok (.iload_n 3, 1) := by decide +kernel
theorem d_Fi_after_1 : decode b_Fi_after 1 = .ok (.aload_n 0, 1) := by decide +kernel
theorem d_Fi_after_2 : decode b_Fi_after 2 = .ok (.getfield 15, 3) := by decide +kernel
theorem d_Fi_after_5 : decode b_Fi_after 5 = .ok (.if_icmp .ne 9, 3) := by decide +kernel
theorem d_Fi_after_8 : decode b_Fi_after 8 = .ok (.iload_n 1, 1) := by decide +kernel
theorem d_Fi_after_9 : decode b_Fi_after 9 = .ok (.ifCond .ne 5, 3) := by decide +kernel
theorem d_Fi_after_12 : decode b_Fi_after 12 = .ok (.iconst (-1), 1) := by decide +kernel
theorem d_Fi_after_13 : decode b_Fi_after 13 = .ok (.ireturn, 1) := by decide +kernel
theorem d_Fi_after_14 : decode b_Fi_after 14 = .ok (.iload_n 3, 1) := by decide +kernel
theorem d_Fi_after_15 : decode b_Fi_after 15 = .ok (.aload_n 0, 1) := by decide +kernel
theorem d_Fi_after_16 : decode b_Fi_after 16 = .ok (.getfield 9, 3) := by decide +kernel
theorem d_Fi_after_19 : decode b_Fi_after 19 = .ok (.if_icmp .ne 7, 3) := by decide +kernel
theorem d_Fi_after_22 : decode b_Fi_after 22 = .ok (.iconst 1, 1) := by decide +kernel
theorem d_Fi_after_23 : decode b_Fi_after 23 = .ok (.goto 4, 3) := by decide +kernel
theorem d_Fi_after_26 : decode b_Fi_after 26 = .ok (.iload_n 1, 1) := by decide +kernel
theorem d_Fi_after_27 : decode b_Fi_after 27 = .ok (.ireturn, 1) := by decide +kernel
theorem d_Or_after_0 : decode b_Or_after 0 = .ok (.iload_n 2, 1) := by decide +kernel
theorem d_Or_after_1 : decode b_Or_after 1 = .ok (.aload_n 0, 1) := by decide +kernel
theorem d_Or_after_2 : decode b_Or_after 2 = .ok (.getfield 15, 3) := by decide +kernel
theorem d_Or_after_5 : decode b_Or_after 5 = .ok (.iconst 1, 1) := by decide +kernel
theorem d_Or_after_6 : decode b_Or_after 6 = .ok (.ishr, 1) := by decide +kernel
theorem d_Or_after_7 : decode b_Or_after 7 = .ok (.if_icmp .ge 11, 3) := by decide +kernel
theorem d_Or_after_10 : decode b_Or_after 10 = .ok (.iload_n 1, 1) := by decide +kernel
theorem d_Or_after_11 : decode b_Or_after 11 = .ok (.iload_n 3, 1) := by decide +kernel
theorem d_Or_after_12 : decode b_Or_after 12 = .ok (.iconst 3, 1) := by decide +kernel
theorem d_Or_after_13 : decode b_Or_after 13 = .ok (.iload_n 2, 1) := by decide +kernel
theorem d_Or_after_14 : decode b_Or_after 14 = .ok (.imul, 1) := by decide +kernel
theorem d_Or_after_15 : decode b_Or_after 15 = .ok (.ishl, 1) := by decide +kernel
theorem d_Or_after_16 : decode b_Or_after 16 = .ok (.ior, 1) := by decide +kernel
theorem d_Or_after_17 : decode b_Or_after 17 = .ok (.ireturn, 1) := by decide +kernel
theorem d_Or_after_18 : decode b_Or_after 18 = .ok (.iload_n 1, 1) := by decide +kernel
theorem d_Or_after_19 : decode b_Or_after 19 = .ok (.bipush 63, 2) := by decide +kernel
theorem d_Or_after_21 : decode b_Or_after 21 = .ok (.if_icmp .eq 12, 3) := by decide +kernel
theorem d_Or_after_24 : decode b_Or_after 24 = .ok (.iload_n 1, 1) := by decide +kernel
theorem d_Or_after_25 : decode b_Or_after 25 = .ok (.iconst 0, 1) := by decide +kernel
theorem d_Or_after_26 : decode b_Or_after 26 = .ok (.invokestatic 19, 3) := by decide +kernel
theorem d_Or_after_29 : decode b_Or_after 29 = .ok (.iload_n 3, 1) := by decide +kernel
theorem d_Or_after_30 : decode b_Or_after 30 = .ok (.if_icmp .ge 6, 3) := by decide +kernel
theorem d_Or_after_33 : decode b_Or_after 33 = .ok (.bipush 63, 2) := by decide +kernel
theorem d_Or_after_35 : decode b_Or_after 35 = .ok (.ireturn, 1) := by decide +kernel
theorem d_Or_after_36 : decode b_Or_after 36 = .ok (.iload_n 1, 1) := by decide +kernel
theorem d_Or_after_37 : decode b_Or_after 37 = .ok (.iconst 0, 1) := by decide +kernel
theorem d_Or_after_38 : decode b_Or_after 38 = .ok (.invokestatic 19, 3) := by decide +kernel
theorem d_Or_after_41 : decode b_Or_after 41 = .ok (.iload_n 3, 1) := by decide +kernel
theorem d_Or_after_42 : decode b_Or_after 42 = .ok (.if_icmp .le 7, 3) := by decide +kernel
theorem d_Or_after_45 : decode b_Or_after 45 = .ok (.iconst (-1), 1) := by decide +kernel
theorem d_Or_after_46 : decode b_Or_after 46 = .ok (.goto 6, 3) := by decide +kernel
theorem d_Or_after_49 : decode b_Or_after 49 = .ok (.iload_n 1, 1) := by decide +kernel
theorem d_Or_after_50 : decode b_Or_after 50 = .ok (.iconst 3, 1) := by decide +kernel
theorem d_Or_after_51 : decode b_Or_after 51 = .ok (.iushr, 1) := by decide +kernel
theorem d_Or_after_52 : decode b_Or_after 52 = .ok (.ireturn, 1) := by decide +kernel
theorem d_Su_after_0 : decode b_Su_after 0 = .ok (.iload_n 1, 1) := by decide +kernel
theorem d_Su_after_1 : decode b_Su_after 1 = .ok (.iload_n 3, 1) := by decide +kernel
theorem d_Su_after_2 : decode b_Su_after 2 = .ok (.iadd, 1) := by decide +kernel
theorem d_Su_after_3 : decode b_Su_after 3 = .ok (.aload_n 0, 1) := by decide +kernel
theorem d_Su_after_4 : decode b_Su_after 4 = .ok (.getfield 15, 3) := by decide +kernel
theorem d_Su_after_7 : decode b_Su_after 7 = .ok (.if_icmp .le 7, 3) := by decide +kernel
theorem d_Su_after_10 : decode b_Su_after 10 = .ok (.iconst (-1), 1) := by decide +kernel
theorem d_Su_after_11 : decode b_Su_after 11 = .ok (.goto 6, 3) := by decide +kernel
theorem d_Su_after_14 : decode b_Su_after 14 = .ok (.iload_n 1, 1) := by decide +kernel
theorem d_Su_after_15 : decode b_Su_after 15 = .ok (.iload_n 3, 1) := by decide +kernel
theorem d_Su_after_16 : decode b_Su_after 16 = .ok (.iadd, 1) := by decide +kernel
theorem d_Su_after_17 : decode b_Su_after 17 = .ok (.ireturn, 1) := by decide +kernel
theorem d_Ty_after_0 : decode b_Ty_after 0 = .ok (.iload_n 3, 1) := by decide +kernel
theorem d_Ty_after_1 : decode b_Ty_after 1 = .ok (.aload_n 0, 1) := by decide +kernel
theorem d_Ty_after_2 : decode b_Ty_after 2 = .ok (.getfield 9, 3) := by decide +kernel
theorem d_Ty_after_5 : decode b_Ty_after 5 = .ok (.if_icmp .ne 9, 3) := by decide +kernel
theorem d_Ty_after_8 : decode b_Ty_after 8 = .ok (.iload_n 1, 1) := by decide +kernel
theorem d_Ty_after_9 : decode b_Ty_after 9 = .ok (.iconst 1, 1) := by decide +kernel
theorem d_Ty_after_10 : decode b_Ty_after 10 = .ok (.iadd, 1) := by decide +kernel
theorem d_Ty_after_11 : decode b_Ty_after 11 = .ok (.goto 4, 3) := by decide +kernel
theorem d_Ty_after_14 : decode b_Ty_after 14 = .ok (.iload_n 1, 1) := by decide +kernel
theorem d_Ty_after_15 : decode b_Ty_after 15 = .ok (.ireturn, 1) := by decide +kernel
theorem d_Pl_remember_0 : decode b_Pl_remember 0 = .ok (.iload_n 1, 1) := by decide +kernel
theorem d_Pl_remember_1 : decode b_Pl_remember 1 = .ok (.iload_n 2, 1) := by decide +kernel
theorem d_Pl_remember_2 : decode b_Pl_remember 2 = .ok (.invokestatic 38, 3) := by decide +kernel
theorem d_Pl_remember_5 : decode b_Pl_remember 5 = .ok (.ifCond .eq 30, 3) := by decide +kernel
theorem d_Pl_remember_8 : decode b_Pl_remember 8 = .ok (.aload_n 0, 1) := by decide +kernel
theorem d_Pl_remember_9 : decode b_Pl_remember 9 = .ok (.getfield 24, 3) := by decide +kernel
theorem d_Pl_remember_12 : decode b_Pl_remember 12 = .ok (.iload_n 1, 1) := by decide +kernel
theorem d_Pl_remember_13 : decode b_Pl_remember 13 = .ok (.bipush 64, 2) := by decide +kernel
theorem d_Pl_remember_15 : decode b_Pl_remember 15 = .ok (.imul, 1) := by decide +kernel
theorem d_Pl_remember_16 : decode b_Pl_remember 16 = .ok (.iload_n 2, 1) := by decide +kernel
theorem d_Pl_remember_17 : decode b_Pl_remember 17 = .ok (.iadd, 1) := by decide +kernel
theorem d_Pl_remember_18 : decode b_Pl_remember 18 = .ok (.iload_n 3, 1) := by decide +kernel
theorem d_Pl_remember_19 : decode b_Pl_remember 19 = .ok (.iastore, 1) := by decide +kernel
theorem d_Pl_remember_20 : decode b_Pl_remember 20 = .ok (.aload_n 0, 1) := by decide +kernel
theorem d_Pl_remember_21 : decode b_Pl_remember 21 = .ok (.getfield 27, 3) := by decide +kernel
theorem d_Pl_remember_24 : decode b_Pl_remember 24 = .ok (.iload_n 1, 1) := by decide +kernel
theorem d_Pl_remember_25 : decode b_Pl_remember 25 = .ok (.bipush 64, 2) := by decide +kernel
theorem d_Pl_remember_27 : decode b_Pl_remember 27 = .ok (.imul, 1) := by decide +kernel
theorem d_Pl_remember_28 : decode b_Pl_remember 28 = .ok (.iload_n 2, 1) := by decide +kernel
theorem d_Pl_remember_29 : decode b_Pl_remember 29 = .ok (.iadd, 1) := by decide +kernel
theorem d_Pl_remember_30 : decode b_Pl_remember 30 = .ok (.aload_n 0, 1) := by decide +kernel
theorem d_Pl_remember_31 : decode b_Pl_remember 31 = .ok (.getfield 34, 3) := by decide +kernel
theorem d_Pl_remember_34 : decode b_Pl_remember 34 = .ok (.iastore, 1) := by decide +kernel
theorem d_Pl_remember_35 : decode b_Pl_remember 35 = .ok (.return_, 1) := by decide +kernel
theorem d_Ma_keeps_0 : decode b_Ma_keeps 0 = .ok (.aload_n 0, 1) := by decide +kernel
theorem d_Ma_keeps_1 : decode b_Ma_keeps 1 = .ok (.aload_n 1, 1) := by decide +kernel
theorem d_Ma_keeps_2 : decode b_Ma_keeps 2 = .ok (.invokevirtual 29, 3) := by decide +kernel
theorem d_Ma_keeps_5 : decode b_Ma_keeps 5 = .ok (.iconst (-1), 1) := by decide +kernel
theorem d_Ma_keeps_6 : decode b_Ma_keeps 6 = .ok (.if_icmp .ne 5, 3) := by decide +kernel
theorem d_Ma_keeps_9 : decode b_Ma_keeps 9 = .ok (.iconst 0, 1) := by decide +kernel
theorem d_Ma_keeps_10 : decode b_Ma_keeps 10 = .ok (.ireturn, 1) := by decide +kernel
theorem d_Ma_keeps_11 : decode b_Ma_keeps 11 = .ok (.aload_n 0, 1) := by decide +kernel
theorem d_Ma_keeps_12 : decode b_Ma_keeps 12 = .ok (.aload_n 1, 1) := by decide +kernel
theorem d_Ma_keeps_13 : decode b_Ma_keeps 13 = .ok (.invokevirtual 33, 3) := by decide +kernel
theorem d_Ma_keeps_16 : decode b_Ma_keeps 16 = .ok (.iconst 0, 1) := by decide +kernel
theorem d_Ma_keeps_17 : decode b_Ma_keeps 17 = .ok (.istore_n 2, 1) := by decide +kernel
theorem d_Ma_keeps_18 : decode b_Ma_keeps 18 = .ok (.iload_n 2, 1) := by decide +kernel
theorem d_Ma_keeps_19 : decode b_Ma_keeps 19 = .ok (.aload_n 0, 1) := by decide +kernel
theorem d_Ma_keeps_20 : decode b_Ma_keeps 20 = .ok (.getfield 37, 3) := by decide +kernel
theorem d_Ma_keeps_23 : decode b_Ma_keeps 23 = .ok (.if_icmp .ge 78, 3) := by decide +kernel
theorem d_Ma_keeps_26 : decode b_Ma_keeps 26 = .ok (.iload_n 2, 1) := by decide +kernel
theorem d_Ma_keeps_27 : decode b_Ma_keeps 27 = .ok (.bipush 6, 2) := by decide +kernel
theorem d_Ma_keeps_29 : decode b_Ma_keeps 29 = .ok (.if_icmp .ge 72, 3) := by decide +kernel
theorem d_Ma_keeps_32 : decode b_Ma_keeps 32 = .ok (.aload_n 1, 1) := by decide +kernel
theorem d_Ma_keeps_33 : decode b_Ma_keeps 33 = .ok (.getfield 40, 3) := by decide +kernel
theorem d_Ma_keeps_36 : decode b_Ma_keeps 36 = .ok (.iload_n 2, 1) := by decide +kernel
theorem d_Ma_keeps_37 : decode b_Ma_keeps 37 = .ok (.iconst 1, 1) := by decide +kernel
theorem d_Ma_keeps_38 : decode b_Ma_keeps 38 = .ok (.iadd, 1) := by decide +kernel
theorem d_Ma_keeps_39 : decode b_Ma_keeps 39 = .ok (.invokestatic 45, 3) := by decide +kernel
theorem d_Ma_keeps_42 : decode b_Ma_keeps 42 = .ok (.iconst 0, 1) := by decide +kernel
theorem d_Ma_keeps_43 : decode b_Ma_keeps 43 = .ok (.istore_n 3, 1) := by decide +kernel
theorem d_Ma_keeps_44 : decode b_Ma_keeps 44 = .ok (.iload_n 3, 1) := by decide +kernel
theorem d_Ma_keeps_45 : decode b_Ma_keeps 45 = .ok (.bipush 6, 2) := by decide +kernel
theorem d_Ma_keeps_47 : decode b_Ma_keeps 47 = .ok (.if_icmp .ge 48, 3) := by decide +kernel
theorem d_Ma_keeps_50 : decode b_Ma_keeps 50 = .ok (.aload_n 1, 1) := by decide +kernel
theorem d_Ma_keeps_51 : decode b_Ma_keeps 51 = .ok (.getfield 49, 3) := by decide +kernel
theorem d_Ma_keeps_54 : decode b_Ma_keeps 54 = .ok (.iload_n 2, 1) := by decide +kernel
theorem d_Ma_keeps_55 : decode b_Ma_keeps 55 = .ok (.iaload, 1) := by decide +kernel
theorem d_Ma_keeps_56 : decode b_Ma_keeps 56 = .ok (.iload_n 3, 1) := by decide +kernel
theorem d_Ma_keeps_57 : decode b_Ma_keeps 57 = .ok (.invokestatic 52, 3) := by decide +kernel
theorem d_Ma_keeps_60 : decode b_Ma_keeps 60 = .ok (.ifCond .eq 29, 3) := by decide +kernel
theorem d_Ma_keeps_63 : decode b_Ma_keeps 63 = .ok (.aload_n 0, 1) := by decide +kernel
theorem d_Ma_keeps_64 : decode b_Ma_keeps 64 = .ok (.iload_n 2, 1) := by decide +kernel
theorem d_Ma_keeps_65 : decode b_Ma_keeps 65 = .ok (.iload_n 3, 1) := by decide +kernel
theorem d_Ma_keeps_66 : decode b_Ma_keeps 66 = .ok (.aload_n 1, 1) := by decide +kernel
theorem d_Ma_keeps_67 : decode b_Ma_keeps 67 = .ok (.invokevirtual 56, 3) := by decide +kernel
theorem d_Ma_keeps_70 : decode b_Ma_keeps 70 = .ok (.aload_n 0, 1) := by decide +kernel
theorem d_Ma_keeps_71 : decode b_Ma_keeps 71 = .ok (.getfield 22, 3) := by decide +kernel
theorem d_Ma_keeps_74 : decode b_Ma_keeps 74 = .ok (.if_icmp .gt 15, 3) := by decide +kernel
theorem d_Ma_keeps_77 : decode b_Ma_keeps 77 = .ok (.aload_n 1, 1) := by decide +kernel
theorem d_Ma_keeps_78 : decode b_Ma_keeps 78 = .ok (.getfield 60, 3) := by decide +kernel
theorem d_Ma_keeps_81 : decode b_Ma_keeps 81 = .ok (.iload_n 2, 1) := by decide +kernel
theorem d_Ma_keeps_82 : decode b_Ma_keeps 82 = .ok (.dup2, 1) := by decide +kernel
theorem d_Ma_keeps_83 : decode b_Ma_keeps 83 = .ok (.iaload, 1) := by decide +kernel
theorem d_Ma_keeps_84 : decode b_Ma_keeps 84 = .ok (.iconst 1, 1) := by decide +kernel
theorem d_Ma_keeps_85 : decode b_Ma_keeps 85 = .ok (.iload_n 3, 1) := by decide +kernel
theorem d_Ma_keeps_86 : decode b_Ma_keeps 86 = .ok (.ishl, 1) := by decide +kernel
theorem d_Ma_keeps_87 : decode b_Ma_keeps 87 = .ok (.ior, 1) := by decide +kernel
theorem d_Ma_keeps_88 : decode b_Ma_keeps 88 = .ok (.iastore, 1) := by decide +kernel
theorem d_Ma_keeps_89 : decode b_Ma_keeps 89 = .ok (.iinc 3 1, 3) := by decide +kernel
theorem d_Ma_keeps_92 : decode b_Ma_keeps 92 = .ok (.goto (-48), 3) := by decide +kernel
theorem d_Ma_keeps_95 : decode b_Ma_keeps 95 = .ok (.iinc 2 1, 3) := by decide +kernel
theorem d_Ma_keeps_98 : decode b_Ma_keeps 98 = .ok (.goto (-80), 3) := by decide +kernel
theorem d_Ma_keeps_101 : decode b_Ma_keeps 101 = .ok (.iconst 1, 1) := by decide +kernel
theorem d_Ma_keeps_102 : decode b_Ma_keeps 102 = .ok (.ireturn, 1) := by decide +kernel
theorem d_Ma_leastCost_0 : decode b_Ma_leastCost 0 = .ok (.aload_n 0, 1) := by decide +kernel
theorem d_Ma_leastCost_1 : decode b_Ma_leastCost 1 = .ok (.getfield 37, 3) := by decide +kernel
theorem d_Ma_leastCost_4 : decode b_Ma_leastCost 4 = .ok (.bipush 6, 2) := by decide +kernel
theorem d_Ma_leastCost_6 : decode b_Ma_leastCost 6 = .ok (.invokestatic 67, 3) := by decide +kernel
theorem d_Ma_leastCost_9 : decode b_Ma_leastCost 9 = .ok (.istore_n 2, 1) := by decide +kernel
theorem d_Ma_leastCost_10 : decode b_Ma_leastCost 10 = .ok (.iconst 0, 1) := by decide +kernel
theorem d_Ma_leastCost_11 : decode b_Ma_leastCost 11 = .ok (.istore_n 3, 1) := by decide +kernel
theorem d_Ma_leastCost_12 : decode b_Ma_leastCost 12 = .ok (.iload_n 3, 1) := by decide +kernel
theorem d_Ma_leastCost_13 : decode b_Ma_leastCost 13 = .ok (.bipush 6, 2) := by decide +kernel
theorem d_Ma_leastCost_15 : decode b_Ma_leastCost 15 = .ok (.if_icmp .ge 36, 3) := by decide +kernel
theorem d_Ma_leastCost_18 : decode b_Ma_leastCost 18 = .ok (.aload_n 1, 1) := by decide +kernel
theorem d_Ma_leastCost_19 : decode b_Ma_leastCost 19 = .ok (.getfield 73, 3) := by decide +kernel
theorem d_Ma_leastCost_22 : decode b_Ma_leastCost 22 = .ok (.iload_n 2, 1) := by decide +kernel
theorem d_Ma_leastCost_23 : decode b_Ma_leastCost 23 = .ok (.iload_n 3, 1) := by decide +kernel
theorem d_Ma_leastCost_24 : decode b_Ma_leastCost 24 = .ok (.invokestatic 76, 3) := by decide +kernel
theorem d_Ma_leastCost_27 : decode b_Ma_leastCost 27 = .ok (.aload_n 0, 1) := by decide +kernel
theorem d_Ma_leastCost_28 : decode b_Ma_leastCost 28 = .ok (.getfield 18, 3) := by decide +kernel
theorem d_Ma_leastCost_31 : decode b_Ma_leastCost 31 = .ok (.iload_n 3, 1) := by decide +kernel
theorem d_Ma_leastCost_32 : decode b_Ma_leastCost 32 = .ok (.invokestatic 52, 3) := by decide +kernel
theorem d_Ma_leastCost_35 : decode b_Ma_leastCost 35 = .ok (.ifCond .eq 7, 3) := by decide +kernel
theorem d_Ma_leastCost_38 : decode b_Ma_leastCost 38 = .ok (.iconst 0, 1) := by decide +kernel
theorem d_Ma_leastCost_39 : decode b_Ma_leastCost 39 = .ok (.goto 5, 3) := by decide +kernel
theorem d_Ma_leastCost_42 : decode b_Ma_leastCost 42 = .ok (.ldc 79, 2) := by decide +kernel
theorem d_Ma_leastCost_44 : decode b_Ma_leastCost 44 = .ok (.iastore, 1) := by decide +kernel
theorem d_Ma_leastCost_45 : decode b_Ma_leastCost 45 = .ok (.iinc 3 1, 3) := by decide +kernel
theorem d_Ma_leastCost_48 : decode b_Ma_leastCost 48 = .ok (.goto (-36), 3) := by decide +kernel
theorem d_Ma_leastCost_51 : decode b_Ma_leastCost 51 = .ok (.iload_n 2, 1) := by decide +kernel
theorem d_Ma_leastCost_52 : decode b_Ma_leastCost 52 = .ok (.iconst 1, 1) := by decide +kernel
theorem d_Ma_leastCost_53 : decode b_Ma_leastCost 53 = .ok (.isub, 1) := by decide +kernel
theorem d_Ma_leastCost_54 : decode b_Ma_leastCost 54 = .ok (.istore_n 3, 1) := by decide +kernel
theorem d_Ma_leastCost_55 : decode b_Ma_leastCost 55 = .ok (.iload_n 3, 1) := by decide +kernel
theorem d_Ma_leastCost_56 : decode b_Ma_leastCost 56 = .ok (.ifCond .lt 55, 3) := by decide +kernel
theorem d_Ma_leastCost_59 : decode b_Ma_leastCost 59 = .ok (.aload_n 1, 1) := by decide +kernel
theorem d_Ma_leastCost_60 : decode b_Ma_leastCost 60 = .ok (.getfield 73, 3) := by decide +kernel
theorem d_Ma_leastCost_63 : decode b_Ma_leastCost 63 = .ok (.iload_n 3, 1) := by decide +kernel
theorem d_Ma_leastCost_64 : decode b_Ma_leastCost 64 = .ok (.invokestatic 45, 3) := by decide +kernel
theorem d_Ma_leastCost_67 : decode b_Ma_leastCost 67 = .ok (.iconst 0, 1) := by decide +kernel
theorem d_Ma_leastCost_68 : decode b_Ma_leastCost 68 = .ok (.istore 4, 2) := by decide +kernel
theorem d_Ma_leastCost_70 : decode b_Ma_leastCost 70 = .ok (.iload 4, 2) := by decide +kernel
theorem d_Ma_leastCost_72 : decode b_Ma_leastCost 72 = .ok (.bipush 6, 2) := by decide +kernel
theorem d_Ma_leastCost_74 : decode b_Ma_leastCost 74 = .ok (.if_icmp .ge 31, 3) := by decide +kernel
theorem d_Ma_leastCost_77 : decode b_Ma_leastCost 77 = .ok (.aload_n 1, 1) := by decide +kernel
theorem d_Ma_leastCost_78 : decode b_Ma_leastCost 78 = .ok (.getfield 49, 3) := by decide +kernel
theorem d_Ma_leastCost_81 : decode b_Ma_leastCost 81 = .ok (.iload_n 3, 1) := by decide +kernel
theorem d_Ma_leastCost_82 : decode b_Ma_leastCost 82 = .ok (.iaload, 1) := by decide +kernel
theorem d_Ma_leastCost_83 : decode b_Ma_leastCost 83 = .ok (.iload 4, 2) := by decide +kernel
theorem d_Ma_leastCost_85 : decode b_Ma_leastCost 85 = .ok (.invokestatic 52, 3) := by decide +kernel
theorem d_Ma_leastCost_88 : decode b_Ma_leastCost 88 = .ok (.ifCond .eq 11, 3) := by decide +kernel
theorem d_Ma_leastCost_91 : decode b_Ma_leastCost 91 = .ok (.aload_n 0, 1) := by decide +kernel
theorem d_Ma_leastCost_92 : decode b_Ma_leastCost 92 = .ok (.iload_n 3, 1) := by decide +kernel
theorem d_Ma_leastCost_93 : decode b_Ma_leastCost 93 = .ok (.iload 4, 2) := by decide +kernel
theorem d_Ma_leastCost_95 : decode b_Ma_leastCost 95 = .ok (.aload_n 1, 1) := by decide +kernel
theorem d_Ma_leastCost_96 : decode b_Ma_leastCost 96 = .ok (.invokevirtual 80, 3) := by decide +kernel
theorem d_Ma_leastCost_99 : decode b_Ma_leastCost 99 = .ok (.iinc 4 1, 3) := by decide +kernel
theorem d_Ma_leastCost_102 : decode b_Ma_leastCost 102 = .ok (.goto (-32), 3) := by decide +kernel
theorem d_Ma_leastCost_105 : decode b_Ma_leastCost 105 = .ok (.iinc 3 (-1), 3) := by decide +kernel
theorem d_Ma_leastCost_108 : decode b_Ma_leastCost 108 = .ok (.goto (-53), 3) := by decide +kernel
theorem d_Ma_leastCost_111 : decode b_Ma_leastCost 111 = .ok (.aload_n 1, 1) := by decide +kernel
theorem d_Ma_leastCost_112 : decode b_Ma_leastCost 112 = .ok (.getfield 73, 3) := by decide +kernel
theorem d_Ma_leastCost_115 : decode b_Ma_leastCost 115 = .ok (.iconst 0, 1) := by decide +kernel
theorem d_Ma_leastCost_116 : decode b_Ma_leastCost 116 = .ok (.iaload, 1) := by decide +kernel
theorem d_Ma_leastCost_117 : decode b_Ma_leastCost 117 = .ok (.aload_n 0, 1) := by decide +kernel
theorem d_Ma_leastCost_118 : decode b_Ma_leastCost 118 = .ok (.getfield 22, 3) := by decide +kernel
theorem d_Ma_leastCost_121 : decode b_Ma_leastCost 121 = .ok (.if_icmp .gt 12, 3) := by decide +kernel
theorem d_Ma_leastCost_124 : decode b_Ma_leastCost 124 = .ok (.aload_n 1, 1) := by decide +kernel
theorem d_Ma_leastCost_125 : decode b_Ma_leastCost 125 = .ok (.getfield 73, 3) := by decide +kernel
theorem d_Ma_leastCost_128 : decode b_Ma_leastCost 128 = .ok (.iconst 0, 1) := by decide +kernel
theorem d_Ma_leastCost_129 : decode b_Ma_leastCost 129 = .ok (.iaload, 1) := by decide +kernel
theorem d_Ma_leastCost_130 : decode b_Ma_leastCost 130 = .ok (.goto 4, 3) := by decide +kernel
theorem d_Ma_leastCost_133 : decode b_Ma_leastCost 133 = .ok (.iconst (-1), 1) := by decide +kernel
theorem d_Ma_leastCost_134 : decode b_Ma_leastCost 134 = .ok (.ireturn, 1) := by decide +kernel
theorem d_JM_min_0 : decode b_JM_min 0 = .ok (.iload_n 0, 1) := by decide +kernel
theorem d_JM_min_1 : decode b_JM_min 1 = .ok (.iload_n 1, 1) := by decide +kernel
theorem d_JM_min_2 : decode b_JM_min 2 = .ok (.if_icmp .gt 7, 3) := by decide +kernel
theorem d_JM_min_5 : decode b_JM_min 5 = .ok (.iload_n 0, 1) := by decide +kernel
theorem d_JM_min_6 : decode b_JM_min 6 = .ok (.goto 4, 3) := by decide +kernel
theorem d_JM_min_9 : decode b_JM_min 9 = .ok (.iload_n 1, 1) := by decide +kernel
theorem d_JM_min_10 : decode b_JM_min 10 = .ok (.ireturn, 1) := by decide +kernel
theorem d_Pl_costAt_0 : decode b_Pl_costAt 0 = .ok (.iload_n 0, 1) := by decide +kernel
theorem d_Pl_costAt_1 : decode b_Pl_costAt 1 = .ok (.bipush 8, 2) := by decide +kernel
theorem d_Pl_costAt_3 : decode b_Pl_costAt 3 = .ok (.imul, 1) := by decide +kernel
theorem d_Pl_costAt_4 : decode b_Pl_costAt 4 = .ok (.iload_n 1, 1) := by decide +kernel
theorem d_Pl_costAt_5 : decode b_Pl_costAt 5 = .ok (.iadd, 1) := by decide +kernel
theorem d_Pl_costAt_6 : decode b_Pl_costAt 6 = .ok (.ireturn, 1) := by decide +kernel
theorem d_Ma_makeFar_0 : decode b_Ma_makeFar 0 = .ok (.iload_n 1, 1) := by decide +kernel
theorem d_Ma_makeFar_1 : decode b_Ma_makeFar 1 = .ok (.iconst 0, 1) := by decide +kernel
theorem d_Ma_makeFar_2 : decode b_Ma_makeFar 2 = .ok (.bipush 6, 2) := by decide +kernel
theorem d_Ma_makeFar_4 : decode b_Ma_makeFar 4 = .ok (.invokestatic 84, 3) := by decide +kernel
theorem d_Ma_makeFar_7 : decode b_Ma_makeFar 7 = .ok (.ifCond .ne 4, 3) := by decide +kernel
theorem d_Ma_makeFar_10 : decode b_Ma_makeFar 10 = .ok (.return_, 1) := by decide +kernel
theorem d_Ma_makeFar_11 : decode b_Ma_makeFar 11 = .ok (.iconst 0, 1) := by decide +kernel
theorem d_Ma_makeFar_12 : decode b_Ma_makeFar 12 = .ok (.istore_n 2, 1) := by decide +kernel
theorem d_Ma_makeFar_13 : decode b_Ma_makeFar 13 = .ok (.iload_n 2, 1) := by decide +kernel
theorem d_Ma_makeFar_14 : decode b_Ma_makeFar 14 = .ok (.bipush 6, 2) := by decide +kernel
theorem d_Ma_makeFar_16 : decode b_Ma_makeFar 16 = .ok (.if_icmp .ge 18, 3) := by decide +kernel
theorem d_Ma_makeFar_19 : decode b_Ma_makeFar 19 = .ok (.aload_n 0, 1) := by decide +kernel
theorem d_Ma_makeFar_20 : decode b_Ma_makeFar 20 = .ok (.iload_n 1, 1) := by decide +kernel
theorem d_Ma_makeFar_21 : decode b_Ma_makeFar 21 = .ok (.iload_n 2, 1) := by decide +kernel
theorem d_Ma_makeFar_22 : decode b_Ma_makeFar 22 = .ok (.invokestatic 76, 3) := by decide +kernel
theorem d_Ma_makeFar_25 : decode b_Ma_makeFar 25 = .ok (.ldc 79, 2) := by decide +kernel
theorem d_Ma_makeFar_27 : decode b_Ma_makeFar 27 = .ok (.iastore, 1) := by decide +kernel
theorem d_Ma_makeFar_28 : decode b_Ma_makeFar 28 = .ok (.iinc 2 1, 3) := by decide +kernel
theorem d_Ma_makeFar_31 : decode b_Ma_makeFar 31 = .ok (.goto (-18), 3) := by decide +kernel
theorem d_Ma_makeFar_34 : decode b_Ma_makeFar 34 = .ok (.return_, 1) := by decide +kernel
theorem d_Ma_goBehind_0 : decode b_Ma_goBehind 0 = .ok (.iload_n 1, 1) := by decide +kernel
theorem d_Ma_goBehind_1 : decode b_Ma_goBehind 1 = .ok (.iconst 0, 1) := by decide +kernel
theorem d_Ma_goBehind_2 : decode b_Ma_goBehind 2 = .ok (.iconst 5, 1) := by decide +kernel
theorem d_Ma_goBehind_3 : decode b_Ma_goBehind 3 = .ok (.invokestatic 84, 3) := by decide +kernel
theorem d_Ma_goBehind_6 : decode b_Ma_goBehind 6 = .ok (.ifCond .eq 10, 3) := by decide +kernel
theorem d_Ma_goBehind_9 : decode b_Ma_goBehind 9 = .ok (.iload_n 2, 1) := by decide +kernel
theorem d_Ma_goBehind_10 : decode b_Ma_goBehind 10 = .ok (.invokestatic 25, 3) := by decide +kernel
theorem d_Ma_goBehind_13 : decode b_Ma_goBehind 13 = .ok (.ifCond .ne 4, 3) := by decide +kernel
theorem d_Ma_goBehind_16 : decode b_Ma_goBehind 16 = .ok (.return_, 1) := by decide +kernel
theorem d_Ma_goBehind_17 : decode b_Ma_goBehind 17 = .ok (.aload_n 0, 1) := by decide +kernel
theorem d_Ma_goBehind_18 : decode b_Ma_goBehind 18 = .ok (.getfield 15, 3) := by decide +kernel
theorem d_Ma_goBehind_21 : decode b_Ma_goBehind 21 = .ok (.iload_n 2, 1) := by decide +kernel
theorem d_Ma_goBehind_22 : decode b_Ma_goBehind 22 = .ok (.iaload, 1) := by decide +kernel
theorem d_Ma_goBehind_23 : decode b_Ma_goBehind 23 = .ok (.istore 4, 2) := by decide +kernel
theorem d_Ma_goBehind_25 : decode b_Ma_goBehind 25 = .ok (.iload 4, 2) := by decide +kernel
theorem d_Ma_goBehind_27 : decode b_Ma_goBehind 27 = .ok (.aload_n 0, 1) := by decide +kernel
theorem d_Ma_goBehind_28 : decode b_Ma_goBehind 28 = .ok (.getfield 15, 3) := by decide +kernel
theorem d_Ma_goBehind_31 : decode b_Ma_goBehind 31 = .ok (.iload_n 2, 1) := by decide +kernel
theorem d_Ma_goBehind_32 : decode b_Ma_goBehind 32 = .ok (.iconst 1, 1) := by decide +kernel
theorem d_Ma_goBehind_33 : decode b_Ma_goBehind 33 = .ok (.iadd, 1) := by decide +kernel
theorem d_Ma_goBehind_34 : decode b_Ma_goBehind 34 = .ok (.iaload, 1) := by decide +kernel
theorem d_Ma_goBehind_35 : decode b_Ma_goBehind 35 = .ok (.if_icmp .ge 91, 3) := by decide +kernel
theorem d_Ma_goBehind_38 : decode b_Ma_goBehind 38 = .ok (.iload 4, 2) := by decide +kernel
theorem d_Ma_goBehind_40 : decode b_Ma_goBehind 40 = .ok (.bipush 30, 2) := by decide +kernel
theorem d_Ma_goBehind_42 : decode b_Ma_goBehind 42 = .ok (.if_icmp .ge 84, 3) := by decide +kernel
theorem d_Ma_goBehind_45 : decode b_Ma_goBehind 45 = .ok (.iload_n 1, 1) := by decide +kernel
theorem d_Ma_goBehind_46 : decode b_Ma_goBehind 46 = .ok (.aload_n 0, 1) := by decide +kernel
theorem d_Ma_goBehind_47 : decode b_Ma_goBehind 47 = .ok (.getfield 9, 3) := by decide +kernel
theorem d_Ma_goBehind_50 : decode b_Ma_goBehind 50 = .ok (.iload 4, 2) := by decide +kernel
theorem d_Ma_goBehind_52 : decode b_Ma_goBehind 52 = .ok (.iaload, 1) := by decide +kernel
theorem d_Ma_goBehind_53 : decode b_Ma_goBehind 53 = .ok (.iconst 0, 1) := by decide +kernel
theorem d_Ma_goBehind_54 : decode b_Ma_goBehind 54 = .ok (.invokestatic 88, 3) := by decide +kernel
theorem d_Ma_goBehind_57 : decode b_Ma_goBehind 57 = .ok (.invokestatic 76, 3) := by decide +kernel
theorem d_Ma_goBehind_60 : decode b_Ma_goBehind 60 = .ok (.istore 5, 2) := by decide +kernel
theorem d_Ma_goBehind_62 : decode b_Ma_goBehind 62 = .ok (.iload_n 1, 1) := by decide +kernel
theorem d_Ma_goBehind_63 : decode b_Ma_goBehind 63 = .ok (.iconst 1, 1) := by decide +kernel
theorem d_Ma_goBehind_64 : decode b_Ma_goBehind 64 = .ok (.iadd, 1) := by decide +kernel
theorem d_Ma_goBehind_65 : decode b_Ma_goBehind 65 = .ok (.aload_n 0, 1) := by decide +kernel
theorem d_Ma_goBehind_66 : decode b_Ma_goBehind 66 = .ok (.getfield 9, 3) := by decide +kernel
theorem d_Ma_goBehind_69 : decode b_Ma_goBehind 69 = .ok (.iload 4, 2) := by decide +kernel
theorem d_Ma_goBehind_71 : decode b_Ma_goBehind 71 = .ok (.iaload, 1) := by decide +kernel
theorem d_Ma_goBehind_72 : decode b_Ma_goBehind 72 = .ok (.iconst 1, 1) := by decide +kernel
theorem d_Ma_goBehind_73 : decode b_Ma_goBehind 73 = .ok (.invokestatic 88, 3) := by decide +kernel
theorem d_Ma_goBehind_76 : decode b_Ma_goBehind 76 = .ok (.invokestatic 76, 3) := by decide +kernel
theorem d_Ma_goBehind_79 : decode b_Ma_goBehind 79 = .ok (.istore 6, 2) := by decide +kernel
theorem d_Ma_goBehind_81 : decode b_Ma_goBehind 81 = .ok (.aload_n 3, 1) := by decide +kernel
theorem d_Ma_goBehind_82 : decode b_Ma_goBehind 82 = .ok (.getfield 73, 3) := by decide +kernel
theorem d_Ma_goBehind_85 : decode b_Ma_goBehind 85 = .ok (.iload 6, 2) := by decide +kernel
theorem d_Ma_goBehind_87 : decode b_Ma_goBehind 87 = .ok (.iaload, 1) := by decide +kernel
theorem d_Ma_goBehind_88 : decode b_Ma_goBehind 88 = .ok (.aload_n 0, 1) := by decide +kernel
theorem d_Ma_goBehind_89 : decode b_Ma_goBehind 89 = .ok (.getfield 9, 3) := by decide +kernel
theorem d_Ma_goBehind_92 : decode b_Ma_goBehind 92 = .ok (.iload 4, 2) := by decide +kernel
theorem d_Ma_goBehind_94 : decode b_Ma_goBehind 94 = .ok (.iaload, 1) := by decide +kernel
theorem d_Ma_goBehind_95 : decode b_Ma_goBehind 95 = .ok (.bipush 6, 2) := by decide +kernel
theorem d_Ma_goBehind_97 : decode b_Ma_goBehind 97 = .ok (.iushr, 1) := by decide +kernel
theorem d_Ma_goBehind_98 : decode b_Ma_goBehind 98 = .ok (.iadd, 1) := by decide +kernel
theorem d_Ma_goBehind_99 : decode b_Ma_goBehind 99 = .ok (.istore 7, 2) := by decide +kernel
theorem d_Ma_goBehind_101 : decode b_Ma_goBehind 101 = .ok (.aload_n 3, 1) := by decide +kernel
theorem d_Ma_goBehind_102 : decode b_Ma_goBehind 102 = .ok (.getfield 73, 3) := by decide +kernel
theorem d_Ma_goBehind_105 : decode b_Ma_goBehind 105 = .ok (.iload 5, 2) := by decide +kernel
theorem d_Ma_goBehind_107 : decode b_Ma_goBehind 107 = .ok (.aload_n 3, 1) := by decide +kernel
theorem d_Ma_goBehind_108 : decode b_Ma_goBehind 108 = .ok (.getfield 73, 3) := by decide +kernel
theorem d_Ma_goBehind_111 : decode b_Ma_goBehind 111 = .ok (.iload 5, 2) := by decide +kernel
theorem d_Ma_goBehind_113 : decode b_Ma_goBehind 113 = .ok (.iaload, 1) := by decide +kernel
theorem d_Ma_goBehind_114 : decode b_Ma_goBehind 114 = .ok (.iload 7, 2) := by decide +kernel
theorem d_Ma_goBehind_116 : decode b_Ma_goBehind 116 = .ok (.invokestatic 67, 3) := by decide +kernel
theorem d_Ma_goBehind_119 : decode b_Ma_goBehind 119 = .ok (.iastore, 1) := by decide +kernel
theorem d_Ma_goBehind_120 : decode b_Ma_goBehind 120 = .ok (.iinc 4 1, 3) := by decide +kernel
theorem d_Ma_goBehind_123 : decode b_Ma_goBehind 123 = .ok (.goto (-98), 3) := by decide +kernel
theorem d_Ma_goBehind_126 : decode b_Ma_goBehind 126 = .ok (.return_, 1) := by decide +kernel
theorem d_Ma_startAhead_0 : decode b_Ma_startAhead 0 = .ok (.aload_n 1, 1) := by decide +kernel
theorem d_Ma_startAhead_1 : decode b_Ma_startAhead 1 = .ok (.getfield 40, 3) := by decide +kernel
theorem d_Ma_startAhead_4 : decode b_Ma_startAhead 4 = .ok (.iconst 0, 1) := by decide +kernel
theorem d_Ma_startAhead_5 : decode b_Ma_startAhead 5 = .ok (.invokestatic 45, 3) := by decide +kernel
theorem d_Ma_startAhead_8 : decode b_Ma_startAhead 8 = .ok (.aload_n 1, 1) := by decide +kernel
theorem d_Ma_startAhead_9 : decode b_Ma_startAhead 9 = .ok (.getfield 40, 3) := by decide +kernel
theorem d_Ma_startAhead_12 : decode b_Ma_startAhead 12 = .ok (.iconst 0, 1) := by decide +kernel
theorem d_Ma_startAhead_13 : decode b_Ma_startAhead 13 = .ok (.iconst 0, 1) := by decide +kernel
theorem d_Ma_startAhead_14 : decode b_Ma_startAhead 14 = .ok (.iastore, 1) := by decide +kernel
theorem d_Ma_startAhead_15 : decode b_Ma_startAhead 15 = .ok (.return_, 1) := by decide +kernel
