theorem d_Ma_goAhead_0 : decode b_Ma_goAhead 0 = .ok (.ldc 79, 2) := by decide +kernel
theorem d_Ma_goAhead_2 : decode b_Ma_goAhead 2 = .ok (.istore 4, 2) := by decide +kernel
theorem d_Ma_goAhead_4 : decode b_Ma_goAhead 4 = .ok (.iload_n 1, 1) := by decide +kernel
theorem d_Ma_goAhead_5 : decode b_Ma_goAhead 5 = .ok (.iconst 0, 1) := by decide +kernel
theorem d_Ma_goAhead_6 : decode b_Ma_goAhead 6 = .ok (.iconst 5, 1) := by decide +kernel
theorem d_Ma_goAhead_7 : decode b_Ma_goAhead 7 = .ok (.invokestatic 84, 3) := by decide +kernel
theorem d_Ma_goAhead_10 : decode b_Ma_goAhead 10 = .ok (.ifCond .eq 10, 3) := by decide +kernel
theorem d_Ma_goAhead_13 : decode b_Ma_goAhead 13 = .ok (.iload_n 2, 1) := by decide +kernel
theorem d_Ma_goAhead_14 : decode b_Ma_goAhead 14 = .ok (.invokestatic 25, 3) := by decide +kernel
theorem d_Ma_goAhead_17 : decode b_Ma_goAhead 17 = .ok (.ifCond .ne 6, 3) := by decide +kernel
theorem d_Ma_goAhead_20 : decode b_Ma_goAhead 20 = .ok (.iload 4, 2) := by decide +kernel
theorem d_Ma_goAhead_22 : decode b_Ma_goAhead 22 = .ok (.ireturn, 1) := by decide +kernel
theorem d_Ma_goAhead_23 : decode b_Ma_goAhead 23 = .ok (.aload_n 0, 1) := by decide +kernel
theorem d_Ma_goAhead_24 : decode b_Ma_goAhead 24 = .ok (.getfield 15, 3) := by decide +kernel
theorem d_Ma_goAhead_27 : decode b_Ma_goAhead 27 = .ok (.iload_n 2, 1) := by decide +kernel
theorem d_Ma_goAhead_28 : decode b_Ma_goAhead 28 = .ok (.iaload, 1) := by decide +kernel
theorem d_Ma_goAhead_29 : decode b_Ma_goAhead 29 = .ok (.istore 5, 2) := by decide +kernel
theorem d_Ma_goAhead_31 : decode b_Ma_goAhead 31 = .ok (.iload 5, 2) := by decide +kernel
theorem d_Ma_goAhead_33 : decode b_Ma_goAhead 33 = .ok (.aload_n 0, 1) := by decide +kernel
theorem d_Ma_goAhead_34 : decode b_Ma_goAhead 34 = .ok (.getfield 15, 3) := by decide +kernel
theorem d_Ma_goAhead_37 : decode b_Ma_goAhead 37 = .ok (.iload_n 2, 1) := by decide +kernel
theorem d_Ma_goAhead_38 : decode b_Ma_goAhead 38 = .ok (.iconst 1, 1) := by decide +kernel
theorem d_Ma_goAhead_39 : decode b_Ma_goAhead 39 = .ok (.iadd, 1) := by decide +kernel
theorem d_Ma_goAhead_40 : decode b_Ma_goAhead 40 = .ok (.iaload, 1) := by decide +kernel
theorem d_Ma_goAhead_41 : decode b_Ma_goAhead 41 = .ok (.if_icmp .ge 108, 3) := by decide +kernel
theorem d_Ma_goAhead_44 : decode b_Ma_goAhead 44 = .ok (.iload 5, 2) := by decide +kernel
theorem d_Ma_goAhead_46 : decode b_Ma_goAhead 46 = .ok (.bipush 30, 2) := by decide +kernel
theorem d_Ma_goAhead_48 : decode b_Ma_goAhead 48 = .ok (.if_icmp .ge 101, 3) := by decide +kernel
theorem d_Ma_goAhead_51 : decode b_Ma_goAhead 51 = .ok (.iload_n 1, 1) := by decide +kernel
theorem d_Ma_goAhead_52 : decode b_Ma_goAhead 52 = .ok (.aload_n 0, 1) := by decide +kernel
theorem d_Ma_goAhead_53 : decode b_Ma_goAhead 53 = .ok (.getfield 9, 3) := by decide +kernel
theorem d_Ma_goAhead_56 : decode b_Ma_goAhead 56 = .ok (.iload 5, 2) := by decide +kernel
theorem d_Ma_goAhead_58 : decode b_Ma_goAhead 58 = .ok (.iaload, 1) := by decide +kernel
theorem d_Ma_goAhead_59 : decode b_Ma_goAhead 59 = .ok (.iconst 0, 1) := by decide +kernel
theorem d_Ma_goAhead_60 : decode b_Ma_goAhead 60 = .ok (.invokestatic 88, 3) := by decide +kernel
theorem d_Ma_goAhead_63 : decode b_Ma_goAhead 63 = .ok (.invokestatic 76, 3) := by decide +kernel
theorem d_Ma_goAhead_66 : decode b_Ma_goAhead 66 = .ok (.istore 6, 2) := by decide +kernel
theorem d_Ma_goAhead_68 : decode b_Ma_goAhead 68 = .ok (.iload_n 1, 1) := by decide +kernel
theorem d_Ma_goAhead_69 : decode b_Ma_goAhead 69 = .ok (.iconst 1, 1) := by decide +kernel
theorem d_Ma_goAhead_70 : decode b_Ma_goAhead 70 = .ok (.iadd, 1) := by decide +kernel
theorem d_Ma_goAhead_71 : decode b_Ma_goAhead 71 = .ok (.aload_n 0, 1) := by decide +kernel
theorem d_Ma_goAhead_72 : decode b_Ma_goAhead 72 = .ok (.getfield 9, 3) := by decide +kernel
theorem d_Ma_goAhead_75 : decode b_Ma_goAhead 75 = .ok (.iload 5, 2) := by decide +kernel
theorem d_Ma_goAhead_77 : decode b_Ma_goAhead 77 = .ok (.iaload, 1) := by decide +kernel
theorem d_Ma_goAhead_78 : decode b_Ma_goAhead 78 = .ok (.iconst 1, 1) := by decide +kernel
theorem d_Ma_goAhead_79 : decode b_Ma_goAhead 79 = .ok (.invokestatic 88, 3) := by decide +kernel
theorem d_Ma_goAhead_82 : decode b_Ma_goAhead 82 = .ok (.invokestatic 76, 3) := by decide +kernel
theorem d_Ma_goAhead_85 : decode b_Ma_goAhead 85 = .ok (.istore 7, 2) := by decide +kernel
theorem d_Ma_goAhead_87 : decode b_Ma_goAhead 87 = .ok (.aload_n 3, 1) := by decide +kernel
theorem d_Ma_goAhead_88 : decode b_Ma_goAhead 88 = .ok (.getfield 40, 3) := by decide +kernel
theorem d_Ma_goAhead_91 : decode b_Ma_goAhead 91 = .ok (.iload 6, 2) := by decide +kernel
theorem d_Ma_goAhead_93 : decode b_Ma_goAhead 93 = .ok (.iaload, 1) := by decide +kernel
theorem d_Ma_goAhead_94 : decode b_Ma_goAhead 94 = .ok (.aload_n 0, 1) := by decide +kernel
theorem d_Ma_goAhead_95 : decode b_Ma_goAhead 95 = .ok (.getfield 9, 3) := by decide +kernel
theorem d_Ma_goAhead_98 : decode b_Ma_goAhead 98 = .ok (.iload 5, 2) := by decide +kernel
theorem d_Ma_goAhead_100 : decode b_Ma_goAhead 100 = .ok (.iaload, 1) := by decide +kernel
theorem d_Ma_goAhead_101 : decode b_Ma_goAhead 101 = .ok (.bipush 6, 2) := by decide +kernel
theorem d_Ma_goAhead_103 : decode b_Ma_goAhead 103 = .ok (.iushr, 1) := by decide +kernel
theorem d_Ma_goAhead_104 : decode b_Ma_goAhead 104 = .ok (.iadd, 1) := by decide +kernel
theorem d_Ma_goAhead_105 : decode b_Ma_goAhead 105 = .ok (.istore 8, 2) := by decide +kernel
theorem d_Ma_goAhead_107 : decode b_Ma_goAhead 107 = .ok (.aload_n 3, 1) := by decide +kernel
theorem d_Ma_goAhead_108 : decode b_Ma_goAhead 108 = .ok (.getfield 40, 3) := by decide +kernel
theorem d_Ma_goAhead_111 : decode b_Ma_goAhead 111 = .ok (.iload 7, 2) := by decide +kernel
theorem d_Ma_goAhead_113 : decode b_Ma_goAhead 113 = .ok (.aload_n 3, 1) := by decide +kernel
theorem d_Ma_goAhead_114 : decode b_Ma_goAhead 114 = .ok (.getfield 40, 3) := by decide +kernel
theorem d_Ma_goAhead_117 : decode b_Ma_goAhead 117 = .ok (.iload 7, 2) := by decide +kernel
theorem d_Ma_goAhead_119 : decode b_Ma_goAhead 119 = .ok (.iaload, 1) := by decide +kernel
theorem d_Ma_goAhead_120 : decode b_Ma_goAhead 120 = .ok (.iload 8, 2) := by decide +kernel
theorem d_Ma_goAhead_122 : decode b_Ma_goAhead 122 = .ok (.invokestatic 67, 3) := by decide +kernel
theorem d_Ma_goAhead_125 : decode b_Ma_goAhead 125 = .ok (.iastore, 1) := by decide +kernel
theorem d_Ma_goAhead_126 : decode b_Ma_goAhead 126 = .ok (.iload 4, 2) := by decide +kernel
theorem d_Ma_goAhead_128 : decode b_Ma_goAhead 128 = .ok (.iload 8, 2) := by decide +kernel
theorem d_Ma_goAhead_130 : decode b_Ma_goAhead 130 = .ok (.aload_n 3, 1) := by decide +kernel
theorem d_Ma_goAhead_131 : decode b_Ma_goAhead 131 = .ok (.getfield 73, 3) := by decide +kernel
theorem d_Ma_goAhead_134 : decode b_Ma_goAhead 134 = .ok (.iload 7, 2) := by decide +kernel
theorem d_Ma_goAhead_136 : decode b_Ma_goAhead 136 = .ok (.iaload, 1) := by decide +kernel
theorem d_Ma_goAhead_137 : decode b_Ma_goAhead 137 = .ok (.iadd, 1) := by decide +kernel
theorem d_Ma_goAhead_138 : decode b_Ma_goAhead 138 = .ok (.invokestatic 67, 3) := by decide +kernel
theorem d_Ma_goAhead_141 : decode b_Ma_goAhead 141 = .ok (.istore 4, 2) := by decide +kernel
theorem d_Ma_goAhead_143 : decode b_Ma_goAhead 143 = .ok (.iinc 5 1, 3) := by decide +kernel
theorem d_Ma_goAhead_146 : decode b_Ma_goAhead 146 = .ok (.goto (-115), 3) := by decide +kernel
theorem d_Ma_goAhead_149 : decode b_Ma_goAhead 149 = .ok (.iload 4, 2) := by decide +kernel
theorem d_Ma_goAhead_151 : decode b_Ma_goAhead 151 = .ok (.ireturn, 1) := by decide +kernel
theorem d_Ta_keeps_0 : decode b_Ta_keeps 0 = .ok (.aload_n 0, 1) := by decide +kernel
theorem d_Ta_keeps_1 : decode b_Ta_keeps 1 = .ok (.aload_n 1, 1) := by decide +kernel
theorem d_Ta_keeps_2 : decode b_Ta_keeps 2 = .ok (.invokevirtual 26, 3) := by decide +kernel
theorem d_Ta_keeps_5 : decode b_Ta_keeps 5 = .ok (.istore_n 2, 1) := by decide +kernel
theorem d_Ta_keeps_6 : decode b_Ta_keeps 6 = .ok (.iload_n 2, 1) := by decide +kernel
theorem d_Ta_keeps_7 : decode b_Ta_keeps 7 = .ok (.ifCond .ne 5, 3) := by decide +kernel
theorem d_Ta_keeps_10 : decode b_Ta_keeps 10 = .ok (.iconst 0, 1) := by decide +kernel
theorem d_Ta_keeps_11 : decode b_Ta_keeps 11 = .ok (.ireturn, 1) := by decide +kernel
theorem d_Ta_keeps_12 : decode b_Ta_keeps 12 = .ok (.iconst 0, 1) := by decide +kernel
theorem d_Ta_keeps_13 : decode b_Ta_keeps 13 = .ok (.istore_n 3, 1) := by decide +kernel
theorem d_Ta_keeps_14 : decode b_Ta_keeps 14 = .ok (.iload_n 3, 1) := by decide +kernel
theorem d_Ta_keeps_15 : decode b_Ta_keeps 15 = .ok (.aload_n 0, 1) := by decide +kernel
theorem d_Ta_keeps_16 : decode b_Ta_keeps 16 = .ok (.getfield 19, 3) := by decide +kernel
theorem d_Ta_keeps_19 : decode b_Ta_keeps 19 = .ok (.if_icmp .ge 75, 3) := by decide +kernel
theorem d_Ta_keeps_22 : decode b_Ta_keeps 22 = .ok (.iload_n 3, 1) := by decide +kernel
theorem d_Ta_keeps_23 : decode b_Ta_keeps 23 = .ok (.bipush 6, 2) := by decide +kernel
theorem d_Ta_keeps_25 : decode b_Ta_keeps 25 = .ok (.if_icmp .ge 69, 3) := by decide +kernel
theorem d_Ta_keeps_28 : decode b_Ta_keeps 28 = .ok (.iconst 0, 1) := by decide +kernel
theorem d_Ta_keeps_29 : decode b_Ta_keeps 29 = .ok (.istore 4, 2) := by decide +kernel
theorem d_Ta_keeps_31 : decode b_Ta_keeps 31 = .ok (.iload 4, 2) := by decide +kernel
theorem d_Ta_keeps_33 : decode b_Ta_keeps 33 = .ok (.bipush 6, 2) := by decide +kernel
theorem d_Ta_keeps_35 : decode b_Ta_keeps 35 = .ok (.if_icmp .ge 53, 3) := by decide +kernel
theorem d_Ta_keeps_38 : decode b_Ta_keeps 38 = .ok (.aload_n 1, 1) := by decide +kernel
theorem d_Ta_keeps_39 : decode b_Ta_keeps 39 = .ok (.getfield 30, 3) := by decide +kernel
theorem d_Ta_keeps_42 : decode b_Ta_keeps 42 = .ok (.iload_n 3, 1) := by decide +kernel
theorem d_Ta_keeps_43 : decode b_Ta_keeps 43 = .ok (.iaload, 1) := by decide +kernel
theorem d_Ta_keeps_44 : decode b_Ta_keeps 44 = .ok (.iload 4, 2) := by decide +kernel
theorem d_Ta_keeps_46 : decode b_Ta_keeps 46 = .ok (.invokestatic 35, 3) := by decide +kernel
theorem d_Ta_keeps_49 : decode b_Ta_keeps 49 = .ok (.ifCond .eq 33, 3) := by decide +kernel
theorem d_Ta_keeps_52 : decode b_Ta_keeps 52 = .ok (.aload_n 0, 1) := by decide +kernel
theorem d_Ta_keeps_53 : decode b_Ta_keeps 53 = .ok (.getfield 9, 3) := by decide +kernel
theorem d_Ta_keeps_56 : decode b_Ta_keeps 56 = .ok (.iload_n 3, 1) := by decide +kernel
theorem d_Ta_keeps_57 : decode b_Ta_keeps 57 = .ok (.bipush 6, 2) := by decide +kernel
theorem d_Ta_keeps_59 : decode b_Ta_keeps 59 = .ok (.imul, 1) := by decide +kernel
theorem d_Ta_keeps_60 : decode b_Ta_keeps 60 = .ok (.iload 4, 2) := by decide +kernel
theorem d_Ta_keeps_62 : decode b_Ta_keeps 62 = .ok (.iadd, 1) := by decide +kernel
theorem d_Ta_keeps_63 : decode b_Ta_keeps 63 = .ok (.iaload, 1) := by decide +kernel
theorem d_Ta_keeps_64 : decode b_Ta_keeps 64 = .ok (.iload_n 2, 1) := by decide +kernel
theorem d_Ta_keeps_65 : decode b_Ta_keeps 65 = .ok (.iand, 1) := by decide +kernel
theorem d_Ta_keeps_66 : decode b_Ta_keeps 66 = .ok (.ifCond .eq 16, 3) := by decide +kernel
theorem d_Ta_keeps_69 : decode b_Ta_keeps 69 = .ok (.aload_n 1, 1) := by decide +kernel
theorem d_Ta_keeps_70 : decode b_Ta_keeps 70 = .ok (.getfield 39, 3) := by decide +kernel
theorem d_Ta_keeps_73 : decode b_Ta_keeps 73 = .ok (.iload_n 3, 1) := by decide +kernel
theorem d_Ta_keeps_74 : decode b_Ta_keeps 74 = .ok (.dup2, 1) := by decide +kernel
theorem d_Ta_keeps_75 : decode b_Ta_keeps 75 = .ok (.iaload, 1) := by decide +kernel
theorem d_Ta_keeps_76 : decode b_Ta_keeps 76 = .ok (.iconst 1, 1) := by decide +kernel
theorem d_Ta_keeps_77 : decode b_Ta_keeps 77 = .ok (.iload 4, 2) := by decide +kernel
theorem d_Ta_keeps_79 : decode b_Ta_keeps 79 = .ok (.ishl, 1) := by decide +kernel
theorem d_Ta_keeps_80 : decode b_Ta_keeps 80 = .ok (.ior, 1) := by decide +kernel
theorem d_Ta_keeps_81 : decode b_Ta_keeps 81 = .ok (.iastore, 1) := by decide +kernel
theorem d_Ta_keeps_82 : decode b_Ta_keeps 82 = .ok (.iinc 4 1, 3) := by decide +kernel
theorem d_Ta_keeps_85 : decode b_Ta_keeps 85 = .ok (.goto (-54), 3) := by decide +kernel
theorem d_Ta_keeps_88 : decode b_Ta_keeps 88 = .ok (.iinc 3 1, 3) := by decide +kernel
theorem d_Ta_keeps_91 : decode b_Ta_keeps 91 = .ok (.goto (-77), 3) := by decide +kernel
theorem d_Ta_keeps_94 : decode b_Ta_keeps 94 = .ok (.iconst 1, 1) := by decide +kernel
theorem d_Ta_keeps_95 : decode b_Ta_keeps 95 = .ok (.ireturn, 1) := by decide +kernel
theorem d_Ta_openTuples_0 : decode b_Ta_openTuples 0 = .ok (.iconst 1, 1) := by decide +kernel
theorem d_Ta_openTuples_1 : decode b_Ta_openTuples 1 = .ok (.aload_n 0, 1) := by decide +kernel
theorem d_Ta_openTuples_2 : decode b_Ta_openTuples 2 = .ok (.getfield 15, 3) := by decide +kernel
theorem d_Ta_openTuples_5 : decode b_Ta_openTuples 5 = .ok (.ishl, 1) := by decide +kernel
theorem d_Ta_openTuples_6 : decode b_Ta_openTuples 6 = .ok (.iconst 1, 1) := by decide +kernel
theorem d_Ta_openTuples_7 : decode b_Ta_openTuples 7 = .ok (.isub, 1) := by decide +kernel
theorem d_Ta_openTuples_8 : decode b_Ta_openTuples 8 = .ok (.istore_n 2, 1) := by decide +kernel
theorem d_Ta_openTuples_9 : decode b_Ta_openTuples 9 = .ok (.iconst 0, 1) := by decide +kernel
theorem d_Ta_openTuples_10 : decode b_Ta_openTuples 10 = .ok (.istore_n 3, 1) := by decide +kernel
theorem d_Ta_openTuples_11 : decode b_Ta_openTuples 11 = .ok (.iload_n 3, 1) := by decide +kernel
theorem d_Ta_openTuples_12 : decode b_Ta_openTuples 12 = .ok (.aload_n 0, 1) := by decide +kernel
theorem d_Ta_openTuples_13 : decode b_Ta_openTuples 13 = .ok (.getfield 19, 3) := by decide +kernel
theorem d_Ta_openTuples_16 : decode b_Ta_openTuples 16 = .ok (.if_icmp .ge 70, 3) := by decide +kernel
theorem d_Ta_openTuples_19 : decode b_Ta_openTuples 19 = .ok (.iload_n 3, 1) := by decide +kernel
theorem d_Ta_openTuples_20 : decode b_Ta_openTuples 20 = .ok (.bipush 6, 2) := by decide +kernel
theorem d_Ta_openTuples_22 : decode b_Ta_openTuples 22 = .ok (.if_icmp .ge 64, 3) := by decide +kernel
theorem d_Ta_openTuples_25 : decode b_Ta_openTuples 25 = .ok (.iconst 0, 1) := by decide +kernel
theorem d_Ta_openTuples_26 : decode b_Ta_openTuples 26 = .ok (.istore 4, 2) := by decide +kernel
theorem d_Ta_openTuples_28 : decode b_Ta_openTuples 28 = .ok (.iconst 0, 1) := by decide +kernel
theorem d_Ta_openTuples_29 : decode b_Ta_openTuples 29 = .ok (.istore 5, 2) := by decide +kernel
theorem d_Ta_openTuples_31 : decode b_Ta_openTuples 31 = .ok (.iload 5, 2) := by decide +kernel
theorem d_Ta_openTuples_33 : decode b_Ta_openTuples 33 = .ok (.bipush 6, 2) := by decide +kernel
theorem d_Ta_openTuples_35 : decode b_Ta_openTuples 35 = .ok (.if_icmp .ge 40, 3) := by decide +kernel
theorem d_Ta_openTuples_38 : decode b_Ta_openTuples 38 = .ok (.aload_n 1, 1) := by decide +kernel
theorem d_Ta_openTuples_39 : decode b_Ta_openTuples 39 = .ok (.getfield 30, 3) := by decide +kernel
theorem d_Ta_openTuples_42 : decode b_Ta_openTuples 42 = .ok (.iload_n 3, 1) := by decide +kernel
theorem d_Ta_openTuples_43 : decode b_Ta_openTuples 43 = .ok (.iaload, 1) := by decide +kernel
theorem d_Ta_openTuples_44 : decode b_Ta_openTuples 44 = .ok (.iload 5, 2) := by decide +kernel
theorem d_Ta_openTuples_46 : decode b_Ta_openTuples 46 = .ok (.invokestatic 35, 3) := by decide +kernel
theorem d_Ta_openTuples_49 : decode b_Ta_openTuples 49 = .ok (.ifCond .eq 20, 3) := by decide +kernel
theorem d_Ta_openTuples_52 : decode b_Ta_openTuples 52 = .ok (.iload 4, 2) := by decide +kernel
theorem d_Ta_openTuples_54 : decode b_Ta_openTuples 54 = .ok (.aload_n 0, 1) := by decide +kernel
theorem d_Ta_openTuples_55 : decode b_Ta_openTuples 55 = .ok (.getfield 9, 3) := by decide +kernel
theorem d_Ta_openTuples_58 : decode b_Ta_openTuples 58 = .ok (.iload_n 3, 1) := by decide +kernel
theorem d_Ta_openTuples_59 : decode b_Ta_openTuples 59 = .ok (.bipush 6, 2) := by decide +kernel
theorem d_Ta_openTuples_61 : decode b_Ta_openTuples 61 = .ok (.imul, 1) := by decide +kernel
theorem d_Ta_openTuples_62 : decode b_Ta_openTuples 62 = .ok (.iload 5, 2) := by decide +kernel
theorem d_Ta_openTuples_64 : decode b_Ta_openTuples 64 = .ok (.iadd, 1) := by decide +kernel
theorem d_Ta_openTuples_65 : decode b_Ta_openTuples 65 = .ok (.iaload, 1) := by decide +kernel
theorem d_Ta_openTuples_66 : decode b_Ta_openTuples 66 = .ok (.ior, 1) := by decide +kernel
theorem d_Ta_openTuples_67 : decode b_Ta_openTuples 67 = .ok (.istore 4, 2) := by decide +kernel
theorem d_Ta_openTuples_69 : decode b_Ta_openTuples 69 = .ok (.iinc 5 1, 3) := by decide +kernel
theorem d_Ta_openTuples_72 : decode b_Ta_openTuples 72 = .ok (.goto (-41), 3) := by decide +kernel
theorem d_Ta_openTuples_75 : decode b_Ta_openTuples 75 = .ok (.iload_n 2, 1) := by decide +kernel
theorem d_Ta_openTuples_76 : decode b_Ta_openTuples 76 = .ok (.iload 4, 2) := by decide +kernel
theorem d_Ta_openTuples_78 : decode b_Ta_openTuples 78 = .ok (.iand, 1) := by decide +kernel
theorem d_Ta_openTuples_79 : decode b_Ta_openTuples 79 = .ok (.istore_n 2, 1) := by decide +kernel
theorem d_Ta_openTuples_80 : decode b_Ta_openTuples 80 = .ok (.iinc 3 1, 3) := by decide +kernel
theorem d_Ta_openTuples_83 : decode b_Ta_openTuples 83 = .ok (.goto (-72), 3) := by decide +kernel
theorem d_Ta_openTuples_86 : decode b_Ta_openTuples 86 = .ok (.iload_n 2, 1) := by decide +kernel
theorem d_Ta_openTuples_87 : decode b_Ta_openTuples 87 = .ok (.ireturn, 1) := by decide +kernel
theorem d_TC_takeNotKept_0 : decode b_TC_takeNotKept 0 = .ok (.iconst 0, 1) := by decide +kernel
theorem d_TC_takeNotKept_1 : decode b_TC_takeNotKept 1 = .ok (.istore 4, 2) := by decide +kernel
theorem d_TC_takeNotKept_3 : decode b_TC_takeNotKept 3 = .ok (.iconst 0, 1) := by decide +kernel
theorem d_TC_takeNotKept_4 : decode b_TC_takeNotKept 4 = .ok (.istore 5, 2) := by decide +kernel
theorem d_TC_takeNotKept_6 : decode b_TC_takeNotKept 6 = .ok (.iload 5, 2) := by decide +kernel
theorem d_TC_takeNotKept_8 : decode b_TC_takeNotKept 8 = .ok (.aload_n 1, 1) := by decide +kernel
theorem d_TC_takeNotKept_9 : decode b_TC_takeNotKept 9 = .ok (.getfield 161, 3) := by decide +kernel
theorem d_TC_takeNotKept_12 : decode b_TC_takeNotKept 12 = .ok (.if_icmp .ge 62, 3) := by decide +kernel
theorem d_TC_takeNotKept_15 : decode b_TC_takeNotKept 15 = .ok (.iload 5, 2) := by decide +kernel
theorem d_TC_takeNotKept_17 : decode b_TC_takeNotKept 17 = .ok (.bipush 6, 2) := by decide +kernel
theorem d_TC_takeNotKept_19 : decode b_TC_takeNotKept 19 = .ok (.if_icmp .ge 55, 3) := by decide +kernel
theorem d_TC_takeNotKept_22 : decode b_TC_takeNotKept 22 = .ok (.aload_n 1, 1) := by decide +kernel
theorem d_TC_takeNotKept_23 : decode b_TC_takeNotKept 23 = .ok (.getfield 168, 3) := by decide +kernel
theorem d_TC_takeNotKept_26 : decode b_TC_takeNotKept 26 = .ok (.iload 5, 2) := by decide +kernel
theorem d_TC_takeNotKept_28 : decode b_TC_takeNotKept 28 = .ok (.invokestatic 198, 3) := by decide +kernel
theorem d_TC_takeNotKept_31 : decode b_TC_takeNotKept 31 = .ok (.istore 6, 2) := by decide +kernel
theorem d_TC_takeNotKept_33 : decode b_TC_takeNotKept 33 = .ok (.aload_n 0, 1) := by decide +kernel
theorem d_TC_takeNotKept_34 : decode b_TC_takeNotKept 34 = .ok (.iload 6, 2) := by decide +kernel
theorem d_TC_takeNotKept_36 : decode b_TC_takeNotKept 36 = .ok (.invokevirtual 129, 3) := by decide +kernel
theorem d_TC_takeNotKept_39 : decode b_TC_takeNotKept 39 = .ok (.ifCond .eq 29, 3) := by decide +kernel
theorem d_TC_takeNotKept_42 : decode b_TC_takeNotKept 42 = .ok (.iload 4, 2) := by decide +kernel
theorem d_TC_takeNotKept_44 : decode b_TC_takeNotKept 44 = .ok (.aload_n 0, 1) := by decide +kernel
theorem d_TC_takeNotKept_45 : decode b_TC_takeNotKept 45 = .ok (.getfield 10, 3) := by decide +kernel
theorem d_TC_takeNotKept_48 : decode b_TC_takeNotKept 48 = .ok (.iload 6, 2) := by decide +kernel
theorem d_TC_takeNotKept_50 : decode b_TC_takeNotKept 50 = .ok (.aload_n 0, 1) := by decide +kernel
theorem d_TC_takeNotKept_51 : decode b_TC_takeNotKept 51 = .ok (.getfield 29, 3) := by decide +kernel
theorem d_TC_takeNotKept_54 : decode b_TC_takeNotKept 54 = .ok (.getfield 202, 3) := by decide +kernel
theorem d_TC_takeNotKept_57 : decode b_TC_takeNotKept 57 = .ok (.iload 5, 2) := by decide +kernel
theorem d_TC_takeNotKept_59 : decode b_TC_takeNotKept 59 = .ok (.iaload, 1) := by decide +kernel
theorem d_TC_takeNotKept_60 : decode b_TC_takeNotKept 60 = .ok (.iload_n 2, 1) := by decide +kernel
theorem d_TC_takeNotKept_61 : decode b_TC_takeNotKept 61 = .ok (.iload_n 3, 1) := by decide +kernel
theorem d_TC_takeNotKept_62 : decode b_TC_takeNotKept 62 = .ok (.invokevirtual 132, 3) := by decide +kernel
theorem d_TC_takeNotKept_65 : decode b_TC_takeNotKept 65 = .ok (.iadd, 1) := by decide +kernel
theorem d_TC_takeNotKept_66 : decode b_TC_takeNotKept 66 = .ok (.istore 4, 2) := by decide +kernel
theorem d_TC_takeNotKept_68 : decode b_TC_takeNotKept 68 = .ok (.iinc 5 1, 3) := by decide +kernel
theorem d_TC_takeNotKept_71 : decode b_TC_takeNotKept 71 = .ok (.goto (-65), 3) := by decide +kernel
theorem d_TC_takeNotKept_74 : decode b_TC_takeNotKept 74 = .ok (.iload 4, 2) := by decide +kernel
theorem d_TC_takeNotKept_76 : decode b_TC_takeNotKept 76 = .ok (.ireturn, 1) := by decide +kernel
theorem d_TC_mark_0 : decode b_TC_mark 0 = .ok (.aload_n 0, 1) := by decide +kernel
theorem d_TC_mark_1 : decode b_TC_mark 1 = .ok (.aload_n 0, 1) := by decide +kernel
theorem d_TC_mark_2 : decode b_TC_mark 2 = .ok (.getfield 47, 3) := by decide +kernel
theorem d_TC_mark_5 : decode b_TC_mark 5 = .ok (.invokevirtual 147, 3) := by decide +kernel
theorem d_TC_mark_8 : decode b_TC_mark 8 = .ok (.astore_n 1, 1) := by decide +kernel
theorem d_TC_mark_9 : decode b_TC_mark 9 = .ok (.aload_n 1, 1) := by decide +kernel
theorem d_TC_mark_10 : decode b_TC_mark 10 = .ok (.ifnonnull 6, 3) := by decide +kernel
theorem d_TC_mark_13 : decode b_TC_mark 13 = .ok (.bipush (-3), 2) := by decide +kernel
theorem d_TC_mark_15 : decode b_TC_mark 15 = .ok (.ireturn, 1) := by decide +kernel
theorem d_TC_mark_16 : decode b_TC_mark 16 = .ok (.aload_n 1, 1) := by decide +kernel
theorem d_TC_mark_17 : decode b_TC_mark 17 = .ok (.aload_n 0, 1) := by decide +kernel
theorem d_TC_mark_18 : decode b_TC_mark 18 = .ok (.getfield 10, 3) := by decide +kernel
theorem d_TC_mark_21 : decode b_TC_mark 21 = .ok (.invokevirtual 151, 3) := by decide +kernel
theorem d_TC_mark_24 : decode b_TC_mark 24 = .ok (.aload_n 0, 1) := by decide +kernel
theorem d_TC_mark_25 : decode b_TC_mark 25 = .ok (.dup, 1) := by decide +kernel
theorem d_TC_mark_26 : decode b_TC_mark 26 = .ok (.getfield 47, 3) := by decide +kernel
theorem d_TC_mark_29 : decode b_TC_mark 29 = .ok (.iconst 1, 1) := by decide +kernel
theorem d_TC_mark_30 : decode b_TC_mark 30 = .ok (.iadd, 1) := by decide +kernel
theorem d_TC_mark_31 : decode b_TC_mark 31 = .ok (.putfield 47, 3) := by decide +kernel
theorem d_TC_mark_34 : decode b_TC_mark 34 = .ok (.aload_n 0, 1) := by decide +kernel
theorem d_TC_mark_35 : decode b_TC_mark 35 = .ok (.getfield 47, 3) := by decide +kernel
theorem d_TC_mark_38 : decode b_TC_mark 38 = .ok (.ireturn, 1) := by decide +kernel
theorem d_TC_markAt_0 : decode b_TC_markAt 0 = .ok (.iload_n 1, 1) := by decide +kernel
theorem d_TC_markAt_1 : decode b_TC_markAt 1 = .ok (.iconst 0, 1) := by decide +kernel
theorem d_TC_markAt_2 : decode b_TC_markAt 2 = .ok (.bipush 7, 2) := by decide +kernel
theorem d_TC_markAt_4 : decode b_TC_markAt 4 = .ok (.invokestatic 53, 3) := by decide +kernel
theorem d_TC_markAt_7 : decode b_TC_markAt 7 = .ok (.ifCond .eq 12, 3) := by decide +kernel
theorem d_TC_markAt_10 : decode b_TC_markAt 10 = .ok (.aload_n 0, 1) := by decide +kernel
theorem d_TC_markAt_11 : decode b_TC_markAt 11 = .ok (.getfield 16, 3) := by decide +kernel
theorem d_TC_markAt_14 : decode b_TC_markAt 14 = .ok (.iload_n 1, 1) := by decide +kernel
theorem d_TC_markAt_15 : decode b_TC_markAt 15 = .ok (.aaload, 1) := by decide +kernel
theorem d_TC_markAt_16 : decode b_TC_markAt 16 = .ok (.goto 4, 3) := by decide +kernel
theorem d_TC_markAt_19 : decode b_TC_markAt 19 = .ok (.aconst_null, 1) := by decide +kernel
theorem d_TC_markAt_20 : decode b_TC_markAt 20 = .ok (.areturn, 1) := by decide +kernel
theorem d_Ch_copy_0 : decode b_Ch_copy 0 = .ok (.aload_n 1, 1) := by decide +kernel
theorem d_Ch_copy_1 : decode b_Ch_copy 1 = .ok (.getfield 9, 3) := by decide +kernel
theorem d_Ch_copy_4 : decode b_Ch_copy 4 = .ok (.iconst 0, 1) := by decide +kernel
theorem d_Ch_copy_5 : decode b_Ch_copy 5 = .ok (.aload_n 0, 1) := by decide +kernel
theorem d_Ch_copy_6 : decode b_Ch_copy 6 = .ok (.getfield 9, 3) := by decide +kernel
theorem d_Ch_copy_9 : decode b_Ch_copy 9 = .ok (.iconst 0, 1) := by decide +kernel
theorem d_Ch_copy_10 : decode b_Ch_copy 10 = .ok (.bipush 6, 2) := by decide +kernel
theorem d_Ch_copy_12 : decode b_Ch_copy 12 = .ok (.invokestatic 21, 3) := by decide +kernel
theorem d_Ch_copy_15 : decode b_Ch_copy 15 = .ok (.aload_n 1, 1) := by decide +kernel
theorem d_Ch_copy_16 : decode b_Ch_copy 16 = .ok (.getfield 15, 3) := by decide +kernel
theorem d_Ch_copy_19 : decode b_Ch_copy 19 = .ok (.iconst 0, 1) := by decide +kernel
theorem d_Ch_copy_20 : decode b_Ch_copy 20 = .ok (.aload_n 0, 1) := by decide +kernel
theorem d_Ch_copy_21 : decode b_Ch_copy 21 = .ok (.getfield 15, 3) := by decide +kernel
theorem d_Ch_copy_24 : decode b_Ch_copy 24 = .ok (.iconst 0, 1) := by decide +kernel
theorem d_Ch_copy_25 : decode b_Ch_copy 25 = .ok (.bipush 36, 2) := by decide +kernel
theorem d_Ch_copy_27 : decode b_Ch_copy 27 = .ok (.invokestatic 21, 3) := by decide +kernel
theorem d_Ch_copy_30 : decode b_Ch_copy 30 = .ok (.aload_n 1, 1) := by decide +kernel
theorem d_Ch_copy_31 : decode b_Ch_copy 31 = .ok (.getfield 18, 3) := by decide +kernel
theorem d_Ch_copy_34 : decode b_Ch_copy 34 = .ok (.iconst 0, 1) := by decide +kernel
theorem d_Ch_copy_35 : decode b_Ch_copy 35 = .ok (.aload_n 0, 1) := by decide +kernel
theorem d_Ch_copy_36 : decode b_Ch_copy 36 = .ok (.getfield 18, 3) := by decide +kernel
theorem d_Ch_copy_39 : decode b_Ch_copy 39 = .ok (.iconst 0, 1) := by decide +kernel
theorem d_Ch_copy_40 : decode b_Ch_copy 40 = .ok (.bipush 36, 2) := by decide +kernel
theorem d_Ch_copy_42 : decode b_Ch_copy 42 = .ok (.invokestatic 21, 3) := by decide +kernel
theorem d_Ch_copy_45 : decode b_Ch_copy 45 = .ok (.return_, 1) := by decide +kernel
theorem d_TC_back_0 : decode b_TC_back 0 = .ok (.aload_n 0, 1) := by decide +kernel
theorem d_TC_back_1 : decode b_TC_back 1 = .ok (.aload_n 0, 1) := by decide +kernel
theorem d_TC_back_2 : decode b_TC_back 2 = .ok (.getfield 47, 3) := by decide +kernel
theorem d_TC_back_5 : decode b_TC_back 5 = .ok (.iconst 1, 1) := by decide +kernel
theorem d_TC_back_6 : decode b_TC_back 6 = .ok (.isub, 1) := by decide +kernel
theorem d_TC_back_7 : decode b_TC_back 7 = .ok (.invokevirtual 147, 3) := by decide +kernel
theorem d_TC_back_10 : decode b_TC_back 10 = .ok (.astore_n 1, 1) := by decide +kernel
theorem d_TC_back_11 : decode b_TC_back 11 = .ok (.aload_n 1, 1) := by decide +kernel
theorem d_TC_back_12 : decode b_TC_back 12 = .ok (.ifnonnull 5, 3) := by decide +kernel
theorem d_TC_back_15 : decode b_TC_back 15 = .ok (.iconst (-1), 1) := by decide +kernel
theorem d_TC_back_16 : decode b_TC_back 16 = .ok (.ireturn, 1) := by decide +kernel
theorem d_TC_back_17 : decode b_TC_back 17 = .ok (.aload_n 0, 1) := by decide +kernel
theorem d_TC_back_18 : decode b_TC_back 18 = .ok (.getfield 10, 3) := by decide +kernel
theorem d_TC_back_21 : decode b_TC_back 21 = .ok (.aload_n 1, 1) := by decide +kernel
theorem d_TC_back_22 : decode b_TC_back 22 = .ok (.invokevirtual 151, 3) := by decide +kernel
theorem d_TC_back_25 : decode b_TC_back 25 = .ok (.aload_n 0, 1) := by decide +kernel
theorem d_TC_back_26 : decode b_TC_back 26 = .ok (.dup, 1) := by decide +kernel
theorem d_TC_back_27 : decode b_TC_back 27 = .ok (.getfield 47, 3) := by decide +kernel
theorem d_TC_back_30 : decode b_TC_back 30 = .ok (.iconst 1, 1) := by decide +kernel
theorem d_TC_back_31 : decode b_TC_back 31 = .ok (.isub, 1) := by decide +kernel
theorem d_TC_back_32 : decode b_TC_back 32 = .ok (.putfield 47, 3) := by decide +kernel
theorem d_TC_back_35 : decode b_TC_back 35 = .ok (.aload_n 0, 1) := by decide +kernel
theorem d_TC_back_36 : decode b_TC_back 36 = .ok (.getfield 47, 3) := by decide +kernel
theorem d_TC_back_39 : decode b_TC_back 39 = .ok (.ireturn, 1) := by decide +kernel
theorem d_TC_domain_0 : decode b_TC_domain 0 = .ok (.aload_n 0, 1) := by decide +kernel
theorem d_TC_domain_1 : decode b_TC_domain 1 = .ok (.iload_n 1, 1) := by decide +kernel
theorem d_TC_domain_2 : decode b_TC_domain 2 = .ok (.invokevirtual 129, 3) := by decide +kernel
theorem d_TC_domain_5 : decode b_TC_domain 5 = .ok (.ifCond .eq 15, 3) := by decide +kernel
theorem d_TC_domain_8 : decode b_TC_domain 8 = .ok (.aload_n 0, 1) := by decide +kernel
theorem d_TC_domain_9 : decode b_TC_domain 9 = .ok (.getfield 10, 3) := by decide +kernel
theorem d_TC_domain_12 : decode b_TC_domain 12 = .ok (.getfield 41, 3) := by decide +kernel
theorem d_TC_domain_15 : decode b_TC_domain 15 = .ok (.iload_n 1, 1) := by decide +kernel
theorem d_TC_domain_16 : decode b_TC_domain 16 = .ok (.iaload, 1) := by decide +kernel
theorem d_TC_domain_17 : decode b_TC_domain 17 = .ok (.goto 5, 3) := by decide +kernel
theorem d_TC_domain_20 : decode b_TC_domain 20 = .ok (.bipush (-2), 2) := by decide +kernel
theorem d_TC_domain_22 : decode b_TC_domain 22 = .ok (.ireturn, 1) := by decide +kernel
theorem d_TC_why_0 : decode b_TC_why 0 = .ok (.aload_n 0, 1) := by decide +kernel
theorem d_TC_why_1 : decode b_TC_why 1 = .ok (.iload_n 1, 1) := by decide +kernel
theorem d_TC_why_2 : decode b_TC_why 2 = .ok (.invokevirtual 129, 3) := by decide +kernel
theorem d_TC_why_5 : decode b_TC_why 5 = .ok (.ifCond .eq 19, 3) := by decide +kernel
theorem d_TC_why_8 : decode b_TC_why 8 = .ok (.iload_n 2, 1) := by decide +kernel
theorem d_TC_why_9 : decode b_TC_why 9 = .ok (.invokestatic 101, 3) := by decide +kernel
theorem d_TC_why_12 : decode b_TC_why 12 = .ok (.ifCond .eq 12, 3) := by decide +kernel
theorem d_TC_why_15 : decode b_TC_why 15 = .ok (.iload_n 3, 1) := by decide +kernel
theorem d_TC_why_16 : decode b_TC_why 16 = .ok (.iconst 0, 1) := by decide +kernel
theorem d_TC_why_17 : decode b_TC_why 17 = .ok (.iconst 1, 1) := by decide +kernel
theorem d_TC_why_18 : decode b_TC_why 18 = .ok (.invokestatic 53, 3) := by decide +kernel
theorem d_TC_why_21 : decode b_TC_why 21 = .ok (.ifCond .ne 6, 3) := by decide +kernel
theorem d_TC_why_24 : decode b_TC_why 24 = .ok (.bipush (-2), 2) := by decide +kernel
theorem d_TC_why_26 : decode b_TC_why 26 = .ok (.ireturn, 1) := by decide +kernel
theorem d_TC_why_27 : decode b_TC_why 27 = .ok (.iload_n 1, 1) := by decide +kernel
theorem d_TC_why_28 : decode b_TC_why 28 = .ok (.bipush 6, 2) := by decide +kernel
theorem d_TC_why_30 : decode b_TC_why 30 = .ok (.imul, 1) := by decide +kernel
theorem d_TC_why_31 : decode b_TC_why 31 = .ok (.iload_n 2, 1) := by decide +kernel
theorem d_TC_why_32 : decode b_TC_why 32 = .ok (.iadd, 1) := by decide +kernel
theorem d_TC_why_33 : decode b_TC_why 33 = .ok (.istore 4, 2) := by decide +kernel
theorem d_TC_why_35 : decode b_TC_why 35 = .ok (.iload_n 3, 1) := by decide +kernel
theorem d_TC_why_36 : decode b_TC_why 36 = .ok (.ifCond .ne 16, 3) := by decide +kernel
theorem d_TC_why_39 : decode b_TC_why 39 = .ok (.aload_n 0, 1) := by decide +kernel
theorem d_TC_why_40 : decode b_TC_why 40 = .ok (.getfield 10, 3) := by decide +kernel
theorem d_TC_why_43 : decode b_TC_why 43 = .ok (.getfield 155, 3) := by decide +kernel
theorem d_TC_why_46 : decode b_TC_why 46 = .ok (.iload 4, 2) := by decide +kernel
theorem d_TC_why_48 : decode b_TC_why 48 = .ok (.iaload, 1) := by decide +kernel
theorem d_TC_why_49 : decode b_TC_why 49 = .ok (.goto 13, 3) := by decide +kernel
theorem d_TC_why_52 : decode b_TC_why 52 = .ok (.aload_n 0, 1) := by decide +kernel
theorem d_TC_why_53 : decode b_TC_why 53 = .ok (.getfield 10, 3) := by decide +kernel
theorem d_TC_why_56 : decode b_TC_why 56 = .ok (.getfield 158, 3) := by decide +kernel
theorem d_TC_why_59 : decode b_TC_why 59 = .ok (.iload 4, 2) := by decide +kernel
theorem d_TC_why_61 : decode b_TC_why 61 = .ok (.iaload, 1) := by decide +kernel
theorem d_TC_why_62 : decode b_TC_why 62 = .ok (.ireturn, 1) := by decide +kernel
theorem d_TC_allows_0 : decode b_TC_allows 0 = .ok (.aload_n 0, 1) := by decide +kernel
theorem d_TC_allows_1 : decode b_TC_allows 1 = .ok (.iload_n 1, 1) := by decide +kernel
theorem d_TC_allows_2 : decode b_TC_allows 2 = .ok (.invokevirtual 77, 3) := by decide +kernel
theorem d_TC_allows_5 : decode b_TC_allows 5 = .ok (.astore_n 3, 1) := by decide +kernel
theorem d_TC_allows_6 : decode b_TC_allows 6 = .ok (.aload_n 3, 1) := by decide +kernel
theorem d_TC_allows_7 : decode b_TC_allows 7 = .ok (.ifnull 15, 3) := by decide +kernel
theorem d_TC_allows_10 : decode b_TC_allows 10 = .ok (.aload_n 3, 1) := by decide +kernel
theorem d_TC_allows_11 : decode b_TC_allows 11 = .ok (.getfield 161, 3) := by decide +kernel
theorem d_TC_allows_14 : decode b_TC_allows 14 = .ok (.iload_n 2, 1) := by decide +kernel
theorem d_TC_allows_15 : decode b_TC_allows 15 = .ok (.iconst 0, 1) := by decide +kernel
theorem d_TC_allows_16 : decode b_TC_allows 16 = .ok (.invokestatic 84, 3) := by decide +kernel
theorem d_TC_allows_19 : decode b_TC_allows 19 = .ok (.ifCond .ne 6, 3) := by decide +kernel
theorem d_TC_allows_22 : decode b_TC_allows 22 = .ok (.bipush (-2), 2) := by decide +kernel
theorem d_TC_allows_24 : decode b_TC_allows 24 = .ok (.ireturn, 1) := by decide +kernel
theorem d_TC_allows_25 : decode b_TC_allows 25 = .ok (.aload_n 0, 1) := by decide +kernel
theorem d_TC_allows_26 : decode b_TC_allows 26 = .ok (.getfield 29, 3) := by decide +kernel
theorem d_TC_allows_29 : decode b_TC_allows 29 = .ok (.aload_n 3, 1) := by decide +kernel
theorem d_TC_allows_30 : decode b_TC_allows 30 = .ok (.getfield 161, 3) := by decide +kernel
theorem d_TC_allows_33 : decode b_TC_allows 33 = .ok (.iload_n 2, 1) := by decide +kernel
theorem d_TC_allows_34 : decode b_TC_allows 34 = .ok (.invokevirtual 162, 3) := by decide +kernel
theorem d_TC_allows_37 : decode b_TC_allows 37 = .ok (.aload_n 3, 1) := by decide +kernel
theorem d_TC_allows_38 : decode b_TC_allows 38 = .ok (.aload_n 0, 1) := by decide +kernel
theorem d_TC_allows_39 : decode b_TC_allows 39 = .ok (.getfield 29, 3) := by decide +kernel
theorem d_TC_allows_42 : decode b_TC_allows 42 = .ok (.invokevirtual 139, 3) := by decide +kernel
theorem d_TC_allows_45 : decode b_TC_allows 45 = .ok (.ifCond .eq 7, 3) := by decide +kernel
theorem d_TC_allows_48 : decode b_TC_allows 48 = .ok (.iconst 1, 1) := by decide +kernel
theorem d_TC_allows_49 : decode b_TC_allows 49 = .ok (.goto 4, 3) := by decide +kernel
theorem d_TC_allows_52 : decode b_TC_allows 52 = .ok (.iconst 0, 1) := by decide +kernel
theorem d_TC_allows_53 : decode b_TC_allows 53 = .ok (.ireturn, 1) := by decide +kernel
theorem d_Pl_layWord_0 : decode b_Pl_layWord 0 = .ok (.iconst 0, 1) := by decide +kernel
theorem d_Pl_layWord_1 : decode b_Pl_layWord 1 = .ok (.istore_n 3, 1) := by decide +kernel
theorem d_Pl_layWord_2 : decode b_Pl_layWord 2 = .ok (.iload_n 3, 1) := by decide +kernel
theorem d_Pl_layWord_3 : decode b_Pl_layWord 3 = .ok (.iload_n 1, 1) := by decide +kernel
theorem d_Pl_layWord_4 : decode b_Pl_layWord 4 = .ok (.if_icmp .ge 35, 3) := by decide +kernel
theorem d_Pl_layWord_7 : decode b_Pl_layWord 7 = .ok (.iload_n 3, 1) := by decide +kernel
theorem d_Pl_layWord_8 : decode b_Pl_layWord 8 = .ok (.bipush 6, 2) := by decide +kernel
theorem d_Pl_layWord_10 : decode b_Pl_layWord 10 = .ok (.if_icmp .ge 29, 3) := by decide +kernel
theorem d_Pl_layWord_13 : decode b_Pl_layWord 13 = .ok (.aload_n 0, 1) := by decide +kernel
theorem d_Pl_layWord_14 : decode b_Pl_layWord 14 = .ok (.getfield 9, 3) := by decide +kernel
theorem d_Pl_layWord_17 : decode b_Pl_layWord 17 = .ok (.iload_n 3, 1) := by decide +kernel
theorem d_Pl_layWord_18 : decode b_Pl_layWord 18 = .ok (.iconst 1, 1) := by decide +kernel
theorem d_Pl_layWord_19 : decode b_Pl_layWord 19 = .ok (.iload_n 2, 1) := by decide +kernel
theorem d_Pl_layWord_20 : decode b_Pl_layWord 20 = .ok (.iload_n 3, 1) := by decide +kernel
theorem d_Pl_layWord_21 : decode b_Pl_layWord 21 = .ok (.invokestatic 30, 3) := by decide +kernel
theorem d_Pl_layWord_24 : decode b_Pl_layWord 24 = .ok (.ishl, 1) := by decide +kernel
theorem d_Pl_layWord_25 : decode b_Pl_layWord 25 = .ok (.iastore, 1) := by decide +kernel
theorem d_Pl_layWord_26 : decode b_Pl_layWord 26 = .ok (.aload_n 0, 1) := by decide +kernel
theorem d_Pl_layWord_27 : decode b_Pl_layWord 27 = .ok (.getfield 15, 3) := by decide +kernel
theorem d_Pl_layWord_30 : decode b_Pl_layWord 30 = .ok (.iload_n 3, 1) := by decide +kernel
theorem d_Pl_layWord_31 : decode b_Pl_layWord 31 = .ok (.iconst 0, 1) := by decide +kernel
theorem d_Pl_layWord_32 : decode b_Pl_layWord 32 = .ok (.iastore, 1) := by decide +kernel
theorem d_Pl_layWord_33 : decode b_Pl_layWord 33 = .ok (.iinc 3 1, 3) := by decide +kernel
theorem d_Pl_layWord_36 : decode b_Pl_layWord 36 = .ok (.goto (-34), 3) := by decide +kernel
theorem d_Pl_layWord_39 : decode b_Pl_layWord 39 = .ok (.return_, 1) := by decide +kernel
theorem d_TC_told_0 : decode b_TC_told 0 = .ok (.aload_n 0, 1) := by decide +kernel
theorem d_TC_told_1 : decode b_TC_told 1 = .ok (.iload_n 1, 1) := by decide +kernel
theorem d_TC_told_2 : decode b_TC_told 2 = .ok (.invokevirtual 77, 3) := by decide +kernel
theorem d_TC_told_5 : decode b_TC_told 5 = .ok (.astore_n 3, 1) := by decide +kernel
theorem d_TC_told_6 : decode b_TC_told 6 = .ok (.aload_n 3, 1) := by decide +kernel
theorem d_TC_told_7 : decode b_TC_told 7 = .ok (.ifnonnull 6, 3) := by decide +kernel
theorem d_TC_told_10 : decode b_TC_told 10 = .ok (.bipush (-2), 2) := by decide +kernel
theorem d_TC_told_12 : decode b_TC_told 12 = .ok (.ireturn, 1) := by decide +kernel
theorem d_TC_told_13 : decode b_TC_told 13 = .ok (.iload_n 2, 1) := by decide +kernel
theorem d_TC_told_14 : decode b_TC_told 14 = .ok (.tableswitch 78 0 4 #[34, 39, 44, 49, 54], 34) := by decide +kernel
theorem d_TC_told_48 : decode b_TC_told 48 = .ok (.aload_n 3, 1) := by decide +kernel
theorem d_TC_told_49 : decode b_TC_told 49 = .ok (.getfield 165, 3) := by decide +kernel
theorem d_TC_told_52 : decode b_TC_told 52 = .ok (.ireturn, 1) := by decide +kernel
theorem d_TC_told_53 : decode b_TC_told 53 = .ok (.aload_n 3, 1) := by decide +kernel
theorem d_TC_told_54 : decode b_TC_told 54 = .ok (.getfield 161, 3) := by decide +kernel
theorem d_TC_told_57 : decode b_TC_told 57 = .ok (.ireturn, 1) := by decide +kernel
theorem d_TC_told_58 : decode b_TC_told 58 = .ok (.aload_n 3, 1) := by decide +kernel
theorem d_TC_told_59 : decode b_TC_told 59 = .ok (.getfield 168, 3) := by decide +kernel
theorem d_TC_told_62 : decode b_TC_told 62 = .ok (.ireturn, 1) := by decide +kernel
theorem d_TC_told_63 : decode b_TC_told 63 = .ok (.aload_n 3, 1) := by decide +kernel
theorem d_TC_told_64 : decode b_TC_told 64 = .ok (.invokevirtual 171, 3) := by decide +kernel
theorem d_TC_told_67 : decode b_TC_told 67 = .ok (.ireturn, 1) := by decide +kernel
theorem d_TC_told_68 : decode b_TC_told 68 = .ok (.aload_n 3, 1) := by decide +kernel
theorem d_TC_told_69 : decode b_TC_told 69 = .ok (.aload_n 0, 1) := by decide +kernel
theorem d_TC_told_70 : decode b_TC_told 70 = .ok (.getfield 10, 3) := by decide +kernel
theorem d_TC_told_73 : decode b_TC_told 73 = .ok (.getfield 41, 3) := by decide +kernel
theorem d_TC_told_76 : decode b_TC_told 76 = .ok (.aload_n 0, 1) := by decide +kernel
theorem d_TC_told_77 : decode b_TC_told 77 = .ok (.getfield 29, 3) := by decide +kernel
theorem d_TC_told_80 : decode b_TC_told 80 = .ok (.invokevirtual 135, 3) := by decide +kernel
theorem d_TC_told_83 : decode b_TC_told 83 = .ok (.aload_n 3, 1) := by decide +kernel
theorem d_TC_told_84 : decode b_TC_told 84 = .ok (.aload_n 0, 1) := by decide +kernel
theorem d_TC_told_85 : decode b_TC_told 85 = .ok (.getfield 29, 3) := by decide +kernel
theorem d_TC_told_88 : decode b_TC_told 88 = .ok (.invokevirtual 175, 3) := by decide +kernel
theorem d_TC_told_91 : decode b_TC_told 91 = .ok (.ireturn, 1) := by decide +kernel
theorem d_TC_told_92 : decode b_TC_told 92 = .ok (.bipush (-2), 2) := by decide +kernel
theorem d_TC_told_94 : decode b_TC_told 94 = .ok (.ireturn, 1) := by decide +kernel
theorem d_Ma_parts_0 : decode b_Ma_parts 0 = .ok (.aload_n 0, 1) := by decide +kernel
theorem d_Ma_parts_1 : decode b_Ma_parts 1 = .ok (.getfield 15, 3) := by decide +kernel
theorem d_Ma_parts_4 : decode b_Ma_parts 4 = .ok (.bipush 6, 2) := by decide +kernel
theorem d_Ma_parts_6 : decode b_Ma_parts 6 = .ok (.iaload, 1) := by decide +kernel
theorem d_Ma_parts_7 : decode b_Ma_parts 7 = .ok (.ireturn, 1) := by decide +kernel
theorem d_Ta_parts_0 : decode b_Ta_parts 0 = .ok (.aload_n 0, 1) := by decide +kernel
theorem d_Ta_parts_1 : decode b_Ta_parts 1 = .ok (.getfield 15, 3) := by decide +kernel
theorem d_Ta_parts_4 : decode b_Ta_parts 4 = .ok (.ireturn, 1) := by decide +kernel
theorem d_Co_parts_0 : decode b_Co_parts 0 = .ok (.iconst 0, 1) := by decide +kernel
theorem d_Co_parts_1 : decode b_Co_parts 1 = .ok (.ireturn, 1) := by decide +kernel
theorem d_Wa_openWords_0 : decode b_Wa_openWords 0 = .ok (.aload_n 1, 1) := by decide +kernel
theorem d_Wa_openWords_1 : decode b_Wa_openWords 1 = .ok (.invokevirtual 9, 3) := by decide +kernel
theorem d_Wa_openWords_4 : decode b_Wa_openWords 4 = .ok (.aload_n 0, 1) := by decide +kernel
theorem d_Wa_openWords_5 : decode b_Wa_openWords 5 = .ok (.iconst 0, 1) := by decide +kernel
theorem d_Wa_openWords_6 : decode b_Wa_openWords 6 = .ok (.iconst 0, 1) := by decide +kernel
theorem d_Wa_openWords_7 : decode b_Wa_openWords 7 = .ok (.aload_n 1, 1) := by decide +kernel
theorem d_Wa_openWords_8 : decode b_Wa_openWords 8 = .ok (.invokevirtual 15, 3) := by decide +kernel
theorem d_Wa_openWords_11 : decode b_Wa_openWords 11 = .ok (.ireturn, 1) := by decide +kernel
theorem d_Ma_openWords_0 : decode b_Ma_openWords 0 = .ok (.aload_n 0, 1) := by decide +kernel
theorem d_Ma_openWords_1 : decode b_Ma_openWords 1 = .ok (.aload_n 1, 1) := by decide +kernel
theorem d_Ma_openWords_2 : decode b_Ma_openWords 2 = .ok (.invokevirtual 29, 3) := by decide +kernel
theorem d_Ma_openWords_5 : decode b_Ma_openWords 5 = .ok (.iconst (-1), 1) := by decide +kernel
theorem d_Ma_openWords_6 : decode b_Ma_openWords 6 = .ok (.if_icmp .ne 5, 3) := by decide +kernel
theorem d_Ma_openWords_9 : decode b_Ma_openWords 9 = .ok (.iconst 0, 1) := by decide +kernel
theorem d_Ma_openWords_10 : decode b_Ma_openWords 10 = .ok (.ireturn, 1) := by decide +kernel
theorem d_Ma_openWords_11 : decode b_Ma_openWords 11 = .ok (.aload_n 0, 1) := by decide +kernel
theorem d_Ma_openWords_12 : decode b_Ma_openWords 12 = .ok (.aload_n 1, 1) := by decide +kernel
theorem d_Ma_openWords_13 : decode b_Ma_openWords 13 = .ok (.invokevirtual 33, 3) := by decide +kernel
theorem d_Ma_openWords_16 : decode b_Ma_openWords 16 = .ok (.aload_n 0, 1) := by decide +kernel
theorem d_Ma_openWords_17 : decode b_Ma_openWords 17 = .ok (.iconst 0, 1) := by decide +kernel
theorem d_Ma_openWords_18 : decode b_Ma_openWords 18 = .ok (.aload_n 1, 1) := by decide +kernel
theorem d_Ma_openWords_19 : decode b_Ma_openWords 19 = .ok (.invokevirtual 63, 3) := by decide +kernel
theorem d_Ma_openWords_22 : decode b_Ma_openWords 22 = .ok (.ireturn, 1) := by decide +kernel
theorem d_Ma_wordsFrom_0 : decode b_Ma_wordsFrom 0 = .ok (.iload_n 1, 1) := by decide +kernel
theorem d_Ma_wordsFrom_1 : decode b_Ma_wordsFrom 1 = .ok (.ifCond .lt 17, 3) := by decide +kernel
theorem d_Ma_wordsFrom_4 : decode b_Ma_wordsFrom 4 = .ok (.iload_n 1, 1) := by decide +kernel
theorem d_Ma_wordsFrom_5 : decode b_Ma_wordsFrom 5 = .ok (.aload_n 0, 1) := by decide +kernel
theorem d_Ma_wordsFrom_6 : decode b_Ma_wordsFrom 6 = .ok (.getfield 37, 3) := by decide +kernel
theorem d_Ma_wordsFrom_9 : decode b_Ma_wordsFrom 9 = .ok (.if_icmp .ge 9, 3) := by decide +kernel
theorem d_Ma_wordsFrom_12 : decode b_Ma_wordsFrom 12 = .ok (.iload_n 1, 1) := by decide +kernel
theorem d_Ma_wordsFrom_13 : decode b_Ma_wordsFrom 13 = .ok (.bipush 6, 2) := by decide +kernel
theorem d_Ma_wordsFrom_15 : decode b_Ma_wordsFrom 15 = .ok (.if_icmp .lt 5, 3) := by decide +kernel
theorem d_Ma_wordsFrom_18 : decode b_Ma_wordsFrom 18 = .ok (.iconst 1, 1) := by decide +kernel
theorem d_Ma_wordsFrom_19 : decode b_Ma_wordsFrom 19 = .ok (.ireturn, 1) := by decide +kernel
theorem d_Ma_wordsFrom_20 : decode b_Ma_wordsFrom 20 = .ok (.iconst 0, 1) := by decide +kernel
theorem d_Ma_wordsFrom_21 : decode b_Ma_wordsFrom 21 = .ok (.istore_n 3, 1) := by decide +kernel
theorem d_Ma_wordsFrom_22 : decode b_Ma_wordsFrom 22 = .ok (.iconst 0, 1) := by decide +kernel
theorem d_Ma_wordsFrom_23 : decode b_Ma_wordsFrom 23 = .ok (.istore 4, 2) := by decide +kernel
theorem d_Ma_wordsFrom_25 : decode b_Ma_wordsFrom 25 = .ok (.iload 4, 2) := by decide +kernel
theorem d_Ma_wordsFrom_27 : decode b_Ma_wordsFrom 27 = .ok (.bipush 6, 2) := by decide +kernel
theorem d_Ma_wordsFrom_29 : decode b_Ma_wordsFrom 29 = .ok (.if_icmp .ge 59, 3) := by decide +kernel
theorem d_Ma_wordsFrom_32 : decode b_Ma_wordsFrom 32 = .ok (.aload_n 2, 1) := by decide +kernel
theorem d_Ma_wordsFrom_33 : decode b_Ma_wordsFrom 33 = .ok (.getfield 49, 3) := by decide +kernel
theorem d_Ma_wordsFrom_36 : decode b_Ma_wordsFrom 36 = .ok (.iload_n 1, 1) := by decide +kernel
theorem d_Ma_wordsFrom_37 : decode b_Ma_wordsFrom 37 = .ok (.iaload, 1) := by decide +kernel
theorem d_Ma_wordsFrom_38 : decode b_Ma_wordsFrom 38 = .ok (.iload 4, 2) := by decide +kernel
theorem d_Ma_wordsFrom_40 : decode b_Ma_wordsFrom 40 = .ok (.invokestatic 52, 3) := by decide +kernel
theorem d_Ma_wordsFrom_43 : decode b_Ma_wordsFrom 43 = .ok (.ifCond .eq 39, 3) := by decide +kernel
theorem d_Ma_wordsFrom_46 : decode b_Ma_wordsFrom 46 = .ok (.aload_n 2, 1) := by decide +kernel
theorem d_Ma_wordsFrom_47 : decode b_Ma_wordsFrom 47 = .ok (.getfield 40, 3) := by decide +kernel
theorem d_Ma_wordsFrom_50 : decode b_Ma_wordsFrom 50 = .ok (.iload_n 1, 1) := by decide +kernel
theorem d_Ma_wordsFrom_51 : decode b_Ma_wordsFrom 51 = .ok (.iconst 1, 1) := by decide +kernel
theorem d_Ma_wordsFrom_52 : decode b_Ma_wordsFrom 52 = .ok (.iadd, 1) := by decide +kernel
theorem d_Ma_wordsFrom_53 : decode b_Ma_wordsFrom 53 = .ok (.invokestatic 45, 3) := by decide +kernel
theorem d_Ma_wordsFrom_56 : decode b_Ma_wordsFrom 56 = .ok (.aload_n 0, 1) := by decide +kernel
theorem d_Ma_wordsFrom_57 : decode b_Ma_wordsFrom 57 = .ok (.iload_n 1, 1) := by decide +kernel
theorem d_Ma_wordsFrom_58 : decode b_Ma_wordsFrom 58 = .ok (.iload 4, 2) := by decide +kernel
theorem d_Ma_wordsFrom_60 : decode b_Ma_wordsFrom 60 = .ok (.aload_n 2, 1) := by decide +kernel
theorem d_Ma_wordsFrom_61 : decode b_Ma_wordsFrom 61 = .ok (.invokevirtual 56, 3) := by decide +kernel
theorem d_Ma_wordsFrom_64 : decode b_Ma_wordsFrom 64 = .ok (.aload_n 0, 1) := by decide +kernel
theorem d_Ma_wordsFrom_65 : decode b_Ma_wordsFrom 65 = .ok (.getfield 22, 3) := by decide +kernel
theorem d_Ma_wordsFrom_68 : decode b_Ma_wordsFrom 68 = .ok (.if_icmp .gt 14, 3) := by decide +kernel
theorem d_Ma_wordsFrom_71 : decode b_Ma_wordsFrom 71 = .ok (.iload_n 3, 1) := by decide +kernel
theorem d_Ma_wordsFrom_72 : decode b_Ma_wordsFrom 72 = .ok (.aload_n 0, 1) := by decide +kernel
theorem d_Ma_wordsFrom_73 : decode b_Ma_wordsFrom 73 = .ok (.iload_n 1, 1) := by decide +kernel
theorem d_Ma_wordsFrom_74 : decode b_Ma_wordsFrom 74 = .ok (.iconst 1, 1) := by decide +kernel
theorem d_Ma_wordsFrom_75 : decode b_Ma_wordsFrom 75 = .ok (.iadd, 1) := by decide +kernel
theorem d_Ma_wordsFrom_76 : decode b_Ma_wordsFrom 76 = .ok (.aload_n 2, 1) := by decide +kernel
theorem d_Ma_wordsFrom_77 : decode b_Ma_wordsFrom 77 = .ok (.invokevirtual 63, 3) := by decide +kernel
theorem d_Ma_wordsFrom_80 : decode b_Ma_wordsFrom 80 = .ok (.iadd, 1) := by decide +kernel
theorem d_Ma_wordsFrom_81 : decode b_Ma_wordsFrom 81 = .ok (.istore_n 3, 1) := by decide +kernel
theorem d_Ma_wordsFrom_82 : decode b_Ma_wordsFrom 82 = .ok (.iinc 4 1, 3) := by decide +kernel
theorem d_Ma_wordsFrom_85 : decode b_Ma_wordsFrom 85 = .ok (.goto (-60), 3) := by decide +kernel
theorem d_Ma_wordsFrom_88 : decode b_Ma_wordsFrom 88 = .ok (.iload_n 3, 1) := by decide +kernel
theorem d_Ma_wordsFrom_89 : decode b_Ma_wordsFrom 89 = .ok (.ireturn, 1) := by decide +kernel
theorem d_Ta_openWords_0 : decode b_Ta_openWords 0 = .ok (.aload_n 0, 1) := by decide +kernel
theorem d_Ta_openWords_1 : decode b_Ta_openWords 1 = .ok (.iconst 0, 1) := by decide +kernel
theorem d_Ta_openWords_2 : decode b_Ta_openWords 2 = .ok (.aload_n 0, 1) := by decide +kernel
theorem d_Ta_openWords_3 : decode b_Ta_openWords 3 = .ok (.aload_n 1, 1) := by decide +kernel
theorem d_Ta_openWords_4 : decode b_Ta_openWords 4 = .ok (.invokevirtual 26, 3) := by decide +kernel
theorem d_Ta_openWords_7 : decode b_Ta_openWords 7 = .ok (.aload_n 1, 1) := by decide +kernel
theorem d_Ta_openWords_8 : decode b_Ta_openWords 8 = .ok (.invokevirtual 42, 3) := by decide +kernel
theorem d_Ta_openWords_11 : decode b_Ta_openWords 11 = .ok (.ireturn, 1) := by decide +kernel
theorem d_Ta_wordsFrom_0 : decode b_Ta_wordsFrom 0 = .ok (.iload_n 2, 1) := by decide +kernel
theorem d_Ta_wordsFrom_1 : decode b_Ta_wordsFrom 1 = .ok (.ifCond .ne 5, 3) := by decide +kernel
theorem d_Ta_wordsFrom_4 : decode b_Ta_wordsFrom 4 = .ok (.iconst 0, 1) := by decide +kernel
theorem d_Ta_wordsFrom_5 : decode b_Ta_wordsFrom 5 = .ok (.ireturn, 1) := by decide +kernel
theorem d_Ta_wordsFrom_6 : decode b_Ta_wordsFrom 6 = .ok (.iload_n 1, 1) := by decide +kernel
theorem d_Ta_wordsFrom_7 : decode b_Ta_wordsFrom 7 = .ok (.ifCond .lt 17, 3) := by decide +kernel
theorem d_Ta_wordsFrom_10 : decode b_Ta_wordsFrom 10 = .ok (.iload_n 1, 1) := by decide +kernel
theorem d_Ta_wordsFrom_11 : decode b_Ta_wordsFrom 11 = .ok (.aload_n 0, 1) := by decide +kernel
theorem d_Ta_wordsFrom_12 : decode b_Ta_wordsFrom 12 = .ok (.getfield 19, 3) := by decide +kernel
theorem d_Ta_wordsFrom_15 : decode b_Ta_wordsFrom 15 = .ok (.if_icmp .ge 9, 3) := by decide +kernel
theorem d_Ta_wordsFrom_18 : decode b_Ta_wordsFrom 18 = .ok (.iload_n 1, 1) := by decide +kernel
theorem d_Ta_wordsFrom_19 : decode b_Ta_wordsFrom 19 = .ok (.bipush 6, 2) := by decide +kernel
theorem d_Ta_wordsFrom_21 : decode b_Ta_wordsFrom 21 = .ok (.if_icmp .lt 5, 3) := by decide +kernel
theorem d_Ta_wordsFrom_24 : decode b_Ta_wordsFrom 24 = .ok (.iconst 1, 1) := by decide +kernel
theorem d_Ta_wordsFrom_25 : decode b_Ta_wordsFrom 25 = .ok (.ireturn, 1) := by decide +kernel
theorem d_Ta_wordsFrom_26 : decode b_Ta_wordsFrom 26 = .ok (.iconst 0, 1) := by decide +kernel
theorem d_Ta_wordsFrom_27 : decode b_Ta_wordsFrom 27 = .ok (.istore 4, 2) := by decide +kernel
theorem d_Ta_wordsFrom_29 : decode b_Ta_wordsFrom 29 = .ok (.iconst 0, 1) := by decide +kernel
theorem d_Ta_wordsFrom_30 : decode b_Ta_wordsFrom 30 = .ok (.istore 5, 2) := by decide +kernel
theorem d_Ta_wordsFrom_32 : decode b_Ta_wordsFrom 32 = .ok (.iload 5, 2) := by decide +kernel
theorem d_Ta_wordsFrom_34 : decode b_Ta_wordsFrom 34 = .ok (.bipush 6, 2) := by decide +kernel
theorem d_Ta_wordsFrom_36 : decode b_Ta_wordsFrom 36 = .ok (.if_icmp .ge 50, 3) := by decide +kernel
theorem d_Ta_wordsFrom_39 : decode b_Ta_wordsFrom 39 = .ok (.aload_n 3, 1) := by decide +kernel
theorem d_Ta_wordsFrom_40 : decode b_Ta_wordsFrom 40 = .ok (.getfield 30, 3) := by decide +kernel
theorem d_Ta_wordsFrom_43 : decode b_Ta_wordsFrom 43 = .ok (.iload_n 1, 1) := by decide +kernel
theorem d_Ta_wordsFrom_44 : decode b_Ta_wordsFrom 44 = .ok (.iaload, 1) := by decide +kernel
theorem d_Ta_wordsFrom_45 : decode b_Ta_wordsFrom 45 = .ok (.iload 5, 2) := by decide +kernel
theorem d_Ta_wordsFrom_47 : decode b_Ta_wordsFrom 47 = .ok (.invokestatic 35, 3) := by decide +kernel
theorem d_Ta_wordsFrom_50 : decode b_Ta_wordsFrom 50 = .ok (.ifCond .eq 30, 3) := by decide +kernel
theorem d_Ta_wordsFrom_53 : decode b_Ta_wordsFrom 53 = .ok (.iload 4, 2) := by decide +kernel
theorem d_Ta_wordsFrom_55 : decode b_Ta_wordsFrom 55 = .ok (.aload_n 0, 1) := by decide +kernel
theorem d_Ta_wordsFrom_56 : decode b_Ta_wordsFrom 56 = .ok (.iload_n 1, 1) := by decide +kernel
theorem d_Ta_wordsFrom_57 : decode b_Ta_wordsFrom 57 = .ok (.iconst 1, 1) := by decide +kernel
theorem d_Ta_wordsFrom_58 : decode b_Ta_wordsFrom 58 = .ok (.iadd, 1) := by decide +kernel
theorem d_Ta_wordsFrom_59 : decode b_Ta_wordsFrom 59 = .ok (.iload_n 2, 1) := by decide +kernel
theorem d_Ta_wordsFrom_60 : decode b_Ta_wordsFrom 60 = .ok (.aload_n 0, 1) := by decide +kernel
theorem d_Ta_wordsFrom_61 : decode b_Ta_wordsFrom 61 = .ok (.getfield 9, 3) := by decide +kernel
theorem d_Ta_wordsFrom_64 : decode b_Ta_wordsFrom 64 = .ok (.iload_n 1, 1) := by decide +kernel
theorem d_Ta_wordsFrom_65 : decode b_Ta_wordsFrom 65 = .ok (.bipush 6, 2) := by decide +kernel
theorem d_Ta_wordsFrom_67 : decode b_Ta_wordsFrom 67 = .ok (.imul, 1) := by decide +kernel
theorem d_Ta_wordsFrom_68 : decode b_Ta_wordsFrom 68 = .ok (.iload 5, 2) := by decide +kernel
theorem d_Ta_wordsFrom_70 : decode b_Ta_wordsFrom 70 = .ok (.iadd, 1) := by decide +kernel
theorem d_Ta_wordsFrom_71 : decode b_Ta_wordsFrom 71 = .ok (.iaload, 1) := by decide +kernel
theorem d_Ta_wordsFrom_72 : decode b_Ta_wordsFrom 72 = .ok (.iand, 1) := by decide +kernel
theorem d_Ta_wordsFrom_73 : decode b_Ta_wordsFrom 73 = .ok (.aload_n 3, 1) := by decide +kernel
theorem d_Ta_wordsFrom_74 : decode b_Ta_wordsFrom 74 = .ok (.invokevirtual 42, 3) := by decide +kernel
theorem d_Ta_wordsFrom_77 : decode b_Ta_wordsFrom 77 = .ok (.iadd, 1) := by decide +kernel
theorem d_Ta_wordsFrom_78 : decode b_Ta_wordsFrom 78 = .ok (.istore 4, 2) := by decide +kernel
theorem d_Ta_wordsFrom_80 : decode b_Ta_wordsFrom 80 = .ok (.iinc 5 1, 3) := by decide +kernel
theorem d_Ta_wordsFrom_83 : decode b_Ta_wordsFrom 83 = .ok (.goto (-51), 3) := by decide +kernel
theorem d_Ta_wordsFrom_86 : decode b_Ta_wordsFrom 86 = .ok (.iload 4, 2) := by decide +kernel
theorem d_Ta_wordsFrom_88 : decode b_Ta_wordsFrom 88 = .ok (.ireturn, 1) := by decide +kernel
theorem d_TC_least_0 : decode b_TC_least 0 = .ok (.aload_n 0, 1) := by decide +kernel
theorem d_TC_least_1 : decode b_TC_least 1 = .ok (.iload_n 1, 1) := by decide +kernel
theorem d_TC_least_2 : decode b_TC_least 2 = .ok (.invokevirtual 77, 3) := by decide +kernel
theorem d_TC_least_5 : decode b_TC_least 5 = .ok (.astore_n 2, 1) := by decide +kernel
theorem d_TC_least_6 : decode b_TC_least 6 = .ok (.aload_n 2, 1) := by decide +kernel
theorem d_TC_least_7 : decode b_TC_least 7 = .ok (.instanceof 92, 3) := by decide +kernel
theorem d_TC_least_10 : decode b_TC_least 10 = .ok (.ifCond .eq 32, 3) := by decide +kernel
theorem d_TC_least_13 : decode b_TC_least 13 = .ok (.aload_n 2, 1) := by decide +kernel
theorem d_TC_least_14 : decode b_TC_least 14 = .ok (.checkcast 92, 3) := by decide +kernel
theorem d_TC_least_17 : decode b_TC_least 17 = .ok (.astore_n 3, 1) := by decide +kernel
theorem d_TC_least_18 : decode b_TC_least 18 = .ok (.aload_n 3, 1) := by decide +kernel
theorem d_TC_least_19 : decode b_TC_least 19 = .ok (.aload_n 0, 1) := by decide +kernel
theorem d_TC_least_20 : decode b_TC_least 20 = .ok (.getfield 10, 3) := by decide +kernel
theorem d_TC_least_23 : decode b_TC_least 23 = .ok (.getfield 41, 3) := by decide +kernel
theorem d_TC_least_26 : decode b_TC_least 26 = .ok (.aload_n 0, 1) := by decide +kernel
theorem d_TC_least_27 : decode b_TC_least 27 = .ok (.getfield 29, 3) := by decide +kernel
theorem d_TC_least_30 : decode b_TC_least 30 = .ok (.invokevirtual 179, 3) := by decide +kernel
theorem d_TC_least_33 : decode b_TC_least 33 = .ok (.aload_n 3, 1) := by decide +kernel
theorem d_TC_least_34 : decode b_TC_least 34 = .ok (.aload_n 0, 1) := by decide +kernel
theorem d_TC_least_35 : decode b_TC_least 35 = .ok (.getfield 29, 3) := by decide +kernel
theorem d_TC_least_38 : decode b_TC_least 38 = .ok (.invokevirtual 180, 3) := by decide +kernel
theorem d_TC_least_41 : decode b_TC_least 41 = .ok (.ireturn, 1) := by decide +kernel
theorem d_TC_least_42 : decode b_TC_least 42 = .ok (.bipush (-2), 2) := by decide +kernel
theorem d_TC_least_44 : decode b_TC_least 44 = .ok (.ireturn, 1) := by decide +kernel
theorem d_TC_count_0 : decode b_TC_count 0 = .ok (.aload_n 0, 1) := by decide +kernel
theorem d_TC_count_1 : decode b_TC_count 1 = .ok (.iconst 0, 1) := by decide +kernel
theorem d_TC_count_2 : decode b_TC_count 2 = .ok (.invokevirtual 183, 3) := by decide +kernel
theorem d_TC_count_5 : decode b_TC_count 5 = .ok (.ireturn, 1) := by decide +kernel
theorem d_TC_solutionsFrom_0 : decode b_TC_solutionsFrom 0 = .ok (.aload_n 0, 1) := by decide +kernel
theorem d_TC_solutionsFrom_1 : decode b_TC_solutionsFrom 1 = .ok (.iload_n 1, 1) := by decide +kernel
theorem d_TC_solutionsFrom_2 : decode b_TC_solutionsFrom 2 = .ok (.invokevirtual 129, 3) := by decide +kernel
theorem d_TC_solutionsFrom_5 : decode b_TC_solutionsFrom 5 = .ok (.ifCond .ne 5, 3) := by decide +kernel
theorem d_TC_solutionsFrom_8 : decode b_TC_solutionsFrom 8 = .ok (.iconst 1, 1) := by decide +kernel
theorem d_TC_solutionsFrom_9 : decode b_TC_solutionsFrom 9 = .ok (.ireturn, 1) := by decide +kernel
theorem d_TC_solutionsFrom_10 : decode b_TC_solutionsFrom 10 = .ok (.aload_n 0, 1) := by decide +kernel
theorem d_TC_solutionsFrom_11 : decode b_TC_solutionsFrom 11 = .ok (.iload_n 1, 1) := by decide +kernel
theorem d_TC_solutionsFrom_12 : decode b_TC_solutionsFrom 12 = .ok (.invokevirtual 205, 3) := by decide +kernel
theorem d_TC_solutionsFrom_15 : decode b_TC_solutionsFrom 15 = .ok (.istore_n 2, 1) := by decide +kernel
theorem d_TC_solutionsFrom_16 : decode b_TC_solutionsFrom 16 = .ok (.iload_n 1, 1) := by decide +kernel
theorem d_TC_solutionsFrom_17 : decode b_TC_solutionsFrom 17 = .ok (.aload_n 0, 1) := by decide +kernel
theorem d_TC_solutionsFrom_18 : decode b_TC_solutionsFrom 18 = .ok (.getfield 44, 3) := by decide +kernel
theorem d_TC_solutionsFrom_21 : decode b_TC_solutionsFrom 21 = .ok (.iconst 1, 1) := by decide +kernel
theorem d_TC_solutionsFrom_22 : decode b_TC_solutionsFrom 22 = .ok (.isub, 1) := by decide +kernel
theorem d_TC_solutionsFrom_23 : decode b_TC_solutionsFrom 23 = .ok (.if_icmp .ne 8, 3) := by decide +kernel
theorem d_TC_solutionsFrom_26 : decode b_TC_solutionsFrom 26 = .ok (.iload_n 2, 1) := by decide +kernel
theorem d_TC_solutionsFrom_27 : decode b_TC_solutionsFrom 27 = .ok (.invokestatic 193, 3) := by decide +kernel
theorem d_TC_solutionsFrom_30 : decode b_TC_solutionsFrom 30 = .ok (.ireturn, 1) := by decide +kernel
theorem d_TC_solutionsFrom_31 : decode b_TC_solutionsFrom 31 = .ok (.aload_n 0, 1) := by decide +kernel
theorem d_TC_solutionsFrom_32 : decode b_TC_solutionsFrom 32 = .ok (.iload_n 1, 1) := by decide +kernel
theorem d_TC_solutionsFrom_33 : decode b_TC_solutionsFrom 33 = .ok (.invokevirtual 208, 3) := by decide +kernel
theorem d_TC_solutionsFrom_36 : decode b_TC_solutionsFrom 36 = .ok (.ifCond .ne 16, 3) := by decide +kernel
theorem d_TC_solutionsFrom_39 : decode b_TC_solutionsFrom 39 = .ok (.iload_n 2, 1) := by decide +kernel
theorem d_TC_solutionsFrom_40 : decode b_TC_solutionsFrom 40 = .ok (.invokestatic 193, 3) := by decide +kernel
theorem d_TC_solutionsFrom_43 : decode b_TC_solutionsFrom 43 = .ok (.aload_n 0, 1) := by decide +kernel
theorem d_TC_solutionsFrom_44 : decode b_TC_solutionsFrom 44 = .ok (.iload_n 1, 1) := by decide +kernel
theorem d_TC_solutionsFrom_45 : decode b_TC_solutionsFrom 45 = .ok (.iconst 1, 1) := by decide +kernel
theorem d_TC_solutionsFrom_46 : decode b_TC_solutionsFrom 46 = .ok (.iadd, 1) := by decide +kernel
theorem d_TC_solutionsFrom_47 : decode b_TC_solutionsFrom 47 = .ok (.invokevirtual 183, 3) := by decide +kernel
theorem d_TC_solutionsFrom_50 : decode b_TC_solutionsFrom 50 = .ok (.imul, 1) := by decide +kernel
theorem d_TC_solutionsFrom_51 : decode b_TC_solutionsFrom 51 = .ok (.ireturn, 1) := by decide +kernel
theorem d_TC_solutionsFrom_52 : decode b_TC_solutionsFrom 52 = .ok (.iconst 0, 1) := by decide +kernel
theorem d_TC_solutionsFrom_53 : decode b_TC_solutionsFrom 53 = .ok (.istore_n 3, 1) := by decide +kernel
theorem d_TC_solutionsFrom_54 : decode b_TC_solutionsFrom 54 = .ok (.iconst 0, 1) := by decide +kernel
theorem d_TC_solutionsFrom_55 : decode b_TC_solutionsFrom 55 = .ok (.istore 4, 2) := by decide +kernel
theorem d_TC_solutionsFrom_57 : decode b_TC_solutionsFrom 57 = .ok (.iload 4, 2) := by decide +kernel
theorem d_TC_solutionsFrom_59 : decode b_TC_solutionsFrom 59 = .ok (.bipush 6, 2) := by decide +kernel
theorem d_TC_solutionsFrom_61 : decode b_TC_solutionsFrom 61 = .ok (.if_icmp .ge 38, 3) := by decide +kernel
theorem d_TC_solutionsFrom_64 : decode b_TC_solutionsFrom 64 = .ok (.iload_n 2, 1) := by decide +kernel
theorem d_TC_solutionsFrom_65 : decode b_TC_solutionsFrom 65 = .ok (.iload 4, 2) := by decide +kernel
theorem d_TC_solutionsFrom_67 : decode b_TC_solutionsFrom 67 = .ok (.invokestatic 211, 3) := by decide +kernel
theorem d_TC_solutionsFrom_70 : decode b_TC_solutionsFrom 70 = .ok (.ifCond .eq 23, 3) := by decide +kernel
theorem d_TC_solutionsFrom_73 : decode b_TC_solutionsFrom 73 = .ok (.aload_n 0, 1) := by decide +kernel
theorem d_TC_solutionsFrom_74 : decode b_TC_solutionsFrom 74 = .ok (.getfield 33, 3) := by decide +kernel
theorem d_TC_solutionsFrom_77 : decode b_TC_solutionsFrom 77 = .ok (.iload_n 1, 1) := by decide +kernel
theorem d_TC_solutionsFrom_78 : decode b_TC_solutionsFrom 78 = .ok (.iconst 1, 1) := by decide +kernel
theorem d_TC_solutionsFrom_79 : decode b_TC_solutionsFrom 79 = .ok (.iload 4, 2) := by decide +kernel
theorem d_TC_solutionsFrom_81 : decode b_TC_solutionsFrom 81 = .ok (.ishl, 1) := by decide +kernel
theorem d_TC_solutionsFrom_82 : decode b_TC_solutionsFrom 82 = .ok (.iastore, 1) := by decide +kernel
theorem d_TC_solutionsFrom_83 : decode b_TC_solutionsFrom 83 = .ok (.iload_n 3, 1) := by decide +kernel
theorem d_TC_solutionsFrom_84 : decode b_TC_solutionsFrom 84 = .ok (.aload_n 0, 1) := by decide +kernel
theorem d_TC_solutionsFrom_85 : decode b_TC_solutionsFrom 85 = .ok (.iload_n 1, 1) := by decide +kernel
theorem d_TC_solutionsFrom_86 : decode b_TC_solutionsFrom 86 = .ok (.iconst 1, 1) := by decide +kernel
theorem d_TC_solutionsFrom_87 : decode b_TC_solutionsFrom 87 = .ok (.iadd, 1) := by decide +kernel
theorem d_TC_solutionsFrom_88 : decode b_TC_solutionsFrom 88 = .ok (.invokevirtual 183, 3) := by decide +kernel
theorem d_TC_solutionsFrom_91 : decode b_TC_solutionsFrom 91 = .ok (.iadd, 1) := by decide +kernel
theorem d_TC_solutionsFrom_92 : decode b_TC_solutionsFrom 92 = .ok (.istore_n 3, 1) := by decide +kernel
theorem d_TC_solutionsFrom_93 : decode b_TC_solutionsFrom 93 = .ok (.iinc 4 1, 3) := by decide +kernel
theorem d_TC_solutionsFrom_96 : decode b_TC_solutionsFrom 96 = .ok (.goto (-39), 3) := by decide +kernel
theorem d_TC_solutionsFrom_99 : decode b_TC_solutionsFrom 99 = .ok (.iload_n 3, 1) := by decide +kernel
theorem d_TC_solutionsFrom_100 : decode b_TC_solutionsFrom 100 = .ok (.ireturn, 1) := by decide +kernel
theorem d_TC_setForChosen_0 : decode b_TC_setForChosen 0 = .ok (.aload_n 0, 1) := by decide +kernel
theorem d_TC_setForChosen_1 : decode b_TC_setForChosen 1 = .ok (.iload_n 1, 1) := by decide +kernel
theorem d_TC_setForChosen_2 : decode b_TC_setForChosen 2 = .ok (.invokevirtual 129, 3) := by decide +kernel
theorem d_TC_setForChosen_5 : decode b_TC_setForChosen 5 = .ok (.ifCond .ne 5, 3) := by decide +kernel
theorem d_TC_setForChosen_8 : decode b_TC_setForChosen 8 = .ok (.iconst 0, 1) := by decide +kernel
theorem d_TC_setForChosen_9 : decode b_TC_setForChosen 9 = .ok (.ireturn, 1) := by decide +kernel
theorem d_TC_setForChosen_10 : decode b_TC_setForChosen 10 = .ok (.aload_n 0, 1) := by decide +kernel
theorem d_TC_setForChosen_11 : decode b_TC_setForChosen 11 = .ok (.getfield 10, 3) := by decide +kernel
theorem d_TC_setForChosen_14 : decode b_TC_setForChosen 14 = .ok (.getfield 41, 3) := by decide +kernel
theorem d_TC_setForChosen_17 : decode b_TC_setForChosen 17 = .ok (.iload_n 1, 1) := by decide +kernel
theorem d_TC_setForChosen_18 : decode b_TC_setForChosen 18 = .ok (.iaload, 1) := by decide +kernel
theorem d_TC_setForChosen_19 : decode b_TC_setForChosen 19 = .ok (.istore_n 2, 1) := by decide +kernel
theorem d_TC_setForChosen_20 : decode b_TC_setForChosen 20 = .ok (.iconst 0, 1) := by decide +kernel
theorem d_TC_setForChosen_21 : decode b_TC_setForChosen 21 = .ok (.istore_n 3, 1) := by decide +kernel
theorem d_TC_setForChosen_22 : decode b_TC_setForChosen 22 = .ok (.iload_n 3, 1) := by decide +kernel
theorem d_TC_setForChosen_23 : decode b_TC_setForChosen 23 = .ok (.aload_n 0, 1) := by decide +kernel
theorem d_TC_setForChosen_24 : decode b_TC_setForChosen 24 = .ok (.getfield 37, 3) := by decide +kernel
theorem d_TC_setForChosen_27 : decode b_TC_setForChosen 27 = .ok (.if_icmp .ge 80, 3) := by decide +kernel
theorem d_TC_setForChosen_30 : decode b_TC_setForChosen 30 = .ok (.aload_n 0, 1) := by decide +kernel
theorem d_TC_setForChosen_31 : decode b_TC_setForChosen 31 = .ok (.iload_n 3, 1) := by decide +kernel
theorem d_TC_setForChosen_32 : decode b_TC_setForChosen 32 = .ok (.invokevirtual 77, 3) := by decide +kernel
theorem d_TC_setForChosen_35 : decode b_TC_setForChosen 35 = .ok (.astore 4, 2) := by decide +kernel
theorem d_TC_setForChosen_37 : decode b_TC_setForChosen 37 = .ok (.aload 4, 2) := by decide +kernel
theorem d_TC_setForChosen_39 : decode b_TC_setForChosen 39 = .ok (.ifnull 62, 3) := by decide +kernel
theorem d_TC_setForChosen_42 : decode b_TC_setForChosen 42 = .ok (.aload 4, 2) := by decide +kernel
theorem d_TC_setForChosen_44 : decode b_TC_setForChosen 44 = .ok (.getfield 214, 3) := by decide +kernel
theorem d_TC_setForChosen_47 : decode b_TC_setForChosen 47 = .ok (.iload_n 1, 1) := by decide +kernel
theorem d_TC_setForChosen_48 : decode b_TC_setForChosen 48 = .ok (.if_icmp .eq 6, 3) := by decide +kernel
theorem d_TC_setForChosen_51 : decode b_TC_setForChosen 51 = .ok (.goto 50, 3) := by decide +kernel
theorem d_TC_setForChosen_54 : decode b_TC_setForChosen 54 = .ok (.aload_n 0, 1) := by decide +kernel
theorem d_TC_setForChosen_55 : decode b_TC_setForChosen 55 = .ok (.getfield 33, 3) := by decide +kernel
theorem d_TC_setForChosen_58 : decode b_TC_setForChosen 58 = .ok (.iload_n 1, 1) := by decide +kernel
theorem d_TC_setForChosen_59 : decode b_TC_setForChosen 59 = .ok (.iload_n 2, 1) := by decide +kernel
theorem d_TC_setForChosen_60 : decode b_TC_setForChosen 60 = .ok (.iastore, 1) := by decide +kernel
theorem d_TC_setForChosen_61 : decode b_TC_setForChosen 61 = .ok (.aload 4, 2) := by decide +kernel
theorem d_TC_setForChosen_63 : decode b_TC_setForChosen 63 = .ok (.aload_n 0, 1) := by decide +kernel
theorem d_TC_setForChosen_64 : decode b_TC_setForChosen 64 = .ok (.getfield 33, 3) := by decide +kernel
theorem d_TC_setForChosen_67 : decode b_TC_setForChosen 67 = .ok (.aload_n 0, 1) := by decide +kernel
theorem d_TC_setForChosen_68 : decode b_TC_setForChosen 68 = .ok (.getfield 29, 3) := by decide +kernel
theorem d_TC_setForChosen_71 : decode b_TC_setForChosen 71 = .ok (.invokevirtual 135, 3) := by decide +kernel
theorem d_TC_setForChosen_74 : decode b_TC_setForChosen 74 = .ok (.aload 4, 2) := by decide +kernel
theorem d_TC_setForChosen_76 : decode b_TC_setForChosen 76 = .ok (.aload_n 0, 1) := by decide +kernel
theorem d_TC_setForChosen_77 : decode b_TC_setForChosen 77 = .ok (.getfield 29, 3) := by decide +kernel
theorem d_TC_setForChosen_80 : decode b_TC_setForChosen 80 = .ok (.invokevirtual 139, 3) := by decide +kernel
theorem d_TC_setForChosen_83 : decode b_TC_setForChosen 83 = .ok (.ifCond .ne 5, 3) := by decide +kernel
theorem d_TC_setForChosen_86 : decode b_TC_setForChosen 86 = .ok (.iconst 0, 1) := by decide +kernel
theorem d_TC_setForChosen_87 : decode b_TC_setForChosen 87 = .ok (.ireturn, 1) := by decide +kernel
theorem d_TC_setForChosen_88 : decode b_TC_setForChosen 88 = .ok (.aload_n 0, 1) := by decide +kernel
theorem d_TC_setForChosen_89 : decode b_TC_setForChosen 89 = .ok (.getfield 29, 3) := by decide +kernel
theorem d_TC_setForChosen_92 : decode b_TC_setForChosen 92 = .ok (.aload 4, 2) := by decide +kernel
theorem d_TC_setForChosen_94 : decode b_TC_setForChosen 94 = .ok (.getfield 217, 3) := by decide +kernel
theorem d_TC_setForChosen_97 : decode b_TC_setForChosen 97 = .ok (.invokevirtual 220, 3) := by decide +kernel
theorem d_TC_setForChosen_100 : decode b_TC_setForChosen 100 = .ok (.istore_n 2, 1) := by decide +kernel
theorem d_TC_setForChosen_101 : decode b_TC_setForChosen 101 = .ok (.iinc 3 1, 3) := by decide +kernel
theorem d_TC_setForChosen_104 : decode b_TC_setForChosen 104 = .ok (.goto (-82), 3) := by decide +kernel
theorem d_TC_setForChosen_107 : decode b_TC_setForChosen 107 = .ok (.iload_n 2, 1) := by decide +kernel
theorem d_TC_setForChosen_108 : decode b_TC_setForChosen 108 = .ok (.ireturn, 1) := by decide +kernel
theorem d_Pl_keptAt_0 : decode b_Pl_keptAt 0 = .ok (.iload_n 1, 1) := by decide +kernel
theorem d_Pl_keptAt_1 : decode b_Pl_keptAt 1 = .ok (.ifCond .lt 18, 3) := by decide +kernel
theorem d_Pl_keptAt_4 : decode b_Pl_keptAt 4 = .ok (.iload_n 1, 1) := by decide +kernel
theorem d_Pl_keptAt_5 : decode b_Pl_keptAt 5 = .ok (.bipush 6, 2) := by decide +kernel
theorem d_Pl_keptAt_7 : decode b_Pl_keptAt 7 = .ok (.if_icmp .ge 12, 3) := by decide +kernel
theorem d_Pl_keptAt_10 : decode b_Pl_keptAt 10 = .ok (.aload_n 0, 1) := by decide +kernel
theorem d_Pl_keptAt_11 : decode b_Pl_keptAt 11 = .ok (.getfield 15, 3) := by decide +kernel
theorem d_Pl_keptAt_14 : decode b_Pl_keptAt 14 = .ok (.iload_n 1, 1) := by decide +kernel
theorem d_Pl_keptAt_15 : decode b_Pl_keptAt 15 = .ok (.iaload, 1) := by decide +kernel
theorem d_Pl_keptAt_16 : decode b_Pl_keptAt 16 = .ok (.goto 4, 3) := by decide +kernel
theorem d_Pl_keptAt_19 : decode b_Pl_keptAt 19 = .ok (.iconst 0, 1) := by decide +kernel
theorem d_Pl_keptAt_20 : decode b_Pl_keptAt 20 = .ok (.ireturn, 1) := by decide +kernel
theorem d_TC_isInSomeRow_0 : decode b_TC_isInSomeRow 0 = .ok (.iconst 0, 1) := by decide +kernel
theorem d_TC_isInSomeRow_1 : decode b_TC_isInSomeRow 1 = .ok (.istore_n 2, 1) := by decide +kernel
theorem d_TC_isInSomeRow_2 : decode b_TC_isInSomeRow 2 = .ok (.iload_n 2, 1) := by decide +kernel
theorem d_TC_isInSomeRow_3 : decode b_TC_isInSomeRow 3 = .ok (.aload_n 0, 1) := by decide +kernel
theorem d_TC_isInSomeRow_4 : decode b_TC_isInSomeRow 4 = .ok (.getfield 37, 3) := by decide +kernel
theorem d_TC_isInSomeRow_7 : decode b_TC_isInSomeRow 7 = .ok (.if_icmp .ge 32, 3) := by decide +kernel
theorem d_TC_isInSomeRow_10 : decode b_TC_isInSomeRow 10 = .ok (.aload_n 0, 1) := by decide +kernel
theorem d_TC_isInSomeRow_11 : decode b_TC_isInSomeRow 11 = .ok (.iload_n 2, 1) := by decide +kernel
theorem d_TC_isInSomeRow_12 : decode b_TC_isInSomeRow 12 = .ok (.invokevirtual 77, 3) := by decide +kernel
theorem d_TC_isInSomeRow_15 : decode b_TC_isInSomeRow 15 = .ok (.astore_n 3, 1) := by decide +kernel
theorem d_TC_isInSomeRow_16 : decode b_TC_isInSomeRow 16 = .ok (.aload_n 3, 1) := by decide +kernel
theorem d_TC_isInSomeRow_17 : decode b_TC_isInSomeRow 17 = .ok (.ifnull 16, 3) := by decide +kernel
theorem d_TC_isInSomeRow_20 : decode b_TC_isInSomeRow 20 = .ok (.aload_n 3, 1) := by decide +kernel
theorem d_TC_isInSomeRow_21 : decode b_TC_isInSomeRow 21 = .ok (.getfield 223, 3) := by decide +kernel
theorem d_TC_isInSomeRow_24 : decode b_TC_isInSomeRow 24 = .ok (.iload_n 1, 1) := by decide +kernel
theorem d_TC_isInSomeRow_25 : decode b_TC_isInSomeRow 25 = .ok (.invokestatic 211, 3) := by decide +kernel
theorem d_TC_isInSomeRow_28 : decode b_TC_isInSomeRow 28 = .ok (.ifCond .eq 5, 3) := by decide +kernel
theorem d_TC_isInSomeRow_31 : decode b_TC_isInSomeRow 31 = .ok (.iconst 1, 1) := by decide +kernel
theorem d_TC_isInSomeRow_32 : decode b_TC_isInSomeRow 32 = .ok (.ireturn, 1) := by decide +kernel
theorem d_TC_isInSomeRow_33 : decode b_TC_isInSomeRow 33 = .ok (.iinc 2 1, 3) := by decide +kernel
theorem d_TC_isInSomeRow_36 : decode b_TC_isInSomeRow 36 = .ok (.goto (-34), 3) := by decide +kernel
theorem d_TC_isInSomeRow_39 : decode b_TC_isInSomeRow 39 = .ok (.iconst 0, 1) := by decide +kernel
theorem d_TC_isInSomeRow_40 : decode b_TC_isInSomeRow 40 = .ok (.ireturn, 1) := by decide +kernel
theorem d_TC_next_0 : decode b_TC_next 0 = .ok (.iload_n 1, 1) := by decide +kernel
theorem d_TC_next_1 : decode b_TC_next 1 = .ok (.iconst (-1), 1) := by decide +kernel
theorem d_TC_next_2 : decode b_TC_next 2 = .ok (.if_icmp .ne 12, 3) := by decide +kernel
theorem d_TC_next_5 : decode b_TC_next 5 = .ok (.aload_n 0, 1) := by decide +kernel
theorem d_TC_next_6 : decode b_TC_next 6 = .ok (.iconst 0, 1) := by decide +kernel
theorem d_TC_next_7 : decode b_TC_next 7 = .ok (.iconst 0, 1) := by decide +kernel
theorem d_TC_next_8 : decode b_TC_next 8 = .ok (.iconst 0, 1) := by decide +kernel
theorem d_TC_next_9 : decode b_TC_next 9 = .ok (.iconst 0, 1) := by decide +kernel
theorem d_TC_next_10 : decode b_TC_next 10 = .ok (.invokevirtual 186, 3) := by decide +kernel
theorem d_TC_next_13 : decode b_TC_next 13 = .ok (.ireturn, 1) := by decide +kernel
theorem d_TC_next_14 : decode b_TC_next 14 = .ok (.aload_n 0, 1) := by decide +kernel
theorem d_TC_next_15 : decode b_TC_next 15 = .ok (.getfield 44, 3) := by decide +kernel
theorem d_TC_next_18 : decode b_TC_next 18 = .ok (.iload_n 1, 1) := by decide +kernel
theorem d_TC_next_19 : decode b_TC_next 19 = .ok (.iconst 0, 1) := by decide +kernel
theorem d_TC_next_20 : decode b_TC_next 20 = .ok (.invokestatic 84, 3) := by decide +kernel
theorem d_TC_next_23 : decode b_TC_next 23 = .ok (.ifCond .ne 6, 3) := by decide +kernel
theorem d_TC_next_26 : decode b_TC_next 26 = .ok (.bipush (-2), 2) := by decide +kernel
theorem d_TC_next_28 : decode b_TC_next 28 = .ok (.ireturn, 1) := by decide +kernel
theorem d_TC_next_29 : decode b_TC_next 29 = .ok (.aload_n 0, 1) := by decide +kernel
theorem d_TC_next_30 : decode b_TC_next 30 = .ok (.iconst 0, 1) := by decide +kernel
theorem d_TC_next_31 : decode b_TC_next 31 = .ok (.iconst 0, 1) := by decide +kernel
theorem d_TC_next_32 : decode b_TC_next 32 = .ok (.iload_n 1, 1) := by decide +kernel
theorem d_TC_next_33 : decode b_TC_next 33 = .ok (.iconst 1, 1) := by decide +kernel
theorem d_TC_next_34 : decode b_TC_next 34 = .ok (.invokevirtual 186, 3) := by decide +kernel
theorem d_TC_next_37 : decode b_TC_next 37 = .ok (.ireturn, 1) := by decide +kernel
theorem d_TC_solutionFrom_0 : decode b_TC_solutionFrom 0 = .ok (.aload_n 0, 1) := by decide +kernel
theorem d_TC_solutionFrom_1 : decode b_TC_solutionFrom 1 = .ok (.iload_n 1, 1) := by decide +kernel
theorem d_TC_solutionFrom_2 : decode b_TC_solutionFrom 2 = .ok (.invokevirtual 129, 3) := by decide +kernel
theorem d_TC_solutionFrom_5 : decode b_TC_solutionFrom 5 = .ok (.ifCond .ne 14, 3) := by decide +kernel
theorem d_TC_solutionFrom_8 : decode b_TC_solutionFrom 8 = .ok (.iload 4, 2) := by decide +kernel
theorem d_TC_solutionFrom_10 : decode b_TC_solutionFrom 10 = .ok (.ifCond .eq 7, 3) := by decide +kernel
theorem d_TC_solutionFrom_13 : decode b_TC_solutionFrom 13 = .ok (.iconst (-1), 1) := by decide +kernel
theorem d_TC_solutionFrom_14 : decode b_TC_solutionFrom 14 = .ok (.goto 4, 3) := by decide +kernel
theorem d_TC_solutionFrom_17 : decode b_TC_solutionFrom 17 = .ok (.iload_n 2, 1) := by decide +kernel
theorem d_TC_solutionFrom_18 : decode b_TC_solutionFrom 18 = .ok (.ireturn, 1) := by decide +kernel
theorem d_TC_solutionFrom_19 : decode b_TC_solutionFrom 19 = .ok (.aload_n 0, 1) := by decide +kernel
theorem d_TC_solutionFrom_20 : decode b_TC_solutionFrom 20 = .ok (.iload_n 1, 1) := by decide +kernel
theorem d_TC_solutionFrom_21 : decode b_TC_solutionFrom 21 = .ok (.invokevirtual 205, 3) := by decide +kernel
theorem d_TC_solutionFrom_24 : decode b_TC_solutionFrom 24 = .ok (.istore 5, 2) := by decide +kernel
theorem d_TC_solutionFrom_26 : decode b_TC_solutionFrom 26 = .ok (.iload 4, 2) := by decide +kernel
theorem d_TC_solutionFrom_28 : decode b_TC_solutionFrom 28 = .ok (.ifCond .eq 11, 3) := by decide +kernel
theorem d_TC_solutionFrom_31 : decode b_TC_solutionFrom 31 = .ok (.iload_n 3, 1) := by decide +kernel
theorem d_TC_solutionFrom_32 : decode b_TC_solutionFrom 32 = .ok (.iload_n 1, 1) := by decide +kernel
theorem d_TC_solutionFrom_33 : decode b_TC_solutionFrom 33 = .ok (.invokestatic 198, 3) := by decide +kernel
theorem d_TC_solutionFrom_36 : decode b_TC_solutionFrom 36 = .ok (.goto 4, 3) := by decide +kernel
theorem d_TC_solutionFrom_39 : decode b_TC_solutionFrom 39 = .ok (.iconst 0, 1) := by decide +kernel
theorem d_TC_solutionFrom_40 : decode b_TC_solutionFrom 40 = .ok (.istore 6, 2) := by decide +kernel
theorem d_TC_solutionFrom_42 : decode b_TC_solutionFrom 42 = .ok (.iload 6, 2) := by decide +kernel
theorem d_TC_solutionFrom_44 : decode b_TC_solutionFrom 44 = .ok (.istore 7, 2) := by decide +kernel
theorem d_TC_solutionFrom_46 : decode b_TC_solutionFrom 46 = .ok (.iload 7, 2) := by decide +kernel
theorem d_TC_solutionFrom_48 : decode b_TC_solutionFrom 48 = .ok (.bipush 6, 2) := by decide +kernel
theorem d_TC_solutionFrom_50 : decode b_TC_solutionFrom 50 = .ok (.if_icmp .ge 73, 3) := by decide +kernel
theorem d_TC_solutionFrom_53 : decode b_TC_solutionFrom 53 = .ok (.iload 5, 2) := by decide +kernel
theorem d_TC_solutionFrom_55 : decode b_TC_solutionFrom 55 = .ok (.iload 7, 2) := by decide +kernel
theorem d_TC_solutionFrom_57 : decode b_TC_solutionFrom 57 = .ok (.invokestatic 211, 3) := by decide +kernel
theorem d_TC_solutionFrom_60 : decode b_TC_solutionFrom 60 = .ok (.ifCond .eq 57, 3) := by decide +kernel
theorem d_TC_solutionFrom_63 : decode b_TC_solutionFrom 63 = .ok (.aload_n 0, 1) := by decide +kernel
theorem d_TC_solutionFrom_64 : decode b_TC_solutionFrom 64 = .ok (.getfield 33, 3) := by decide +kernel
theorem d_TC_solutionFrom_67 : decode b_TC_solutionFrom 67 = .ok (.iload_n 1, 1) := by decide +kernel
theorem d_TC_solutionFrom_68 : decode b_TC_solutionFrom 68 = .ok (.iconst 1, 1) := by decide +kernel
theorem d_TC_solutionFrom_69 : decode b_TC_solutionFrom 69 = .ok (.iload 7, 2) := by decide +kernel
theorem d_TC_solutionFrom_71 : decode b_TC_solutionFrom 71 = .ok (.ishl, 1) := by decide +kernel
theorem d_TC_solutionFrom_72 : decode b_TC_solutionFrom 72 = .ok (.iastore, 1) := by decide +kernel
theorem d_TC_solutionFrom_73 : decode b_TC_solutionFrom 73 = .ok (.aload_n 0, 1) := by decide +kernel
theorem d_TC_solutionFrom_74 : decode b_TC_solutionFrom 74 = .ok (.iload_n 1, 1) := by decide +kernel
theorem d_TC_solutionFrom_75 : decode b_TC_solutionFrom 75 = .ok (.iconst 1, 1) := by decide +kernel
theorem d_TC_solutionFrom_76 : decode b_TC_solutionFrom 76 = .ok (.iadd, 1) := by decide +kernel
theorem d_TC_solutionFrom_77 : decode b_TC_solutionFrom 77 = .ok (.iload_n 2, 1) := by decide +kernel
theorem d_TC_solutionFrom_78 : decode b_TC_solutionFrom 78 = .ok (.iload 7, 2) := by decide +kernel
theorem d_TC_solutionFrom_80 : decode b_TC_solutionFrom 80 = .ok (.iconst 3, 1) := by decide +kernel
theorem d_TC_solutionFrom_81 : decode b_TC_solutionFrom 81 = .ok (.iload_n 1, 1) := by decide +kernel
theorem d_TC_solutionFrom_82 : decode b_TC_solutionFrom 82 = .ok (.imul, 1) := by decide +kernel
theorem d_TC_solutionFrom_83 : decode b_TC_solutionFrom 83 = .ok (.ishl, 1) := by decide +kernel
theorem d_TC_solutionFrom_84 : decode b_TC_solutionFrom 84 = .ok (.ior, 1) := by decide +kernel
theorem d_TC_solutionFrom_85 : decode b_TC_solutionFrom 85 = .ok (.iload_n 3, 1) := by decide +kernel
theorem d_TC_solutionFrom_86 : decode b_TC_solutionFrom 86 = .ok (.iload 4, 2) := by decide +kernel
theorem d_TC_solutionFrom_88 : decode b_TC_solutionFrom 88 = .ok (.ifCond .eq 14, 3) := by decide +kernel
theorem d_TC_solutionFrom_91 : decode b_TC_solutionFrom 91 = .ok (.iload 7, 2) := by decide +kernel
theorem d_TC_solutionFrom_93 : decode b_TC_solutionFrom 93 = .ok (.iload 6, 2) := by decide +kernel
theorem d_TC_solutionFrom_95 : decode b_TC_solutionFrom 95 = .ok (.if_icmp .ne 7, 3) := by decide +kernel
theorem d_TC_solutionFrom_98 : decode b_TC_solutionFrom 98 = .ok (.iconst 1, 1) := by decide +kernel
theorem d_TC_solutionFrom_99 : decode b_TC_solutionFrom 99 = .ok (.goto 4, 3) := by decide +kernel
theorem d_TC_solutionFrom_102 : decode b_TC_solutionFrom 102 = .ok (.iconst 0, 1) := by decide +kernel
theorem d_TC_solutionFrom_103 : decode b_TC_solutionFrom 103 = .ok (.invokevirtual 186, 3) := by decide +kernel
theorem d_TC_solutionFrom_106 : decode b_TC_solutionFrom 106 = .ok (.istore 8, 2) := by decide +kernel
theorem d_TC_solutionFrom_108 : decode b_TC_solutionFrom 108 = .ok (.iload 8, 2) := by decide +kernel
theorem d_TC_solutionFrom_110 : decode b_TC_solutionFrom 110 = .ok (.iconst (-1), 1) := by decide +kernel
theorem d_TC_solutionFrom_111 : decode b_TC_solutionFrom 111 = .ok (.if_icmp .eq 6, 3) := by decide +kernel
theorem d_TC_solutionFrom_114 : decode b_TC_solutionFrom 114 = .ok (.iload 8, 2) := by decide +kernel
theorem d_TC_solutionFrom_116 : decode b_TC_solutionFrom 116 = .ok (.ireturn, 1) := by decide +kernel
theorem d_TC_solutionFrom_117 : decode b_TC_solutionFrom 117 = .ok (.iinc 7 1, 3) := by decide +kernel
theorem d_TC_solutionFrom_120 : decode b_TC_solutionFrom 120 = .ok (.goto (-74), 3) := by decide +kernel
theorem d_TC_solutionFrom_123 : decode b_TC_solutionFrom 123 = .ok (.iconst (-1), 1) := by decide +kernel
theorem d_TC_solutionFrom_124 : decode b_TC_solutionFrom 124 = .ok (.ireturn, 1) := by decide +kernel
theorem d_TC_of_0 : decode b_TC_of 0 = .ok (.iload_n 1, 1) := by decide +kernel
theorem d_TC_of_1 : decode b_TC_of 1 = .ok (.tableswitch 60 0 4 #[35, 40, 45, 50, 55], 35) := by decide +kernel
theorem d_TC_of_36 : decode b_TC_of 36 = .ok (.aload_n 0, 1) := by decide +kernel
theorem d_TC_of_37 : decode b_TC_of 37 = .ok (.getfield 44, 3) := by decide +kernel
theorem d_TC_of_40 : decode b_TC_of 40 = .ok (.ireturn, 1) := by decide +kernel
theorem d_TC_of_41 : decode b_TC_of 41 = .ok (.aload_n 0, 1) := by decide +kernel
theorem d_TC_of_42 : decode b_TC_of 42 = .ok (.getfield 37, 3) := by decide +kernel
theorem d_TC_of_45 : decode b_TC_of 45 = .ok (.ireturn, 1) := by decide +kernel
theorem d_TC_of_46 : decode b_TC_of 46 = .ok (.aload_n 0, 1) := by decide +kernel
theorem d_TC_of_47 : decode b_TC_of 47 = .ok (.getfield 47, 3) := by decide +kernel
theorem d_TC_of_50 : decode b_TC_of 50 = .ok (.ireturn, 1) := by decide +kernel
theorem d_TC_of_51 : decode b_TC_of 51 = .ok (.aload_n 0, 1) := by decide +kernel
theorem d_TC_of_52 : decode b_TC_of 52 = .ok (.getfield 50, 3) := by decide +kernel
theorem d_TC_of_55 : decode b_TC_of 55 = .ok (.ireturn, 1) := by decide +kernel
theorem d_TC_of_56 : decode b_TC_of 56 = .ok (.aload_n 0, 1) := by decide +kernel
theorem d_TC_of_57 : decode b_TC_of 57 = .ok (.invokevirtual 190, 3) := by decide +kernel
theorem d_TC_of_60 : decode b_TC_of 60 = .ok (.ireturn, 1) := by decide +kernel
theorem d_TC_of_61 : decode b_TC_of 61 = .ok (.bipush (-2), 2) := by decide +kernel
theorem d_TC_of_63 : decode b_TC_of 63 = .ok (.ireturn, 1) := by decide +kernel
