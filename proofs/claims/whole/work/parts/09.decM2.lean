theorem d_M_told_0 : decode b_M_told 0 = .ok (.iload_n 1, 1) := by decide +kernel
theorem d_M_told_1 : decode b_M_told 1 = .ok (.iconst 0, 1) := by decide +kernel
theorem d_M_told_2 : decode b_M_told 2 = .ok (.aload_n 0, 1) := by decide +kernel
theorem d_M_told_3 : decode b_M_told 3 = .ok (.getfield 86, 3) := by decide +kernel
theorem d_M_told_6 : decode b_M_told 6 = .ok (.iconst 1, 1) := by decide +kernel
theorem d_M_told_7 : decode b_M_told 7 = .ok (.isub, 1) := by decide +kernel
theorem d_M_told_8 : decode b_M_told 8 = .ok (.invokestatic 95, 3) := by decide +kernel
theorem d_M_told_11 : decode b_M_told 11 = .ok (.ifCond .eq 12, 3) := by decide +kernel
theorem d_M_told_14 : decode b_M_told 14 = .ok (.iload_n 2, 1) := by decide +kernel
theorem d_M_told_15 : decode b_M_told 15 = .ok (.iconst 0, 1) := by decide +kernel
theorem d_M_told_16 : decode b_M_told 16 = .ok (.iconst 4, 1) := by decide +kernel
theorem d_M_told_17 : decode b_M_told 17 = .ok (.invokestatic 95, 3) := by decide +kernel
theorem d_M_told_20 : decode b_M_told 20 = .ok (.ifCond .ne 6, 3) := by decide +kernel
theorem d_M_told_23 : decode b_M_told 23 = .ok (.bipush (-2), 2) := by decide +kernel
theorem d_M_told_25 : decode b_M_told 25 = .ok (.ireturn, 1) := by decide +kernel
theorem d_M_told_26 : decode b_M_told 26 = .ok (.iload_n 2, 1) := by decide +kernel
theorem d_M_told_27 : decode b_M_told 27 = .ok (.iconst 4, 1) := by decide +kernel
theorem d_M_told_28 : decode b_M_told 28 = .ok (.if_icmp .ge 51, 3) := by decide +kernel
theorem d_M_told_31 : decode b_M_told 31 = .ok (.iload_n 2, 1) := by decide +kernel
theorem d_M_told_32 : decode b_M_told 32 = .ok (.ifCond .ne 12, 3) := by decide +kernel
theorem d_M_told_35 : decode b_M_told 35 = .ok (.aload_n 0, 1) := by decide +kernel
theorem d_M_told_36 : decode b_M_told 36 = .ok (.getfield 28, 3) := by decide +kernel
theorem d_M_told_39 : decode b_M_told 39 = .ok (.iload_n 1, 1) := by decide +kernel
theorem d_M_told_40 : decode b_M_told 40 = .ok (.iaload, 1) := by decide +kernel
theorem d_M_told_41 : decode b_M_told 41 = .ok (.goto 37, 3) := by decide +kernel
theorem d_M_told_44 : decode b_M_told 44 = .ok (.iload_n 2, 1) := by decide +kernel
theorem d_M_told_45 : decode b_M_told 45 = .ok (.iconst 1, 1) := by decide +kernel
theorem d_M_told_46 : decode b_M_told 46 = .ok (.if_icmp .ne 12, 3) := by decide +kernel
theorem d_M_told_49 : decode b_M_told 49 = .ok (.aload_n 0, 1) := by decide +kernel
theorem d_M_told_50 : decode b_M_told 50 = .ok (.getfield 31, 3) := by decide +kernel
theorem d_M_told_53 : decode b_M_told 53 = .ok (.iload_n 1, 1) := by decide +kernel
theorem d_M_told_54 : decode b_M_told 54 = .ok (.iaload, 1) := by decide +kernel
theorem d_M_told_55 : decode b_M_told 55 = .ok (.goto 23, 3) := by decide +kernel
theorem d_M_told_58 : decode b_M_told 58 = .ok (.iload_n 2, 1) := by decide +kernel
theorem d_M_told_59 : decode b_M_told 59 = .ok (.iconst 2, 1) := by decide +kernel
theorem d_M_told_60 : decode b_M_told 60 = .ok (.if_icmp .ne 12, 3) := by decide +kernel
theorem d_M_told_63 : decode b_M_told 63 = .ok (.aload_n 0, 1) := by decide +kernel
theorem d_M_told_64 : decode b_M_told 64 = .ok (.getfield 34, 3) := by decide +kernel
theorem d_M_told_67 : decode b_M_told 67 = .ok (.iload_n 1, 1) := by decide +kernel
theorem d_M_told_68 : decode b_M_told 68 = .ok (.iaload, 1) := by decide +kernel
theorem d_M_told_69 : decode b_M_told 69 = .ok (.goto 9, 3) := by decide +kernel
theorem d_M_told_72 : decode b_M_told 72 = .ok (.aload_n 0, 1) := by decide +kernel
theorem d_M_told_73 : decode b_M_told 73 = .ok (.getfield 49, 3) := by decide +kernel
theorem d_M_told_76 : decode b_M_told 76 = .ok (.iload_n 1, 1) := by decide +kernel
theorem d_M_told_77 : decode b_M_told 77 = .ok (.iaload, 1) := by decide +kernel
theorem d_M_told_78 : decode b_M_told 78 = .ok (.ireturn, 1) := by decide +kernel
theorem d_M_told_79 : decode b_M_told 79 = .ok (.iconst 0, 1) := by decide +kernel
theorem d_M_told_80 : decode b_M_told 80 = .ok (.istore_n 3, 1) := by decide +kernel
theorem d_M_told_81 : decode b_M_told 81 = .ok (.aload_n 0, 1) := by decide +kernel
theorem d_M_told_82 : decode b_M_told 82 = .ok (.iload_n 1, 1) := by decide +kernel
theorem d_M_told_83 : decode b_M_told 83 = .ok (.invokevirtual 128, 3) := by decide +kernel
theorem d_M_told_86 : decode b_M_told 86 = .ok (.iconst 1, 1) := by decide +kernel
theorem d_M_told_87 : decode b_M_told 87 = .ok (.istore 4, 2) := by decide +kernel
theorem d_M_told_89 : decode b_M_told 89 = .ok (.iload 4, 2) := by decide +kernel
theorem d_M_told_91 : decode b_M_told 91 = .ok (.ifCond .eq 29, 3) := by decide +kernel
theorem d_M_told_94 : decode b_M_told 94 = .ok (.iload_n 3, 1) := by decide +kernel
theorem d_M_told_95 : decode b_M_told 95 = .ok (.aload_n 0, 1) := by decide +kernel
theorem d_M_told_96 : decode b_M_told 96 = .ok (.iload_n 1, 1) := by decide +kernel
theorem d_M_told_97 : decode b_M_told 97 = .ok (.invokevirtual 132, 3) := by decide +kernel
theorem d_M_told_100 : decode b_M_told 100 = .ok (.ifCond .eq 7, 3) := by decide +kernel
theorem d_M_told_103 : decode b_M_told 103 = .ok (.iconst 1, 1) := by decide +kernel
theorem d_M_told_104 : decode b_M_told 104 = .ok (.goto 4, 3) := by decide +kernel
theorem d_M_told_107 : decode b_M_told 107 = .ok (.iconst 0, 1) := by decide +kernel
theorem d_M_told_108 : decode b_M_told 108 = .ok (.iadd, 1) := by decide +kernel
theorem d_M_told_109 : decode b_M_told 109 = .ok (.istore_n 3, 1) := by decide +kernel
theorem d_M_told_110 : decode b_M_told 110 = .ok (.aload_n 0, 1) := by decide +kernel
theorem d_M_told_111 : decode b_M_told 111 = .ok (.iload_n 1, 1) := by decide +kernel
theorem d_M_told_112 : decode b_M_told 112 = .ok (.invokevirtual 135, 3) := by decide +kernel
theorem d_M_told_115 : decode b_M_told 115 = .ok (.istore 4, 2) := by decide +kernel
theorem d_M_told_117 : decode b_M_told 117 = .ok (.goto (-28), 3) := by decide +kernel
theorem d_M_told_120 : decode b_M_told 120 = .ok (.iload_n 3, 1) := by decide +kernel
theorem d_M_told_121 : decode b_M_told 121 = .ok (.ireturn, 1) := by decide +kernel
theorem d_M_least_0 : decode b_M_least 0 = .ok (.aload_n 0, 1) := by decide +kernel
theorem d_M_least_1 : decode b_M_least 1 = .ok (.iload_n 1, 1) := by decide +kernel
theorem d_M_least_2 : decode b_M_least 2 = .ok (.iconst 1, 1) := by decide +kernel
theorem d_M_least_3 : decode b_M_least 3 = .ok (.invokevirtual 107, 3) := by decide +kernel
theorem d_M_least_6 : decode b_M_least 6 = .ok (.ifCond .ne 6, 3) := by decide +kernel
theorem d_M_least_9 : decode b_M_least 9 = .ok (.bipush (-2), 2) := by decide +kernel
theorem d_M_least_11 : decode b_M_least 11 = .ok (.ireturn, 1) := by decide +kernel
theorem d_M_least_12 : decode b_M_least 12 = .ok (.iconst (-1), 1) := by decide +kernel
theorem d_M_least_13 : decode b_M_least 13 = .ok (.istore_n 2, 1) := by decide +kernel
theorem d_M_least_14 : decode b_M_least 14 = .ok (.aload_n 0, 1) := by decide +kernel
theorem d_M_least_15 : decode b_M_least 15 = .ok (.iload_n 1, 1) := by decide +kernel
theorem d_M_least_16 : decode b_M_least 16 = .ok (.invokevirtual 128, 3) := by decide +kernel
theorem d_M_least_19 : decode b_M_least 19 = .ok (.iconst 1, 1) := by decide +kernel
theorem d_M_least_20 : decode b_M_least 20 = .ok (.istore_n 3, 1) := by decide +kernel
theorem d_M_least_21 : decode b_M_least 21 = .ok (.iload_n 3, 1) := by decide +kernel
theorem d_M_least_22 : decode b_M_least 22 = .ok (.ifCond .eq 54, 3) := by decide +kernel
theorem d_M_least_25 : decode b_M_least 25 = .ok (.aload_n 0, 1) := by decide +kernel
theorem d_M_least_26 : decode b_M_least 26 = .ok (.iload_n 1, 1) := by decide +kernel
theorem d_M_least_27 : decode b_M_least 27 = .ok (.invokevirtual 118, 3) := by decide +kernel
theorem d_M_least_30 : decode b_M_least 30 = .ok (.istore 4, 2) := by decide +kernel
theorem d_M_least_32 : decode b_M_least 32 = .ok (.iload 4, 2) := by decide +kernel
theorem d_M_least_34 : decode b_M_least 34 = .ok (.iconst (-1), 1) := by decide +kernel
theorem d_M_least_35 : decode b_M_least 35 = .ok (.if_icmp .eq 30, 3) := by decide +kernel
theorem d_M_least_38 : decode b_M_least 38 = .ok (.iload 4, 2) := by decide +kernel
theorem d_M_least_40 : decode b_M_least 40 = .ok (.aload_n 0, 1) := by decide +kernel
theorem d_M_least_41 : decode b_M_least 41 = .ok (.getfield 43, 3) := by decide +kernel
theorem d_M_least_44 : decode b_M_least 44 = .ok (.iload_n 1, 1) := by decide +kernel
theorem d_M_least_45 : decode b_M_least 45 = .ok (.iaload, 1) := by decide +kernel
theorem d_M_least_46 : decode b_M_least 46 = .ok (.if_icmp .gt 19, 3) := by decide +kernel
theorem d_M_least_49 : decode b_M_least 49 = .ok (.iload_n 2, 1) := by decide +kernel
theorem d_M_least_50 : decode b_M_least 50 = .ok (.iconst (-1), 1) := by decide +kernel
theorem d_M_least_51 : decode b_M_least 51 = .ok (.if_icmp .eq 9, 3) := by decide +kernel
theorem d_M_least_54 : decode b_M_least 54 = .ok (.iload 4, 2) := by decide +kernel
theorem d_M_least_56 : decode b_M_least 56 = .ok (.iload_n 2, 1) := by decide +kernel
theorem d_M_least_57 : decode b_M_least 57 = .ok (.if_icmp .ge 8, 3) := by decide +kernel
theorem d_M_least_60 : decode b_M_least 60 = .ok (.iload 4, 2) := by decide +kernel
theorem d_M_least_62 : decode b_M_least 62 = .ok (.goto 4, 3) := by decide +kernel
theorem d_M_least_65 : decode b_M_least 65 = .ok (.iload_n 2, 1) := by decide +kernel
theorem d_M_least_66 : decode b_M_least 66 = .ok (.istore_n 2, 1) := by decide +kernel
theorem d_M_least_67 : decode b_M_least 67 = .ok (.aload_n 0, 1) := by decide +kernel
theorem d_M_least_68 : decode b_M_least 68 = .ok (.iload_n 1, 1) := by decide +kernel
theorem d_M_least_69 : decode b_M_least 69 = .ok (.invokevirtual 135, 3) := by decide +kernel
theorem d_M_least_72 : decode b_M_least 72 = .ok (.istore_n 3, 1) := by decide +kernel
theorem d_M_least_73 : decode b_M_least 73 = .ok (.goto (-52), 3) := by decide +kernel
theorem d_M_least_76 : decode b_M_least 76 = .ok (.iload_n 2, 1) := by decide +kernel
theorem d_M_least_77 : decode b_M_least 77 = .ok (.ireturn, 1) := by decide +kernel
theorem d_M_count_0 : decode b_M_count 0 = .ok (.iconst 0, 1) := by decide +kernel
theorem d_M_count_1 : decode b_M_count 1 = .ok (.istore_n 1, 1) := by decide +kernel
theorem d_M_count_2 : decode b_M_count 2 = .ok (.aload_n 0, 1) := by decide +kernel
theorem d_M_count_3 : decode b_M_count 3 = .ok (.getfield 79, 3) := by decide +kernel
theorem d_M_count_6 : decode b_M_count 6 = .ok (.iconst 0, 1) := by decide +kernel
theorem d_M_count_7 : decode b_M_count 7 = .ok (.iconst 0, 1) := by decide +kernel
theorem d_M_count_8 : decode b_M_count 8 = .ok (.iastore, 1) := by decide +kernel
theorem d_M_count_9 : decode b_M_count 9 = .ok (.aload_n 0, 1) := by decide +kernel
theorem d_M_count_10 : decode b_M_count 10 = .ok (.iconst 0, 1) := by decide +kernel
theorem d_M_count_11 : decode b_M_count 11 = .ok (.invokevirtual 152, 3) := by decide +kernel
theorem d_M_count_14 : decode b_M_count 14 = .ok (.istore_n 2, 1) := by decide +kernel
theorem d_M_count_15 : decode b_M_count 15 = .ok (.iload_n 2, 1) := by decide +kernel
theorem d_M_count_16 : decode b_M_count 16 = .ok (.ifCond .eq 44, 3) := by decide +kernel
theorem d_M_count_19 : decode b_M_count 19 = .ok (.iinc 1 1, 3) := by decide +kernel
theorem d_M_count_22 : decode b_M_count 22 = .ok (.aload_n 0, 1) := by decide +kernel
theorem d_M_count_23 : decode b_M_count 23 = .ok (.getfield 82, 3) := by decide +kernel
theorem d_M_count_26 : decode b_M_count 26 = .ok (.ifCond .ne 5, 3) := by decide +kernel
theorem d_M_count_29 : decode b_M_count 29 = .ok (.iconst 1, 1) := by decide +kernel
theorem d_M_count_30 : decode b_M_count 30 = .ok (.ireturn, 1) := by decide +kernel
theorem d_M_count_31 : decode b_M_count 31 = .ok (.aload_n 0, 1) := by decide +kernel
theorem d_M_count_32 : decode b_M_count 32 = .ok (.getfield 79, 3) := by decide +kernel
theorem d_M_count_35 : decode b_M_count 35 = .ok (.aload_n 0, 1) := by decide +kernel
theorem d_M_count_36 : decode b_M_count 36 = .ok (.getfield 82, 3) := by decide +kernel
theorem d_M_count_39 : decode b_M_count 39 = .ok (.iconst 1, 1) := by decide +kernel
theorem d_M_count_40 : decode b_M_count 40 = .ok (.isub, 1) := by decide +kernel
theorem d_M_count_41 : decode b_M_count 41 = .ok (.dup2, 1) := by decide +kernel
theorem d_M_count_42 : decode b_M_count 42 = .ok (.iaload, 1) := by decide +kernel
theorem d_M_count_43 : decode b_M_count 43 = .ok (.iconst 1, 1) := by decide +kernel
theorem d_M_count_44 : decode b_M_count 44 = .ok (.iadd, 1) := by decide +kernel
theorem d_M_count_45 : decode b_M_count 45 = .ok (.iastore, 1) := by decide +kernel
theorem d_M_count_46 : decode b_M_count 46 = .ok (.aload_n 0, 1) := by decide +kernel
theorem d_M_count_47 : decode b_M_count 47 = .ok (.aload_n 0, 1) := by decide +kernel
theorem d_M_count_48 : decode b_M_count 48 = .ok (.getfield 82, 3) := by decide +kernel
theorem d_M_count_51 : decode b_M_count 51 = .ok (.iconst 1, 1) := by decide +kernel
theorem d_M_count_52 : decode b_M_count 52 = .ok (.isub, 1) := by decide +kernel
theorem d_M_count_53 : decode b_M_count 53 = .ok (.invokevirtual 152, 3) := by decide +kernel
theorem d_M_count_56 : decode b_M_count 56 = .ok (.istore_n 2, 1) := by decide +kernel
theorem d_M_count_57 : decode b_M_count 57 = .ok (.goto (-42), 3) := by decide +kernel
theorem d_M_count_60 : decode b_M_count 60 = .ok (.iload_n 1, 1) := by decide +kernel
theorem d_M_count_61 : decode b_M_count 61 = .ok (.ireturn, 1) := by decide +kernel
theorem d_M_solve_0 : decode b_M_solve 0 = .ok (.iload_n 1, 1) := by decide +kernel
theorem d_M_solve_1 : decode b_M_solve 1 = .ok (.istore_n 2, 1) := by decide +kernel
theorem d_M_solve_2 : decode b_M_solve 2 = .ok (.iload_n 2, 1) := by decide +kernel
theorem d_M_solve_3 : decode b_M_solve 3 = .ok (.ifCond .lt 113, 3) := by decide +kernel
theorem d_M_solve_6 : decode b_M_solve 6 = .ok (.iload_n 2, 1) := by decide +kernel
theorem d_M_solve_7 : decode b_M_solve 7 = .ok (.aload_n 0, 1) := by decide +kernel
theorem d_M_solve_8 : decode b_M_solve 8 = .ok (.getfield 82, 3) := by decide +kernel
theorem d_M_solve_11 : decode b_M_solve 11 = .ok (.if_icmp .ge 105, 3) := by decide +kernel
theorem d_M_solve_14 : decode b_M_solve 14 = .ok (.aload_n 0, 1) := by decide +kernel
theorem d_M_solve_15 : decode b_M_solve 15 = .ok (.getfield 79, 3) := by decide +kernel
theorem d_M_solve_18 : decode b_M_solve 18 = .ok (.iload_n 2, 1) := by decide +kernel
theorem d_M_solve_19 : decode b_M_solve 19 = .ok (.iaload, 1) := by decide +kernel
theorem d_M_solve_20 : decode b_M_solve 20 = .ok (.bipush 6, 2) := by decide +kernel
theorem d_M_solve_22 : decode b_M_solve 22 = .ok (.if_icmp .ge 42, 3) := by decide +kernel
theorem d_M_solve_25 : decode b_M_solve 25 = .ok (.aload_n 0, 1) := by decide +kernel
theorem d_M_solve_26 : decode b_M_solve 26 = .ok (.getfield 7, 3) := by decide +kernel
theorem d_M_solve_29 : decode b_M_solve 29 = .ok (.iload_n 2, 1) := by decide +kernel
theorem d_M_solve_30 : decode b_M_solve 30 = .ok (.iaload, 1) := by decide +kernel
theorem d_M_solve_31 : decode b_M_solve 31 = .ok (.aload_n 0, 1) := by decide +kernel
theorem d_M_solve_32 : decode b_M_solve 32 = .ok (.getfield 79, 3) := by decide +kernel
theorem d_M_solve_35 : decode b_M_solve 35 = .ok (.iload_n 2, 1) := by decide +kernel
theorem d_M_solve_36 : decode b_M_solve 36 = .ok (.iaload, 1) := by decide +kernel
theorem d_M_solve_37 : decode b_M_solve 37 = .ok (.ishr, 1) := by decide +kernel
theorem d_M_solve_38 : decode b_M_solve 38 = .ok (.iconst 1, 1) := by decide +kernel
theorem d_M_solve_39 : decode b_M_solve 39 = .ok (.iand, 1) := by decide +kernel
theorem d_M_solve_40 : decode b_M_solve 40 = .ok (.ifCond .eq 11, 3) := by decide +kernel
theorem d_M_solve_43 : decode b_M_solve 43 = .ok (.aload_n 0, 1) := by decide +kernel
theorem d_M_solve_44 : decode b_M_solve 44 = .ok (.iload_n 2, 1) := by decide +kernel
theorem d_M_solve_45 : decode b_M_solve 45 = .ok (.invokevirtual 149, 3) := by decide +kernel
theorem d_M_solve_48 : decode b_M_solve 48 = .ok (.ifCond .eq 16, 3) := by decide +kernel
theorem d_M_solve_51 : decode b_M_solve 51 = .ok (.aload_n 0, 1) := by decide +kernel
theorem d_M_solve_52 : decode b_M_solve 52 = .ok (.getfield 79, 3) := by decide +kernel
theorem d_M_solve_55 : decode b_M_solve 55 = .ok (.iload_n 2, 1) := by decide +kernel
theorem d_M_solve_56 : decode b_M_solve 56 = .ok (.dup2, 1) := by decide +kernel
theorem d_M_solve_57 : decode b_M_solve 57 = .ok (.iaload, 1) := by decide +kernel
theorem d_M_solve_58 : decode b_M_solve 58 = .ok (.iconst 1, 1) := by decide +kernel
theorem d_M_solve_59 : decode b_M_solve 59 = .ok (.iadd, 1) := by decide +kernel
theorem d_M_solve_60 : decode b_M_solve 60 = .ok (.iastore, 1) := by decide +kernel
theorem d_M_solve_61 : decode b_M_solve 61 = .ok (.goto (-47), 3) := by decide +kernel
theorem d_M_solve_64 : decode b_M_solve 64 = .ok (.aload_n 0, 1) := by decide +kernel
theorem d_M_solve_65 : decode b_M_solve 65 = .ok (.getfield 79, 3) := by decide +kernel
theorem d_M_solve_68 : decode b_M_solve 68 = .ok (.iload_n 2, 1) := by decide +kernel
theorem d_M_solve_69 : decode b_M_solve 69 = .ok (.iaload, 1) := by decide +kernel
theorem d_M_solve_70 : decode b_M_solve 70 = .ok (.bipush 6, 2) := by decide +kernel
theorem d_M_solve_72 : decode b_M_solve 72 = .ok (.if_icmp .ge 24, 3) := by decide +kernel
theorem d_M_solve_75 : decode b_M_solve 75 = .ok (.iinc 2 1, 3) := by decide +kernel
theorem d_M_solve_78 : decode b_M_solve 78 = .ok (.iload_n 2, 1) := by decide +kernel
theorem d_M_solve_79 : decode b_M_solve 79 = .ok (.aload_n 0, 1) := by decide +kernel
theorem d_M_solve_80 : decode b_M_solve 80 = .ok (.getfield 82, 3) := by decide +kernel
theorem d_M_solve_83 : decode b_M_solve 83 = .ok (.if_icmp .ge (-81), 3) := by decide +kernel
theorem d_M_solve_86 : decode b_M_solve 86 = .ok (.aload_n 0, 1) := by decide +kernel
theorem d_M_solve_87 : decode b_M_solve 87 = .ok (.getfield 79, 3) := by decide +kernel
theorem d_M_solve_90 : decode b_M_solve 90 = .ok (.iload_n 2, 1) := by decide +kernel
theorem d_M_solve_91 : decode b_M_solve 91 = .ok (.iconst 0, 1) := by decide +kernel
theorem d_M_solve_92 : decode b_M_solve 92 = .ok (.iastore, 1) := by decide +kernel
theorem d_M_solve_93 : decode b_M_solve 93 = .ok (.goto (-91), 3) := by decide +kernel
theorem d_M_solve_96 : decode b_M_solve 96 = .ok (.iinc 2 (-1), 3) := by decide +kernel
theorem d_M_solve_99 : decode b_M_solve 99 = .ok (.iload_n 2, 1) := by decide +kernel
theorem d_M_solve_100 : decode b_M_solve 100 = .ok (.ifCond .lt (-98), 3) := by decide +kernel
theorem d_M_solve_103 : decode b_M_solve 103 = .ok (.aload_n 0, 1) := by decide +kernel
theorem d_M_solve_104 : decode b_M_solve 104 = .ok (.getfield 79, 3) := by decide +kernel
theorem d_M_solve_107 : decode b_M_solve 107 = .ok (.iload_n 2, 1) := by decide +kernel
theorem d_M_solve_108 : decode b_M_solve 108 = .ok (.dup2, 1) := by decide +kernel
theorem d_M_solve_109 : decode b_M_solve 109 = .ok (.iaload, 1) := by decide +kernel
theorem d_M_solve_110 : decode b_M_solve 110 = .ok (.iconst 1, 1) := by decide +kernel
theorem d_M_solve_111 : decode b_M_solve 111 = .ok (.iadd, 1) := by decide +kernel
theorem d_M_solve_112 : decode b_M_solve 112 = .ok (.iastore, 1) := by decide +kernel
theorem d_M_solve_113 : decode b_M_solve 113 = .ok (.goto (-111), 3) := by decide +kernel
theorem d_M_solve_116 : decode b_M_solve 116 = .ok (.iload_n 2, 1) := by decide +kernel
theorem d_M_solve_117 : decode b_M_solve 117 = .ok (.ifCond .lt 7, 3) := by decide +kernel
theorem d_M_solve_120 : decode b_M_solve 120 = .ok (.iconst 1, 1) := by decide +kernel
theorem d_M_solve_121 : decode b_M_solve 121 = .ok (.goto 4, 3) := by decide +kernel
theorem d_M_solve_124 : decode b_M_solve 124 = .ok (.iconst 0, 1) := by decide +kernel
theorem d_M_solve_125 : decode b_M_solve 125 = .ok (.ireturn, 1) := by decide +kernel
theorem d_M_isBarred_0 : decode b_M_isBarred 0 = .ok (.iconst 0, 1) := by decide +kernel
theorem d_M_isBarred_1 : decode b_M_isBarred 1 = .ok (.istore_n 2, 1) := by decide +kernel
theorem d_M_isBarred_2 : decode b_M_isBarred 2 = .ok (.iload_n 2, 1) := by decide +kernel
theorem d_M_isBarred_3 : decode b_M_isBarred 3 = .ok (.aload_n 0, 1) := by decide +kernel
theorem d_M_isBarred_4 : decode b_M_isBarred 4 = .ok (.getfield 86, 3) := by decide +kernel
theorem d_M_isBarred_7 : decode b_M_isBarred 7 = .ok (.if_icmp .ge 117, 3) := by decide +kernel
theorem d_M_isBarred_10 : decode b_M_isBarred 10 = .ok (.iconst 0, 1) := by decide +kernel
theorem d_M_isBarred_11 : decode b_M_isBarred 11 = .ok (.istore_n 3, 1) := by decide +kernel
theorem d_M_isBarred_12 : decode b_M_isBarred 12 = .ok (.iconst 0, 1) := by decide +kernel
theorem d_M_isBarred_13 : decode b_M_isBarred 13 = .ok (.istore 4, 2) := by decide +kernel
theorem d_M_isBarred_15 : decode b_M_isBarred 15 = .ok (.iload 4, 2) := by decide +kernel
theorem d_M_isBarred_17 : decode b_M_isBarred 17 = .ok (.aload_n 0, 1) := by decide +kernel
theorem d_M_isBarred_18 : decode b_M_isBarred 18 = .ok (.getfield 31, 3) := by decide +kernel
theorem d_M_isBarred_21 : decode b_M_isBarred 21 = .ok (.iload_n 2, 1) := by decide +kernel
theorem d_M_isBarred_22 : decode b_M_isBarred 22 = .ok (.iaload, 1) := by decide +kernel
theorem d_M_isBarred_23 : decode b_M_isBarred 23 = .ok (.if_icmp .ge 36, 3) := by decide +kernel
theorem d_M_isBarred_26 : decode b_M_isBarred 26 = .ok (.aload_n 0, 1) := by decide +kernel
theorem d_M_isBarred_27 : decode b_M_isBarred 27 = .ok (.getfield 37, 3) := by decide +kernel
theorem d_M_isBarred_30 : decode b_M_isBarred 30 = .ok (.bipush 6, 2) := by decide +kernel
theorem d_M_isBarred_32 : decode b_M_isBarred 32 = .ok (.iload_n 2, 1) := by decide +kernel
theorem d_M_isBarred_33 : decode b_M_isBarred 33 = .ok (.imul, 1) := by decide +kernel
theorem d_M_isBarred_34 : decode b_M_isBarred 34 = .ok (.iload 4, 2) := by decide +kernel
theorem d_M_isBarred_36 : decode b_M_isBarred 36 = .ok (.iadd, 1) := by decide +kernel
theorem d_M_isBarred_37 : decode b_M_isBarred 37 = .ok (.iaload, 1) := by decide +kernel
theorem d_M_isBarred_38 : decode b_M_isBarred 38 = .ok (.istore 5, 2) := by decide +kernel
theorem d_M_isBarred_40 : decode b_M_isBarred 40 = .ok (.iload 5, 2) := by decide +kernel
theorem d_M_isBarred_42 : decode b_M_isBarred 42 = .ok (.iload_n 3, 1) := by decide +kernel
theorem d_M_isBarred_43 : decode b_M_isBarred 43 = .ok (.if_icmp .le 8, 3) := by decide +kernel
theorem d_M_isBarred_46 : decode b_M_isBarred 46 = .ok (.iload 5, 2) := by decide +kernel
theorem d_M_isBarred_48 : decode b_M_isBarred 48 = .ok (.goto 4, 3) := by decide +kernel
theorem d_M_isBarred_51 : decode b_M_isBarred 51 = .ok (.iload_n 3, 1) := by decide +kernel
theorem d_M_isBarred_52 : decode b_M_isBarred 52 = .ok (.istore_n 3, 1) := by decide +kernel
theorem d_M_isBarred_53 : decode b_M_isBarred 53 = .ok (.iinc 4 1, 3) := by decide +kernel
theorem d_M_isBarred_56 : decode b_M_isBarred 56 = .ok (.goto (-41), 3) := by decide +kernel
theorem d_M_isBarred_59 : decode b_M_isBarred 59 = .ok (.iload_n 3, 1) := by decide +kernel
theorem d_M_isBarred_60 : decode b_M_isBarred 60 = .ok (.iload_n 1, 1) := by decide +kernel
theorem d_M_isBarred_61 : decode b_M_isBarred 61 = .ok (.if_icmp .ne 57, 3) := by decide +kernel
theorem d_M_isBarred_64 : decode b_M_isBarred 64 = .ok (.iconst 0, 1) := by decide +kernel
theorem d_M_isBarred_65 : decode b_M_isBarred 65 = .ok (.istore 4, 2) := by decide +kernel
theorem d_M_isBarred_67 : decode b_M_isBarred 67 = .ok (.iload 4, 2) := by decide +kernel
theorem d_M_isBarred_69 : decode b_M_isBarred 69 = .ok (.aload_n 0, 1) := by decide +kernel
theorem d_M_isBarred_70 : decode b_M_isBarred 70 = .ok (.getfield 31, 3) := by decide +kernel
theorem d_M_isBarred_73 : decode b_M_isBarred 73 = .ok (.iload_n 2, 1) := by decide +kernel
theorem d_M_isBarred_74 : decode b_M_isBarred 74 = .ok (.iaload, 1) := by decide +kernel
theorem d_M_isBarred_75 : decode b_M_isBarred 75 = .ok (.if_icmp .ge 33, 3) := by decide +kernel
theorem d_M_isBarred_78 : decode b_M_isBarred 78 = .ok (.aload_n 0, 1) := by decide +kernel
theorem d_M_isBarred_79 : decode b_M_isBarred 79 = .ok (.getfield 67, 3) := by decide +kernel
theorem d_M_isBarred_82 : decode b_M_isBarred 82 = .ok (.iload 4, 2) := by decide +kernel
theorem d_M_isBarred_84 : decode b_M_isBarred 84 = .ok (.aload_n 0, 1) := by decide +kernel
theorem d_M_isBarred_85 : decode b_M_isBarred 85 = .ok (.getfield 79, 3) := by decide +kernel
theorem d_M_isBarred_88 : decode b_M_isBarred 88 = .ok (.aload_n 0, 1) := by decide +kernel
theorem d_M_isBarred_89 : decode b_M_isBarred 89 = .ok (.getfield 37, 3) := by decide +kernel
theorem d_M_isBarred_92 : decode b_M_isBarred 92 = .ok (.bipush 6, 2) := by decide +kernel
theorem d_M_isBarred_94 : decode b_M_isBarred 94 = .ok (.iload_n 2, 1) := by decide +kernel
theorem d_M_isBarred_95 : decode b_M_isBarred 95 = .ok (.imul, 1) := by decide +kernel
theorem d_M_isBarred_96 : decode b_M_isBarred 96 = .ok (.iload 4, 2) := by decide +kernel
theorem d_M_isBarred_98 : decode b_M_isBarred 98 = .ok (.iadd, 1) := by decide +kernel
theorem d_M_isBarred_99 : decode b_M_isBarred 99 = .ok (.iaload, 1) := by decide +kernel
theorem d_M_isBarred_100 : decode b_M_isBarred 100 = .ok (.iaload, 1) := by decide +kernel
theorem d_M_isBarred_101 : decode b_M_isBarred 101 = .ok (.iastore, 1) := by decide +kernel
theorem d_M_isBarred_102 : decode b_M_isBarred 102 = .ok (.iinc 4 1, 3) := by decide +kernel
theorem d_M_isBarred_105 : decode b_M_isBarred 105 = .ok (.goto (-38), 3) := by decide +kernel
theorem d_M_isBarred_108 : decode b_M_isBarred 108 = .ok (.aload_n 0, 1) := by decide +kernel
theorem d_M_isBarred_109 : decode b_M_isBarred 109 = .ok (.iload_n 2, 1) := by decide +kernel
theorem d_M_isBarred_110 : decode b_M_isBarred 110 = .ok (.invokevirtual 132, 3) := by decide +kernel
theorem d_M_isBarred_113 : decode b_M_isBarred 113 = .ok (.ifCond .ne 5, 3) := by decide +kernel
theorem d_M_isBarred_116 : decode b_M_isBarred 116 = .ok (.iconst 1, 1) := by decide +kernel
theorem d_M_isBarred_117 : decode b_M_isBarred 117 = .ok (.ireturn, 1) := by decide +kernel
theorem d_M_isBarred_118 : decode b_M_isBarred 118 = .ok (.iinc 2 1, 3) := by decide +kernel
theorem d_M_isBarred_121 : decode b_M_isBarred 121 = .ok (.goto (-119), 3) := by decide +kernel
theorem d_M_isBarred_124 : decode b_M_isBarred 124 = .ok (.iconst 0, 1) := by decide +kernel
theorem d_M_isBarred_125 : decode b_M_isBarred 125 = .ok (.ireturn, 1) := by decide +kernel
theorem d_M_next_0 : decode b_M_next 0 = .ok (.iload_n 1, 1) := by decide +kernel
theorem d_M_next_1 : decode b_M_next 1 = .ok (.iconst (-1), 1) := by decide +kernel
theorem d_M_next_2 : decode b_M_next 2 = .ok (.if_icmp .eq 18, 3) := by decide +kernel
theorem d_M_next_5 : decode b_M_next 5 = .ok (.aload_n 0, 1) := by decide +kernel
theorem d_M_next_6 : decode b_M_next 6 = .ok (.getfield 82, 3) := by decide +kernel
theorem d_M_next_9 : decode b_M_next 9 = .ok (.iload_n 1, 1) := by decide +kernel
theorem d_M_next_10 : decode b_M_next 10 = .ok (.iconst 0, 1) := by decide +kernel
theorem d_M_next_11 : decode b_M_next 11 = .ok (.invokestatic 110, 3) := by decide +kernel
theorem d_M_next_14 : decode b_M_next 14 = .ok (.ifCond .ne 6, 3) := by decide +kernel
theorem d_M_next_17 : decode b_M_next 17 = .ok (.bipush (-2), 2) := by decide +kernel
theorem d_M_next_19 : decode b_M_next 19 = .ok (.ireturn, 1) := by decide +kernel
theorem d_M_next_20 : decode b_M_next 20 = .ok (.aload_n 0, 1) := by decide +kernel
theorem d_M_next_21 : decode b_M_next 21 = .ok (.getfield 82, 3) := by decide +kernel
theorem d_M_next_24 : decode b_M_next 24 = .ok (.ifCond .ne 14, 3) := by decide +kernel
theorem d_M_next_27 : decode b_M_next 27 = .ok (.iload_n 1, 1) := by decide +kernel
theorem d_M_next_28 : decode b_M_next 28 = .ok (.iconst (-1), 1) := by decide +kernel
theorem d_M_next_29 : decode b_M_next 29 = .ok (.if_icmp .ne 7, 3) := by decide +kernel
theorem d_M_next_32 : decode b_M_next 32 = .ok (.iconst 0, 1) := by decide +kernel
theorem d_M_next_33 : decode b_M_next 33 = .ok (.goto 4, 3) := by decide +kernel
theorem d_M_next_36 : decode b_M_next 36 = .ok (.iconst (-1), 1) := by decide +kernel
theorem d_M_next_37 : decode b_M_next 37 = .ok (.ireturn, 1) := by decide +kernel
theorem d_M_next_38 : decode b_M_next 38 = .ok (.iload_n 1, 1) := by decide +kernel
theorem d_M_next_39 : decode b_M_next 39 = .ok (.iconst (-1), 1) := by decide +kernel
theorem d_M_next_40 : decode b_M_next 40 = .ok (.if_icmp .ne 27, 3) := by decide +kernel
theorem d_M_next_43 : decode b_M_next 43 = .ok (.aload_n 0, 1) := by decide +kernel
theorem d_M_next_44 : decode b_M_next 44 = .ok (.getfield 79, 3) := by decide +kernel
theorem d_M_next_47 : decode b_M_next 47 = .ok (.iconst 0, 1) := by decide +kernel
theorem d_M_next_48 : decode b_M_next 48 = .ok (.iconst 0, 1) := by decide +kernel
theorem d_M_next_49 : decode b_M_next 49 = .ok (.iastore, 1) := by decide +kernel
theorem d_M_next_50 : decode b_M_next 50 = .ok (.aload_n 0, 1) := by decide +kernel
theorem d_M_next_51 : decode b_M_next 51 = .ok (.iconst 0, 1) := by decide +kernel
theorem d_M_next_52 : decode b_M_next 52 = .ok (.invokevirtual 152, 3) := by decide +kernel
theorem d_M_next_55 : decode b_M_next 55 = .ok (.ifCond .eq 10, 3) := by decide +kernel
theorem d_M_next_58 : decode b_M_next 58 = .ok (.aload_n 0, 1) := by decide +kernel
theorem d_M_next_59 : decode b_M_next 59 = .ok (.invokevirtual 155, 3) := by decide +kernel
theorem d_M_next_62 : decode b_M_next 62 = .ok (.goto 4, 3) := by decide +kernel
theorem d_M_next_65 : decode b_M_next 65 = .ok (.iconst (-1), 1) := by decide +kernel
theorem d_M_next_66 : decode b_M_next 66 = .ok (.ireturn, 1) := by decide +kernel
theorem d_M_next_67 : decode b_M_next 67 = .ok (.aload_n 0, 1) := by decide +kernel
theorem d_M_next_68 : decode b_M_next 68 = .ok (.getfield 82, 3) := by decide +kernel
theorem d_M_next_71 : decode b_M_next 71 = .ok (.iconst 1, 1) := by decide +kernel
theorem d_M_next_72 : decode b_M_next 72 = .ok (.isub, 1) := by decide +kernel
theorem d_M_next_73 : decode b_M_next 73 = .ok (.istore_n 2, 1) := by decide +kernel
theorem d_M_next_74 : decode b_M_next 74 = .ok (.iload_n 2, 1) := by decide +kernel
theorem d_M_next_75 : decode b_M_next 75 = .ok (.ifCond .lt 119, 3) := by decide +kernel
theorem d_M_next_78 : decode b_M_next 78 = .ok (.iconst 1, 1) := by decide +kernel
theorem d_M_next_79 : decode b_M_next 79 = .ok (.istore_n 3, 1) := by decide +kernel
theorem d_M_next_80 : decode b_M_next 80 = .ok (.iconst 0, 1) := by decide +kernel
theorem d_M_next_81 : decode b_M_next 81 = .ok (.istore 4, 2) := by decide +kernel
theorem d_M_next_83 : decode b_M_next 83 = .ok (.iload 4, 2) := by decide +kernel
theorem d_M_next_85 : decode b_M_next 85 = .ok (.iload_n 2, 1) := by decide +kernel
theorem d_M_next_86 : decode b_M_next 86 = .ok (.if_icmp .ge 65, 3) := by decide +kernel
theorem d_M_next_89 : decode b_M_next 89 = .ok (.iload_n 3, 1) := by decide +kernel
theorem d_M_next_90 : decode b_M_next 90 = .ok (.ifCond .eq 61, 3) := by decide +kernel
theorem d_M_next_93 : decode b_M_next 93 = .ok (.aload_n 0, 1) := by decide +kernel
theorem d_M_next_94 : decode b_M_next 94 = .ok (.getfield 79, 3) := by decide +kernel
theorem d_M_next_97 : decode b_M_next 97 = .ok (.iload 4, 2) := by decide +kernel
theorem d_M_next_99 : decode b_M_next 99 = .ok (.iload_n 1, 1) := by decide +kernel
theorem d_M_next_100 : decode b_M_next 100 = .ok (.iconst 3, 1) := by decide +kernel
theorem d_M_next_101 : decode b_M_next 101 = .ok (.iload 4, 2) := by decide +kernel
theorem d_M_next_103 : decode b_M_next 103 = .ok (.imul, 1) := by decide +kernel
theorem d_M_next_104 : decode b_M_next 104 = .ok (.ishr, 1) := by decide +kernel
theorem d_M_next_105 : decode b_M_next 105 = .ok (.bipush 7, 2) := by decide +kernel
theorem d_M_next_107 : decode b_M_next 107 = .ok (.iand, 1) := by decide +kernel
theorem d_M_next_108 : decode b_M_next 108 = .ok (.iastore, 1) := by decide +kernel
theorem d_M_next_109 : decode b_M_next 109 = .ok (.aload_n 0, 1) := by decide +kernel
theorem d_M_next_110 : decode b_M_next 110 = .ok (.getfield 7, 3) := by decide +kernel
theorem d_M_next_113 : decode b_M_next 113 = .ok (.iload 4, 2) := by decide +kernel
theorem d_M_next_115 : decode b_M_next 115 = .ok (.iaload, 1) := by decide +kernel
theorem d_M_next_116 : decode b_M_next 116 = .ok (.aload_n 0, 1) := by decide +kernel
theorem d_M_next_117 : decode b_M_next 117 = .ok (.getfield 79, 3) := by decide +kernel
theorem d_M_next_120 : decode b_M_next 120 = .ok (.iload 4, 2) := by decide +kernel
theorem d_M_next_122 : decode b_M_next 122 = .ok (.iaload, 1) := by decide +kernel
theorem d_M_next_123 : decode b_M_next 123 = .ok (.ishr, 1) := by decide +kernel
theorem d_M_next_124 : decode b_M_next 124 = .ok (.iconst 1, 1) := by decide +kernel
theorem d_M_next_125 : decode b_M_next 125 = .ok (.iand, 1) := by decide +kernel
theorem d_M_next_126 : decode b_M_next 126 = .ok (.iconst 1, 1) := by decide +kernel
theorem d_M_next_127 : decode b_M_next 127 = .ok (.if_icmp .ne 16, 3) := by decide +kernel
theorem d_M_next_130 : decode b_M_next 130 = .ok (.aload_n 0, 1) := by decide +kernel
theorem d_M_next_131 : decode b_M_next 131 = .ok (.iload 4, 2) := by decide +kernel
theorem d_M_next_133 : decode b_M_next 133 = .ok (.invokevirtual 149, 3) := by decide +kernel
theorem d_M_next_136 : decode b_M_next 136 = .ok (.ifCond .ne 7, 3) := by decide +kernel
theorem d_M_next_139 : decode b_M_next 139 = .ok (.iconst 1, 1) := by decide +kernel
theorem d_M_next_140 : decode b_M_next 140 = .ok (.goto 4, 3) := by decide +kernel
theorem d_M_next_143 : decode b_M_next 143 = .ok (.iconst 0, 1) := by decide +kernel
theorem d_M_next_144 : decode b_M_next 144 = .ok (.istore_n 3, 1) := by decide +kernel
theorem d_M_next_145 : decode b_M_next 145 = .ok (.iinc 4 1, 3) := by decide +kernel
theorem d_M_next_148 : decode b_M_next 148 = .ok (.goto (-65), 3) := by decide +kernel
theorem d_M_next_151 : decode b_M_next 151 = .ok (.iload_n 3, 1) := by decide +kernel
theorem d_M_next_152 : decode b_M_next 152 = .ok (.ifCond .eq 36, 3) := by decide +kernel
theorem d_M_next_155 : decode b_M_next 155 = .ok (.aload_n 0, 1) := by decide +kernel
theorem d_M_next_156 : decode b_M_next 156 = .ok (.getfield 79, 3) := by decide +kernel
theorem d_M_next_159 : decode b_M_next 159 = .ok (.iload_n 2, 1) := by decide +kernel
theorem d_M_next_160 : decode b_M_next 160 = .ok (.iload_n 1, 1) := by decide +kernel
theorem d_M_next_161 : decode b_M_next 161 = .ok (.iconst 3, 1) := by decide +kernel
theorem d_M_next_162 : decode b_M_next 162 = .ok (.iload_n 2, 1) := by decide +kernel
theorem d_M_next_163 : decode b_M_next 163 = .ok (.imul, 1) := by decide +kernel
theorem d_M_next_164 : decode b_M_next 164 = .ok (.ishr, 1) := by decide +kernel
theorem d_M_next_165 : decode b_M_next 165 = .ok (.bipush 7, 2) := by decide +kernel
theorem d_M_next_167 : decode b_M_next 167 = .ok (.iand, 1) := by decide +kernel
theorem d_M_next_168 : decode b_M_next 168 = .ok (.iconst 1, 1) := by decide +kernel
theorem d_M_next_169 : decode b_M_next 169 = .ok (.iadd, 1) := by decide +kernel
theorem d_M_next_170 : decode b_M_next 170 = .ok (.iastore, 1) := by decide +kernel
theorem d_M_next_171 : decode b_M_next 171 = .ok (.aload_n 0, 1) := by decide +kernel
theorem d_M_next_172 : decode b_M_next 172 = .ok (.iload_n 2, 1) := by decide +kernel
theorem d_M_next_173 : decode b_M_next 173 = .ok (.invokevirtual 152, 3) := by decide +kernel
theorem d_M_next_176 : decode b_M_next 176 = .ok (.ifCond .eq 10, 3) := by decide +kernel
theorem d_M_next_179 : decode b_M_next 179 = .ok (.aload_n 0, 1) := by decide +kernel
theorem d_M_next_180 : decode b_M_next 180 = .ok (.invokevirtual 155, 3) := by decide +kernel
theorem d_M_next_183 : decode b_M_next 183 = .ok (.goto 4, 3) := by decide +kernel
theorem d_M_next_186 : decode b_M_next 186 = .ok (.iconst (-1), 1) := by decide +kernel
theorem d_M_next_187 : decode b_M_next 187 = .ok (.ireturn, 1) := by decide +kernel
theorem d_M_next_188 : decode b_M_next 188 = .ok (.iinc 2 (-1), 3) := by decide +kernel
theorem d_M_next_191 : decode b_M_next 191 = .ok (.goto (-117), 3) := by decide +kernel
theorem d_M_next_194 : decode b_M_next 194 = .ok (.iconst (-1), 1) := by decide +kernel
theorem d_M_next_195 : decode b_M_next 195 = .ok (.ireturn, 1) := by decide +kernel
theorem d_M_codeOf_0 : decode b_M_codeOf 0 = .ok (.iconst 0, 1) := by decide +kernel
theorem d_M_codeOf_1 : decode b_M_codeOf 1 = .ok (.istore_n 1, 1) := by decide +kernel
theorem d_M_codeOf_2 : decode b_M_codeOf 2 = .ok (.iconst 0, 1) := by decide +kernel
theorem d_M_codeOf_3 : decode b_M_codeOf 3 = .ok (.istore_n 2, 1) := by decide +kernel
theorem d_M_codeOf_4 : decode b_M_codeOf 4 = .ok (.iload_n 2, 1) := by decide +kernel
theorem d_M_codeOf_5 : decode b_M_codeOf 5 = .ok (.aload_n 0, 1) := by decide +kernel
theorem d_M_codeOf_6 : decode b_M_codeOf 6 = .ok (.getfield 82, 3) := by decide +kernel
theorem d_M_codeOf_9 : decode b_M_codeOf 9 = .ok (.if_icmp .ge 22, 3) := by decide +kernel
theorem d_M_codeOf_12 : decode b_M_codeOf 12 = .ok (.iload_n 1, 1) := by decide +kernel
theorem d_M_codeOf_13 : decode b_M_codeOf 13 = .ok (.aload_n 0, 1) := by decide +kernel
theorem d_M_codeOf_14 : decode b_M_codeOf 14 = .ok (.getfield 79, 3) := by decide +kernel
theorem d_M_codeOf_17 : decode b_M_codeOf 17 = .ok (.iload_n 2, 1) := by decide +kernel
theorem d_M_codeOf_18 : decode b_M_codeOf 18 = .ok (.iaload, 1) := by decide +kernel
theorem d_M_codeOf_19 : decode b_M_codeOf 19 = .ok (.iconst 3, 1) := by decide +kernel
theorem d_M_codeOf_20 : decode b_M_codeOf 20 = .ok (.iload_n 2, 1) := by decide +kernel
theorem d_M_codeOf_21 : decode b_M_codeOf 21 = .ok (.imul, 1) := by decide +kernel
theorem d_M_codeOf_22 : decode b_M_codeOf 22 = .ok (.ishl, 1) := by decide +kernel
theorem d_M_codeOf_23 : decode b_M_codeOf 23 = .ok (.ior, 1) := by decide +kernel
theorem d_M_codeOf_24 : decode b_M_codeOf 24 = .ok (.istore_n 1, 1) := by decide +kernel
theorem d_M_codeOf_25 : decode b_M_codeOf 25 = .ok (.iinc 2 1, 3) := by decide +kernel
theorem d_M_codeOf_28 : decode b_M_codeOf 28 = .ok (.goto (-24), 3) := by decide +kernel
theorem d_M_codeOf_31 : decode b_M_codeOf 31 = .ok (.iload_n 1, 1) := by decide +kernel
theorem d_M_codeOf_32 : decode b_M_codeOf 32 = .ok (.ireturn, 1) := by decide +kernel
theorem d_M_of_0 : decode b_M_of 0 = .ok (.iload_n 1, 1) := by decide +kernel
theorem d_M_of_1 : decode b_M_of 1 = .ok (.iconst 0, 1) := by decide +kernel
theorem d_M_of_2 : decode b_M_of 2 = .ok (.iconst 4, 1) := by decide +kernel
theorem d_M_of_3 : decode b_M_of 3 = .ok (.invokestatic 95, 3) := by decide +kernel
theorem d_M_of_6 : decode b_M_of 6 = .ok (.ifCond .ne 6, 3) := by decide +kernel
theorem d_M_of_9 : decode b_M_of 9 = .ok (.bipush (-2), 2) := by decide +kernel
theorem d_M_of_11 : decode b_M_of 11 = .ok (.ireturn, 1) := by decide +kernel
theorem d_M_of_12 : decode b_M_of 12 = .ok (.iload_n 1, 1) := by decide +kernel
theorem d_M_of_13 : decode b_M_of 13 = .ok (.iconst 4, 1) := by decide +kernel
theorem d_M_of_14 : decode b_M_of 14 = .ok (.if_icmp .ge 43, 3) := by decide +kernel
theorem d_M_of_17 : decode b_M_of 17 = .ok (.iload_n 1, 1) := by decide +kernel
theorem d_M_of_18 : decode b_M_of 18 = .ok (.ifCond .ne 10, 3) := by decide +kernel
theorem d_M_of_21 : decode b_M_of 21 = .ok (.aload_n 0, 1) := by decide +kernel
theorem d_M_of_22 : decode b_M_of 22 = .ok (.getfield 82, 3) := by decide +kernel
theorem d_M_of_25 : decode b_M_of 25 = .ok (.goto 31, 3) := by decide +kernel
theorem d_M_of_28 : decode b_M_of 28 = .ok (.iload_n 1, 1) := by decide +kernel
theorem d_M_of_29 : decode b_M_of 29 = .ok (.iconst 1, 1) := by decide +kernel
theorem d_M_of_30 : decode b_M_of 30 = .ok (.if_icmp .ne 10, 3) := by decide +kernel
theorem d_M_of_33 : decode b_M_of 33 = .ok (.aload_n 0, 1) := by decide +kernel
theorem d_M_of_34 : decode b_M_of 34 = .ok (.getfield 86, 3) := by decide +kernel
theorem d_M_of_37 : decode b_M_of 37 = .ok (.goto 19, 3) := by decide +kernel
theorem d_M_of_40 : decode b_M_of 40 = .ok (.iload_n 1, 1) := by decide +kernel
theorem d_M_of_41 : decode b_M_of 41 = .ok (.iconst 2, 1) := by decide +kernel
theorem d_M_of_42 : decode b_M_of 42 = .ok (.if_icmp .ne 10, 3) := by decide +kernel
theorem d_M_of_45 : decode b_M_of 45 = .ok (.aload_n 0, 1) := by decide +kernel
theorem d_M_of_46 : decode b_M_of 46 = .ok (.getfield 89, 3) := by decide +kernel
theorem d_M_of_49 : decode b_M_of 49 = .ok (.goto 7, 3) := by decide +kernel
theorem d_M_of_52 : decode b_M_of 52 = .ok (.aload_n 0, 1) := by decide +kernel
theorem d_M_of_53 : decode b_M_of 53 = .ok (.getfield 92, 3) := by decide +kernel
theorem d_M_of_56 : decode b_M_of 56 = .ok (.ireturn, 1) := by decide +kernel
theorem d_M_of_57 : decode b_M_of 57 = .ok (.iconst 0, 1) := by decide +kernel
theorem d_M_of_58 : decode b_M_of 58 = .ok (.istore_n 2, 1) := by decide +kernel
theorem d_M_of_59 : decode b_M_of 59 = .ok (.iconst 0, 1) := by decide +kernel
theorem d_M_of_60 : decode b_M_of 60 = .ok (.istore_n 3, 1) := by decide +kernel
theorem d_M_of_61 : decode b_M_of 61 = .ok (.iload_n 3, 1) := by decide +kernel
theorem d_M_of_62 : decode b_M_of 62 = .ok (.aload_n 0, 1) := by decide +kernel
theorem d_M_of_63 : decode b_M_of 63 = .ok (.getfield 82, 3) := by decide +kernel
theorem d_M_of_66 : decode b_M_of 66 = .ok (.if_icmp .ge 39, 3) := by decide +kernel
theorem d_M_of_69 : decode b_M_of 69 = .ok (.iconst 0, 1) := by decide +kernel
theorem d_M_of_70 : decode b_M_of 70 = .ok (.istore 4, 2) := by decide +kernel
theorem d_M_of_72 : decode b_M_of 72 = .ok (.iload 4, 2) := by decide +kernel
theorem d_M_of_74 : decode b_M_of 74 = .ok (.bipush 6, 2) := by decide +kernel
theorem d_M_of_76 : decode b_M_of 76 = .ok (.if_icmp .ge 23, 3) := by decide +kernel
theorem d_M_of_79 : decode b_M_of 79 = .ok (.iload_n 2, 1) := by decide +kernel
theorem d_M_of_80 : decode b_M_of 80 = .ok (.aload_n 0, 1) := by decide +kernel
theorem d_M_of_81 : decode b_M_of 81 = .ok (.getfield 7, 3) := by decide +kernel
theorem d_M_of_84 : decode b_M_of 84 = .ok (.iload_n 3, 1) := by decide +kernel
theorem d_M_of_85 : decode b_M_of 85 = .ok (.iaload, 1) := by decide +kernel
theorem d_M_of_86 : decode b_M_of 86 = .ok (.iload 4, 2) := by decide +kernel
theorem d_M_of_88 : decode b_M_of 88 = .ok (.ishr, 1) := by decide +kernel
theorem d_M_of_89 : decode b_M_of 89 = .ok (.iconst 1, 1) := by decide +kernel
theorem d_M_of_90 : decode b_M_of 90 = .ok (.iand, 1) := by decide +kernel
theorem d_M_of_91 : decode b_M_of 91 = .ok (.iadd, 1) := by decide +kernel
theorem d_M_of_92 : decode b_M_of 92 = .ok (.istore_n 2, 1) := by decide +kernel
theorem d_M_of_93 : decode b_M_of 93 = .ok (.iinc 4 1, 3) := by decide +kernel
theorem d_M_of_96 : decode b_M_of 96 = .ok (.goto (-24), 3) := by decide +kernel
theorem d_M_of_99 : decode b_M_of 99 = .ok (.iinc 3 1, 3) := by decide +kernel
theorem d_M_of_102 : decode b_M_of 102 = .ok (.goto (-41), 3) := by decide +kernel
theorem d_M_of_105 : decode b_M_of 105 = .ok (.iload_n 2, 1) := by decide +kernel
theorem d_M_of_106 : decode b_M_of 106 = .ok (.ireturn, 1) := by decide +kernel
