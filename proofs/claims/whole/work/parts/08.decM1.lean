theorem d_M_look_0 : decode b_M_look 0 = .ok (.iconst 0, 1) := by decide +kernel
theorem d_M_look_1 : decode b_M_look 1 = .ok (.istore_n 2, 1) := by decide +kernel
theorem d_M_look_2 : decode b_M_look 2 = .ok (.iconst 0, 1) := by decide +kernel
theorem d_M_look_3 : decode b_M_look 3 = .ok (.istore_n 3, 1) := by decide +kernel
theorem d_M_look_4 : decode b_M_look 4 = .ok (.iload_n 3, 1) := by decide +kernel
theorem d_M_look_5 : decode b_M_look 5 = .ok (.bipush 6, 2) := by decide +kernel
theorem d_M_look_7 : decode b_M_look 7 = .ok (.if_icmp .ge 16, 3) := by decide +kernel
theorem d_M_look_10 : decode b_M_look 10 = .ok (.aload_n 0, 1) := by decide +kernel
theorem d_M_look_11 : decode b_M_look 11 = .ok (.getfield 76, 3) := by decide +kernel
theorem d_M_look_14 : decode b_M_look 14 = .ok (.iload_n 3, 1) := by decide +kernel
theorem d_M_look_15 : decode b_M_look 15 = .ok (.iconst 0, 1) := by decide +kernel
theorem d_M_look_16 : decode b_M_look 16 = .ok (.iastore, 1) := by decide +kernel
theorem d_M_look_17 : decode b_M_look 17 = .ok (.iinc 3 1, 3) := by decide +kernel
theorem d_M_look_20 : decode b_M_look 20 = .ok (.goto (-16), 3) := by decide +kernel
theorem d_M_look_23 : decode b_M_look 23 = .ok (.aload_n 0, 1) := by decide +kernel
theorem d_M_look_24 : decode b_M_look 24 = .ok (.iload_n 1, 1) := by decide +kernel
theorem d_M_look_25 : decode b_M_look 25 = .ok (.invokevirtual 128, 3) := by decide +kernel
theorem d_M_look_28 : decode b_M_look 28 = .ok (.iconst 1, 1) := by decide +kernel
theorem d_M_look_29 : decode b_M_look 29 = .ok (.istore_n 3, 1) := by decide +kernel
theorem d_M_look_30 : decode b_M_look 30 = .ok (.iload_n 3, 1) := by decide +kernel
theorem d_M_look_31 : decode b_M_look 31 = .ok (.ifCond .eq 121, 3) := by decide +kernel
theorem d_M_look_34 : decode b_M_look 34 = .ok (.iconst 0, 1) := by decide +kernel
theorem d_M_look_35 : decode b_M_look 35 = .ok (.istore 4, 2) := by decide +kernel
theorem d_M_look_37 : decode b_M_look 37 = .ok (.iconst 0, 1) := by decide +kernel
theorem d_M_look_38 : decode b_M_look 38 = .ok (.istore 5, 2) := by decide +kernel
theorem d_M_look_40 : decode b_M_look 40 = .ok (.iload 5, 2) := by decide +kernel
theorem d_M_look_42 : decode b_M_look 42 = .ok (.aload_n 0, 1) := by decide +kernel
theorem d_M_look_43 : decode b_M_look 43 = .ok (.getfield 31, 3) := by decide +kernel
theorem d_M_look_46 : decode b_M_look 46 = .ok (.iload_n 1, 1) := by decide +kernel
theorem d_M_look_47 : decode b_M_look 47 = .ok (.iaload, 1) := by decide +kernel
theorem d_M_look_48 : decode b_M_look 48 = .ok (.if_icmp .ge 41, 3) := by decide +kernel
theorem d_M_look_51 : decode b_M_look 51 = .ok (.iload 4, 2) := by decide +kernel
theorem d_M_look_53 : decode b_M_look 53 = .ok (.ifCond .ne 23, 3) := by decide +kernel
theorem d_M_look_56 : decode b_M_look 56 = .ok (.aload_n 0, 1) := by decide +kernel
theorem d_M_look_57 : decode b_M_look 57 = .ok (.getfield 76, 3) := by decide +kernel
theorem d_M_look_60 : decode b_M_look 60 = .ok (.iload 5, 2) := by decide +kernel
theorem d_M_look_62 : decode b_M_look 62 = .ok (.iaload, 1) := by decide +kernel
theorem d_M_look_63 : decode b_M_look 63 = .ok (.aload_n 0, 1) := by decide +kernel
theorem d_M_look_64 : decode b_M_look 64 = .ok (.getfield 67, 3) := by decide +kernel
theorem d_M_look_67 : decode b_M_look 67 = .ok (.iload 5, 2) := by decide +kernel
theorem d_M_look_69 : decode b_M_look 69 = .ok (.iaload, 1) := by decide +kernel
theorem d_M_look_70 : decode b_M_look 70 = .ok (.ishr, 1) := by decide +kernel
theorem d_M_look_71 : decode b_M_look 71 = .ok (.iconst 1, 1) := by decide +kernel
theorem d_M_look_72 : decode b_M_look 72 = .ok (.iand, 1) := by decide +kernel
theorem d_M_look_73 : decode b_M_look 73 = .ok (.ifCond .ne 7, 3) := by decide +kernel
theorem d_M_look_76 : decode b_M_look 76 = .ok (.iconst 1, 1) := by decide +kernel
theorem d_M_look_77 : decode b_M_look 77 = .ok (.goto 4, 3) := by decide +kernel
theorem d_M_look_80 : decode b_M_look 80 = .ok (.iconst 0, 1) := by decide +kernel
theorem d_M_look_81 : decode b_M_look 81 = .ok (.istore 4, 2) := by decide +kernel
theorem d_M_look_83 : decode b_M_look 83 = .ok (.iinc 5 1, 3) := by decide +kernel
theorem d_M_look_86 : decode b_M_look 86 = .ok (.goto (-46), 3) := by decide +kernel
theorem d_M_look_89 : decode b_M_look 89 = .ok (.iload 4, 2) := by decide +kernel
theorem d_M_look_91 : decode b_M_look 91 = .ok (.ifCond .eq 52, 3) := by decide +kernel
theorem d_M_look_94 : decode b_M_look 94 = .ok (.aload_n 0, 1) := by decide +kernel
theorem d_M_look_95 : decode b_M_look 95 = .ok (.iload_n 1, 1) := by decide +kernel
theorem d_M_look_96 : decode b_M_look 96 = .ok (.invokevirtual 132, 3) := by decide +kernel
theorem d_M_look_99 : decode b_M_look 99 = .ok (.ifCond .eq 44, 3) := by decide +kernel
theorem d_M_look_102 : decode b_M_look 102 = .ok (.iconst 1, 1) := by decide +kernel
theorem d_M_look_103 : decode b_M_look 103 = .ok (.istore_n 2, 1) := by decide +kernel
theorem d_M_look_104 : decode b_M_look 104 = .ok (.iconst 0, 1) := by decide +kernel
theorem d_M_look_105 : decode b_M_look 105 = .ok (.istore 5, 2) := by decide +kernel
theorem d_M_look_107 : decode b_M_look 107 = .ok (.iload 5, 2) := by decide +kernel
theorem d_M_look_109 : decode b_M_look 109 = .ok (.aload_n 0, 1) := by decide +kernel
theorem d_M_look_110 : decode b_M_look 110 = .ok (.getfield 31, 3) := by decide +kernel
theorem d_M_look_113 : decode b_M_look 113 = .ok (.iload_n 1, 1) := by decide +kernel
theorem d_M_look_114 : decode b_M_look 114 = .ok (.iaload, 1) := by decide +kernel
theorem d_M_look_115 : decode b_M_look 115 = .ok (.if_icmp .ge 28, 3) := by decide +kernel
theorem d_M_look_118 : decode b_M_look 118 = .ok (.aload_n 0, 1) := by decide +kernel
theorem d_M_look_119 : decode b_M_look 119 = .ok (.getfield 76, 3) := by decide +kernel
theorem d_M_look_122 : decode b_M_look 122 = .ok (.iload 5, 2) := by decide +kernel
theorem d_M_look_124 : decode b_M_look 124 = .ok (.dup2, 1) := by decide +kernel
theorem d_M_look_125 : decode b_M_look 125 = .ok (.iaload, 1) := by decide +kernel
theorem d_M_look_126 : decode b_M_look 126 = .ok (.iconst 1, 1) := by decide +kernel
theorem d_M_look_127 : decode b_M_look 127 = .ok (.aload_n 0, 1) := by decide +kernel
theorem d_M_look_128 : decode b_M_look 128 = .ok (.getfield 67, 3) := by decide +kernel
theorem d_M_look_131 : decode b_M_look 131 = .ok (.iload 5, 2) := by decide +kernel
theorem d_M_look_133 : decode b_M_look 133 = .ok (.iaload, 1) := by decide +kernel
theorem d_M_look_134 : decode b_M_look 134 = .ok (.ishl, 1) := by decide +kernel
theorem d_M_look_135 : decode b_M_look 135 = .ok (.ior, 1) := by decide +kernel
theorem d_M_look_136 : decode b_M_look 136 = .ok (.iastore, 1) := by decide +kernel
theorem d_M_look_137 : decode b_M_look 137 = .ok (.iinc 5 1, 3) := by decide +kernel
theorem d_M_look_140 : decode b_M_look 140 = .ok (.goto (-33), 3) := by decide +kernel
theorem d_M_look_143 : decode b_M_look 143 = .ok (.aload_n 0, 1) := by decide +kernel
theorem d_M_look_144 : decode b_M_look 144 = .ok (.iload_n 1, 1) := by decide +kernel
theorem d_M_look_145 : decode b_M_look 145 = .ok (.invokevirtual 135, 3) := by decide +kernel
theorem d_M_look_148 : decode b_M_look 148 = .ok (.istore_n 3, 1) := by decide +kernel
theorem d_M_look_149 : decode b_M_look 149 = .ok (.goto (-119), 3) := by decide +kernel
theorem d_M_look_152 : decode b_M_look 152 = .ok (.iload_n 2, 1) := by decide +kernel
theorem d_M_look_153 : decode b_M_look 153 = .ok (.ireturn, 1) := by decide +kernel
theorem d_M_begin_0 : decode b_M_begin 0 = .ok (.iconst 0, 1) := by decide +kernel
theorem d_M_begin_1 : decode b_M_begin 1 = .ok (.istore_n 2, 1) := by decide +kernel
theorem d_M_begin_2 : decode b_M_begin 2 = .ok (.iload_n 2, 1) := by decide +kernel
theorem d_M_begin_3 : decode b_M_begin 3 = .ok (.aload_n 0, 1) := by decide +kernel
theorem d_M_begin_4 : decode b_M_begin 4 = .ok (.getfield 31, 3) := by decide +kernel
theorem d_M_begin_7 : decode b_M_begin 7 = .ok (.iload_n 1, 1) := by decide +kernel
theorem d_M_begin_8 : decode b_M_begin 8 = .ok (.iaload, 1) := by decide +kernel
theorem d_M_begin_9 : decode b_M_begin 9 = .ok (.if_icmp .ge 34, 3) := by decide +kernel
theorem d_M_begin_12 : decode b_M_begin 12 = .ok (.aload_n 0, 1) := by decide +kernel
theorem d_M_begin_13 : decode b_M_begin 13 = .ok (.getfield 67, 3) := by decide +kernel
theorem d_M_begin_16 : decode b_M_begin 16 = .ok (.iload_n 2, 1) := by decide +kernel
theorem d_M_begin_17 : decode b_M_begin 17 = .ok (.aload_n 0, 1) := by decide +kernel
theorem d_M_begin_18 : decode b_M_begin 18 = .ok (.getfield 7, 3) := by decide +kernel
theorem d_M_begin_21 : decode b_M_begin 21 = .ok (.aload_n 0, 1) := by decide +kernel
theorem d_M_begin_22 : decode b_M_begin 22 = .ok (.getfield 37, 3) := by decide +kernel
theorem d_M_begin_25 : decode b_M_begin 25 = .ok (.bipush 6, 2) := by decide +kernel
theorem d_M_begin_27 : decode b_M_begin 27 = .ok (.iload_n 1, 1) := by decide +kernel
theorem d_M_begin_28 : decode b_M_begin 28 = .ok (.imul, 1) := by decide +kernel
theorem d_M_begin_29 : decode b_M_begin 29 = .ok (.iload_n 2, 1) := by decide +kernel
theorem d_M_begin_30 : decode b_M_begin 30 = .ok (.iadd, 1) := by decide +kernel
theorem d_M_begin_31 : decode b_M_begin 31 = .ok (.iaload, 1) := by decide +kernel
theorem d_M_begin_32 : decode b_M_begin 32 = .ok (.iaload, 1) := by decide +kernel
theorem d_M_begin_33 : decode b_M_begin 33 = .ok (.invokestatic 125, 3) := by decide +kernel
theorem d_M_begin_36 : decode b_M_begin 36 = .ok (.iastore, 1) := by decide +kernel
theorem d_M_begin_37 : decode b_M_begin 37 = .ok (.iinc 2 1, 3) := by decide +kernel
theorem d_M_begin_40 : decode b_M_begin 40 = .ok (.goto (-38), 3) := by decide +kernel
theorem d_M_begin_43 : decode b_M_begin 43 = .ok (.return_, 1) := by decide +kernel
theorem d_M_lowest_0 : decode b_M_lowest 0 = .ok (.iconst 0, 1) := by decide +kernel
theorem d_M_lowest_1 : decode b_M_lowest 1 = .ok (.istore_n 1, 1) := by decide +kernel
theorem d_M_lowest_2 : decode b_M_lowest 2 = .ok (.iload_n 0, 1) := by decide +kernel
theorem d_M_lowest_3 : decode b_M_lowest 3 = .ok (.iload_n 1, 1) := by decide +kernel
theorem d_M_lowest_4 : decode b_M_lowest 4 = .ok (.ishr, 1) := by decide +kernel
theorem d_M_lowest_5 : decode b_M_lowest 5 = .ok (.iconst 1, 1) := by decide +kernel
theorem d_M_lowest_6 : decode b_M_lowest 6 = .ok (.iand, 1) := by decide +kernel
theorem d_M_lowest_7 : decode b_M_lowest 7 = .ok (.ifCond .ne 9, 3) := by decide +kernel
theorem d_M_lowest_10 : decode b_M_lowest 10 = .ok (.iinc 1 1, 3) := by decide +kernel
theorem d_M_lowest_13 : decode b_M_lowest 13 = .ok (.goto (-11), 3) := by decide +kernel
theorem d_M_lowest_16 : decode b_M_lowest 16 = .ok (.iload_n 1, 1) := by decide +kernel
theorem d_M_lowest_17 : decode b_M_lowest 17 = .ok (.ireturn, 1) := by decide +kernel
theorem d_M_isAllowed_0 : decode b_M_isAllowed 0 = .ok (.aload_n 0, 1) := by decide +kernel
theorem d_M_isAllowed_1 : decode b_M_isAllowed 1 = .ok (.getfield 31, 3) := by decide +kernel
theorem d_M_isAllowed_4 : decode b_M_isAllowed 4 = .ok (.iload_n 1, 1) := by decide +kernel
theorem d_M_isAllowed_5 : decode b_M_isAllowed 5 = .ok (.iaload, 1) := by decide +kernel
theorem d_M_isAllowed_6 : decode b_M_isAllowed 6 = .ok (.istore_n 2, 1) := by decide +kernel
theorem d_M_isAllowed_7 : decode b_M_isAllowed 7 = .ok (.aload_n 0, 1) := by decide +kernel
theorem d_M_isAllowed_8 : decode b_M_isAllowed 8 = .ok (.getfield 28, 3) := by decide +kernel
theorem d_M_isAllowed_11 : decode b_M_isAllowed 11 = .ok (.iload_n 1, 1) := by decide +kernel
theorem d_M_isAllowed_12 : decode b_M_isAllowed 12 = .ok (.iaload, 1) := by decide +kernel
theorem d_M_isAllowed_13 : decode b_M_isAllowed 13 = .ok (.ifCond .ne 9, 3) := by decide +kernel
theorem d_M_isAllowed_16 : decode b_M_isAllowed 16 = .ok (.aload_n 0, 1) := by decide +kernel
theorem d_M_isAllowed_17 : decode b_M_isAllowed 17 = .ok (.iload_n 1, 1) := by decide +kernel
theorem d_M_isAllowed_18 : decode b_M_isAllowed 18 = .ok (.invokevirtual 114, 3) := by decide +kernel
theorem d_M_isAllowed_21 : decode b_M_isAllowed 21 = .ok (.ireturn, 1) := by decide +kernel
theorem d_M_isAllowed_22 : decode b_M_isAllowed 22 = .ok (.aload_n 0, 1) := by decide +kernel
theorem d_M_isAllowed_23 : decode b_M_isAllowed 23 = .ok (.getfield 28, 3) := by decide +kernel
theorem d_M_isAllowed_26 : decode b_M_isAllowed 26 = .ok (.iload_n 1, 1) := by decide +kernel
theorem d_M_isAllowed_27 : decode b_M_isAllowed 27 = .ok (.iaload, 1) := by decide +kernel
theorem d_M_isAllowed_28 : decode b_M_isAllowed 28 = .ok (.iconst 1, 1) := by decide +kernel
theorem d_M_isAllowed_29 : decode b_M_isAllowed 29 = .ok (.if_icmp .ne 30, 3) := by decide +kernel
theorem d_M_isAllowed_32 : decode b_M_isAllowed 32 = .ok (.aload_n 0, 1) := by decide +kernel
theorem d_M_isAllowed_33 : decode b_M_isAllowed 33 = .ok (.iload_n 1, 1) := by decide +kernel
theorem d_M_isAllowed_34 : decode b_M_isAllowed 34 = .ok (.invokevirtual 118, 3) := by decide +kernel
theorem d_M_isAllowed_37 : decode b_M_isAllowed 37 = .ok (.istore_n 3, 1) := by decide +kernel
theorem d_M_isAllowed_38 : decode b_M_isAllowed 38 = .ok (.iload_n 3, 1) := by decide +kernel
theorem d_M_isAllowed_39 : decode b_M_isAllowed 39 = .ok (.iconst (-1), 1) := by decide +kernel
theorem d_M_isAllowed_40 : decode b_M_isAllowed 40 = .ok (.if_icmp .eq 17, 3) := by decide +kernel
theorem d_M_isAllowed_43 : decode b_M_isAllowed 43 = .ok (.iload_n 3, 1) := by decide +kernel
theorem d_M_isAllowed_44 : decode b_M_isAllowed 44 = .ok (.aload_n 0, 1) := by decide +kernel
theorem d_M_isAllowed_45 : decode b_M_isAllowed 45 = .ok (.getfield 43, 3) := by decide +kernel
theorem d_M_isAllowed_48 : decode b_M_isAllowed 48 = .ok (.iload_n 1, 1) := by decide +kernel
theorem d_M_isAllowed_49 : decode b_M_isAllowed 49 = .ok (.iaload, 1) := by decide +kernel
theorem d_M_isAllowed_50 : decode b_M_isAllowed 50 = .ok (.if_icmp .gt 7, 3) := by decide +kernel
theorem d_M_isAllowed_53 : decode b_M_isAllowed 53 = .ok (.iconst 1, 1) := by decide +kernel
theorem d_M_isAllowed_54 : decode b_M_isAllowed 54 = .ok (.goto 4, 3) := by decide +kernel
theorem d_M_isAllowed_57 : decode b_M_isAllowed 57 = .ok (.iconst 0, 1) := by decide +kernel
theorem d_M_isAllowed_58 : decode b_M_isAllowed 58 = .ok (.ireturn, 1) := by decide +kernel
theorem d_M_isAllowed_59 : decode b_M_isAllowed 59 = .ok (.aload_n 0, 1) := by decide +kernel
theorem d_M_isAllowed_60 : decode b_M_isAllowed 60 = .ok (.getfield 28, 3) := by decide +kernel
theorem d_M_isAllowed_63 : decode b_M_isAllowed 63 = .ok (.iload_n 1, 1) := by decide +kernel
theorem d_M_isAllowed_64 : decode b_M_isAllowed 64 = .ok (.iaload, 1) := by decide +kernel
theorem d_M_isAllowed_65 : decode b_M_isAllowed 65 = .ok (.iconst 2, 1) := by decide +kernel
theorem d_M_isAllowed_66 : decode b_M_isAllowed 66 = .ok (.if_icmp .ne 43, 3) := by decide +kernel
theorem d_M_isAllowed_69 : decode b_M_isAllowed 69 = .ok (.aload_n 0, 1) := by decide +kernel
theorem d_M_isAllowed_70 : decode b_M_isAllowed 70 = .ok (.getfield 67, 3) := by decide +kernel
theorem d_M_isAllowed_73 : decode b_M_isAllowed 73 = .ok (.iconst 0, 1) := by decide +kernel
theorem d_M_isAllowed_74 : decode b_M_isAllowed 74 = .ok (.iaload, 1) := by decide +kernel
theorem d_M_isAllowed_75 : decode b_M_isAllowed 75 = .ok (.iload_n 2, 1) := by decide +kernel
theorem d_M_isAllowed_76 : decode b_M_isAllowed 76 = .ok (.iconst 2, 1) := by decide +kernel
theorem d_M_isAllowed_77 : decode b_M_isAllowed 77 = .ok (.isub, 1) := by decide +kernel
theorem d_M_isAllowed_78 : decode b_M_isAllowed 78 = .ok (.if_icmp .ge 29, 3) := by decide +kernel
theorem d_M_isAllowed_81 : decode b_M_isAllowed 81 = .ok (.aload_n 0, 1) := by decide +kernel
theorem d_M_isAllowed_82 : decode b_M_isAllowed 82 = .ok (.getfield 67, 3) := by decide +kernel
theorem d_M_isAllowed_85 : decode b_M_isAllowed 85 = .ok (.iconst 2, 1) := by decide +kernel
theorem d_M_isAllowed_86 : decode b_M_isAllowed 86 = .ok (.aload_n 0, 1) := by decide +kernel
theorem d_M_isAllowed_87 : decode b_M_isAllowed 87 = .ok (.getfield 67, 3) := by decide +kernel
theorem d_M_isAllowed_90 : decode b_M_isAllowed 90 = .ok (.iconst 0, 1) := by decide +kernel
theorem d_M_isAllowed_91 : decode b_M_isAllowed 91 = .ok (.iaload, 1) := by decide +kernel
theorem d_M_isAllowed_92 : decode b_M_isAllowed 92 = .ok (.iadd, 1) := by decide +kernel
theorem d_M_isAllowed_93 : decode b_M_isAllowed 93 = .ok (.iaload, 1) := by decide +kernel
theorem d_M_isAllowed_94 : decode b_M_isAllowed 94 = .ok (.aload_n 0, 1) := by decide +kernel
theorem d_M_isAllowed_95 : decode b_M_isAllowed 95 = .ok (.getfield 67, 3) := by decide +kernel
theorem d_M_isAllowed_98 : decode b_M_isAllowed 98 = .ok (.iconst 1, 1) := by decide +kernel
theorem d_M_isAllowed_99 : decode b_M_isAllowed 99 = .ok (.iaload, 1) := by decide +kernel
theorem d_M_isAllowed_100 : decode b_M_isAllowed 100 = .ok (.if_icmp .ne 7, 3) := by decide +kernel
theorem d_M_isAllowed_103 : decode b_M_isAllowed 103 = .ok (.iconst 1, 1) := by decide +kernel
theorem d_M_isAllowed_104 : decode b_M_isAllowed 104 = .ok (.goto 4, 3) := by decide +kernel
theorem d_M_isAllowed_107 : decode b_M_isAllowed 107 = .ok (.iconst 0, 1) := by decide +kernel
theorem d_M_isAllowed_108 : decode b_M_isAllowed 108 = .ok (.ireturn, 1) := by decide +kernel
theorem d_M_isAllowed_109 : decode b_M_isAllowed 109 = .ok (.aload_n 0, 1) := by decide +kernel
theorem d_M_isAllowed_110 : decode b_M_isAllowed 110 = .ok (.getfield 28, 3) := by decide +kernel
theorem d_M_isAllowed_113 : decode b_M_isAllowed 113 = .ok (.iload_n 1, 1) := by decide +kernel
theorem d_M_isAllowed_114 : decode b_M_isAllowed 114 = .ok (.iaload, 1) := by decide +kernel
theorem d_M_isAllowed_115 : decode b_M_isAllowed 115 = .ok (.iconst 3, 1) := by decide +kernel
theorem d_M_isAllowed_116 : decode b_M_isAllowed 116 = .ok (.if_icmp .ne 9, 3) := by decide +kernel
theorem d_M_isAllowed_119 : decode b_M_isAllowed 119 = .ok (.aload_n 0, 1) := by decide +kernel
theorem d_M_isAllowed_120 : decode b_M_isAllowed 120 = .ok (.iload_n 1, 1) := by decide +kernel
theorem d_M_isAllowed_121 : decode b_M_isAllowed 121 = .ok (.invokevirtual 122, 3) := by decide +kernel
theorem d_M_isAllowed_124 : decode b_M_isAllowed 124 = .ok (.ireturn, 1) := by decide +kernel
theorem d_M_isAllowed_125 : decode b_M_isAllowed 125 = .ok (.aload_n 0, 1) := by decide +kernel
theorem d_M_isAllowed_126 : decode b_M_isAllowed 126 = .ok (.getfield 28, 3) := by decide +kernel
theorem d_M_isAllowed_129 : decode b_M_isAllowed 129 = .ok (.iload_n 1, 1) := by decide +kernel
theorem d_M_isAllowed_130 : decode b_M_isAllowed 130 = .ok (.iaload, 1) := by decide +kernel
theorem d_M_isAllowed_131 : decode b_M_isAllowed 131 = .ok (.iconst 4, 1) := by decide +kernel
theorem d_M_isAllowed_132 : decode b_M_isAllowed 132 = .ok (.if_icmp .eq 13, 3) := by decide +kernel
theorem d_M_isAllowed_135 : decode b_M_isAllowed 135 = .ok (.aload_n 0, 1) := by decide +kernel
theorem d_M_isAllowed_136 : decode b_M_isAllowed 136 = .ok (.getfield 28, 3) := by decide +kernel
theorem d_M_isAllowed_139 : decode b_M_isAllowed 139 = .ok (.iload_n 1, 1) := by decide +kernel
theorem d_M_isAllowed_140 : decode b_M_isAllowed 140 = .ok (.iaload, 1) := by decide +kernel
theorem d_M_isAllowed_141 : decode b_M_isAllowed 141 = .ok (.iconst 5, 1) := by decide +kernel
theorem d_M_isAllowed_142 : decode b_M_isAllowed 142 = .ok (.if_icmp .ne 81, 3) := by decide +kernel
theorem d_M_isAllowed_145 : decode b_M_isAllowed 145 = .ok (.iconst 0, 1) := by decide +kernel
theorem d_M_isAllowed_146 : decode b_M_isAllowed 146 = .ok (.istore_n 3, 1) := by decide +kernel
theorem d_M_isAllowed_147 : decode b_M_isAllowed 147 = .ok (.iconst 0, 1) := by decide +kernel
theorem d_M_isAllowed_148 : decode b_M_isAllowed 148 = .ok (.istore 4, 2) := by decide +kernel
theorem d_M_isAllowed_150 : decode b_M_isAllowed 150 = .ok (.iload 4, 2) := by decide +kernel
theorem d_M_isAllowed_152 : decode b_M_isAllowed 152 = .ok (.iload_n 2, 1) := by decide +kernel
theorem d_M_isAllowed_153 : decode b_M_isAllowed 153 = .ok (.if_icmp .ge 53, 3) := by decide +kernel
theorem d_M_isAllowed_156 : decode b_M_isAllowed 156 = .ok (.iload_n 3, 1) := by decide +kernel
theorem d_M_isAllowed_157 : decode b_M_isAllowed 157 = .ok (.aload_n 0, 1) := by decide +kernel
theorem d_M_isAllowed_158 : decode b_M_isAllowed 158 = .ok (.getfield 28, 3) := by decide +kernel
theorem d_M_isAllowed_161 : decode b_M_isAllowed 161 = .ok (.iload_n 1, 1) := by decide +kernel
theorem d_M_isAllowed_162 : decode b_M_isAllowed 162 = .ok (.iaload, 1) := by decide +kernel
theorem d_M_isAllowed_163 : decode b_M_isAllowed 163 = .ok (.iconst 4, 1) := by decide +kernel
theorem d_M_isAllowed_164 : decode b_M_isAllowed 164 = .ok (.if_icmp .ne 13, 3) := by decide +kernel
theorem d_M_isAllowed_167 : decode b_M_isAllowed 167 = .ok (.aload_n 0, 1) := by decide +kernel
theorem d_M_isAllowed_168 : decode b_M_isAllowed 168 = .ok (.getfield 67, 3) := by decide +kernel
theorem d_M_isAllowed_171 : decode b_M_isAllowed 171 = .ok (.iload 4, 2) := by decide +kernel
theorem d_M_isAllowed_173 : decode b_M_isAllowed 173 = .ok (.iaload, 1) := by decide +kernel
theorem d_M_isAllowed_174 : decode b_M_isAllowed 174 = .ok (.goto 24, 3) := by decide +kernel
theorem d_M_isAllowed_177 : decode b_M_isAllowed 177 = .ok (.aload_n 0, 1) := by decide +kernel
theorem d_M_isAllowed_178 : decode b_M_isAllowed 178 = .ok (.getfield 67, 3) := by decide +kernel
theorem d_M_isAllowed_181 : decode b_M_isAllowed 181 = .ok (.iload 4, 2) := by decide +kernel
theorem d_M_isAllowed_183 : decode b_M_isAllowed 183 = .ok (.iaload, 1) := by decide +kernel
theorem d_M_isAllowed_184 : decode b_M_isAllowed 184 = .ok (.aload_n 0, 1) := by decide +kernel
theorem d_M_isAllowed_185 : decode b_M_isAllowed 185 = .ok (.getfield 46, 3) := by decide +kernel
theorem d_M_isAllowed_188 : decode b_M_isAllowed 188 = .ok (.iload_n 1, 1) := by decide +kernel
theorem d_M_isAllowed_189 : decode b_M_isAllowed 189 = .ok (.iaload, 1) := by decide +kernel
theorem d_M_isAllowed_190 : decode b_M_isAllowed 190 = .ok (.if_icmp .ne 7, 3) := by decide +kernel
theorem d_M_isAllowed_193 : decode b_M_isAllowed 193 = .ok (.iconst 1, 1) := by decide +kernel
theorem d_M_isAllowed_194 : decode b_M_isAllowed 194 = .ok (.goto 4, 3) := by decide +kernel
theorem d_M_isAllowed_197 : decode b_M_isAllowed 197 = .ok (.iconst 0, 1) := by decide +kernel
theorem d_M_isAllowed_198 : decode b_M_isAllowed 198 = .ok (.iadd, 1) := by decide +kernel
theorem d_M_isAllowed_199 : decode b_M_isAllowed 199 = .ok (.istore_n 3, 1) := by decide +kernel
theorem d_M_isAllowed_200 : decode b_M_isAllowed 200 = .ok (.iinc 4 1, 3) := by decide +kernel
theorem d_M_isAllowed_203 : decode b_M_isAllowed 203 = .ok (.goto (-53), 3) := by decide +kernel
theorem d_M_isAllowed_206 : decode b_M_isAllowed 206 = .ok (.iload_n 3, 1) := by decide +kernel
theorem d_M_isAllowed_207 : decode b_M_isAllowed 207 = .ok (.aload_n 0, 1) := by decide +kernel
theorem d_M_isAllowed_208 : decode b_M_isAllowed 208 = .ok (.getfield 40, 3) := by decide +kernel
theorem d_M_isAllowed_211 : decode b_M_isAllowed 211 = .ok (.iload_n 1, 1) := by decide +kernel
theorem d_M_isAllowed_212 : decode b_M_isAllowed 212 = .ok (.iaload, 1) := by decide +kernel
theorem d_M_isAllowed_213 : decode b_M_isAllowed 213 = .ok (.aload_n 0, 1) := by decide +kernel
theorem d_M_isAllowed_214 : decode b_M_isAllowed 214 = .ok (.getfield 43, 3) := by decide +kernel
theorem d_M_isAllowed_217 : decode b_M_isAllowed 217 = .ok (.iload_n 1, 1) := by decide +kernel
theorem d_M_isAllowed_218 : decode b_M_isAllowed 218 = .ok (.iaload, 1) := by decide +kernel
theorem d_M_isAllowed_219 : decode b_M_isAllowed 219 = .ok (.invokestatic 95, 3) := by decide +kernel
theorem d_M_isAllowed_222 : decode b_M_isAllowed 222 = .ok (.ireturn, 1) := by decide +kernel
theorem d_M_isAllowed_223 : decode b_M_isAllowed 223 = .ok (.iconst 0, 1) := by decide +kernel
theorem d_M_isAllowed_224 : decode b_M_isAllowed 224 = .ok (.istore_n 3, 1) := by decide +kernel
theorem d_M_isAllowed_225 : decode b_M_isAllowed 225 = .ok (.iconst 1, 1) := by decide +kernel
theorem d_M_isAllowed_226 : decode b_M_isAllowed 226 = .ok (.istore 4, 2) := by decide +kernel
theorem d_M_isAllowed_228 : decode b_M_isAllowed 228 = .ok (.iconst 0, 1) := by decide +kernel
theorem d_M_isAllowed_229 : decode b_M_isAllowed 229 = .ok (.istore 5, 2) := by decide +kernel
theorem d_M_isAllowed_231 : decode b_M_isAllowed 231 = .ok (.iload 5, 2) := by decide +kernel
theorem d_M_isAllowed_233 : decode b_M_isAllowed 233 = .ok (.iload_n 2, 1) := by decide +kernel
theorem d_M_isAllowed_234 : decode b_M_isAllowed 234 = .ok (.if_icmp .ge 67, 3) := by decide +kernel
theorem d_M_isAllowed_237 : decode b_M_isAllowed 237 = .ok (.iload 4, 2) := by decide +kernel
theorem d_M_isAllowed_239 : decode b_M_isAllowed 239 = .ok (.ifCond .eq 27, 3) := by decide +kernel
theorem d_M_isAllowed_242 : decode b_M_isAllowed 242 = .ok (.aload_n 0, 1) := by decide +kernel
theorem d_M_isAllowed_243 : decode b_M_isAllowed 243 = .ok (.getfield 67, 3) := by decide +kernel
theorem d_M_isAllowed_246 : decode b_M_isAllowed 246 = .ok (.iload 5, 2) := by decide +kernel
theorem d_M_isAllowed_248 : decode b_M_isAllowed 248 = .ok (.iaload, 1) := by decide +kernel
theorem d_M_isAllowed_249 : decode b_M_isAllowed 249 = .ok (.aload_n 0, 1) := by decide +kernel
theorem d_M_isAllowed_250 : decode b_M_isAllowed 250 = .ok (.getfield 43, 3) := by decide +kernel
theorem d_M_isAllowed_253 : decode b_M_isAllowed 253 = .ok (.iload_n 1, 1) := by decide +kernel
theorem d_M_isAllowed_254 : decode b_M_isAllowed 254 = .ok (.iaload, 1) := by decide +kernel
theorem d_M_isAllowed_255 : decode b_M_isAllowed 255 = .ok (.if_icmp .ne 7, 3) := by decide +kernel
theorem d_M_isAllowed_258 : decode b_M_isAllowed 258 = .ok (.iload_n 3, 1) := by decide +kernel
theorem d_M_isAllowed_259 : decode b_M_isAllowed 259 = .ok (.ifCond .eq 7, 3) := by decide +kernel
theorem d_M_isAllowed_262 : decode b_M_isAllowed 262 = .ok (.iconst 1, 1) := by decide +kernel
theorem d_M_isAllowed_263 : decode b_M_isAllowed 263 = .ok (.goto 4, 3) := by decide +kernel
theorem d_M_isAllowed_266 : decode b_M_isAllowed 266 = .ok (.iconst 0, 1) := by decide +kernel
theorem d_M_isAllowed_267 : decode b_M_isAllowed 267 = .ok (.istore 4, 2) := by decide +kernel
theorem d_M_isAllowed_269 : decode b_M_isAllowed 269 = .ok (.iload_n 3, 1) := by decide +kernel
theorem d_M_isAllowed_270 : decode b_M_isAllowed 270 = .ok (.ifCond .ne 19, 3) := by decide +kernel
theorem d_M_isAllowed_273 : decode b_M_isAllowed 273 = .ok (.aload_n 0, 1) := by decide +kernel
theorem d_M_isAllowed_274 : decode b_M_isAllowed 274 = .ok (.getfield 67, 3) := by decide +kernel
theorem d_M_isAllowed_277 : decode b_M_isAllowed 277 = .ok (.iload 5, 2) := by decide +kernel
theorem d_M_isAllowed_279 : decode b_M_isAllowed 279 = .ok (.iaload, 1) := by decide +kernel
theorem d_M_isAllowed_280 : decode b_M_isAllowed 280 = .ok (.aload_n 0, 1) := by decide +kernel
theorem d_M_isAllowed_281 : decode b_M_isAllowed 281 = .ok (.getfield 40, 3) := by decide +kernel
theorem d_M_isAllowed_284 : decode b_M_isAllowed 284 = .ok (.iload_n 1, 1) := by decide +kernel
theorem d_M_isAllowed_285 : decode b_M_isAllowed 285 = .ok (.iaload, 1) := by decide +kernel
theorem d_M_isAllowed_286 : decode b_M_isAllowed 286 = .ok (.if_icmp .ne 7, 3) := by decide +kernel
theorem d_M_isAllowed_289 : decode b_M_isAllowed 289 = .ok (.iconst 1, 1) := by decide +kernel
theorem d_M_isAllowed_290 : decode b_M_isAllowed 290 = .ok (.goto 4, 3) := by decide +kernel
theorem d_M_isAllowed_293 : decode b_M_isAllowed 293 = .ok (.iconst 0, 1) := by decide +kernel
theorem d_M_isAllowed_294 : decode b_M_isAllowed 294 = .ok (.istore_n 3, 1) := by decide +kernel
theorem d_M_isAllowed_295 : decode b_M_isAllowed 295 = .ok (.iinc 5 1, 3) := by decide +kernel
theorem d_M_isAllowed_298 : decode b_M_isAllowed 298 = .ok (.goto (-67), 3) := by decide +kernel
theorem d_M_isAllowed_301 : decode b_M_isAllowed 301 = .ok (.iload 4, 2) := by decide +kernel
theorem d_M_isAllowed_303 : decode b_M_isAllowed 303 = .ok (.ireturn, 1) := by decide +kernel
theorem d_M_isTuple_0 : decode b_M_isTuple 0 = .ok (.iconst 0, 1) := by decide +kernel
theorem d_M_isTuple_1 : decode b_M_isTuple 1 = .ok (.istore_n 2, 1) := by decide +kernel
theorem d_M_isTuple_2 : decode b_M_isTuple 2 = .ok (.iload_n 2, 1) := by decide +kernel
theorem d_M_isTuple_3 : decode b_M_isTuple 3 = .ok (.aload_n 0, 1) := by decide +kernel
theorem d_M_isTuple_4 : decode b_M_isTuple 4 = .ok (.getfield 49, 3) := by decide +kernel
theorem d_M_isTuple_7 : decode b_M_isTuple 7 = .ok (.iload_n 1, 1) := by decide +kernel
theorem d_M_isTuple_8 : decode b_M_isTuple 8 = .ok (.iaload, 1) := by decide +kernel
theorem d_M_isTuple_9 : decode b_M_isTuple 9 = .ok (.if_icmp .ge 87, 3) := by decide +kernel
theorem d_M_isTuple_12 : decode b_M_isTuple 12 = .ok (.iconst 1, 1) := by decide +kernel
theorem d_M_isTuple_13 : decode b_M_isTuple 13 = .ok (.istore_n 3, 1) := by decide +kernel
theorem d_M_isTuple_14 : decode b_M_isTuple 14 = .ok (.iconst 0, 1) := by decide +kernel
theorem d_M_isTuple_15 : decode b_M_isTuple 15 = .ok (.istore 4, 2) := by decide +kernel
theorem d_M_isTuple_17 : decode b_M_isTuple 17 = .ok (.iload 4, 2) := by decide +kernel
theorem d_M_isTuple_19 : decode b_M_isTuple 19 = .ok (.aload_n 0, 1) := by decide +kernel
theorem d_M_isTuple_20 : decode b_M_isTuple 20 = .ok (.getfield 31, 3) := by decide +kernel
theorem d_M_isTuple_23 : decode b_M_isTuple 23 = .ok (.iload_n 1, 1) := by decide +kernel
theorem d_M_isTuple_24 : decode b_M_isTuple 24 = .ok (.iaload, 1) := by decide +kernel
theorem d_M_isTuple_25 : decode b_M_isTuple 25 = .ok (.if_icmp .ge 59, 3) := by decide +kernel
theorem d_M_isTuple_28 : decode b_M_isTuple 28 = .ok (.aload_n 0, 1) := by decide +kernel
theorem d_M_isTuple_29 : decode b_M_isTuple 29 = .ok (.getfield 52, 3) := by decide +kernel
theorem d_M_isTuple_32 : decode b_M_isTuple 32 = .ok (.bipush 20, 2) := by decide +kernel
theorem d_M_isTuple_34 : decode b_M_isTuple 34 = .ok (.iload_n 1, 1) := by decide +kernel
theorem d_M_isTuple_35 : decode b_M_isTuple 35 = .ok (.imul, 1) := by decide +kernel
theorem d_M_isTuple_36 : decode b_M_isTuple 36 = .ok (.iload_n 2, 1) := by decide +kernel
theorem d_M_isTuple_37 : decode b_M_isTuple 37 = .ok (.iadd, 1) := by decide +kernel
theorem d_M_isTuple_38 : decode b_M_isTuple 38 = .ok (.iaload, 1) := by decide +kernel
theorem d_M_isTuple_39 : decode b_M_isTuple 39 = .ok (.iconst 3, 1) := by decide +kernel
theorem d_M_isTuple_40 : decode b_M_isTuple 40 = .ok (.iload 4, 2) := by decide +kernel
theorem d_M_isTuple_42 : decode b_M_isTuple 42 = .ok (.imul, 1) := by decide +kernel
theorem d_M_isTuple_43 : decode b_M_isTuple 43 = .ok (.ishr, 1) := by decide +kernel
theorem d_M_isTuple_44 : decode b_M_isTuple 44 = .ok (.bipush 7, 2) := by decide +kernel
theorem d_M_isTuple_46 : decode b_M_isTuple 46 = .ok (.iand, 1) := by decide +kernel
theorem d_M_isTuple_47 : decode b_M_isTuple 47 = .ok (.istore 5, 2) := by decide +kernel
theorem d_M_isTuple_49 : decode b_M_isTuple 49 = .ok (.iload_n 3, 1) := by decide +kernel
theorem d_M_isTuple_50 : decode b_M_isTuple 50 = .ok (.ifCond .eq 26, 3) := by decide +kernel
theorem d_M_isTuple_53 : decode b_M_isTuple 53 = .ok (.iload 5, 2) := by decide +kernel
theorem d_M_isTuple_55 : decode b_M_isTuple 55 = .ok (.bipush 7, 2) := by decide +kernel
theorem d_M_isTuple_57 : decode b_M_isTuple 57 = .ok (.if_icmp .eq 15, 3) := by decide +kernel
theorem d_M_isTuple_60 : decode b_M_isTuple 60 = .ok (.iload 5, 2) := by decide +kernel
theorem d_M_isTuple_62 : decode b_M_isTuple 62 = .ok (.aload_n 0, 1) := by decide +kernel
theorem d_M_isTuple_63 : decode b_M_isTuple 63 = .ok (.getfield 67, 3) := by decide +kernel
theorem d_M_isTuple_66 : decode b_M_isTuple 66 = .ok (.iload 4, 2) := by decide +kernel
theorem d_M_isTuple_68 : decode b_M_isTuple 68 = .ok (.iaload, 1) := by decide +kernel
theorem d_M_isTuple_69 : decode b_M_isTuple 69 = .ok (.if_icmp .ne 7, 3) := by decide +kernel
theorem d_M_isTuple_72 : decode b_M_isTuple 72 = .ok (.iconst 1, 1) := by decide +kernel
theorem d_M_isTuple_73 : decode b_M_isTuple 73 = .ok (.goto 4, 3) := by decide +kernel
theorem d_M_isTuple_76 : decode b_M_isTuple 76 = .ok (.iconst 0, 1) := by decide +kernel
theorem d_M_isTuple_77 : decode b_M_isTuple 77 = .ok (.istore_n 3, 1) := by decide +kernel
theorem d_M_isTuple_78 : decode b_M_isTuple 78 = .ok (.iinc 4 1, 3) := by decide +kernel
theorem d_M_isTuple_81 : decode b_M_isTuple 81 = .ok (.goto (-64), 3) := by decide +kernel
theorem d_M_isTuple_84 : decode b_M_isTuple 84 = .ok (.iload_n 3, 1) := by decide +kernel
theorem d_M_isTuple_85 : decode b_M_isTuple 85 = .ok (.ifCond .eq 5, 3) := by decide +kernel
theorem d_M_isTuple_88 : decode b_M_isTuple 88 = .ok (.iconst 1, 1) := by decide +kernel
theorem d_M_isTuple_89 : decode b_M_isTuple 89 = .ok (.ireturn, 1) := by decide +kernel
theorem d_M_isTuple_90 : decode b_M_isTuple 90 = .ok (.iinc 2 1, 3) := by decide +kernel
theorem d_M_isTuple_93 : decode b_M_isTuple 93 = .ok (.goto (-91), 3) := by decide +kernel
theorem d_M_isTuple_96 : decode b_M_isTuple 96 = .ok (.iconst 0, 1) := by decide +kernel
theorem d_M_isTuple_97 : decode b_M_isTuple 97 = .ok (.ireturn, 1) := by decide +kernel
theorem d_M_costOf_0 : decode b_M_costOf 0 = .ok (.iconst 0, 1) := by decide +kernel
theorem d_M_costOf_1 : decode b_M_costOf 1 = .ok (.istore_n 2, 1) := by decide +kernel
theorem d_M_costOf_2 : decode b_M_costOf 2 = .ok (.iload_n 2, 1) := by decide +kernel
theorem d_M_costOf_3 : decode b_M_costOf 3 = .ok (.bipush 6, 2) := by decide +kernel
theorem d_M_costOf_5 : decode b_M_costOf 5 = .ok (.if_icmp .ge 24, 3) := by decide +kernel
theorem d_M_costOf_8 : decode b_M_costOf 8 = .ok (.aload_n 0, 1) := by decide +kernel
theorem d_M_costOf_9 : decode b_M_costOf 9 = .ok (.getfield 70, 3) := by decide +kernel
theorem d_M_costOf_12 : decode b_M_costOf 12 = .ok (.iload_n 2, 1) := by decide +kernel
theorem d_M_costOf_13 : decode b_M_costOf 13 = .ok (.iload_n 2, 1) := by decide +kernel
theorem d_M_costOf_14 : decode b_M_costOf 14 = .ok (.ifCond .ne 7, 3) := by decide +kernel
theorem d_M_costOf_17 : decode b_M_costOf 17 = .ok (.iconst 0, 1) := by decide +kernel
theorem d_M_costOf_18 : decode b_M_costOf 18 = .ok (.goto 4, 3) := by decide +kernel
theorem d_M_costOf_21 : decode b_M_costOf 21 = .ok (.iconst (-1), 1) := by decide +kernel
theorem d_M_costOf_22 : decode b_M_costOf 22 = .ok (.iastore, 1) := by decide +kernel
theorem d_M_costOf_23 : decode b_M_costOf 23 = .ok (.iinc 2 1, 3) := by decide +kernel
theorem d_M_costOf_26 : decode b_M_costOf 26 = .ok (.goto (-24), 3) := by decide +kernel
theorem d_M_costOf_29 : decode b_M_costOf 29 = .ok (.iconst 0, 1) := by decide +kernel
theorem d_M_costOf_30 : decode b_M_costOf 30 = .ok (.istore_n 2, 1) := by decide +kernel
theorem d_M_costOf_31 : decode b_M_costOf 31 = .ok (.iload_n 2, 1) := by decide +kernel
theorem d_M_costOf_32 : decode b_M_costOf 32 = .ok (.aload_n 0, 1) := by decide +kernel
theorem d_M_costOf_33 : decode b_M_costOf 33 = .ok (.getfield 31, 3) := by decide +kernel
theorem d_M_costOf_36 : decode b_M_costOf 36 = .ok (.iload_n 1, 1) := by decide +kernel
theorem d_M_costOf_37 : decode b_M_costOf 37 = .ok (.iaload, 1) := by decide +kernel
theorem d_M_costOf_38 : decode b_M_costOf 38 = .ok (.if_icmp .ge 182, 3) := by decide +kernel
theorem d_M_costOf_41 : decode b_M_costOf 41 = .ok (.iconst 0, 1) := by decide +kernel
theorem d_M_costOf_42 : decode b_M_costOf 42 = .ok (.istore_n 3, 1) := by decide +kernel
theorem d_M_costOf_43 : decode b_M_costOf 43 = .ok (.iload_n 3, 1) := by decide +kernel
theorem d_M_costOf_44 : decode b_M_costOf 44 = .ok (.bipush 6, 2) := by decide +kernel
theorem d_M_costOf_46 : decode b_M_costOf 46 = .ok (.if_icmp .ge 16, 3) := by decide +kernel
theorem d_M_costOf_49 : decode b_M_costOf 49 = .ok (.aload_n 0, 1) := by decide +kernel
theorem d_M_costOf_50 : decode b_M_costOf 50 = .ok (.getfield 73, 3) := by decide +kernel
theorem d_M_costOf_53 : decode b_M_costOf 53 = .ok (.iload_n 3, 1) := by decide +kernel
theorem d_M_costOf_54 : decode b_M_costOf 54 = .ok (.iconst (-1), 1) := by decide +kernel
theorem d_M_costOf_55 : decode b_M_costOf 55 = .ok (.iastore, 1) := by decide +kernel
theorem d_M_costOf_56 : decode b_M_costOf 56 = .ok (.iinc 3 1, 3) := by decide +kernel
theorem d_M_costOf_59 : decode b_M_costOf 59 = .ok (.goto (-16), 3) := by decide +kernel
theorem d_M_costOf_62 : decode b_M_costOf 62 = .ok (.bipush 30, 2) := by decide +kernel
theorem d_M_costOf_64 : decode b_M_costOf 64 = .ok (.iload_n 1, 1) := by decide +kernel
theorem d_M_costOf_65 : decode b_M_costOf 65 = .ok (.imul, 1) := by decide +kernel
theorem d_M_costOf_66 : decode b_M_costOf 66 = .ok (.istore_n 3, 1) := by decide +kernel
theorem d_M_costOf_67 : decode b_M_costOf 67 = .ok (.iload_n 3, 1) := by decide +kernel
theorem d_M_costOf_68 : decode b_M_costOf 68 = .ok (.bipush 30, 2) := by decide +kernel
theorem d_M_costOf_70 : decode b_M_costOf 70 = .ok (.iload_n 1, 1) := by decide +kernel
theorem d_M_costOf_71 : decode b_M_costOf 71 = .ok (.imul, 1) := by decide +kernel
theorem d_M_costOf_72 : decode b_M_costOf 72 = .ok (.aload_n 0, 1) := by decide +kernel
theorem d_M_costOf_73 : decode b_M_costOf 73 = .ok (.getfield 49, 3) := by decide +kernel
theorem d_M_costOf_76 : decode b_M_costOf 76 = .ok (.iload_n 1, 1) := by decide +kernel
theorem d_M_costOf_77 : decode b_M_costOf 77 = .ok (.iaload, 1) := by decide +kernel
theorem d_M_costOf_78 : decode b_M_costOf 78 = .ok (.iadd, 1) := by decide +kernel
theorem d_M_costOf_79 : decode b_M_costOf 79 = .ok (.if_icmp .ge 109, 3) := by decide +kernel
theorem d_M_costOf_82 : decode b_M_costOf 82 = .ok (.aload_n 0, 1) := by decide +kernel
theorem d_M_costOf_83 : decode b_M_costOf 83 = .ok (.getfield 58, 3) := by decide +kernel
theorem d_M_costOf_86 : decode b_M_costOf 86 = .ok (.iload_n 3, 1) := by decide +kernel
theorem d_M_costOf_87 : decode b_M_costOf 87 = .ok (.iaload, 1) := by decide +kernel
theorem d_M_costOf_88 : decode b_M_costOf 88 = .ok (.aload_n 0, 1) := by decide +kernel
theorem d_M_costOf_89 : decode b_M_costOf 89 = .ok (.getfield 67, 3) := by decide +kernel
theorem d_M_costOf_92 : decode b_M_costOf 92 = .ok (.iload_n 2, 1) := by decide +kernel
theorem d_M_costOf_93 : decode b_M_costOf 93 = .ok (.iaload, 1) := by decide +kernel
theorem d_M_costOf_94 : decode b_M_costOf 94 = .ok (.if_icmp .ne 88, 3) := by decide +kernel
theorem d_M_costOf_97 : decode b_M_costOf 97 = .ok (.aload_n 0, 1) := by decide +kernel
theorem d_M_costOf_98 : decode b_M_costOf 98 = .ok (.getfield 70, 3) := by decide +kernel
theorem d_M_costOf_101 : decode b_M_costOf 101 = .ok (.aload_n 0, 1) := by decide +kernel
theorem d_M_costOf_102 : decode b_M_costOf 102 = .ok (.getfield 55, 3) := by decide +kernel
theorem d_M_costOf_105 : decode b_M_costOf 105 = .ok (.iload_n 3, 1) := by decide +kernel
theorem d_M_costOf_106 : decode b_M_costOf 106 = .ok (.iaload, 1) := by decide +kernel
theorem d_M_costOf_107 : decode b_M_costOf 107 = .ok (.iaload, 1) := by decide +kernel
theorem d_M_costOf_108 : decode b_M_costOf 108 = .ok (.iconst (-1), 1) := by decide +kernel
theorem d_M_costOf_109 : decode b_M_costOf 109 = .ok (.if_icmp .eq 73, 3) := by decide +kernel
theorem d_M_costOf_112 : decode b_M_costOf 112 = .ok (.aload_n 0, 1) := by decide +kernel
theorem d_M_costOf_113 : decode b_M_costOf 113 = .ok (.getfield 70, 3) := by decide +kernel
theorem d_M_costOf_116 : decode b_M_costOf 116 = .ok (.aload_n 0, 1) := by decide +kernel
theorem d_M_costOf_117 : decode b_M_costOf 117 = .ok (.getfield 55, 3) := by decide +kernel
theorem d_M_costOf_120 : decode b_M_costOf 120 = .ok (.iload_n 3, 1) := by decide +kernel
theorem d_M_costOf_121 : decode b_M_costOf 121 = .ok (.iaload, 1) := by decide +kernel
theorem d_M_costOf_122 : decode b_M_costOf 122 = .ok (.iaload, 1) := by decide +kernel
theorem d_M_costOf_123 : decode b_M_costOf 123 = .ok (.aload_n 0, 1) := by decide +kernel
theorem d_M_costOf_124 : decode b_M_costOf 124 = .ok (.getfield 64, 3) := by decide +kernel
theorem d_M_costOf_127 : decode b_M_costOf 127 = .ok (.iload_n 3, 1) := by decide +kernel
theorem d_M_costOf_128 : decode b_M_costOf 128 = .ok (.iaload, 1) := by decide +kernel
theorem d_M_costOf_129 : decode b_M_costOf 129 = .ok (.iadd, 1) := by decide +kernel
theorem d_M_costOf_130 : decode b_M_costOf 130 = .ok (.istore 4, 2) := by decide +kernel
theorem d_M_costOf_132 : decode b_M_costOf 132 = .ok (.aload_n 0, 1) := by decide +kernel
theorem d_M_costOf_133 : decode b_M_costOf 133 = .ok (.getfield 61, 3) := by decide +kernel
theorem d_M_costOf_136 : decode b_M_costOf 136 = .ok (.iload_n 3, 1) := by decide +kernel
theorem d_M_costOf_137 : decode b_M_costOf 137 = .ok (.iaload, 1) := by decide +kernel
theorem d_M_costOf_138 : decode b_M_costOf 138 = .ok (.istore 5, 2) := by decide +kernel
theorem d_M_costOf_140 : decode b_M_costOf 140 = .ok (.aload_n 0, 1) := by decide +kernel
theorem d_M_costOf_141 : decode b_M_costOf 141 = .ok (.getfield 73, 3) := by decide +kernel
theorem d_M_costOf_144 : decode b_M_costOf 144 = .ok (.iload 5, 2) := by decide +kernel
theorem d_M_costOf_146 : decode b_M_costOf 146 = .ok (.aload_n 0, 1) := by decide +kernel
theorem d_M_costOf_147 : decode b_M_costOf 147 = .ok (.getfield 73, 3) := by decide +kernel
theorem d_M_costOf_150 : decode b_M_costOf 150 = .ok (.iload 5, 2) := by decide +kernel
theorem d_M_costOf_152 : decode b_M_costOf 152 = .ok (.iaload, 1) := by decide +kernel
theorem d_M_costOf_153 : decode b_M_costOf 153 = .ok (.iconst (-1), 1) := by decide +kernel
theorem d_M_costOf_154 : decode b_M_costOf 154 = .ok (.if_icmp .eq 15, 3) := by decide +kernel
theorem d_M_costOf_157 : decode b_M_costOf 157 = .ok (.iload 4, 2) := by decide +kernel
theorem d_M_costOf_159 : decode b_M_costOf 159 = .ok (.aload_n 0, 1) := by decide +kernel
theorem d_M_costOf_160 : decode b_M_costOf 160 = .ok (.getfield 73, 3) := by decide +kernel
theorem d_M_costOf_163 : decode b_M_costOf 163 = .ok (.iload 5, 2) := by decide +kernel
theorem d_M_costOf_165 : decode b_M_costOf 165 = .ok (.iaload, 1) := by decide +kernel
theorem d_M_costOf_166 : decode b_M_costOf 166 = .ok (.if_icmp .ge 8, 3) := by decide +kernel
theorem d_M_costOf_169 : decode b_M_costOf 169 = .ok (.iload 4, 2) := by decide +kernel
theorem d_M_costOf_171 : decode b_M_costOf 171 = .ok (.goto 10, 3) := by decide +kernel
theorem d_M_costOf_174 : decode b_M_costOf 174 = .ok (.aload_n 0, 1) := by decide +kernel
theorem d_M_costOf_175 : decode b_M_costOf 175 = .ok (.getfield 73, 3) := by decide +kernel
theorem d_M_costOf_178 : decode b_M_costOf 178 = .ok (.iload 5, 2) := by decide +kernel
theorem d_M_costOf_180 : decode b_M_costOf 180 = .ok (.iaload, 1) := by decide +kernel
theorem d_M_costOf_181 : decode b_M_costOf 181 = .ok (.iastore, 1) := by decide +kernel
theorem d_M_costOf_182 : decode b_M_costOf 182 = .ok (.iinc 3 1, 3) := by decide +kernel
theorem d_M_costOf_185 : decode b_M_costOf 185 = .ok (.goto (-118), 3) := by decide +kernel
theorem d_M_costOf_188 : decode b_M_costOf 188 = .ok (.iconst 0, 1) := by decide +kernel
theorem d_M_costOf_189 : decode b_M_costOf 189 = .ok (.istore_n 3, 1) := by decide +kernel
theorem d_M_costOf_190 : decode b_M_costOf 190 = .ok (.iload_n 3, 1) := by decide +kernel
theorem d_M_costOf_191 : decode b_M_costOf 191 = .ok (.bipush 6, 2) := by decide +kernel
theorem d_M_costOf_193 : decode b_M_costOf 193 = .ok (.if_icmp .ge 21, 3) := by decide +kernel
theorem d_M_costOf_196 : decode b_M_costOf 196 = .ok (.aload_n 0, 1) := by decide +kernel
theorem d_M_costOf_197 : decode b_M_costOf 197 = .ok (.getfield 70, 3) := by decide +kernel
theorem d_M_costOf_200 : decode b_M_costOf 200 = .ok (.iload_n 3, 1) := by decide +kernel
theorem d_M_costOf_201 : decode b_M_costOf 201 = .ok (.aload_n 0, 1) := by decide +kernel
theorem d_M_costOf_202 : decode b_M_costOf 202 = .ok (.getfield 73, 3) := by decide +kernel
theorem d_M_costOf_205 : decode b_M_costOf 205 = .ok (.iload_n 3, 1) := by decide +kernel
theorem d_M_costOf_206 : decode b_M_costOf 206 = .ok (.iaload, 1) := by decide +kernel
theorem d_M_costOf_207 : decode b_M_costOf 207 = .ok (.iastore, 1) := by decide +kernel
theorem d_M_costOf_208 : decode b_M_costOf 208 = .ok (.iinc 3 1, 3) := by decide +kernel
theorem d_M_costOf_211 : decode b_M_costOf 211 = .ok (.goto (-21), 3) := by decide +kernel
theorem d_M_costOf_214 : decode b_M_costOf 214 = .ok (.iinc 2 1, 3) := by decide +kernel
theorem d_M_costOf_217 : decode b_M_costOf 217 = .ok (.goto (-186), 3) := by decide +kernel
theorem d_M_costOf_220 : decode b_M_costOf 220 = .ok (.iconst (-1), 1) := by decide +kernel
theorem d_M_costOf_221 : decode b_M_costOf 221 = .ok (.istore_n 2, 1) := by decide +kernel
theorem d_M_costOf_222 : decode b_M_costOf 222 = .ok (.iconst 0, 1) := by decide +kernel
theorem d_M_costOf_223 : decode b_M_costOf 223 = .ok (.istore_n 3, 1) := by decide +kernel
theorem d_M_costOf_224 : decode b_M_costOf 224 = .ok (.iload_n 3, 1) := by decide +kernel
theorem d_M_costOf_225 : decode b_M_costOf 225 = .ok (.bipush 6, 2) := by decide +kernel
theorem d_M_costOf_227 : decode b_M_costOf 227 = .ok (.if_icmp .ge 55, 3) := by decide +kernel
theorem d_M_costOf_230 : decode b_M_costOf 230 = .ok (.aload_n 0, 1) := by decide +kernel
theorem d_M_costOf_231 : decode b_M_costOf 231 = .ok (.getfield 40, 3) := by decide +kernel
theorem d_M_costOf_234 : decode b_M_costOf 234 = .ok (.iload_n 1, 1) := by decide +kernel
theorem d_M_costOf_235 : decode b_M_costOf 235 = .ok (.iaload, 1) := by decide +kernel
theorem d_M_costOf_236 : decode b_M_costOf 236 = .ok (.iload_n 3, 1) := by decide +kernel
theorem d_M_costOf_237 : decode b_M_costOf 237 = .ok (.ishr, 1) := by decide +kernel
theorem d_M_costOf_238 : decode b_M_costOf 238 = .ok (.iconst 1, 1) := by decide +kernel
theorem d_M_costOf_239 : decode b_M_costOf 239 = .ok (.iand, 1) := by decide +kernel
theorem d_M_costOf_240 : decode b_M_costOf 240 = .ok (.iconst 1, 1) := by decide +kernel
theorem d_M_costOf_241 : decode b_M_costOf 241 = .ok (.if_icmp .ne 35, 3) := by decide +kernel
theorem d_M_costOf_244 : decode b_M_costOf 244 = .ok (.aload_n 0, 1) := by decide +kernel
theorem d_M_costOf_245 : decode b_M_costOf 245 = .ok (.getfield 70, 3) := by decide +kernel
theorem d_M_costOf_248 : decode b_M_costOf 248 = .ok (.iload_n 3, 1) := by decide +kernel
theorem d_M_costOf_249 : decode b_M_costOf 249 = .ok (.iaload, 1) := by decide +kernel
theorem d_M_costOf_250 : decode b_M_costOf 250 = .ok (.iconst (-1), 1) := by decide +kernel
theorem d_M_costOf_251 : decode b_M_costOf 251 = .ok (.if_icmp .eq 25, 3) := by decide +kernel
theorem d_M_costOf_254 : decode b_M_costOf 254 = .ok (.iload_n 2, 1) := by decide +kernel
theorem d_M_costOf_255 : decode b_M_costOf 255 = .ok (.iconst (-1), 1) := by decide +kernel
theorem d_M_costOf_256 : decode b_M_costOf 256 = .ok (.if_icmp .eq 13, 3) := by decide +kernel
theorem d_M_costOf_259 : decode b_M_costOf 259 = .ok (.aload_n 0, 1) := by decide +kernel
theorem d_M_costOf_260 : decode b_M_costOf 260 = .ok (.getfield 70, 3) := by decide +kernel
theorem d_M_costOf_263 : decode b_M_costOf 263 = .ok (.iload_n 3, 1) := by decide +kernel
theorem d_M_costOf_264 : decode b_M_costOf 264 = .ok (.iaload, 1) := by decide +kernel
theorem d_M_costOf_265 : decode b_M_costOf 265 = .ok (.iload_n 2, 1) := by decide +kernel
theorem d_M_costOf_266 : decode b_M_costOf 266 = .ok (.if_icmp .ge 10, 3) := by decide +kernel
theorem d_M_costOf_269 : decode b_M_costOf 269 = .ok (.aload_n 0, 1) := by decide +kernel
theorem d_M_costOf_270 : decode b_M_costOf 270 = .ok (.getfield 70, 3) := by decide +kernel
theorem d_M_costOf_273 : decode b_M_costOf 273 = .ok (.iload_n 3, 1) := by decide +kernel
theorem d_M_costOf_274 : decode b_M_costOf 274 = .ok (.iaload, 1) := by decide +kernel
theorem d_M_costOf_275 : decode b_M_costOf 275 = .ok (.istore_n 2, 1) := by decide +kernel
theorem d_M_costOf_276 : decode b_M_costOf 276 = .ok (.iinc 3 1, 3) := by decide +kernel
theorem d_M_costOf_279 : decode b_M_costOf 279 = .ok (.goto (-55), 3) := by decide +kernel
theorem d_M_costOf_282 : decode b_M_costOf 282 = .ok (.iload_n 2, 1) := by decide +kernel
theorem d_M_costOf_283 : decode b_M_costOf 283 = .ok (.ireturn, 1) := by decide +kernel
theorem d_M_isInOrder_0 : decode b_M_isInOrder 0 = .ok (.aload_n 0, 1) := by decide +kernel
theorem d_M_isInOrder_1 : decode b_M_isInOrder 1 = .ok (.getfield 31, 3) := by decide +kernel
theorem d_M_isInOrder_4 : decode b_M_isInOrder 4 = .ok (.iload_n 1, 1) := by decide +kernel
theorem d_M_isInOrder_5 : decode b_M_isInOrder 5 = .ok (.iaload, 1) := by decide +kernel
theorem d_M_isInOrder_6 : decode b_M_isInOrder 6 = .ok (.iconst 2, 1) := by decide +kernel
theorem d_M_isInOrder_7 : decode b_M_isInOrder 7 = .ok (.idiv, 1) := by decide +kernel
theorem d_M_isInOrder_8 : decode b_M_isInOrder 8 = .ok (.istore_n 2, 1) := by decide +kernel
theorem d_M_isInOrder_9 : decode b_M_isInOrder 9 = .ok (.iconst 0, 1) := by decide +kernel
theorem d_M_isInOrder_10 : decode b_M_isInOrder 10 = .ok (.istore_n 3, 1) := by decide +kernel
theorem d_M_isInOrder_11 : decode b_M_isInOrder 11 = .ok (.iload_n 3, 1) := by decide +kernel
theorem d_M_isInOrder_12 : decode b_M_isInOrder 12 = .ok (.iload_n 2, 1) := by decide +kernel
theorem d_M_isInOrder_13 : decode b_M_isInOrder 13 = .ok (.if_icmp .ge 49, 3) := by decide +kernel
theorem d_M_isInOrder_16 : decode b_M_isInOrder 16 = .ok (.aload_n 0, 1) := by decide +kernel
theorem d_M_isInOrder_17 : decode b_M_isInOrder 17 = .ok (.getfield 67, 3) := by decide +kernel
theorem d_M_isInOrder_20 : decode b_M_isInOrder 20 = .ok (.iload_n 3, 1) := by decide +kernel
theorem d_M_isInOrder_21 : decode b_M_isInOrder 21 = .ok (.iaload, 1) := by decide +kernel
theorem d_M_isInOrder_22 : decode b_M_isInOrder 22 = .ok (.aload_n 0, 1) := by decide +kernel
theorem d_M_isInOrder_23 : decode b_M_isInOrder 23 = .ok (.getfield 67, 3) := by decide +kernel
theorem d_M_isInOrder_26 : decode b_M_isInOrder 26 = .ok (.iload_n 2, 1) := by decide +kernel
theorem d_M_isInOrder_27 : decode b_M_isInOrder 27 = .ok (.iload_n 3, 1) := by decide +kernel
theorem d_M_isInOrder_28 : decode b_M_isInOrder 28 = .ok (.iadd, 1) := by decide +kernel
theorem d_M_isInOrder_29 : decode b_M_isInOrder 29 = .ok (.iaload, 1) := by decide +kernel
theorem d_M_isInOrder_30 : decode b_M_isInOrder 30 = .ok (.if_icmp .eq 26, 3) := by decide +kernel
theorem d_M_isInOrder_33 : decode b_M_isInOrder 33 = .ok (.aload_n 0, 1) := by decide +kernel
theorem d_M_isInOrder_34 : decode b_M_isInOrder 34 = .ok (.getfield 67, 3) := by decide +kernel
theorem d_M_isInOrder_37 : decode b_M_isInOrder 37 = .ok (.iload_n 3, 1) := by decide +kernel
theorem d_M_isInOrder_38 : decode b_M_isInOrder 38 = .ok (.iaload, 1) := by decide +kernel
theorem d_M_isInOrder_39 : decode b_M_isInOrder 39 = .ok (.aload_n 0, 1) := by decide +kernel
theorem d_M_isInOrder_40 : decode b_M_isInOrder 40 = .ok (.getfield 67, 3) := by decide +kernel
theorem d_M_isInOrder_43 : decode b_M_isInOrder 43 = .ok (.iload_n 2, 1) := by decide +kernel
theorem d_M_isInOrder_44 : decode b_M_isInOrder 44 = .ok (.iload_n 3, 1) := by decide +kernel
theorem d_M_isInOrder_45 : decode b_M_isInOrder 45 = .ok (.iadd, 1) := by decide +kernel
theorem d_M_isInOrder_46 : decode b_M_isInOrder 46 = .ok (.iaload, 1) := by decide +kernel
theorem d_M_isInOrder_47 : decode b_M_isInOrder 47 = .ok (.if_icmp .ge 7, 3) := by decide +kernel
theorem d_M_isInOrder_50 : decode b_M_isInOrder 50 = .ok (.iconst 1, 1) := by decide +kernel
theorem d_M_isInOrder_51 : decode b_M_isInOrder 51 = .ok (.goto 4, 3) := by decide +kernel
theorem d_M_isInOrder_54 : decode b_M_isInOrder 54 = .ok (.iconst 0, 1) := by decide +kernel
theorem d_M_isInOrder_55 : decode b_M_isInOrder 55 = .ok (.ireturn, 1) := by decide +kernel
theorem d_M_isInOrder_56 : decode b_M_isInOrder 56 = .ok (.iinc 3 1, 3) := by decide +kernel
theorem d_M_isInOrder_59 : decode b_M_isInOrder 59 = .ok (.goto (-48), 3) := by decide +kernel
theorem d_M_isInOrder_62 : decode b_M_isInOrder 62 = .ok (.aload_n 0, 1) := by decide +kernel
theorem d_M_isInOrder_63 : decode b_M_isInOrder 63 = .ok (.getfield 40, 3) := by decide +kernel
theorem d_M_isInOrder_66 : decode b_M_isInOrder 66 = .ok (.iload_n 1, 1) := by decide +kernel
theorem d_M_isInOrder_67 : decode b_M_isInOrder 67 = .ok (.iaload, 1) := by decide +kernel
theorem d_M_isInOrder_68 : decode b_M_isInOrder 68 = .ok (.ifCond .ne 7, 3) := by decide +kernel
theorem d_M_isInOrder_71 : decode b_M_isInOrder 71 = .ok (.iconst 1, 1) := by decide +kernel
theorem d_M_isInOrder_72 : decode b_M_isInOrder 72 = .ok (.goto 4, 3) := by decide +kernel
theorem d_M_isInOrder_75 : decode b_M_isInOrder 75 = .ok (.iconst 0, 1) := by decide +kernel
theorem d_M_isInOrder_76 : decode b_M_isInOrder 76 = .ok (.ireturn, 1) := by decide +kernel
theorem d_M_goOn_0 : decode b_M_goOn 0 = .ok (.iconst 0, 1) := by decide +kernel
theorem d_M_goOn_1 : decode b_M_goOn 1 = .ok (.istore_n 2, 1) := by decide +kernel
theorem d_M_goOn_2 : decode b_M_goOn 2 = .ok (.iload_n 2, 1) := by decide +kernel
theorem d_M_goOn_3 : decode b_M_goOn 3 = .ok (.aload_n 0, 1) := by decide +kernel
theorem d_M_goOn_4 : decode b_M_goOn 4 = .ok (.getfield 31, 3) := by decide +kernel
theorem d_M_goOn_7 : decode b_M_goOn 7 = .ok (.iload_n 1, 1) := by decide +kernel
theorem d_M_goOn_8 : decode b_M_goOn 8 = .ok (.iaload, 1) := by decide +kernel
theorem d_M_goOn_9 : decode b_M_goOn 9 = .ok (.if_icmp .ge 85, 3) := by decide +kernel
theorem d_M_goOn_12 : decode b_M_goOn 12 = .ok (.aload_n 0, 1) := by decide +kernel
theorem d_M_goOn_13 : decode b_M_goOn 13 = .ok (.getfield 7, 3) := by decide +kernel
theorem d_M_goOn_16 : decode b_M_goOn 16 = .ok (.aload_n 0, 1) := by decide +kernel
theorem d_M_goOn_17 : decode b_M_goOn 17 = .ok (.getfield 37, 3) := by decide +kernel
theorem d_M_goOn_20 : decode b_M_goOn 20 = .ok (.bipush 6, 2) := by decide +kernel
theorem d_M_goOn_22 : decode b_M_goOn 22 = .ok (.iload_n 1, 1) := by decide +kernel
theorem d_M_goOn_23 : decode b_M_goOn 23 = .ok (.imul, 1) := by decide +kernel
theorem d_M_goOn_24 : decode b_M_goOn 24 = .ok (.iload_n 2, 1) := by decide +kernel
theorem d_M_goOn_25 : decode b_M_goOn 25 = .ok (.iadd, 1) := by decide +kernel
theorem d_M_goOn_26 : decode b_M_goOn 26 = .ok (.iaload, 1) := by decide +kernel
theorem d_M_goOn_27 : decode b_M_goOn 27 = .ok (.iaload, 1) := by decide +kernel
theorem d_M_goOn_28 : decode b_M_goOn 28 = .ok (.aload_n 0, 1) := by decide +kernel
theorem d_M_goOn_29 : decode b_M_goOn 29 = .ok (.getfield 67, 3) := by decide +kernel
theorem d_M_goOn_32 : decode b_M_goOn 32 = .ok (.iload_n 2, 1) := by decide +kernel
theorem d_M_goOn_33 : decode b_M_goOn 33 = .ok (.iaload, 1) := by decide +kernel
theorem d_M_goOn_34 : decode b_M_goOn 34 = .ok (.iconst 1, 1) := by decide +kernel
theorem d_M_goOn_35 : decode b_M_goOn 35 = .ok (.iadd, 1) := by decide +kernel
theorem d_M_goOn_36 : decode b_M_goOn 36 = .ok (.ishr, 1) := by decide +kernel
theorem d_M_goOn_37 : decode b_M_goOn 37 = .ok (.istore_n 3, 1) := by decide +kernel
theorem d_M_goOn_38 : decode b_M_goOn 38 = .ok (.iload_n 3, 1) := by decide +kernel
theorem d_M_goOn_39 : decode b_M_goOn 39 = .ok (.ifCond .eq 24, 3) := by decide +kernel
theorem d_M_goOn_42 : decode b_M_goOn 42 = .ok (.aload_n 0, 1) := by decide +kernel
theorem d_M_goOn_43 : decode b_M_goOn 43 = .ok (.getfield 67, 3) := by decide +kernel
theorem d_M_goOn_46 : decode b_M_goOn 46 = .ok (.iload_n 2, 1) := by decide +kernel
theorem d_M_goOn_47 : decode b_M_goOn 47 = .ok (.aload_n 0, 1) := by decide +kernel
theorem d_M_goOn_48 : decode b_M_goOn 48 = .ok (.getfield 67, 3) := by decide +kernel
theorem d_M_goOn_51 : decode b_M_goOn 51 = .ok (.iload_n 2, 1) := by decide +kernel
theorem d_M_goOn_52 : decode b_M_goOn 52 = .ok (.iaload, 1) := by decide +kernel
theorem d_M_goOn_53 : decode b_M_goOn 53 = .ok (.iconst 1, 1) := by decide +kernel
theorem d_M_goOn_54 : decode b_M_goOn 54 = .ok (.iadd, 1) := by decide +kernel
theorem d_M_goOn_55 : decode b_M_goOn 55 = .ok (.iload_n 3, 1) := by decide +kernel
theorem d_M_goOn_56 : decode b_M_goOn 56 = .ok (.invokestatic 125, 3) := by decide +kernel
theorem d_M_goOn_59 : decode b_M_goOn 59 = .ok (.iadd, 1) := by decide +kernel
theorem d_M_goOn_60 : decode b_M_goOn 60 = .ok (.iastore, 1) := by decide +kernel
theorem d_M_goOn_61 : decode b_M_goOn 61 = .ok (.iconst 1, 1) := by decide +kernel
theorem d_M_goOn_62 : decode b_M_goOn 62 = .ok (.ireturn, 1) := by decide +kernel
theorem d_M_goOn_63 : decode b_M_goOn 63 = .ok (.aload_n 0, 1) := by decide +kernel
theorem d_M_goOn_64 : decode b_M_goOn 64 = .ok (.getfield 67, 3) := by decide +kernel
theorem d_M_goOn_67 : decode b_M_goOn 67 = .ok (.iload_n 2, 1) := by decide +kernel
theorem d_M_goOn_68 : decode b_M_goOn 68 = .ok (.aload_n 0, 1) := by decide +kernel
theorem d_M_goOn_69 : decode b_M_goOn 69 = .ok (.getfield 7, 3) := by decide +kernel
theorem d_M_goOn_72 : decode b_M_goOn 72 = .ok (.aload_n 0, 1) := by decide +kernel
theorem d_M_goOn_73 : decode b_M_goOn 73 = .ok (.getfield 37, 3) := by decide +kernel
theorem d_M_goOn_76 : decode b_M_goOn 76 = .ok (.bipush 6, 2) := by decide +kernel
theorem d_M_goOn_78 : decode b_M_goOn 78 = .ok (.iload_n 1, 1) := by decide +kernel
theorem d_M_goOn_79 : decode b_M_goOn 79 = .ok (.imul, 1) := by decide +kernel
theorem d_M_goOn_80 : decode b_M_goOn 80 = .ok (.iload_n 2, 1) := by decide +kernel
theorem d_M_goOn_81 : decode b_M_goOn 81 = .ok (.iadd, 1) := by decide +kernel
theorem d_M_goOn_82 : decode b_M_goOn 82 = .ok (.iaload, 1) := by decide +kernel
theorem d_M_goOn_83 : decode b_M_goOn 83 = .ok (.iaload, 1) := by decide +kernel
theorem d_M_goOn_84 : decode b_M_goOn 84 = .ok (.invokestatic 125, 3) := by decide +kernel
theorem d_M_goOn_87 : decode b_M_goOn 87 = .ok (.iastore, 1) := by decide +kernel
theorem d_M_goOn_88 : decode b_M_goOn 88 = .ok (.iinc 2 1, 3) := by decide +kernel
theorem d_M_goOn_91 : decode b_M_goOn 91 = .ok (.goto (-89), 3) := by decide +kernel
theorem d_M_goOn_94 : decode b_M_goOn 94 = .ok (.iconst 0, 1) := by decide +kernel
theorem d_M_goOn_95 : decode b_M_goOn 95 = .ok (.ireturn, 1) := by decide +kernel
theorem d_M_mark_0 : decode b_M_mark 0 = .ok (.aload_n 0, 1) := by decide +kernel
theorem d_M_mark_1 : decode b_M_mark 1 = .ok (.getfield 89, 3) := by decide +kernel
theorem d_M_mark_4 : decode b_M_mark 4 = .ok (.bipush 8, 2) := by decide +kernel
theorem d_M_mark_6 : decode b_M_mark 6 = .ok (.if_icmp .ne 6, 3) := by decide +kernel
theorem d_M_mark_9 : decode b_M_mark 9 = .ok (.bipush (-3), 2) := by decide +kernel
theorem d_M_mark_11 : decode b_M_mark 11 = .ok (.ireturn, 1) := by decide +kernel
theorem d_M_mark_12 : decode b_M_mark 12 = .ok (.iconst 0, 1) := by decide +kernel
theorem d_M_mark_13 : decode b_M_mark 13 = .ok (.istore_n 1, 1) := by decide +kernel
theorem d_M_mark_14 : decode b_M_mark 14 = .ok (.iload_n 1, 1) := by decide +kernel
theorem d_M_mark_15 : decode b_M_mark 15 = .ok (.aload_n 0, 1) := by decide +kernel
theorem d_M_mark_16 : decode b_M_mark 16 = .ok (.getfield 82, 3) := by decide +kernel
theorem d_M_mark_19 : decode b_M_mark 19 = .ok (.if_icmp .ge 29, 3) := by decide +kernel
theorem d_M_mark_22 : decode b_M_mark 22 = .ok (.aload_n 0, 1) := by decide +kernel
theorem d_M_mark_23 : decode b_M_mark 23 = .ok (.getfield 19, 3) := by decide +kernel
theorem d_M_mark_26 : decode b_M_mark 26 = .ok (.bipush 6, 2) := by decide +kernel
theorem d_M_mark_28 : decode b_M_mark 28 = .ok (.aload_n 0, 1) := by decide +kernel
theorem d_M_mark_29 : decode b_M_mark 29 = .ok (.getfield 89, 3) := by decide +kernel
theorem d_M_mark_32 : decode b_M_mark 32 = .ok (.imul, 1) := by decide +kernel
theorem d_M_mark_33 : decode b_M_mark 33 = .ok (.iload_n 1, 1) := by decide +kernel
theorem d_M_mark_34 : decode b_M_mark 34 = .ok (.iadd, 1) := by decide +kernel
theorem d_M_mark_35 : decode b_M_mark 35 = .ok (.aload_n 0, 1) := by decide +kernel
theorem d_M_mark_36 : decode b_M_mark 36 = .ok (.getfield 7, 3) := by decide +kernel
theorem d_M_mark_39 : decode b_M_mark 39 = .ok (.iload_n 1, 1) := by decide +kernel
theorem d_M_mark_40 : decode b_M_mark 40 = .ok (.iaload, 1) := by decide +kernel
theorem d_M_mark_41 : decode b_M_mark 41 = .ok (.iastore, 1) := by decide +kernel
theorem d_M_mark_42 : decode b_M_mark 42 = .ok (.iinc 1 1, 3) := by decide +kernel
theorem d_M_mark_45 : decode b_M_mark 45 = .ok (.goto (-31), 3) := by decide +kernel
theorem d_M_mark_48 : decode b_M_mark 48 = .ok (.iconst 0, 1) := by decide +kernel
theorem d_M_mark_49 : decode b_M_mark 49 = .ok (.istore_n 1, 1) := by decide +kernel
theorem d_M_mark_50 : decode b_M_mark 50 = .ok (.iload_n 1, 1) := by decide +kernel
theorem d_M_mark_51 : decode b_M_mark 51 = .ok (.bipush 6, 2) := by decide +kernel
theorem d_M_mark_53 : decode b_M_mark 53 = .ok (.aload_n 0, 1) := by decide +kernel
theorem d_M_mark_54 : decode b_M_mark 54 = .ok (.getfield 82, 3) := by decide +kernel
theorem d_M_mark_57 : decode b_M_mark 57 = .ok (.imul, 1) := by decide +kernel
theorem d_M_mark_58 : decode b_M_mark 58 = .ok (.if_icmp .ge 49, 3) := by decide +kernel
theorem d_M_mark_61 : decode b_M_mark 61 = .ok (.aload_n 0, 1) := by decide +kernel
theorem d_M_mark_62 : decode b_M_mark 62 = .ok (.getfield 22, 3) := by decide +kernel
theorem d_M_mark_65 : decode b_M_mark 65 = .ok (.bipush 36, 2) := by decide +kernel
theorem d_M_mark_67 : decode b_M_mark 67 = .ok (.aload_n 0, 1) := by decide +kernel
theorem d_M_mark_68 : decode b_M_mark 68 = .ok (.getfield 89, 3) := by decide +kernel
theorem d_M_mark_71 : decode b_M_mark 71 = .ok (.imul, 1) := by decide +kernel
theorem d_M_mark_72 : decode b_M_mark 72 = .ok (.iload_n 1, 1) := by decide +kernel
theorem d_M_mark_73 : decode b_M_mark 73 = .ok (.iadd, 1) := by decide +kernel
theorem d_M_mark_74 : decode b_M_mark 74 = .ok (.aload_n 0, 1) := by decide +kernel
theorem d_M_mark_75 : decode b_M_mark 75 = .ok (.getfield 13, 3) := by decide +kernel
theorem d_M_mark_78 : decode b_M_mark 78 = .ok (.iload_n 1, 1) := by decide +kernel
theorem d_M_mark_79 : decode b_M_mark 79 = .ok (.iaload, 1) := by decide +kernel
theorem d_M_mark_80 : decode b_M_mark 80 = .ok (.iastore, 1) := by decide +kernel
theorem d_M_mark_81 : decode b_M_mark 81 = .ok (.aload_n 0, 1) := by decide +kernel
theorem d_M_mark_82 : decode b_M_mark 82 = .ok (.getfield 25, 3) := by decide +kernel
theorem d_M_mark_85 : decode b_M_mark 85 = .ok (.bipush 36, 2) := by decide +kernel
theorem d_M_mark_87 : decode b_M_mark 87 = .ok (.aload_n 0, 1) := by decide +kernel
theorem d_M_mark_88 : decode b_M_mark 88 = .ok (.getfield 89, 3) := by decide +kernel
theorem d_M_mark_91 : decode b_M_mark 91 = .ok (.imul, 1) := by decide +kernel
theorem d_M_mark_92 : decode b_M_mark 92 = .ok (.iload_n 1, 1) := by decide +kernel
theorem d_M_mark_93 : decode b_M_mark 93 = .ok (.iadd, 1) := by decide +kernel
theorem d_M_mark_94 : decode b_M_mark 94 = .ok (.aload_n 0, 1) := by decide +kernel
theorem d_M_mark_95 : decode b_M_mark 95 = .ok (.getfield 16, 3) := by decide +kernel
theorem d_M_mark_98 : decode b_M_mark 98 = .ok (.iload_n 1, 1) := by decide +kernel
theorem d_M_mark_99 : decode b_M_mark 99 = .ok (.iaload, 1) := by decide +kernel
theorem d_M_mark_100 : decode b_M_mark 100 = .ok (.iastore, 1) := by decide +kernel
theorem d_M_mark_101 : decode b_M_mark 101 = .ok (.iinc 1 1, 3) := by decide +kernel
theorem d_M_mark_104 : decode b_M_mark 104 = .ok (.goto (-54), 3) := by decide +kernel
theorem d_M_mark_107 : decode b_M_mark 107 = .ok (.aload_n 0, 1) := by decide +kernel
theorem d_M_mark_108 : decode b_M_mark 108 = .ok (.dup, 1) := by decide +kernel
theorem d_M_mark_109 : decode b_M_mark 109 = .ok (.getfield 89, 3) := by decide +kernel
theorem d_M_mark_112 : decode b_M_mark 112 = .ok (.iconst 1, 1) := by decide +kernel
theorem d_M_mark_113 : decode b_M_mark 113 = .ok (.iadd, 1) := by decide +kernel
theorem d_M_mark_114 : decode b_M_mark 114 = .ok (.putfield 89, 3) := by decide +kernel
theorem d_M_mark_117 : decode b_M_mark 117 = .ok (.aload_n 0, 1) := by decide +kernel
theorem d_M_mark_118 : decode b_M_mark 118 = .ok (.getfield 89, 3) := by decide +kernel
theorem d_M_mark_121 : decode b_M_mark 121 = .ok (.ireturn, 1) := by decide +kernel
theorem d_M_back_0 : decode b_M_back 0 = .ok (.aload_n 0, 1) := by decide +kernel
theorem d_M_back_1 : decode b_M_back 1 = .ok (.getfield 89, 3) := by decide +kernel
theorem d_M_back_4 : decode b_M_back 4 = .ok (.ifCond .ne 5, 3) := by decide +kernel
theorem d_M_back_7 : decode b_M_back 7 = .ok (.iconst (-1), 1) := by decide +kernel
theorem d_M_back_8 : decode b_M_back 8 = .ok (.ireturn, 1) := by decide +kernel
theorem d_M_back_9 : decode b_M_back 9 = .ok (.aload_n 0, 1) := by decide +kernel
theorem d_M_back_10 : decode b_M_back 10 = .ok (.dup, 1) := by decide +kernel
theorem d_M_back_11 : decode b_M_back 11 = .ok (.getfield 89, 3) := by decide +kernel
theorem d_M_back_14 : decode b_M_back 14 = .ok (.iconst 1, 1) := by decide +kernel
theorem d_M_back_15 : decode b_M_back 15 = .ok (.isub, 1) := by decide +kernel
theorem d_M_back_16 : decode b_M_back 16 = .ok (.putfield 89, 3) := by decide +kernel
theorem d_M_back_19 : decode b_M_back 19 = .ok (.iconst 0, 1) := by decide +kernel
theorem d_M_back_20 : decode b_M_back 20 = .ok (.istore_n 1, 1) := by decide +kernel
theorem d_M_back_21 : decode b_M_back 21 = .ok (.iload_n 1, 1) := by decide +kernel
theorem d_M_back_22 : decode b_M_back 22 = .ok (.aload_n 0, 1) := by decide +kernel
theorem d_M_back_23 : decode b_M_back 23 = .ok (.getfield 82, 3) := by decide +kernel
theorem d_M_back_26 : decode b_M_back 26 = .ok (.if_icmp .ge 29, 3) := by decide +kernel
theorem d_M_back_29 : decode b_M_back 29 = .ok (.aload_n 0, 1) := by decide +kernel
theorem d_M_back_30 : decode b_M_back 30 = .ok (.getfield 7, 3) := by decide +kernel
theorem d_M_back_33 : decode b_M_back 33 = .ok (.iload_n 1, 1) := by decide +kernel
theorem d_M_back_34 : decode b_M_back 34 = .ok (.aload_n 0, 1) := by decide +kernel
theorem d_M_back_35 : decode b_M_back 35 = .ok (.getfield 19, 3) := by decide +kernel
theorem d_M_back_38 : decode b_M_back 38 = .ok (.bipush 6, 2) := by decide +kernel
theorem d_M_back_40 : decode b_M_back 40 = .ok (.aload_n 0, 1) := by decide +kernel
theorem d_M_back_41 : decode b_M_back 41 = .ok (.getfield 89, 3) := by decide +kernel
theorem d_M_back_44 : decode b_M_back 44 = .ok (.imul, 1) := by decide +kernel
theorem d_M_back_45 : decode b_M_back 45 = .ok (.iload_n 1, 1) := by decide +kernel
theorem d_M_back_46 : decode b_M_back 46 = .ok (.iadd, 1) := by decide +kernel
theorem d_M_back_47 : decode b_M_back 47 = .ok (.iaload, 1) := by decide +kernel
theorem d_M_back_48 : decode b_M_back 48 = .ok (.iastore, 1) := by decide +kernel
theorem d_M_back_49 : decode b_M_back 49 = .ok (.iinc 1 1, 3) := by decide +kernel
theorem d_M_back_52 : decode b_M_back 52 = .ok (.goto (-31), 3) := by decide +kernel
theorem d_M_back_55 : decode b_M_back 55 = .ok (.iconst 0, 1) := by decide +kernel
theorem d_M_back_56 : decode b_M_back 56 = .ok (.istore_n 1, 1) := by decide +kernel
theorem d_M_back_57 : decode b_M_back 57 = .ok (.iload_n 1, 1) := by decide +kernel
theorem d_M_back_58 : decode b_M_back 58 = .ok (.bipush 6, 2) := by decide +kernel
theorem d_M_back_60 : decode b_M_back 60 = .ok (.aload_n 0, 1) := by decide +kernel
theorem d_M_back_61 : decode b_M_back 61 = .ok (.getfield 82, 3) := by decide +kernel
theorem d_M_back_64 : decode b_M_back 64 = .ok (.imul, 1) := by decide +kernel
theorem d_M_back_65 : decode b_M_back 65 = .ok (.if_icmp .ge 49, 3) := by decide +kernel
theorem d_M_back_68 : decode b_M_back 68 = .ok (.aload_n 0, 1) := by decide +kernel
theorem d_M_back_69 : decode b_M_back 69 = .ok (.getfield 13, 3) := by decide +kernel
theorem d_M_back_72 : decode b_M_back 72 = .ok (.iload_n 1, 1) := by decide +kernel
theorem d_M_back_73 : decode b_M_back 73 = .ok (.aload_n 0, 1) := by decide +kernel
theorem d_M_back_74 : decode b_M_back 74 = .ok (.getfield 22, 3) := by decide +kernel
theorem d_M_back_77 : decode b_M_back 77 = .ok (.bipush 36, 2) := by decide +kernel
theorem d_M_back_79 : decode b_M_back 79 = .ok (.aload_n 0, 1) := by decide +kernel
theorem d_M_back_80 : decode b_M_back 80 = .ok (.getfield 89, 3) := by decide +kernel
theorem d_M_back_83 : decode b_M_back 83 = .ok (.imul, 1) := by decide +kernel
theorem d_M_back_84 : decode b_M_back 84 = .ok (.iload_n 1, 1) := by decide +kernel
theorem d_M_back_85 : decode b_M_back 85 = .ok (.iadd, 1) := by decide +kernel
theorem d_M_back_86 : decode b_M_back 86 = .ok (.iaload, 1) := by decide +kernel
theorem d_M_back_87 : decode b_M_back 87 = .ok (.iastore, 1) := by decide +kernel
theorem d_M_back_88 : decode b_M_back 88 = .ok (.aload_n 0, 1) := by decide +kernel
theorem d_M_back_89 : decode b_M_back 89 = .ok (.getfield 16, 3) := by decide +kernel
theorem d_M_back_92 : decode b_M_back 92 = .ok (.iload_n 1, 1) := by decide +kernel
theorem d_M_back_93 : decode b_M_back 93 = .ok (.aload_n 0, 1) := by decide +kernel
theorem d_M_back_94 : decode b_M_back 94 = .ok (.getfield 25, 3) := by decide +kernel
theorem d_M_back_97 : decode b_M_back 97 = .ok (.bipush 36, 2) := by decide +kernel
theorem d_M_back_99 : decode b_M_back 99 = .ok (.aload_n 0, 1) := by decide +kernel
theorem d_M_back_100 : decode b_M_back 100 = .ok (.getfield 89, 3) := by decide +kernel
theorem d_M_back_103 : decode b_M_back 103 = .ok (.imul, 1) := by decide +kernel
theorem d_M_back_104 : decode b_M_back 104 = .ok (.iload_n 1, 1) := by decide +kernel
theorem d_M_back_105 : decode b_M_back 105 = .ok (.iadd, 1) := by decide +kernel
theorem d_M_back_106 : decode b_M_back 106 = .ok (.iaload, 1) := by decide +kernel
theorem d_M_back_107 : decode b_M_back 107 = .ok (.iastore, 1) := by decide +kernel
theorem d_M_back_108 : decode b_M_back 108 = .ok (.iinc 1 1, 3) := by decide +kernel
theorem d_M_back_111 : decode b_M_back 111 = .ok (.goto (-54), 3) := by decide +kernel
theorem d_M_back_114 : decode b_M_back 114 = .ok (.aload_n 0, 1) := by decide +kernel
theorem d_M_back_115 : decode b_M_back 115 = .ok (.getfield 89, 3) := by decide +kernel
theorem d_M_back_118 : decode b_M_back 118 = .ok (.ireturn, 1) := by decide +kernel
theorem d_M_domain_0 : decode b_M_domain 0 = .ok (.iload_n 1, 1) := by decide +kernel
theorem d_M_domain_1 : decode b_M_domain 1 = .ok (.iconst 0, 1) := by decide +kernel
theorem d_M_domain_2 : decode b_M_domain 2 = .ok (.aload_n 0, 1) := by decide +kernel
theorem d_M_domain_3 : decode b_M_domain 3 = .ok (.getfield 82, 3) := by decide +kernel
theorem d_M_domain_6 : decode b_M_domain 6 = .ok (.iconst 1, 1) := by decide +kernel
theorem d_M_domain_7 : decode b_M_domain 7 = .ok (.isub, 1) := by decide +kernel
theorem d_M_domain_8 : decode b_M_domain 8 = .ok (.invokestatic 95, 3) := by decide +kernel
theorem d_M_domain_11 : decode b_M_domain 11 = .ok (.ifCond .eq 12, 3) := by decide +kernel
theorem d_M_domain_14 : decode b_M_domain 14 = .ok (.aload_n 0, 1) := by decide +kernel
theorem d_M_domain_15 : decode b_M_domain 15 = .ok (.getfield 7, 3) := by decide +kernel
theorem d_M_domain_18 : decode b_M_domain 18 = .ok (.iload_n 1, 1) := by decide +kernel
theorem d_M_domain_19 : decode b_M_domain 19 = .ok (.iaload, 1) := by decide +kernel
theorem d_M_domain_20 : decode b_M_domain 20 = .ok (.goto 5, 3) := by decide +kernel
theorem d_M_domain_23 : decode b_M_domain 23 = .ok (.bipush (-2), 2) := by decide +kernel
theorem d_M_domain_25 : decode b_M_domain 25 = .ok (.ireturn, 1) := by decide +kernel
theorem d_M_why_0 : decode b_M_why 0 = .ok (.iload_n 1, 1) := by decide +kernel
theorem d_M_why_1 : decode b_M_why 1 = .ok (.iconst 0, 1) := by decide +kernel
theorem d_M_why_2 : decode b_M_why 2 = .ok (.aload_n 0, 1) := by decide +kernel
theorem d_M_why_3 : decode b_M_why 3 = .ok (.getfield 82, 3) := by decide +kernel
theorem d_M_why_6 : decode b_M_why 6 = .ok (.iconst 1, 1) := by decide +kernel
theorem d_M_why_7 : decode b_M_why 7 = .ok (.isub, 1) := by decide +kernel
theorem d_M_why_8 : decode b_M_why 8 = .ok (.invokestatic 95, 3) := by decide +kernel
theorem d_M_why_11 : decode b_M_why 11 = .ok (.ifCond .eq 21, 3) := by decide +kernel
theorem d_M_why_14 : decode b_M_why 14 = .ok (.iload_n 2, 1) := by decide +kernel
theorem d_M_why_15 : decode b_M_why 15 = .ok (.iconst 0, 1) := by decide +kernel
theorem d_M_why_16 : decode b_M_why 16 = .ok (.iconst 5, 1) := by decide +kernel
theorem d_M_why_17 : decode b_M_why 17 = .ok (.invokestatic 95, 3) := by decide +kernel
theorem d_M_why_20 : decode b_M_why 20 = .ok (.ifCond .eq 12, 3) := by decide +kernel
theorem d_M_why_23 : decode b_M_why 23 = .ok (.iload_n 3, 1) := by decide +kernel
theorem d_M_why_24 : decode b_M_why 24 = .ok (.iconst 0, 1) := by decide +kernel
theorem d_M_why_25 : decode b_M_why 25 = .ok (.iconst 1, 1) := by decide +kernel
theorem d_M_why_26 : decode b_M_why 26 = .ok (.invokestatic 95, 3) := by decide +kernel
theorem d_M_why_29 : decode b_M_why 29 = .ok (.ifCond .ne 6, 3) := by decide +kernel
theorem d_M_why_32 : decode b_M_why 32 = .ok (.bipush (-2), 2) := by decide +kernel
theorem d_M_why_34 : decode b_M_why 34 = .ok (.ireturn, 1) := by decide +kernel
theorem d_M_why_35 : decode b_M_why 35 = .ok (.iload_n 3, 1) := by decide +kernel
theorem d_M_why_36 : decode b_M_why 36 = .ok (.ifCond .ne 17, 3) := by decide +kernel
theorem d_M_why_39 : decode b_M_why 39 = .ok (.aload_n 0, 1) := by decide +kernel
theorem d_M_why_40 : decode b_M_why 40 = .ok (.getfield 13, 3) := by decide +kernel
theorem d_M_why_43 : decode b_M_why 43 = .ok (.bipush 6, 2) := by decide +kernel
theorem d_M_why_45 : decode b_M_why 45 = .ok (.iload_n 1, 1) := by decide +kernel
theorem d_M_why_46 : decode b_M_why 46 = .ok (.imul, 1) := by decide +kernel
theorem d_M_why_47 : decode b_M_why 47 = .ok (.iload_n 2, 1) := by decide +kernel
theorem d_M_why_48 : decode b_M_why 48 = .ok (.iadd, 1) := by decide +kernel
theorem d_M_why_49 : decode b_M_why 49 = .ok (.iaload, 1) := by decide +kernel
theorem d_M_why_50 : decode b_M_why 50 = .ok (.goto 14, 3) := by decide +kernel
theorem d_M_why_53 : decode b_M_why 53 = .ok (.aload_n 0, 1) := by decide +kernel
theorem d_M_why_54 : decode b_M_why 54 = .ok (.getfield 16, 3) := by decide +kernel
theorem d_M_why_57 : decode b_M_why 57 = .ok (.bipush 6, 2) := by decide +kernel
theorem d_M_why_59 : decode b_M_why 59 = .ok (.iload_n 1, 1) := by decide +kernel
theorem d_M_why_60 : decode b_M_why 60 = .ok (.imul, 1) := by decide +kernel
theorem d_M_why_61 : decode b_M_why 61 = .ok (.iload_n 2, 1) := by decide +kernel
theorem d_M_why_62 : decode b_M_why 62 = .ok (.iadd, 1) := by decide +kernel
theorem d_M_why_63 : decode b_M_why 63 = .ok (.iaload, 1) := by decide +kernel
theorem d_M_why_64 : decode b_M_why 64 = .ok (.ireturn, 1) := by decide +kernel
theorem d_M_allows_0 : decode b_M_allows 0 = .ok (.iload_n 1, 1) := by decide +kernel
theorem d_M_allows_1 : decode b_M_allows 1 = .ok (.iconst 0, 1) := by decide +kernel
theorem d_M_allows_2 : decode b_M_allows 2 = .ok (.aload_n 0, 1) := by decide +kernel
theorem d_M_allows_3 : decode b_M_allows 3 = .ok (.getfield 86, 3) := by decide +kernel
theorem d_M_allows_6 : decode b_M_allows 6 = .ok (.iconst 1, 1) := by decide +kernel
theorem d_M_allows_7 : decode b_M_allows 7 = .ok (.isub, 1) := by decide +kernel
theorem d_M_allows_8 : decode b_M_allows 8 = .ok (.invokestatic 95, 3) := by decide +kernel
theorem d_M_allows_11 : decode b_M_allows 11 = .ok (.ifCond .eq 17, 3) := by decide +kernel
theorem d_M_allows_14 : decode b_M_allows 14 = .ok (.aload_n 0, 1) := by decide +kernel
theorem d_M_allows_15 : decode b_M_allows 15 = .ok (.getfield 31, 3) := by decide +kernel
theorem d_M_allows_18 : decode b_M_allows 18 = .ok (.iload_n 1, 1) := by decide +kernel
theorem d_M_allows_19 : decode b_M_allows 19 = .ok (.iaload, 1) := by decide +kernel
theorem d_M_allows_20 : decode b_M_allows 20 = .ok (.iload_n 2, 1) := by decide +kernel
theorem d_M_allows_21 : decode b_M_allows 21 = .ok (.iconst 0, 1) := by decide +kernel
theorem d_M_allows_22 : decode b_M_allows 22 = .ok (.invokestatic 110, 3) := by decide +kernel
theorem d_M_allows_25 : decode b_M_allows 25 = .ok (.ifCond .ne 6, 3) := by decide +kernel
theorem d_M_allows_28 : decode b_M_allows 28 = .ok (.bipush (-2), 2) := by decide +kernel
theorem d_M_allows_30 : decode b_M_allows 30 = .ok (.ireturn, 1) := by decide +kernel
theorem d_M_allows_31 : decode b_M_allows 31 = .ok (.aload_n 0, 1) := by decide +kernel
theorem d_M_allows_32 : decode b_M_allows 32 = .ok (.aload_n 0, 1) := by decide +kernel
theorem d_M_allows_33 : decode b_M_allows 33 = .ok (.getfield 31, 3) := by decide +kernel
theorem d_M_allows_36 : decode b_M_allows 36 = .ok (.iload_n 1, 1) := by decide +kernel
theorem d_M_allows_37 : decode b_M_allows 37 = .ok (.iaload, 1) := by decide +kernel
theorem d_M_allows_38 : decode b_M_allows 38 = .ok (.iload_n 2, 1) := by decide +kernel
theorem d_M_allows_39 : decode b_M_allows 39 = .ok (.invokevirtual 145, 3) := by decide +kernel
theorem d_M_allows_42 : decode b_M_allows 42 = .ok (.aload_n 0, 1) := by decide +kernel
theorem d_M_allows_43 : decode b_M_allows 43 = .ok (.iload_n 1, 1) := by decide +kernel
theorem d_M_allows_44 : decode b_M_allows 44 = .ok (.invokevirtual 132, 3) := by decide +kernel
theorem d_M_allows_47 : decode b_M_allows 47 = .ok (.ifCond .eq 7, 3) := by decide +kernel
theorem d_M_allows_50 : decode b_M_allows 50 = .ok (.iconst 1, 1) := by decide +kernel
theorem d_M_allows_51 : decode b_M_allows 51 = .ok (.goto 4, 3) := by decide +kernel
theorem d_M_allows_54 : decode b_M_allows 54 = .ok (.iconst 0, 1) := by decide +kernel
theorem d_M_allows_55 : decode b_M_allows 55 = .ok (.ireturn, 1) := by decide +kernel
theorem d_M_lay_0 : decode b_M_lay 0 = .ok (.iconst 0, 1) := by decide +kernel
theorem d_M_lay_1 : decode b_M_lay 1 = .ok (.istore_n 3, 1) := by decide +kernel
theorem d_M_lay_2 : decode b_M_lay 2 = .ok (.iload_n 3, 1) := by decide +kernel
theorem d_M_lay_3 : decode b_M_lay 3 = .ok (.iload_n 1, 1) := by decide +kernel
theorem d_M_lay_4 : decode b_M_lay 4 = .ok (.if_icmp .ge 23, 3) := by decide +kernel
theorem d_M_lay_7 : decode b_M_lay 7 = .ok (.aload_n 0, 1) := by decide +kernel
theorem d_M_lay_8 : decode b_M_lay 8 = .ok (.getfield 67, 3) := by decide +kernel
theorem d_M_lay_11 : decode b_M_lay 11 = .ok (.iload_n 3, 1) := by decide +kernel
theorem d_M_lay_12 : decode b_M_lay 12 = .ok (.iload_n 2, 1) := by decide +kernel
theorem d_M_lay_13 : decode b_M_lay 13 = .ok (.iconst 3, 1) := by decide +kernel
theorem d_M_lay_14 : decode b_M_lay 14 = .ok (.iload_n 3, 1) := by decide +kernel
theorem d_M_lay_15 : decode b_M_lay 15 = .ok (.imul, 1) := by decide +kernel
theorem d_M_lay_16 : decode b_M_lay 16 = .ok (.ishr, 1) := by decide +kernel
theorem d_M_lay_17 : decode b_M_lay 17 = .ok (.bipush 7, 2) := by decide +kernel
theorem d_M_lay_19 : decode b_M_lay 19 = .ok (.iand, 1) := by decide +kernel
theorem d_M_lay_20 : decode b_M_lay 20 = .ok (.iastore, 1) := by decide +kernel
theorem d_M_lay_21 : decode b_M_lay 21 = .ok (.iinc 3 1, 3) := by decide +kernel
theorem d_M_lay_24 : decode b_M_lay 24 = .ok (.goto (-22), 3) := by decide +kernel
theorem d_M_lay_27 : decode b_M_lay 27 = .ok (.return_, 1) := by decide +kernel
