theorem d_M_init_0 : decode b_M_init 0 = .ok (.aload_n 0, 1) := by decide +kernel
theorem d_M_init_1 : decode b_M_init 1 = .ok (.invokespecial 1, 3) := by decide +kernel
theorem d_M_init_4 : decode b_M_init 4 = .ok (.aload_n 0, 1) := by decide +kernel
theorem d_M_init_5 : decode b_M_init 5 = .ok (.bipush 6, 2) := by decide +kernel
theorem d_M_init_7 : decode b_M_init 7 = .ok (.newarray .int, 2) := by decide +kernel
theorem d_M_init_9 : decode b_M_init 9 = .ok (.putfield 7, 3) := by decide +kernel
theorem d_M_init_12 : decode b_M_init 12 = .ok (.aload_n 0, 1) := by decide +kernel
theorem d_M_init_13 : decode b_M_init 13 = .ok (.bipush 36, 2) := by decide +kernel
theorem d_M_init_15 : decode b_M_init 15 = .ok (.newarray .int, 2) := by decide +kernel
theorem d_M_init_17 : decode b_M_init 17 = .ok (.putfield 13, 3) := by decide +kernel
theorem d_M_init_20 : decode b_M_init 20 = .ok (.aload_n 0, 1) := by decide +kernel
theorem d_M_init_21 : decode b_M_init 21 = .ok (.bipush 36, 2) := by decide +kernel
theorem d_M_init_23 : decode b_M_init 23 = .ok (.newarray .int, 2) := by decide +kernel
theorem d_M_init_25 : decode b_M_init 25 = .ok (.putfield 16, 3) := by decide +kernel
theorem d_M_init_28 : decode b_M_init 28 = .ok (.aload_n 0, 1) := by decide +kernel
theorem d_M_init_29 : decode b_M_init 29 = .ok (.bipush 48, 2) := by decide +kernel
theorem d_M_init_31 : decode b_M_init 31 = .ok (.newarray .int, 2) := by decide +kernel
theorem d_M_init_33 : decode b_M_init 33 = .ok (.putfield 19, 3) := by decide +kernel
theorem d_M_init_36 : decode b_M_init 36 = .ok (.aload_n 0, 1) := by decide +kernel
theorem d_M_init_37 : decode b_M_init 37 = .ok (.sipush 288, 3) := by decide +kernel
theorem d_M_init_40 : decode b_M_init 40 = .ok (.newarray .int, 2) := by decide +kernel
theorem d_M_init_42 : decode b_M_init 42 = .ok (.putfield 22, 3) := by decide +kernel
theorem d_M_init_45 : decode b_M_init 45 = .ok (.aload_n 0, 1) := by decide +kernel
theorem d_M_init_46 : decode b_M_init 46 = .ok (.sipush 288, 3) := by decide +kernel
theorem d_M_init_49 : decode b_M_init 49 = .ok (.newarray .int, 2) := by decide +kernel
theorem d_M_init_51 : decode b_M_init 51 = .ok (.putfield 25, 3) := by decide +kernel
theorem d_M_init_54 : decode b_M_init 54 = .ok (.aload_n 0, 1) := by decide +kernel
theorem d_M_init_55 : decode b_M_init 55 = .ok (.bipush 10, 2) := by decide +kernel
theorem d_M_init_57 : decode b_M_init 57 = .ok (.newarray .int, 2) := by decide +kernel
theorem d_M_init_59 : decode b_M_init 59 = .ok (.putfield 28, 3) := by decide +kernel
theorem d_M_init_62 : decode b_M_init 62 = .ok (.aload_n 0, 1) := by decide +kernel
theorem d_M_init_63 : decode b_M_init 63 = .ok (.bipush 10, 2) := by decide +kernel
theorem d_M_init_65 : decode b_M_init 65 = .ok (.newarray .int, 2) := by decide +kernel
theorem d_M_init_67 : decode b_M_init 67 = .ok (.putfield 31, 3) := by decide +kernel
theorem d_M_init_70 : decode b_M_init 70 = .ok (.aload_n 0, 1) := by decide +kernel
theorem d_M_init_71 : decode b_M_init 71 = .ok (.bipush 10, 2) := by decide +kernel
theorem d_M_init_73 : decode b_M_init 73 = .ok (.newarray .int, 2) := by decide +kernel
theorem d_M_init_75 : decode b_M_init 75 = .ok (.putfield 34, 3) := by decide +kernel
theorem d_M_init_78 : decode b_M_init 78 = .ok (.aload_n 0, 1) := by decide +kernel
theorem d_M_init_79 : decode b_M_init 79 = .ok (.bipush 60, 2) := by decide +kernel
theorem d_M_init_81 : decode b_M_init 81 = .ok (.newarray .int, 2) := by decide +kernel
theorem d_M_init_83 : decode b_M_init 83 = .ok (.putfield 37, 3) := by decide +kernel
theorem d_M_init_86 : decode b_M_init 86 = .ok (.aload_n 0, 1) := by decide +kernel
theorem d_M_init_87 : decode b_M_init 87 = .ok (.bipush 10, 2) := by decide +kernel
theorem d_M_init_89 : decode b_M_init 89 = .ok (.newarray .int, 2) := by decide +kernel
theorem d_M_init_91 : decode b_M_init 91 = .ok (.putfield 40, 3) := by decide +kernel
theorem d_M_init_94 : decode b_M_init 94 = .ok (.aload_n 0, 1) := by decide +kernel
theorem d_M_init_95 : decode b_M_init 95 = .ok (.bipush 10, 2) := by decide +kernel
theorem d_M_init_97 : decode b_M_init 97 = .ok (.newarray .int, 2) := by decide +kernel
theorem d_M_init_99 : decode b_M_init 99 = .ok (.putfield 43, 3) := by decide +kernel
theorem d_M_init_102 : decode b_M_init 102 = .ok (.aload_n 0, 1) := by decide +kernel
theorem d_M_init_103 : decode b_M_init 103 = .ok (.bipush 10, 2) := by decide +kernel
theorem d_M_init_105 : decode b_M_init 105 = .ok (.newarray .int, 2) := by decide +kernel
theorem d_M_init_107 : decode b_M_init 107 = .ok (.putfield 46, 3) := by decide +kernel
theorem d_M_init_110 : decode b_M_init 110 = .ok (.aload_n 0, 1) := by decide +kernel
theorem d_M_init_111 : decode b_M_init 111 = .ok (.bipush 10, 2) := by decide +kernel
theorem d_M_init_113 : decode b_M_init 113 = .ok (.newarray .int, 2) := by decide +kernel
theorem d_M_init_115 : decode b_M_init 115 = .ok (.putfield 49, 3) := by decide +kernel
theorem d_M_init_118 : decode b_M_init 118 = .ok (.aload_n 0, 1) := by decide +kernel
theorem d_M_init_119 : decode b_M_init 119 = .ok (.sipush 200, 3) := by decide +kernel
theorem d_M_init_122 : decode b_M_init 122 = .ok (.newarray .int, 2) := by decide +kernel
theorem d_M_init_124 : decode b_M_init 124 = .ok (.putfield 52, 3) := by decide +kernel
theorem d_M_init_127 : decode b_M_init 127 = .ok (.aload_n 0, 1) := by decide +kernel
theorem d_M_init_128 : decode b_M_init 128 = .ok (.sipush 300, 3) := by decide +kernel
theorem d_M_init_131 : decode b_M_init 131 = .ok (.newarray .int, 2) := by decide +kernel
theorem d_M_init_133 : decode b_M_init 133 = .ok (.putfield 55, 3) := by decide +kernel
theorem d_M_init_136 : decode b_M_init 136 = .ok (.aload_n 0, 1) := by decide +kernel
theorem d_M_init_137 : decode b_M_init 137 = .ok (.sipush 300, 3) := by decide +kernel
theorem d_M_init_140 : decode b_M_init 140 = .ok (.newarray .int, 2) := by decide +kernel
theorem d_M_init_142 : decode b_M_init 142 = .ok (.putfield 58, 3) := by decide +kernel
theorem d_M_init_145 : decode b_M_init 145 = .ok (.aload_n 0, 1) := by decide +kernel
theorem d_M_init_146 : decode b_M_init 146 = .ok (.sipush 300, 3) := by decide +kernel
theorem d_M_init_149 : decode b_M_init 149 = .ok (.newarray .int, 2) := by decide +kernel
theorem d_M_init_151 : decode b_M_init 151 = .ok (.putfield 61, 3) := by decide +kernel
theorem d_M_init_154 : decode b_M_init 154 = .ok (.aload_n 0, 1) := by decide +kernel
theorem d_M_init_155 : decode b_M_init 155 = .ok (.sipush 300, 3) := by decide +kernel
theorem d_M_init_158 : decode b_M_init 158 = .ok (.newarray .int, 2) := by decide +kernel
theorem d_M_init_160 : decode b_M_init 160 = .ok (.putfield 64, 3) := by decide +kernel
theorem d_M_init_163 : decode b_M_init 163 = .ok (.aload_n 0, 1) := by decide +kernel
theorem d_M_init_164 : decode b_M_init 164 = .ok (.bipush 6, 2) := by decide +kernel
theorem d_M_init_166 : decode b_M_init 166 = .ok (.newarray .int, 2) := by decide +kernel
theorem d_M_init_168 : decode b_M_init 168 = .ok (.putfield 67, 3) := by decide +kernel
theorem d_M_init_171 : decode b_M_init 171 = .ok (.aload_n 0, 1) := by decide +kernel
theorem d_M_init_172 : decode b_M_init 172 = .ok (.bipush 6, 2) := by decide +kernel
theorem d_M_init_174 : decode b_M_init 174 = .ok (.newarray .int, 2) := by decide +kernel
theorem d_M_init_176 : decode b_M_init 176 = .ok (.putfield 70, 3) := by decide +kernel
theorem d_M_init_179 : decode b_M_init 179 = .ok (.aload_n 0, 1) := by decide +kernel
theorem d_M_init_180 : decode b_M_init 180 = .ok (.bipush 6, 2) := by decide +kernel
theorem d_M_init_182 : decode b_M_init 182 = .ok (.newarray .int, 2) := by decide +kernel
theorem d_M_init_184 : decode b_M_init 184 = .ok (.putfield 73, 3) := by decide +kernel
theorem d_M_init_187 : decode b_M_init 187 = .ok (.aload_n 0, 1) := by decide +kernel
theorem d_M_init_188 : decode b_M_init 188 = .ok (.bipush 6, 2) := by decide +kernel
theorem d_M_init_190 : decode b_M_init 190 = .ok (.newarray .int, 2) := by decide +kernel
theorem d_M_init_192 : decode b_M_init 192 = .ok (.putfield 76, 3) := by decide +kernel
theorem d_M_init_195 : decode b_M_init 195 = .ok (.aload_n 0, 1) := by decide +kernel
theorem d_M_init_196 : decode b_M_init 196 = .ok (.bipush 6, 2) := by decide +kernel
theorem d_M_init_198 : decode b_M_init 198 = .ok (.newarray .int, 2) := by decide +kernel
theorem d_M_init_200 : decode b_M_init 200 = .ok (.putfield 79, 3) := by decide +kernel
theorem d_M_init_203 : decode b_M_init 203 = .ok (.aload_n 0, 1) := by decide +kernel
theorem d_M_init_204 : decode b_M_init 204 = .ok (.iconst 0, 1) := by decide +kernel
theorem d_M_init_205 : decode b_M_init 205 = .ok (.putfield 82, 3) := by decide +kernel
theorem d_M_init_208 : decode b_M_init 208 = .ok (.return_, 1) := by decide +kernel
theorem d_M_clear_0 : decode b_M_clear 0 = .ok (.aload_n 0, 1) := by decide +kernel
theorem d_M_clear_1 : decode b_M_clear 1 = .ok (.getfield 86, 3) := by decide +kernel
theorem d_M_clear_4 : decode b_M_clear 4 = .ok (.istore_n 1, 1) := by decide +kernel
theorem d_M_clear_5 : decode b_M_clear 5 = .ok (.aload_n 0, 1) := by decide +kernel
theorem d_M_clear_6 : decode b_M_clear 6 = .ok (.iconst 0, 1) := by decide +kernel
theorem d_M_clear_7 : decode b_M_clear 7 = .ok (.putfield 82, 3) := by decide +kernel
theorem d_M_clear_10 : decode b_M_clear 10 = .ok (.aload_n 0, 1) := by decide +kernel
theorem d_M_clear_11 : decode b_M_clear 11 = .ok (.iconst 0, 1) := by decide +kernel
theorem d_M_clear_12 : decode b_M_clear 12 = .ok (.putfield 86, 3) := by decide +kernel
theorem d_M_clear_15 : decode b_M_clear 15 = .ok (.aload_n 0, 1) := by decide +kernel
theorem d_M_clear_16 : decode b_M_clear 16 = .ok (.iconst 0, 1) := by decide +kernel
theorem d_M_clear_17 : decode b_M_clear 17 = .ok (.putfield 89, 3) := by decide +kernel
theorem d_M_clear_20 : decode b_M_clear 20 = .ok (.aload_n 0, 1) := by decide +kernel
theorem d_M_clear_21 : decode b_M_clear 21 = .ok (.iconst 0, 1) := by decide +kernel
theorem d_M_clear_22 : decode b_M_clear 22 = .ok (.putfield 92, 3) := by decide +kernel
theorem d_M_clear_25 : decode b_M_clear 25 = .ok (.iload_n 1, 1) := by decide +kernel
theorem d_M_clear_26 : decode b_M_clear 26 = .ok (.ireturn, 1) := by decide +kernel
theorem d_M_name_0 : decode b_M_name 0 = .ok (.iload_n 1, 1) := by decide +kernel
theorem d_M_name_1 : decode b_M_name 1 = .ok (.iconst 1, 1) := by decide +kernel
theorem d_M_name_2 : decode b_M_name 2 = .ok (.bipush 6, 2) := by decide +kernel
theorem d_M_name_4 : decode b_M_name 4 = .ok (.invokestatic 95, 3) := by decide +kernel
theorem d_M_name_7 : decode b_M_name 7 = .ok (.ifCond .ne 6, 3) := by decide +kernel
theorem d_M_name_10 : decode b_M_name 10 = .ok (.bipush (-2), 2) := by decide +kernel
theorem d_M_name_12 : decode b_M_name 12 = .ok (.ireturn, 1) := by decide +kernel
theorem d_M_name_13 : decode b_M_name 13 = .ok (.aload_n 0, 1) := by decide +kernel
theorem d_M_name_14 : decode b_M_name 14 = .ok (.getfield 89, 3) := by decide +kernel
theorem d_M_name_17 : decode b_M_name 17 = .ok (.ifCond .le 6, 3) := by decide +kernel
theorem d_M_name_20 : decode b_M_name 20 = .ok (.bipush (-5), 2) := by decide +kernel
theorem d_M_name_22 : decode b_M_name 22 = .ok (.ireturn, 1) := by decide +kernel
theorem d_M_name_23 : decode b_M_name 23 = .ok (.aload_n 0, 1) := by decide +kernel
theorem d_M_name_24 : decode b_M_name 24 = .ok (.getfield 82, 3) := by decide +kernel
theorem d_M_name_27 : decode b_M_name 27 = .ok (.bipush 6, 2) := by decide +kernel
theorem d_M_name_29 : decode b_M_name 29 = .ok (.if_icmp .ne 6, 3) := by decide +kernel
theorem d_M_name_32 : decode b_M_name 32 = .ok (.bipush (-3), 2) := by decide +kernel
theorem d_M_name_34 : decode b_M_name 34 = .ok (.ireturn, 1) := by decide +kernel
theorem d_M_name_35 : decode b_M_name 35 = .ok (.aload_n 0, 1) := by decide +kernel
theorem d_M_name_36 : decode b_M_name 36 = .ok (.getfield 7, 3) := by decide +kernel
theorem d_M_name_39 : decode b_M_name 39 = .ok (.aload_n 0, 1) := by decide +kernel
theorem d_M_name_40 : decode b_M_name 40 = .ok (.getfield 82, 3) := by decide +kernel
theorem d_M_name_43 : decode b_M_name 43 = .ok (.iconst 1, 1) := by decide +kernel
theorem d_M_name_44 : decode b_M_name 44 = .ok (.iload_n 1, 1) := by decide +kernel
theorem d_M_name_45 : decode b_M_name 45 = .ok (.ishl, 1) := by decide +kernel
theorem d_M_name_46 : decode b_M_name 46 = .ok (.iconst 1, 1) := by decide +kernel
theorem d_M_name_47 : decode b_M_name 47 = .ok (.isub, 1) := by decide +kernel
theorem d_M_name_48 : decode b_M_name 48 = .ok (.iastore, 1) := by decide +kernel
theorem d_M_name_49 : decode b_M_name 49 = .ok (.iconst 0, 1) := by decide +kernel
theorem d_M_name_50 : decode b_M_name 50 = .ok (.istore_n 2, 1) := by decide +kernel
theorem d_M_name_51 : decode b_M_name 51 = .ok (.iload_n 2, 1) := by decide +kernel
theorem d_M_name_52 : decode b_M_name 52 = .ok (.bipush 6, 2) := by decide +kernel
theorem d_M_name_54 : decode b_M_name 54 = .ok (.if_icmp .ge 49, 3) := by decide +kernel
theorem d_M_name_57 : decode b_M_name 57 = .ok (.aload_n 0, 1) := by decide +kernel
theorem d_M_name_58 : decode b_M_name 58 = .ok (.getfield 13, 3) := by decide +kernel
theorem d_M_name_61 : decode b_M_name 61 = .ok (.bipush 6, 2) := by decide +kernel
theorem d_M_name_63 : decode b_M_name 63 = .ok (.aload_n 0, 1) := by decide +kernel
theorem d_M_name_64 : decode b_M_name 64 = .ok (.getfield 82, 3) := by decide +kernel
theorem d_M_name_67 : decode b_M_name 67 = .ok (.imul, 1) := by decide +kernel
theorem d_M_name_68 : decode b_M_name 68 = .ok (.iload_n 2, 1) := by decide +kernel
theorem d_M_name_69 : decode b_M_name 69 = .ok (.iadd, 1) := by decide +kernel
theorem d_M_name_70 : decode b_M_name 70 = .ok (.iload_n 2, 1) := by decide +kernel
theorem d_M_name_71 : decode b_M_name 71 = .ok (.iload_n 1, 1) := by decide +kernel
theorem d_M_name_72 : decode b_M_name 72 = .ok (.if_icmp .ge 7, 3) := by decide +kernel
theorem d_M_name_75 : decode b_M_name 75 = .ok (.iconst (-1), 1) := by decide +kernel
theorem d_M_name_76 : decode b_M_name 76 = .ok (.goto 5, 3) := by decide +kernel
theorem d_M_name_79 : decode b_M_name 79 = .ok (.bipush 11, 2) := by decide +kernel
theorem d_M_name_81 : decode b_M_name 81 = .ok (.iastore, 1) := by decide +kernel
theorem d_M_name_82 : decode b_M_name 82 = .ok (.aload_n 0, 1) := by decide +kernel
theorem d_M_name_83 : decode b_M_name 83 = .ok (.getfield 16, 3) := by decide +kernel
theorem d_M_name_86 : decode b_M_name 86 = .ok (.bipush 6, 2) := by decide +kernel
theorem d_M_name_88 : decode b_M_name 88 = .ok (.aload_n 0, 1) := by decide +kernel
theorem d_M_name_89 : decode b_M_name 89 = .ok (.getfield 82, 3) := by decide +kernel
theorem d_M_name_92 : decode b_M_name 92 = .ok (.imul, 1) := by decide +kernel
theorem d_M_name_93 : decode b_M_name 93 = .ok (.iload_n 2, 1) := by decide +kernel
theorem d_M_name_94 : decode b_M_name 94 = .ok (.iadd, 1) := by decide +kernel
theorem d_M_name_95 : decode b_M_name 95 = .ok (.iconst 0, 1) := by decide +kernel
theorem d_M_name_96 : decode b_M_name 96 = .ok (.iastore, 1) := by decide +kernel
theorem d_M_name_97 : decode b_M_name 97 = .ok (.iinc 2 1, 3) := by decide +kernel
theorem d_M_name_100 : decode b_M_name 100 = .ok (.goto (-49), 3) := by decide +kernel
theorem d_M_name_103 : decode b_M_name 103 = .ok (.aload_n 0, 1) := by decide +kernel
theorem d_M_name_104 : decode b_M_name 104 = .ok (.dup, 1) := by decide +kernel
theorem d_M_name_105 : decode b_M_name 105 = .ok (.getfield 82, 3) := by decide +kernel
theorem d_M_name_108 : decode b_M_name 108 = .ok (.iconst 1, 1) := by decide +kernel
theorem d_M_name_109 : decode b_M_name 109 = .ok (.iadd, 1) := by decide +kernel
theorem d_M_name_110 : decode b_M_name 110 = .ok (.putfield 82, 3) := by decide +kernel
theorem d_M_name_113 : decode b_M_name 113 = .ok (.aload_n 0, 1) := by decide +kernel
theorem d_M_name_114 : decode b_M_name 114 = .ok (.getfield 82, 3) := by decide +kernel
theorem d_M_name_117 : decode b_M_name 117 = .ok (.iconst 1, 1) := by decide +kernel
theorem d_M_name_118 : decode b_M_name 118 = .ok (.isub, 1) := by decide +kernel
theorem d_M_name_119 : decode b_M_name 119 = .ok (.ireturn, 1) := by decide +kernel
theorem d_M_isIn_0 : decode b_M_isIn 0 = .ok (.iload_n 0, 1) := by decide +kernel
theorem d_M_isIn_1 : decode b_M_isIn 1 = .ok (.iload_n 1, 1) := by decide +kernel
theorem d_M_isIn_2 : decode b_M_isIn 2 = .ok (.if_icmp .lt 12, 3) := by decide +kernel
theorem d_M_isIn_5 : decode b_M_isIn 5 = .ok (.iload_n 0, 1) := by decide +kernel
theorem d_M_isIn_6 : decode b_M_isIn 6 = .ok (.iload_n 2, 1) := by decide +kernel
theorem d_M_isIn_7 : decode b_M_isIn 7 = .ok (.if_icmp .gt 7, 3) := by decide +kernel
theorem d_M_isIn_10 : decode b_M_isIn 10 = .ok (.iconst 1, 1) := by decide +kernel
theorem d_M_isIn_11 : decode b_M_isIn 11 = .ok (.goto 4, 3) := by decide +kernel
theorem d_M_isIn_14 : decode b_M_isIn 14 = .ok (.iconst 0, 1) := by decide +kernel
theorem d_M_isIn_15 : decode b_M_isIn 15 = .ok (.ireturn, 1) := by decide +kernel
theorem d_M_table_0 : decode b_M_table 0 = .ok (.aload_n 0, 1) := by decide +kernel
theorem d_M_table_1 : decode b_M_table 1 = .ok (.iload_n 1, 1) := by decide +kernel
theorem d_M_table_2 : decode b_M_table 2 = .ok (.iload_n 2, 1) := by decide +kernel
theorem d_M_table_3 : decode b_M_table 3 = .ok (.invokevirtual 99, 3) := by decide +kernel
theorem d_M_table_6 : decode b_M_table 6 = .ok (.ifCond .eq 16, 3) := by decide +kernel
theorem d_M_table_9 : decode b_M_table 9 = .ok (.aload_n 0, 1) := by decide +kernel
theorem d_M_table_10 : decode b_M_table 10 = .ok (.iconst 0, 1) := by decide +kernel
theorem d_M_table_11 : decode b_M_table 11 = .ok (.iload_n 1, 1) := by decide +kernel
theorem d_M_table_12 : decode b_M_table 12 = .ok (.iload_n 2, 1) := by decide +kernel
theorem d_M_table_13 : decode b_M_table 13 = .ok (.iconst 0, 1) := by decide +kernel
theorem d_M_table_14 : decode b_M_table 14 = .ok (.iconst 0, 1) := by decide +kernel
theorem d_M_table_15 : decode b_M_table 15 = .ok (.iconst 0, 1) := by decide +kernel
theorem d_M_table_16 : decode b_M_table 16 = .ok (.invokevirtual 103, 3) := by decide +kernel
theorem d_M_table_19 : decode b_M_table 19 = .ok (.goto 5, 3) := by decide +kernel
theorem d_M_table_22 : decode b_M_table 22 = .ok (.bipush (-2), 2) := by decide +kernel
theorem d_M_table_24 : decode b_M_table 24 = .ok (.ireturn, 1) := by decide +kernel
theorem d_M_isRow_0 : decode b_M_isRow 0 = .ok (.iload_n 1, 1) := by decide +kernel
theorem d_M_isRow_1 : decode b_M_isRow 1 = .ok (.iconst 1, 1) := by decide +kernel
theorem d_M_isRow_2 : decode b_M_isRow 2 = .ok (.bipush 6, 2) := by decide +kernel
theorem d_M_isRow_4 : decode b_M_isRow 4 = .ok (.invokestatic 95, 3) := by decide +kernel
theorem d_M_isRow_7 : decode b_M_isRow 7 = .ok (.ifCond .eq 15, 3) := by decide +kernel
theorem d_M_isRow_10 : decode b_M_isRow 10 = .ok (.iload_n 2, 1) := by decide +kernel
theorem d_M_isRow_11 : decode b_M_isRow 11 = .ok (.ifCond .lt 11, 3) := by decide +kernel
theorem d_M_isRow_14 : decode b_M_isRow 14 = .ok (.iload_n 2, 1) := by decide +kernel
theorem d_M_isRow_15 : decode b_M_isRow 15 = .ok (.iconst 3, 1) := by decide +kernel
theorem d_M_isRow_16 : decode b_M_isRow 16 = .ok (.iload_n 1, 1) := by decide +kernel
theorem d_M_isRow_17 : decode b_M_isRow 17 = .ok (.imul, 1) := by decide +kernel
theorem d_M_isRow_18 : decode b_M_isRow 18 = .ok (.ishr, 1) := by decide +kernel
theorem d_M_isRow_19 : decode b_M_isRow 19 = .ok (.ifCond .eq 5, 3) := by decide +kernel
theorem d_M_isRow_22 : decode b_M_isRow 22 = .ok (.iconst 0, 1) := by decide +kernel
theorem d_M_isRow_23 : decode b_M_isRow 23 = .ok (.ireturn, 1) := by decide +kernel
theorem d_M_isRow_24 : decode b_M_isRow 24 = .ok (.iconst 0, 1) := by decide +kernel
theorem d_M_isRow_25 : decode b_M_isRow 25 = .ok (.istore_n 3, 1) := by decide +kernel
theorem d_M_isRow_26 : decode b_M_isRow 26 = .ok (.iconst 0, 1) := by decide +kernel
theorem d_M_isRow_27 : decode b_M_isRow 27 = .ok (.istore 4, 2) := by decide +kernel
theorem d_M_isRow_29 : decode b_M_isRow 29 = .ok (.iload 4, 2) := by decide +kernel
theorem d_M_isRow_31 : decode b_M_isRow 31 = .ok (.iload_n 1, 1) := by decide +kernel
theorem d_M_isRow_32 : decode b_M_isRow 32 = .ok (.if_icmp .ge 48, 3) := by decide +kernel
theorem d_M_isRow_35 : decode b_M_isRow 35 = .ok (.iload_n 2, 1) := by decide +kernel
theorem d_M_isRow_36 : decode b_M_isRow 36 = .ok (.iconst 3, 1) := by decide +kernel
theorem d_M_isRow_37 : decode b_M_isRow 37 = .ok (.iload 4, 2) := by decide +kernel
theorem d_M_isRow_39 : decode b_M_isRow 39 = .ok (.imul, 1) := by decide +kernel
theorem d_M_isRow_40 : decode b_M_isRow 40 = .ok (.ishr, 1) := by decide +kernel
theorem d_M_isRow_41 : decode b_M_isRow 41 = .ok (.bipush 7, 2) := by decide +kernel
theorem d_M_isRow_43 : decode b_M_isRow 43 = .ok (.iand, 1) := by decide +kernel
theorem d_M_isRow_44 : decode b_M_isRow 44 = .ok (.istore 5, 2) := by decide +kernel
theorem d_M_isRow_46 : decode b_M_isRow 46 = .ok (.iload 5, 2) := by decide +kernel
theorem d_M_isRow_48 : decode b_M_isRow 48 = .ok (.aload_n 0, 1) := by decide +kernel
theorem d_M_isRow_49 : decode b_M_isRow 49 = .ok (.getfield 82, 3) := by decide +kernel
theorem d_M_isRow_52 : decode b_M_isRow 52 = .ok (.if_icmp .ge 13, 3) := by decide +kernel
theorem d_M_isRow_55 : decode b_M_isRow 55 = .ok (.iload_n 3, 1) := by decide +kernel
theorem d_M_isRow_56 : decode b_M_isRow 56 = .ok (.iload 5, 2) := by decide +kernel
theorem d_M_isRow_58 : decode b_M_isRow 58 = .ok (.ishr, 1) := by decide +kernel
theorem d_M_isRow_59 : decode b_M_isRow 59 = .ok (.iconst 1, 1) := by decide +kernel
theorem d_M_isRow_60 : decode b_M_isRow 60 = .ok (.iand, 1) := by decide +kernel
theorem d_M_isRow_61 : decode b_M_isRow 61 = .ok (.iconst 1, 1) := by decide +kernel
theorem d_M_isRow_62 : decode b_M_isRow 62 = .ok (.if_icmp .ne 5, 3) := by decide +kernel
theorem d_M_isRow_65 : decode b_M_isRow 65 = .ok (.iconst 0, 1) := by decide +kernel
theorem d_M_isRow_66 : decode b_M_isRow 66 = .ok (.ireturn, 1) := by decide +kernel
theorem d_M_isRow_67 : decode b_M_isRow 67 = .ok (.iload_n 3, 1) := by decide +kernel
theorem d_M_isRow_68 : decode b_M_isRow 68 = .ok (.iconst 1, 1) := by decide +kernel
theorem d_M_isRow_69 : decode b_M_isRow 69 = .ok (.iload 5, 2) := by decide +kernel
theorem d_M_isRow_71 : decode b_M_isRow 71 = .ok (.ishl, 1) := by decide +kernel
theorem d_M_isRow_72 : decode b_M_isRow 72 = .ok (.ior, 1) := by decide +kernel
theorem d_M_isRow_73 : decode b_M_isRow 73 = .ok (.istore_n 3, 1) := by decide +kernel
theorem d_M_isRow_74 : decode b_M_isRow 74 = .ok (.iinc 4 1, 3) := by decide +kernel
theorem d_M_isRow_77 : decode b_M_isRow 77 = .ok (.goto (-48), 3) := by decide +kernel
theorem d_M_isRow_80 : decode b_M_isRow 80 = .ok (.iconst 1, 1) := by decide +kernel
theorem d_M_isRow_81 : decode b_M_isRow 81 = .ok (.ireturn, 1) := by decide +kernel
theorem d_M_add_0 : decode b_M_add 0 = .ok (.aload_n 0, 1) := by decide +kernel
theorem d_M_add_1 : decode b_M_add 1 = .ok (.getfield 86, 3) := by decide +kernel
theorem d_M_add_4 : decode b_M_add 4 = .ok (.bipush 10, 2) := by decide +kernel
theorem d_M_add_6 : decode b_M_add 6 = .ok (.if_icmp .ne 6, 3) := by decide +kernel
theorem d_M_add_9 : decode b_M_add 9 = .ok (.bipush (-3), 2) := by decide +kernel
theorem d_M_add_11 : decode b_M_add 11 = .ok (.ireturn, 1) := by decide +kernel
theorem d_M_add_12 : decode b_M_add 12 = .ok (.aload_n 0, 1) := by decide +kernel
theorem d_M_add_13 : decode b_M_add 13 = .ok (.getfield 86, 3) := by decide +kernel
theorem d_M_add_16 : decode b_M_add 16 = .ok (.istore 7, 2) := by decide +kernel
theorem d_M_add_18 : decode b_M_add 18 = .ok (.aload_n 0, 1) := by decide +kernel
theorem d_M_add_19 : decode b_M_add 19 = .ok (.dup, 1) := by decide +kernel
theorem d_M_add_20 : decode b_M_add 20 = .ok (.getfield 86, 3) := by decide +kernel
theorem d_M_add_23 : decode b_M_add 23 = .ok (.iconst 1, 1) := by decide +kernel
theorem d_M_add_24 : decode b_M_add 24 = .ok (.iadd, 1) := by decide +kernel
theorem d_M_add_25 : decode b_M_add 25 = .ok (.putfield 86, 3) := by decide +kernel
theorem d_M_add_28 : decode b_M_add 28 = .ok (.aload_n 0, 1) := by decide +kernel
theorem d_M_add_29 : decode b_M_add 29 = .ok (.getfield 28, 3) := by decide +kernel
theorem d_M_add_32 : decode b_M_add 32 = .ok (.iload 7, 2) := by decide +kernel
theorem d_M_add_34 : decode b_M_add 34 = .ok (.iload_n 1, 1) := by decide +kernel
theorem d_M_add_35 : decode b_M_add 35 = .ok (.iastore, 1) := by decide +kernel
theorem d_M_add_36 : decode b_M_add 36 = .ok (.aload_n 0, 1) := by decide +kernel
theorem d_M_add_37 : decode b_M_add 37 = .ok (.getfield 31, 3) := by decide +kernel
theorem d_M_add_40 : decode b_M_add 40 = .ok (.iload 7, 2) := by decide +kernel
theorem d_M_add_42 : decode b_M_add 42 = .ok (.iload_n 2, 1) := by decide +kernel
theorem d_M_add_43 : decode b_M_add 43 = .ok (.iastore, 1) := by decide +kernel
theorem d_M_add_44 : decode b_M_add 44 = .ok (.aload_n 0, 1) := by decide +kernel
theorem d_M_add_45 : decode b_M_add 45 = .ok (.getfield 34, 3) := by decide +kernel
theorem d_M_add_48 : decode b_M_add 48 = .ok (.iload 7, 2) := by decide +kernel
theorem d_M_add_50 : decode b_M_add 50 = .ok (.iload_n 3, 1) := by decide +kernel
theorem d_M_add_51 : decode b_M_add 51 = .ok (.iastore, 1) := by decide +kernel
theorem d_M_add_52 : decode b_M_add 52 = .ok (.iconst 0, 1) := by decide +kernel
theorem d_M_add_53 : decode b_M_add 53 = .ok (.istore 8, 2) := by decide +kernel
theorem d_M_add_55 : decode b_M_add 55 = .ok (.iload 8, 2) := by decide +kernel
theorem d_M_add_57 : decode b_M_add 57 = .ok (.iload_n 2, 1) := by decide +kernel
theorem d_M_add_58 : decode b_M_add 58 = .ok (.if_icmp .ge 31, 3) := by decide +kernel
theorem d_M_add_61 : decode b_M_add 61 = .ok (.aload_n 0, 1) := by decide +kernel
theorem d_M_add_62 : decode b_M_add 62 = .ok (.getfield 37, 3) := by decide +kernel
theorem d_M_add_65 : decode b_M_add 65 = .ok (.bipush 6, 2) := by decide +kernel
theorem d_M_add_67 : decode b_M_add 67 = .ok (.iload 7, 2) := by decide +kernel
theorem d_M_add_69 : decode b_M_add 69 = .ok (.imul, 1) := by decide +kernel
theorem d_M_add_70 : decode b_M_add 70 = .ok (.iload 8, 2) := by decide +kernel
theorem d_M_add_72 : decode b_M_add 72 = .ok (.iadd, 1) := by decide +kernel
theorem d_M_add_73 : decode b_M_add 73 = .ok (.iload_n 3, 1) := by decide +kernel
theorem d_M_add_74 : decode b_M_add 74 = .ok (.iconst 3, 1) := by decide +kernel
theorem d_M_add_75 : decode b_M_add 75 = .ok (.iload 8, 2) := by decide +kernel
theorem d_M_add_77 : decode b_M_add 77 = .ok (.imul, 1) := by decide +kernel
theorem d_M_add_78 : decode b_M_add 78 = .ok (.ishr, 1) := by decide +kernel
theorem d_M_add_79 : decode b_M_add 79 = .ok (.bipush 7, 2) := by decide +kernel
theorem d_M_add_81 : decode b_M_add 81 = .ok (.iand, 1) := by decide +kernel
theorem d_M_add_82 : decode b_M_add 82 = .ok (.iastore, 1) := by decide +kernel
theorem d_M_add_83 : decode b_M_add 83 = .ok (.iinc 8 1, 3) := by decide +kernel
theorem d_M_add_86 : decode b_M_add 86 = .ok (.goto (-31), 3) := by decide +kernel
theorem d_M_add_89 : decode b_M_add 89 = .ok (.aload_n 0, 1) := by decide +kernel
theorem d_M_add_90 : decode b_M_add 90 = .ok (.getfield 40, 3) := by decide +kernel
theorem d_M_add_93 : decode b_M_add 93 = .ok (.iload 7, 2) := by decide +kernel
theorem d_M_add_95 : decode b_M_add 95 = .ok (.iload 4, 2) := by decide +kernel
theorem d_M_add_97 : decode b_M_add 97 = .ok (.iastore, 1) := by decide +kernel
theorem d_M_add_98 : decode b_M_add 98 = .ok (.aload_n 0, 1) := by decide +kernel
theorem d_M_add_99 : decode b_M_add 99 = .ok (.getfield 43, 3) := by decide +kernel
theorem d_M_add_102 : decode b_M_add 102 = .ok (.iload 7, 2) := by decide +kernel
theorem d_M_add_104 : decode b_M_add 104 = .ok (.iload 5, 2) := by decide +kernel
theorem d_M_add_106 : decode b_M_add 106 = .ok (.iastore, 1) := by decide +kernel
theorem d_M_add_107 : decode b_M_add 107 = .ok (.aload_n 0, 1) := by decide +kernel
theorem d_M_add_108 : decode b_M_add 108 = .ok (.getfield 46, 3) := by decide +kernel
theorem d_M_add_111 : decode b_M_add 111 = .ok (.iload 7, 2) := by decide +kernel
theorem d_M_add_113 : decode b_M_add 113 = .ok (.iload 6, 2) := by decide +kernel
theorem d_M_add_115 : decode b_M_add 115 = .ok (.iastore, 1) := by decide +kernel
theorem d_M_add_116 : decode b_M_add 116 = .ok (.aload_n 0, 1) := by decide +kernel
theorem d_M_add_117 : decode b_M_add 117 = .ok (.getfield 49, 3) := by decide +kernel
theorem d_M_add_120 : decode b_M_add 120 = .ok (.iload 7, 2) := by decide +kernel
theorem d_M_add_122 : decode b_M_add 122 = .ok (.iconst 0, 1) := by decide +kernel
theorem d_M_add_123 : decode b_M_add 123 = .ok (.iastore, 1) := by decide +kernel
theorem d_M_add_124 : decode b_M_add 124 = .ok (.iload 7, 2) := by decide +kernel
theorem d_M_add_126 : decode b_M_add 126 = .ok (.ireturn, 1) := by decide +kernel
theorem d_M_tuple_0 : decode b_M_tuple 0 = .ok (.aload_n 0, 1) := by decide +kernel
theorem d_M_tuple_1 : decode b_M_tuple 1 = .ok (.iload_n 1, 1) := by decide +kernel
theorem d_M_tuple_2 : decode b_M_tuple 2 = .ok (.iconst 0, 1) := by decide +kernel
theorem d_M_tuple_3 : decode b_M_tuple 3 = .ok (.invokevirtual 107, 3) := by decide +kernel
theorem d_M_tuple_6 : decode b_M_tuple 6 = .ok (.ifCond .eq 17, 3) := by decide +kernel
theorem d_M_tuple_9 : decode b_M_tuple 9 = .ok (.aload_n 0, 1) := by decide +kernel
theorem d_M_tuple_10 : decode b_M_tuple 10 = .ok (.getfield 31, 3) := by decide +kernel
theorem d_M_tuple_13 : decode b_M_tuple 13 = .ok (.iload_n 1, 1) := by decide +kernel
theorem d_M_tuple_14 : decode b_M_tuple 14 = .ok (.iaload, 1) := by decide +kernel
theorem d_M_tuple_15 : decode b_M_tuple 15 = .ok (.iload_n 2, 1) := by decide +kernel
theorem d_M_tuple_16 : decode b_M_tuple 16 = .ok (.iconst 1, 1) := by decide +kernel
theorem d_M_tuple_17 : decode b_M_tuple 17 = .ok (.invokestatic 110, 3) := by decide +kernel
theorem d_M_tuple_20 : decode b_M_tuple 20 = .ok (.ifCond .ne 6, 3) := by decide +kernel
theorem d_M_tuple_23 : decode b_M_tuple 23 = .ok (.bipush (-2), 2) := by decide +kernel
theorem d_M_tuple_25 : decode b_M_tuple 25 = .ok (.ireturn, 1) := by decide +kernel
theorem d_M_tuple_26 : decode b_M_tuple 26 = .ok (.aload_n 0, 1) := by decide +kernel
theorem d_M_tuple_27 : decode b_M_tuple 27 = .ok (.getfield 49, 3) := by decide +kernel
theorem d_M_tuple_30 : decode b_M_tuple 30 = .ok (.iload_n 1, 1) := by decide +kernel
theorem d_M_tuple_31 : decode b_M_tuple 31 = .ok (.iaload, 1) := by decide +kernel
theorem d_M_tuple_32 : decode b_M_tuple 32 = .ok (.bipush 20, 2) := by decide +kernel
theorem d_M_tuple_34 : decode b_M_tuple 34 = .ok (.if_icmp .ne 6, 3) := by decide +kernel
theorem d_M_tuple_37 : decode b_M_tuple 37 = .ok (.bipush (-3), 2) := by decide +kernel
theorem d_M_tuple_39 : decode b_M_tuple 39 = .ok (.ireturn, 1) := by decide +kernel
theorem d_M_tuple_40 : decode b_M_tuple 40 = .ok (.aload_n 0, 1) := by decide +kernel
theorem d_M_tuple_41 : decode b_M_tuple 41 = .ok (.getfield 52, 3) := by decide +kernel
theorem d_M_tuple_44 : decode b_M_tuple 44 = .ok (.bipush 20, 2) := by decide +kernel
theorem d_M_tuple_46 : decode b_M_tuple 46 = .ok (.iload_n 1, 1) := by decide +kernel
theorem d_M_tuple_47 : decode b_M_tuple 47 = .ok (.imul, 1) := by decide +kernel
theorem d_M_tuple_48 : decode b_M_tuple 48 = .ok (.aload_n 0, 1) := by decide +kernel
theorem d_M_tuple_49 : decode b_M_tuple 49 = .ok (.getfield 49, 3) := by decide +kernel
theorem d_M_tuple_52 : decode b_M_tuple 52 = .ok (.iload_n 1, 1) := by decide +kernel
theorem d_M_tuple_53 : decode b_M_tuple 53 = .ok (.iaload, 1) := by decide +kernel
theorem d_M_tuple_54 : decode b_M_tuple 54 = .ok (.iadd, 1) := by decide +kernel
theorem d_M_tuple_55 : decode b_M_tuple 55 = .ok (.iload_n 2, 1) := by decide +kernel
theorem d_M_tuple_56 : decode b_M_tuple 56 = .ok (.iastore, 1) := by decide +kernel
theorem d_M_tuple_57 : decode b_M_tuple 57 = .ok (.aload_n 0, 1) := by decide +kernel
theorem d_M_tuple_58 : decode b_M_tuple 58 = .ok (.getfield 49, 3) := by decide +kernel
theorem d_M_tuple_61 : decode b_M_tuple 61 = .ok (.iload_n 1, 1) := by decide +kernel
theorem d_M_tuple_62 : decode b_M_tuple 62 = .ok (.dup2, 1) := by decide +kernel
theorem d_M_tuple_63 : decode b_M_tuple 63 = .ok (.iaload, 1) := by decide +kernel
theorem d_M_tuple_64 : decode b_M_tuple 64 = .ok (.iconst 1, 1) := by decide +kernel
theorem d_M_tuple_65 : decode b_M_tuple 65 = .ok (.iadd, 1) := by decide +kernel
theorem d_M_tuple_66 : decode b_M_tuple 66 = .ok (.iastore, 1) := by decide +kernel
theorem d_M_tuple_67 : decode b_M_tuple 67 = .ok (.aload_n 0, 1) := by decide +kernel
theorem d_M_tuple_68 : decode b_M_tuple 68 = .ok (.getfield 49, 3) := by decide +kernel
theorem d_M_tuple_71 : decode b_M_tuple 71 = .ok (.iload_n 1, 1) := by decide +kernel
theorem d_M_tuple_72 : decode b_M_tuple 72 = .ok (.iaload, 1) := by decide +kernel
theorem d_M_tuple_73 : decode b_M_tuple 73 = .ok (.ireturn, 1) := by decide +kernel
theorem d_M_isOf_0 : decode b_M_isOf 0 = .ok (.iload_n 1, 1) := by decide +kernel
theorem d_M_isOf_1 : decode b_M_isOf 1 = .ok (.iconst 0, 1) := by decide +kernel
theorem d_M_isOf_2 : decode b_M_isOf 2 = .ok (.aload_n 0, 1) := by decide +kernel
theorem d_M_isOf_3 : decode b_M_isOf 3 = .ok (.getfield 86, 3) := by decide +kernel
theorem d_M_isOf_6 : decode b_M_isOf 6 = .ok (.iconst 1, 1) := by decide +kernel
theorem d_M_isOf_7 : decode b_M_isOf 7 = .ok (.isub, 1) := by decide +kernel
theorem d_M_isOf_8 : decode b_M_isOf 8 = .ok (.invokestatic 95, 3) := by decide +kernel
theorem d_M_isOf_11 : decode b_M_isOf 11 = .ok (.ifCond .eq 17, 3) := by decide +kernel
theorem d_M_isOf_14 : decode b_M_isOf 14 = .ok (.aload_n 0, 1) := by decide +kernel
theorem d_M_isOf_15 : decode b_M_isOf 15 = .ok (.getfield 28, 3) := by decide +kernel
theorem d_M_isOf_18 : decode b_M_isOf 18 = .ok (.iload_n 1, 1) := by decide +kernel
theorem d_M_isOf_19 : decode b_M_isOf 19 = .ok (.iaload, 1) := by decide +kernel
theorem d_M_isOf_20 : decode b_M_isOf 20 = .ok (.iload_n 2, 1) := by decide +kernel
theorem d_M_isOf_21 : decode b_M_isOf 21 = .ok (.if_icmp .ne 7, 3) := by decide +kernel
theorem d_M_isOf_24 : decode b_M_isOf 24 = .ok (.iconst 1, 1) := by decide +kernel
theorem d_M_isOf_25 : decode b_M_isOf 25 = .ok (.goto 4, 3) := by decide +kernel
theorem d_M_isOf_28 : decode b_M_isOf 28 = .ok (.iconst 0, 1) := by decide +kernel
theorem d_M_isOf_29 : decode b_M_isOf 29 = .ok (.ireturn, 1) := by decide +kernel
theorem d_M_isWord_0 : decode b_M_isWord 0 = .ok (.iload_n 1, 1) := by decide +kernel
theorem d_M_isWord_1 : decode b_M_isWord 1 = .ok (.ifCond .lt 11, 3) := by decide +kernel
theorem d_M_isWord_4 : decode b_M_isWord 4 = .ok (.iload_n 1, 1) := by decide +kernel
theorem d_M_isWord_5 : decode b_M_isWord 5 = .ok (.iconst 3, 1) := by decide +kernel
theorem d_M_isWord_6 : decode b_M_isWord 6 = .ok (.iload_n 0, 1) := by decide +kernel
theorem d_M_isWord_7 : decode b_M_isWord 7 = .ok (.imul, 1) := by decide +kernel
theorem d_M_isWord_8 : decode b_M_isWord 8 = .ok (.ishr, 1) := by decide +kernel
theorem d_M_isWord_9 : decode b_M_isWord 9 = .ok (.ifCond .eq 5, 3) := by decide +kernel
theorem d_M_isWord_12 : decode b_M_isWord 12 = .ok (.iconst 0, 1) := by decide +kernel
theorem d_M_isWord_13 : decode b_M_isWord 13 = .ok (.ireturn, 1) := by decide +kernel
theorem d_M_isWord_14 : decode b_M_isWord 14 = .ok (.iconst 1, 1) := by decide +kernel
theorem d_M_isWord_15 : decode b_M_isWord 15 = .ok (.istore_n 3, 1) := by decide +kernel
theorem d_M_isWord_16 : decode b_M_isWord 16 = .ok (.iconst 0, 1) := by decide +kernel
theorem d_M_isWord_17 : decode b_M_isWord 17 = .ok (.istore 4, 2) := by decide +kernel
theorem d_M_isWord_19 : decode b_M_isWord 19 = .ok (.iload 4, 2) := by decide +kernel
theorem d_M_isWord_21 : decode b_M_isWord 21 = .ok (.iload_n 0, 1) := by decide +kernel
theorem d_M_isWord_22 : decode b_M_isWord 22 = .ok (.if_icmp .ge 48, 3) := by decide +kernel
theorem d_M_isWord_25 : decode b_M_isWord 25 = .ok (.iload_n 1, 1) := by decide +kernel
theorem d_M_isWord_26 : decode b_M_isWord 26 = .ok (.iconst 3, 1) := by decide +kernel
theorem d_M_isWord_27 : decode b_M_isWord 27 = .ok (.iload 4, 2) := by decide +kernel
theorem d_M_isWord_29 : decode b_M_isWord 29 = .ok (.imul, 1) := by decide +kernel
theorem d_M_isWord_30 : decode b_M_isWord 30 = .ok (.ishr, 1) := by decide +kernel
theorem d_M_isWord_31 : decode b_M_isWord 31 = .ok (.bipush 7, 2) := by decide +kernel
theorem d_M_isWord_33 : decode b_M_isWord 33 = .ok (.iand, 1) := by decide +kernel
theorem d_M_isWord_34 : decode b_M_isWord 34 = .ok (.istore 5, 2) := by decide +kernel
theorem d_M_isWord_36 : decode b_M_isWord 36 = .ok (.iload_n 3, 1) := by decide +kernel
theorem d_M_isWord_37 : decode b_M_isWord 37 = .ok (.ifCond .eq 25, 3) := by decide +kernel
theorem d_M_isWord_40 : decode b_M_isWord 40 = .ok (.iload 5, 2) := by decide +kernel
theorem d_M_isWord_42 : decode b_M_isWord 42 = .ok (.bipush 6, 2) := by decide +kernel
theorem d_M_isWord_44 : decode b_M_isWord 44 = .ok (.if_icmp .lt 14, 3) := by decide +kernel
theorem d_M_isWord_47 : decode b_M_isWord 47 = .ok (.iload_n 2, 1) := by decide +kernel
theorem d_M_isWord_48 : decode b_M_isWord 48 = .ok (.ifCond .eq 14, 3) := by decide +kernel
theorem d_M_isWord_51 : decode b_M_isWord 51 = .ok (.iload 5, 2) := by decide +kernel
theorem d_M_isWord_53 : decode b_M_isWord 53 = .ok (.bipush 7, 2) := by decide +kernel
theorem d_M_isWord_55 : decode b_M_isWord 55 = .ok (.if_icmp .ne 7, 3) := by decide +kernel
theorem d_M_isWord_58 : decode b_M_isWord 58 = .ok (.iconst 1, 1) := by decide +kernel
theorem d_M_isWord_59 : decode b_M_isWord 59 = .ok (.goto 4, 3) := by decide +kernel
theorem d_M_isWord_62 : decode b_M_isWord 62 = .ok (.iconst 0, 1) := by decide +kernel
theorem d_M_isWord_63 : decode b_M_isWord 63 = .ok (.istore_n 3, 1) := by decide +kernel
theorem d_M_isWord_64 : decode b_M_isWord 64 = .ok (.iinc 4 1, 3) := by decide +kernel
theorem d_M_isWord_67 : decode b_M_isWord 67 = .ok (.goto (-48), 3) := by decide +kernel
theorem d_M_isWord_70 : decode b_M_isWord 70 = .ok (.iload_n 3, 1) := by decide +kernel
theorem d_M_isWord_71 : decode b_M_isWord 71 = .ok (.ireturn, 1) := by decide +kernel
theorem d_M_machine_0 : decode b_M_machine 0 = .ok (.aload_n 0, 1) := by decide +kernel
theorem d_M_machine_1 : decode b_M_machine 1 = .ok (.iload_n 1, 1) := by decide +kernel
theorem d_M_machine_2 : decode b_M_machine 2 = .ok (.iload_n 2, 1) := by decide +kernel
theorem d_M_machine_3 : decode b_M_machine 3 = .ok (.invokevirtual 99, 3) := by decide +kernel
theorem d_M_machine_6 : decode b_M_machine 6 = .ok (.ifCond .eq 39, 3) := by decide +kernel
theorem d_M_machine_9 : decode b_M_machine 9 = .ok (.iload_n 3, 1) := by decide +kernel
theorem d_M_machine_10 : decode b_M_machine 10 = .ok (.iconst 0, 1) := by decide +kernel
theorem d_M_machine_11 : decode b_M_machine 11 = .ok (.bipush 63, 2) := by decide +kernel
theorem d_M_machine_13 : decode b_M_machine 13 = .ok (.invokestatic 95, 3) := by decide +kernel
theorem d_M_machine_16 : decode b_M_machine 16 = .ok (.ifCond .eq 29, 3) := by decide +kernel
theorem d_M_machine_19 : decode b_M_machine 19 = .ok (.iload 4, 2) := by decide +kernel
theorem d_M_machine_21 : decode b_M_machine 21 = .ok (.iconst 0, 1) := by decide +kernel
theorem d_M_machine_22 : decode b_M_machine 22 = .ok (.sipush 1000, 3) := by decide +kernel
theorem d_M_machine_25 : decode b_M_machine 25 = .ok (.invokestatic 95, 3) := by decide +kernel
theorem d_M_machine_28 : decode b_M_machine 28 = .ok (.ifCond .eq 17, 3) := by decide +kernel
theorem d_M_machine_31 : decode b_M_machine 31 = .ok (.aload_n 0, 1) := by decide +kernel
theorem d_M_machine_32 : decode b_M_machine 32 = .ok (.iconst 1, 1) := by decide +kernel
theorem d_M_machine_33 : decode b_M_machine 33 = .ok (.iload_n 1, 1) := by decide +kernel
theorem d_M_machine_34 : decode b_M_machine 34 = .ok (.iload_n 2, 1) := by decide +kernel
theorem d_M_machine_35 : decode b_M_machine 35 = .ok (.iload_n 3, 1) := by decide +kernel
theorem d_M_machine_36 : decode b_M_machine 36 = .ok (.iload 4, 2) := by decide +kernel
theorem d_M_machine_38 : decode b_M_machine 38 = .ok (.iconst 0, 1) := by decide +kernel
theorem d_M_machine_39 : decode b_M_machine 39 = .ok (.invokevirtual 103, 3) := by decide +kernel
theorem d_M_machine_42 : decode b_M_machine 42 = .ok (.goto 5, 3) := by decide +kernel
theorem d_M_machine_45 : decode b_M_machine 45 = .ok (.bipush (-2), 2) := by decide +kernel
theorem d_M_machine_47 : decode b_M_machine 47 = .ok (.ireturn, 1) := by decide +kernel
theorem d_M_step_0 : decode b_M_step 0 = .ok (.aload_n 0, 1) := by decide +kernel
theorem d_M_step_1 : decode b_M_step 1 = .ok (.iload_n 1, 1) := by decide +kernel
theorem d_M_step_2 : decode b_M_step 2 = .ok (.iconst 1, 1) := by decide +kernel
theorem d_M_step_3 : decode b_M_step 3 = .ok (.invokevirtual 107, 3) := by decide +kernel
theorem d_M_step_6 : decode b_M_step 6 = .ok (.ifCond .eq 42, 3) := by decide +kernel
theorem d_M_step_9 : decode b_M_step 9 = .ok (.iload_n 2, 1) := by decide +kernel
theorem d_M_step_10 : decode b_M_step 10 = .ok (.iconst 0, 1) := by decide +kernel
theorem d_M_step_11 : decode b_M_step 11 = .ok (.iconst 5, 1) := by decide +kernel
theorem d_M_step_12 : decode b_M_step 12 = .ok (.invokestatic 95, 3) := by decide +kernel
theorem d_M_step_15 : decode b_M_step 15 = .ok (.ifCond .eq 33, 3) := by decide +kernel
theorem d_M_step_18 : decode b_M_step 18 = .ok (.iload_n 3, 1) := by decide +kernel
theorem d_M_step_19 : decode b_M_step 19 = .ok (.iconst 0, 1) := by decide +kernel
theorem d_M_step_20 : decode b_M_step 20 = .ok (.iconst 5, 1) := by decide +kernel
theorem d_M_step_21 : decode b_M_step 21 = .ok (.invokestatic 95, 3) := by decide +kernel
theorem d_M_step_24 : decode b_M_step 24 = .ok (.ifCond .eq 24, 3) := by decide +kernel
theorem d_M_step_27 : decode b_M_step 27 = .ok (.iload 4, 2) := by decide +kernel
theorem d_M_step_29 : decode b_M_step 29 = .ok (.iconst 0, 1) := by decide +kernel
theorem d_M_step_30 : decode b_M_step 30 = .ok (.iconst 5, 1) := by decide +kernel
theorem d_M_step_31 : decode b_M_step 31 = .ok (.invokestatic 95, 3) := by decide +kernel
theorem d_M_step_34 : decode b_M_step 34 = .ok (.ifCond .eq 14, 3) := by decide +kernel
theorem d_M_step_37 : decode b_M_step 37 = .ok (.iload 5, 2) := by decide +kernel
theorem d_M_step_39 : decode b_M_step 39 = .ok (.iconst 0, 1) := by decide +kernel
theorem d_M_step_40 : decode b_M_step 40 = .ok (.bipush 100, 2) := by decide +kernel
theorem d_M_step_42 : decode b_M_step 42 = .ok (.invokestatic 95, 3) := by decide +kernel
theorem d_M_step_45 : decode b_M_step 45 = .ok (.ifCond .ne 6, 3) := by decide +kernel
theorem d_M_step_48 : decode b_M_step 48 = .ok (.bipush (-2), 2) := by decide +kernel
theorem d_M_step_50 : decode b_M_step 50 = .ok (.ireturn, 1) := by decide +kernel
theorem d_M_step_51 : decode b_M_step 51 = .ok (.aload_n 0, 1) := by decide +kernel
theorem d_M_step_52 : decode b_M_step 52 = .ok (.getfield 49, 3) := by decide +kernel
theorem d_M_step_55 : decode b_M_step 55 = .ok (.iload_n 1, 1) := by decide +kernel
theorem d_M_step_56 : decode b_M_step 56 = .ok (.iaload, 1) := by decide +kernel
theorem d_M_step_57 : decode b_M_step 57 = .ok (.bipush 30, 2) := by decide +kernel
theorem d_M_step_59 : decode b_M_step 59 = .ok (.if_icmp .ne 6, 3) := by decide +kernel
theorem d_M_step_62 : decode b_M_step 62 = .ok (.bipush (-3), 2) := by decide +kernel
theorem d_M_step_64 : decode b_M_step 64 = .ok (.ireturn, 1) := by decide +kernel
theorem d_M_step_65 : decode b_M_step 65 = .ok (.bipush 30, 2) := by decide +kernel
theorem d_M_step_67 : decode b_M_step 67 = .ok (.iload_n 1, 1) := by decide +kernel
theorem d_M_step_68 : decode b_M_step 68 = .ok (.imul, 1) := by decide +kernel
theorem d_M_step_69 : decode b_M_step 69 = .ok (.aload_n 0, 1) := by decide +kernel
theorem d_M_step_70 : decode b_M_step 70 = .ok (.getfield 49, 3) := by decide +kernel
theorem d_M_step_73 : decode b_M_step 73 = .ok (.iload_n 1, 1) := by decide +kernel
theorem d_M_step_74 : decode b_M_step 74 = .ok (.iaload, 1) := by decide +kernel
theorem d_M_step_75 : decode b_M_step 75 = .ok (.iadd, 1) := by decide +kernel
theorem d_M_step_76 : decode b_M_step 76 = .ok (.istore 6, 2) := by decide +kernel
theorem d_M_step_78 : decode b_M_step 78 = .ok (.aload_n 0, 1) := by decide +kernel
theorem d_M_step_79 : decode b_M_step 79 = .ok (.getfield 55, 3) := by decide +kernel
theorem d_M_step_82 : decode b_M_step 82 = .ok (.iload 6, 2) := by decide +kernel
theorem d_M_step_84 : decode b_M_step 84 = .ok (.iload_n 2, 1) := by decide +kernel
theorem d_M_step_85 : decode b_M_step 85 = .ok (.iastore, 1) := by decide +kernel
theorem d_M_step_86 : decode b_M_step 86 = .ok (.aload_n 0, 1) := by decide +kernel
theorem d_M_step_87 : decode b_M_step 87 = .ok (.getfield 58, 3) := by decide +kernel
theorem d_M_step_90 : decode b_M_step 90 = .ok (.iload 6, 2) := by decide +kernel
theorem d_M_step_92 : decode b_M_step 92 = .ok (.iload_n 3, 1) := by decide +kernel
theorem d_M_step_93 : decode b_M_step 93 = .ok (.iastore, 1) := by decide +kernel
theorem d_M_step_94 : decode b_M_step 94 = .ok (.aload_n 0, 1) := by decide +kernel
theorem d_M_step_95 : decode b_M_step 95 = .ok (.getfield 61, 3) := by decide +kernel
theorem d_M_step_98 : decode b_M_step 98 = .ok (.iload 6, 2) := by decide +kernel
theorem d_M_step_100 : decode b_M_step 100 = .ok (.iload 4, 2) := by decide +kernel
theorem d_M_step_102 : decode b_M_step 102 = .ok (.iastore, 1) := by decide +kernel
theorem d_M_step_103 : decode b_M_step 103 = .ok (.aload_n 0, 1) := by decide +kernel
theorem d_M_step_104 : decode b_M_step 104 = .ok (.getfield 64, 3) := by decide +kernel
theorem d_M_step_107 : decode b_M_step 107 = .ok (.iload 6, 2) := by decide +kernel
theorem d_M_step_109 : decode b_M_step 109 = .ok (.iload 5, 2) := by decide +kernel
theorem d_M_step_111 : decode b_M_step 111 = .ok (.iastore, 1) := by decide +kernel
theorem d_M_step_112 : decode b_M_step 112 = .ok (.aload_n 0, 1) := by decide +kernel
theorem d_M_step_113 : decode b_M_step 113 = .ok (.getfield 49, 3) := by decide +kernel
theorem d_M_step_116 : decode b_M_step 116 = .ok (.iload_n 1, 1) := by decide +kernel
theorem d_M_step_117 : decode b_M_step 117 = .ok (.dup2, 1) := by decide +kernel
theorem d_M_step_118 : decode b_M_step 118 = .ok (.iaload, 1) := by decide +kernel
theorem d_M_step_119 : decode b_M_step 119 = .ok (.iconst 1, 1) := by decide +kernel
theorem d_M_step_120 : decode b_M_step 120 = .ok (.iadd, 1) := by decide +kernel
theorem d_M_step_121 : decode b_M_step 121 = .ok (.iastore, 1) := by decide +kernel
theorem d_M_step_122 : decode b_M_step 122 = .ok (.aload_n 0, 1) := by decide +kernel
theorem d_M_step_123 : decode b_M_step 123 = .ok (.getfield 49, 3) := by decide +kernel
theorem d_M_step_126 : decode b_M_step 126 = .ok (.iload_n 1, 1) := by decide +kernel
theorem d_M_step_127 : decode b_M_step 127 = .ok (.iaload, 1) := by decide +kernel
theorem d_M_step_128 : decode b_M_step 128 = .ok (.ireturn, 1) := by decide +kernel
theorem d_M_element_0 : decode b_M_element 0 = .ok (.iload_n 1, 1) := by decide +kernel
theorem d_M_element_1 : decode b_M_element 1 = .ok (.iconst 2, 1) := by decide +kernel
theorem d_M_element_2 : decode b_M_element 2 = .ok (.if_icmp .le 25, 3) := by decide +kernel
theorem d_M_element_5 : decode b_M_element 5 = .ok (.aload_n 0, 1) := by decide +kernel
theorem d_M_element_6 : decode b_M_element 6 = .ok (.iload_n 1, 1) := by decide +kernel
theorem d_M_element_7 : decode b_M_element 7 = .ok (.iload_n 2, 1) := by decide +kernel
theorem d_M_element_8 : decode b_M_element 8 = .ok (.invokevirtual 99, 3) := by decide +kernel
theorem d_M_element_11 : decode b_M_element 11 = .ok (.ifCond .eq 16, 3) := by decide +kernel
theorem d_M_element_14 : decode b_M_element 14 = .ok (.aload_n 0, 1) := by decide +kernel
theorem d_M_element_15 : decode b_M_element 15 = .ok (.iconst 2, 1) := by decide +kernel
theorem d_M_element_16 : decode b_M_element 16 = .ok (.iload_n 1, 1) := by decide +kernel
theorem d_M_element_17 : decode b_M_element 17 = .ok (.iload_n 2, 1) := by decide +kernel
theorem d_M_element_18 : decode b_M_element 18 = .ok (.iconst 0, 1) := by decide +kernel
theorem d_M_element_19 : decode b_M_element 19 = .ok (.iconst 0, 1) := by decide +kernel
theorem d_M_element_20 : decode b_M_element 20 = .ok (.iconst 0, 1) := by decide +kernel
theorem d_M_element_21 : decode b_M_element 21 = .ok (.invokevirtual 103, 3) := by decide +kernel
theorem d_M_element_24 : decode b_M_element 24 = .ok (.goto 5, 3) := by decide +kernel
theorem d_M_element_27 : decode b_M_element 27 = .ok (.bipush (-2), 2) := by decide +kernel
theorem d_M_element_29 : decode b_M_element 29 = .ok (.ireturn, 1) := by decide +kernel
theorem d_M_order_0 : decode b_M_order 0 = .ok (.iload_n 1, 1) := by decide +kernel
theorem d_M_order_1 : decode b_M_order 1 = .ok (.iconst 2, 1) := by decide +kernel
theorem d_M_order_2 : decode b_M_order 2 = .ok (.irem, 1) := by decide +kernel
theorem d_M_order_3 : decode b_M_order 3 = .ok (.ifCond .ne 33, 3) := by decide +kernel
theorem d_M_order_6 : decode b_M_order 6 = .ok (.aload_n 0, 1) := by decide +kernel
theorem d_M_order_7 : decode b_M_order 7 = .ok (.iload_n 1, 1) := by decide +kernel
theorem d_M_order_8 : decode b_M_order 8 = .ok (.iload_n 2, 1) := by decide +kernel
theorem d_M_order_9 : decode b_M_order 9 = .ok (.invokevirtual 99, 3) := by decide +kernel
theorem d_M_order_12 : decode b_M_order 12 = .ok (.ifCond .eq 24, 3) := by decide +kernel
theorem d_M_order_15 : decode b_M_order 15 = .ok (.aload_n 0, 1) := by decide +kernel
theorem d_M_order_16 : decode b_M_order 16 = .ok (.iconst 3, 1) := by decide +kernel
theorem d_M_order_17 : decode b_M_order 17 = .ok (.iload_n 1, 1) := by decide +kernel
theorem d_M_order_18 : decode b_M_order 18 = .ok (.iload_n 2, 1) := by decide +kernel
theorem d_M_order_19 : decode b_M_order 19 = .ok (.iload_n 3, 1) := by decide +kernel
theorem d_M_order_20 : decode b_M_order 20 = .ok (.ifCond .eq 7, 3) := by decide +kernel
theorem d_M_order_23 : decode b_M_order 23 = .ok (.iconst 1, 1) := by decide +kernel
theorem d_M_order_24 : decode b_M_order 24 = .ok (.goto 4, 3) := by decide +kernel
theorem d_M_order_27 : decode b_M_order 27 = .ok (.iconst 0, 1) := by decide +kernel
theorem d_M_order_28 : decode b_M_order 28 = .ok (.iconst 0, 1) := by decide +kernel
theorem d_M_order_29 : decode b_M_order 29 = .ok (.iconst 0, 1) := by decide +kernel
theorem d_M_order_30 : decode b_M_order 30 = .ok (.invokevirtual 103, 3) := by decide +kernel
theorem d_M_order_33 : decode b_M_order 33 = .ok (.goto 5, 3) := by decide +kernel
theorem d_M_order_36 : decode b_M_order 36 = .ok (.bipush (-2), 2) := by decide +kernel
theorem d_M_order_38 : decode b_M_order 38 = .ok (.ireturn, 1) := by decide +kernel
theorem d_M_sum_0 : decode b_M_sum 0 = .ok (.aload_n 0, 1) := by decide +kernel
theorem d_M_sum_1 : decode b_M_sum 1 = .ok (.iload_n 1, 1) := by decide +kernel
theorem d_M_sum_2 : decode b_M_sum 2 = .ok (.iload_n 2, 1) := by decide +kernel
theorem d_M_sum_3 : decode b_M_sum 3 = .ok (.invokevirtual 99, 3) := by decide +kernel
theorem d_M_sum_6 : decode b_M_sum 6 = .ok (.ifCond .eq 38, 3) := by decide +kernel
theorem d_M_sum_9 : decode b_M_sum 9 = .ok (.iload_n 3, 1) := by decide +kernel
theorem d_M_sum_10 : decode b_M_sum 10 = .ok (.iconst 0, 1) := by decide +kernel
theorem d_M_sum_11 : decode b_M_sum 11 = .ok (.bipush 30, 2) := by decide +kernel
theorem d_M_sum_13 : decode b_M_sum 13 = .ok (.invokestatic 95, 3) := by decide +kernel
theorem d_M_sum_16 : decode b_M_sum 16 = .ok (.ifCond .eq 28, 3) := by decide +kernel
theorem d_M_sum_19 : decode b_M_sum 19 = .ok (.iload 4, 2) := by decide +kernel
theorem d_M_sum_21 : decode b_M_sum 21 = .ok (.iload_n 3, 1) := by decide +kernel
theorem d_M_sum_22 : decode b_M_sum 22 = .ok (.bipush 30, 2) := by decide +kernel
theorem d_M_sum_24 : decode b_M_sum 24 = .ok (.invokestatic 95, 3) := by decide +kernel
theorem d_M_sum_27 : decode b_M_sum 27 = .ok (.ifCond .eq 17, 3) := by decide +kernel
theorem d_M_sum_30 : decode b_M_sum 30 = .ok (.aload_n 0, 1) := by decide +kernel
theorem d_M_sum_31 : decode b_M_sum 31 = .ok (.iconst 4, 1) := by decide +kernel
theorem d_M_sum_32 : decode b_M_sum 32 = .ok (.iload_n 1, 1) := by decide +kernel
theorem d_M_sum_33 : decode b_M_sum 33 = .ok (.iload_n 2, 1) := by decide +kernel
theorem d_M_sum_34 : decode b_M_sum 34 = .ok (.iload_n 3, 1) := by decide +kernel
theorem d_M_sum_35 : decode b_M_sum 35 = .ok (.iload 4, 2) := by decide +kernel
theorem d_M_sum_37 : decode b_M_sum 37 = .ok (.iconst 0, 1) := by decide +kernel
theorem d_M_sum_38 : decode b_M_sum 38 = .ok (.invokevirtual 103, 3) := by decide +kernel
theorem d_M_sum_41 : decode b_M_sum 41 = .ok (.goto 5, 3) := by decide +kernel
theorem d_M_sum_44 : decode b_M_sum 44 = .ok (.bipush (-2), 2) := by decide +kernel
theorem d_M_sum_46 : decode b_M_sum 46 = .ok (.ireturn, 1) := by decide +kernel
theorem d_M_tally_0 : decode b_M_tally 0 = .ok (.aload_n 0, 1) := by decide +kernel
theorem d_M_tally_1 : decode b_M_tally 1 = .ok (.iload_n 1, 1) := by decide +kernel
theorem d_M_tally_2 : decode b_M_tally 2 = .ok (.iload_n 2, 1) := by decide +kernel
theorem d_M_tally_3 : decode b_M_tally 3 = .ok (.invokevirtual 99, 3) := by decide +kernel
theorem d_M_tally_6 : decode b_M_tally 6 = .ok (.ifCond .eq 50, 3) := by decide +kernel
theorem d_M_tally_9 : decode b_M_tally 9 = .ok (.iload_n 3, 1) := by decide +kernel
theorem d_M_tally_10 : decode b_M_tally 10 = .ok (.iconst 0, 1) := by decide +kernel
theorem d_M_tally_11 : decode b_M_tally 11 = .ok (.iconst 5, 1) := by decide +kernel
theorem d_M_tally_12 : decode b_M_tally 12 = .ok (.invokestatic 95, 3) := by decide +kernel
theorem d_M_tally_15 : decode b_M_tally 15 = .ok (.ifCond .eq 41, 3) := by decide +kernel
theorem d_M_tally_18 : decode b_M_tally 18 = .ok (.iload 4, 2) := by decide +kernel
theorem d_M_tally_20 : decode b_M_tally 20 = .ok (.iconst 0, 1) := by decide +kernel
theorem d_M_tally_21 : decode b_M_tally 21 = .ok (.bipush 6, 2) := by decide +kernel
theorem d_M_tally_23 : decode b_M_tally 23 = .ok (.invokestatic 95, 3) := by decide +kernel
theorem d_M_tally_26 : decode b_M_tally 26 = .ok (.ifCond .eq 30, 3) := by decide +kernel
theorem d_M_tally_29 : decode b_M_tally 29 = .ok (.iload 5, 2) := by decide +kernel
theorem d_M_tally_31 : decode b_M_tally 31 = .ok (.iload 4, 2) := by decide +kernel
theorem d_M_tally_33 : decode b_M_tally 33 = .ok (.bipush 6, 2) := by decide +kernel
theorem d_M_tally_35 : decode b_M_tally 35 = .ok (.invokestatic 95, 3) := by decide +kernel
theorem d_M_tally_38 : decode b_M_tally 38 = .ok (.ifCond .eq 18, 3) := by decide +kernel
theorem d_M_tally_41 : decode b_M_tally 41 = .ok (.aload_n 0, 1) := by decide +kernel
theorem d_M_tally_42 : decode b_M_tally 42 = .ok (.iconst 5, 1) := by decide +kernel
theorem d_M_tally_43 : decode b_M_tally 43 = .ok (.iload_n 1, 1) := by decide +kernel
theorem d_M_tally_44 : decode b_M_tally 44 = .ok (.iload_n 2, 1) := by decide +kernel
theorem d_M_tally_45 : decode b_M_tally 45 = .ok (.iload 4, 2) := by decide +kernel
theorem d_M_tally_47 : decode b_M_tally 47 = .ok (.iload 5, 2) := by decide +kernel
theorem d_M_tally_49 : decode b_M_tally 49 = .ok (.iload_n 3, 1) := by decide +kernel
theorem d_M_tally_50 : decode b_M_tally 50 = .ok (.invokevirtual 103, 3) := by decide +kernel
theorem d_M_tally_53 : decode b_M_tally 53 = .ok (.goto 5, 3) := by decide +kernel
theorem d_M_tally_56 : decode b_M_tally 56 = .ok (.bipush (-2), 2) := by decide +kernel
theorem d_M_tally_58 : decode b_M_tally 58 = .ok (.ireturn, 1) := by decide +kernel
theorem d_M_first_0 : decode b_M_first 0 = .ok (.aload_n 0, 1) := by decide +kernel
theorem d_M_first_1 : decode b_M_first 1 = .ok (.iload_n 1, 1) := by decide +kernel
theorem d_M_first_2 : decode b_M_first 2 = .ok (.iload_n 2, 1) := by decide +kernel
theorem d_M_first_3 : decode b_M_first 3 = .ok (.invokevirtual 99, 3) := by decide +kernel
theorem d_M_first_6 : decode b_M_first 6 = .ok (.ifCond .eq 43, 3) := by decide +kernel
theorem d_M_first_9 : decode b_M_first 9 = .ok (.iload_n 3, 1) := by decide +kernel
theorem d_M_first_10 : decode b_M_first 10 = .ok (.iconst 0, 1) := by decide +kernel
theorem d_M_first_11 : decode b_M_first 11 = .ok (.iconst 5, 1) := by decide +kernel
theorem d_M_first_12 : decode b_M_first 12 = .ok (.invokestatic 95, 3) := by decide +kernel
theorem d_M_first_15 : decode b_M_first 15 = .ok (.ifCond .eq 34, 3) := by decide +kernel
theorem d_M_first_18 : decode b_M_first 18 = .ok (.iload 4, 2) := by decide +kernel
theorem d_M_first_20 : decode b_M_first 20 = .ok (.iconst 0, 1) := by decide +kernel
theorem d_M_first_21 : decode b_M_first 21 = .ok (.iconst 5, 1) := by decide +kernel
theorem d_M_first_22 : decode b_M_first 22 = .ok (.invokestatic 95, 3) := by decide +kernel
theorem d_M_first_25 : decode b_M_first 25 = .ok (.ifCond .eq 24, 3) := by decide +kernel
theorem d_M_first_28 : decode b_M_first 28 = .ok (.iload_n 3, 1) := by decide +kernel
theorem d_M_first_29 : decode b_M_first 29 = .ok (.iload 4, 2) := by decide +kernel
theorem d_M_first_31 : decode b_M_first 31 = .ok (.if_icmp .eq 18, 3) := by decide +kernel
theorem d_M_first_34 : decode b_M_first 34 = .ok (.aload_n 0, 1) := by decide +kernel
theorem d_M_first_35 : decode b_M_first 35 = .ok (.bipush 6, 2) := by decide +kernel
theorem d_M_first_37 : decode b_M_first 37 = .ok (.iload_n 1, 1) := by decide +kernel
theorem d_M_first_38 : decode b_M_first 38 = .ok (.iload_n 2, 1) := by decide +kernel
theorem d_M_first_39 : decode b_M_first 39 = .ok (.iload_n 3, 1) := by decide +kernel
theorem d_M_first_40 : decode b_M_first 40 = .ok (.iload 4, 2) := by decide +kernel
theorem d_M_first_42 : decode b_M_first 42 = .ok (.iconst 0, 1) := by decide +kernel
theorem d_M_first_43 : decode b_M_first 43 = .ok (.invokevirtual 103, 3) := by decide +kernel
theorem d_M_first_46 : decode b_M_first 46 = .ok (.goto 5, 3) := by decide +kernel
theorem d_M_first_49 : decode b_M_first 49 = .ok (.bipush (-2), 2) := by decide +kernel
theorem d_M_first_51 : decode b_M_first 51 = .ok (.ireturn, 1) := by decide +kernel
theorem d_M_undo_0 : decode b_M_undo 0 = .ok (.aload_n 0, 1) := by decide +kernel
theorem d_M_undo_1 : decode b_M_undo 1 = .ok (.getfield 86, 3) := by decide +kernel
theorem d_M_undo_4 : decode b_M_undo 4 = .ok (.ifCond .ne 5, 3) := by decide +kernel
theorem d_M_undo_7 : decode b_M_undo 7 = .ok (.iconst (-1), 1) := by decide +kernel
theorem d_M_undo_8 : decode b_M_undo 8 = .ok (.ireturn, 1) := by decide +kernel
theorem d_M_undo_9 : decode b_M_undo 9 = .ok (.aload_n 0, 1) := by decide +kernel
theorem d_M_undo_10 : decode b_M_undo 10 = .ok (.dup, 1) := by decide +kernel
theorem d_M_undo_11 : decode b_M_undo 11 = .ok (.getfield 86, 3) := by decide +kernel
theorem d_M_undo_14 : decode b_M_undo 14 = .ok (.iconst 1, 1) := by decide +kernel
theorem d_M_undo_15 : decode b_M_undo 15 = .ok (.isub, 1) := by decide +kernel
theorem d_M_undo_16 : decode b_M_undo 16 = .ok (.putfield 86, 3) := by decide +kernel
theorem d_M_undo_19 : decode b_M_undo 19 = .ok (.aload_n 0, 1) := by decide +kernel
theorem d_M_undo_20 : decode b_M_undo 20 = .ok (.getfield 86, 3) := by decide +kernel
theorem d_M_undo_23 : decode b_M_undo 23 = .ok (.ireturn, 1) := by decide +kernel
theorem d_M_cut_0 : decode b_M_cut 0 = .ok (.iload_n 1, 1) := by decide +kernel
theorem d_M_cut_1 : decode b_M_cut 1 = .ok (.iconst 0, 1) := by decide +kernel
theorem d_M_cut_2 : decode b_M_cut 2 = .ok (.aload_n 0, 1) := by decide +kernel
theorem d_M_cut_3 : decode b_M_cut 3 = .ok (.getfield 82, 3) := by decide +kernel
theorem d_M_cut_6 : decode b_M_cut 6 = .ok (.iconst 1, 1) := by decide +kernel
theorem d_M_cut_7 : decode b_M_cut 7 = .ok (.isub, 1) := by decide +kernel
theorem d_M_cut_8 : decode b_M_cut 8 = .ok (.invokestatic 95, 3) := by decide +kernel
theorem d_M_cut_11 : decode b_M_cut 11 = .ok (.ifCond .eq 13, 3) := by decide +kernel
theorem d_M_cut_14 : decode b_M_cut 14 = .ok (.iload_n 2, 1) := by decide +kernel
theorem d_M_cut_15 : decode b_M_cut 15 = .ok (.iconst 0, 1) := by decide +kernel
theorem d_M_cut_16 : decode b_M_cut 16 = .ok (.bipush 63, 2) := by decide +kernel
theorem d_M_cut_18 : decode b_M_cut 18 = .ok (.invokestatic 95, 3) := by decide +kernel
theorem d_M_cut_21 : decode b_M_cut 21 = .ok (.ifCond .ne 6, 3) := by decide +kernel
theorem d_M_cut_24 : decode b_M_cut 24 = .ok (.bipush (-2), 2) := by decide +kernel
theorem d_M_cut_26 : decode b_M_cut 26 = .ok (.ireturn, 1) := by decide +kernel
theorem d_M_cut_27 : decode b_M_cut 27 = .ok (.aload_n 0, 1) := by decide +kernel
theorem d_M_cut_28 : decode b_M_cut 28 = .ok (.getfield 7, 3) := by decide +kernel
theorem d_M_cut_31 : decode b_M_cut 31 = .ok (.iload_n 1, 1) := by decide +kernel
theorem d_M_cut_32 : decode b_M_cut 32 = .ok (.iaload, 1) := by decide +kernel
theorem d_M_cut_33 : decode b_M_cut 33 = .ok (.iload_n 2, 1) := by decide +kernel
theorem d_M_cut_34 : decode b_M_cut 34 = .ok (.iand, 1) := by decide +kernel
theorem d_M_cut_35 : decode b_M_cut 35 = .ok (.ifCond .ne 6, 3) := by decide +kernel
theorem d_M_cut_38 : decode b_M_cut 38 = .ok (.bipush (-4), 2) := by decide +kernel
theorem d_M_cut_40 : decode b_M_cut 40 = .ok (.ireturn, 1) := by decide +kernel
theorem d_M_cut_41 : decode b_M_cut 41 = .ok (.aload_n 0, 1) := by decide +kernel
theorem d_M_cut_42 : decode b_M_cut 42 = .ok (.iload_n 1, 1) := by decide +kernel
theorem d_M_cut_43 : decode b_M_cut 43 = .ok (.aload_n 0, 1) := by decide +kernel
theorem d_M_cut_44 : decode b_M_cut 44 = .ok (.getfield 7, 3) := by decide +kernel
theorem d_M_cut_47 : decode b_M_cut 47 = .ok (.iload_n 1, 1) := by decide +kernel
theorem d_M_cut_48 : decode b_M_cut 48 = .ok (.iaload, 1) := by decide +kernel
theorem d_M_cut_49 : decode b_M_cut 49 = .ok (.iload_n 2, 1) := by decide +kernel
theorem d_M_cut_50 : decode b_M_cut 50 = .ok (.iconst (-1), 1) := by decide +kernel
theorem d_M_cut_51 : decode b_M_cut 51 = .ok (.ixor, 1) := by decide +kernel
theorem d_M_cut_52 : decode b_M_cut 52 = .ok (.iand, 1) := by decide +kernel
theorem d_M_cut_53 : decode b_M_cut 53 = .ok (.bipush 10, 2) := by decide +kernel
theorem d_M_cut_55 : decode b_M_cut 55 = .ok (.iconst 0, 1) := by decide +kernel
theorem d_M_cut_56 : decode b_M_cut 56 = .ok (.invokevirtual 138, 3) := by decide +kernel
theorem d_M_cut_59 : decode b_M_cut 59 = .ok (.ireturn, 1) := by decide +kernel
theorem d_M_take_0 : decode b_M_take 0 = .ok (.iconst 0, 1) := by decide +kernel
theorem d_M_take_1 : decode b_M_take 1 = .ok (.istore 5, 2) := by decide +kernel
theorem d_M_take_3 : decode b_M_take 3 = .ok (.iconst 0, 1) := by decide +kernel
theorem d_M_take_4 : decode b_M_take 4 = .ok (.istore 6, 2) := by decide +kernel
theorem d_M_take_6 : decode b_M_take 6 = .ok (.iload 6, 2) := by decide +kernel
theorem d_M_take_8 : decode b_M_take 8 = .ok (.bipush 6, 2) := by decide +kernel
theorem d_M_take_10 : decode b_M_take 10 = .ok (.if_icmp .ge 49, 3) := by decide +kernel
theorem d_M_take_13 : decode b_M_take 13 = .ok (.iload_n 2, 1) := by decide +kernel
theorem d_M_take_14 : decode b_M_take 14 = .ok (.iload 6, 2) := by decide +kernel
theorem d_M_take_16 : decode b_M_take 16 = .ok (.ishr, 1) := by decide +kernel
theorem d_M_take_17 : decode b_M_take 17 = .ok (.iconst 1, 1) := by decide +kernel
theorem d_M_take_18 : decode b_M_take 18 = .ok (.iand, 1) := by decide +kernel
theorem d_M_take_19 : decode b_M_take 19 = .ok (.iconst 1, 1) := by decide +kernel
theorem d_M_take_20 : decode b_M_take 20 = .ok (.if_icmp .ne 33, 3) := by decide +kernel
theorem d_M_take_23 : decode b_M_take 23 = .ok (.aload_n 0, 1) := by decide +kernel
theorem d_M_take_24 : decode b_M_take 24 = .ok (.getfield 13, 3) := by decide +kernel
theorem d_M_take_27 : decode b_M_take 27 = .ok (.bipush 6, 2) := by decide +kernel
theorem d_M_take_29 : decode b_M_take 29 = .ok (.iload_n 1, 1) := by decide +kernel
theorem d_M_take_30 : decode b_M_take 30 = .ok (.imul, 1) := by decide +kernel
theorem d_M_take_31 : decode b_M_take 31 = .ok (.iload 6, 2) := by decide +kernel
theorem d_M_take_33 : decode b_M_take 33 = .ok (.iadd, 1) := by decide +kernel
theorem d_M_take_34 : decode b_M_take 34 = .ok (.iload_n 3, 1) := by decide +kernel
theorem d_M_take_35 : decode b_M_take 35 = .ok (.iastore, 1) := by decide +kernel
theorem d_M_take_36 : decode b_M_take 36 = .ok (.aload_n 0, 1) := by decide +kernel
theorem d_M_take_37 : decode b_M_take 37 = .ok (.getfield 16, 3) := by decide +kernel
theorem d_M_take_40 : decode b_M_take 40 = .ok (.bipush 6, 2) := by decide +kernel
theorem d_M_take_42 : decode b_M_take 42 = .ok (.iload_n 1, 1) := by decide +kernel
theorem d_M_take_43 : decode b_M_take 43 = .ok (.imul, 1) := by decide +kernel
theorem d_M_take_44 : decode b_M_take 44 = .ok (.iload 6, 2) := by decide +kernel
theorem d_M_take_46 : decode b_M_take 46 = .ok (.iadd, 1) := by decide +kernel
theorem d_M_take_47 : decode b_M_take 47 = .ok (.iload 4, 2) := by decide +kernel
theorem d_M_take_49 : decode b_M_take 49 = .ok (.iastore, 1) := by decide +kernel
theorem d_M_take_50 : decode b_M_take 50 = .ok (.iinc 5 1, 3) := by decide +kernel
theorem d_M_take_53 : decode b_M_take 53 = .ok (.iinc 6 1, 3) := by decide +kernel
theorem d_M_take_56 : decode b_M_take 56 = .ok (.goto (-50), 3) := by decide +kernel
theorem d_M_take_59 : decode b_M_take 59 = .ok (.aload_n 0, 1) := by decide +kernel
theorem d_M_take_60 : decode b_M_take 60 = .ok (.getfield 7, 3) := by decide +kernel
theorem d_M_take_63 : decode b_M_take 63 = .ok (.iload_n 1, 1) := by decide +kernel
theorem d_M_take_64 : decode b_M_take 64 = .ok (.dup2, 1) := by decide +kernel
theorem d_M_take_65 : decode b_M_take 65 = .ok (.iaload, 1) := by decide +kernel
theorem d_M_take_66 : decode b_M_take 66 = .ok (.iload_n 2, 1) := by decide +kernel
theorem d_M_take_67 : decode b_M_take 67 = .ok (.iconst (-1), 1) := by decide +kernel
theorem d_M_take_68 : decode b_M_take 68 = .ok (.ixor, 1) := by decide +kernel
theorem d_M_take_69 : decode b_M_take 69 = .ok (.iand, 1) := by decide +kernel
theorem d_M_take_70 : decode b_M_take 70 = .ok (.iastore, 1) := by decide +kernel
theorem d_M_take_71 : decode b_M_take 71 = .ok (.iload 5, 2) := by decide +kernel
theorem d_M_take_73 : decode b_M_take 73 = .ok (.ireturn, 1) := by decide +kernel
theorem d_M_run_0 : decode b_M_run 0 = .ok (.aload_n 0, 1) := by decide +kernel
theorem d_M_run_1 : decode b_M_run 1 = .ok (.iconst 0, 1) := by decide +kernel
theorem d_M_run_2 : decode b_M_run 2 = .ok (.putfield 92, 3) := by decide +kernel
theorem d_M_run_5 : decode b_M_run 5 = .ok (.iconst 0, 1) := by decide +kernel
theorem d_M_run_6 : decode b_M_run 6 = .ok (.istore_n 1, 1) := by decide +kernel
theorem d_M_run_7 : decode b_M_run 7 = .ok (.iconst (-1), 1) := by decide +kernel
theorem d_M_run_8 : decode b_M_run 8 = .ok (.istore_n 2, 1) := by decide +kernel
theorem d_M_run_9 : decode b_M_run 9 = .ok (.iload_n 2, 1) := by decide +kernel
theorem d_M_run_10 : decode b_M_run 10 = .ok (.iload_n 1, 1) := by decide +kernel
theorem d_M_run_11 : decode b_M_run 11 = .ok (.if_icmp .eq 112, 3) := by decide +kernel
theorem d_M_run_14 : decode b_M_run 14 = .ok (.iload_n 1, 1) := by decide +kernel
theorem d_M_run_15 : decode b_M_run 15 = .ok (.istore_n 2, 1) := by decide +kernel
theorem d_M_run_16 : decode b_M_run 16 = .ok (.aload_n 0, 1) := by decide +kernel
theorem d_M_run_17 : decode b_M_run 17 = .ok (.dup, 1) := by decide +kernel
theorem d_M_run_18 : decode b_M_run 18 = .ok (.getfield 92, 3) := by decide +kernel
theorem d_M_run_21 : decode b_M_run 21 = .ok (.iconst 1, 1) := by decide +kernel
theorem d_M_run_22 : decode b_M_run 22 = .ok (.iadd, 1) := by decide +kernel
theorem d_M_run_23 : decode b_M_run 23 = .ok (.putfield 92, 3) := by decide +kernel
theorem d_M_run_26 : decode b_M_run 26 = .ok (.iconst 0, 1) := by decide +kernel
theorem d_M_run_27 : decode b_M_run 27 = .ok (.istore_n 3, 1) := by decide +kernel
theorem d_M_run_28 : decode b_M_run 28 = .ok (.iload_n 3, 1) := by decide +kernel
theorem d_M_run_29 : decode b_M_run 29 = .ok (.aload_n 0, 1) := by decide +kernel
theorem d_M_run_30 : decode b_M_run 30 = .ok (.getfield 86, 3) := by decide +kernel
theorem d_M_run_33 : decode b_M_run 33 = .ok (.if_icmp .ge 87, 3) := by decide +kernel
theorem d_M_run_36 : decode b_M_run 36 = .ok (.aload_n 0, 1) := by decide +kernel
theorem d_M_run_37 : decode b_M_run 37 = .ok (.iload_n 3, 1) := by decide +kernel
theorem d_M_run_38 : decode b_M_run 38 = .ok (.invokevirtual 142, 3) := by decide +kernel
theorem d_M_run_41 : decode b_M_run 41 = .ok (.ifCond .ne 8, 3) := by decide +kernel
theorem d_M_run_44 : decode b_M_run 44 = .ok (.bipush (-100), 2) := by decide +kernel
theorem d_M_run_46 : decode b_M_run 46 = .ok (.iload_n 3, 1) := by decide +kernel
theorem d_M_run_47 : decode b_M_run 47 = .ok (.isub, 1) := by decide +kernel
theorem d_M_run_48 : decode b_M_run 48 = .ok (.ireturn, 1) := by decide +kernel
theorem d_M_run_49 : decode b_M_run 49 = .ok (.iconst 0, 1) := by decide +kernel
theorem d_M_run_50 : decode b_M_run 50 = .ok (.istore 4, 2) := by decide +kernel
theorem d_M_run_52 : decode b_M_run 52 = .ok (.iload 4, 2) := by decide +kernel
theorem d_M_run_54 : decode b_M_run 54 = .ok (.aload_n 0, 1) := by decide +kernel
theorem d_M_run_55 : decode b_M_run 55 = .ok (.getfield 31, 3) := by decide +kernel
theorem d_M_run_58 : decode b_M_run 58 = .ok (.iload_n 3, 1) := by decide +kernel
theorem d_M_run_59 : decode b_M_run 59 = .ok (.iaload, 1) := by decide +kernel
theorem d_M_run_60 : decode b_M_run 60 = .ok (.if_icmp .ge 54, 3) := by decide +kernel
theorem d_M_run_63 : decode b_M_run 63 = .ok (.aload_n 0, 1) := by decide +kernel
theorem d_M_run_64 : decode b_M_run 64 = .ok (.getfield 37, 3) := by decide +kernel
theorem d_M_run_67 : decode b_M_run 67 = .ok (.bipush 6, 2) := by decide +kernel
theorem d_M_run_69 : decode b_M_run 69 = .ok (.iload_n 3, 1) := by decide +kernel
theorem d_M_run_70 : decode b_M_run 70 = .ok (.imul, 1) := by decide +kernel
theorem d_M_run_71 : decode b_M_run 71 = .ok (.iload 4, 2) := by decide +kernel
theorem d_M_run_73 : decode b_M_run 73 = .ok (.iadd, 1) := by decide +kernel
theorem d_M_run_74 : decode b_M_run 74 = .ok (.iaload, 1) := by decide +kernel
theorem d_M_run_75 : decode b_M_run 75 = .ok (.istore 5, 2) := by decide +kernel
theorem d_M_run_77 : decode b_M_run 77 = .ok (.iload_n 1, 1) := by decide +kernel
theorem d_M_run_78 : decode b_M_run 78 = .ok (.aload_n 0, 1) := by decide +kernel
theorem d_M_run_79 : decode b_M_run 79 = .ok (.iload 5, 2) := by decide +kernel
theorem d_M_run_81 : decode b_M_run 81 = .ok (.aload_n 0, 1) := by decide +kernel
theorem d_M_run_82 : decode b_M_run 82 = .ok (.getfield 7, 3) := by decide +kernel
theorem d_M_run_85 : decode b_M_run 85 = .ok (.iload 5, 2) := by decide +kernel
theorem d_M_run_87 : decode b_M_run 87 = .ok (.iaload, 1) := by decide +kernel
theorem d_M_run_88 : decode b_M_run 88 = .ok (.aload_n 0, 1) := by decide +kernel
theorem d_M_run_89 : decode b_M_run 89 = .ok (.getfield 76, 3) := by decide +kernel
theorem d_M_run_92 : decode b_M_run 92 = .ok (.iload 4, 2) := by decide +kernel
theorem d_M_run_94 : decode b_M_run 94 = .ok (.iaload, 1) := by decide +kernel
theorem d_M_run_95 : decode b_M_run 95 = .ok (.iconst (-1), 1) := by decide +kernel
theorem d_M_run_96 : decode b_M_run 96 = .ok (.ixor, 1) := by decide +kernel
theorem d_M_run_97 : decode b_M_run 97 = .ok (.iand, 1) := by decide +kernel
theorem d_M_run_98 : decode b_M_run 98 = .ok (.iload_n 3, 1) := by decide +kernel
theorem d_M_run_99 : decode b_M_run 99 = .ok (.aload_n 0, 1) := by decide +kernel
theorem d_M_run_100 : decode b_M_run 100 = .ok (.getfield 92, 3) := by decide +kernel
theorem d_M_run_103 : decode b_M_run 103 = .ok (.invokevirtual 138, 3) := by decide +kernel
theorem d_M_run_106 : decode b_M_run 106 = .ok (.iadd, 1) := by decide +kernel
theorem d_M_run_107 : decode b_M_run 107 = .ok (.istore_n 1, 1) := by decide +kernel
theorem d_M_run_108 : decode b_M_run 108 = .ok (.iinc 4 1, 3) := by decide +kernel
theorem d_M_run_111 : decode b_M_run 111 = .ok (.goto (-59), 3) := by decide +kernel
theorem d_M_run_114 : decode b_M_run 114 = .ok (.iinc 3 1, 3) := by decide +kernel
theorem d_M_run_117 : decode b_M_run 117 = .ok (.goto (-89), 3) := by decide +kernel
theorem d_M_run_120 : decode b_M_run 120 = .ok (.goto (-111), 3) := by decide +kernel
theorem d_M_run_123 : decode b_M_run 123 = .ok (.iload_n 1, 1) := by decide +kernel
theorem d_M_run_124 : decode b_M_run 124 = .ok (.ireturn, 1) := by decide +kernel
