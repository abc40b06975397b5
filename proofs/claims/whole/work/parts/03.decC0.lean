theorem d_TC_init_0 : decode b_TC_init 0 = .ok (.aload_n 0, 1) := by decide +kernel
theorem d_TC_init_1 : decode b_TC_init 1 = .ok (.invokespecial 1, 3) := by decide +kernel
theorem d_TC_init_4 : decode b_TC_init 4 = .ok (.aload_n 0, 1) := by decide +kernel
theorem d_TC_init_5 : decode b_TC_init 5 = .ok (.new 7, 3) := by decide +kernel
theorem d_TC_init_8 : decode b_TC_init 8 = .ok (.dup, 1) := by decide +kernel
theorem d_TC_init_9 : decode b_TC_init 9 = .ok (.invokespecial 9, 3) := by decide +kernel
theorem d_TC_init_12 : decode b_TC_init 12 = .ok (.putfield 10, 3) := by decide +kernel
theorem d_TC_init_15 : decode b_TC_init 15 = .ok (.aload_n 0, 1) := by decide +kernel
theorem d_TC_init_16 : decode b_TC_init 16 = .ok (.bipush 8, 2) := by decide +kernel
theorem d_TC_init_18 : decode b_TC_init 18 = .ok (.anewarray 7, 3) := by decide +kernel
theorem d_TC_init_21 : decode b_TC_init 21 = .ok (.putfield 16, 3) := by decide +kernel
theorem d_TC_init_24 : decode b_TC_init 24 = .ok (.aload_n 0, 1) := by decide +kernel
theorem d_TC_init_25 : decode b_TC_init 25 = .ok (.bipush 10, 2) := by decide +kernel
theorem d_TC_init_27 : decode b_TC_init 27 = .ok (.anewarray 20, 3) := by decide +kernel
theorem d_TC_init_30 : decode b_TC_init 30 = .ok (.putfield 22, 3) := by decide +kernel
theorem d_TC_init_33 : decode b_TC_init 33 = .ok (.aload_n 0, 1) := by decide +kernel
theorem d_TC_init_34 : decode b_TC_init 34 = .ok (.new 26, 3) := by decide +kernel
theorem d_TC_init_37 : decode b_TC_init 37 = .ok (.dup, 1) := by decide +kernel
theorem d_TC_init_38 : decode b_TC_init 38 = .ok (.invokespecial 28, 3) := by decide +kernel
theorem d_TC_init_41 : decode b_TC_init 41 = .ok (.putfield 29, 3) := by decide +kernel
theorem d_TC_init_44 : decode b_TC_init 44 = .ok (.aload_n 0, 1) := by decide +kernel
theorem d_TC_init_45 : decode b_TC_init 45 = .ok (.bipush 6, 2) := by decide +kernel
theorem d_TC_init_47 : decode b_TC_init 47 = .ok (.newarray .int, 2) := by decide +kernel
theorem d_TC_init_49 : decode b_TC_init 49 = .ok (.putfield 33, 3) := by decide +kernel
theorem d_TC_init_52 : decode b_TC_init 52 = .ok (.iconst 0, 1) := by decide +kernel
theorem d_TC_init_53 : decode b_TC_init 53 = .ok (.istore_n 1, 1) := by decide +kernel
theorem d_TC_init_54 : decode b_TC_init 54 = .ok (.iload_n 1, 1) := by decide +kernel
theorem d_TC_init_55 : decode b_TC_init 55 = .ok (.bipush 8, 2) := by decide +kernel
theorem d_TC_init_57 : decode b_TC_init 57 = .ok (.if_icmp .ge 22, 3) := by decide +kernel
theorem d_TC_init_60 : decode b_TC_init 60 = .ok (.aload_n 0, 1) := by decide +kernel
theorem d_TC_init_61 : decode b_TC_init 61 = .ok (.getfield 16, 3) := by decide +kernel
theorem d_TC_init_64 : decode b_TC_init 64 = .ok (.iload_n 1, 1) := by decide +kernel
theorem d_TC_init_65 : decode b_TC_init 65 = .ok (.new 7, 3) := by decide +kernel
theorem d_TC_init_68 : decode b_TC_init 68 = .ok (.dup, 1) := by decide +kernel
theorem d_TC_init_69 : decode b_TC_init 69 = .ok (.invokespecial 9, 3) := by decide +kernel
theorem d_TC_init_72 : decode b_TC_init 72 = .ok (.aastore, 1) := by decide +kernel
theorem d_TC_init_73 : decode b_TC_init 73 = .ok (.iinc 1 1, 3) := by decide +kernel
theorem d_TC_init_76 : decode b_TC_init 76 = .ok (.goto (-22), 3) := by decide +kernel
theorem d_TC_init_79 : decode b_TC_init 79 = .ok (.return_, 1) := by decide +kernel
theorem d_JO_init_0 : decode b_JO_init 0 = .ok (.return_, 1) := by decide +kernel
theorem d_Ch_init_0 : decode b_Ch_init 0 = .ok (.aload_n 0, 1) := by decide +kernel
theorem d_Ch_init_1 : decode b_Ch_init 1 = .ok (.invokespecial 3, 3) := by decide +kernel
theorem d_Ch_init_4 : decode b_Ch_init 4 = .ok (.aload_n 0, 1) := by decide +kernel
theorem d_Ch_init_5 : decode b_Ch_init 5 = .ok (.bipush 6, 2) := by decide +kernel
theorem d_Ch_init_7 : decode b_Ch_init 7 = .ok (.newarray .int, 2) := by decide +kernel
theorem d_Ch_init_9 : decode b_Ch_init 9 = .ok (.putfield 9, 3) := by decide +kernel
theorem d_Ch_init_12 : decode b_Ch_init 12 = .ok (.aload_n 0, 1) := by decide +kernel
theorem d_Ch_init_13 : decode b_Ch_init 13 = .ok (.bipush 36, 2) := by decide +kernel
theorem d_Ch_init_15 : decode b_Ch_init 15 = .ok (.newarray .int, 2) := by decide +kernel
theorem d_Ch_init_17 : decode b_Ch_init 17 = .ok (.putfield 15, 3) := by decide +kernel
theorem d_Ch_init_20 : decode b_Ch_init 20 = .ok (.aload_n 0, 1) := by decide +kernel
theorem d_Ch_init_21 : decode b_Ch_init 21 = .ok (.bipush 36, 2) := by decide +kernel
theorem d_Ch_init_23 : decode b_Ch_init 23 = .ok (.newarray .int, 2) := by decide +kernel
theorem d_Ch_init_25 : decode b_Ch_init 25 = .ok (.putfield 18, 3) := by decide +kernel
theorem d_Ch_init_28 : decode b_Ch_init 28 = .ok (.return_, 1) := by decide +kernel
theorem d_Pl_init_0 : decode b_Pl_init 0 = .ok (.aload_n 0, 1) := by decide +kernel
theorem d_Pl_init_1 : decode b_Pl_init 1 = .ok (.invokespecial 3, 3) := by decide +kernel
theorem d_Pl_init_4 : decode b_Pl_init 4 = .ok (.aload_n 0, 1) := by decide +kernel
theorem d_Pl_init_5 : decode b_Pl_init 5 = .ok (.bipush 6, 2) := by decide +kernel
theorem d_Pl_init_7 : decode b_Pl_init 7 = .ok (.newarray .int, 2) := by decide +kernel
theorem d_Pl_init_9 : decode b_Pl_init 9 = .ok (.putfield 9, 3) := by decide +kernel
theorem d_Pl_init_12 : decode b_Pl_init 12 = .ok (.aload_n 0, 1) := by decide +kernel
theorem d_Pl_init_13 : decode b_Pl_init 13 = .ok (.bipush 6, 2) := by decide +kernel
theorem d_Pl_init_15 : decode b_Pl_init 15 = .ok (.newarray .int, 2) := by decide +kernel
theorem d_Pl_init_17 : decode b_Pl_init 17 = .ok (.putfield 15, 3) := by decide +kernel
theorem d_Pl_init_20 : decode b_Pl_init 20 = .ok (.aload_n 0, 1) := by decide +kernel
theorem d_Pl_init_21 : decode b_Pl_init 21 = .ok (.bipush 56, 2) := by decide +kernel
theorem d_Pl_init_23 : decode b_Pl_init 23 = .ok (.newarray .int, 2) := by decide +kernel
theorem d_Pl_init_25 : decode b_Pl_init 25 = .ok (.putfield 18, 3) := by decide +kernel
theorem d_Pl_init_28 : decode b_Pl_init 28 = .ok (.aload_n 0, 1) := by decide +kernel
theorem d_Pl_init_29 : decode b_Pl_init 29 = .ok (.bipush 56, 2) := by decide +kernel
theorem d_Pl_init_31 : decode b_Pl_init 31 = .ok (.newarray .int, 2) := by decide +kernel
theorem d_Pl_init_33 : decode b_Pl_init 33 = .ok (.putfield 21, 3) := by decide +kernel
theorem d_Pl_init_36 : decode b_Pl_init 36 = .ok (.aload_n 0, 1) := by decide +kernel
theorem d_Pl_init_37 : decode b_Pl_init 37 = .ok (.sipush 384, 3) := by decide +kernel
theorem d_Pl_init_40 : decode b_Pl_init 40 = .ok (.newarray .int, 2) := by decide +kernel
theorem d_Pl_init_42 : decode b_Pl_init 42 = .ok (.putfield 24, 3) := by decide +kernel
theorem d_Pl_init_45 : decode b_Pl_init 45 = .ok (.aload_n 0, 1) := by decide +kernel
theorem d_Pl_init_46 : decode b_Pl_init 46 = .ok (.sipush 384, 3) := by decide +kernel
theorem d_Pl_init_49 : decode b_Pl_init 49 = .ok (.newarray .int, 2) := by decide +kernel
theorem d_Pl_init_51 : decode b_Pl_init 51 = .ok (.putfield 27, 3) := by decide +kernel
theorem d_Pl_init_54 : decode b_Pl_init 54 = .ok (.return_, 1) := by decide +kernel
theorem d_TC_clear_0 : decode b_TC_clear 0 = .ok (.aload_n 0, 1) := by decide +kernel
theorem d_TC_clear_1 : decode b_TC_clear 1 = .ok (.getfield 37, 3) := by decide +kernel
theorem d_TC_clear_4 : decode b_TC_clear 4 = .ok (.istore_n 1, 1) := by decide +kernel
theorem d_TC_clear_5 : decode b_TC_clear 5 = .ok (.iconst 0, 1) := by decide +kernel
theorem d_TC_clear_6 : decode b_TC_clear 6 = .ok (.istore_n 2, 1) := by decide +kernel
theorem d_TC_clear_7 : decode b_TC_clear 7 = .ok (.iload_n 2, 1) := by decide +kernel
theorem d_TC_clear_8 : decode b_TC_clear 8 = .ok (.bipush 10, 2) := by decide +kernel
theorem d_TC_clear_10 : decode b_TC_clear 10 = .ok (.if_icmp .ge 16, 3) := by decide +kernel
theorem d_TC_clear_13 : decode b_TC_clear 13 = .ok (.aload_n 0, 1) := by decide +kernel
theorem d_TC_clear_14 : decode b_TC_clear 14 = .ok (.getfield 22, 3) := by decide +kernel
theorem d_TC_clear_17 : decode b_TC_clear 17 = .ok (.iload_n 2, 1) := by decide +kernel
theorem d_TC_clear_18 : decode b_TC_clear 18 = .ok (.aconst_null, 1) := by decide +kernel
theorem d_TC_clear_19 : decode b_TC_clear 19 = .ok (.aastore, 1) := by decide +kernel
theorem d_TC_clear_20 : decode b_TC_clear 20 = .ok (.iinc 2 1, 3) := by decide +kernel
theorem d_TC_clear_23 : decode b_TC_clear 23 = .ok (.goto (-16), 3) := by decide +kernel
theorem d_TC_clear_26 : decode b_TC_clear 26 = .ok (.iconst 0, 1) := by decide +kernel
theorem d_TC_clear_27 : decode b_TC_clear 27 = .ok (.istore_n 2, 1) := by decide +kernel
theorem d_TC_clear_28 : decode b_TC_clear 28 = .ok (.iload_n 2, 1) := by decide +kernel
theorem d_TC_clear_29 : decode b_TC_clear 29 = .ok (.bipush 6, 2) := by decide +kernel
theorem d_TC_clear_31 : decode b_TC_clear 31 = .ok (.if_icmp .ge 19, 3) := by decide +kernel
theorem d_TC_clear_34 : decode b_TC_clear 34 = .ok (.aload_n 0, 1) := by decide +kernel
theorem d_TC_clear_35 : decode b_TC_clear 35 = .ok (.getfield 10, 3) := by decide +kernel
theorem d_TC_clear_38 : decode b_TC_clear 38 = .ok (.getfield 41, 3) := by decide +kernel
theorem d_TC_clear_41 : decode b_TC_clear 41 = .ok (.iload_n 2, 1) := by decide +kernel
theorem d_TC_clear_42 : decode b_TC_clear 42 = .ok (.iconst 0, 1) := by decide +kernel
theorem d_TC_clear_43 : decode b_TC_clear 43 = .ok (.iastore, 1) := by decide +kernel
theorem d_TC_clear_44 : decode b_TC_clear 44 = .ok (.iinc 2 1, 3) := by decide +kernel
theorem d_TC_clear_47 : decode b_TC_clear 47 = .ok (.goto (-19), 3) := by decide +kernel
theorem d_TC_clear_50 : decode b_TC_clear 50 = .ok (.aload_n 0, 1) := by decide +kernel
theorem d_TC_clear_51 : decode b_TC_clear 51 = .ok (.iconst 0, 1) := by decide +kernel
theorem d_TC_clear_52 : decode b_TC_clear 52 = .ok (.putfield 44, 3) := by decide +kernel
theorem d_TC_clear_55 : decode b_TC_clear 55 = .ok (.aload_n 0, 1) := by decide +kernel
theorem d_TC_clear_56 : decode b_TC_clear 56 = .ok (.iconst 0, 1) := by decide +kernel
theorem d_TC_clear_57 : decode b_TC_clear 57 = .ok (.putfield 37, 3) := by decide +kernel
theorem d_TC_clear_60 : decode b_TC_clear 60 = .ok (.aload_n 0, 1) := by decide +kernel
theorem d_TC_clear_61 : decode b_TC_clear 61 = .ok (.iconst 0, 1) := by decide +kernel
theorem d_TC_clear_62 : decode b_TC_clear 62 = .ok (.putfield 47, 3) := by decide +kernel
theorem d_TC_clear_65 : decode b_TC_clear 65 = .ok (.aload_n 0, 1) := by decide +kernel
theorem d_TC_clear_66 : decode b_TC_clear 66 = .ok (.iconst 0, 1) := by decide +kernel
theorem d_TC_clear_67 : decode b_TC_clear 67 = .ok (.putfield 50, 3) := by decide +kernel
theorem d_TC_clear_70 : decode b_TC_clear 70 = .ok (.iload_n 1, 1) := by decide +kernel
theorem d_TC_clear_71 : decode b_TC_clear 71 = .ok (.ireturn, 1) := by decide +kernel
theorem d_TC_name_0 : decode b_TC_name 0 = .ok (.iload_n 1, 1) := by decide +kernel
theorem d_TC_name_1 : decode b_TC_name 1 = .ok (.iconst 1, 1) := by decide +kernel
theorem d_TC_name_2 : decode b_TC_name 2 = .ok (.bipush 6, 2) := by decide +kernel
theorem d_TC_name_4 : decode b_TC_name 4 = .ok (.invokestatic 53, 3) := by decide +kernel
theorem d_TC_name_7 : decode b_TC_name 7 = .ok (.ifCond .ne 6, 3) := by decide +kernel
theorem d_TC_name_10 : decode b_TC_name 10 = .ok (.bipush (-2), 2) := by decide +kernel
theorem d_TC_name_12 : decode b_TC_name 12 = .ok (.ireturn, 1) := by decide +kernel
theorem d_TC_name_13 : decode b_TC_name 13 = .ok (.aload_n 0, 1) := by decide +kernel
theorem d_TC_name_14 : decode b_TC_name 14 = .ok (.getfield 47, 3) := by decide +kernel
theorem d_TC_name_17 : decode b_TC_name 17 = .ok (.ifCond .le 6, 3) := by decide +kernel
theorem d_TC_name_20 : decode b_TC_name 20 = .ok (.bipush (-5), 2) := by decide +kernel
theorem d_TC_name_22 : decode b_TC_name 22 = .ok (.ireturn, 1) := by decide +kernel
theorem d_TC_name_23 : decode b_TC_name 23 = .ok (.aload_n 0, 1) := by decide +kernel
theorem d_TC_name_24 : decode b_TC_name 24 = .ok (.getfield 44, 3) := by decide +kernel
theorem d_TC_name_27 : decode b_TC_name 27 = .ok (.bipush 6, 2) := by decide +kernel
theorem d_TC_name_29 : decode b_TC_name 29 = .ok (.if_icmp .lt 6, 3) := by decide +kernel
theorem d_TC_name_32 : decode b_TC_name 32 = .ok (.bipush (-3), 2) := by decide +kernel
theorem d_TC_name_34 : decode b_TC_name 34 = .ok (.ireturn, 1) := by decide +kernel
theorem d_TC_name_35 : decode b_TC_name 35 = .ok (.aload_n 0, 1) := by decide +kernel
theorem d_TC_name_36 : decode b_TC_name 36 = .ok (.getfield 10, 3) := by decide +kernel
theorem d_TC_name_39 : decode b_TC_name 39 = .ok (.aload_n 0, 1) := by decide +kernel
theorem d_TC_name_40 : decode b_TC_name 40 = .ok (.getfield 44, 3) := by decide +kernel
theorem d_TC_name_43 : decode b_TC_name 43 = .ok (.iload_n 1, 1) := by decide +kernel
theorem d_TC_name_44 : decode b_TC_name 44 = .ok (.invokevirtual 57, 3) := by decide +kernel
theorem d_TC_name_47 : decode b_TC_name 47 = .ok (.aload_n 0, 1) := by decide +kernel
theorem d_TC_name_48 : decode b_TC_name 48 = .ok (.dup, 1) := by decide +kernel
theorem d_TC_name_49 : decode b_TC_name 49 = .ok (.getfield 44, 3) := by decide +kernel
theorem d_TC_name_52 : decode b_TC_name 52 = .ok (.iconst 1, 1) := by decide +kernel
theorem d_TC_name_53 : decode b_TC_name 53 = .ok (.iadd, 1) := by decide +kernel
theorem d_TC_name_54 : decode b_TC_name 54 = .ok (.putfield 44, 3) := by decide +kernel
theorem d_TC_name_57 : decode b_TC_name 57 = .ok (.aload_n 0, 1) := by decide +kernel
theorem d_TC_name_58 : decode b_TC_name 58 = .ok (.getfield 44, 3) := by decide +kernel
theorem d_TC_name_61 : decode b_TC_name 61 = .ok (.iconst 1, 1) := by decide +kernel
theorem d_TC_name_62 : decode b_TC_name 62 = .ok (.isub, 1) := by decide +kernel
theorem d_TC_name_63 : decode b_TC_name 63 = .ok (.ireturn, 1) := by decide +kernel
theorem d_TC_isIn_0 : decode b_TC_isIn 0 = .ok (.iload_n 0, 1) := by decide +kernel
theorem d_TC_isIn_1 : decode b_TC_isIn 1 = .ok (.iload_n 1, 1) := by decide +kernel
theorem d_TC_isIn_2 : decode b_TC_isIn 2 = .ok (.if_icmp .lt 12, 3) := by decide +kernel
theorem d_TC_isIn_5 : decode b_TC_isIn 5 = .ok (.iload_n 0, 1) := by decide +kernel
theorem d_TC_isIn_6 : decode b_TC_isIn 6 = .ok (.iload_n 2, 1) := by decide +kernel
theorem d_TC_isIn_7 : decode b_TC_isIn 7 = .ok (.if_icmp .gt 7, 3) := by decide +kernel
theorem d_TC_isIn_10 : decode b_TC_isIn 10 = .ok (.iconst 1, 1) := by decide +kernel
theorem d_TC_isIn_11 : decode b_TC_isIn 11 = .ok (.goto 4, 3) := by decide +kernel
theorem d_TC_isIn_14 : decode b_TC_isIn 14 = .ok (.iconst 0, 1) := by decide +kernel
theorem d_TC_isIn_15 : decode b_TC_isIn 15 = .ok (.ireturn, 1) := by decide +kernel
theorem d_Ch_begin_0 : decode b_Ch_begin 0 = .ok (.iload_n 1, 1) := by decide +kernel
theorem d_Ch_begin_1 : decode b_Ch_begin 1 = .ok (.ifCond .lt 9, 3) := by decide +kernel
theorem d_Ch_begin_4 : decode b_Ch_begin 4 = .ok (.iload_n 1, 1) := by decide +kernel
theorem d_Ch_begin_5 : decode b_Ch_begin 5 = .ok (.bipush 6, 2) := by decide +kernel
theorem d_Ch_begin_7 : decode b_Ch_begin 7 = .ok (.if_icmp .lt 4, 3) := by decide +kernel
theorem d_Ch_begin_10 : decode b_Ch_begin 10 = .ok (.return_, 1) := by decide +kernel
theorem d_Ch_begin_11 : decode b_Ch_begin 11 = .ok (.aload_n 0, 1) := by decide +kernel
theorem d_Ch_begin_12 : decode b_Ch_begin 12 = .ok (.getfield 9, 3) := by decide +kernel
theorem d_Ch_begin_15 : decode b_Ch_begin 15 = .ok (.iload_n 1, 1) := by decide +kernel
theorem d_Ch_begin_16 : decode b_Ch_begin 16 = .ok (.iconst 1, 1) := by decide +kernel
theorem d_Ch_begin_17 : decode b_Ch_begin 17 = .ok (.iload_n 2, 1) := by decide +kernel
theorem d_Ch_begin_18 : decode b_Ch_begin 18 = .ok (.ishl, 1) := by decide +kernel
theorem d_Ch_begin_19 : decode b_Ch_begin 19 = .ok (.iconst 1, 1) := by decide +kernel
theorem d_Ch_begin_20 : decode b_Ch_begin 20 = .ok (.isub, 1) := by decide +kernel
theorem d_Ch_begin_21 : decode b_Ch_begin 21 = .ok (.iastore, 1) := by decide +kernel
theorem d_Ch_begin_22 : decode b_Ch_begin 22 = .ok (.iconst 0, 1) := by decide +kernel
theorem d_Ch_begin_23 : decode b_Ch_begin 23 = .ok (.istore_n 3, 1) := by decide +kernel
theorem d_Ch_begin_24 : decode b_Ch_begin 24 = .ok (.iload_n 3, 1) := by decide +kernel
theorem d_Ch_begin_25 : decode b_Ch_begin 25 = .ok (.bipush 6, 2) := by decide +kernel
theorem d_Ch_begin_27 : decode b_Ch_begin 27 = .ok (.if_icmp .ge 43, 3) := by decide +kernel
theorem d_Ch_begin_30 : decode b_Ch_begin 30 = .ok (.aload_n 0, 1) := by decide +kernel
theorem d_Ch_begin_31 : decode b_Ch_begin 31 = .ok (.getfield 15, 3) := by decide +kernel
theorem d_Ch_begin_34 : decode b_Ch_begin 34 = .ok (.iload_n 1, 1) := by decide +kernel
theorem d_Ch_begin_35 : decode b_Ch_begin 35 = .ok (.bipush 6, 2) := by decide +kernel
theorem d_Ch_begin_37 : decode b_Ch_begin 37 = .ok (.imul, 1) := by decide +kernel
theorem d_Ch_begin_38 : decode b_Ch_begin 38 = .ok (.iload_n 3, 1) := by decide +kernel
theorem d_Ch_begin_39 : decode b_Ch_begin 39 = .ok (.iadd, 1) := by decide +kernel
theorem d_Ch_begin_40 : decode b_Ch_begin 40 = .ok (.iload_n 3, 1) := by decide +kernel
theorem d_Ch_begin_41 : decode b_Ch_begin 41 = .ok (.iload_n 2, 1) := by decide +kernel
theorem d_Ch_begin_42 : decode b_Ch_begin 42 = .ok (.if_icmp .ge 7, 3) := by decide +kernel
theorem d_Ch_begin_45 : decode b_Ch_begin 45 = .ok (.iconst (-1), 1) := by decide +kernel
theorem d_Ch_begin_46 : decode b_Ch_begin 46 = .ok (.goto 5, 3) := by decide +kernel
theorem d_Ch_begin_49 : decode b_Ch_begin 49 = .ok (.bipush 11, 2) := by decide +kernel
theorem d_Ch_begin_51 : decode b_Ch_begin 51 = .ok (.iastore, 1) := by decide +kernel
theorem d_Ch_begin_52 : decode b_Ch_begin 52 = .ok (.aload_n 0, 1) := by decide +kernel
theorem d_Ch_begin_53 : decode b_Ch_begin 53 = .ok (.getfield 18, 3) := by decide +kernel
theorem d_Ch_begin_56 : decode b_Ch_begin 56 = .ok (.iload_n 1, 1) := by decide +kernel
theorem d_Ch_begin_57 : decode b_Ch_begin 57 = .ok (.bipush 6, 2) := by decide +kernel
theorem d_Ch_begin_59 : decode b_Ch_begin 59 = .ok (.imul, 1) := by decide +kernel
theorem d_Ch_begin_60 : decode b_Ch_begin 60 = .ok (.iload_n 3, 1) := by decide +kernel
theorem d_Ch_begin_61 : decode b_Ch_begin 61 = .ok (.iadd, 1) := by decide +kernel
theorem d_Ch_begin_62 : decode b_Ch_begin 62 = .ok (.iconst 0, 1) := by decide +kernel
theorem d_Ch_begin_63 : decode b_Ch_begin 63 = .ok (.iastore, 1) := by decide +kernel
theorem d_Ch_begin_64 : decode b_Ch_begin 64 = .ok (.iinc 3 1, 3) := by decide +kernel
theorem d_Ch_begin_67 : decode b_Ch_begin 67 = .ok (.goto (-43), 3) := by decide +kernel
theorem d_Ch_begin_70 : decode b_Ch_begin 70 = .ok (.return_, 1) := by decide +kernel
theorem d_TC_table_0 : decode b_TC_table 0 = .ok (.aload_n 0, 1) := by decide +kernel
theorem d_TC_table_1 : decode b_TC_table 1 = .ok (.aload_n 0, 1) := by decide +kernel
theorem d_TC_table_2 : decode b_TC_table 2 = .ok (.iload_n 1, 1) := by decide +kernel
theorem d_TC_table_3 : decode b_TC_table 3 = .ok (.iload_n 2, 1) := by decide +kernel
theorem d_TC_table_4 : decode b_TC_table 4 = .ok (.invokevirtual 61, 3) := by decide +kernel
theorem d_TC_table_7 : decode b_TC_table 7 = .ok (.invokevirtual 65, 3) := by decide +kernel
theorem d_TC_table_10 : decode b_TC_table 10 = .ok (.istore_n 3, 1) := by decide +kernel
theorem d_TC_table_11 : decode b_TC_table 11 = .ok (.iload_n 3, 1) := by decide +kernel
theorem d_TC_table_12 : decode b_TC_table 12 = .ok (.ifCond .eq 7, 3) := by decide +kernel
theorem d_TC_table_15 : decode b_TC_table 15 = .ok (.iload_n 3, 1) := by decide +kernel
theorem d_TC_table_16 : decode b_TC_table 16 = .ok (.goto 16, 3) := by decide +kernel
theorem d_TC_table_19 : decode b_TC_table 19 = .ok (.aload_n 0, 1) := by decide +kernel
theorem d_TC_table_20 : decode b_TC_table 20 = .ok (.new 69, 3) := by decide +kernel
theorem d_TC_table_23 : decode b_TC_table 23 = .ok (.dup, 1) := by decide +kernel
theorem d_TC_table_24 : decode b_TC_table 24 = .ok (.iload_n 1, 1) := by decide +kernel
theorem d_TC_table_25 : decode b_TC_table 25 = .ok (.iload_n 2, 1) := by decide +kernel
theorem d_TC_table_26 : decode b_TC_table 26 = .ok (.invokespecial 71, 3) := by decide +kernel
theorem d_TC_table_29 : decode b_TC_table 29 = .ok (.invokevirtual 73, 3) := by decide +kernel
theorem d_TC_table_32 : decode b_TC_table 32 = .ok (.ireturn, 1) := by decide +kernel
theorem d_TC_isRow_0 : decode b_TC_isRow 0 = .ok (.iload_n 1, 1) := by decide +kernel
theorem d_TC_isRow_1 : decode b_TC_isRow 1 = .ok (.iconst 1, 1) := by decide +kernel
theorem d_TC_isRow_2 : decode b_TC_isRow 2 = .ok (.bipush 6, 2) := by decide +kernel
theorem d_TC_isRow_4 : decode b_TC_isRow 4 = .ok (.invokestatic 53, 3) := by decide +kernel
theorem d_TC_isRow_7 : decode b_TC_isRow 7 = .ok (.ifCond .eq 11, 3) := by decide +kernel
theorem d_TC_isRow_10 : decode b_TC_isRow 10 = .ok (.iload_n 2, 1) := by decide +kernel
theorem d_TC_isRow_11 : decode b_TC_isRow 11 = .ok (.iconst 3, 1) := by decide +kernel
theorem d_TC_isRow_12 : decode b_TC_isRow 12 = .ok (.iload_n 1, 1) := by decide +kernel
theorem d_TC_isRow_13 : decode b_TC_isRow 13 = .ok (.imul, 1) := by decide +kernel
theorem d_TC_isRow_14 : decode b_TC_isRow 14 = .ok (.iushr, 1) := by decide +kernel
theorem d_TC_isRow_15 : decode b_TC_isRow 15 = .ok (.ifCond .eq 5, 3) := by decide +kernel
theorem d_TC_isRow_18 : decode b_TC_isRow 18 = .ok (.iconst 0, 1) := by decide +kernel
theorem d_TC_isRow_19 : decode b_TC_isRow 19 = .ok (.ireturn, 1) := by decide +kernel
theorem d_TC_isRow_20 : decode b_TC_isRow 20 = .ok (.iconst 0, 1) := by decide +kernel
theorem d_TC_isRow_21 : decode b_TC_isRow 21 = .ok (.istore_n 3, 1) := by decide +kernel
theorem d_TC_isRow_22 : decode b_TC_isRow 22 = .ok (.iconst 0, 1) := by decide +kernel
theorem d_TC_isRow_23 : decode b_TC_isRow 23 = .ok (.istore 4, 2) := by decide +kernel
theorem d_TC_isRow_25 : decode b_TC_isRow 25 = .ok (.iload 4, 2) := by decide +kernel
theorem d_TC_isRow_27 : decode b_TC_isRow 27 = .ok (.iload_n 1, 1) := by decide +kernel
theorem d_TC_isRow_28 : decode b_TC_isRow 28 = .ok (.if_icmp .ge 44, 3) := by decide +kernel
theorem d_TC_isRow_31 : decode b_TC_isRow 31 = .ok (.iload_n 2, 1) := by decide +kernel
theorem d_TC_isRow_32 : decode b_TC_isRow 32 = .ok (.iload 4, 2) := by decide +kernel
theorem d_TC_isRow_34 : decode b_TC_isRow 34 = .ok (.invokestatic 198, 3) := by decide +kernel
theorem d_TC_isRow_37 : decode b_TC_isRow 37 = .ok (.istore 5, 2) := by decide +kernel
theorem d_TC_isRow_39 : decode b_TC_isRow 39 = .ok (.aload_n 0, 1) := by decide +kernel
theorem d_TC_isRow_40 : decode b_TC_isRow 40 = .ok (.iload 5, 2) := by decide +kernel
theorem d_TC_isRow_42 : decode b_TC_isRow 42 = .ok (.invokevirtual 129, 3) := by decide +kernel
theorem d_TC_isRow_45 : decode b_TC_isRow 45 = .ok (.ifCond .eq 12, 3) := by decide +kernel
theorem d_TC_isRow_48 : decode b_TC_isRow 48 = .ok (.iload_n 3, 1) := by decide +kernel
theorem d_TC_isRow_49 : decode b_TC_isRow 49 = .ok (.iload 5, 2) := by decide +kernel
theorem d_TC_isRow_51 : decode b_TC_isRow 51 = .ok (.invokestatic 211, 3) := by decide +kernel
theorem d_TC_isRow_54 : decode b_TC_isRow 54 = .ok (.ifCond .eq 5, 3) := by decide +kernel
theorem d_TC_isRow_57 : decode b_TC_isRow 57 = .ok (.iconst 0, 1) := by decide +kernel
theorem d_TC_isRow_58 : decode b_TC_isRow 58 = .ok (.ireturn, 1) := by decide +kernel
theorem d_TC_isRow_59 : decode b_TC_isRow 59 = .ok (.iload_n 3, 1) := by decide +kernel
theorem d_TC_isRow_60 : decode b_TC_isRow 60 = .ok (.iconst 1, 1) := by decide +kernel
theorem d_TC_isRow_61 : decode b_TC_isRow 61 = .ok (.iload 5, 2) := by decide +kernel
theorem d_TC_isRow_63 : decode b_TC_isRow 63 = .ok (.ishl, 1) := by decide +kernel
theorem d_TC_isRow_64 : decode b_TC_isRow 64 = .ok (.ior, 1) := by decide +kernel
theorem d_TC_isRow_65 : decode b_TC_isRow 65 = .ok (.istore_n 3, 1) := by decide +kernel
theorem d_TC_isRow_66 : decode b_TC_isRow 66 = .ok (.iinc 4 1, 3) := by decide +kernel
theorem d_TC_isRow_69 : decode b_TC_isRow 69 = .ok (.goto (-44), 3) := by decide +kernel
theorem d_TC_isRow_72 : decode b_TC_isRow 72 = .ok (.iconst 1, 1) := by decide +kernel
theorem d_TC_isRow_73 : decode b_TC_isRow 73 = .ok (.ireturn, 1) := by decide +kernel
theorem d_TC_digit_0 : decode b_TC_digit 0 = .ok (.iload_n 0, 1) := by decide +kernel
theorem d_TC_digit_1 : decode b_TC_digit 1 = .ok (.iconst 3, 1) := by decide +kernel
theorem d_TC_digit_2 : decode b_TC_digit 2 = .ok (.iload_n 1, 1) := by decide +kernel
theorem d_TC_digit_3 : decode b_TC_digit 3 = .ok (.imul, 1) := by decide +kernel
theorem d_TC_digit_4 : decode b_TC_digit 4 = .ok (.iushr, 1) := by decide +kernel
theorem d_TC_digit_5 : decode b_TC_digit 5 = .ok (.bipush 7, 2) := by decide +kernel
theorem d_TC_digit_7 : decode b_TC_digit 7 = .ok (.iand, 1) := by decide +kernel
theorem d_TC_digit_8 : decode b_TC_digit 8 = .ok (.ireturn, 1) := by decide +kernel
theorem d_TC_isName_0 : decode b_TC_isName 0 = .ok (.iload_n 1, 1) := by decide +kernel
theorem d_TC_isName_1 : decode b_TC_isName 1 = .ok (.iconst 0, 1) := by decide +kernel
theorem d_TC_isName_2 : decode b_TC_isName 2 = .ok (.aload_n 0, 1) := by decide +kernel
theorem d_TC_isName_3 : decode b_TC_isName 3 = .ok (.getfield 44, 3) := by decide +kernel
theorem d_TC_isName_6 : decode b_TC_isName 6 = .ok (.iconst 1, 1) := by decide +kernel
theorem d_TC_isName_7 : decode b_TC_isName 7 = .ok (.isub, 1) := by decide +kernel
theorem d_TC_isName_8 : decode b_TC_isName 8 = .ok (.invokestatic 53, 3) := by decide +kernel
theorem d_TC_isName_11 : decode b_TC_isName 11 = .ok (.ifCond .eq 13, 3) := by decide +kernel
theorem d_TC_isName_14 : decode b_TC_isName 14 = .ok (.iload_n 1, 1) := by decide +kernel
theorem d_TC_isName_15 : decode b_TC_isName 15 = .ok (.bipush 6, 2) := by decide +kernel
theorem d_TC_isName_17 : decode b_TC_isName 17 = .ok (.if_icmp .ge 7, 3) := by decide +kernel
theorem d_TC_isName_20 : decode b_TC_isName 20 = .ok (.iconst 1, 1) := by decide +kernel
theorem d_TC_isName_21 : decode b_TC_isName 21 = .ok (.goto 4, 3) := by decide +kernel
theorem d_TC_isName_24 : decode b_TC_isName 24 = .ok (.iconst 0, 1) := by decide +kernel
theorem d_TC_isName_25 : decode b_TC_isName 25 = .ok (.ireturn, 1) := by decide +kernel
theorem d_TC_has_0 : decode b_TC_has 0 = .ok (.iload_n 0, 1) := by decide +kernel
theorem d_TC_has_1 : decode b_TC_has 1 = .ok (.iload_n 1, 1) := by decide +kernel
theorem d_TC_has_2 : decode b_TC_has 2 = .ok (.iushr, 1) := by decide +kernel
theorem d_TC_has_3 : decode b_TC_has 3 = .ok (.iconst 1, 1) := by decide +kernel
theorem d_TC_has_4 : decode b_TC_has 4 = .ok (.iand, 1) := by decide +kernel
theorem d_TC_has_5 : decode b_TC_has 5 = .ok (.ifCond .eq 7, 3) := by decide +kernel
theorem d_TC_has_8 : decode b_TC_has 8 = .ok (.iconst 1, 1) := by decide +kernel
theorem d_TC_has_9 : decode b_TC_has 9 = .ok (.goto 4, 3) := by decide +kernel
theorem d_TC_has_12 : decode b_TC_has 12 = .ok (.iconst 0, 1) := by decide +kernel
theorem d_TC_has_13 : decode b_TC_has 13 = .ok (.ireturn, 1) := by decide +kernel
theorem d_TC_refusalOfNew_0 : decode b_TC_refusalOfNew 0 = .ok (.iload_n 1, 1) := by decide +kernel
theorem d_TC_refusalOfNew_1 : decode b_TC_refusalOfNew 1 = .ok (.ifCond .ne 6, 3) := by decide +kernel
theorem d_TC_refusalOfNew_4 : decode b_TC_refusalOfNew 4 = .ok (.bipush (-2), 2) := by decide +kernel
theorem d_TC_refusalOfNew_6 : decode b_TC_refusalOfNew 6 = .ok (.ireturn, 1) := by decide +kernel
theorem d_TC_refusalOfNew_7 : decode b_TC_refusalOfNew 7 = .ok (.aload_n 0, 1) := by decide +kernel
theorem d_TC_refusalOfNew_8 : decode b_TC_refusalOfNew 8 = .ok (.getfield 37, 3) := by decide +kernel
theorem d_TC_refusalOfNew_11 : decode b_TC_refusalOfNew 11 = .ok (.bipush 10, 2) := by decide +kernel
theorem d_TC_refusalOfNew_13 : decode b_TC_refusalOfNew 13 = .ok (.if_icmp .lt 8, 3) := by decide +kernel
theorem d_TC_refusalOfNew_16 : decode b_TC_refusalOfNew 16 = .ok (.bipush (-3), 2) := by decide +kernel
theorem d_TC_refusalOfNew_18 : decode b_TC_refusalOfNew 18 = .ok (.goto 4, 3) := by decide +kernel
theorem d_TC_refusalOfNew_21 : decode b_TC_refusalOfNew 21 = .ok (.iconst 0, 1) := by decide +kernel
theorem d_TC_refusalOfNew_22 : decode b_TC_refusalOfNew 22 = .ok (.ireturn, 1) := by decide +kernel
theorem d_Ta_init_0 : decode b_Ta_init 0 = .ok (.aload_n 0, 1) := by decide +kernel
theorem d_Ta_init_1 : decode b_Ta_init 1 = .ok (.iconst 0, 1) := by decide +kernel
theorem d_Ta_init_2 : decode b_Ta_init 2 = .ok (.iload_n 1, 1) := by decide +kernel
theorem d_Ta_init_3 : decode b_Ta_init 3 = .ok (.iload_n 2, 1) := by decide +kernel
theorem d_Ta_init_4 : decode b_Ta_init 4 = .ok (.invokespecial 3, 3) := by decide +kernel
theorem d_Ta_init_7 : decode b_Ta_init 7 = .ok (.aload_n 0, 1) := by decide +kernel
theorem d_Ta_init_8 : decode b_Ta_init 8 = .ok (.bipush 36, 2) := by decide +kernel
theorem d_Ta_init_10 : decode b_Ta_init 10 = .ok (.newarray .int, 2) := by decide +kernel
theorem d_Ta_init_12 : decode b_Ta_init 12 = .ok (.putfield 9, 3) := by decide +kernel
theorem d_Ta_init_15 : decode b_Ta_init 15 = .ok (.return_, 1) := by decide +kernel
theorem d_Co_init_0 : decode b_Co_init 0 = .ok (.aload_n 0, 1) := by decide +kernel
theorem d_Co_init_1 : decode b_Co_init 1 = .ok (.invokespecial 3, 3) := by decide +kernel
theorem d_Co_init_4 : decode b_Co_init 4 = .ok (.iconst 0, 1) := by decide +kernel
theorem d_Co_init_5 : decode b_Co_init 5 = .ok (.istore 4, 2) := by decide +kernel
theorem d_Co_init_7 : decode b_Co_init 7 = .ok (.iconst 0, 1) := by decide +kernel
theorem d_Co_init_8 : decode b_Co_init 8 = .ok (.istore 5, 2) := by decide +kernel
theorem d_Co_init_10 : decode b_Co_init 10 = .ok (.iconst 0, 1) := by decide +kernel
theorem d_Co_init_11 : decode b_Co_init 11 = .ok (.istore 6, 2) := by decide +kernel
theorem d_Co_init_13 : decode b_Co_init 13 = .ok (.iload 6, 2) := by decide +kernel
theorem d_Co_init_15 : decode b_Co_init 15 = .ok (.iload_n 2, 1) := by decide +kernel
theorem d_Co_init_16 : decode b_Co_init 16 = .ok (.if_icmp .ge 48, 3) := by decide +kernel
theorem d_Co_init_19 : decode b_Co_init 19 = .ok (.iload 6, 2) := by decide +kernel
theorem d_Co_init_21 : decode b_Co_init 21 = .ok (.bipush 6, 2) := by decide +kernel
theorem d_Co_init_23 : decode b_Co_init 23 = .ok (.if_icmp .ge 41, 3) := by decide +kernel
theorem d_Co_init_26 : decode b_Co_init 26 = .ok (.iload 4, 2) := by decide +kernel
theorem d_Co_init_28 : decode b_Co_init 28 = .ok (.iconst 1, 1) := by decide +kernel
theorem d_Co_init_29 : decode b_Co_init 29 = .ok (.iload_n 3, 1) := by decide +kernel
theorem d_Co_init_30 : decode b_Co_init 30 = .ok (.iload 6, 2) := by decide +kernel
theorem d_Co_init_32 : decode b_Co_init 32 = .ok (.invokestatic 9, 3) := by decide +kernel
theorem d_Co_init_35 : decode b_Co_init 35 = .ok (.ishl, 1) := by decide +kernel
theorem d_Co_init_36 : decode b_Co_init 36 = .ok (.ior, 1) := by decide +kernel
theorem d_Co_init_37 : decode b_Co_init 37 = .ok (.istore 4, 2) := by decide +kernel
theorem d_Co_init_39 : decode b_Co_init 39 = .ok (.iload_n 3, 1) := by decide +kernel
theorem d_Co_init_40 : decode b_Co_init 40 = .ok (.iload 6, 2) := by decide +kernel
theorem d_Co_init_42 : decode b_Co_init 42 = .ok (.invokestatic 9, 3) := by decide +kernel
theorem d_Co_init_45 : decode b_Co_init 45 = .ok (.iload_n 3, 1) := by decide +kernel
theorem d_Co_init_46 : decode b_Co_init 46 = .ok (.iload 5, 2) := by decide +kernel
theorem d_Co_init_48 : decode b_Co_init 48 = .ok (.invokestatic 9, 3) := by decide +kernel
theorem d_Co_init_51 : decode b_Co_init 51 = .ok (.if_icmp .le 7, 3) := by decide +kernel
theorem d_Co_init_54 : decode b_Co_init 54 = .ok (.iload 6, 2) := by decide +kernel
theorem d_Co_init_56 : decode b_Co_init 56 = .ok (.istore 5, 2) := by decide +kernel
theorem d_Co_init_58 : decode b_Co_init 58 = .ok (.iinc 6 1, 3) := by decide +kernel
theorem d_Co_init_61 : decode b_Co_init 61 = .ok (.goto (-48), 3) := by decide +kernel
theorem d_Co_init_64 : decode b_Co_init 64 = .ok (.aload_n 0, 1) := by decide +kernel
theorem d_Co_init_65 : decode b_Co_init 65 = .ok (.iload_n 1, 1) := by decide +kernel
theorem d_Co_init_66 : decode b_Co_init 66 = .ok (.putfield 13, 3) := by decide +kernel
theorem d_Co_init_69 : decode b_Co_init 69 = .ok (.aload_n 0, 1) := by decide +kernel
theorem d_Co_init_70 : decode b_Co_init 70 = .ok (.iload_n 2, 1) := by decide +kernel
theorem d_Co_init_71 : decode b_Co_init 71 = .ok (.putfield 19, 3) := by decide +kernel
theorem d_Co_init_74 : decode b_Co_init 74 = .ok (.aload_n 0, 1) := by decide +kernel
theorem d_Co_init_75 : decode b_Co_init 75 = .ok (.iload_n 3, 1) := by decide +kernel
theorem d_Co_init_76 : decode b_Co_init 76 = .ok (.putfield 22, 3) := by decide +kernel
theorem d_Co_init_79 : decode b_Co_init 79 = .ok (.aload_n 0, 1) := by decide +kernel
theorem d_Co_init_80 : decode b_Co_init 80 = .ok (.iload 4, 2) := by decide +kernel
theorem d_Co_init_82 : decode b_Co_init 82 = .ok (.putfield 25, 3) := by decide +kernel
theorem d_Co_init_85 : decode b_Co_init 85 = .ok (.aload_n 0, 1) := by decide +kernel
theorem d_Co_init_86 : decode b_Co_init 86 = .ok (.iload_n 3, 1) := by decide +kernel
theorem d_Co_init_87 : decode b_Co_init 87 = .ok (.iload 5, 2) := by decide +kernel
theorem d_Co_init_89 : decode b_Co_init 89 = .ok (.invokestatic 9, 3) := by decide +kernel
theorem d_Co_init_92 : decode b_Co_init 92 = .ok (.putfield 28, 3) := by decide +kernel
theorem d_Co_init_95 : decode b_Co_init 95 = .ok (.aload_n 0, 1) := by decide +kernel
theorem d_Co_init_96 : decode b_Co_init 96 = .ok (.iload 5, 2) := by decide +kernel
theorem d_Co_init_98 : decode b_Co_init 98 = .ok (.putfield 31, 3) := by decide +kernel
theorem d_Co_init_101 : decode b_Co_init 101 = .ok (.return_, 1) := by decide +kernel
theorem d_TC_add_0 : decode b_TC_add 0 = .ok (.aload_n 0, 1) := by decide +kernel
theorem d_TC_add_1 : decode b_TC_add 1 = .ok (.getfield 37, 3) := by decide +kernel
theorem d_TC_add_4 : decode b_TC_add 4 = .ok (.bipush 10, 2) := by decide +kernel
theorem d_TC_add_6 : decode b_TC_add 6 = .ok (.if_icmp .lt 6, 3) := by decide +kernel
theorem d_TC_add_9 : decode b_TC_add 9 = .ok (.bipush (-3), 2) := by decide +kernel
theorem d_TC_add_11 : decode b_TC_add 11 = .ok (.ireturn, 1) := by decide +kernel
theorem d_TC_add_12 : decode b_TC_add 12 = .ok (.aload_n 0, 1) := by decide +kernel
theorem d_TC_add_13 : decode b_TC_add 13 = .ok (.getfield 22, 3) := by decide +kernel
theorem d_TC_add_16 : decode b_TC_add 16 = .ok (.aload_n 0, 1) := by decide +kernel
theorem d_TC_add_17 : decode b_TC_add 17 = .ok (.getfield 37, 3) := by decide +kernel
theorem d_TC_add_20 : decode b_TC_add 20 = .ok (.aload_n 1, 1) := by decide +kernel
theorem d_TC_add_21 : decode b_TC_add 21 = .ok (.aastore, 1) := by decide +kernel
theorem d_TC_add_22 : decode b_TC_add 22 = .ok (.aload_n 0, 1) := by decide +kernel
theorem d_TC_add_23 : decode b_TC_add 23 = .ok (.dup, 1) := by decide +kernel
theorem d_TC_add_24 : decode b_TC_add 24 = .ok (.getfield 37, 3) := by decide +kernel
theorem d_TC_add_27 : decode b_TC_add 27 = .ok (.iconst 1, 1) := by decide +kernel
theorem d_TC_add_28 : decode b_TC_add 28 = .ok (.iadd, 1) := by decide +kernel
theorem d_TC_add_29 : decode b_TC_add 29 = .ok (.putfield 37, 3) := by decide +kernel
theorem d_TC_add_32 : decode b_TC_add 32 = .ok (.aload_n 0, 1) := by decide +kernel
theorem d_TC_add_33 : decode b_TC_add 33 = .ok (.getfield 37, 3) := by decide +kernel
theorem d_TC_add_36 : decode b_TC_add 36 = .ok (.iconst 1, 1) := by decide +kernel
theorem d_TC_add_37 : decode b_TC_add 37 = .ok (.isub, 1) := by decide +kernel
theorem d_TC_add_38 : decode b_TC_add 38 = .ok (.ireturn, 1) := by decide +kernel
theorem d_TC_tuple_0 : decode b_TC_tuple 0 = .ok (.aload_n 0, 1) := by decide +kernel
theorem d_TC_tuple_1 : decode b_TC_tuple 1 = .ok (.iload_n 1, 1) := by decide +kernel
theorem d_TC_tuple_2 : decode b_TC_tuple 2 = .ok (.invokevirtual 77, 3) := by decide +kernel
theorem d_TC_tuple_5 : decode b_TC_tuple 5 = .ok (.astore_n 3, 1) := by decide +kernel
theorem d_TC_tuple_6 : decode b_TC_tuple 6 = .ok (.aload_n 3, 1) := by decide +kernel
theorem d_TC_tuple_7 : decode b_TC_tuple 7 = .ok (.instanceof 69, 3) := by decide +kernel
theorem d_TC_tuple_10 : decode b_TC_tuple 10 = .ok (.ifCond .eq 29, 3) := by decide +kernel
theorem d_TC_tuple_13 : decode b_TC_tuple 13 = .ok (.aload_n 3, 1) := by decide +kernel
theorem d_TC_tuple_14 : decode b_TC_tuple 14 = .ok (.checkcast 69, 3) := by decide +kernel
theorem d_TC_tuple_17 : decode b_TC_tuple 17 = .ok (.astore 4, 2) := by decide +kernel
theorem d_TC_tuple_19 : decode b_TC_tuple 19 = .ok (.aload 4, 2) := by decide +kernel
theorem d_TC_tuple_21 : decode b_TC_tuple 21 = .ok (.getfield 81, 3) := by decide +kernel
theorem d_TC_tuple_24 : decode b_TC_tuple 24 = .ok (.iload_n 2, 1) := by decide +kernel
theorem d_TC_tuple_25 : decode b_TC_tuple 25 = .ok (.iconst 1, 1) := by decide +kernel
theorem d_TC_tuple_26 : decode b_TC_tuple 26 = .ok (.invokestatic 84, 3) := by decide +kernel
theorem d_TC_tuple_29 : decode b_TC_tuple 29 = .ok (.ifCond .eq 10, 3) := by decide +kernel
theorem d_TC_tuple_32 : decode b_TC_tuple 32 = .ok (.aload 4, 2) := by decide +kernel
theorem d_TC_tuple_34 : decode b_TC_tuple 34 = .ok (.iload_n 2, 1) := by decide +kernel
theorem d_TC_tuple_35 : decode b_TC_tuple 35 = .ok (.invokevirtual 88, 3) := by decide +kernel
theorem d_TC_tuple_38 : decode b_TC_tuple 38 = .ok (.ireturn, 1) := by decide +kernel
theorem d_TC_tuple_39 : decode b_TC_tuple 39 = .ok (.bipush (-2), 2) := by decide +kernel
theorem d_TC_tuple_41 : decode b_TC_tuple 41 = .ok (.ireturn, 1) := by decide +kernel
theorem d_TC_constraintAt_0 : decode b_TC_constraintAt 0 = .ok (.iload_n 1, 1) := by decide +kernel
theorem d_TC_constraintAt_1 : decode b_TC_constraintAt 1 = .ok (.iconst 0, 1) := by decide +kernel
theorem d_TC_constraintAt_2 : decode b_TC_constraintAt 2 = .ok (.aload_n 0, 1) := by decide +kernel
theorem d_TC_constraintAt_3 : decode b_TC_constraintAt 3 = .ok (.getfield 37, 3) := by decide +kernel
theorem d_TC_constraintAt_6 : decode b_TC_constraintAt 6 = .ok (.iconst 1, 1) := by decide +kernel
theorem d_TC_constraintAt_7 : decode b_TC_constraintAt 7 = .ok (.isub, 1) := by decide +kernel
theorem d_TC_constraintAt_8 : decode b_TC_constraintAt 8 = .ok (.invokestatic 53, 3) := by decide +kernel
theorem d_TC_constraintAt_11 : decode b_TC_constraintAt 11 = .ok (.ifCond .eq 18, 3) := by decide +kernel
theorem d_TC_constraintAt_14 : decode b_TC_constraintAt 14 = .ok (.iload_n 1, 1) := by decide +kernel
theorem d_TC_constraintAt_15 : decode b_TC_constraintAt 15 = .ok (.bipush 10, 2) := by decide +kernel
theorem d_TC_constraintAt_17 : decode b_TC_constraintAt 17 = .ok (.if_icmp .ge 12, 3) := by decide +kernel
theorem d_TC_constraintAt_20 : decode b_TC_constraintAt 20 = .ok (.aload_n 0, 1) := by decide +kernel
theorem d_TC_constraintAt_21 : decode b_TC_constraintAt 21 = .ok (.getfield 22, 3) := by decide +kernel
theorem d_TC_constraintAt_24 : decode b_TC_constraintAt 24 = .ok (.iload_n 1, 1) := by decide +kernel
theorem d_TC_constraintAt_25 : decode b_TC_constraintAt 25 = .ok (.aaload, 1) := by decide +kernel
theorem d_TC_constraintAt_26 : decode b_TC_constraintAt 26 = .ok (.goto 4, 3) := by decide +kernel
theorem d_TC_constraintAt_29 : decode b_TC_constraintAt 29 = .ok (.aconst_null, 1) := by decide +kernel
theorem d_TC_constraintAt_30 : decode b_TC_constraintAt 30 = .ok (.areturn, 1) := by decide +kernel
theorem d_TC_isWord_0 : decode b_TC_isWord 0 = .ok (.iload_n 1, 1) := by decide +kernel
theorem d_TC_isWord_1 : decode b_TC_isWord 1 = .ok (.iconst 3, 1) := by decide +kernel
theorem d_TC_isWord_2 : decode b_TC_isWord 2 = .ok (.iload_n 0, 1) := by decide +kernel
theorem d_TC_isWord_3 : decode b_TC_isWord 3 = .ok (.imul, 1) := by decide +kernel
theorem d_TC_isWord_4 : decode b_TC_isWord 4 = .ok (.iushr, 1) := by decide +kernel
theorem d_TC_isWord_5 : decode b_TC_isWord 5 = .ok (.ifCond .eq 5, 3) := by decide +kernel
theorem d_TC_isWord_8 : decode b_TC_isWord 8 = .ok (.iconst 0, 1) := by decide +kernel
theorem d_TC_isWord_9 : decode b_TC_isWord 9 = .ok (.ireturn, 1) := by decide +kernel
theorem d_TC_isWord_10 : decode b_TC_isWord 10 = .ok (.iconst 0, 1) := by decide +kernel
theorem d_TC_isWord_11 : decode b_TC_isWord 11 = .ok (.istore_n 3, 1) := by decide +kernel
theorem d_TC_isWord_12 : decode b_TC_isWord 12 = .ok (.iload_n 3, 1) := by decide +kernel
theorem d_TC_isWord_13 : decode b_TC_isWord 13 = .ok (.iload_n 0, 1) := by decide +kernel
theorem d_TC_isWord_14 : decode b_TC_isWord 14 = .ok (.if_icmp .ge 37, 3) := by decide +kernel
theorem d_TC_isWord_17 : decode b_TC_isWord 17 = .ok (.iload_n 1, 1) := by decide +kernel
theorem d_TC_isWord_18 : decode b_TC_isWord 18 = .ok (.iload_n 3, 1) := by decide +kernel
theorem d_TC_isWord_19 : decode b_TC_isWord 19 = .ok (.invokestatic 198, 3) := by decide +kernel
theorem d_TC_isWord_22 : decode b_TC_isWord 22 = .ok (.istore 4, 2) := by decide +kernel
theorem d_TC_isWord_24 : decode b_TC_isWord 24 = .ok (.iload 4, 2) := by decide +kernel
theorem d_TC_isWord_26 : decode b_TC_isWord 26 = .ok (.invokestatic 101, 3) := by decide +kernel
theorem d_TC_isWord_29 : decode b_TC_isWord 29 = .ok (.ifCond .ne 16, 3) := by decide +kernel
theorem d_TC_isWord_32 : decode b_TC_isWord 32 = .ok (.iload_n 2, 1) := by decide +kernel
theorem d_TC_isWord_33 : decode b_TC_isWord 33 = .ok (.ifCond .eq 10, 3) := by decide +kernel
theorem d_TC_isWord_36 : decode b_TC_isWord 36 = .ok (.iload 4, 2) := by decide +kernel
theorem d_TC_isWord_38 : decode b_TC_isWord 38 = .ok (.bipush 7, 2) := by decide +kernel
theorem d_TC_isWord_40 : decode b_TC_isWord 40 = .ok (.if_icmp .eq 5, 3) := by decide +kernel
theorem d_TC_isWord_43 : decode b_TC_isWord 43 = .ok (.iconst 0, 1) := by decide +kernel
theorem d_TC_isWord_44 : decode b_TC_isWord 44 = .ok (.ireturn, 1) := by decide +kernel
theorem d_TC_isWord_45 : decode b_TC_isWord 45 = .ok (.iinc 3 1, 3) := by decide +kernel
theorem d_TC_isWord_48 : decode b_TC_isWord 48 = .ok (.goto (-36), 3) := by decide +kernel
theorem d_TC_isWord_51 : decode b_TC_isWord 51 = .ok (.iconst 1, 1) := by decide +kernel
theorem d_TC_isWord_52 : decode b_TC_isWord 52 = .ok (.ireturn, 1) := by decide +kernel
theorem d_TC_isValue_0 : decode b_TC_isValue 0 = .ok (.iload_n 0, 1) := by decide +kernel
theorem d_TC_isValue_1 : decode b_TC_isValue 1 = .ok (.iconst 0, 1) := by decide +kernel
theorem d_TC_isValue_2 : decode b_TC_isValue 2 = .ok (.iconst 5, 1) := by decide +kernel
theorem d_TC_isValue_3 : decode b_TC_isValue 3 = .ok (.invokestatic 53, 3) := by decide +kernel
theorem d_TC_isValue_6 : decode b_TC_isValue 6 = .ok (.ireturn, 1) := by decide +kernel
theorem d_Ta_put_0 : decode b_Ta_put 0 = .ok (.aload_n 0, 1) := by decide +kernel
theorem d_Ta_put_1 : decode b_Ta_put 1 = .ok (.getfield 15, 3) := by decide +kernel
theorem d_Ta_put_4 : decode b_Ta_put 4 = .ok (.bipush 20, 2) := by decide +kernel
theorem d_Ta_put_6 : decode b_Ta_put 6 = .ok (.if_icmp .lt 6, 3) := by decide +kernel
theorem d_Ta_put_9 : decode b_Ta_put 9 = .ok (.bipush (-3), 2) := by decide +kernel
theorem d_Ta_put_11 : decode b_Ta_put 11 = .ok (.ireturn, 1) := by decide +kernel
theorem d_Ta_put_12 : decode b_Ta_put 12 = .ok (.iconst 0, 1) := by decide +kernel
theorem d_Ta_put_13 : decode b_Ta_put 13 = .ok (.istore_n 2, 1) := by decide +kernel
theorem d_Ta_put_14 : decode b_Ta_put 14 = .ok (.iload_n 2, 1) := by decide +kernel
theorem d_Ta_put_15 : decode b_Ta_put 15 = .ok (.aload_n 0, 1) := by decide +kernel
theorem d_Ta_put_16 : decode b_Ta_put 16 = .ok (.getfield 19, 3) := by decide +kernel
theorem d_Ta_put_19 : decode b_Ta_put 19 = .ok (.if_icmp .ge 70, 3) := by decide +kernel
theorem d_Ta_put_22 : decode b_Ta_put 22 = .ok (.iload_n 2, 1) := by decide +kernel
theorem d_Ta_put_23 : decode b_Ta_put 23 = .ok (.bipush 6, 2) := by decide +kernel
theorem d_Ta_put_25 : decode b_Ta_put 25 = .ok (.if_icmp .ge 64, 3) := by decide +kernel
theorem d_Ta_put_28 : decode b_Ta_put 28 = .ok (.iload_n 1, 1) := by decide +kernel
theorem d_Ta_put_29 : decode b_Ta_put 29 = .ok (.iload_n 2, 1) := by decide +kernel
theorem d_Ta_put_30 : decode b_Ta_put 30 = .ok (.invokestatic 22, 3) := by decide +kernel
theorem d_Ta_put_33 : decode b_Ta_put 33 = .ok (.istore_n 3, 1) := by decide +kernel
theorem d_Ta_put_34 : decode b_Ta_put 34 = .ok (.iconst 0, 1) := by decide +kernel
theorem d_Ta_put_35 : decode b_Ta_put 35 = .ok (.istore 4, 2) := by decide +kernel
theorem d_Ta_put_37 : decode b_Ta_put 37 = .ok (.iload 4, 2) := by decide +kernel
theorem d_Ta_put_39 : decode b_Ta_put 39 = .ok (.bipush 6, 2) := by decide +kernel
theorem d_Ta_put_41 : decode b_Ta_put 41 = .ok (.if_icmp .ge 42, 3) := by decide +kernel
theorem d_Ta_put_44 : decode b_Ta_put 44 = .ok (.iload_n 3, 1) := by decide +kernel
theorem d_Ta_put_45 : decode b_Ta_put 45 = .ok (.bipush 7, 2) := by decide +kernel
theorem d_Ta_put_47 : decode b_Ta_put 47 = .ok (.if_icmp .eq 9, 3) := by decide +kernel
theorem d_Ta_put_50 : decode b_Ta_put 50 = .ok (.iload_n 3, 1) := by decide +kernel
theorem d_Ta_put_51 : decode b_Ta_put 51 = .ok (.iload 4, 2) := by decide +kernel
theorem d_Ta_put_53 : decode b_Ta_put 53 = .ok (.if_icmp .ne 24, 3) := by decide +kernel
theorem d_Ta_put_56 : decode b_Ta_put 56 = .ok (.aload_n 0, 1) := by decide +kernel
theorem d_Ta_put_57 : decode b_Ta_put 57 = .ok (.getfield 9, 3) := by decide +kernel
theorem d_Ta_put_60 : decode b_Ta_put 60 = .ok (.iload_n 2, 1) := by decide +kernel
theorem d_Ta_put_61 : decode b_Ta_put 61 = .ok (.bipush 6, 2) := by decide +kernel
theorem d_Ta_put_63 : decode b_Ta_put 63 = .ok (.imul, 1) := by decide +kernel
theorem d_Ta_put_64 : decode b_Ta_put 64 = .ok (.iload 4, 2) := by decide +kernel
theorem d_Ta_put_66 : decode b_Ta_put 66 = .ok (.iadd, 1) := by decide +kernel
theorem d_Ta_put_67 : decode b_Ta_put 67 = .ok (.dup2, 1) := by decide +kernel
theorem d_Ta_put_68 : decode b_Ta_put 68 = .ok (.iaload, 1) := by decide +kernel
theorem d_Ta_put_69 : decode b_Ta_put 69 = .ok (.iconst 1, 1) := by decide +kernel
theorem d_Ta_put_70 : decode b_Ta_put 70 = .ok (.aload_n 0, 1) := by decide +kernel
theorem d_Ta_put_71 : decode b_Ta_put 71 = .ok (.getfield 15, 3) := by decide +kernel
theorem d_Ta_put_74 : decode b_Ta_put 74 = .ok (.ishl, 1) := by decide +kernel
theorem d_Ta_put_75 : decode b_Ta_put 75 = .ok (.ior, 1) := by decide +kernel
theorem d_Ta_put_76 : decode b_Ta_put 76 = .ok (.iastore, 1) := by decide +kernel
theorem d_Ta_put_77 : decode b_Ta_put 77 = .ok (.iinc 4 1, 3) := by decide +kernel
theorem d_Ta_put_80 : decode b_Ta_put 80 = .ok (.goto (-43), 3) := by decide +kernel
theorem d_Ta_put_83 : decode b_Ta_put 83 = .ok (.iinc 2 1, 3) := by decide +kernel
theorem d_Ta_put_86 : decode b_Ta_put 86 = .ok (.goto (-72), 3) := by decide +kernel
theorem d_Ta_put_89 : decode b_Ta_put 89 = .ok (.aload_n 0, 1) := by decide +kernel
theorem d_Ta_put_90 : decode b_Ta_put 90 = .ok (.dup, 1) := by decide +kernel
theorem d_Ta_put_91 : decode b_Ta_put 91 = .ok (.getfield 15, 3) := by decide +kernel
theorem d_Ta_put_94 : decode b_Ta_put 94 = .ok (.iconst 1, 1) := by decide +kernel
theorem d_Ta_put_95 : decode b_Ta_put 95 = .ok (.iadd, 1) := by decide +kernel
theorem d_Ta_put_96 : decode b_Ta_put 96 = .ok (.putfield 15, 3) := by decide +kernel
theorem d_Ta_put_99 : decode b_Ta_put 99 = .ok (.aload_n 0, 1) := by decide +kernel
theorem d_Ta_put_100 : decode b_Ta_put 100 = .ok (.getfield 15, 3) := by decide +kernel
theorem d_Ta_put_103 : decode b_Ta_put 103 = .ok (.ireturn, 1) := by decide +kernel
theorem d_TC_machine_0 : decode b_TC_machine 0 = .ok (.aload_n 0, 1) := by decide +kernel
theorem d_TC_machine_1 : decode b_TC_machine 1 = .ok (.iload_n 1, 1) := by decide +kernel
theorem d_TC_machine_2 : decode b_TC_machine 2 = .ok (.iload_n 2, 1) := by decide +kernel
theorem d_TC_machine_3 : decode b_TC_machine 3 = .ok (.invokevirtual 61, 3) := by decide +kernel
theorem d_TC_machine_6 : decode b_TC_machine 6 = .ok (.ifCond .eq 29, 3) := by decide +kernel
theorem d_TC_machine_9 : decode b_TC_machine 9 = .ok (.iload_n 3, 1) := by decide +kernel
theorem d_TC_machine_10 : decode b_TC_machine 10 = .ok (.iconst 0, 1) := by decide +kernel
theorem d_TC_machine_11 : decode b_TC_machine 11 = .ok (.bipush 63, 2) := by decide +kernel
theorem d_TC_machine_13 : decode b_TC_machine 13 = .ok (.invokestatic 53, 3) := by decide +kernel
theorem d_TC_machine_16 : decode b_TC_machine 16 = .ok (.ifCond .eq 19, 3) := by decide +kernel
theorem d_TC_machine_19 : decode b_TC_machine 19 = .ok (.iload 4, 2) := by decide +kernel
theorem d_TC_machine_21 : decode b_TC_machine 21 = .ok (.iconst 0, 1) := by decide +kernel
theorem d_TC_machine_22 : decode b_TC_machine 22 = .ok (.sipush 1000, 3) := by decide +kernel
theorem d_TC_machine_25 : decode b_TC_machine 25 = .ok (.invokestatic 53, 3) := by decide +kernel
theorem d_TC_machine_28 : decode b_TC_machine 28 = .ok (.ifCond .eq 7, 3) := by decide +kernel
theorem d_TC_machine_31 : decode b_TC_machine 31 = .ok (.iconst 1, 1) := by decide +kernel
theorem d_TC_machine_32 : decode b_TC_machine 32 = .ok (.goto 4, 3) := by decide +kernel
theorem d_TC_machine_35 : decode b_TC_machine 35 = .ok (.iconst 0, 1) := by decide +kernel
theorem d_TC_machine_36 : decode b_TC_machine 36 = .ok (.istore 5, 2) := by decide +kernel
theorem d_TC_machine_38 : decode b_TC_machine 38 = .ok (.aload_n 0, 1) := by decide +kernel
theorem d_TC_machine_39 : decode b_TC_machine 39 = .ok (.iload 5, 2) := by decide +kernel
theorem d_TC_machine_41 : decode b_TC_machine 41 = .ok (.invokevirtual 65, 3) := by decide +kernel
theorem d_TC_machine_44 : decode b_TC_machine 44 = .ok (.istore 6, 2) := by decide +kernel
theorem d_TC_machine_46 : decode b_TC_machine 46 = .ok (.iload 6, 2) := by decide +kernel
theorem d_TC_machine_48 : decode b_TC_machine 48 = .ok (.ifCond .eq 8, 3) := by decide +kernel
theorem d_TC_machine_51 : decode b_TC_machine 51 = .ok (.iload 6, 2) := by decide +kernel
theorem d_TC_machine_53 : decode b_TC_machine 53 = .ok (.goto 19, 3) := by decide +kernel
theorem d_TC_machine_56 : decode b_TC_machine 56 = .ok (.aload_n 0, 1) := by decide +kernel
theorem d_TC_machine_57 : decode b_TC_machine 57 = .ok (.new 92, 3) := by decide +kernel
theorem d_TC_machine_60 : decode b_TC_machine 60 = .ok (.dup, 1) := by decide +kernel
theorem d_TC_machine_61 : decode b_TC_machine 61 = .ok (.iload_n 1, 1) := by decide +kernel
theorem d_TC_machine_62 : decode b_TC_machine 62 = .ok (.iload_n 2, 1) := by decide +kernel
theorem d_TC_machine_63 : decode b_TC_machine 63 = .ok (.iload_n 3, 1) := by decide +kernel
theorem d_TC_machine_64 : decode b_TC_machine 64 = .ok (.iload 4, 2) := by decide +kernel
theorem d_TC_machine_66 : decode b_TC_machine 66 = .ok (.invokespecial 94, 3) := by decide +kernel
theorem d_TC_machine_69 : decode b_TC_machine 69 = .ok (.invokevirtual 73, 3) := by decide +kernel
theorem d_TC_machine_72 : decode b_TC_machine 72 = .ok (.ireturn, 1) := by decide +kernel
theorem d_Ma_init_0 : decode b_Ma_init 0 = .ok (.aload_n 0, 1) := by decide +kernel
theorem d_Ma_init_1 : decode b_Ma_init 1 = .ok (.iconst 1, 1) := by decide +kernel
theorem d_Ma_init_2 : decode b_Ma_init 2 = .ok (.iload_n 1, 1) := by decide +kernel
theorem d_Ma_init_3 : decode b_Ma_init 3 = .ok (.iload_n 2, 1) := by decide +kernel
theorem d_Ma_init_4 : decode b_Ma_init 4 = .ok (.invokespecial 3, 3) := by decide +kernel
theorem d_Ma_init_7 : decode b_Ma_init 7 = .ok (.aload_n 0, 1) := by decide +kernel
theorem d_Ma_init_8 : decode b_Ma_init 8 = .ok (.bipush 30, 2) := by decide +kernel
theorem d_Ma_init_10 : decode b_Ma_init 10 = .ok (.newarray .int, 2) := by decide +kernel
theorem d_Ma_init_12 : decode b_Ma_init 12 = .ok (.putfield 9, 3) := by decide +kernel
theorem d_Ma_init_15 : decode b_Ma_init 15 = .ok (.aload_n 0, 1) := by decide +kernel
theorem d_Ma_init_16 : decode b_Ma_init 16 = .ok (.bipush 7, 2) := by decide +kernel
theorem d_Ma_init_18 : decode b_Ma_init 18 = .ok (.newarray .int, 2) := by decide +kernel
theorem d_Ma_init_20 : decode b_Ma_init 20 = .ok (.putfield 15, 3) := by decide +kernel
theorem d_Ma_init_23 : decode b_Ma_init 23 = .ok (.aload_n 0, 1) := by decide +kernel
theorem d_Ma_init_24 : decode b_Ma_init 24 = .ok (.iload_n 3, 1) := by decide +kernel
theorem d_Ma_init_25 : decode b_Ma_init 25 = .ok (.putfield 18, 3) := by decide +kernel
theorem d_Ma_init_28 : decode b_Ma_init 28 = .ok (.aload_n 0, 1) := by decide +kernel
theorem d_Ma_init_29 : decode b_Ma_init 29 = .ok (.iload 4, 2) := by decide +kernel
theorem d_Ma_init_31 : decode b_Ma_init 31 = .ok (.putfield 22, 3) := by decide +kernel
theorem d_Ma_init_34 : decode b_Ma_init 34 = .ok (.return_, 1) := by decide +kernel
theorem d_TC_step_0 : decode b_TC_step 0 = .ok (.iload_n 2, 1) := by decide +kernel
theorem d_TC_step_1 : decode b_TC_step 1 = .ok (.invokestatic 97, 3) := by decide +kernel
theorem d_TC_step_4 : decode b_TC_step 4 = .ok (.ifCond .eq 33, 3) := by decide +kernel
theorem d_TC_step_7 : decode b_TC_step 7 = .ok (.iload_n 3, 1) := by decide +kernel
theorem d_TC_step_8 : decode b_TC_step 8 = .ok (.invokestatic 101, 3) := by decide +kernel
theorem d_TC_step_11 : decode b_TC_step 11 = .ok (.ifCond .eq 26, 3) := by decide +kernel
theorem d_TC_step_14 : decode b_TC_step 14 = .ok (.iload 4, 2) := by decide +kernel
theorem d_TC_step_16 : decode b_TC_step 16 = .ok (.invokestatic 97, 3) := by decide +kernel
theorem d_TC_step_19 : decode b_TC_step 19 = .ok (.ifCond .eq 18, 3) := by decide +kernel
theorem d_TC_step_22 : decode b_TC_step 22 = .ok (.iload 5, 2) := by decide +kernel
theorem d_TC_step_24 : decode b_TC_step 24 = .ok (.iconst 0, 1) := by decide +kernel
theorem d_TC_step_25 : decode b_TC_step 25 = .ok (.bipush 100, 2) := by decide +kernel
theorem d_TC_step_27 : decode b_TC_step 27 = .ok (.invokestatic 53, 3) := by decide +kernel
theorem d_TC_step_30 : decode b_TC_step 30 = .ok (.ifCond .eq 7, 3) := by decide +kernel
theorem d_TC_step_33 : decode b_TC_step 33 = .ok (.iconst 1, 1) := by decide +kernel
theorem d_TC_step_34 : decode b_TC_step 34 = .ok (.goto 4, 3) := by decide +kernel
theorem d_TC_step_37 : decode b_TC_step 37 = .ok (.iconst 0, 1) := by decide +kernel
theorem d_TC_step_38 : decode b_TC_step 38 = .ok (.istore 6, 2) := by decide +kernel
theorem d_TC_step_40 : decode b_TC_step 40 = .ok (.aload_n 0, 1) := by decide +kernel
theorem d_TC_step_41 : decode b_TC_step 41 = .ok (.iload_n 1, 1) := by decide +kernel
theorem d_TC_step_42 : decode b_TC_step 42 = .ok (.invokevirtual 77, 3) := by decide +kernel
theorem d_TC_step_45 : decode b_TC_step 45 = .ok (.astore 7, 2) := by decide +kernel
theorem d_TC_step_47 : decode b_TC_step 47 = .ok (.iload 6, 2) := by decide +kernel
theorem d_TC_step_49 : decode b_TC_step 49 = .ok (.ifCond .eq 30, 3) := by decide +kernel
theorem d_TC_step_52 : decode b_TC_step 52 = .ok (.aload 7, 2) := by decide +kernel
theorem d_TC_step_54 : decode b_TC_step 54 = .ok (.instanceof 92, 3) := by decide +kernel
theorem d_TC_step_57 : decode b_TC_step 57 = .ok (.ifCond .eq 22, 3) := by decide +kernel
theorem d_TC_step_60 : decode b_TC_step 60 = .ok (.aload 7, 2) := by decide +kernel
theorem d_TC_step_62 : decode b_TC_step 62 = .ok (.checkcast 92, 3) := by decide +kernel
theorem d_TC_step_65 : decode b_TC_step 65 = .ok (.astore 8, 2) := by decide +kernel
theorem d_TC_step_67 : decode b_TC_step 67 = .ok (.aload 8, 2) := by decide +kernel
theorem d_TC_step_69 : decode b_TC_step 69 = .ok (.iload_n 2, 1) := by decide +kernel
theorem d_TC_step_70 : decode b_TC_step 70 = .ok (.iload_n 3, 1) := by decide +kernel
theorem d_TC_step_71 : decode b_TC_step 71 = .ok (.iload 4, 2) := by decide +kernel
theorem d_TC_step_73 : decode b_TC_step 73 = .ok (.iload 5, 2) := by decide +kernel
theorem d_TC_step_75 : decode b_TC_step 75 = .ok (.invokevirtual 104, 3) := by decide +kernel
theorem d_TC_step_78 : decode b_TC_step 78 = .ok (.ireturn, 1) := by decide +kernel
theorem d_TC_step_79 : decode b_TC_step 79 = .ok (.bipush (-2), 2) := by decide +kernel
theorem d_TC_step_81 : decode b_TC_step 81 = .ok (.ireturn, 1) := by decide +kernel
theorem d_TC_isState_0 : decode b_TC_isState 0 = .ok (.iload_n 0, 1) := by decide +kernel
theorem d_TC_isState_1 : decode b_TC_isState 1 = .ok (.iconst 0, 1) := by decide +kernel
theorem d_TC_isState_2 : decode b_TC_isState 2 = .ok (.iconst 5, 1) := by decide +kernel
theorem d_TC_isState_3 : decode b_TC_isState 3 = .ok (.invokestatic 53, 3) := by decide +kernel
theorem d_TC_isState_6 : decode b_TC_isState 6 = .ok (.ireturn, 1) := by decide +kernel
theorem d_Ma_put_0 : decode b_Ma_put 0 = .ok (.aload_n 0, 1) := by decide +kernel
theorem d_Ma_put_1 : decode b_Ma_put 1 = .ok (.getfield 15, 3) := by decide +kernel
theorem d_Ma_put_4 : decode b_Ma_put 4 = .ok (.bipush 6, 2) := by decide +kernel
theorem d_Ma_put_6 : decode b_Ma_put 6 = .ok (.iaload, 1) := by decide +kernel
theorem d_Ma_put_7 : decode b_Ma_put 7 = .ok (.istore 5, 2) := by decide +kernel
theorem d_Ma_put_9 : decode b_Ma_put 9 = .ok (.iload 5, 2) := by decide +kernel
theorem d_Ma_put_11 : decode b_Ma_put 11 = .ok (.bipush 30, 2) := by decide +kernel
theorem d_Ma_put_13 : decode b_Ma_put 13 = .ok (.if_icmp .lt 6, 3) := by decide +kernel
theorem d_Ma_put_16 : decode b_Ma_put 16 = .ok (.bipush (-3), 2) := by decide +kernel
theorem d_Ma_put_18 : decode b_Ma_put 18 = .ok (.ireturn, 1) := by decide +kernel
theorem d_Ma_put_19 : decode b_Ma_put 19 = .ok (.iload_n 2, 1) := by decide +kernel
theorem d_Ma_put_20 : decode b_Ma_put 20 = .ok (.invokestatic 25, 3) := by decide +kernel
theorem d_Ma_put_23 : decode b_Ma_put 23 = .ok (.ifCond .ne 6, 3) := by decide +kernel
theorem d_Ma_put_26 : decode b_Ma_put 26 = .ok (.bipush (-2), 2) := by decide +kernel
theorem d_Ma_put_28 : decode b_Ma_put 28 = .ok (.ireturn, 1) := by decide +kernel
theorem d_Ma_put_29 : decode b_Ma_put 29 = .ok (.aload_n 0, 1) := by decide +kernel
theorem d_Ma_put_30 : decode b_Ma_put 30 = .ok (.getfield 15, 3) := by decide +kernel
theorem d_Ma_put_33 : decode b_Ma_put 33 = .ok (.iload_n 2, 1) := by decide +kernel
theorem d_Ma_put_34 : decode b_Ma_put 34 = .ok (.iconst 1, 1) := by decide +kernel
theorem d_Ma_put_35 : decode b_Ma_put 35 = .ok (.iadd, 1) := by decide +kernel
theorem d_Ma_put_36 : decode b_Ma_put 36 = .ok (.iaload, 1) := by decide +kernel
theorem d_Ma_put_37 : decode b_Ma_put 37 = .ok (.istore 6, 2) := by decide +kernel
theorem d_Ma_put_39 : decode b_Ma_put 39 = .ok (.iload 5, 2) := by decide +kernel
theorem d_Ma_put_41 : decode b_Ma_put 41 = .ok (.istore 7, 2) := by decide +kernel
theorem d_Ma_put_43 : decode b_Ma_put 43 = .ok (.iload 7, 2) := by decide +kernel
theorem d_Ma_put_45 : decode b_Ma_put 45 = .ok (.iload 6, 2) := by decide +kernel
theorem d_Ma_put_47 : decode b_Ma_put 47 = .ok (.if_icmp .le 30, 3) := by decide +kernel
theorem d_Ma_put_50 : decode b_Ma_put 50 = .ok (.iload 7, 2) := by decide +kernel
theorem d_Ma_put_52 : decode b_Ma_put 52 = .ok (.ifCond .le 25, 3) := by decide +kernel
theorem d_Ma_put_55 : decode b_Ma_put 55 = .ok (.aload_n 0, 1) := by decide +kernel
theorem d_Ma_put_56 : decode b_Ma_put 56 = .ok (.getfield 9, 3) := by decide +kernel
theorem d_Ma_put_59 : decode b_Ma_put 59 = .ok (.iload 7, 2) := by decide +kernel
theorem d_Ma_put_61 : decode b_Ma_put 61 = .ok (.aload_n 0, 1) := by decide +kernel
theorem d_Ma_put_62 : decode b_Ma_put 62 = .ok (.getfield 9, 3) := by decide +kernel
theorem d_Ma_put_65 : decode b_Ma_put 65 = .ok (.iload 7, 2) := by decide +kernel
theorem d_Ma_put_67 : decode b_Ma_put 67 = .ok (.iconst 1, 1) := by decide +kernel
theorem d_Ma_put_68 : decode b_Ma_put 68 = .ok (.isub, 1) := by decide +kernel
theorem d_Ma_put_69 : decode b_Ma_put 69 = .ok (.iaload, 1) := by decide +kernel
theorem d_Ma_put_70 : decode b_Ma_put 70 = .ok (.iastore, 1) := by decide +kernel
theorem d_Ma_put_71 : decode b_Ma_put 71 = .ok (.iinc 7 (-1), 3) := by decide +kernel
theorem d_Ma_put_74 : decode b_Ma_put 74 = .ok (.goto (-31), 3) := by decide +kernel
theorem d_Ma_put_77 : decode b_Ma_put 77 = .ok (.iload 6, 2) := by decide +kernel
theorem d_Ma_put_79 : decode b_Ma_put 79 = .ok (.ifCond .lt 28, 3) := by decide +kernel
theorem d_Ma_put_82 : decode b_Ma_put 82 = .ok (.iload 6, 2) := by decide +kernel
theorem d_Ma_put_84 : decode b_Ma_put 84 = .ok (.bipush 30, 2) := by decide +kernel
theorem d_Ma_put_86 : decode b_Ma_put 86 = .ok (.if_icmp .ge 21, 3) := by decide +kernel
theorem d_Ma_put_89 : decode b_Ma_put 89 = .ok (.aload_n 0, 1) := by decide +kernel
theorem d_Ma_put_90 : decode b_Ma_put 90 = .ok (.getfield 9, 3) := by decide +kernel
theorem d_Ma_put_93 : decode b_Ma_put 93 = .ok (.iload 6, 2) := by decide +kernel
theorem d_Ma_put_95 : decode b_Ma_put 95 = .ok (.iload_n 1, 1) := by decide +kernel
theorem d_Ma_put_96 : decode b_Ma_put 96 = .ok (.iload_n 3, 1) := by decide +kernel
theorem d_Ma_put_97 : decode b_Ma_put 97 = .ok (.iconst 3, 1) := by decide +kernel
theorem d_Ma_put_98 : decode b_Ma_put 98 = .ok (.ishl, 1) := by decide +kernel
theorem d_Ma_put_99 : decode b_Ma_put 99 = .ok (.ior, 1) := by decide +kernel
theorem d_Ma_put_100 : decode b_Ma_put 100 = .ok (.iload 4, 2) := by decide +kernel
theorem d_Ma_put_102 : decode b_Ma_put 102 = .ok (.bipush 6, 2) := by decide +kernel
theorem d_Ma_put_104 : decode b_Ma_put 104 = .ok (.ishl, 1) := by decide +kernel
theorem d_Ma_put_105 : decode b_Ma_put 105 = .ok (.ior, 1) := by decide +kernel
theorem d_Ma_put_106 : decode b_Ma_put 106 = .ok (.iastore, 1) := by decide +kernel
theorem d_Ma_put_107 : decode b_Ma_put 107 = .ok (.iload_n 2, 1) := by decide +kernel
theorem d_Ma_put_108 : decode b_Ma_put 108 = .ok (.iconst 1, 1) := by decide +kernel
theorem d_Ma_put_109 : decode b_Ma_put 109 = .ok (.iadd, 1) := by decide +kernel
theorem d_Ma_put_110 : decode b_Ma_put 110 = .ok (.istore 7, 2) := by decide +kernel
theorem d_Ma_put_112 : decode b_Ma_put 112 = .ok (.iload 7, 2) := by decide +kernel
theorem d_Ma_put_114 : decode b_Ma_put 114 = .ok (.bipush 6, 2) := by decide +kernel
theorem d_Ma_put_116 : decode b_Ma_put 116 = .ok (.if_icmp .gt 20, 3) := by decide +kernel
theorem d_Ma_put_119 : decode b_Ma_put 119 = .ok (.aload_n 0, 1) := by decide +kernel
theorem d_Ma_put_120 : decode b_Ma_put 120 = .ok (.getfield 15, 3) := by decide +kernel
theorem d_Ma_put_123 : decode b_Ma_put 123 = .ok (.iload 7, 2) := by decide +kernel
theorem d_Ma_put_125 : decode b_Ma_put 125 = .ok (.dup2, 1) := by decide +kernel
theorem d_Ma_put_126 : decode b_Ma_put 126 = .ok (.iaload, 1) := by decide +kernel
theorem d_Ma_put_127 : decode b_Ma_put 127 = .ok (.iconst 1, 1) := by decide +kernel
theorem d_Ma_put_128 : decode b_Ma_put 128 = .ok (.iadd, 1) := by decide +kernel
theorem d_Ma_put_129 : decode b_Ma_put 129 = .ok (.iastore, 1) := by decide +kernel
theorem d_Ma_put_130 : decode b_Ma_put 130 = .ok (.iinc 7 1, 3) := by decide +kernel
theorem d_Ma_put_133 : decode b_Ma_put 133 = .ok (.goto (-21), 3) := by decide +kernel
theorem d_Ma_put_136 : decode b_Ma_put 136 = .ok (.aload_n 0, 1) := by decide +kernel
theorem d_Ma_put_137 : decode b_Ma_put 137 = .ok (.getfield 15, 3) := by decide +kernel
theorem d_Ma_put_140 : decode b_Ma_put 140 = .ok (.bipush 6, 2) := by decide +kernel
theorem d_Ma_put_142 : decode b_Ma_put 142 = .ok (.iaload, 1) := by decide +kernel
theorem d_Ma_put_143 : decode b_Ma_put 143 = .ok (.ireturn, 1) := by decide +kernel
theorem d_TC_element_0 : decode b_TC_element 0 = .ok (.aload_n 0, 1) := by decide +kernel
theorem d_TC_element_1 : decode b_TC_element 1 = .ok (.aload_n 0, 1) := by decide +kernel
theorem d_TC_element_2 : decode b_TC_element 2 = .ok (.iload_n 1, 1) := by decide +kernel
theorem d_TC_element_3 : decode b_TC_element 3 = .ok (.iload_n 2, 1) := by decide +kernel
theorem d_TC_element_4 : decode b_TC_element 4 = .ok (.invokevirtual 61, 3) := by decide +kernel
theorem d_TC_element_7 : decode b_TC_element 7 = .ok (.ifCond .eq 12, 3) := by decide +kernel
theorem d_TC_element_10 : decode b_TC_element 10 = .ok (.iload_n 1, 1) := by decide +kernel
theorem d_TC_element_11 : decode b_TC_element 11 = .ok (.iconst 3, 1) := by decide +kernel
theorem d_TC_element_12 : decode b_TC_element 12 = .ok (.if_icmp .lt 7, 3) := by decide +kernel
theorem d_TC_element_15 : decode b_TC_element 15 = .ok (.iconst 1, 1) := by decide +kernel
theorem d_TC_element_16 : decode b_TC_element 16 = .ok (.goto 4, 3) := by decide +kernel
theorem d_TC_element_19 : decode b_TC_element 19 = .ok (.iconst 0, 1) := by decide +kernel
theorem d_TC_element_20 : decode b_TC_element 20 = .ok (.invokevirtual 65, 3) := by decide +kernel
theorem d_TC_element_23 : decode b_TC_element 23 = .ok (.istore_n 3, 1) := by decide +kernel
theorem d_TC_element_24 : decode b_TC_element 24 = .ok (.iload_n 3, 1) := by decide +kernel
theorem d_TC_element_25 : decode b_TC_element 25 = .ok (.ifCond .eq 7, 3) := by decide +kernel
theorem d_TC_element_28 : decode b_TC_element 28 = .ok (.iload_n 3, 1) := by decide +kernel
theorem d_TC_element_29 : decode b_TC_element 29 = .ok (.goto 16, 3) := by decide +kernel
theorem d_TC_element_32 : decode b_TC_element 32 = .ok (.aload_n 0, 1) := by decide +kernel
theorem d_TC_element_33 : decode b_TC_element 33 = .ok (.new 107, 3) := by decide +kernel
theorem d_TC_element_36 : decode b_TC_element 36 = .ok (.dup, 1) := by decide +kernel
theorem d_TC_element_37 : decode b_TC_element 37 = .ok (.iload_n 1, 1) := by decide +kernel
theorem d_TC_element_38 : decode b_TC_element 38 = .ok (.iload_n 2, 1) := by decide +kernel
theorem d_TC_element_39 : decode b_TC_element 39 = .ok (.invokespecial 109, 3) := by decide +kernel
theorem d_TC_element_42 : decode b_TC_element 42 = .ok (.invokevirtual 73, 3) := by decide +kernel
theorem d_TC_element_45 : decode b_TC_element 45 = .ok (.ireturn, 1) := by decide +kernel
theorem d_El_init_0 : decode b_El_init 0 = .ok (.aload_n 0, 1) := by decide +kernel
theorem d_El_init_1 : decode b_El_init 1 = .ok (.iconst 2, 1) := by decide +kernel
theorem d_El_init_2 : decode b_El_init 2 = .ok (.iload_n 1, 1) := by decide +kernel
theorem d_El_init_3 : decode b_El_init 3 = .ok (.iload_n 2, 1) := by decide +kernel
theorem d_El_init_4 : decode b_El_init 4 = .ok (.invokespecial 3, 3) := by decide +kernel
theorem d_El_init_7 : decode b_El_init 7 = .ok (.return_, 1) := by decide +kernel
theorem d_Wa_init_0 : decode b_Wa_init 0 = .ok (.aload_n 0, 1) := by decide +kernel
theorem d_Wa_init_1 : decode b_Wa_init 1 = .ok (.iload_n 1, 1) := by decide +kernel
theorem d_Wa_init_2 : decode b_Wa_init 2 = .ok (.iload_n 2, 1) := by decide +kernel
theorem d_Wa_init_3 : decode b_Wa_init 3 = .ok (.iload_n 3, 1) := by decide +kernel
theorem d_Wa_init_4 : decode b_Wa_init 4 = .ok (.invokespecial 3, 3) := by decide +kernel
theorem d_Wa_init_7 : decode b_Wa_init 7 = .ok (.return_, 1) := by decide +kernel
theorem d_TC_order_0 : decode b_TC_order 0 = .ok (.aload_n 0, 1) := by decide +kernel
theorem d_TC_order_1 : decode b_TC_order 1 = .ok (.aload_n 0, 1) := by decide +kernel
theorem d_TC_order_2 : decode b_TC_order 2 = .ok (.iload_n 1, 1) := by decide +kernel
theorem d_TC_order_3 : decode b_TC_order 3 = .ok (.iload_n 2, 1) := by decide +kernel
theorem d_TC_order_4 : decode b_TC_order 4 = .ok (.invokevirtual 61, 3) := by decide +kernel
theorem d_TC_order_7 : decode b_TC_order 7 = .ok (.ifCond .eq 13, 3) := by decide +kernel
theorem d_TC_order_10 : decode b_TC_order 10 = .ok (.iload_n 1, 1) := by decide +kernel
theorem d_TC_order_11 : decode b_TC_order 11 = .ok (.iconst 1, 1) := by decide +kernel
theorem d_TC_order_12 : decode b_TC_order 12 = .ok (.iand, 1) := by decide +kernel
theorem d_TC_order_13 : decode b_TC_order 13 = .ok (.ifCond .ne 7, 3) := by decide +kernel
theorem d_TC_order_16 : decode b_TC_order 16 = .ok (.iconst 1, 1) := by decide +kernel
theorem d_TC_order_17 : decode b_TC_order 17 = .ok (.goto 4, 3) := by decide +kernel
theorem d_TC_order_20 : decode b_TC_order 20 = .ok (.iconst 0, 1) := by decide +kernel
theorem d_TC_order_21 : decode b_TC_order 21 = .ok (.invokevirtual 65, 3) := by decide +kernel
theorem d_TC_order_24 : decode b_TC_order 24 = .ok (.istore 4, 2) := by decide +kernel
theorem d_TC_order_26 : decode b_TC_order 26 = .ok (.iload 4, 2) := by decide +kernel
theorem d_TC_order_28 : decode b_TC_order 28 = .ok (.ifCond .eq 8, 3) := by decide +kernel
theorem d_TC_order_31 : decode b_TC_order 31 = .ok (.iload 4, 2) := by decide +kernel
theorem d_TC_order_33 : decode b_TC_order 33 = .ok (.goto 17, 3) := by decide +kernel
theorem d_TC_order_36 : decode b_TC_order 36 = .ok (.aload_n 0, 1) := by decide +kernel
theorem d_TC_order_37 : decode b_TC_order 37 = .ok (.new 110, 3) := by decide +kernel
theorem d_TC_order_40 : decode b_TC_order 40 = .ok (.dup, 1) := by decide +kernel
theorem d_TC_order_41 : decode b_TC_order 41 = .ok (.iload_n 1, 1) := by decide +kernel
theorem d_TC_order_42 : decode b_TC_order 42 = .ok (.iload_n 2, 1) := by decide +kernel
theorem d_TC_order_43 : decode b_TC_order 43 = .ok (.iload_n 3, 1) := by decide +kernel
theorem d_TC_order_44 : decode b_TC_order 44 = .ok (.invokespecial 112, 3) := by decide +kernel
theorem d_TC_order_47 : decode b_TC_order 47 = .ok (.invokevirtual 73, 3) := by decide +kernel
theorem d_TC_order_50 : decode b_TC_order 50 = .ok (.ireturn, 1) := by decide +kernel
theorem d_Or_init_0 : decode b_Or_init 0 = .ok (.aload_n 0, 1) := by decide +kernel
theorem d_Or_init_1 : decode b_Or_init 1 = .ok (.iconst 3, 1) := by decide +kernel
theorem d_Or_init_2 : decode b_Or_init 2 = .ok (.iload_n 1, 1) := by decide +kernel
theorem d_Or_init_3 : decode b_Or_init 3 = .ok (.iload_n 2, 1) := by decide +kernel
theorem d_Or_init_4 : decode b_Or_init 4 = .ok (.invokespecial 3, 3) := by decide +kernel
theorem d_Or_init_7 : decode b_Or_init 7 = .ok (.aload_n 0, 1) := by decide +kernel
theorem d_Or_init_8 : decode b_Or_init 8 = .ok (.iload_n 3, 1) := by decide +kernel
theorem d_Or_init_9 : decode b_Or_init 9 = .ok (.putfield 9, 3) := by decide +kernel
theorem d_Or_init_12 : decode b_Or_init 12 = .ok (.return_, 1) := by decide +kernel
theorem d_TC_sum_0 : decode b_TC_sum 0 = .ok (.aload_n 0, 1) := by decide +kernel
theorem d_TC_sum_1 : decode b_TC_sum 1 = .ok (.aload_n 0, 1) := by decide +kernel
theorem d_TC_sum_2 : decode b_TC_sum 2 = .ok (.iload_n 1, 1) := by decide +kernel
theorem d_TC_sum_3 : decode b_TC_sum 3 = .ok (.iload_n 2, 1) := by decide +kernel
theorem d_TC_sum_4 : decode b_TC_sum 4 = .ok (.invokevirtual 61, 3) := by decide +kernel
theorem d_TC_sum_7 : decode b_TC_sum 7 = .ok (.ifCond .eq 18, 3) := by decide +kernel
theorem d_TC_sum_10 : decode b_TC_sum 10 = .ok (.iload_n 3, 1) := by decide +kernel
theorem d_TC_sum_11 : decode b_TC_sum 11 = .ok (.iload 4, 2) := by decide +kernel
theorem d_TC_sum_13 : decode b_TC_sum 13 = .ok (.bipush 30, 2) := by decide +kernel
theorem d_TC_sum_15 : decode b_TC_sum 15 = .ok (.invokestatic 115, 3) := by decide +kernel
theorem d_TC_sum_18 : decode b_TC_sum 18 = .ok (.ifCond .eq 7, 3) := by decide +kernel
theorem d_TC_sum_21 : decode b_TC_sum 21 = .ok (.iconst 1, 1) := by decide +kernel
theorem d_TC_sum_22 : decode b_TC_sum 22 = .ok (.goto 4, 3) := by decide +kernel
theorem d_TC_sum_25 : decode b_TC_sum 25 = .ok (.iconst 0, 1) := by decide +kernel
theorem d_TC_sum_26 : decode b_TC_sum 26 = .ok (.invokevirtual 65, 3) := by decide +kernel
theorem d_TC_sum_29 : decode b_TC_sum 29 = .ok (.istore 5, 2) := by decide +kernel
theorem d_TC_sum_31 : decode b_TC_sum 31 = .ok (.iload 5, 2) := by decide +kernel
theorem d_TC_sum_33 : decode b_TC_sum 33 = .ok (.ifCond .eq 8, 3) := by decide +kernel
theorem d_TC_sum_36 : decode b_TC_sum 36 = .ok (.iload 5, 2) := by decide +kernel
theorem d_TC_sum_38 : decode b_TC_sum 38 = .ok (.goto 19, 3) := by decide +kernel
theorem d_TC_sum_41 : decode b_TC_sum 41 = .ok (.aload_n 0, 1) := by decide +kernel
theorem d_TC_sum_42 : decode b_TC_sum 42 = .ok (.new 118, 3) := by decide +kernel
theorem d_TC_sum_45 : decode b_TC_sum 45 = .ok (.dup, 1) := by decide +kernel
theorem d_TC_sum_46 : decode b_TC_sum 46 = .ok (.iload_n 1, 1) := by decide +kernel
theorem d_TC_sum_47 : decode b_TC_sum 47 = .ok (.iload_n 2, 1) := by decide +kernel
theorem d_TC_sum_48 : decode b_TC_sum 48 = .ok (.iload_n 3, 1) := by decide +kernel
theorem d_TC_sum_49 : decode b_TC_sum 49 = .ok (.iload 4, 2) := by decide +kernel
theorem d_TC_sum_51 : decode b_TC_sum 51 = .ok (.invokespecial 120, 3) := by decide +kernel
theorem d_TC_sum_54 : decode b_TC_sum 54 = .ok (.invokevirtual 73, 3) := by decide +kernel
theorem d_TC_sum_57 : decode b_TC_sum 57 = .ok (.ireturn, 1) := by decide +kernel
theorem d_TC_areBounds_0 : decode b_TC_areBounds 0 = .ok (.iload_n 0, 1) := by decide +kernel
theorem d_TC_areBounds_1 : decode b_TC_areBounds 1 = .ok (.iconst 0, 1) := by decide +kernel
theorem d_TC_areBounds_2 : decode b_TC_areBounds 2 = .ok (.iload_n 2, 1) := by decide +kernel
theorem d_TC_areBounds_3 : decode b_TC_areBounds 3 = .ok (.invokestatic 53, 3) := by decide +kernel
theorem d_TC_areBounds_6 : decode b_TC_areBounds 6 = .ok (.ifCond .eq 16, 3) := by decide +kernel
theorem d_TC_areBounds_9 : decode b_TC_areBounds 9 = .ok (.iload_n 1, 1) := by decide +kernel
theorem d_TC_areBounds_10 : decode b_TC_areBounds 10 = .ok (.iload_n 0, 1) := by decide +kernel
theorem d_TC_areBounds_11 : decode b_TC_areBounds 11 = .ok (.iload_n 2, 1) := by decide +kernel
theorem d_TC_areBounds_12 : decode b_TC_areBounds 12 = .ok (.invokestatic 53, 3) := by decide +kernel
theorem d_TC_areBounds_15 : decode b_TC_areBounds 15 = .ok (.ifCond .eq 7, 3) := by decide +kernel
theorem d_TC_areBounds_18 : decode b_TC_areBounds 18 = .ok (.iconst 1, 1) := by decide +kernel
theorem d_TC_areBounds_19 : decode b_TC_areBounds 19 = .ok (.goto 4, 3) := by decide +kernel
theorem d_TC_areBounds_22 : decode b_TC_areBounds 22 = .ok (.iconst 0, 1) := by decide +kernel
theorem d_TC_areBounds_23 : decode b_TC_areBounds 23 = .ok (.ireturn, 1) := by decide +kernel
theorem d_Su_init_0 : decode b_Su_init 0 = .ok (.aload_n 0, 1) := by decide +kernel
theorem d_Su_init_1 : decode b_Su_init 1 = .ok (.iconst 4, 1) := by decide +kernel
theorem d_Su_init_2 : decode b_Su_init 2 = .ok (.iload_n 1, 1) := by decide +kernel
theorem d_Su_init_3 : decode b_Su_init 3 = .ok (.iload_n 2, 1) := by decide +kernel
theorem d_Su_init_4 : decode b_Su_init 4 = .ok (.invokespecial 3, 3) := by decide +kernel
theorem d_Su_init_7 : decode b_Su_init 7 = .ok (.aload_n 0, 1) := by decide +kernel
theorem d_Su_init_8 : decode b_Su_init 8 = .ok (.iload_n 3, 1) := by decide +kernel
theorem d_Su_init_9 : decode b_Su_init 9 = .ok (.putfield 9, 3) := by decide +kernel
theorem d_Su_init_12 : decode b_Su_init 12 = .ok (.aload_n 0, 1) := by decide +kernel
theorem d_Su_init_13 : decode b_Su_init 13 = .ok (.iload 4, 2) := by decide +kernel
theorem d_Su_init_15 : decode b_Su_init 15 = .ok (.putfield 15, 3) := by decide +kernel
theorem d_Su_init_18 : decode b_Su_init 18 = .ok (.return_, 1) := by decide +kernel
theorem d_TC_tally_0 : decode b_TC_tally 0 = .ok (.aload_n 0, 1) := by decide +kernel
theorem d_TC_tally_1 : decode b_TC_tally 1 = .ok (.iload_n 1, 1) := by decide +kernel
theorem d_TC_tally_2 : decode b_TC_tally 2 = .ok (.iload_n 2, 1) := by decide +kernel
theorem d_TC_tally_3 : decode b_TC_tally 3 = .ok (.invokevirtual 61, 3) := by decide +kernel
theorem d_TC_tally_6 : decode b_TC_tally 6 = .ok (.ifCond .eq 26, 3) := by decide +kernel
theorem d_TC_tally_9 : decode b_TC_tally 9 = .ok (.iload_n 3, 1) := by decide +kernel
theorem d_TC_tally_10 : decode b_TC_tally 10 = .ok (.invokestatic 101, 3) := by decide +kernel
theorem d_TC_tally_13 : decode b_TC_tally 13 = .ok (.ifCond .eq 19, 3) := by decide +kernel
theorem d_TC_tally_16 : decode b_TC_tally 16 = .ok (.iload 4, 2) := by decide +kernel
theorem d_TC_tally_18 : decode b_TC_tally 18 = .ok (.iload 5, 2) := by decide +kernel
theorem d_TC_tally_20 : decode b_TC_tally 20 = .ok (.bipush 6, 2) := by decide +kernel
theorem d_TC_tally_22 : decode b_TC_tally 22 = .ok (.invokestatic 115, 3) := by decide +kernel
theorem d_TC_tally_25 : decode b_TC_tally 25 = .ok (.ifCond .eq 7, 3) := by decide +kernel
theorem d_TC_tally_28 : decode b_TC_tally 28 = .ok (.iconst 1, 1) := by decide +kernel
theorem d_TC_tally_29 : decode b_TC_tally 29 = .ok (.goto 4, 3) := by decide +kernel
theorem d_TC_tally_32 : decode b_TC_tally 32 = .ok (.iconst 0, 1) := by decide +kernel
theorem d_TC_tally_33 : decode b_TC_tally 33 = .ok (.istore 6, 2) := by decide +kernel
theorem d_TC_tally_35 : decode b_TC_tally 35 = .ok (.aload_n 0, 1) := by decide +kernel
theorem d_TC_tally_36 : decode b_TC_tally 36 = .ok (.iload 6, 2) := by decide +kernel
theorem d_TC_tally_38 : decode b_TC_tally 38 = .ok (.invokevirtual 65, 3) := by decide +kernel
theorem d_TC_tally_41 : decode b_TC_tally 41 = .ok (.istore 7, 2) := by decide +kernel
theorem d_TC_tally_43 : decode b_TC_tally 43 = .ok (.iload 7, 2) := by decide +kernel
theorem d_TC_tally_45 : decode b_TC_tally 45 = .ok (.ifCond .eq 8, 3) := by decide +kernel
theorem d_TC_tally_48 : decode b_TC_tally 48 = .ok (.iload 7, 2) := by decide +kernel
theorem d_TC_tally_50 : decode b_TC_tally 50 = .ok (.goto 21, 3) := by decide +kernel
theorem d_TC_tally_53 : decode b_TC_tally 53 = .ok (.aload_n 0, 1) := by decide +kernel
theorem d_TC_tally_54 : decode b_TC_tally 54 = .ok (.new 121, 3) := by decide +kernel
theorem d_TC_tally_57 : decode b_TC_tally 57 = .ok (.dup, 1) := by decide +kernel
theorem d_TC_tally_58 : decode b_TC_tally 58 = .ok (.iload_n 1, 1) := by decide +kernel
theorem d_TC_tally_59 : decode b_TC_tally 59 = .ok (.iload_n 2, 1) := by decide +kernel
theorem d_TC_tally_60 : decode b_TC_tally 60 = .ok (.iload_n 3, 1) := by decide +kernel
theorem d_TC_tally_61 : decode b_TC_tally 61 = .ok (.iload 4, 2) := by decide +kernel
theorem d_TC_tally_63 : decode b_TC_tally 63 = .ok (.iload 5, 2) := by decide +kernel
theorem d_TC_tally_65 : decode b_TC_tally 65 = .ok (.invokespecial 123, 3) := by decide +kernel
theorem d_TC_tally_68 : decode b_TC_tally 68 = .ok (.invokevirtual 73, 3) := by decide +kernel
theorem d_TC_tally_71 : decode b_TC_tally 71 = .ok (.ireturn, 1) := by decide +kernel
