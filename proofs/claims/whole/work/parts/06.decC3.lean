theorem d_TC_valuesInAll_0 : decode b_TC_valuesInAll 0 = .ok (.iconst 0, 1) := by decide +kernel
theorem d_TC_valuesInAll_1 : decode b_TC_valuesInAll 1 = .ok (.istore_n 1, 1) := by decide +kernel
theorem d_TC_valuesInAll_2 : decode b_TC_valuesInAll 2 = .ok (.iconst 0, 1) := by decide +kernel
theorem d_TC_valuesInAll_3 : decode b_TC_valuesInAll 3 = .ok (.istore_n 2, 1) := by decide +kernel
theorem d_TC_valuesInAll_4 : decode b_TC_valuesInAll 4 = .ok (.iload_n 2, 1) := by decide +kernel
theorem d_TC_valuesInAll_5 : decode b_TC_valuesInAll 5 = .ok (.bipush 6, 2) := by decide +kernel
theorem d_TC_valuesInAll_7 : decode b_TC_valuesInAll 7 = .ok (.if_icmp .ge 24, 3) := by decide +kernel
theorem d_TC_valuesInAll_10 : decode b_TC_valuesInAll 10 = .ok (.iload_n 1, 1) := by decide +kernel
theorem d_TC_valuesInAll_11 : decode b_TC_valuesInAll 11 = .ok (.aload_n 0, 1) := by decide +kernel
theorem d_TC_valuesInAll_12 : decode b_TC_valuesInAll 12 = .ok (.getfield 10, 3) := by decide +kernel
theorem d_TC_valuesInAll_15 : decode b_TC_valuesInAll 15 = .ok (.getfield 41, 3) := by decide +kernel
theorem d_TC_valuesInAll_18 : decode b_TC_valuesInAll 18 = .ok (.iload_n 2, 1) := by decide +kernel
theorem d_TC_valuesInAll_19 : decode b_TC_valuesInAll 19 = .ok (.iaload, 1) := by decide +kernel
theorem d_TC_valuesInAll_20 : decode b_TC_valuesInAll 20 = .ok (.invokestatic 193, 3) := by decide +kernel
theorem d_TC_valuesInAll_23 : decode b_TC_valuesInAll 23 = .ok (.iadd, 1) := by decide +kernel
theorem d_TC_valuesInAll_24 : decode b_TC_valuesInAll 24 = .ok (.istore_n 1, 1) := by decide +kernel
theorem d_TC_valuesInAll_25 : decode b_TC_valuesInAll 25 = .ok (.iinc 2 1, 3) := by decide +kernel
theorem d_TC_valuesInAll_28 : decode b_TC_valuesInAll 28 = .ok (.goto (-24), 3) := by decide +kernel
theorem d_TC_valuesInAll_31 : decode b_TC_valuesInAll 31 = .ok (.iload_n 1, 1) := by decide +kernel
theorem d_TC_valuesInAll_32 : decode b_TC_valuesInAll 32 = .ok (.ireturn, 1) := by decide +kernel
