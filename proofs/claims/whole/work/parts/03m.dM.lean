theorem d_M_init_0 : decode b_M_init 0 = .ok (.aload_n 0, 1) := by decide +kernel
theorem d_M_init_1 : decode b_M_init 1 = .ok (.invokespecial 3, 3) := by decide +kernel
theorem d_M_init_4 : decode b_M_init 4 = .ok (.aload_n 0, 1) := by decide +kernel
theorem d_M_init_5 : decode b_M_init 5 = .ok (.iconst 1, 1) := by decide +kernel
theorem d_M_init_6 : decode b_M_init 6 = .ok (.putfield 9, 3) := by decide +kernel
theorem d_M_init_9 : decode b_M_init 9 = .ok (.aload_n 0, 1) := by decide +kernel
theorem d_M_init_10 : decode b_M_init 10 = .ok (.iconst 1, 1) := by decide +kernel
theorem d_M_init_11 : decode b_M_init 11 = .ok (.putfield 15, 3) := by decide +kernel
theorem d_M_init_14 : decode b_M_init 14 = .ok (.aload_n 0, 1) := by decide +kernel
theorem d_M_init_15 : decode b_M_init 15 = .ok (.bipush 64, 2) := by decide +kernel
theorem d_M_init_17 : decode b_M_init 17 = .ok (.newarray .long, 2) := by decide +kernel
theorem d_M_init_19 : decode b_M_init 19 = .ok (.putfield 18, 3) := by decide +kernel
theorem d_M_init_22 : decode b_M_init 22 = .ok (.aload_n 0, 1) := by decide +kernel
theorem d_M_init_23 : decode b_M_init 23 = .ok (.bipush 64, 2) := by decide +kernel
theorem d_M_init_25 : decode b_M_init 25 = .ok (.newarray .boolean, 2) := by decide +kernel
theorem d_M_init_27 : decode b_M_init 27 = .ok (.putfield 22, 3) := by decide +kernel
theorem d_M_init_30 : decode b_M_init 30 = .ok (.return_, 1) := by decide +kernel
theorem d_M_clear_0 : decode b_M_clear 0 = .ok (.aload_n 0, 1) := by decide +kernel
theorem d_M_clear_1 : decode b_M_clear 1 = .ok (.iload_n 1, 1) := by decide +kernel
theorem d_M_clear_2 : decode b_M_clear 2 = .ok (.putfield 9, 3) := by decide +kernel
theorem d_M_clear_5 : decode b_M_clear 5 = .ok (.aload_n 0, 1) := by decide +kernel
theorem d_M_clear_6 : decode b_M_clear 6 = .ok (.iload_n 2, 1) := by decide +kernel
theorem d_M_clear_7 : decode b_M_clear 7 = .ok (.putfield 15, 3) := by decide +kernel
theorem d_M_clear_10 : decode b_M_clear 10 = .ok (.iconst 0, 1) := by decide +kernel
theorem d_M_clear_11 : decode b_M_clear 11 = .ok (.istore_n 3, 1) := by decide +kernel
theorem d_M_clear_12 : decode b_M_clear 12 = .ok (.iload_n 3, 1) := by decide +kernel
theorem d_M_clear_13 : decode b_M_clear 13 = .ok (.aload_n 0, 1) := by decide +kernel
theorem d_M_clear_14 : decode b_M_clear 14 = .ok (.getfield 22, 3) := by decide +kernel
theorem d_M_clear_17 : decode b_M_clear 17 = .ok (.arraylength, 1) := by decide +kernel
theorem d_M_clear_18 : decode b_M_clear 18 = .ok (.if_icmp .ge 16, 3) := by decide +kernel
theorem d_M_clear_21 : decode b_M_clear 21 = .ok (.aload_n 0, 1) := by decide +kernel
theorem d_M_clear_22 : decode b_M_clear 22 = .ok (.getfield 22, 3) := by decide +kernel
theorem d_M_clear_25 : decode b_M_clear 25 = .ok (.iload_n 3, 1) := by decide +kernel
theorem d_M_clear_26 : decode b_M_clear 26 = .ok (.iconst 0, 1) := by decide +kernel
theorem d_M_clear_27 : decode b_M_clear 27 = .ok (.bastore, 1) := by decide +kernel
theorem d_M_clear_28 : decode b_M_clear 28 = .ok (.iinc 3 1, 3) := by decide +kernel
theorem d_M_clear_31 : decode b_M_clear 31 = .ok (.goto (-19), 3) := by decide +kernel
theorem d_M_clear_34 : decode b_M_clear 34 = .ok (.return_, 1) := by decide +kernel
theorem d_M_isShaped_0 : decode b_M_isShaped 0 = .ok (.aload_n 0, 1) := by decide +kernel
theorem d_M_isShaped_1 : decode b_M_isShaped 1 = .ok (.getfield 9, 3) := by decide +kernel
theorem d_M_isShaped_4 : decode b_M_isShaped 4 = .ok (.iload_n 1, 1) := by decide +kernel
theorem d_M_isShaped_5 : decode b_M_isShaped 5 = .ok (.if_icmp .ne 15, 3) := by decide +kernel
theorem d_M_isShaped_8 : decode b_M_isShaped 8 = .ok (.aload_n 0, 1) := by decide +kernel
theorem d_M_isShaped_9 : decode b_M_isShaped 9 = .ok (.getfield 15, 3) := by decide +kernel
theorem d_M_isShaped_12 : decode b_M_isShaped 12 = .ok (.iload_n 2, 1) := by decide +kernel
theorem d_M_isShaped_13 : decode b_M_isShaped 13 = .ok (.if_icmp .ne 7, 3) := by decide +kernel
theorem d_M_isShaped_16 : decode b_M_isShaped 16 = .ok (.iconst 1, 1) := by decide +kernel
theorem d_M_isShaped_17 : decode b_M_isShaped 17 = .ok (.goto 4, 3) := by decide +kernel
theorem d_M_isShaped_20 : decode b_M_isShaped 20 = .ok (.iconst 0, 1) := by decide +kernel
theorem d_M_isShaped_21 : decode b_M_isShaped 21 = .ok (.ireturn, 1) := by decide +kernel
theorem d_M_has_0 : decode b_M_has 0 = .ok (.aload_n 0, 1) := by decide +kernel
theorem d_M_has_1 : decode b_M_has 1 = .ok (.getfield 22, 3) := by decide +kernel
theorem d_M_has_4 : decode b_M_has 4 = .ok (.iload_n 1, 1) := by decide +kernel
theorem d_M_has_5 : decode b_M_has 5 = .ok (.bipush 8, 2) := by decide +kernel
theorem d_M_has_7 : decode b_M_has 7 = .ok (.imul, 1) := by decide +kernel
theorem d_M_has_8 : decode b_M_has 8 = .ok (.iload_n 2, 1) := by decide +kernel
theorem d_M_has_9 : decode b_M_has 9 = .ok (.iadd, 1) := by decide +kernel
theorem d_M_has_10 : decode b_M_has 10 = .ok (.baload, 1) := by decide +kernel
theorem d_M_has_11 : decode b_M_has 11 = .ok (.ireturn, 1) := by decide +kernel
theorem d_M_value_0 : decode b_M_value 0 = .ok (.aload_n 0, 1) := by decide +kernel
theorem d_M_value_1 : decode b_M_value 1 = .ok (.getfield 18, 3) := by decide +kernel
theorem d_M_value_4 : decode b_M_value 4 = .ok (.iload_n 1, 1) := by decide +kernel
theorem d_M_value_5 : decode b_M_value 5 = .ok (.bipush 8, 2) := by decide +kernel
theorem d_M_value_7 : decode b_M_value 7 = .ok (.imul, 1) := by decide +kernel
theorem d_M_value_8 : decode b_M_value 8 = .ok (.iload_n 2, 1) := by decide +kernel
theorem d_M_value_9 : decode b_M_value 9 = .ok (.iadd, 1) := by decide +kernel
theorem d_M_value_10 : decode b_M_value 10 = .ok (.laload, 1) := by decide +kernel
theorem d_M_value_11 : decode b_M_value 11 = .ok (.lreturn, 1) := by decide +kernel
theorem d_M_enter_0 : decode b_M_enter 0 = .ok (.aload_n 0, 1) := by decide +kernel
theorem d_M_enter_1 : decode b_M_enter 1 = .ok (.getfield 18, 3) := by decide +kernel
theorem d_M_enter_4 : decode b_M_enter 4 = .ok (.iload_n 1, 1) := by decide +kernel
theorem d_M_enter_5 : decode b_M_enter 5 = .ok (.bipush 8, 2) := by decide +kernel
theorem d_M_enter_7 : decode b_M_enter 7 = .ok (.imul, 1) := by decide +kernel
theorem d_M_enter_8 : decode b_M_enter 8 = .ok (.iload_n 2, 1) := by decide +kernel
theorem d_M_enter_9 : decode b_M_enter 9 = .ok (.iadd, 1) := by decide +kernel
theorem d_M_enter_10 : decode b_M_enter 10 = .ok (.lload_n 3, 1) := by decide +kernel
theorem d_M_enter_11 : decode b_M_enter 11 = .ok (.lastore, 1) := by decide +kernel
theorem d_M_enter_12 : decode b_M_enter 12 = .ok (.aload_n 0, 1) := by decide +kernel
theorem d_M_enter_13 : decode b_M_enter 13 = .ok (.getfield 22, 3) := by decide +kernel
theorem d_M_enter_16 : decode b_M_enter 16 = .ok (.iload_n 1, 1) := by decide +kernel
theorem d_M_enter_17 : decode b_M_enter 17 = .ok (.bipush 8, 2) := by decide +kernel
theorem d_M_enter_19 : decode b_M_enter 19 = .ok (.imul, 1) := by decide +kernel
theorem d_M_enter_20 : decode b_M_enter 20 = .ok (.iload_n 2, 1) := by decide +kernel
theorem d_M_enter_21 : decode b_M_enter 21 = .ok (.iadd, 1) := by decide +kernel
theorem d_M_enter_22 : decode b_M_enter 22 = .ok (.iconst 1, 1) := by decide +kernel
theorem d_M_enter_23 : decode b_M_enter 23 = .ok (.bastore, 1) := by decide +kernel
theorem d_M_enter_24 : decode b_M_enter 24 = .ok (.return_, 1) := by decide +kernel
theorem d_M_remove_0 : decode b_M_remove 0 = .ok (.aload_n 0, 1) := by decide +kernel
theorem d_M_remove_1 : decode b_M_remove 1 = .ok (.getfield 22, 3) := by decide +kernel
theorem d_M_remove_4 : decode b_M_remove 4 = .ok (.iload_n 1, 1) := by decide +kernel
theorem d_M_remove_5 : decode b_M_remove 5 = .ok (.bipush 8, 2) := by decide +kernel
theorem d_M_remove_7 : decode b_M_remove 7 = .ok (.imul, 1) := by decide +kernel
theorem d_M_remove_8 : decode b_M_remove 8 = .ok (.iload_n 2, 1) := by decide +kernel
theorem d_M_remove_9 : decode b_M_remove 9 = .ok (.iadd, 1) := by decide +kernel
theorem d_M_remove_10 : decode b_M_remove 10 = .ok (.iconst 0, 1) := by decide +kernel
theorem d_M_remove_11 : decode b_M_remove 11 = .ok (.bastore, 1) := by decide +kernel
theorem d_M_remove_12 : decode b_M_remove 12 = .ok (.return_, 1) := by decide +kernel
theorem d_M_count_0 : decode b_M_count 0 = .ok (.iconst 0, 1) := by decide +kernel
theorem d_M_count_1 : decode b_M_count 1 = .ok (.istore_n 1, 1) := by decide +kernel
theorem d_M_count_2 : decode b_M_count 2 = .ok (.iconst 0, 1) := by decide +kernel
theorem d_M_count_3 : decode b_M_count 3 = .ok (.istore_n 2, 1) := by decide +kernel
theorem d_M_count_4 : decode b_M_count 4 = .ok (.iload_n 2, 1) := by decide +kernel
theorem d_M_count_5 : decode b_M_count 5 = .ok (.aload_n 0, 1) := by decide +kernel
theorem d_M_count_6 : decode b_M_count 6 = .ok (.getfield 22, 3) := by decide +kernel
theorem d_M_count_9 : decode b_M_count 9 = .ok (.arraylength, 1) := by decide +kernel
theorem d_M_count_10 : decode b_M_count 10 = .ok (.if_icmp .ge 21, 3) := by decide +kernel
theorem d_M_count_13 : decode b_M_count 13 = .ok (.aload_n 0, 1) := by decide +kernel
theorem d_M_count_14 : decode b_M_count 14 = .ok (.getfield 22, 3) := by decide +kernel
theorem d_M_count_17 : decode b_M_count 17 = .ok (.iload_n 2, 1) := by decide +kernel
theorem d_M_count_18 : decode b_M_count 18 = .ok (.baload, 1) := by decide +kernel
theorem d_M_count_19 : decode b_M_count 19 = .ok (.ifCond .eq 6, 3) := by decide +kernel
theorem d_M_count_22 : decode b_M_count 22 = .ok (.iinc 1 1, 3) := by decide +kernel
theorem d_M_count_25 : decode b_M_count 25 = .ok (.iinc 2 1, 3) := by decide +kernel
theorem d_M_count_28 : decode b_M_count 28 = .ok (.goto (-24), 3) := by decide +kernel
theorem d_M_count_31 : decode b_M_count 31 = .ok (.iload_n 1, 1) := by decide +kernel
theorem d_M_count_32 : decode b_M_count 32 = .ok (.ireturn, 1) := by decide +kernel
