theorem d_L_shape_0 : decode b_L_shape 0 = .ok (.aload_n 0, 1) := by decide +kernel
theorem d_L_shape_1 : decode b_L_shape 1 = .ok (.iload_n 1, 1) := by decide +kernel
theorem d_L_shape_2 : decode b_L_shape 2 = .ok (.iload_n 2, 1) := by decide +kernel
theorem d_L_shape_3 : decode b_L_shape 3 = .ok (.iload_n 3, 1) := by decide +kernel
theorem d_L_shape_4 : decode b_L_shape 4 = .ok (.invokevirtual 7, 3) := by decide +kernel
theorem d_L_shape_7 : decode b_L_shape 7 = .ok (.goto 7, 3) := by decide +kernel
theorem d_L_shape_10 : decode b_L_shape 10 = .ok (.astore 4, 2) := by decide +kernel
theorem d_L_shape_12 : decode b_L_shape 12 = .ok (.iconst 1, 1) := by decide +kernel
theorem d_L_shape_13 : decode b_L_shape 13 = .ok (.ireturn, 1) := by decide +kernel
theorem d_L_shape_14 : decode b_L_shape 14 = .ok (.iconst 0, 1) := by decide +kernel
theorem d_L_shape_15 : decode b_L_shape 15 = .ok (.ireturn, 1) := by decide +kernel
theorem d_L_put_0 : decode b_L_put 0 = .ok (.aload_n 0, 1) := by decide +kernel
theorem d_L_put_1 : decode b_L_put 1 = .ok (.iload_n 1, 1) := by decide +kernel
theorem d_L_put_2 : decode b_L_put 2 = .ok (.iload_n 2, 1) := by decide +kernel
theorem d_L_put_3 : decode b_L_put 3 = .ok (.iload_n 3, 1) := by decide +kernel
theorem d_L_put_4 : decode b_L_put 4 = .ok (.lload 4, 2) := by decide +kernel
theorem d_L_put_6 : decode b_L_put 6 = .ok (.invokevirtual 15, 3) := by decide +kernel
theorem d_L_put_9 : decode b_L_put 9 = .ok (.goto 7, 3) := by decide +kernel
theorem d_L_put_12 : decode b_L_put 12 = .ok (.astore 6, 2) := by decide +kernel
theorem d_L_put_14 : decode b_L_put 14 = .ok (.iconst 1, 1) := by decide +kernel
theorem d_L_put_15 : decode b_L_put 15 = .ok (.ireturn, 1) := by decide +kernel
theorem d_L_put_16 : decode b_L_put 16 = .ok (.iconst 0, 1) := by decide +kernel
theorem d_L_put_17 : decode b_L_put 17 = .ok (.ireturn, 1) := by decide +kernel
theorem d_L_drop_0 : decode b_L_drop 0 = .ok (.aload 4, 2) := by decide +kernel
theorem d_L_drop_2 : decode b_L_drop 2 = .ok (.iconst 0, 1) := by decide +kernel
theorem d_L_drop_3 : decode b_L_drop 3 = .ok (.aload_n 0, 1) := by decide +kernel
theorem d_L_drop_4 : decode b_L_drop 4 = .ok (.iload_n 1, 1) := by decide +kernel
theorem d_L_drop_5 : decode b_L_drop 5 = .ok (.iload_n 2, 1) := by decide +kernel
theorem d_L_drop_6 : decode b_L_drop 6 = .ok (.iload_n 3, 1) := by decide +kernel
theorem d_L_drop_7 : decode b_L_drop 7 = .ok (.invokevirtual 19, 3) := by decide +kernel
theorem d_L_drop_10 : decode b_L_drop 10 = .ok (.ifCond .eq 7, 3) := by decide +kernel
theorem d_L_drop_13 : decode b_L_drop 13 = .ok (.lconst 1, 1) := by decide +kernel
theorem d_L_drop_14 : decode b_L_drop 14 = .ok (.goto 4, 3) := by decide +kernel
theorem d_L_drop_17 : decode b_L_drop 17 = .ok (.lconst 0, 1) := by decide +kernel
theorem d_L_drop_18 : decode b_L_drop 18 = .ok (.lastore, 1) := by decide +kernel
theorem d_L_drop_19 : decode b_L_drop 19 = .ok (.goto 7, 3) := by decide +kernel
theorem d_L_drop_22 : decode b_L_drop 22 = .ok (.astore 5, 2) := by decide +kernel
theorem d_L_drop_24 : decode b_L_drop 24 = .ok (.iconst 1, 1) := by decide +kernel
theorem d_L_drop_25 : decode b_L_drop 25 = .ok (.ireturn, 1) := by decide +kernel
theorem d_L_drop_26 : decode b_L_drop 26 = .ok (.iconst 0, 1) := by decide +kernel
theorem d_L_drop_27 : decode b_L_drop 27 = .ok (.ireturn, 1) := by decide +kernel
theorem d_L_at_0 : decode b_L_at 0 = .ok (.aload 4, 2) := by decide +kernel
theorem d_L_at_2 : decode b_L_at 2 = .ok (.iconst 0, 1) := by decide +kernel
theorem d_L_at_3 : decode b_L_at 3 = .ok (.aload_n 0, 1) := by decide +kernel
theorem d_L_at_4 : decode b_L_at 4 = .ok (.iload_n 1, 1) := by decide +kernel
theorem d_L_at_5 : decode b_L_at 5 = .ok (.iload_n 2, 1) := by decide +kernel
theorem d_L_at_6 : decode b_L_at 6 = .ok (.iload_n 3, 1) := by decide +kernel
theorem d_L_at_7 : decode b_L_at 7 = .ok (.invokevirtual 23, 3) := by decide +kernel
theorem d_L_at_10 : decode b_L_at 10 = .ok (.lastore, 1) := by decide +kernel
theorem d_L_at_11 : decode b_L_at 11 = .ok (.goto 11, 3) := by decide +kernel
theorem d_L_at_14 : decode b_L_at 14 = .ok (.astore 5, 2) := by decide +kernel
theorem d_L_at_16 : decode b_L_at 16 = .ok (.iconst 1, 1) := by decide +kernel
theorem d_L_at_17 : decode b_L_at 17 = .ok (.ireturn, 1) := by decide +kernel
theorem d_L_at_18 : decode b_L_at 18 = .ok (.astore 5, 2) := by decide +kernel
theorem d_L_at_20 : decode b_L_at 20 = .ok (.iconst 2, 1) := by decide +kernel
theorem d_L_at_21 : decode b_L_at 21 = .ok (.ireturn, 1) := by decide +kernel
theorem d_L_at_22 : decode b_L_at 22 = .ok (.iconst 0, 1) := by decide +kernel
theorem d_L_at_23 : decode b_L_at 23 = .ok (.ireturn, 1) := by decide +kernel
theorem d_L_size_0 : decode b_L_size 0 = .ok (.aload_n 2, 1) := by decide +kernel
theorem d_L_size_1 : decode b_L_size 1 = .ok (.iconst 0, 1) := by decide +kernel
theorem d_L_size_2 : decode b_L_size 2 = .ok (.aload_n 0, 1) := by decide +kernel
theorem d_L_size_3 : decode b_L_size 3 = .ok (.iload_n 1, 1) := by decide +kernel
theorem d_L_size_4 : decode b_L_size 4 = .ok (.invokevirtual 29, 3) := by decide +kernel
theorem d_L_size_7 : decode b_L_size 7 = .ok (.i2l, 1) := by decide +kernel
theorem d_L_size_8 : decode b_L_size 8 = .ok (.lastore, 1) := by decide +kernel
theorem d_L_size_9 : decode b_L_size 9 = .ok (.goto 6, 3) := by decide +kernel
theorem d_L_size_12 : decode b_L_size 12 = .ok (.astore_n 3, 1) := by decide +kernel
theorem d_L_size_13 : decode b_L_size 13 = .ok (.iconst 1, 1) := by decide +kernel
theorem d_L_size_14 : decode b_L_size 14 = .ok (.ireturn, 1) := by decide +kernel
theorem d_L_size_15 : decode b_L_size 15 = .ok (.iconst 0, 1) := by decide +kernel
theorem d_L_size_16 : decode b_L_size 16 = .ok (.ireturn, 1) := by decide +kernel
theorem d_L_multiply_0 : decode b_L_multiply 0 = .ok (.aload 7, 2) := by decide +kernel
theorem d_L_multiply_2 : decode b_L_multiply 2 = .ok (.iconst 0, 1) := by decide +kernel
theorem d_L_multiply_3 : decode b_L_multiply 3 = .ok (.aload_n 0, 1) := by decide +kernel
theorem d_L_multiply_4 : decode b_L_multiply 4 = .ok (.iload_n 1, 1) := by decide +kernel
theorem d_L_multiply_5 : decode b_L_multiply 5 = .ok (.iload_n 2, 1) := by decide +kernel
theorem d_L_multiply_6 : decode b_L_multiply 6 = .ok (.iload_n 3, 1) := by decide +kernel
theorem d_L_multiply_7 : decode b_L_multiply 7 = .ok (.iload 4, 2) := by decide +kernel
theorem d_L_multiply_9 : decode b_L_multiply 9 = .ok (.iload 5, 2) := by decide +kernel
theorem d_L_multiply_11 : decode b_L_multiply 11 = .ok (.iload 6, 2) := by decide +kernel
theorem d_L_multiply_13 : decode b_L_multiply 13 = .ok (.invokevirtual 33, 3) := by decide +kernel
theorem d_L_multiply_16 : decode b_L_multiply 16 = .ok (.i2l, 1) := by decide +kernel
theorem d_L_multiply_17 : decode b_L_multiply 17 = .ok (.lastore, 1) := by decide +kernel
theorem d_L_multiply_18 : decode b_L_multiply 18 = .ok (.goto 15, 3) := by decide +kernel
theorem d_L_multiply_21 : decode b_L_multiply 21 = .ok (.astore 8, 2) := by decide +kernel
theorem d_L_multiply_23 : decode b_L_multiply 23 = .ok (.iconst 1, 1) := by decide +kernel
theorem d_L_multiply_24 : decode b_L_multiply 24 = .ok (.ireturn, 1) := by decide +kernel
theorem d_L_multiply_25 : decode b_L_multiply 25 = .ok (.astore 8, 2) := by decide +kernel
theorem d_L_multiply_27 : decode b_L_multiply 27 = .ok (.iconst 2, 1) := by decide +kernel
theorem d_L_multiply_28 : decode b_L_multiply 28 = .ok (.ireturn, 1) := by decide +kernel
theorem d_L_multiply_29 : decode b_L_multiply 29 = .ok (.astore 8, 2) := by decide +kernel
theorem d_L_multiply_31 : decode b_L_multiply 31 = .ok (.iconst 3, 1) := by decide +kernel
theorem d_L_multiply_32 : decode b_L_multiply 32 = .ok (.ireturn, 1) := by decide +kernel
theorem d_L_multiply_33 : decode b_L_multiply 33 = .ok (.iconst 0, 1) := by decide +kernel
theorem d_L_multiply_34 : decode b_L_multiply 34 = .ok (.ireturn, 1) := by decide +kernel
theorem d_L_add_0 : decode b_L_add 0 = .ok (.aload 5, 2) := by decide +kernel
theorem d_L_add_2 : decode b_L_add 2 = .ok (.iconst 0, 1) := by decide +kernel
theorem d_L_add_3 : decode b_L_add 3 = .ok (.aload_n 0, 1) := by decide +kernel
theorem d_L_add_4 : decode b_L_add 4 = .ok (.iload_n 1, 1) := by decide +kernel
theorem d_L_add_5 : decode b_L_add 5 = .ok (.iload_n 2, 1) := by decide +kernel
theorem d_L_add_6 : decode b_L_add 6 = .ok (.iload_n 3, 1) := by decide +kernel
theorem d_L_add_7 : decode b_L_add 7 = .ok (.iload 4, 2) := by decide +kernel
theorem d_L_add_9 : decode b_L_add 9 = .ok (.invokevirtual 41, 3) := by decide +kernel
theorem d_L_add_12 : decode b_L_add 12 = .ok (.i2l, 1) := by decide +kernel
theorem d_L_add_13 : decode b_L_add 13 = .ok (.lastore, 1) := by decide +kernel
theorem d_L_add_14 : decode b_L_add 14 = .ok (.goto 15, 3) := by decide +kernel
theorem d_L_add_17 : decode b_L_add 17 = .ok (.astore 6, 2) := by decide +kernel
theorem d_L_add_19 : decode b_L_add 19 = .ok (.iconst 1, 1) := by decide +kernel
theorem d_L_add_20 : decode b_L_add 20 = .ok (.ireturn, 1) := by decide +kernel
theorem d_L_add_21 : decode b_L_add 21 = .ok (.astore 6, 2) := by decide +kernel
theorem d_L_add_23 : decode b_L_add 23 = .ok (.iconst 2, 1) := by decide +kernel
theorem d_L_add_24 : decode b_L_add 24 = .ok (.ireturn, 1) := by decide +kernel
theorem d_L_add_25 : decode b_L_add 25 = .ok (.astore 6, 2) := by decide +kernel
theorem d_L_add_27 : decode b_L_add 27 = .ok (.iconst 3, 1) := by decide +kernel
theorem d_L_add_28 : decode b_L_add 28 = .ok (.ireturn, 1) := by decide +kernel
theorem d_L_add_29 : decode b_L_add 29 = .ok (.iconst 0, 1) := by decide +kernel
theorem d_L_add_30 : decode b_L_add 30 = .ok (.ireturn, 1) := by decide +kernel
theorem d_L_each_0 : decode b_L_each 0 = .ok (.aload 5, 2) := by decide +kernel
theorem d_L_each_2 : decode b_L_each 2 = .ok (.iconst 0, 1) := by decide +kernel
theorem d_L_each_3 : decode b_L_each 3 = .ok (.aload_n 0, 1) := by decide +kernel
theorem d_L_each_4 : decode b_L_each 4 = .ok (.iload_n 1, 1) := by decide +kernel
theorem d_L_each_5 : decode b_L_each 5 = .ok (.iload_n 2, 1) := by decide +kernel
theorem d_L_each_6 : decode b_L_each 6 = .ok (.iload_n 3, 1) := by decide +kernel
theorem d_L_each_7 : decode b_L_each 7 = .ok (.iload 4, 2) := by decide +kernel
theorem d_L_each_9 : decode b_L_each 9 = .ok (.invokevirtual 45, 3) := by decide +kernel
theorem d_L_each_12 : decode b_L_each 12 = .ok (.i2l, 1) := by decide +kernel
theorem d_L_each_13 : decode b_L_each 13 = .ok (.lastore, 1) := by decide +kernel
theorem d_L_each_14 : decode b_L_each 14 = .ok (.goto 15, 3) := by decide +kernel
theorem d_L_each_17 : decode b_L_each 17 = .ok (.astore 6, 2) := by decide +kernel
theorem d_L_each_19 : decode b_L_each 19 = .ok (.iconst 1, 1) := by decide +kernel
theorem d_L_each_20 : decode b_L_each 20 = .ok (.ireturn, 1) := by decide +kernel
theorem d_L_each_21 : decode b_L_each 21 = .ok (.astore 6, 2) := by decide +kernel
theorem d_L_each_23 : decode b_L_each 23 = .ok (.iconst 2, 1) := by decide +kernel
theorem d_L_each_24 : decode b_L_each 24 = .ok (.ireturn, 1) := by decide +kernel
theorem d_L_each_25 : decode b_L_each 25 = .ok (.astore 6, 2) := by decide +kernel
theorem d_L_each_27 : decode b_L_each 27 = .ok (.iconst 3, 1) := by decide +kernel
theorem d_L_each_28 : decode b_L_each 28 = .ok (.ireturn, 1) := by decide +kernel
theorem d_L_each_29 : decode b_L_each 29 = .ok (.iconst 0, 1) := by decide +kernel
theorem d_L_each_30 : decode b_L_each 30 = .ok (.ireturn, 1) := by decide +kernel
theorem d_L_transpose_0 : decode b_L_transpose 0 = .ok (.aload_n 3, 1) := by decide +kernel
theorem d_L_transpose_1 : decode b_L_transpose 1 = .ok (.iconst 0, 1) := by decide +kernel
theorem d_L_transpose_2 : decode b_L_transpose 2 = .ok (.aload_n 0, 1) := by decide +kernel
theorem d_L_transpose_3 : decode b_L_transpose 3 = .ok (.iload_n 1, 1) := by decide +kernel
theorem d_L_transpose_4 : decode b_L_transpose 4 = .ok (.iload_n 2, 1) := by decide +kernel
theorem d_L_transpose_5 : decode b_L_transpose 5 = .ok (.invokevirtual 48, 3) := by decide +kernel
theorem d_L_transpose_8 : decode b_L_transpose 8 = .ok (.i2l, 1) := by decide +kernel
theorem d_L_transpose_9 : decode b_L_transpose 9 = .ok (.lastore, 1) := by decide +kernel
theorem d_L_transpose_10 : decode b_L_transpose 10 = .ok (.goto 7, 3) := by decide +kernel
theorem d_L_transpose_13 : decode b_L_transpose 13 = .ok (.astore 4, 2) := by decide +kernel
theorem d_L_transpose_15 : decode b_L_transpose 15 = .ok (.iconst 1, 1) := by decide +kernel
theorem d_L_transpose_16 : decode b_L_transpose 16 = .ok (.ireturn, 1) := by decide +kernel
theorem d_L_transpose_17 : decode b_L_transpose 17 = .ok (.iconst 0, 1) := by decide +kernel
theorem d_L_transpose_18 : decode b_L_transpose 18 = .ok (.ireturn, 1) := by decide +kernel
theorem d_L_select_0 : decode b_L_select 0 = .ok (.aload 6, 2) := by decide +kernel
theorem d_L_select_2 : decode b_L_select 2 = .ok (.iconst 0, 1) := by decide +kernel
theorem d_L_select_3 : decode b_L_select 3 = .ok (.aload_n 0, 1) := by decide +kernel
theorem d_L_select_4 : decode b_L_select 4 = .ok (.iload_n 1, 1) := by decide +kernel
theorem d_L_select_5 : decode b_L_select 5 = .ok (.iload_n 2, 1) := by decide +kernel
theorem d_L_select_6 : decode b_L_select 6 = .ok (.iload_n 3, 1) := by decide +kernel
theorem d_L_select_7 : decode b_L_select 7 = .ok (.lload 4, 2) := by decide +kernel
theorem d_L_select_9 : decode b_L_select 9 = .ok (.invokevirtual 52, 3) := by decide +kernel
theorem d_L_select_12 : decode b_L_select 12 = .ok (.i2l, 1) := by decide +kernel
theorem d_L_select_13 : decode b_L_select 13 = .ok (.lastore, 1) := by decide +kernel
theorem d_L_select_14 : decode b_L_select 14 = .ok (.goto 7, 3) := by decide +kernel
theorem d_L_select_17 : decode b_L_select 17 = .ok (.astore 7, 2) := by decide +kernel
theorem d_L_select_19 : decode b_L_select 19 = .ok (.iconst 1, 1) := by decide +kernel
theorem d_L_select_20 : decode b_L_select 20 = .ok (.ireturn, 1) := by decide +kernel
theorem d_L_select_21 : decode b_L_select 21 = .ok (.iconst 0, 1) := by decide +kernel
theorem d_L_select_22 : decode b_L_select 22 = .ok (.ireturn, 1) := by decide +kernel
theorem d_L_reduce_0 : decode b_L_reduce 0 = .ok (.aload_n 3, 1) := by decide +kernel
theorem d_L_reduce_1 : decode b_L_reduce 1 = .ok (.iconst 0, 1) := by decide +kernel
theorem d_L_reduce_2 : decode b_L_reduce 2 = .ok (.aload_n 0, 1) := by decide +kernel
theorem d_L_reduce_3 : decode b_L_reduce 3 = .ok (.iload_n 1, 1) := by decide +kernel
theorem d_L_reduce_4 : decode b_L_reduce 4 = .ok (.iload_n 2, 1) := by decide +kernel
theorem d_L_reduce_5 : decode b_L_reduce 5 = .ok (.invokevirtual 56, 3) := by decide +kernel
theorem d_L_reduce_8 : decode b_L_reduce 8 = .ok (.lastore, 1) := by decide +kernel
theorem d_L_reduce_9 : decode b_L_reduce 9 = .ok (.goto 15, 3) := by decide +kernel
theorem d_L_reduce_12 : decode b_L_reduce 12 = .ok (.astore 4, 2) := by decide +kernel
theorem d_L_reduce_14 : decode b_L_reduce 14 = .ok (.iconst 1, 1) := by decide +kernel
theorem d_L_reduce_15 : decode b_L_reduce 15 = .ok (.ireturn, 1) := by decide +kernel
theorem d_L_reduce_16 : decode b_L_reduce 16 = .ok (.astore 4, 2) := by decide +kernel
theorem d_L_reduce_18 : decode b_L_reduce 18 = .ok (.iconst 2, 1) := by decide +kernel
theorem d_L_reduce_19 : decode b_L_reduce 19 = .ok (.ireturn, 1) := by decide +kernel
theorem d_L_reduce_20 : decode b_L_reduce 20 = .ok (.astore 4, 2) := by decide +kernel
theorem d_L_reduce_22 : decode b_L_reduce 22 = .ok (.iconst 3, 1) := by decide +kernel
theorem d_L_reduce_23 : decode b_L_reduce 23 = .ok (.ireturn, 1) := by decide +kernel
theorem d_L_reduce_24 : decode b_L_reduce 24 = .ok (.iconst 0, 1) := by decide +kernel
theorem d_L_reduce_25 : decode b_L_reduce 25 = .ok (.ireturn, 1) := by decide +kernel
theorem d_L_levels_0 : decode b_L_levels 0 = .ok (.aload 4, 2) := by decide +kernel
theorem d_L_levels_2 : decode b_L_levels 2 = .ok (.iconst 0, 1) := by decide +kernel
theorem d_L_levels_3 : decode b_L_levels 3 = .ok (.aload_n 0, 1) := by decide +kernel
theorem d_L_levels_4 : decode b_L_levels 4 = .ok (.iload_n 1, 1) := by decide +kernel
theorem d_L_levels_5 : decode b_L_levels 5 = .ok (.iload_n 2, 1) := by decide +kernel
theorem d_L_levels_6 : decode b_L_levels 6 = .ok (.iload_n 3, 1) := by decide +kernel
theorem d_L_levels_7 : decode b_L_levels 7 = .ok (.invokevirtual 60, 3) := by decide +kernel
theorem d_L_levels_10 : decode b_L_levels 10 = .ok (.i2l, 1) := by decide +kernel
theorem d_L_levels_11 : decode b_L_levels 11 = .ok (.lastore, 1) := by decide +kernel
theorem d_L_levels_12 : decode b_L_levels 12 = .ok (.goto 15, 3) := by decide +kernel
theorem d_L_levels_15 : decode b_L_levels 15 = .ok (.astore 5, 2) := by decide +kernel
theorem d_L_levels_17 : decode b_L_levels 17 = .ok (.iconst 1, 1) := by decide +kernel
theorem d_L_levels_18 : decode b_L_levels 18 = .ok (.ireturn, 1) := by decide +kernel
theorem d_L_levels_19 : decode b_L_levels 19 = .ok (.astore 5, 2) := by decide +kernel
theorem d_L_levels_21 : decode b_L_levels 21 = .ok (.iconst 2, 1) := by decide +kernel
theorem d_L_levels_22 : decode b_L_levels 22 = .ok (.ireturn, 1) := by decide +kernel
theorem d_L_levels_23 : decode b_L_levels 23 = .ok (.astore 5, 2) := by decide +kernel
theorem d_L_levels_25 : decode b_L_levels 25 = .ok (.iconst 3, 1) := by decide +kernel
theorem d_L_levels_26 : decode b_L_levels 26 = .ok (.ireturn, 1) := by decide +kernel
theorem d_L_levels_27 : decode b_L_levels 27 = .ok (.iconst 0, 1) := by decide +kernel
theorem d_L_levels_28 : decode b_L_levels 28 = .ok (.ireturn, 1) := by decide +kernel
theorem d_L_paths_0 : decode b_L_paths 0 = .ok (.aload_n 3, 1) := by decide +kernel
theorem d_L_paths_1 : decode b_L_paths 1 = .ok (.iconst 0, 1) := by decide +kernel
theorem d_L_paths_2 : decode b_L_paths 2 = .ok (.aload_n 0, 1) := by decide +kernel
theorem d_L_paths_3 : decode b_L_paths 3 = .ok (.iload_n 1, 1) := by decide +kernel
theorem d_L_paths_4 : decode b_L_paths 4 = .ok (.iload_n 2, 1) := by decide +kernel
theorem d_L_paths_5 : decode b_L_paths 5 = .ok (.invokevirtual 64, 3) := by decide +kernel
theorem d_L_paths_8 : decode b_L_paths 8 = .ok (.i2l, 1) := by decide +kernel
theorem d_L_paths_9 : decode b_L_paths 9 = .ok (.lastore, 1) := by decide +kernel
theorem d_L_paths_10 : decode b_L_paths 10 = .ok (.goto 19, 3) := by decide +kernel
theorem d_L_paths_13 : decode b_L_paths 13 = .ok (.astore 4, 2) := by decide +kernel
theorem d_L_paths_15 : decode b_L_paths 15 = .ok (.iconst 1, 1) := by decide +kernel
theorem d_L_paths_16 : decode b_L_paths 16 = .ok (.ireturn, 1) := by decide +kernel
theorem d_L_paths_17 : decode b_L_paths 17 = .ok (.astore 4, 2) := by decide +kernel
theorem d_L_paths_19 : decode b_L_paths 19 = .ok (.iconst 2, 1) := by decide +kernel
theorem d_L_paths_20 : decode b_L_paths 20 = .ok (.ireturn, 1) := by decide +kernel
theorem d_L_paths_21 : decode b_L_paths 21 = .ok (.astore 4, 2) := by decide +kernel
theorem d_L_paths_23 : decode b_L_paths 23 = .ok (.iconst 3, 1) := by decide +kernel
theorem d_L_paths_24 : decode b_L_paths 24 = .ok (.ireturn, 1) := by decide +kernel
theorem d_L_paths_25 : decode b_L_paths 25 = .ok (.astore 4, 2) := by decide +kernel
theorem d_L_paths_27 : decode b_L_paths 27 = .ok (.iconst 4, 1) := by decide +kernel
theorem d_L_paths_28 : decode b_L_paths 28 = .ok (.ireturn, 1) := by decide +kernel
theorem d_L_paths_29 : decode b_L_paths 29 = .ok (.iconst 0, 1) := by decide +kernel
theorem d_L_paths_30 : decode b_L_paths 30 = .ok (.ireturn, 1) := by decide +kernel
theorem d_L_triangles_0 : decode b_L_triangles 0 = .ok (.aload_n 2, 1) := by decide +kernel
theorem d_L_triangles_1 : decode b_L_triangles 1 = .ok (.iconst 0, 1) := by decide +kernel
theorem d_L_triangles_2 : decode b_L_triangles 2 = .ok (.aload_n 0, 1) := by decide +kernel
theorem d_L_triangles_3 : decode b_L_triangles 3 = .ok (.iload_n 1, 1) := by decide +kernel
theorem d_L_triangles_4 : decode b_L_triangles 4 = .ok (.invokevirtual 67, 3) := by decide +kernel
theorem d_L_triangles_7 : decode b_L_triangles 7 = .ok (.i2l, 1) := by decide +kernel
theorem d_L_triangles_8 : decode b_L_triangles 8 = .ok (.lastore, 1) := by decide +kernel
theorem d_L_triangles_9 : decode b_L_triangles 9 = .ok (.goto 9, 3) := by decide +kernel
theorem d_L_triangles_12 : decode b_L_triangles 12 = .ok (.astore_n 3, 1) := by decide +kernel
theorem d_L_triangles_13 : decode b_L_triangles 13 = .ok (.iconst 1, 1) := by decide +kernel
theorem d_L_triangles_14 : decode b_L_triangles 14 = .ok (.ireturn, 1) := by decide +kernel
theorem d_L_triangles_15 : decode b_L_triangles 15 = .ok (.astore_n 3, 1) := by decide +kernel
theorem d_L_triangles_16 : decode b_L_triangles 16 = .ok (.iconst 2, 1) := by decide +kernel
theorem d_L_triangles_17 : decode b_L_triangles 17 = .ok (.ireturn, 1) := by decide +kernel
theorem d_L_triangles_18 : decode b_L_triangles 18 = .ok (.iconst 0, 1) := by decide +kernel
theorem d_L_triangles_19 : decode b_L_triangles 19 = .ok (.ireturn, 1) := by decide +kernel
theorem d_L_components_0 : decode b_L_components 0 = .ok (.aload_n 3, 1) := by decide +kernel
theorem d_L_components_1 : decode b_L_components 1 = .ok (.iconst 0, 1) := by decide +kernel
theorem d_L_components_2 : decode b_L_components 2 = .ok (.aload_n 0, 1) := by decide +kernel
theorem d_L_components_3 : decode b_L_components 3 = .ok (.iload_n 1, 1) := by decide +kernel
theorem d_L_components_4 : decode b_L_components 4 = .ok (.iload_n 2, 1) := by decide +kernel
theorem d_L_components_5 : decode b_L_components 5 = .ok (.invokevirtual 70, 3) := by decide +kernel
theorem d_L_components_8 : decode b_L_components 8 = .ok (.i2l, 1) := by decide +kernel
theorem d_L_components_9 : decode b_L_components 9 = .ok (.lastore, 1) := by decide +kernel
theorem d_L_components_10 : decode b_L_components 10 = .ok (.goto 11, 3) := by decide +kernel
theorem d_L_components_13 : decode b_L_components 13 = .ok (.astore 4, 2) := by decide +kernel
theorem d_L_components_15 : decode b_L_components 15 = .ok (.iconst 1, 1) := by decide +kernel
theorem d_L_components_16 : decode b_L_components 16 = .ok (.ireturn, 1) := by decide +kernel
theorem d_L_components_17 : decode b_L_components 17 = .ok (.astore 4, 2) := by decide +kernel
theorem d_L_components_19 : decode b_L_components 19 = .ok (.iconst 2, 1) := by decide +kernel
theorem d_L_components_20 : decode b_L_components 20 = .ok (.ireturn, 1) := by decide +kernel
theorem d_L_components_21 : decode b_L_components 21 = .ok (.iconst 0, 1) := by decide +kernel
theorem d_L_components_22 : decode b_L_components 22 = .ok (.ireturn, 1) := by decide +kernel
theorem d_L_law_0 : decode code 0 = .ok (.new 8, 3) := by decide +kernel
theorem d_L_law_3 : decode code 3 = .ok (.dup, 1) := by decide +kernel
theorem d_L_law_4 : decode code 4 = .ok (.invokespecial 73, 3) := by decide +kernel
theorem d_L_law_7 : decode code 7 = .ok (.astore_n 1, 1) := by decide +kernel
theorem d_L_law_8 : decode code 8 = .ok (.new 74, 3) := by decide +kernel
theorem d_L_law_11 : decode code 11 = .ok (.dup, 1) := by decide +kernel
theorem d_L_law_12 : decode code 12 = .ok (.invokespecial 76, 3) := by decide +kernel
theorem d_L_law_15 : decode code 15 = .ok (.astore_n 2, 1) := by decide +kernel
theorem d_L_law_16 : decode code 16 = .ok (.iconst 1, 1) := by decide +kernel
theorem d_L_law_17 : decode code 17 = .ok (.newarray .long, 2) := by decide +kernel
theorem d_L_law_19 : decode code 19 = .ok (.astore_n 3, 1) := by decide +kernel
theorem d_L_law_20 : decode code 20 = .ok (.iconst 0, 1) := by decide +kernel
theorem d_L_law_21 : decode code 21 = .ok (.istore 4, 2) := by decide +kernel
theorem d_L_law_23 : decode code 23 = .ok (.iload 4, 2) := by decide +kernel
theorem d_L_law_25 : decode code 25 = .ok (.aload_n 0, 1) := by decide +kernel
theorem d_L_law_26 : decode code 26 = .ok (.arraylength, 1) := by decide +kernel
theorem d_L_law_27 : decode code 27 = .ok (.bipush 7, 2) := by decide +kernel
theorem d_L_law_29 : decode code 29 = .ok (.isub, 1) := by decide +kernel
theorem d_L_law_30 : decode code 30 = .ok (.if_icmp .gt 1311, 3) := by decide +kernel
theorem d_L_law_33 : decode code 33 = .ok (.aload_n 0, 1) := by decide +kernel
theorem d_L_law_34 : decode code 34 = .ok (.iload 4, 2) := by decide +kernel
theorem d_L_law_36 : decode code 36 = .ok (.iaload, 1) := by decide +kernel
theorem d_L_law_37 : decode code 37 = .ok (.bipush 15, 2) := by decide +kernel
theorem d_L_law_39 : decode code 39 = .ok (.iand, 1) := by decide +kernel
theorem d_L_law_40 : decode code 40 = .ok (.tableswitch 1295 0 14 #[76, 136, 240, 327, 406, 462, 580, 672, 764, 832, 956, 1023, 1103, 1171, 1227], 76) := by decide +kernel
theorem d_L_law_116 : decode code 116 = .ok (.aload_n 1, 1) := by decide +kernel
theorem d_L_law_117 : decode code 117 = .ok (.aload_n 0, 1) := by decide +kernel
theorem d_L_law_118 : decode code 118 = .ok (.iload 4, 2) := by decide +kernel
theorem d_L_law_120 : decode code 120 = .ok (.iconst 1, 1) := by decide +kernel
theorem d_L_law_121 : decode code 121 = .ok (.iadd, 1) := by decide +kernel
theorem d_L_law_122 : decode code 122 = .ok (.iaload, 1) := by decide +kernel
theorem d_L_law_123 : decode code 123 = .ok (.aload_n 0, 1) := by decide +kernel
theorem d_L_law_124 : decode code 124 = .ok (.iload 4, 2) := by decide +kernel
theorem d_L_law_126 : decode code 126 = .ok (.iconst 2, 1) := by decide +kernel
theorem d_L_law_127 : decode code 127 = .ok (.iadd, 1) := by decide +kernel
theorem d_L_law_128 : decode code 128 = .ok (.iaload, 1) := by decide +kernel
theorem d_L_law_129 : decode code 129 = .ok (.aload_n 0, 1) := by decide +kernel
theorem d_L_law_130 : decode code 130 = .ok (.iload 4, 2) := by decide +kernel
theorem d_L_law_132 : decode code 132 = .ok (.iconst 3, 1) := by decide +kernel
theorem d_L_law_133 : decode code 133 = .ok (.iadd, 1) := by decide +kernel
theorem d_L_law_134 : decode code 134 = .ok (.iaload, 1) := by decide +kernel
theorem d_L_law_135 : decode code 135 = .ok (.invokestatic 77, 3) := by decide +kernel
theorem d_L_law_138 : decode code 138 = .ok (.istore 5, 2) := by decide +kernel
theorem d_L_law_140 : decode code 140 = .ok (.aload_n 2, 1) := by decide +kernel
theorem d_L_law_141 : decode code 141 = .ok (.aload_n 0, 1) := by decide +kernel
theorem d_L_law_142 : decode code 142 = .ok (.iload 4, 2) := by decide +kernel
theorem d_L_law_144 : decode code 144 = .ok (.iconst 1, 1) := by decide +kernel
theorem d_L_law_145 : decode code 145 = .ok (.iadd, 1) := by decide +kernel
theorem d_L_law_146 : decode code 146 = .ok (.iaload, 1) := by decide +kernel
theorem d_L_law_147 : decode code 147 = .ok (.aload_n 0, 1) := by decide +kernel
theorem d_L_law_148 : decode code 148 = .ok (.iload 4, 2) := by decide +kernel
theorem d_L_law_150 : decode code 150 = .ok (.iconst 2, 1) := by decide +kernel
theorem d_L_law_151 : decode code 151 = .ok (.iadd, 1) := by decide +kernel
theorem d_L_law_152 : decode code 152 = .ok (.iaload, 1) := by decide +kernel
theorem d_L_law_153 : decode code 153 = .ok (.aload_n 0, 1) := by decide +kernel
theorem d_L_law_154 : decode code 154 = .ok (.iload 4, 2) := by decide +kernel
theorem d_L_law_156 : decode code 156 = .ok (.iconst 3, 1) := by decide +kernel
theorem d_L_law_157 : decode code 157 = .ok (.iadd, 1) := by decide +kernel
theorem d_L_law_158 : decode code 158 = .ok (.iaload, 1) := by decide +kernel
theorem d_L_law_159 : decode code 159 = .ok (.invokevirtual 82, 3) := by decide +kernel
theorem d_L_law_162 : decode code 162 = .ok (.aload_n 2, 1) := by decide +kernel
theorem d_L_law_163 : decode code 163 = .ok (.invokevirtual 83, 3) := by decide +kernel
theorem d_L_law_166 : decode code 166 = .ok (.iload 5, 2) := by decide +kernel
theorem d_L_law_168 : decode code 168 = .ok (.if_icmp .eq 5, 3) := by decide +kernel
theorem d_L_law_171 : decode code 171 = .ok (.iconst 0, 1) := by decide +kernel
theorem d_L_law_172 : decode code 172 = .ok (.ireturn, 1) := by decide +kernel
theorem d_L_law_173 : decode code 173 = .ok (.goto 1162, 3) := by decide +kernel
theorem d_L_law_176 : decode code 176 = .ok (.aload_n 1, 1) := by decide +kernel
theorem d_L_law_177 : decode code 177 = .ok (.aload_n 0, 1) := by decide +kernel
theorem d_L_law_178 : decode code 178 = .ok (.iload 4, 2) := by decide +kernel
theorem d_L_law_180 : decode code 180 = .ok (.iconst 1, 1) := by decide +kernel
theorem d_L_law_181 : decode code 181 = .ok (.iadd, 1) := by decide +kernel
theorem d_L_law_182 : decode code 182 = .ok (.iaload, 1) := by decide +kernel
theorem d_L_law_183 : decode code 183 = .ok (.aload_n 0, 1) := by decide +kernel
theorem d_L_law_184 : decode code 184 = .ok (.iload 4, 2) := by decide +kernel
theorem d_L_law_186 : decode code 186 = .ok (.iconst 2, 1) := by decide +kernel
theorem d_L_law_187 : decode code 187 = .ok (.iadd, 1) := by decide +kernel
theorem d_L_law_188 : decode code 188 = .ok (.iaload, 1) := by decide +kernel
theorem d_L_law_189 : decode code 189 = .ok (.aload_n 0, 1) := by decide +kernel
theorem d_L_law_190 : decode code 190 = .ok (.iload 4, 2) := by decide +kernel
theorem d_L_law_192 : decode code 192 = .ok (.iconst 3, 1) := by decide +kernel
theorem d_L_law_193 : decode code 193 = .ok (.iadd, 1) := by decide +kernel
theorem d_L_law_194 : decode code 194 = .ok (.iaload, 1) := by decide +kernel
theorem d_L_law_195 : decode code 195 = .ok (.aload_n 0, 1) := by decide +kernel
theorem d_L_law_196 : decode code 196 = .ok (.iload 4, 2) := by decide +kernel
theorem d_L_law_198 : decode code 198 = .ok (.iconst 4, 1) := by decide +kernel
theorem d_L_law_199 : decode code 199 = .ok (.iadd, 1) := by decide +kernel
theorem d_L_law_200 : decode code 200 = .ok (.iaload, 1) := by decide +kernel
theorem d_L_law_201 : decode code 201 = .ok (.i2l, 1) := by decide +kernel
theorem d_L_law_202 : decode code 202 = .ok (.bipush 32, 2) := by decide +kernel
theorem d_L_law_204 : decode code 204 = .ok (.lshl, 1) := by decide +kernel
theorem d_L_law_205 : decode code 205 = .ok (.aload_n 0, 1) := by decide +kernel
theorem d_L_law_206 : decode code 206 = .ok (.iload 4, 2) := by decide +kernel
theorem d_L_law_208 : decode code 208 = .ok (.iconst 5, 1) := by decide +kernel
theorem d_L_law_209 : decode code 209 = .ok (.iadd, 1) := by decide +kernel
theorem d_L_law_210 : decode code 210 = .ok (.iaload, 1) := by decide +kernel
theorem d_L_law_211 : decode code 211 = .ok (.i2l, 1) := by decide +kernel
theorem d_L_law_212 : decode code 212 = .ok (.ldc2_w 87, 3) := by decide +kernel
theorem d_L_law_215 : decode code 215 = .ok (.land, 1) := by decide +kernel
theorem d_L_law_216 : decode code 216 = .ok (.lor, 1) := by decide +kernel
theorem d_L_law_217 : decode code 217 = .ok (.invokestatic 89, 3) := by decide +kernel
theorem d_L_law_220 : decode code 220 = .ok (.istore 5, 2) := by decide +kernel
theorem d_L_law_222 : decode code 222 = .ok (.aload_n 2, 1) := by decide +kernel
theorem d_L_law_223 : decode code 223 = .ok (.aload_n 0, 1) := by decide +kernel
theorem d_L_law_224 : decode code 224 = .ok (.iload 4, 2) := by decide +kernel
theorem d_L_law_226 : decode code 226 = .ok (.iconst 1, 1) := by decide +kernel
theorem d_L_law_227 : decode code 227 = .ok (.iadd, 1) := by decide +kernel
theorem d_L_law_228 : decode code 228 = .ok (.iaload, 1) := by decide +kernel
theorem d_L_law_229 : decode code 229 = .ok (.aload_n 0, 1) := by decide +kernel
theorem d_L_law_230 : decode code 230 = .ok (.iload 4, 2) := by decide +kernel
theorem d_L_law_232 : decode code 232 = .ok (.iconst 2, 1) := by decide +kernel
theorem d_L_law_233 : decode code 233 = .ok (.iadd, 1) := by decide +kernel
theorem d_L_law_234 : decode code 234 = .ok (.iaload, 1) := by decide +kernel
theorem d_L_law_235 : decode code 235 = .ok (.aload_n 0, 1) := by decide +kernel
theorem d_L_law_236 : decode code 236 = .ok (.iload 4, 2) := by decide +kernel
theorem d_L_law_238 : decode code 238 = .ok (.iconst 3, 1) := by decide +kernel
theorem d_L_law_239 : decode code 239 = .ok (.iadd, 1) := by decide +kernel
theorem d_L_law_240 : decode code 240 = .ok (.iaload, 1) := by decide +kernel
theorem d_L_law_241 : decode code 241 = .ok (.aload_n 0, 1) := by decide +kernel
theorem d_L_law_242 : decode code 242 = .ok (.iload 4, 2) := by decide +kernel
theorem d_L_law_244 : decode code 244 = .ok (.iconst 4, 1) := by decide +kernel
theorem d_L_law_245 : decode code 245 = .ok (.iadd, 1) := by decide +kernel
theorem d_L_law_246 : decode code 246 = .ok (.iaload, 1) := by decide +kernel
theorem d_L_law_247 : decode code 247 = .ok (.i2l, 1) := by decide +kernel
theorem d_L_law_248 : decode code 248 = .ok (.bipush 32, 2) := by decide +kernel
theorem d_L_law_250 : decode code 250 = .ok (.lshl, 1) := by decide +kernel
theorem d_L_law_251 : decode code 251 = .ok (.aload_n 0, 1) := by decide +kernel
theorem d_L_law_252 : decode code 252 = .ok (.iload 4, 2) := by decide +kernel
theorem d_L_law_254 : decode code 254 = .ok (.iconst 5, 1) := by decide +kernel
theorem d_L_law_255 : decode code 255 = .ok (.iadd, 1) := by decide +kernel
theorem d_L_law_256 : decode code 256 = .ok (.iaload, 1) := by decide +kernel
theorem d_L_law_257 : decode code 257 = .ok (.i2l, 1) := by decide +kernel
theorem d_L_law_258 : decode code 258 = .ok (.ldc2_w 87, 3) := by decide +kernel
theorem d_L_law_261 : decode code 261 = .ok (.land, 1) := by decide +kernel
theorem d_L_law_262 : decode code 262 = .ok (.lor, 1) := by decide +kernel
theorem d_L_law_263 : decode code 263 = .ok (.invokevirtual 92, 3) := by decide +kernel
theorem d_L_law_266 : decode code 266 = .ok (.aload_n 2, 1) := by decide +kernel
theorem d_L_law_267 : decode code 267 = .ok (.invokevirtual 83, 3) := by decide +kernel
theorem d_L_law_270 : decode code 270 = .ok (.iload 5, 2) := by decide +kernel
theorem d_L_law_272 : decode code 272 = .ok (.if_icmp .eq 5, 3) := by decide +kernel
theorem d_L_law_275 : decode code 275 = .ok (.iconst 0, 1) := by decide +kernel
theorem d_L_law_276 : decode code 276 = .ok (.ireturn, 1) := by decide +kernel
theorem d_L_law_277 : decode code 277 = .ok (.goto 1058, 3) := by decide +kernel
theorem d_L_law_280 : decode code 280 = .ok (.aload_n 1, 1) := by decide +kernel
theorem d_L_law_281 : decode code 281 = .ok (.aload_n 0, 1) := by decide +kernel
theorem d_L_law_282 : decode code 282 = .ok (.iload 4, 2) := by decide +kernel
theorem d_L_law_284 : decode code 284 = .ok (.iconst 1, 1) := by decide +kernel
theorem d_L_law_285 : decode code 285 = .ok (.iadd, 1) := by decide +kernel
theorem d_L_law_286 : decode code 286 = .ok (.iaload, 1) := by decide +kernel
theorem d_L_law_287 : decode code 287 = .ok (.aload_n 0, 1) := by decide +kernel
theorem d_L_law_288 : decode code 288 = .ok (.iload 4, 2) := by decide +kernel
theorem d_L_law_290 : decode code 290 = .ok (.iconst 2, 1) := by decide +kernel
theorem d_L_law_291 : decode code 291 = .ok (.iadd, 1) := by decide +kernel
theorem d_L_law_292 : decode code 292 = .ok (.iaload, 1) := by decide +kernel
theorem d_L_law_293 : decode code 293 = .ok (.aload_n 0, 1) := by decide +kernel
theorem d_L_law_294 : decode code 294 = .ok (.iload 4, 2) := by decide +kernel
theorem d_L_law_296 : decode code 296 = .ok (.iconst 3, 1) := by decide +kernel
theorem d_L_law_297 : decode code 297 = .ok (.iadd, 1) := by decide +kernel
theorem d_L_law_298 : decode code 298 = .ok (.iaload, 1) := by decide +kernel
theorem d_L_law_299 : decode code 299 = .ok (.aload_n 3, 1) := by decide +kernel
theorem d_L_law_300 : decode code 300 = .ok (.invokestatic 93, 3) := by decide +kernel
theorem d_L_law_303 : decode code 303 = .ok (.istore 5, 2) := by decide +kernel
theorem d_L_law_305 : decode code 305 = .ok (.aload_n 2, 1) := by decide +kernel
theorem d_L_law_306 : decode code 306 = .ok (.aload_n 0, 1) := by decide +kernel
theorem d_L_law_307 : decode code 307 = .ok (.iload 4, 2) := by decide +kernel
theorem d_L_law_309 : decode code 309 = .ok (.iconst 1, 1) := by decide +kernel
theorem d_L_law_310 : decode code 310 = .ok (.iadd, 1) := by decide +kernel
theorem d_L_law_311 : decode code 311 = .ok (.iaload, 1) := by decide +kernel
theorem d_L_law_312 : decode code 312 = .ok (.aload_n 0, 1) := by decide +kernel
theorem d_L_law_313 : decode code 313 = .ok (.iload 4, 2) := by decide +kernel
theorem d_L_law_315 : decode code 315 = .ok (.iconst 2, 1) := by decide +kernel
theorem d_L_law_316 : decode code 316 = .ok (.iadd, 1) := by decide +kernel
theorem d_L_law_317 : decode code 317 = .ok (.iaload, 1) := by decide +kernel
theorem d_L_law_318 : decode code 318 = .ok (.aload_n 0, 1) := by decide +kernel
theorem d_L_law_319 : decode code 319 = .ok (.iload 4, 2) := by decide +kernel
theorem d_L_law_321 : decode code 321 = .ok (.iconst 3, 1) := by decide +kernel
theorem d_L_law_322 : decode code 322 = .ok (.iadd, 1) := by decide +kernel
theorem d_L_law_323 : decode code 323 = .ok (.iaload, 1) := by decide +kernel
theorem d_L_law_324 : decode code 324 = .ok (.invokevirtual 96, 3) := by decide +kernel
theorem d_L_law_327 : decode code 327 = .ok (.istore 6, 2) := by decide +kernel
theorem d_L_law_329 : decode code 329 = .ok (.aload_n 2, 1) := by decide +kernel
theorem d_L_law_330 : decode code 330 = .ok (.invokevirtual 83, 3) := by decide +kernel
theorem d_L_law_333 : decode code 333 = .ok (.iload 5, 2) := by decide +kernel
theorem d_L_law_335 : decode code 335 = .ok (.if_icmp .eq 5, 3) := by decide +kernel
theorem d_L_law_338 : decode code 338 = .ok (.iconst 0, 1) := by decide +kernel
theorem d_L_law_339 : decode code 339 = .ok (.ireturn, 1) := by decide +kernel
theorem d_L_law_340 : decode code 340 = .ok (.iload 5, 2) := by decide +kernel
theorem d_L_law_342 : decode code 342 = .ok (.ifCond .ne 22, 3) := by decide +kernel
theorem d_L_law_345 : decode code 345 = .ok (.aload_n 3, 1) := by decide +kernel
theorem d_L_law_346 : decode code 346 = .ok (.iconst 0, 1) := by decide +kernel
theorem d_L_law_347 : decode code 347 = .ok (.laload, 1) := by decide +kernel
theorem d_L_law_348 : decode code 348 = .ok (.iload 6, 2) := by decide +kernel
theorem d_L_law_350 : decode code 350 = .ok (.ifCond .eq 7, 3) := by decide +kernel
theorem d_L_law_353 : decode code 353 = .ok (.lconst 1, 1) := by decide +kernel
theorem d_L_law_354 : decode code 354 = .ok (.goto 4, 3) := by decide +kernel
theorem d_L_law_357 : decode code 357 = .ok (.lconst 0, 1) := by decide +kernel
theorem d_L_law_358 : decode code 358 = .ok (.lcmp, 1) := by decide +kernel
theorem d_L_law_359 : decode code 359 = .ok (.ifCond .eq 5, 3) := by decide +kernel
theorem d_L_law_362 : decode code 362 = .ok (.iconst 0, 1) := by decide +kernel
theorem d_L_law_363 : decode code 363 = .ok (.ireturn, 1) := by decide +kernel
theorem d_L_law_364 : decode code 364 = .ok (.goto 971, 3) := by decide +kernel
theorem d_L_law_367 : decode code 367 = .ok (.aload_n 1, 1) := by decide +kernel
theorem d_L_law_368 : decode code 368 = .ok (.aload_n 0, 1) := by decide +kernel
theorem d_L_law_369 : decode code 369 = .ok (.iload 4, 2) := by decide +kernel
theorem d_L_law_371 : decode code 371 = .ok (.iconst 1, 1) := by decide +kernel
theorem d_L_law_372 : decode code 372 = .ok (.iadd, 1) := by decide +kernel
theorem d_L_law_373 : decode code 373 = .ok (.iaload, 1) := by decide +kernel
theorem d_L_law_374 : decode code 374 = .ok (.aload_n 0, 1) := by decide +kernel
theorem d_L_law_375 : decode code 375 = .ok (.iload 4, 2) := by decide +kernel
theorem d_L_law_377 : decode code 377 = .ok (.iconst 2, 1) := by decide +kernel
theorem d_L_law_378 : decode code 378 = .ok (.iadd, 1) := by decide +kernel
theorem d_L_law_379 : decode code 379 = .ok (.iaload, 1) := by decide +kernel
theorem d_L_law_380 : decode code 380 = .ok (.aload_n 0, 1) := by decide +kernel
theorem d_L_law_381 : decode code 381 = .ok (.iload 4, 2) := by decide +kernel
theorem d_L_law_383 : decode code 383 = .ok (.iconst 3, 1) := by decide +kernel
theorem d_L_law_384 : decode code 384 = .ok (.iadd, 1) := by decide +kernel
theorem d_L_law_385 : decode code 385 = .ok (.iaload, 1) := by decide +kernel
theorem d_L_law_386 : decode code 386 = .ok (.aload_n 3, 1) := by decide +kernel
theorem d_L_law_387 : decode code 387 = .ok (.invokestatic 97, 3) := by decide +kernel
theorem d_L_law_390 : decode code 390 = .ok (.istore 5, 2) := by decide +kernel
theorem d_L_law_392 : decode code 392 = .ok (.aload_n 2, 1) := by decide +kernel
theorem d_L_law_393 : decode code 393 = .ok (.aload_n 0, 1) := by decide +kernel
theorem d_L_law_394 : decode code 394 = .ok (.iload 4, 2) := by decide +kernel
theorem d_L_law_396 : decode code 396 = .ok (.iconst 1, 1) := by decide +kernel
theorem d_L_law_397 : decode code 397 = .ok (.iadd, 1) := by decide +kernel
theorem d_L_law_398 : decode code 398 = .ok (.iaload, 1) := by decide +kernel
theorem d_L_law_399 : decode code 399 = .ok (.aload_n 0, 1) := by decide +kernel
theorem d_L_law_400 : decode code 400 = .ok (.iload 4, 2) := by decide +kernel
theorem d_L_law_402 : decode code 402 = .ok (.iconst 2, 1) := by decide +kernel
theorem d_L_law_403 : decode code 403 = .ok (.iadd, 1) := by decide +kernel
theorem d_L_law_404 : decode code 404 = .ok (.iaload, 1) := by decide +kernel
theorem d_L_law_405 : decode code 405 = .ok (.aload_n 0, 1) := by decide +kernel
theorem d_L_law_406 : decode code 406 = .ok (.iload 4, 2) := by decide +kernel
theorem d_L_law_408 : decode code 408 = .ok (.iconst 3, 1) := by decide +kernel
theorem d_L_law_409 : decode code 409 = .ok (.iadd, 1) := by decide +kernel
theorem d_L_law_410 : decode code 410 = .ok (.iaload, 1) := by decide +kernel
theorem d_L_law_411 : decode code 411 = .ok (.invokevirtual 99, 3) := by decide +kernel
theorem d_L_law_414 : decode code 414 = .ok (.lstore 6, 2) := by decide +kernel
theorem d_L_law_416 : decode code 416 = .ok (.aload_n 2, 1) := by decide +kernel
theorem d_L_law_417 : decode code 417 = .ok (.invokevirtual 83, 3) := by decide +kernel
theorem d_L_law_420 : decode code 420 = .ok (.iload 5, 2) := by decide +kernel
theorem d_L_law_422 : decode code 422 = .ok (.if_icmp .eq 5, 3) := by decide +kernel
theorem d_L_law_425 : decode code 425 = .ok (.iconst 0, 1) := by decide +kernel
theorem d_L_law_426 : decode code 426 = .ok (.ireturn, 1) := by decide +kernel
theorem d_L_law_427 : decode code 427 = .ok (.iload 5, 2) := by decide +kernel
theorem d_L_law_429 : decode code 429 = .ok (.ifCond .ne 14, 3) := by decide +kernel
theorem d_L_law_432 : decode code 432 = .ok (.aload_n 3, 1) := by decide +kernel
theorem d_L_law_433 : decode code 433 = .ok (.iconst 0, 1) := by decide +kernel
theorem d_L_law_434 : decode code 434 = .ok (.laload, 1) := by decide +kernel
theorem d_L_law_435 : decode code 435 = .ok (.lload 6, 2) := by decide +kernel
theorem d_L_law_437 : decode code 437 = .ok (.lcmp, 1) := by decide +kernel
theorem d_L_law_438 : decode code 438 = .ok (.ifCond .eq 5, 3) := by decide +kernel
theorem d_L_law_441 : decode code 441 = .ok (.iconst 0, 1) := by decide +kernel
theorem d_L_law_442 : decode code 442 = .ok (.ireturn, 1) := by decide +kernel
theorem d_L_law_443 : decode code 443 = .ok (.goto 892, 3) := by decide +kernel
theorem d_L_law_446 : decode code 446 = .ok (.aload_n 1, 1) := by decide +kernel
theorem d_L_law_447 : decode code 447 = .ok (.aload_n 0, 1) := by decide +kernel
theorem d_L_law_448 : decode code 448 = .ok (.iload 4, 2) := by decide +kernel
theorem d_L_law_450 : decode code 450 = .ok (.iconst 1, 1) := by decide +kernel
theorem d_L_law_451 : decode code 451 = .ok (.iadd, 1) := by decide +kernel
theorem d_L_law_452 : decode code 452 = .ok (.iaload, 1) := by decide +kernel
theorem d_L_law_453 : decode code 453 = .ok (.aload_n 3, 1) := by decide +kernel
theorem d_L_law_454 : decode code 454 = .ok (.invokestatic 100, 3) := by decide +kernel
theorem d_L_law_457 : decode code 457 = .ok (.istore 5, 2) := by decide +kernel
theorem d_L_law_459 : decode code 459 = .ok (.aload_n 2, 1) := by decide +kernel
theorem d_L_law_460 : decode code 460 = .ok (.aload_n 0, 1) := by decide +kernel
theorem d_L_law_461 : decode code 461 = .ok (.iload 4, 2) := by decide +kernel
theorem d_L_law_463 : decode code 463 = .ok (.iconst 1, 1) := by decide +kernel
theorem d_L_law_464 : decode code 464 = .ok (.iadd, 1) := by decide +kernel
theorem d_L_law_465 : decode code 465 = .ok (.iaload, 1) := by decide +kernel
theorem d_L_law_466 : decode code 466 = .ok (.invokevirtual 103, 3) := by decide +kernel
theorem d_L_law_469 : decode code 469 = .ok (.istore 6, 2) := by decide +kernel
theorem d_L_law_471 : decode code 471 = .ok (.aload_n 2, 1) := by decide +kernel
theorem d_L_law_472 : decode code 472 = .ok (.invokevirtual 83, 3) := by decide +kernel
theorem d_L_law_475 : decode code 475 = .ok (.iload 5, 2) := by decide +kernel
theorem d_L_law_477 : decode code 477 = .ok (.if_icmp .eq 5, 3) := by decide +kernel
theorem d_L_law_480 : decode code 480 = .ok (.iconst 0, 1) := by decide +kernel
theorem d_L_law_481 : decode code 481 = .ok (.ireturn, 1) := by decide +kernel
theorem d_L_law_482 : decode code 482 = .ok (.iload 5, 2) := by decide +kernel
theorem d_L_law_484 : decode code 484 = .ok (.ifCond .ne 15, 3) := by decide +kernel
theorem d_L_law_487 : decode code 487 = .ok (.aload_n 3, 1) := by decide +kernel
theorem d_L_law_488 : decode code 488 = .ok (.iconst 0, 1) := by decide +kernel
theorem d_L_law_489 : decode code 489 = .ok (.laload, 1) := by decide +kernel
theorem d_L_law_490 : decode code 490 = .ok (.iload 6, 2) := by decide +kernel
theorem d_L_law_492 : decode code 492 = .ok (.i2l, 1) := by decide +kernel
theorem d_L_law_493 : decode code 493 = .ok (.lcmp, 1) := by decide +kernel
theorem d_L_law_494 : decode code 494 = .ok (.ifCond .eq 5, 3) := by decide +kernel
theorem d_L_law_497 : decode code 497 = .ok (.iconst 0, 1) := by decide +kernel
theorem d_L_law_498 : decode code 498 = .ok (.ireturn, 1) := by decide +kernel
theorem d_L_law_499 : decode code 499 = .ok (.goto 836, 3) := by decide +kernel
theorem d_L_law_502 : decode code 502 = .ok (.aload_n 1, 1) := by decide +kernel
theorem d_L_law_503 : decode code 503 = .ok (.aload_n 0, 1) := by decide +kernel
theorem d_L_law_504 : decode code 504 = .ok (.iload 4, 2) := by decide +kernel
theorem d_L_law_506 : decode code 506 = .ok (.iconst 1, 1) := by decide +kernel
theorem d_L_law_507 : decode code 507 = .ok (.iadd, 1) := by decide +kernel
theorem d_L_law_508 : decode code 508 = .ok (.iaload, 1) := by decide +kernel
theorem d_L_law_509 : decode code 509 = .ok (.aload_n 0, 1) := by decide +kernel
theorem d_L_law_510 : decode code 510 = .ok (.iload 4, 2) := by decide +kernel
theorem d_L_law_512 : decode code 512 = .ok (.iconst 2, 1) := by decide +kernel
theorem d_L_law_513 : decode code 513 = .ok (.iadd, 1) := by decide +kernel
theorem d_L_law_514 : decode code 514 = .ok (.iaload, 1) := by decide +kernel
theorem d_L_law_515 : decode code 515 = .ok (.aload_n 0, 1) := by decide +kernel
theorem d_L_law_516 : decode code 516 = .ok (.iload 4, 2) := by decide +kernel
theorem d_L_law_518 : decode code 518 = .ok (.iconst 3, 1) := by decide +kernel
theorem d_L_law_519 : decode code 519 = .ok (.iadd, 1) := by decide +kernel
theorem d_L_law_520 : decode code 520 = .ok (.iaload, 1) := by decide +kernel
theorem d_L_law_521 : decode code 521 = .ok (.aload_n 0, 1) := by decide +kernel
theorem d_L_law_522 : decode code 522 = .ok (.iload 4, 2) := by decide +kernel
theorem d_L_law_524 : decode code 524 = .ok (.iconst 4, 1) := by decide +kernel
theorem d_L_law_525 : decode code 525 = .ok (.iadd, 1) := by decide +kernel
theorem d_L_law_526 : decode code 526 = .ok (.iaload, 1) := by decide +kernel
theorem d_L_law_527 : decode code 527 = .ok (.aload_n 0, 1) := by decide +kernel
theorem d_L_law_528 : decode code 528 = .ok (.iload 4, 2) := by decide +kernel
theorem d_L_law_530 : decode code 530 = .ok (.iconst 5, 1) := by decide +kernel
theorem d_L_law_531 : decode code 531 = .ok (.iadd, 1) := by decide +kernel
theorem d_L_law_532 : decode code 532 = .ok (.iaload, 1) := by decide +kernel
theorem d_L_law_533 : decode code 533 = .ok (.aload_n 0, 1) := by decide +kernel
theorem d_L_law_534 : decode code 534 = .ok (.iload 4, 2) := by decide +kernel
theorem d_L_law_536 : decode code 536 = .ok (.bipush 6, 2) := by decide +kernel
theorem d_L_law_538 : decode code 538 = .ok (.iadd, 1) := by decide +kernel
theorem d_L_law_539 : decode code 539 = .ok (.iaload, 1) := by decide +kernel
theorem d_L_law_540 : decode code 540 = .ok (.aload_n 3, 1) := by decide +kernel
theorem d_L_law_541 : decode code 541 = .ok (.invokestatic 104, 3) := by decide +kernel
theorem d_L_law_544 : decode code 544 = .ok (.istore 5, 2) := by decide +kernel
theorem d_L_law_546 : decode code 546 = .ok (.aload_n 2, 1) := by decide +kernel
theorem d_L_law_547 : decode code 547 = .ok (.aload_n 0, 1) := by decide +kernel
theorem d_L_law_548 : decode code 548 = .ok (.iload 4, 2) := by decide +kernel
theorem d_L_law_550 : decode code 550 = .ok (.iconst 1, 1) := by decide +kernel
theorem d_L_law_551 : decode code 551 = .ok (.iadd, 1) := by decide +kernel
theorem d_L_law_552 : decode code 552 = .ok (.iaload, 1) := by decide +kernel
theorem d_L_law_553 : decode code 553 = .ok (.aload_n 0, 1) := by decide +kernel
theorem d_L_law_554 : decode code 554 = .ok (.iload 4, 2) := by decide +kernel
theorem d_L_law_556 : decode code 556 = .ok (.iconst 2, 1) := by decide +kernel
theorem d_L_law_557 : decode code 557 = .ok (.iadd, 1) := by decide +kernel
theorem d_L_law_558 : decode code 558 = .ok (.iaload, 1) := by decide +kernel
theorem d_L_law_559 : decode code 559 = .ok (.aload_n 0, 1) := by decide +kernel
theorem d_L_law_560 : decode code 560 = .ok (.iload 4, 2) := by decide +kernel
theorem d_L_law_562 : decode code 562 = .ok (.iconst 3, 1) := by decide +kernel
theorem d_L_law_563 : decode code 563 = .ok (.iadd, 1) := by decide +kernel
theorem d_L_law_564 : decode code 564 = .ok (.iaload, 1) := by decide +kernel
theorem d_L_law_565 : decode code 565 = .ok (.aload_n 0, 1) := by decide +kernel
theorem d_L_law_566 : decode code 566 = .ok (.iload 4, 2) := by decide +kernel
theorem d_L_law_568 : decode code 568 = .ok (.iconst 4, 1) := by decide +kernel
theorem d_L_law_569 : decode code 569 = .ok (.iadd, 1) := by decide +kernel
theorem d_L_law_570 : decode code 570 = .ok (.iaload, 1) := by decide +kernel
theorem d_L_law_571 : decode code 571 = .ok (.aload_n 0, 1) := by decide +kernel
theorem d_L_law_572 : decode code 572 = .ok (.iload 4, 2) := by decide +kernel
theorem d_L_law_574 : decode code 574 = .ok (.iconst 5, 1) := by decide +kernel
theorem d_L_law_575 : decode code 575 = .ok (.iadd, 1) := by decide +kernel
theorem d_L_law_576 : decode code 576 = .ok (.iaload, 1) := by decide +kernel
theorem d_L_law_577 : decode code 577 = .ok (.aload_n 0, 1) := by decide +kernel
theorem d_L_law_578 : decode code 578 = .ok (.iload 4, 2) := by decide +kernel
theorem d_L_law_580 : decode code 580 = .ok (.bipush 6, 2) := by decide +kernel
theorem d_L_law_582 : decode code 582 = .ok (.iadd, 1) := by decide +kernel
theorem d_L_law_583 : decode code 583 = .ok (.iaload, 1) := by decide +kernel
theorem d_L_law_584 : decode code 584 = .ok (.invokevirtual 107, 3) := by decide +kernel
theorem d_L_law_587 : decode code 587 = .ok (.istore 6, 2) := by decide +kernel
theorem d_L_law_589 : decode code 589 = .ok (.aload_n 2, 1) := by decide +kernel
theorem d_L_law_590 : decode code 590 = .ok (.invokevirtual 83, 3) := by decide +kernel
theorem d_L_law_593 : decode code 593 = .ok (.iload 5, 2) := by decide +kernel
theorem d_L_law_595 : decode code 595 = .ok (.if_icmp .eq 5, 3) := by decide +kernel
theorem d_L_law_598 : decode code 598 = .ok (.iconst 0, 1) := by decide +kernel
theorem d_L_law_599 : decode code 599 = .ok (.ireturn, 1) := by decide +kernel
theorem d_L_law_600 : decode code 600 = .ok (.iload 5, 2) := by decide +kernel
theorem d_L_law_602 : decode code 602 = .ok (.ifCond .ne 15, 3) := by decide +kernel
theorem d_L_law_605 : decode code 605 = .ok (.aload_n 3, 1) := by decide +kernel
theorem d_L_law_606 : decode code 606 = .ok (.iconst 0, 1) := by decide +kernel
theorem d_L_law_607 : decode code 607 = .ok (.laload, 1) := by decide +kernel
theorem d_L_law_608 : decode code 608 = .ok (.iload 6, 2) := by decide +kernel
theorem d_L_law_610 : decode code 610 = .ok (.i2l, 1) := by decide +kernel
theorem d_L_law_611 : decode code 611 = .ok (.lcmp, 1) := by decide +kernel
theorem d_L_law_612 : decode code 612 = .ok (.ifCond .eq 5, 3) := by decide +kernel
theorem d_L_law_615 : decode code 615 = .ok (.iconst 0, 1) := by decide +kernel
theorem d_L_law_616 : decode code 616 = .ok (.ireturn, 1) := by decide +kernel
theorem d_L_law_617 : decode code 617 = .ok (.goto 718, 3) := by decide +kernel
theorem d_L_law_620 : decode code 620 = .ok (.aload_n 1, 1) := by decide +kernel
theorem d_L_law_621 : decode code 621 = .ok (.aload_n 0, 1) := by decide +kernel
theorem d_L_law_622 : decode code 622 = .ok (.iload 4, 2) := by decide +kernel
theorem d_L_law_624 : decode code 624 = .ok (.iconst 1, 1) := by decide +kernel
theorem d_L_law_625 : decode code 625 = .ok (.iadd, 1) := by decide +kernel
theorem d_L_law_626 : decode code 626 = .ok (.iaload, 1) := by decide +kernel
theorem d_L_law_627 : decode code 627 = .ok (.aload_n 0, 1) := by decide +kernel
theorem d_L_law_628 : decode code 628 = .ok (.iload 4, 2) := by decide +kernel
theorem d_L_law_630 : decode code 630 = .ok (.iconst 2, 1) := by decide +kernel
theorem d_L_law_631 : decode code 631 = .ok (.iadd, 1) := by decide +kernel
theorem d_L_law_632 : decode code 632 = .ok (.iaload, 1) := by decide +kernel
theorem d_L_law_633 : decode code 633 = .ok (.aload_n 0, 1) := by decide +kernel
theorem d_L_law_634 : decode code 634 = .ok (.iload 4, 2) := by decide +kernel
theorem d_L_law_636 : decode code 636 = .ok (.iconst 3, 1) := by decide +kernel
theorem d_L_law_637 : decode code 637 = .ok (.iadd, 1) := by decide +kernel
theorem d_L_law_638 : decode code 638 = .ok (.iaload, 1) := by decide +kernel
theorem d_L_law_639 : decode code 639 = .ok (.aload_n 0, 1) := by decide +kernel
theorem d_L_law_640 : decode code 640 = .ok (.iload 4, 2) := by decide +kernel
theorem d_L_law_642 : decode code 642 = .ok (.iconst 4, 1) := by decide +kernel
theorem d_L_law_643 : decode code 643 = .ok (.iadd, 1) := by decide +kernel
theorem d_L_law_644 : decode code 644 = .ok (.iaload, 1) := by decide +kernel
theorem d_L_law_645 : decode code 645 = .ok (.aload_n 3, 1) := by decide +kernel
theorem d_L_law_646 : decode code 646 = .ok (.invokestatic 108, 3) := by decide +kernel
theorem d_L_law_649 : decode code 649 = .ok (.istore 5, 2) := by decide +kernel
theorem d_L_law_651 : decode code 651 = .ok (.aload_n 2, 1) := by decide +kernel
theorem d_L_law_652 : decode code 652 = .ok (.aload_n 0, 1) := by decide +kernel
theorem d_L_law_653 : decode code 653 = .ok (.iload 4, 2) := by decide +kernel
theorem d_L_law_655 : decode code 655 = .ok (.iconst 1, 1) := by decide +kernel
theorem d_L_law_656 : decode code 656 = .ok (.iadd, 1) := by decide +kernel
theorem d_L_law_657 : decode code 657 = .ok (.iaload, 1) := by decide +kernel
theorem d_L_law_658 : decode code 658 = .ok (.aload_n 0, 1) := by decide +kernel
theorem d_L_law_659 : decode code 659 = .ok (.iload 4, 2) := by decide +kernel
theorem d_L_law_661 : decode code 661 = .ok (.iconst 2, 1) := by decide +kernel
theorem d_L_law_662 : decode code 662 = .ok (.iadd, 1) := by decide +kernel
theorem d_L_law_663 : decode code 663 = .ok (.iaload, 1) := by decide +kernel
theorem d_L_law_664 : decode code 664 = .ok (.aload_n 0, 1) := by decide +kernel
theorem d_L_law_665 : decode code 665 = .ok (.iload 4, 2) := by decide +kernel
theorem d_L_law_667 : decode code 667 = .ok (.iconst 3, 1) := by decide +kernel
theorem d_L_law_668 : decode code 668 = .ok (.iadd, 1) := by decide +kernel
theorem d_L_law_669 : decode code 669 = .ok (.iaload, 1) := by decide +kernel
theorem d_L_law_670 : decode code 670 = .ok (.aload_n 0, 1) := by decide +kernel
theorem d_L_law_671 : decode code 671 = .ok (.iload 4, 2) := by decide +kernel
theorem d_L_law_673 : decode code 673 = .ok (.iconst 4, 1) := by decide +kernel
theorem d_L_law_674 : decode code 674 = .ok (.iadd, 1) := by decide +kernel
theorem d_L_law_675 : decode code 675 = .ok (.iaload, 1) := by decide +kernel
theorem d_L_law_676 : decode code 676 = .ok (.invokevirtual 111, 3) := by decide +kernel
theorem d_L_law_679 : decode code 679 = .ok (.istore 6, 2) := by decide +kernel
theorem d_L_law_681 : decode code 681 = .ok (.aload_n 2, 1) := by decide +kernel
theorem d_L_law_682 : decode code 682 = .ok (.invokevirtual 83, 3) := by decide +kernel
theorem d_L_law_685 : decode code 685 = .ok (.iload 5, 2) := by decide +kernel
theorem d_L_law_687 : decode code 687 = .ok (.if_icmp .eq 5, 3) := by decide +kernel
theorem d_L_law_690 : decode code 690 = .ok (.iconst 0, 1) := by decide +kernel
theorem d_L_law_691 : decode code 691 = .ok (.ireturn, 1) := by decide +kernel
theorem d_L_law_692 : decode code 692 = .ok (.iload 5, 2) := by decide +kernel
theorem d_L_law_694 : decode code 694 = .ok (.ifCond .ne 15, 3) := by decide +kernel
theorem d_L_law_697 : decode code 697 = .ok (.aload_n 3, 1) := by decide +kernel
theorem d_L_law_698 : decode code 698 = .ok (.iconst 0, 1) := by decide +kernel
theorem d_L_law_699 : decode code 699 = .ok (.laload, 1) := by decide +kernel
theorem d_L_law_700 : decode code 700 = .ok (.iload 6, 2) := by decide +kernel
theorem d_L_law_702 : decode code 702 = .ok (.i2l, 1) := by decide +kernel
theorem d_L_law_703 : decode code 703 = .ok (.lcmp, 1) := by decide +kernel
theorem d_L_law_704 : decode code 704 = .ok (.ifCond .eq 5, 3) := by decide +kernel
theorem d_L_law_707 : decode code 707 = .ok (.iconst 0, 1) := by decide +kernel
theorem d_L_law_708 : decode code 708 = .ok (.ireturn, 1) := by decide +kernel
theorem d_L_law_709 : decode code 709 = .ok (.goto 626, 3) := by decide +kernel
theorem d_L_law_712 : decode code 712 = .ok (.aload_n 1, 1) := by decide +kernel
theorem d_L_law_713 : decode code 713 = .ok (.aload_n 0, 1) := by decide +kernel
theorem d_L_law_714 : decode code 714 = .ok (.iload 4, 2) := by decide +kernel
theorem d_L_law_716 : decode code 716 = .ok (.iconst 1, 1) := by decide +kernel
theorem d_L_law_717 : decode code 717 = .ok (.iadd, 1) := by decide +kernel
theorem d_L_law_718 : decode code 718 = .ok (.iaload, 1) := by decide +kernel
theorem d_L_law_719 : decode code 719 = .ok (.aload_n 0, 1) := by decide +kernel
theorem d_L_law_720 : decode code 720 = .ok (.iload 4, 2) := by decide +kernel
theorem d_L_law_722 : decode code 722 = .ok (.iconst 2, 1) := by decide +kernel
theorem d_L_law_723 : decode code 723 = .ok (.iadd, 1) := by decide +kernel
theorem d_L_law_724 : decode code 724 = .ok (.iaload, 1) := by decide +kernel
theorem d_L_law_725 : decode code 725 = .ok (.aload_n 0, 1) := by decide +kernel
theorem d_L_law_726 : decode code 726 = .ok (.iload 4, 2) := by decide +kernel
theorem d_L_law_728 : decode code 728 = .ok (.iconst 3, 1) := by decide +kernel
theorem d_L_law_729 : decode code 729 = .ok (.iadd, 1) := by decide +kernel
theorem d_L_law_730 : decode code 730 = .ok (.iaload, 1) := by decide +kernel
theorem d_L_law_731 : decode code 731 = .ok (.aload_n 0, 1) := by decide +kernel
theorem d_L_law_732 : decode code 732 = .ok (.iload 4, 2) := by decide +kernel
theorem d_L_law_734 : decode code 734 = .ok (.iconst 4, 1) := by decide +kernel
theorem d_L_law_735 : decode code 735 = .ok (.iadd, 1) := by decide +kernel
theorem d_L_law_736 : decode code 736 = .ok (.iaload, 1) := by decide +kernel
theorem d_L_law_737 : decode code 737 = .ok (.aload_n 3, 1) := by decide +kernel
theorem d_L_law_738 : decode code 738 = .ok (.invokestatic 112, 3) := by decide +kernel
theorem d_L_law_741 : decode code 741 = .ok (.istore 5, 2) := by decide +kernel
theorem d_L_law_743 : decode code 743 = .ok (.aload_n 2, 1) := by decide +kernel
theorem d_L_law_744 : decode code 744 = .ok (.aload_n 0, 1) := by decide +kernel
theorem d_L_law_745 : decode code 745 = .ok (.iload 4, 2) := by decide +kernel
theorem d_L_law_747 : decode code 747 = .ok (.iconst 1, 1) := by decide +kernel
theorem d_L_law_748 : decode code 748 = .ok (.iadd, 1) := by decide +kernel
theorem d_L_law_749 : decode code 749 = .ok (.iaload, 1) := by decide +kernel
theorem d_L_law_750 : decode code 750 = .ok (.aload_n 0, 1) := by decide +kernel
theorem d_L_law_751 : decode code 751 = .ok (.iload 4, 2) := by decide +kernel
theorem d_L_law_753 : decode code 753 = .ok (.iconst 2, 1) := by decide +kernel
theorem d_L_law_754 : decode code 754 = .ok (.iadd, 1) := by decide +kernel
theorem d_L_law_755 : decode code 755 = .ok (.iaload, 1) := by decide +kernel
theorem d_L_law_756 : decode code 756 = .ok (.aload_n 0, 1) := by decide +kernel
theorem d_L_law_757 : decode code 757 = .ok (.iload 4, 2) := by decide +kernel
theorem d_L_law_759 : decode code 759 = .ok (.iconst 3, 1) := by decide +kernel
theorem d_L_law_760 : decode code 760 = .ok (.iadd, 1) := by decide +kernel
theorem d_L_law_761 : decode code 761 = .ok (.iaload, 1) := by decide +kernel
theorem d_L_law_762 : decode code 762 = .ok (.aload_n 0, 1) := by decide +kernel
theorem d_L_law_763 : decode code 763 = .ok (.iload 4, 2) := by decide +kernel
theorem d_L_law_765 : decode code 765 = .ok (.iconst 4, 1) := by decide +kernel
theorem d_L_law_766 : decode code 766 = .ok (.iadd, 1) := by decide +kernel
theorem d_L_law_767 : decode code 767 = .ok (.iaload, 1) := by decide +kernel
theorem d_L_law_768 : decode code 768 = .ok (.invokevirtual 114, 3) := by decide +kernel
theorem d_L_law_771 : decode code 771 = .ok (.istore 6, 2) := by decide +kernel
theorem d_L_law_773 : decode code 773 = .ok (.aload_n 2, 1) := by decide +kernel
theorem d_L_law_774 : decode code 774 = .ok (.invokevirtual 83, 3) := by decide +kernel
theorem d_L_law_777 : decode code 777 = .ok (.iload 5, 2) := by decide +kernel
theorem d_L_law_779 : decode code 779 = .ok (.if_icmp .eq 5, 3) := by decide +kernel
theorem d_L_law_782 : decode code 782 = .ok (.iconst 0, 1) := by decide +kernel
theorem d_L_law_783 : decode code 783 = .ok (.ireturn, 1) := by decide +kernel
theorem d_L_law_784 : decode code 784 = .ok (.iload 5, 2) := by decide +kernel
theorem d_L_law_786 : decode code 786 = .ok (.ifCond .ne 15, 3) := by decide +kernel
theorem d_L_law_789 : decode code 789 = .ok (.aload_n 3, 1) := by decide +kernel
theorem d_L_law_790 : decode code 790 = .ok (.iconst 0, 1) := by decide +kernel
theorem d_L_law_791 : decode code 791 = .ok (.laload, 1) := by decide +kernel
theorem d_L_law_792 : decode code 792 = .ok (.iload 6, 2) := by decide +kernel
theorem d_L_law_794 : decode code 794 = .ok (.i2l, 1) := by decide +kernel
theorem d_L_law_795 : decode code 795 = .ok (.lcmp, 1) := by decide +kernel
theorem d_L_law_796 : decode code 796 = .ok (.ifCond .eq 5, 3) := by decide +kernel
theorem d_L_law_799 : decode code 799 = .ok (.iconst 0, 1) := by decide +kernel
theorem d_L_law_800 : decode code 800 = .ok (.ireturn, 1) := by decide +kernel
theorem d_L_law_801 : decode code 801 = .ok (.goto 534, 3) := by decide +kernel
theorem d_L_law_804 : decode code 804 = .ok (.aload_n 1, 1) := by decide +kernel
theorem d_L_law_805 : decode code 805 = .ok (.aload_n 0, 1) := by decide +kernel
theorem d_L_law_806 : decode code 806 = .ok (.iload 4, 2) := by decide +kernel
theorem d_L_law_808 : decode code 808 = .ok (.iconst 1, 1) := by decide +kernel
theorem d_L_law_809 : decode code 809 = .ok (.iadd, 1) := by decide +kernel
theorem d_L_law_810 : decode code 810 = .ok (.iaload, 1) := by decide +kernel
theorem d_L_law_811 : decode code 811 = .ok (.aload_n 0, 1) := by decide +kernel
theorem d_L_law_812 : decode code 812 = .ok (.iload 4, 2) := by decide +kernel
theorem d_L_law_814 : decode code 814 = .ok (.iconst 2, 1) := by decide +kernel
theorem d_L_law_815 : decode code 815 = .ok (.iadd, 1) := by decide +kernel
theorem d_L_law_816 : decode code 816 = .ok (.iaload, 1) := by decide +kernel
theorem d_L_law_817 : decode code 817 = .ok (.aload_n 3, 1) := by decide +kernel
theorem d_L_law_818 : decode code 818 = .ok (.invokestatic 115, 3) := by decide +kernel
theorem d_L_law_821 : decode code 821 = .ok (.istore 5, 2) := by decide +kernel
theorem d_L_law_823 : decode code 823 = .ok (.aload_n 2, 1) := by decide +kernel
theorem d_L_law_824 : decode code 824 = .ok (.aload_n 0, 1) := by decide +kernel
theorem d_L_law_825 : decode code 825 = .ok (.iload 4, 2) := by decide +kernel
theorem d_L_law_827 : decode code 827 = .ok (.iconst 1, 1) := by decide +kernel
theorem d_L_law_828 : decode code 828 = .ok (.iadd, 1) := by decide +kernel
theorem d_L_law_829 : decode code 829 = .ok (.iaload, 1) := by decide +kernel
theorem d_L_law_830 : decode code 830 = .ok (.aload_n 0, 1) := by decide +kernel
theorem d_L_law_831 : decode code 831 = .ok (.iload 4, 2) := by decide +kernel
theorem d_L_law_833 : decode code 833 = .ok (.iconst 2, 1) := by decide +kernel
theorem d_L_law_834 : decode code 834 = .ok (.iadd, 1) := by decide +kernel
theorem d_L_law_835 : decode code 835 = .ok (.iaload, 1) := by decide +kernel
theorem d_L_law_836 : decode code 836 = .ok (.invokevirtual 118, 3) := by decide +kernel
theorem d_L_law_839 : decode code 839 = .ok (.istore 6, 2) := by decide +kernel
theorem d_L_law_841 : decode code 841 = .ok (.aload_n 2, 1) := by decide +kernel
theorem d_L_law_842 : decode code 842 = .ok (.invokevirtual 83, 3) := by decide +kernel
theorem d_L_law_845 : decode code 845 = .ok (.iload 5, 2) := by decide +kernel
theorem d_L_law_847 : decode code 847 = .ok (.if_icmp .eq 5, 3) := by decide +kernel
theorem d_L_law_850 : decode code 850 = .ok (.iconst 0, 1) := by decide +kernel
theorem d_L_law_851 : decode code 851 = .ok (.ireturn, 1) := by decide +kernel
theorem d_L_law_852 : decode code 852 = .ok (.iload 5, 2) := by decide +kernel
theorem d_L_law_854 : decode code 854 = .ok (.ifCond .ne 15, 3) := by decide +kernel
theorem d_L_law_857 : decode code 857 = .ok (.aload_n 3, 1) := by decide +kernel
theorem d_L_law_858 : decode code 858 = .ok (.iconst 0, 1) := by decide +kernel
theorem d_L_law_859 : decode code 859 = .ok (.laload, 1) := by decide +kernel
theorem d_L_law_860 : decode code 860 = .ok (.iload 6, 2) := by decide +kernel
theorem d_L_law_862 : decode code 862 = .ok (.i2l, 1) := by decide +kernel
theorem d_L_law_863 : decode code 863 = .ok (.lcmp, 1) := by decide +kernel
theorem d_L_law_864 : decode code 864 = .ok (.ifCond .eq 5, 3) := by decide +kernel
theorem d_L_law_867 : decode code 867 = .ok (.iconst 0, 1) := by decide +kernel
theorem d_L_law_868 : decode code 868 = .ok (.ireturn, 1) := by decide +kernel
theorem d_L_law_869 : decode code 869 = .ok (.goto 466, 3) := by decide +kernel
theorem d_L_law_872 : decode code 872 = .ok (.aload_n 1, 1) := by decide +kernel
theorem d_L_law_873 : decode code 873 = .ok (.aload_n 0, 1) := by decide +kernel
theorem d_L_law_874 : decode code 874 = .ok (.iload 4, 2) := by decide +kernel
theorem d_L_law_876 : decode code 876 = .ok (.iconst 1, 1) := by decide +kernel
theorem d_L_law_877 : decode code 877 = .ok (.iadd, 1) := by decide +kernel
theorem d_L_law_878 : decode code 878 = .ok (.iaload, 1) := by decide +kernel
theorem d_L_law_879 : decode code 879 = .ok (.aload_n 0, 1) := by decide +kernel
theorem d_L_law_880 : decode code 880 = .ok (.iload 4, 2) := by decide +kernel
theorem d_L_law_882 : decode code 882 = .ok (.iconst 2, 1) := by decide +kernel
theorem d_L_law_883 : decode code 883 = .ok (.iadd, 1) := by decide +kernel
theorem d_L_law_884 : decode code 884 = .ok (.iaload, 1) := by decide +kernel
theorem d_L_law_885 : decode code 885 = .ok (.aload_n 0, 1) := by decide +kernel
theorem d_L_law_886 : decode code 886 = .ok (.iload 4, 2) := by decide +kernel
theorem d_L_law_888 : decode code 888 = .ok (.iconst 3, 1) := by decide +kernel
theorem d_L_law_889 : decode code 889 = .ok (.iadd, 1) := by decide +kernel
theorem d_L_law_890 : decode code 890 = .ok (.iaload, 1) := by decide +kernel
theorem d_L_law_891 : decode code 891 = .ok (.aload_n 0, 1) := by decide +kernel
theorem d_L_law_892 : decode code 892 = .ok (.iload 4, 2) := by decide +kernel
theorem d_L_law_894 : decode code 894 = .ok (.iconst 4, 1) := by decide +kernel
theorem d_L_law_895 : decode code 895 = .ok (.iadd, 1) := by decide +kernel
theorem d_L_law_896 : decode code 896 = .ok (.iaload, 1) := by decide +kernel
theorem d_L_law_897 : decode code 897 = .ok (.i2l, 1) := by decide +kernel
theorem d_L_law_898 : decode code 898 = .ok (.bipush 32, 2) := by decide +kernel
theorem d_L_law_900 : decode code 900 = .ok (.lshl, 1) := by decide +kernel
theorem d_L_law_901 : decode code 901 = .ok (.aload_n 0, 1) := by decide +kernel
theorem d_L_law_902 : decode code 902 = .ok (.iload 4, 2) := by decide +kernel
theorem d_L_law_904 : decode code 904 = .ok (.iconst 5, 1) := by decide +kernel
theorem d_L_law_905 : decode code 905 = .ok (.iadd, 1) := by decide +kernel
theorem d_L_law_906 : decode code 906 = .ok (.iaload, 1) := by decide +kernel
theorem d_L_law_907 : decode code 907 = .ok (.i2l, 1) := by decide +kernel
theorem d_L_law_908 : decode code 908 = .ok (.ldc2_w 87, 3) := by decide +kernel
theorem d_L_law_911 : decode code 911 = .ok (.land, 1) := by decide +kernel
theorem d_L_law_912 : decode code 912 = .ok (.lor, 1) := by decide +kernel
theorem d_L_law_913 : decode code 913 = .ok (.aload_n 3, 1) := by decide +kernel
theorem d_L_law_914 : decode code 914 = .ok (.invokestatic 119, 3) := by decide +kernel
theorem d_L_law_917 : decode code 917 = .ok (.istore 5, 2) := by decide +kernel
theorem d_L_law_919 : decode code 919 = .ok (.aload_n 2, 1) := by decide +kernel
theorem d_L_law_920 : decode code 920 = .ok (.aload_n 0, 1) := by decide +kernel
theorem d_L_law_921 : decode code 921 = .ok (.iload 4, 2) := by decide +kernel
theorem d_L_law_923 : decode code 923 = .ok (.iconst 1, 1) := by decide +kernel
theorem d_L_law_924 : decode code 924 = .ok (.iadd, 1) := by decide +kernel
theorem d_L_law_925 : decode code 925 = .ok (.iaload, 1) := by decide +kernel
theorem d_L_law_926 : decode code 926 = .ok (.aload_n 0, 1) := by decide +kernel
theorem d_L_law_927 : decode code 927 = .ok (.iload 4, 2) := by decide +kernel
theorem d_L_law_929 : decode code 929 = .ok (.iconst 2, 1) := by decide +kernel
theorem d_L_law_930 : decode code 930 = .ok (.iadd, 1) := by decide +kernel
theorem d_L_law_931 : decode code 931 = .ok (.iaload, 1) := by decide +kernel
theorem d_L_law_932 : decode code 932 = .ok (.aload_n 0, 1) := by decide +kernel
theorem d_L_law_933 : decode code 933 = .ok (.iload 4, 2) := by decide +kernel
theorem d_L_law_935 : decode code 935 = .ok (.iconst 3, 1) := by decide +kernel
theorem d_L_law_936 : decode code 936 = .ok (.iadd, 1) := by decide +kernel
theorem d_L_law_937 : decode code 937 = .ok (.iaload, 1) := by decide +kernel
theorem d_L_law_938 : decode code 938 = .ok (.aload_n 0, 1) := by decide +kernel
theorem d_L_law_939 : decode code 939 = .ok (.iload 4, 2) := by decide +kernel
theorem d_L_law_941 : decode code 941 = .ok (.iconst 4, 1) := by decide +kernel
theorem d_L_law_942 : decode code 942 = .ok (.iadd, 1) := by decide +kernel
theorem d_L_law_943 : decode code 943 = .ok (.iaload, 1) := by decide +kernel
theorem d_L_law_944 : decode code 944 = .ok (.i2l, 1) := by decide +kernel
theorem d_L_law_945 : decode code 945 = .ok (.bipush 32, 2) := by decide +kernel
theorem d_L_law_947 : decode code 947 = .ok (.lshl, 1) := by decide +kernel
theorem d_L_law_948 : decode code 948 = .ok (.aload_n 0, 1) := by decide +kernel
theorem d_L_law_949 : decode code 949 = .ok (.iload 4, 2) := by decide +kernel
theorem d_L_law_951 : decode code 951 = .ok (.iconst 5, 1) := by decide +kernel
theorem d_L_law_952 : decode code 952 = .ok (.iadd, 1) := by decide +kernel
theorem d_L_law_953 : decode code 953 = .ok (.iaload, 1) := by decide +kernel
theorem d_L_law_954 : decode code 954 = .ok (.i2l, 1) := by decide +kernel
theorem d_L_law_955 : decode code 955 = .ok (.ldc2_w 87, 3) := by decide +kernel
theorem d_L_law_958 : decode code 958 = .ok (.land, 1) := by decide +kernel
theorem d_L_law_959 : decode code 959 = .ok (.lor, 1) := by decide +kernel
theorem d_L_law_960 : decode code 960 = .ok (.invokevirtual 122, 3) := by decide +kernel
theorem d_L_law_963 : decode code 963 = .ok (.istore 6, 2) := by decide +kernel
theorem d_L_law_965 : decode code 965 = .ok (.aload_n 2, 1) := by decide +kernel
theorem d_L_law_966 : decode code 966 = .ok (.invokevirtual 83, 3) := by decide +kernel
theorem d_L_law_969 : decode code 969 = .ok (.iload 5, 2) := by decide +kernel
theorem d_L_law_971 : decode code 971 = .ok (.if_icmp .eq 5, 3) := by decide +kernel
theorem d_L_law_974 : decode code 974 = .ok (.iconst 0, 1) := by decide +kernel
theorem d_L_law_975 : decode code 975 = .ok (.ireturn, 1) := by decide +kernel
theorem d_L_law_976 : decode code 976 = .ok (.iload 5, 2) := by decide +kernel
theorem d_L_law_978 : decode code 978 = .ok (.ifCond .ne 15, 3) := by decide +kernel
theorem d_L_law_981 : decode code 981 = .ok (.aload_n 3, 1) := by decide +kernel
theorem d_L_law_982 : decode code 982 = .ok (.iconst 0, 1) := by decide +kernel
theorem d_L_law_983 : decode code 983 = .ok (.laload, 1) := by decide +kernel
theorem d_L_law_984 : decode code 984 = .ok (.iload 6, 2) := by decide +kernel
theorem d_L_law_986 : decode code 986 = .ok (.i2l, 1) := by decide +kernel
theorem d_L_law_987 : decode code 987 = .ok (.lcmp, 1) := by decide +kernel
theorem d_L_law_988 : decode code 988 = .ok (.ifCond .eq 5, 3) := by decide +kernel
theorem d_L_law_991 : decode code 991 = .ok (.iconst 0, 1) := by decide +kernel
theorem d_L_law_992 : decode code 992 = .ok (.ireturn, 1) := by decide +kernel
theorem d_L_law_993 : decode code 993 = .ok (.goto 342, 3) := by decide +kernel
theorem d_L_law_996 : decode code 996 = .ok (.aload_n 1, 1) := by decide +kernel
theorem d_L_law_997 : decode code 997 = .ok (.aload_n 0, 1) := by decide +kernel
theorem d_L_law_998 : decode code 998 = .ok (.iload 4, 2) := by decide +kernel
theorem d_L_law_1000 : decode code 1000 = .ok (.iconst 1, 1) := by decide +kernel
theorem d_L_law_1001 : decode code 1001 = .ok (.iadd, 1) := by decide +kernel
theorem d_L_law_1002 : decode code 1002 = .ok (.iaload, 1) := by decide +kernel
theorem d_L_law_1003 : decode code 1003 = .ok (.aload_n 0, 1) := by decide +kernel
theorem d_L_law_1004 : decode code 1004 = .ok (.iload 4, 2) := by decide +kernel
theorem d_L_law_1006 : decode code 1006 = .ok (.iconst 2, 1) := by decide +kernel
theorem d_L_law_1007 : decode code 1007 = .ok (.iadd, 1) := by decide +kernel
theorem d_L_law_1008 : decode code 1008 = .ok (.iaload, 1) := by decide +kernel
theorem d_L_law_1009 : decode code 1009 = .ok (.aload_n 3, 1) := by decide +kernel
theorem d_L_law_1010 : decode code 1010 = .ok (.invokestatic 123, 3) := by decide +kernel
theorem d_L_law_1013 : decode code 1013 = .ok (.istore 5, 2) := by decide +kernel
theorem d_L_law_1015 : decode code 1015 = .ok (.aload_n 2, 1) := by decide +kernel
theorem d_L_law_1016 : decode code 1016 = .ok (.aload_n 0, 1) := by decide +kernel
theorem d_L_law_1017 : decode code 1017 = .ok (.iload 4, 2) := by decide +kernel
theorem d_L_law_1019 : decode code 1019 = .ok (.iconst 1, 1) := by decide +kernel
theorem d_L_law_1020 : decode code 1020 = .ok (.iadd, 1) := by decide +kernel
theorem d_L_law_1021 : decode code 1021 = .ok (.iaload, 1) := by decide +kernel
theorem d_L_law_1022 : decode code 1022 = .ok (.aload_n 0, 1) := by decide +kernel
theorem d_L_law_1023 : decode code 1023 = .ok (.iload 4, 2) := by decide +kernel
theorem d_L_law_1025 : decode code 1025 = .ok (.iconst 2, 1) := by decide +kernel
theorem d_L_law_1026 : decode code 1026 = .ok (.iadd, 1) := by decide +kernel
theorem d_L_law_1027 : decode code 1027 = .ok (.iaload, 1) := by decide +kernel
theorem d_L_law_1028 : decode code 1028 = .ok (.invokevirtual 125, 3) := by decide +kernel
theorem d_L_law_1031 : decode code 1031 = .ok (.lstore 6, 2) := by decide +kernel
theorem d_L_law_1033 : decode code 1033 = .ok (.aload_n 2, 1) := by decide +kernel
theorem d_L_law_1034 : decode code 1034 = .ok (.invokevirtual 83, 3) := by decide +kernel
theorem d_L_law_1037 : decode code 1037 = .ok (.iload 5, 2) := by decide +kernel
theorem d_L_law_1039 : decode code 1039 = .ok (.if_icmp .eq 5, 3) := by decide +kernel
theorem d_L_law_1042 : decode code 1042 = .ok (.iconst 0, 1) := by decide +kernel
theorem d_L_law_1043 : decode code 1043 = .ok (.ireturn, 1) := by decide +kernel
theorem d_L_law_1044 : decode code 1044 = .ok (.iload 5, 2) := by decide +kernel
theorem d_L_law_1046 : decode code 1046 = .ok (.ifCond .ne 14, 3) := by decide +kernel
theorem d_L_law_1049 : decode code 1049 = .ok (.aload_n 3, 1) := by decide +kernel
theorem d_L_law_1050 : decode code 1050 = .ok (.iconst 0, 1) := by decide +kernel
theorem d_L_law_1051 : decode code 1051 = .ok (.laload, 1) := by decide +kernel
theorem d_L_law_1052 : decode code 1052 = .ok (.lload 6, 2) := by decide +kernel
theorem d_L_law_1054 : decode code 1054 = .ok (.lcmp, 1) := by decide +kernel
theorem d_L_law_1055 : decode code 1055 = .ok (.ifCond .eq 5, 3) := by decide +kernel
theorem d_L_law_1058 : decode code 1058 = .ok (.iconst 0, 1) := by decide +kernel
theorem d_L_law_1059 : decode code 1059 = .ok (.ireturn, 1) := by decide +kernel
theorem d_L_law_1060 : decode code 1060 = .ok (.goto 275, 3) := by decide +kernel
theorem d_L_law_1063 : decode code 1063 = .ok (.aload_n 1, 1) := by decide +kernel
theorem d_L_law_1064 : decode code 1064 = .ok (.aload_n 0, 1) := by decide +kernel
theorem d_L_law_1065 : decode code 1065 = .ok (.iload 4, 2) := by decide +kernel
theorem d_L_law_1067 : decode code 1067 = .ok (.iconst 1, 1) := by decide +kernel
theorem d_L_law_1068 : decode code 1068 = .ok (.iadd, 1) := by decide +kernel
theorem d_L_law_1069 : decode code 1069 = .ok (.iaload, 1) := by decide +kernel
theorem d_L_law_1070 : decode code 1070 = .ok (.aload_n 0, 1) := by decide +kernel
theorem d_L_law_1071 : decode code 1071 = .ok (.iload 4, 2) := by decide +kernel
theorem d_L_law_1073 : decode code 1073 = .ok (.iconst 2, 1) := by decide +kernel
theorem d_L_law_1074 : decode code 1074 = .ok (.iadd, 1) := by decide +kernel
theorem d_L_law_1075 : decode code 1075 = .ok (.iaload, 1) := by decide +kernel
theorem d_L_law_1076 : decode code 1076 = .ok (.aload_n 0, 1) := by decide +kernel
theorem d_L_law_1077 : decode code 1077 = .ok (.iload 4, 2) := by decide +kernel
theorem d_L_law_1079 : decode code 1079 = .ok (.iconst 3, 1) := by decide +kernel
theorem d_L_law_1080 : decode code 1080 = .ok (.iadd, 1) := by decide +kernel
theorem d_L_law_1081 : decode code 1081 = .ok (.iaload, 1) := by decide +kernel
theorem d_L_law_1082 : decode code 1082 = .ok (.aload_n 3, 1) := by decide +kernel
theorem d_L_law_1083 : decode code 1083 = .ok (.invokestatic 126, 3) := by decide +kernel
theorem d_L_law_1086 : decode code 1086 = .ok (.istore 5, 2) := by decide +kernel
theorem d_L_law_1088 : decode code 1088 = .ok (.aload_n 2, 1) := by decide +kernel
theorem d_L_law_1089 : decode code 1089 = .ok (.aload_n 0, 1) := by decide +kernel
theorem d_L_law_1090 : decode code 1090 = .ok (.iload 4, 2) := by decide +kernel
theorem d_L_law_1092 : decode code 1092 = .ok (.iconst 1, 1) := by decide +kernel
theorem d_L_law_1093 : decode code 1093 = .ok (.iadd, 1) := by decide +kernel
theorem d_L_law_1094 : decode code 1094 = .ok (.iaload, 1) := by decide +kernel
theorem d_L_law_1095 : decode code 1095 = .ok (.aload_n 0, 1) := by decide +kernel
theorem d_L_law_1096 : decode code 1096 = .ok (.iload 4, 2) := by decide +kernel
theorem d_L_law_1098 : decode code 1098 = .ok (.iconst 2, 1) := by decide +kernel
theorem d_L_law_1099 : decode code 1099 = .ok (.iadd, 1) := by decide +kernel
theorem d_L_law_1100 : decode code 1100 = .ok (.iaload, 1) := by decide +kernel
theorem d_L_law_1101 : decode code 1101 = .ok (.aload_n 0, 1) := by decide +kernel
theorem d_L_law_1102 : decode code 1102 = .ok (.iload 4, 2) := by decide +kernel
theorem d_L_law_1104 : decode code 1104 = .ok (.iconst 3, 1) := by decide +kernel
theorem d_L_law_1105 : decode code 1105 = .ok (.iadd, 1) := by decide +kernel
theorem d_L_law_1106 : decode code 1106 = .ok (.iaload, 1) := by decide +kernel
theorem d_L_law_1107 : decode code 1107 = .ok (.invokevirtual 128, 3) := by decide +kernel
theorem d_L_law_1110 : decode code 1110 = .ok (.istore 6, 2) := by decide +kernel
theorem d_L_law_1112 : decode code 1112 = .ok (.aload_n 2, 1) := by decide +kernel
theorem d_L_law_1113 : decode code 1113 = .ok (.invokevirtual 83, 3) := by decide +kernel
theorem d_L_law_1116 : decode code 1116 = .ok (.iload 5, 2) := by decide +kernel
theorem d_L_law_1118 : decode code 1118 = .ok (.if_icmp .eq 5, 3) := by decide +kernel
theorem d_L_law_1121 : decode code 1121 = .ok (.iconst 0, 1) := by decide +kernel
theorem d_L_law_1122 : decode code 1122 = .ok (.ireturn, 1) := by decide +kernel
theorem d_L_law_1123 : decode code 1123 = .ok (.iload 5, 2) := by decide +kernel
theorem d_L_law_1125 : decode code 1125 = .ok (.ifCond .ne 15, 3) := by decide +kernel
theorem d_L_law_1128 : decode code 1128 = .ok (.aload_n 3, 1) := by decide +kernel
theorem d_L_law_1129 : decode code 1129 = .ok (.iconst 0, 1) := by decide +kernel
theorem d_L_law_1130 : decode code 1130 = .ok (.laload, 1) := by decide +kernel
theorem d_L_law_1131 : decode code 1131 = .ok (.iload 6, 2) := by decide +kernel
theorem d_L_law_1133 : decode code 1133 = .ok (.i2l, 1) := by decide +kernel
theorem d_L_law_1134 : decode code 1134 = .ok (.lcmp, 1) := by decide +kernel
theorem d_L_law_1135 : decode code 1135 = .ok (.ifCond .eq 5, 3) := by decide +kernel
theorem d_L_law_1138 : decode code 1138 = .ok (.iconst 0, 1) := by decide +kernel
theorem d_L_law_1139 : decode code 1139 = .ok (.ireturn, 1) := by decide +kernel
theorem d_L_law_1140 : decode code 1140 = .ok (.goto 195, 3) := by decide +kernel
theorem d_L_law_1143 : decode code 1143 = .ok (.aload_n 1, 1) := by decide +kernel
theorem d_L_law_1144 : decode code 1144 = .ok (.aload_n 0, 1) := by decide +kernel
theorem d_L_law_1145 : decode code 1145 = .ok (.iload 4, 2) := by decide +kernel
theorem d_L_law_1147 : decode code 1147 = .ok (.iconst 1, 1) := by decide +kernel
theorem d_L_law_1148 : decode code 1148 = .ok (.iadd, 1) := by decide +kernel
theorem d_L_law_1149 : decode code 1149 = .ok (.iaload, 1) := by decide +kernel
theorem d_L_law_1150 : decode code 1150 = .ok (.aload_n 0, 1) := by decide +kernel
theorem d_L_law_1151 : decode code 1151 = .ok (.iload 4, 2) := by decide +kernel
theorem d_L_law_1153 : decode code 1153 = .ok (.iconst 2, 1) := by decide +kernel
theorem d_L_law_1154 : decode code 1154 = .ok (.iadd, 1) := by decide +kernel
theorem d_L_law_1155 : decode code 1155 = .ok (.iaload, 1) := by decide +kernel
theorem d_L_law_1156 : decode code 1156 = .ok (.aload_n 3, 1) := by decide +kernel
theorem d_L_law_1157 : decode code 1157 = .ok (.invokestatic 129, 3) := by decide +kernel
theorem d_L_law_1160 : decode code 1160 = .ok (.istore 5, 2) := by decide +kernel
theorem d_L_law_1162 : decode code 1162 = .ok (.aload_n 2, 1) := by decide +kernel
theorem d_L_law_1163 : decode code 1163 = .ok (.aload_n 0, 1) := by decide +kernel
theorem d_L_law_1164 : decode code 1164 = .ok (.iload 4, 2) := by decide +kernel
theorem d_L_law_1166 : decode code 1166 = .ok (.iconst 1, 1) := by decide +kernel
theorem d_L_law_1167 : decode code 1167 = .ok (.iadd, 1) := by decide +kernel
theorem d_L_law_1168 : decode code 1168 = .ok (.iaload, 1) := by decide +kernel
theorem d_L_law_1169 : decode code 1169 = .ok (.aload_n 0, 1) := by decide +kernel
theorem d_L_law_1170 : decode code 1170 = .ok (.iload 4, 2) := by decide +kernel
theorem d_L_law_1172 : decode code 1172 = .ok (.iconst 2, 1) := by decide +kernel
theorem d_L_law_1173 : decode code 1173 = .ok (.iadd, 1) := by decide +kernel
theorem d_L_law_1174 : decode code 1174 = .ok (.iaload, 1) := by decide +kernel
theorem d_L_law_1175 : decode code 1175 = .ok (.invokevirtual 131, 3) := by decide +kernel
theorem d_L_law_1178 : decode code 1178 = .ok (.istore 6, 2) := by decide +kernel
theorem d_L_law_1180 : decode code 1180 = .ok (.aload_n 2, 1) := by decide +kernel
theorem d_L_law_1181 : decode code 1181 = .ok (.invokevirtual 83, 3) := by decide +kernel
theorem d_L_law_1184 : decode code 1184 = .ok (.iload 5, 2) := by decide +kernel
theorem d_L_law_1186 : decode code 1186 = .ok (.if_icmp .eq 5, 3) := by decide +kernel
theorem d_L_law_1189 : decode code 1189 = .ok (.iconst 0, 1) := by decide +kernel
theorem d_L_law_1190 : decode code 1190 = .ok (.ireturn, 1) := by decide +kernel
theorem d_L_law_1191 : decode code 1191 = .ok (.iload 5, 2) := by decide +kernel
theorem d_L_law_1193 : decode code 1193 = .ok (.ifCond .ne 15, 3) := by decide +kernel
theorem d_L_law_1196 : decode code 1196 = .ok (.aload_n 3, 1) := by decide +kernel
theorem d_L_law_1197 : decode code 1197 = .ok (.iconst 0, 1) := by decide +kernel
theorem d_L_law_1198 : decode code 1198 = .ok (.laload, 1) := by decide +kernel
theorem d_L_law_1199 : decode code 1199 = .ok (.iload 6, 2) := by decide +kernel
theorem d_L_law_1201 : decode code 1201 = .ok (.i2l, 1) := by decide +kernel
theorem d_L_law_1202 : decode code 1202 = .ok (.lcmp, 1) := by decide +kernel
theorem d_L_law_1203 : decode code 1203 = .ok (.ifCond .eq 5, 3) := by decide +kernel
theorem d_L_law_1206 : decode code 1206 = .ok (.iconst 0, 1) := by decide +kernel
theorem d_L_law_1207 : decode code 1207 = .ok (.ireturn, 1) := by decide +kernel
theorem d_L_law_1208 : decode code 1208 = .ok (.goto 127, 3) := by decide +kernel
theorem d_L_law_1211 : decode code 1211 = .ok (.aload_n 1, 1) := by decide +kernel
theorem d_L_law_1212 : decode code 1212 = .ok (.aload_n 0, 1) := by decide +kernel
theorem d_L_law_1213 : decode code 1213 = .ok (.iload 4, 2) := by decide +kernel
theorem d_L_law_1215 : decode code 1215 = .ok (.iconst 1, 1) := by decide +kernel
theorem d_L_law_1216 : decode code 1216 = .ok (.iadd, 1) := by decide +kernel
theorem d_L_law_1217 : decode code 1217 = .ok (.iaload, 1) := by decide +kernel
theorem d_L_law_1218 : decode code 1218 = .ok (.aload_n 3, 1) := by decide +kernel
theorem d_L_law_1219 : decode code 1219 = .ok (.invokestatic 132, 3) := by decide +kernel
theorem d_L_law_1222 : decode code 1222 = .ok (.istore 5, 2) := by decide +kernel
theorem d_L_law_1224 : decode code 1224 = .ok (.aload_n 2, 1) := by decide +kernel
theorem d_L_law_1225 : decode code 1225 = .ok (.aload_n 0, 1) := by decide +kernel
theorem d_L_law_1226 : decode code 1226 = .ok (.iload 4, 2) := by decide +kernel
theorem d_L_law_1228 : decode code 1228 = .ok (.iconst 1, 1) := by decide +kernel
theorem d_L_law_1229 : decode code 1229 = .ok (.iadd, 1) := by decide +kernel
theorem d_L_law_1230 : decode code 1230 = .ok (.iaload, 1) := by decide +kernel
theorem d_L_law_1231 : decode code 1231 = .ok (.invokevirtual 134, 3) := by decide +kernel
theorem d_L_law_1234 : decode code 1234 = .ok (.istore 6, 2) := by decide +kernel
theorem d_L_law_1236 : decode code 1236 = .ok (.aload_n 2, 1) := by decide +kernel
theorem d_L_law_1237 : decode code 1237 = .ok (.invokevirtual 83, 3) := by decide +kernel
theorem d_L_law_1240 : decode code 1240 = .ok (.iload 5, 2) := by decide +kernel
theorem d_L_law_1242 : decode code 1242 = .ok (.if_icmp .eq 5, 3) := by decide +kernel
theorem d_L_law_1245 : decode code 1245 = .ok (.iconst 0, 1) := by decide +kernel
theorem d_L_law_1246 : decode code 1246 = .ok (.ireturn, 1) := by decide +kernel
theorem d_L_law_1247 : decode code 1247 = .ok (.iload 5, 2) := by decide +kernel
theorem d_L_law_1249 : decode code 1249 = .ok (.ifCond .ne 15, 3) := by decide +kernel
theorem d_L_law_1252 : decode code 1252 = .ok (.aload_n 3, 1) := by decide +kernel
theorem d_L_law_1253 : decode code 1253 = .ok (.iconst 0, 1) := by decide +kernel
theorem d_L_law_1254 : decode code 1254 = .ok (.laload, 1) := by decide +kernel
theorem d_L_law_1255 : decode code 1255 = .ok (.iload 6, 2) := by decide +kernel
theorem d_L_law_1257 : decode code 1257 = .ok (.i2l, 1) := by decide +kernel
theorem d_L_law_1258 : decode code 1258 = .ok (.lcmp, 1) := by decide +kernel
theorem d_L_law_1259 : decode code 1259 = .ok (.ifCond .eq 5, 3) := by decide +kernel
theorem d_L_law_1262 : decode code 1262 = .ok (.iconst 0, 1) := by decide +kernel
theorem d_L_law_1263 : decode code 1263 = .ok (.ireturn, 1) := by decide +kernel
theorem d_L_law_1264 : decode code 1264 = .ok (.goto 71, 3) := by decide +kernel
theorem d_L_law_1267 : decode code 1267 = .ok (.aload_n 1, 1) := by decide +kernel
theorem d_L_law_1268 : decode code 1268 = .ok (.aload_n 0, 1) := by decide +kernel
theorem d_L_law_1269 : decode code 1269 = .ok (.iload 4, 2) := by decide +kernel
theorem d_L_law_1271 : decode code 1271 = .ok (.iconst 1, 1) := by decide +kernel
theorem d_L_law_1272 : decode code 1272 = .ok (.iadd, 1) := by decide +kernel
theorem d_L_law_1273 : decode code 1273 = .ok (.iaload, 1) := by decide +kernel
theorem d_L_law_1274 : decode code 1274 = .ok (.aload_n 0, 1) := by decide +kernel
theorem d_L_law_1275 : decode code 1275 = .ok (.iload 4, 2) := by decide +kernel
theorem d_L_law_1277 : decode code 1277 = .ok (.iconst 2, 1) := by decide +kernel
theorem d_L_law_1278 : decode code 1278 = .ok (.iadd, 1) := by decide +kernel
theorem d_L_law_1279 : decode code 1279 = .ok (.iaload, 1) := by decide +kernel
theorem d_L_law_1280 : decode code 1280 = .ok (.aload_n 3, 1) := by decide +kernel
theorem d_L_law_1281 : decode code 1281 = .ok (.invokestatic 135, 3) := by decide +kernel
theorem d_L_law_1284 : decode code 1284 = .ok (.istore 5, 2) := by decide +kernel
theorem d_L_law_1286 : decode code 1286 = .ok (.aload_n 2, 1) := by decide +kernel
theorem d_L_law_1287 : decode code 1287 = .ok (.aload_n 0, 1) := by decide +kernel
theorem d_L_law_1288 : decode code 1288 = .ok (.iload 4, 2) := by decide +kernel
theorem d_L_law_1290 : decode code 1290 = .ok (.iconst 1, 1) := by decide +kernel
theorem d_L_law_1291 : decode code 1291 = .ok (.iadd, 1) := by decide +kernel
theorem d_L_law_1292 : decode code 1292 = .ok (.iaload, 1) := by decide +kernel
theorem d_L_law_1293 : decode code 1293 = .ok (.aload_n 0, 1) := by decide +kernel
theorem d_L_law_1294 : decode code 1294 = .ok (.iload 4, 2) := by decide +kernel
theorem d_L_law_1296 : decode code 1296 = .ok (.iconst 2, 1) := by decide +kernel
theorem d_L_law_1297 : decode code 1297 = .ok (.iadd, 1) := by decide +kernel
theorem d_L_law_1298 : decode code 1298 = .ok (.iaload, 1) := by decide +kernel
theorem d_L_law_1299 : decode code 1299 = .ok (.invokevirtual 137, 3) := by decide +kernel
theorem d_L_law_1302 : decode code 1302 = .ok (.istore 6, 2) := by decide +kernel
theorem d_L_law_1304 : decode code 1304 = .ok (.aload_n 2, 1) := by decide +kernel
theorem d_L_law_1305 : decode code 1305 = .ok (.invokevirtual 83, 3) := by decide +kernel
theorem d_L_law_1308 : decode code 1308 = .ok (.iload 5, 2) := by decide +kernel
theorem d_L_law_1310 : decode code 1310 = .ok (.if_icmp .eq 5, 3) := by decide +kernel
theorem d_L_law_1313 : decode code 1313 = .ok (.iconst 0, 1) := by decide +kernel
theorem d_L_law_1314 : decode code 1314 = .ok (.ireturn, 1) := by decide +kernel
theorem d_L_law_1315 : decode code 1315 = .ok (.iload 5, 2) := by decide +kernel
theorem d_L_law_1317 : decode code 1317 = .ok (.ifCond .ne 15, 3) := by decide +kernel
theorem d_L_law_1320 : decode code 1320 = .ok (.aload_n 3, 1) := by decide +kernel
theorem d_L_law_1321 : decode code 1321 = .ok (.iconst 0, 1) := by decide +kernel
theorem d_L_law_1322 : decode code 1322 = .ok (.laload, 1) := by decide +kernel
theorem d_L_law_1323 : decode code 1323 = .ok (.iload 6, 2) := by decide +kernel
theorem d_L_law_1325 : decode code 1325 = .ok (.i2l, 1) := by decide +kernel
theorem d_L_law_1326 : decode code 1326 = .ok (.lcmp, 1) := by decide +kernel
theorem d_L_law_1327 : decode code 1327 = .ok (.ifCond .eq 5, 3) := by decide +kernel
theorem d_L_law_1330 : decode code 1330 = .ok (.iconst 0, 1) := by decide +kernel
theorem d_L_law_1331 : decode code 1331 = .ok (.ireturn, 1) := by decide +kernel
theorem d_L_law_1332 : decode code 1332 = .ok (.goto 3, 3) := by decide +kernel
theorem d_L_law_1335 : decode code 1335 = .ok (.iinc 4 7, 3) := by decide +kernel
theorem d_L_law_1338 : decode code 1338 = .ok (.goto (-1315), 3) := by decide +kernel
theorem d_L_law_1341 : decode code 1341 = .ok (.iconst 1, 1) := by decide +kernel
theorem d_L_law_1342 : decode code 1342 = .ok (.ireturn, 1) := by decide +kernel
