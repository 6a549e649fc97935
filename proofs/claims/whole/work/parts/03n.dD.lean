theorem d_D_init_0 : decode b_D_init 0 = .ok (.aload_n 0, 1) := by decide +kernel
theorem d_D_init_1 : decode b_D_init 1 = .ok (.invokespecial 1, 3) := by decide +kernel
theorem d_D_init_4 : decode b_D_init 4 = .ok (.aload_n 0, 1) := by decide +kernel
theorem d_D_init_5 : decode b_D_init 5 = .ok (.bipush 6, 2) := by decide +kernel
theorem d_D_init_7 : decode b_D_init 7 = .ok (.anewarray 9, 3) := by decide +kernel
theorem d_D_init_10 : decode b_D_init 10 = .ok (.putfield 11, 3) := by decide +kernel
theorem d_D_init_13 : decode b_D_init 13 = .ok (.iconst 0, 1) := by decide +kernel
theorem d_D_init_14 : decode b_D_init 14 = .ok (.istore_n 1, 1) := by decide +kernel
theorem d_D_init_15 : decode b_D_init 15 = .ok (.iload_n 1, 1) := by decide +kernel
theorem d_D_init_16 : decode b_D_init 16 = .ok (.bipush 6, 2) := by decide +kernel
theorem d_D_init_18 : decode b_D_init 18 = .ok (.if_icmp .ge 22, 3) := by decide +kernel
theorem d_D_init_21 : decode b_D_init 21 = .ok (.aload_n 0, 1) := by decide +kernel
theorem d_D_init_22 : decode b_D_init 22 = .ok (.getfield 11, 3) := by decide +kernel
theorem d_D_init_25 : decode b_D_init 25 = .ok (.iload_n 1, 1) := by decide +kernel
theorem d_D_init_26 : decode b_D_init 26 = .ok (.new 9, 3) := by decide +kernel
theorem d_D_init_29 : decode b_D_init 29 = .ok (.dup, 1) := by decide +kernel
theorem d_D_init_30 : decode b_D_init 30 = .ok (.invokespecial 15, 3) := by decide +kernel
theorem d_D_init_33 : decode b_D_init 33 = .ok (.aastore, 1) := by decide +kernel
theorem d_D_init_34 : decode b_D_init 34 = .ok (.iinc 1 1, 3) := by decide +kernel
theorem d_D_init_37 : decode b_D_init 37 = .ok (.goto (-22), 3) := by decide +kernel
theorem d_D_init_40 : decode b_D_init 40 = .ok (.aload_n 0, 1) := by decide +kernel
theorem d_D_init_41 : decode b_D_init 41 = .ok (.new 9, 3) := by decide +kernel
theorem d_D_init_44 : decode b_D_init 44 = .ok (.dup, 1) := by decide +kernel
theorem d_D_init_45 : decode b_D_init 45 = .ok (.invokespecial 15, 3) := by decide +kernel
theorem d_D_init_48 : decode b_D_init 48 = .ok (.putfield 16, 3) := by decide +kernel
theorem d_D_init_51 : decode b_D_init 51 = .ok (.return_, 1) := by decide +kernel
theorem d_D_shape_0 : decode b_D_shape 0 = .ok (.iload_n 1, 1) := by decide +kernel
theorem d_D_shape_1 : decode b_D_shape 1 = .ok (.invokestatic 20, 3) := by decide +kernel
theorem d_D_shape_4 : decode b_D_shape 4 = .ok (.iload_n 2, 1) := by decide +kernel
theorem d_D_shape_5 : decode b_D_shape 5 = .ok (.invokestatic 24, 3) := by decide +kernel
theorem d_D_shape_8 : decode b_D_shape 8 = .ok (.iload_n 3, 1) := by decide +kernel
theorem d_D_shape_9 : decode b_D_shape 9 = .ok (.invokestatic 24, 3) := by decide +kernel
theorem d_D_shape_12 : decode b_D_shape 12 = .ok (.aload_n 0, 1) := by decide +kernel
theorem d_D_shape_13 : decode b_D_shape 13 = .ok (.getfield 11, 3) := by decide +kernel
theorem d_D_shape_16 : decode b_D_shape 16 = .ok (.iload_n 1, 1) := by decide +kernel
theorem d_D_shape_17 : decode b_D_shape 17 = .ok (.aaload, 1) := by decide +kernel
theorem d_D_shape_18 : decode b_D_shape 18 = .ok (.iload_n 2, 1) := by decide +kernel
theorem d_D_shape_19 : decode b_D_shape 19 = .ok (.iload_n 3, 1) := by decide +kernel
theorem d_D_shape_20 : decode b_D_shape 20 = .ok (.invokevirtual 27, 3) := by decide +kernel
theorem d_D_shape_23 : decode b_D_shape 23 = .ok (.return_, 1) := by decide +kernel
theorem d_D_put_0 : decode b_D_put 0 = .ok (.aload_n 0, 1) := by decide +kernel
theorem d_D_put_1 : decode b_D_put 1 = .ok (.iload_n 1, 1) := by decide +kernel
theorem d_D_put_2 : decode b_D_put 2 = .ok (.iload_n 2, 1) := by decide +kernel
theorem d_D_put_3 : decode b_D_put 3 = .ok (.iload_n 3, 1) := by decide +kernel
theorem d_D_put_4 : decode b_D_put 4 = .ok (.invokevirtual 31, 3) := by decide +kernel
theorem d_D_put_7 : decode b_D_put 7 = .ok (.lload 4, 2) := by decide +kernel
theorem d_D_put_9 : decode b_D_put 9 = .ok (.invokestatic 35, 3) := by decide +kernel
theorem d_D_put_12 : decode b_D_put 12 = .ok (.aload_n 0, 1) := by decide +kernel
theorem d_D_put_13 : decode b_D_put 13 = .ok (.getfield 11, 3) := by decide +kernel
theorem d_D_put_16 : decode b_D_put 16 = .ok (.iload_n 1, 1) := by decide +kernel
theorem d_D_put_17 : decode b_D_put 17 = .ok (.aaload, 1) := by decide +kernel
theorem d_D_put_18 : decode b_D_put 18 = .ok (.iload_n 2, 1) := by decide +kernel
theorem d_D_put_19 : decode b_D_put 19 = .ok (.iload_n 3, 1) := by decide +kernel
theorem d_D_put_20 : decode b_D_put 20 = .ok (.lload 4, 2) := by decide +kernel
theorem d_D_put_22 : decode b_D_put 22 = .ok (.invokevirtual 39, 3) := by decide +kernel
theorem d_D_put_25 : decode b_D_put 25 = .ok (.return_, 1) := by decide +kernel
theorem d_D_drop_0 : decode b_D_drop 0 = .ok (.aload_n 0, 1) := by decide +kernel
theorem d_D_drop_1 : decode b_D_drop 1 = .ok (.iload_n 1, 1) := by decide +kernel
theorem d_D_drop_2 : decode b_D_drop 2 = .ok (.iload_n 2, 1) := by decide +kernel
theorem d_D_drop_3 : decode b_D_drop 3 = .ok (.iload_n 3, 1) := by decide +kernel
theorem d_D_drop_4 : decode b_D_drop 4 = .ok (.invokevirtual 31, 3) := by decide +kernel
theorem d_D_drop_7 : decode b_D_drop 7 = .ok (.aload_n 0, 1) := by decide +kernel
theorem d_D_drop_8 : decode b_D_drop 8 = .ok (.getfield 11, 3) := by decide +kernel
theorem d_D_drop_11 : decode b_D_drop 11 = .ok (.iload_n 1, 1) := by decide +kernel
theorem d_D_drop_12 : decode b_D_drop 12 = .ok (.aaload, 1) := by decide +kernel
theorem d_D_drop_13 : decode b_D_drop 13 = .ok (.iload_n 2, 1) := by decide +kernel
theorem d_D_drop_14 : decode b_D_drop 14 = .ok (.iload_n 3, 1) := by decide +kernel
theorem d_D_drop_15 : decode b_D_drop 15 = .ok (.invokevirtual 43, 3) := by decide +kernel
theorem d_D_drop_18 : decode b_D_drop 18 = .ok (.istore 4, 2) := by decide +kernel
theorem d_D_drop_20 : decode b_D_drop 20 = .ok (.aload_n 0, 1) := by decide +kernel
theorem d_D_drop_21 : decode b_D_drop 21 = .ok (.getfield 11, 3) := by decide +kernel
theorem d_D_drop_24 : decode b_D_drop 24 = .ok (.iload_n 1, 1) := by decide +kernel
theorem d_D_drop_25 : decode b_D_drop 25 = .ok (.aaload, 1) := by decide +kernel
theorem d_D_drop_26 : decode b_D_drop 26 = .ok (.iload_n 2, 1) := by decide +kernel
theorem d_D_drop_27 : decode b_D_drop 27 = .ok (.iload_n 3, 1) := by decide +kernel
theorem d_D_drop_28 : decode b_D_drop 28 = .ok (.invokevirtual 47, 3) := by decide +kernel
theorem d_D_drop_31 : decode b_D_drop 31 = .ok (.iload 4, 2) := by decide +kernel
theorem d_D_drop_33 : decode b_D_drop 33 = .ok (.ireturn, 1) := by decide +kernel
theorem d_D_at_0 : decode b_D_at 0 = .ok (.aload_n 0, 1) := by decide +kernel
theorem d_D_at_1 : decode b_D_at 1 = .ok (.iload_n 1, 1) := by decide +kernel
theorem d_D_at_2 : decode b_D_at 2 = .ok (.iload_n 2, 1) := by decide +kernel
theorem d_D_at_3 : decode b_D_at 3 = .ok (.iload_n 3, 1) := by decide +kernel
theorem d_D_at_4 : decode b_D_at 4 = .ok (.invokevirtual 31, 3) := by decide +kernel
theorem d_D_at_7 : decode b_D_at 7 = .ok (.aload_n 0, 1) := by decide +kernel
theorem d_D_at_8 : decode b_D_at 8 = .ok (.getfield 11, 3) := by decide +kernel
theorem d_D_at_11 : decode b_D_at 11 = .ok (.iload_n 1, 1) := by decide +kernel
theorem d_D_at_12 : decode b_D_at 12 = .ok (.aaload, 1) := by decide +kernel
theorem d_D_at_13 : decode b_D_at 13 = .ok (.iload_n 2, 1) := by decide +kernel
theorem d_D_at_14 : decode b_D_at 14 = .ok (.iload_n 3, 1) := by decide +kernel
theorem d_D_at_15 : decode b_D_at 15 = .ok (.invokevirtual 43, 3) := by decide +kernel
theorem d_D_at_18 : decode b_D_at 18 = .ok (.invokestatic 50, 3) := by decide +kernel
theorem d_D_at_21 : decode b_D_at 21 = .ok (.aload_n 0, 1) := by decide +kernel
theorem d_D_at_22 : decode b_D_at 22 = .ok (.getfield 11, 3) := by decide +kernel
theorem d_D_at_25 : decode b_D_at 25 = .ok (.iload_n 1, 1) := by decide +kernel
theorem d_D_at_26 : decode b_D_at 26 = .ok (.aaload, 1) := by decide +kernel
theorem d_D_at_27 : decode b_D_at 27 = .ok (.iload_n 2, 1) := by decide +kernel
theorem d_D_at_28 : decode b_D_at 28 = .ok (.iload_n 3, 1) := by decide +kernel
theorem d_D_at_29 : decode b_D_at 29 = .ok (.invokevirtual 54, 3) := by decide +kernel
theorem d_D_at_32 : decode b_D_at 32 = .ok (.lreturn, 1) := by decide +kernel
theorem d_D_size_0 : decode b_D_size 0 = .ok (.iload_n 1, 1) := by decide +kernel
theorem d_D_size_1 : decode b_D_size 1 = .ok (.invokestatic 20, 3) := by decide +kernel
theorem d_D_size_4 : decode b_D_size 4 = .ok (.aload_n 0, 1) := by decide +kernel
theorem d_D_size_5 : decode b_D_size 5 = .ok (.getfield 11, 3) := by decide +kernel
theorem d_D_size_8 : decode b_D_size 8 = .ok (.iload_n 1, 1) := by decide +kernel
theorem d_D_size_9 : decode b_D_size 9 = .ok (.aaload, 1) := by decide +kernel
theorem d_D_size_10 : decode b_D_size 10 = .ok (.astore_n 2, 1) := by decide +kernel
theorem d_D_size_11 : decode b_D_size 11 = .ok (.aload_n 2, 1) := by decide +kernel
theorem d_D_size_12 : decode b_D_size 12 = .ok (.getfield 58, 3) := by decide +kernel
theorem d_D_size_15 : decode b_D_size 15 = .ok (.bipush 16, 2) := by decide +kernel
theorem d_D_size_17 : decode b_D_size 17 = .ok (.aload_n 2, 1) := by decide +kernel
theorem d_D_size_18 : decode b_D_size 18 = .ok (.getfield 62, 3) := by decide +kernel
theorem d_D_size_21 : decode b_D_size 21 = .ok (.imul, 1) := by decide +kernel
theorem d_D_size_22 : decode b_D_size 22 = .ok (.iadd, 1) := by decide +kernel
theorem d_D_size_23 : decode b_D_size 23 = .ok (.sipush 256, 3) := by decide +kernel
theorem d_D_size_26 : decode b_D_size 26 = .ok (.aload_n 2, 1) := by decide +kernel
theorem d_D_size_27 : decode b_D_size 27 = .ok (.invokevirtual 65, 3) := by decide +kernel
theorem d_D_size_30 : decode b_D_size 30 = .ok (.imul, 1) := by decide +kernel
theorem d_D_size_31 : decode b_D_size 31 = .ok (.iadd, 1) := by decide +kernel
theorem d_D_size_32 : decode b_D_size 32 = .ok (.ireturn, 1) := by decide +kernel
theorem d_D_multiply_0 : decode b_D_multiply 0 = .ok (.iload_n 1, 1) := by decide +kernel
theorem d_D_multiply_1 : decode b_D_multiply 1 = .ok (.iload_n 2, 1) := by decide +kernel
theorem d_D_multiply_2 : decode b_D_multiply 2 = .ok (.iload_n 3, 1) := by decide +kernel
theorem d_D_multiply_3 : decode b_D_multiply 3 = .ok (.iload 4, 2) := by decide +kernel
theorem d_D_multiply_5 : decode b_D_multiply 5 = .ok (.invokestatic 69, 3) := by decide +kernel
theorem d_D_multiply_8 : decode b_D_multiply 8 = .ok (.iload 5, 2) := by decide +kernel
theorem d_D_multiply_10 : decode b_D_multiply 10 = .ok (.invokestatic 73, 3) := by decide +kernel
theorem d_D_multiply_13 : decode b_D_multiply 13 = .ok (.iload 6, 2) := by decide +kernel
theorem d_D_multiply_15 : decode b_D_multiply 15 = .ok (.iconst 3, 1) := by decide +kernel
theorem d_D_multiply_16 : decode b_D_multiply 16 = .ok (.invokestatic 76, 3) := by decide +kernel
theorem d_D_multiply_19 : decode b_D_multiply 19 = .ok (.aload_n 0, 1) := by decide +kernel
theorem d_D_multiply_20 : decode b_D_multiply 20 = .ok (.getfield 11, 3) := by decide +kernel
theorem d_D_multiply_23 : decode b_D_multiply 23 = .ok (.iload_n 2, 1) := by decide +kernel
theorem d_D_multiply_24 : decode b_D_multiply 24 = .ok (.aaload, 1) := by decide +kernel
theorem d_D_multiply_25 : decode b_D_multiply 25 = .ok (.astore 7, 2) := by decide +kernel
theorem d_D_multiply_27 : decode b_D_multiply 27 = .ok (.aload_n 0, 1) := by decide +kernel
theorem d_D_multiply_28 : decode b_D_multiply 28 = .ok (.getfield 11, 3) := by decide +kernel
theorem d_D_multiply_31 : decode b_D_multiply 31 = .ok (.iload_n 3, 1) := by decide +kernel
theorem d_D_multiply_32 : decode b_D_multiply 32 = .ok (.aaload, 1) := by decide +kernel
theorem d_D_multiply_33 : decode b_D_multiply 33 = .ok (.astore 8, 2) := by decide +kernel
theorem d_D_multiply_35 : decode b_D_multiply 35 = .ok (.aload 7, 2) := by decide +kernel
theorem d_D_multiply_37 : decode b_D_multiply 37 = .ok (.getfield 62, 3) := by decide +kernel
theorem d_D_multiply_40 : decode b_D_multiply 40 = .ok (.aload 8, 2) := by decide +kernel
theorem d_D_multiply_42 : decode b_D_multiply 42 = .ok (.getfield 58, 3) := by decide +kernel
theorem d_D_multiply_45 : decode b_D_multiply 45 = .ok (.if_icmp .ne 7, 3) := by decide +kernel
theorem d_D_multiply_48 : decode b_D_multiply 48 = .ok (.iconst 1, 1) := by decide +kernel
theorem d_D_multiply_49 : decode b_D_multiply 49 = .ok (.goto 4, 3) := by decide +kernel
theorem d_D_multiply_52 : decode b_D_multiply 52 = .ok (.iconst 0, 1) := by decide +kernel
theorem d_D_multiply_53 : decode b_D_multiply 53 = .ok (.invokestatic 79, 3) := by decide +kernel
theorem d_D_multiply_56 : decode b_D_multiply 56 = .ok (.iload 5, 2) := by decide +kernel
theorem d_D_multiply_58 : decode b_D_multiply 58 = .ok (.iconst (-1), 1) := by decide +kernel
theorem d_D_multiply_59 : decode b_D_multiply 59 = .ok (.if_icmp .eq 26, 3) := by decide +kernel
theorem d_D_multiply_62 : decode b_D_multiply 62 = .ok (.aload_n 0, 1) := by decide +kernel
theorem d_D_multiply_63 : decode b_D_multiply 63 = .ok (.getfield 11, 3) := by decide +kernel
theorem d_D_multiply_66 : decode b_D_multiply 66 = .ok (.iload 5, 2) := by decide +kernel
theorem d_D_multiply_68 : decode b_D_multiply 68 = .ok (.aaload, 1) := by decide +kernel
theorem d_D_multiply_69 : decode b_D_multiply 69 = .ok (.aload 7, 2) := by decide +kernel
theorem d_D_multiply_71 : decode b_D_multiply 71 = .ok (.getfield 58, 3) := by decide +kernel
theorem d_D_multiply_74 : decode b_D_multiply 74 = .ok (.aload 8, 2) := by decide +kernel
theorem d_D_multiply_76 : decode b_D_multiply 76 = .ok (.getfield 62, 3) := by decide +kernel
theorem d_D_multiply_79 : decode b_D_multiply 79 = .ok (.invokevirtual 82, 3) := by decide +kernel
theorem d_D_multiply_82 : decode b_D_multiply 82 = .ok (.ifCond .eq 7, 3) := by decide +kernel
theorem d_D_multiply_85 : decode b_D_multiply 85 = .ok (.iconst 1, 1) := by decide +kernel
theorem d_D_multiply_86 : decode b_D_multiply 86 = .ok (.goto 4, 3) := by decide +kernel
theorem d_D_multiply_89 : decode b_D_multiply 89 = .ok (.iconst 0, 1) := by decide +kernel
theorem d_D_multiply_90 : decode b_D_multiply 90 = .ok (.invokestatic 79, 3) := by decide +kernel
theorem d_D_multiply_93 : decode b_D_multiply 93 = .ok (.iload 6, 2) := by decide +kernel
theorem d_D_multiply_95 : decode b_D_multiply 95 = .ok (.iconst 2, 1) := by decide +kernel
theorem d_D_multiply_96 : decode b_D_multiply 96 = .ok (.iand, 1) := by decide +kernel
theorem d_D_multiply_97 : decode b_D_multiply 97 = .ok (.ifCond .eq 7, 3) := by decide +kernel
theorem d_D_multiply_100 : decode b_D_multiply 100 = .ok (.iconst 1, 1) := by decide +kernel
theorem d_D_multiply_101 : decode b_D_multiply 101 = .ok (.goto 4, 3) := by decide +kernel
theorem d_D_multiply_104 : decode b_D_multiply 104 = .ok (.iconst 0, 1) := by decide +kernel
theorem d_D_multiply_105 : decode b_D_multiply 105 = .ok (.istore 9, 2) := by decide +kernel
theorem d_D_multiply_107 : decode b_D_multiply 107 = .ok (.iload 9, 2) := by decide +kernel
theorem d_D_multiply_109 : decode b_D_multiply 109 = .ok (.ifCond .eq 25, 3) := by decide +kernel
theorem d_D_multiply_112 : decode b_D_multiply 112 = .ok (.aload_n 0, 1) := by decide +kernel
theorem d_D_multiply_113 : decode b_D_multiply 113 = .ok (.getfield 11, 3) := by decide +kernel
theorem d_D_multiply_116 : decode b_D_multiply 116 = .ok (.iload_n 1, 1) := by decide +kernel
theorem d_D_multiply_117 : decode b_D_multiply 117 = .ok (.aaload, 1) := by decide +kernel
theorem d_D_multiply_118 : decode b_D_multiply 118 = .ok (.aload 7, 2) := by decide +kernel
theorem d_D_multiply_120 : decode b_D_multiply 120 = .ok (.getfield 58, 3) := by decide +kernel
theorem d_D_multiply_123 : decode b_D_multiply 123 = .ok (.aload 8, 2) := by decide +kernel
theorem d_D_multiply_125 : decode b_D_multiply 125 = .ok (.getfield 62, 3) := by decide +kernel
theorem d_D_multiply_128 : decode b_D_multiply 128 = .ok (.invokevirtual 82, 3) := by decide +kernel
theorem d_D_multiply_131 : decode b_D_multiply 131 = .ok (.ifCond .eq 7, 3) := by decide +kernel
theorem d_D_multiply_134 : decode b_D_multiply 134 = .ok (.iconst 1, 1) := by decide +kernel
theorem d_D_multiply_135 : decode b_D_multiply 135 = .ok (.goto 4, 3) := by decide +kernel
theorem d_D_multiply_138 : decode b_D_multiply 138 = .ok (.iconst 0, 1) := by decide +kernel
theorem d_D_multiply_139 : decode b_D_multiply 139 = .ok (.invokestatic 79, 3) := by decide +kernel
theorem d_D_multiply_142 : decode b_D_multiply 142 = .ok (.aload_n 0, 1) := by decide +kernel
theorem d_D_multiply_143 : decode b_D_multiply 143 = .ok (.aload 7, 2) := by decide +kernel
theorem d_D_multiply_145 : decode b_D_multiply 145 = .ok (.getfield 58, 3) := by decide +kernel
theorem d_D_multiply_148 : decode b_D_multiply 148 = .ok (.aload 8, 2) := by decide +kernel
theorem d_D_multiply_150 : decode b_D_multiply 150 = .ok (.getfield 62, 3) := by decide +kernel
theorem d_D_multiply_153 : decode b_D_multiply 153 = .ok (.invokevirtual 85, 3) := by decide +kernel
theorem d_D_multiply_156 : decode b_D_multiply 156 = .ok (.astore 10, 2) := by decide +kernel
theorem d_D_multiply_158 : decode b_D_multiply 158 = .ok (.iload 6, 2) := by decide +kernel
theorem d_D_multiply_160 : decode b_D_multiply 160 = .ok (.iconst 1, 1) := by decide +kernel
theorem d_D_multiply_161 : decode b_D_multiply 161 = .ok (.iand, 1) := by decide +kernel
theorem d_D_multiply_162 : decode b_D_multiply 162 = .ok (.ifCond .eq 7, 3) := by decide +kernel
theorem d_D_multiply_165 : decode b_D_multiply 165 = .ok (.iconst 1, 1) := by decide +kernel
theorem d_D_multiply_166 : decode b_D_multiply 166 = .ok (.goto 4, 3) := by decide +kernel
theorem d_D_multiply_169 : decode b_D_multiply 169 = .ok (.iconst 0, 1) := by decide +kernel
theorem d_D_multiply_170 : decode b_D_multiply 170 = .ok (.istore 11, 2) := by decide +kernel
theorem d_D_multiply_172 : decode b_D_multiply 172 = .ok (.iconst 0, 1) := by decide +kernel
theorem d_D_multiply_173 : decode b_D_multiply 173 = .ok (.istore 12, 2) := by decide +kernel
theorem d_D_multiply_175 : decode b_D_multiply 175 = .ok (.iload 12, 2) := by decide +kernel
theorem d_D_multiply_177 : decode b_D_multiply 177 = .ok (.aload 10, 2) := by decide +kernel
theorem d_D_multiply_179 : decode b_D_multiply 179 = .ok (.getfield 58, 3) := by decide +kernel
theorem d_D_multiply_182 : decode b_D_multiply 182 = .ok (.if_icmp .ge 68, 3) := by decide +kernel
theorem d_D_multiply_185 : decode b_D_multiply 185 = .ok (.iconst 0, 1) := by decide +kernel
theorem d_D_multiply_186 : decode b_D_multiply 186 = .ok (.istore 13, 2) := by decide +kernel
theorem d_D_multiply_188 : decode b_D_multiply 188 = .ok (.iload 13, 2) := by decide +kernel
theorem d_D_multiply_190 : decode b_D_multiply 190 = .ok (.aload 10, 2) := by decide +kernel
theorem d_D_multiply_192 : decode b_D_multiply 192 = .ok (.getfield 62, 3) := by decide +kernel
theorem d_D_multiply_195 : decode b_D_multiply 195 = .ok (.if_icmp .ge 49, 3) := by decide +kernel
theorem d_D_multiply_198 : decode b_D_multiply 198 = .ok (.iload 5, 2) := by decide +kernel
theorem d_D_multiply_200 : decode b_D_multiply 200 = .ok (.iconst (-1), 1) := by decide +kernel
theorem d_D_multiply_201 : decode b_D_multiply 201 = .ok (.if_icmp .eq 22, 3) := by decide +kernel
theorem d_D_multiply_204 : decode b_D_multiply 204 = .ok (.aload_n 0, 1) := by decide +kernel
theorem d_D_multiply_205 : decode b_D_multiply 205 = .ok (.getfield 11, 3) := by decide +kernel
theorem d_D_multiply_208 : decode b_D_multiply 208 = .ok (.iload 5, 2) := by decide +kernel
theorem d_D_multiply_210 : decode b_D_multiply 210 = .ok (.aaload, 1) := by decide +kernel
theorem d_D_multiply_211 : decode b_D_multiply 211 = .ok (.iload 12, 2) := by decide +kernel
theorem d_D_multiply_213 : decode b_D_multiply 213 = .ok (.iload 13, 2) := by decide +kernel
theorem d_D_multiply_215 : decode b_D_multiply 215 = .ok (.invokevirtual 43, 3) := by decide +kernel
theorem d_D_multiply_218 : decode b_D_multiply 218 = .ok (.iload 11, 2) := by decide +kernel
theorem d_D_multiply_220 : decode b_D_multiply 220 = .ok (.if_icmp .eq 18, 3) := by decide +kernel
theorem d_D_multiply_223 : decode b_D_multiply 223 = .ok (.aload 10, 2) := by decide +kernel
theorem d_D_multiply_225 : decode b_D_multiply 225 = .ok (.aload 7, 2) := by decide +kernel
theorem d_D_multiply_227 : decode b_D_multiply 227 = .ok (.aload 8, 2) := by decide +kernel
theorem d_D_multiply_229 : decode b_D_multiply 229 = .ok (.iload 12, 2) := by decide +kernel
theorem d_D_multiply_231 : decode b_D_multiply 231 = .ok (.iload 13, 2) := by decide +kernel
theorem d_D_multiply_233 : decode b_D_multiply 233 = .ok (.iload 4, 2) := by decide +kernel
theorem d_D_multiply_235 : decode b_D_multiply 235 = .ok (.invokestatic 89, 3) := by decide +kernel
theorem d_D_multiply_238 : decode b_D_multiply 238 = .ok (.iinc 13 1, 3) := by decide +kernel
theorem d_D_multiply_241 : decode b_D_multiply 241 = .ok (.goto (-53), 3) := by decide +kernel
theorem d_D_multiply_244 : decode b_D_multiply 244 = .ok (.iinc 12 1, 3) := by decide +kernel
theorem d_D_multiply_247 : decode b_D_multiply 247 = .ok (.goto (-72), 3) := by decide +kernel
theorem d_D_multiply_250 : decode b_D_multiply 250 = .ok (.iload 9, 2) := by decide +kernel
theorem d_D_multiply_252 : decode b_D_multiply 252 = .ok (.ifCond .eq 16, 3) := by decide +kernel
theorem d_D_multiply_255 : decode b_D_multiply 255 = .ok (.aload 10, 2) := by decide +kernel
theorem d_D_multiply_257 : decode b_D_multiply 257 = .ok (.aload_n 0, 1) := by decide +kernel
theorem d_D_multiply_258 : decode b_D_multiply 258 = .ok (.getfield 11, 3) := by decide +kernel
theorem d_D_multiply_261 : decode b_D_multiply 261 = .ok (.iload_n 1, 1) := by decide +kernel
theorem d_D_multiply_262 : decode b_D_multiply 262 = .ok (.aaload, 1) := by decide +kernel
theorem d_D_multiply_263 : decode b_D_multiply 263 = .ok (.iload 4, 2) := by decide +kernel
theorem d_D_multiply_265 : decode b_D_multiply 265 = .ok (.invokestatic 93, 3) := by decide +kernel
theorem d_D_multiply_268 : decode b_D_multiply 268 = .ok (.aload 10, 2) := by decide +kernel
theorem d_D_multiply_270 : decode b_D_multiply 270 = .ok (.iload 4, 2) := by decide +kernel
theorem d_D_multiply_272 : decode b_D_multiply 272 = .ok (.invokestatic 97, 3) := by decide +kernel
theorem d_D_multiply_275 : decode b_D_multiply 275 = .ok (.aload_n 0, 1) := by decide +kernel
theorem d_D_multiply_276 : decode b_D_multiply 276 = .ok (.iload_n 1, 1) := by decide +kernel
theorem d_D_multiply_277 : decode b_D_multiply 277 = .ok (.invokevirtual 101, 3) := by decide +kernel
theorem d_D_multiply_280 : decode b_D_multiply 280 = .ok (.ireturn, 1) := by decide +kernel
theorem d_D_add_0 : decode b_D_add 0 = .ok (.iload_n 1, 1) := by decide +kernel
theorem d_D_add_1 : decode b_D_add 1 = .ok (.iload_n 2, 1) := by decide +kernel
theorem d_D_add_2 : decode b_D_add 2 = .ok (.iload_n 3, 1) := by decide +kernel
theorem d_D_add_3 : decode b_D_add 3 = .ok (.iload 4, 2) := by decide +kernel
theorem d_D_add_5 : decode b_D_add 5 = .ok (.invokestatic 69, 3) := by decide +kernel
theorem d_D_add_8 : decode b_D_add 8 = .ok (.aload_n 0, 1) := by decide +kernel
theorem d_D_add_9 : decode b_D_add 9 = .ok (.iload_n 2, 1) := by decide +kernel
theorem d_D_add_10 : decode b_D_add 10 = .ok (.iload_n 3, 1) := by decide +kernel
theorem d_D_add_11 : decode b_D_add 11 = .ok (.invokevirtual 105, 3) := by decide +kernel
theorem d_D_add_14 : decode b_D_add 14 = .ok (.aload_n 0, 1) := by decide +kernel
theorem d_D_add_15 : decode b_D_add 15 = .ok (.aload_n 0, 1) := by decide +kernel
theorem d_D_add_16 : decode b_D_add 16 = .ok (.getfield 11, 3) := by decide +kernel
theorem d_D_add_19 : decode b_D_add 19 = .ok (.iload_n 2, 1) := by decide +kernel
theorem d_D_add_20 : decode b_D_add 20 = .ok (.aaload, 1) := by decide +kernel
theorem d_D_add_21 : decode b_D_add 21 = .ok (.getfield 58, 3) := by decide +kernel
theorem d_D_add_24 : decode b_D_add 24 = .ok (.aload_n 0, 1) := by decide +kernel
theorem d_D_add_25 : decode b_D_add 25 = .ok (.getfield 11, 3) := by decide +kernel
theorem d_D_add_28 : decode b_D_add 28 = .ok (.iload_n 2, 1) := by decide +kernel
theorem d_D_add_29 : decode b_D_add 29 = .ok (.aaload, 1) := by decide +kernel
theorem d_D_add_30 : decode b_D_add 30 = .ok (.getfield 62, 3) := by decide +kernel
theorem d_D_add_33 : decode b_D_add 33 = .ok (.invokevirtual 85, 3) := by decide +kernel
theorem d_D_add_36 : decode b_D_add 36 = .ok (.astore 5, 2) := by decide +kernel
theorem d_D_add_38 : decode b_D_add 38 = .ok (.aload 5, 2) := by decide +kernel
theorem d_D_add_40 : decode b_D_add 40 = .ok (.aload_n 0, 1) := by decide +kernel
theorem d_D_add_41 : decode b_D_add 41 = .ok (.getfield 11, 3) := by decide +kernel
theorem d_D_add_44 : decode b_D_add 44 = .ok (.iload_n 2, 1) := by decide +kernel
theorem d_D_add_45 : decode b_D_add 45 = .ok (.aaload, 1) := by decide +kernel
theorem d_D_add_46 : decode b_D_add 46 = .ok (.iload 4, 2) := by decide +kernel
theorem d_D_add_48 : decode b_D_add 48 = .ok (.invokestatic 93, 3) := by decide +kernel
theorem d_D_add_51 : decode b_D_add 51 = .ok (.aload 5, 2) := by decide +kernel
theorem d_D_add_53 : decode b_D_add 53 = .ok (.aload_n 0, 1) := by decide +kernel
theorem d_D_add_54 : decode b_D_add 54 = .ok (.getfield 11, 3) := by decide +kernel
theorem d_D_add_57 : decode b_D_add 57 = .ok (.iload_n 3, 1) := by decide +kernel
theorem d_D_add_58 : decode b_D_add 58 = .ok (.aaload, 1) := by decide +kernel
theorem d_D_add_59 : decode b_D_add 59 = .ok (.iload 4, 2) := by decide +kernel
theorem d_D_add_61 : decode b_D_add 61 = .ok (.invokestatic 93, 3) := by decide +kernel
theorem d_D_add_64 : decode b_D_add 64 = .ok (.aload 5, 2) := by decide +kernel
theorem d_D_add_66 : decode b_D_add 66 = .ok (.iload 4, 2) := by decide +kernel
theorem d_D_add_68 : decode b_D_add 68 = .ok (.invokestatic 97, 3) := by decide +kernel
theorem d_D_add_71 : decode b_D_add 71 = .ok (.aload_n 0, 1) := by decide +kernel
theorem d_D_add_72 : decode b_D_add 72 = .ok (.iload_n 1, 1) := by decide +kernel
theorem d_D_add_73 : decode b_D_add 73 = .ok (.invokevirtual 101, 3) := by decide +kernel
theorem d_D_add_76 : decode b_D_add 76 = .ok (.ireturn, 1) := by decide +kernel
theorem d_D_each_0 : decode b_D_each 0 = .ok (.iload_n 1, 1) := by decide +kernel
theorem d_D_each_1 : decode b_D_each 1 = .ok (.iload_n 2, 1) := by decide +kernel
theorem d_D_each_2 : decode b_D_each 2 = .ok (.iload_n 3, 1) := by decide +kernel
theorem d_D_each_3 : decode b_D_each 3 = .ok (.iload 4, 2) := by decide +kernel
theorem d_D_each_5 : decode b_D_each 5 = .ok (.invokestatic 69, 3) := by decide +kernel
theorem d_D_each_8 : decode b_D_each 8 = .ok (.aload_n 0, 1) := by decide +kernel
theorem d_D_each_9 : decode b_D_each 9 = .ok (.iload_n 2, 1) := by decide +kernel
theorem d_D_each_10 : decode b_D_each 10 = .ok (.iload_n 3, 1) := by decide +kernel
theorem d_D_each_11 : decode b_D_each 11 = .ok (.invokevirtual 105, 3) := by decide +kernel
theorem d_D_each_14 : decode b_D_each 14 = .ok (.aload_n 0, 1) := by decide +kernel
theorem d_D_each_15 : decode b_D_each 15 = .ok (.getfield 11, 3) := by decide +kernel
theorem d_D_each_18 : decode b_D_each 18 = .ok (.iload_n 2, 1) := by decide +kernel
theorem d_D_each_19 : decode b_D_each 19 = .ok (.aaload, 1) := by decide +kernel
theorem d_D_each_20 : decode b_D_each 20 = .ok (.astore 5, 2) := by decide +kernel
theorem d_D_each_22 : decode b_D_each 22 = .ok (.aload_n 0, 1) := by decide +kernel
theorem d_D_each_23 : decode b_D_each 23 = .ok (.getfield 11, 3) := by decide +kernel
theorem d_D_each_26 : decode b_D_each 26 = .ok (.iload_n 3, 1) := by decide +kernel
theorem d_D_each_27 : decode b_D_each 27 = .ok (.aaload, 1) := by decide +kernel
theorem d_D_each_28 : decode b_D_each 28 = .ok (.astore 6, 2) := by decide +kernel
theorem d_D_each_30 : decode b_D_each 30 = .ok (.aload_n 0, 1) := by decide +kernel
theorem d_D_each_31 : decode b_D_each 31 = .ok (.aload 5, 2) := by decide +kernel
theorem d_D_each_33 : decode b_D_each 33 = .ok (.getfield 58, 3) := by decide +kernel
theorem d_D_each_36 : decode b_D_each 36 = .ok (.aload 5, 2) := by decide +kernel
theorem d_D_each_38 : decode b_D_each 38 = .ok (.getfield 62, 3) := by decide +kernel
theorem d_D_each_41 : decode b_D_each 41 = .ok (.invokevirtual 85, 3) := by decide +kernel
theorem d_D_each_44 : decode b_D_each 44 = .ok (.astore 7, 2) := by decide +kernel
theorem d_D_each_46 : decode b_D_each 46 = .ok (.iconst 0, 1) := by decide +kernel
theorem d_D_each_47 : decode b_D_each 47 = .ok (.istore 8, 2) := by decide +kernel
theorem d_D_each_49 : decode b_D_each 49 = .ok (.iload 8, 2) := by decide +kernel
theorem d_D_each_51 : decode b_D_each 51 = .ok (.aload 7, 2) := by decide +kernel
theorem d_D_each_53 : decode b_D_each 53 = .ok (.getfield 58, 3) := by decide +kernel
theorem d_D_each_56 : decode b_D_each 56 = .ok (.if_icmp .ge 84, 3) := by decide +kernel
theorem d_D_each_59 : decode b_D_each 59 = .ok (.iconst 0, 1) := by decide +kernel
theorem d_D_each_60 : decode b_D_each 60 = .ok (.istore 9, 2) := by decide +kernel
theorem d_D_each_62 : decode b_D_each 62 = .ok (.iload 9, 2) := by decide +kernel
theorem d_D_each_64 : decode b_D_each 64 = .ok (.aload 7, 2) := by decide +kernel
theorem d_D_each_66 : decode b_D_each 66 = .ok (.getfield 62, 3) := by decide +kernel
theorem d_D_each_69 : decode b_D_each 69 = .ok (.if_icmp .ge 65, 3) := by decide +kernel
theorem d_D_each_72 : decode b_D_each 72 = .ok (.aload 5, 2) := by decide +kernel
theorem d_D_each_74 : decode b_D_each 74 = .ok (.iload 8, 2) := by decide +kernel
theorem d_D_each_76 : decode b_D_each 76 = .ok (.iload 9, 2) := by decide +kernel
theorem d_D_each_78 : decode b_D_each 78 = .ok (.invokevirtual 43, 3) := by decide +kernel
theorem d_D_each_81 : decode b_D_each 81 = .ok (.ifCond .eq 47, 3) := by decide +kernel
theorem d_D_each_84 : decode b_D_each 84 = .ok (.aload 6, 2) := by decide +kernel
theorem d_D_each_86 : decode b_D_each 86 = .ok (.iload 8, 2) := by decide +kernel
theorem d_D_each_88 : decode b_D_each 88 = .ok (.iload 9, 2) := by decide +kernel
theorem d_D_each_90 : decode b_D_each 90 = .ok (.invokevirtual 43, 3) := by decide +kernel
theorem d_D_each_93 : decode b_D_each 93 = .ok (.ifCond .eq 35, 3) := by decide +kernel
theorem d_D_each_96 : decode b_D_each 96 = .ok (.aload 7, 2) := by decide +kernel
theorem d_D_each_98 : decode b_D_each 98 = .ok (.iload 8, 2) := by decide +kernel
theorem d_D_each_100 : decode b_D_each 100 = .ok (.iload 9, 2) := by decide +kernel
theorem d_D_each_102 : decode b_D_each 102 = .ok (.iload 4, 2) := by decide +kernel
theorem d_D_each_104 : decode b_D_each 104 = .ok (.aload 5, 2) := by decide +kernel
theorem d_D_each_106 : decode b_D_each 106 = .ok (.iload 8, 2) := by decide +kernel
theorem d_D_each_108 : decode b_D_each 108 = .ok (.iload 9, 2) := by decide +kernel
theorem d_D_each_110 : decode b_D_each 110 = .ok (.invokevirtual 54, 3) := by decide +kernel
theorem d_D_each_113 : decode b_D_each 113 = .ok (.aload 6, 2) := by decide +kernel
theorem d_D_each_115 : decode b_D_each 115 = .ok (.iload 8, 2) := by decide +kernel
theorem d_D_each_117 : decode b_D_each 117 = .ok (.iload 9, 2) := by decide +kernel
theorem d_D_each_119 : decode b_D_each 119 = .ok (.invokevirtual 54, 3) := by decide +kernel
theorem d_D_each_122 : decode b_D_each 122 = .ok (.invokestatic 108, 3) := by decide +kernel
theorem d_D_each_125 : decode b_D_each 125 = .ok (.invokevirtual 39, 3) := by decide +kernel
theorem d_D_each_128 : decode b_D_each 128 = .ok (.iinc 9 1, 3) := by decide +kernel
theorem d_D_each_131 : decode b_D_each 131 = .ok (.goto (-69), 3) := by decide +kernel
theorem d_D_each_134 : decode b_D_each 134 = .ok (.iinc 8 1, 3) := by decide +kernel
theorem d_D_each_137 : decode b_D_each 137 = .ok (.goto (-88), 3) := by decide +kernel
theorem d_D_each_140 : decode b_D_each 140 = .ok (.aload 7, 2) := by decide +kernel
theorem d_D_each_142 : decode b_D_each 142 = .ok (.iload 4, 2) := by decide +kernel
theorem d_D_each_144 : decode b_D_each 144 = .ok (.invokestatic 97, 3) := by decide +kernel
theorem d_D_each_147 : decode b_D_each 147 = .ok (.aload_n 0, 1) := by decide +kernel
theorem d_D_each_148 : decode b_D_each 148 = .ok (.iload_n 1, 1) := by decide +kernel
theorem d_D_each_149 : decode b_D_each 149 = .ok (.invokevirtual 101, 3) := by decide +kernel
theorem d_D_each_152 : decode b_D_each 152 = .ok (.ireturn, 1) := by decide +kernel
theorem d_D_transpose_0 : decode b_D_transpose 0 = .ok (.iload_n 1, 1) := by decide +kernel
theorem d_D_transpose_1 : decode b_D_transpose 1 = .ok (.invokestatic 20, 3) := by decide +kernel
theorem d_D_transpose_4 : decode b_D_transpose 4 = .ok (.iload_n 2, 1) := by decide +kernel
theorem d_D_transpose_5 : decode b_D_transpose 5 = .ok (.invokestatic 20, 3) := by decide +kernel
theorem d_D_transpose_8 : decode b_D_transpose 8 = .ok (.aload_n 0, 1) := by decide +kernel
theorem d_D_transpose_9 : decode b_D_transpose 9 = .ok (.getfield 11, 3) := by decide +kernel
theorem d_D_transpose_12 : decode b_D_transpose 12 = .ok (.iload_n 2, 1) := by decide +kernel
theorem d_D_transpose_13 : decode b_D_transpose 13 = .ok (.aaload, 1) := by decide +kernel
theorem d_D_transpose_14 : decode b_D_transpose 14 = .ok (.astore_n 3, 1) := by decide +kernel
theorem d_D_transpose_15 : decode b_D_transpose 15 = .ok (.aload_n 0, 1) := by decide +kernel
theorem d_D_transpose_16 : decode b_D_transpose 16 = .ok (.aload_n 3, 1) := by decide +kernel
theorem d_D_transpose_17 : decode b_D_transpose 17 = .ok (.getfield 62, 3) := by decide +kernel
theorem d_D_transpose_20 : decode b_D_transpose 20 = .ok (.aload_n 3, 1) := by decide +kernel
theorem d_D_transpose_21 : decode b_D_transpose 21 = .ok (.getfield 58, 3) := by decide +kernel
theorem d_D_transpose_24 : decode b_D_transpose 24 = .ok (.invokevirtual 85, 3) := by decide +kernel
theorem d_D_transpose_27 : decode b_D_transpose 27 = .ok (.astore 4, 2) := by decide +kernel
theorem d_D_transpose_29 : decode b_D_transpose 29 = .ok (.iconst 0, 1) := by decide +kernel
theorem d_D_transpose_30 : decode b_D_transpose 30 = .ok (.istore 5, 2) := by decide +kernel
theorem d_D_transpose_32 : decode b_D_transpose 32 = .ok (.iload 5, 2) := by decide +kernel
theorem d_D_transpose_34 : decode b_D_transpose 34 = .ok (.aload_n 3, 1) := by decide +kernel
theorem d_D_transpose_35 : decode b_D_transpose 35 = .ok (.getfield 58, 3) := by decide +kernel
theorem d_D_transpose_38 : decode b_D_transpose 38 = .ok (.if_icmp .ge 55, 3) := by decide +kernel
theorem d_D_transpose_41 : decode b_D_transpose 41 = .ok (.iconst 0, 1) := by decide +kernel
theorem d_D_transpose_42 : decode b_D_transpose 42 = .ok (.istore 6, 2) := by decide +kernel
theorem d_D_transpose_44 : decode b_D_transpose 44 = .ok (.iload 6, 2) := by decide +kernel
theorem d_D_transpose_46 : decode b_D_transpose 46 = .ok (.aload_n 3, 1) := by decide +kernel
theorem d_D_transpose_47 : decode b_D_transpose 47 = .ok (.getfield 62, 3) := by decide +kernel
theorem d_D_transpose_50 : decode b_D_transpose 50 = .ok (.if_icmp .ge 37, 3) := by decide +kernel
theorem d_D_transpose_53 : decode b_D_transpose 53 = .ok (.aload_n 3, 1) := by decide +kernel
theorem d_D_transpose_54 : decode b_D_transpose 54 = .ok (.iload 5, 2) := by decide +kernel
theorem d_D_transpose_56 : decode b_D_transpose 56 = .ok (.iload 6, 2) := by decide +kernel
theorem d_D_transpose_58 : decode b_D_transpose 58 = .ok (.invokevirtual 43, 3) := by decide +kernel
theorem d_D_transpose_61 : decode b_D_transpose 61 = .ok (.ifCond .eq 20, 3) := by decide +kernel
theorem d_D_transpose_64 : decode b_D_transpose 64 = .ok (.aload 4, 2) := by decide +kernel
theorem d_D_transpose_66 : decode b_D_transpose 66 = .ok (.iload 6, 2) := by decide +kernel
theorem d_D_transpose_68 : decode b_D_transpose 68 = .ok (.iload 5, 2) := by decide +kernel
theorem d_D_transpose_70 : decode b_D_transpose 70 = .ok (.aload_n 3, 1) := by decide +kernel
theorem d_D_transpose_71 : decode b_D_transpose 71 = .ok (.iload 5, 2) := by decide +kernel
theorem d_D_transpose_73 : decode b_D_transpose 73 = .ok (.iload 6, 2) := by decide +kernel
theorem d_D_transpose_75 : decode b_D_transpose 75 = .ok (.invokevirtual 54, 3) := by decide +kernel
theorem d_D_transpose_78 : decode b_D_transpose 78 = .ok (.invokevirtual 39, 3) := by decide +kernel
theorem d_D_transpose_81 : decode b_D_transpose 81 = .ok (.iinc 6 1, 3) := by decide +kernel
theorem d_D_transpose_84 : decode b_D_transpose 84 = .ok (.goto (-40), 3) := by decide +kernel
theorem d_D_transpose_87 : decode b_D_transpose 87 = .ok (.iinc 5 1, 3) := by decide +kernel
theorem d_D_transpose_90 : decode b_D_transpose 90 = .ok (.goto (-58), 3) := by decide +kernel
theorem d_D_transpose_93 : decode b_D_transpose 93 = .ok (.aload_n 0, 1) := by decide +kernel
theorem d_D_transpose_94 : decode b_D_transpose 94 = .ok (.iload_n 1, 1) := by decide +kernel
theorem d_D_transpose_95 : decode b_D_transpose 95 = .ok (.invokevirtual 101, 3) := by decide +kernel
theorem d_D_transpose_98 : decode b_D_transpose 98 = .ok (.ireturn, 1) := by decide +kernel
theorem d_D_select_0 : decode b_D_select 0 = .ok (.iload_n 1, 1) := by decide +kernel
theorem d_D_select_1 : decode b_D_select 1 = .ok (.invokestatic 20, 3) := by decide +kernel
theorem d_D_select_4 : decode b_D_select 4 = .ok (.iload_n 2, 1) := by decide +kernel
theorem d_D_select_5 : decode b_D_select 5 = .ok (.invokestatic 20, 3) := by decide +kernel
theorem d_D_select_8 : decode b_D_select 8 = .ok (.iload_n 3, 1) := by decide +kernel
theorem d_D_select_9 : decode b_D_select 9 = .ok (.iconst 4, 1) := by decide +kernel
theorem d_D_select_10 : decode b_D_select 10 = .ok (.invokestatic 76, 3) := by decide +kernel
theorem d_D_select_13 : decode b_D_select 13 = .ok (.aload_n 0, 1) := by decide +kernel
theorem d_D_select_14 : decode b_D_select 14 = .ok (.getfield 11, 3) := by decide +kernel
theorem d_D_select_17 : decode b_D_select 17 = .ok (.iload_n 2, 1) := by decide +kernel
theorem d_D_select_18 : decode b_D_select 18 = .ok (.aaload, 1) := by decide +kernel
theorem d_D_select_19 : decode b_D_select 19 = .ok (.astore 6, 2) := by decide +kernel
theorem d_D_select_21 : decode b_D_select 21 = .ok (.aload_n 0, 1) := by decide +kernel
theorem d_D_select_22 : decode b_D_select 22 = .ok (.aload 6, 2) := by decide +kernel
theorem d_D_select_24 : decode b_D_select 24 = .ok (.getfield 58, 3) := by decide +kernel
theorem d_D_select_27 : decode b_D_select 27 = .ok (.aload 6, 2) := by decide +kernel
theorem d_D_select_29 : decode b_D_select 29 = .ok (.getfield 62, 3) := by decide +kernel
theorem d_D_select_32 : decode b_D_select 32 = .ok (.invokevirtual 85, 3) := by decide +kernel
theorem d_D_select_35 : decode b_D_select 35 = .ok (.astore 7, 2) := by decide +kernel
theorem d_D_select_37 : decode b_D_select 37 = .ok (.iconst 0, 1) := by decide +kernel
theorem d_D_select_38 : decode b_D_select 38 = .ok (.istore 8, 2) := by decide +kernel
theorem d_D_select_40 : decode b_D_select 40 = .ok (.iload 8, 2) := by decide +kernel
theorem d_D_select_42 : decode b_D_select 42 = .ok (.aload 6, 2) := by decide +kernel
theorem d_D_select_44 : decode b_D_select 44 = .ok (.getfield 58, 3) := by decide +kernel
theorem d_D_select_47 : decode b_D_select 47 = .ok (.if_icmp .ge 80, 3) := by decide +kernel
theorem d_D_select_50 : decode b_D_select 50 = .ok (.iconst 0, 1) := by decide +kernel
theorem d_D_select_51 : decode b_D_select 51 = .ok (.istore 9, 2) := by decide +kernel
theorem d_D_select_53 : decode b_D_select 53 = .ok (.iload 9, 2) := by decide +kernel
theorem d_D_select_55 : decode b_D_select 55 = .ok (.aload 6, 2) := by decide +kernel
theorem d_D_select_57 : decode b_D_select 57 = .ok (.getfield 62, 3) := by decide +kernel
theorem d_D_select_60 : decode b_D_select 60 = .ok (.if_icmp .ge 61, 3) := by decide +kernel
theorem d_D_select_63 : decode b_D_select 63 = .ok (.aload 6, 2) := by decide +kernel
theorem d_D_select_65 : decode b_D_select 65 = .ok (.iload 8, 2) := by decide +kernel
theorem d_D_select_67 : decode b_D_select 67 = .ok (.iload 9, 2) := by decide +kernel
theorem d_D_select_69 : decode b_D_select 69 = .ok (.invokevirtual 43, 3) := by decide +kernel
theorem d_D_select_72 : decode b_D_select 72 = .ok (.ifCond .eq 43, 3) := by decide +kernel
theorem d_D_select_75 : decode b_D_select 75 = .ok (.iload_n 3, 1) := by decide +kernel
theorem d_D_select_76 : decode b_D_select 76 = .ok (.iload 8, 2) := by decide +kernel
theorem d_D_select_78 : decode b_D_select 78 = .ok (.iload 9, 2) := by decide +kernel
theorem d_D_select_80 : decode b_D_select 80 = .ok (.aload 6, 2) := by decide +kernel
theorem d_D_select_82 : decode b_D_select 82 = .ok (.iload 8, 2) := by decide +kernel
theorem d_D_select_84 : decode b_D_select 84 = .ok (.iload 9, 2) := by decide +kernel
theorem d_D_select_86 : decode b_D_select 86 = .ok (.invokevirtual 54, 3) := by decide +kernel
theorem d_D_select_89 : decode b_D_select 89 = .ok (.lload 4, 2) := by decide +kernel
theorem d_D_select_91 : decode b_D_select 91 = .ok (.invokestatic 112, 3) := by decide +kernel
theorem d_D_select_94 : decode b_D_select 94 = .ok (.ifCond .eq 21, 3) := by decide +kernel
theorem d_D_select_97 : decode b_D_select 97 = .ok (.aload 7, 2) := by decide +kernel
theorem d_D_select_99 : decode b_D_select 99 = .ok (.iload 8, 2) := by decide +kernel
theorem d_D_select_101 : decode b_D_select 101 = .ok (.iload 9, 2) := by decide +kernel
theorem d_D_select_103 : decode b_D_select 103 = .ok (.aload 6, 2) := by decide +kernel
theorem d_D_select_105 : decode b_D_select 105 = .ok (.iload 8, 2) := by decide +kernel
theorem d_D_select_107 : decode b_D_select 107 = .ok (.iload 9, 2) := by decide +kernel
theorem d_D_select_109 : decode b_D_select 109 = .ok (.invokevirtual 54, 3) := by decide +kernel
theorem d_D_select_112 : decode b_D_select 112 = .ok (.invokevirtual 39, 3) := by decide +kernel
theorem d_D_select_115 : decode b_D_select 115 = .ok (.iinc 9 1, 3) := by decide +kernel
theorem d_D_select_118 : decode b_D_select 118 = .ok (.goto (-65), 3) := by decide +kernel
theorem d_D_select_121 : decode b_D_select 121 = .ok (.iinc 8 1, 3) := by decide +kernel
theorem d_D_select_124 : decode b_D_select 124 = .ok (.goto (-84), 3) := by decide +kernel
theorem d_D_select_127 : decode b_D_select 127 = .ok (.aload_n 0, 1) := by decide +kernel
theorem d_D_select_128 : decode b_D_select 128 = .ok (.iload_n 1, 1) := by decide +kernel
theorem d_D_select_129 : decode b_D_select 129 = .ok (.invokevirtual 101, 3) := by decide +kernel
theorem d_D_select_132 : decode b_D_select 132 = .ok (.ireturn, 1) := by decide +kernel
theorem d_D_reduce_0 : decode b_D_reduce 0 = .ok (.iload_n 1, 1) := by decide +kernel
theorem d_D_reduce_1 : decode b_D_reduce 1 = .ok (.invokestatic 20, 3) := by decide +kernel
theorem d_D_reduce_4 : decode b_D_reduce 4 = .ok (.iload_n 2, 1) := by decide +kernel
theorem d_D_reduce_5 : decode b_D_reduce 5 = .ok (.invokestatic 116, 3) := by decide +kernel
theorem d_D_reduce_8 : decode b_D_reduce 8 = .ok (.aload_n 0, 1) := by decide +kernel
theorem d_D_reduce_9 : decode b_D_reduce 9 = .ok (.getfield 11, 3) := by decide +kernel
theorem d_D_reduce_12 : decode b_D_reduce 12 = .ok (.iload_n 1, 1) := by decide +kernel
theorem d_D_reduce_13 : decode b_D_reduce 13 = .ok (.aaload, 1) := by decide +kernel
theorem d_D_reduce_14 : decode b_D_reduce 14 = .ok (.astore_n 3, 1) := by decide +kernel
theorem d_D_reduce_15 : decode b_D_reduce 15 = .ok (.aload_n 0, 1) := by decide +kernel
theorem d_D_reduce_16 : decode b_D_reduce 16 = .ok (.iconst 1, 1) := by decide +kernel
theorem d_D_reduce_17 : decode b_D_reduce 17 = .ok (.iconst 1, 1) := by decide +kernel
theorem d_D_reduce_18 : decode b_D_reduce 18 = .ok (.invokevirtual 85, 3) := by decide +kernel
theorem d_D_reduce_21 : decode b_D_reduce 21 = .ok (.astore 4, 2) := by decide +kernel
theorem d_D_reduce_23 : decode b_D_reduce 23 = .ok (.iconst 0, 1) := by decide +kernel
theorem d_D_reduce_24 : decode b_D_reduce 24 = .ok (.istore 5, 2) := by decide +kernel
theorem d_D_reduce_26 : decode b_D_reduce 26 = .ok (.iload 5, 2) := by decide +kernel
theorem d_D_reduce_28 : decode b_D_reduce 28 = .ok (.aload_n 3, 1) := by decide +kernel
theorem d_D_reduce_29 : decode b_D_reduce 29 = .ok (.getfield 58, 3) := by decide +kernel
theorem d_D_reduce_32 : decode b_D_reduce 32 = .ok (.if_icmp .ge 54, 3) := by decide +kernel
theorem d_D_reduce_35 : decode b_D_reduce 35 = .ok (.iconst 0, 1) := by decide +kernel
theorem d_D_reduce_36 : decode b_D_reduce 36 = .ok (.istore 6, 2) := by decide +kernel
theorem d_D_reduce_38 : decode b_D_reduce 38 = .ok (.iload 6, 2) := by decide +kernel
theorem d_D_reduce_40 : decode b_D_reduce 40 = .ok (.aload_n 3, 1) := by decide +kernel
theorem d_D_reduce_41 : decode b_D_reduce 41 = .ok (.getfield 62, 3) := by decide +kernel
theorem d_D_reduce_44 : decode b_D_reduce 44 = .ok (.if_icmp .ge 36, 3) := by decide +kernel
theorem d_D_reduce_47 : decode b_D_reduce 47 = .ok (.aload_n 3, 1) := by decide +kernel
theorem d_D_reduce_48 : decode b_D_reduce 48 = .ok (.iload 5, 2) := by decide +kernel
theorem d_D_reduce_50 : decode b_D_reduce 50 = .ok (.iload 6, 2) := by decide +kernel
theorem d_D_reduce_52 : decode b_D_reduce 52 = .ok (.invokevirtual 43, 3) := by decide +kernel
theorem d_D_reduce_55 : decode b_D_reduce 55 = .ok (.ifCond .eq 19, 3) := by decide +kernel
theorem d_D_reduce_58 : decode b_D_reduce 58 = .ok (.aload 4, 2) := by decide +kernel
theorem d_D_reduce_60 : decode b_D_reduce 60 = .ok (.iconst 0, 1) := by decide +kernel
theorem d_D_reduce_61 : decode b_D_reduce 61 = .ok (.iconst 0, 1) := by decide +kernel
theorem d_D_reduce_62 : decode b_D_reduce 62 = .ok (.aload_n 3, 1) := by decide +kernel
theorem d_D_reduce_63 : decode b_D_reduce 63 = .ok (.iload 5, 2) := by decide +kernel
theorem d_D_reduce_65 : decode b_D_reduce 65 = .ok (.iload 6, 2) := by decide +kernel
theorem d_D_reduce_67 : decode b_D_reduce 67 = .ok (.invokevirtual 54, 3) := by decide +kernel
theorem d_D_reduce_70 : decode b_D_reduce 70 = .ok (.iload_n 2, 1) := by decide +kernel
theorem d_D_reduce_71 : decode b_D_reduce 71 = .ok (.invokestatic 119, 3) := by decide +kernel
theorem d_D_reduce_74 : decode b_D_reduce 74 = .ok (.iinc 6 1, 3) := by decide +kernel
theorem d_D_reduce_77 : decode b_D_reduce 77 = .ok (.goto (-39), 3) := by decide +kernel
theorem d_D_reduce_80 : decode b_D_reduce 80 = .ok (.iinc 5 1, 3) := by decide +kernel
theorem d_D_reduce_83 : decode b_D_reduce 83 = .ok (.goto (-57), 3) := by decide +kernel
theorem d_D_reduce_86 : decode b_D_reduce 86 = .ok (.aload 4, 2) := by decide +kernel
theorem d_D_reduce_88 : decode b_D_reduce 88 = .ok (.iconst 0, 1) := by decide +kernel
theorem d_D_reduce_89 : decode b_D_reduce 89 = .ok (.iconst 0, 1) := by decide +kernel
theorem d_D_reduce_90 : decode b_D_reduce 90 = .ok (.invokevirtual 43, 3) := by decide +kernel
theorem d_D_reduce_93 : decode b_D_reduce 93 = .ok (.invokestatic 50, 3) := by decide +kernel
theorem d_D_reduce_96 : decode b_D_reduce 96 = .ok (.aload 4, 2) := by decide +kernel
theorem d_D_reduce_98 : decode b_D_reduce 98 = .ok (.iconst 0, 1) := by decide +kernel
theorem d_D_reduce_99 : decode b_D_reduce 99 = .ok (.iconst 0, 1) := by decide +kernel
theorem d_D_reduce_100 : decode b_D_reduce 100 = .ok (.invokevirtual 54, 3) := by decide +kernel
theorem d_D_reduce_103 : decode b_D_reduce 103 = .ok (.lreturn, 1) := by decide +kernel
theorem d_D_levels_0 : decode b_D_levels 0 = .ok (.iload_n 1, 1) := by decide +kernel
theorem d_D_levels_1 : decode b_D_levels 1 = .ok (.invokestatic 20, 3) := by decide +kernel
theorem d_D_levels_4 : decode b_D_levels 4 = .ok (.aload_n 0, 1) := by decide +kernel
theorem d_D_levels_5 : decode b_D_levels 5 = .ok (.iload_n 2, 1) := by decide +kernel
theorem d_D_levels_6 : decode b_D_levels 6 = .ok (.invokevirtual 123, 3) := by decide +kernel
theorem d_D_levels_9 : decode b_D_levels 9 = .ok (.aload_n 0, 1) := by decide +kernel
theorem d_D_levels_10 : decode b_D_levels 10 = .ok (.getfield 11, 3) := by decide +kernel
theorem d_D_levels_13 : decode b_D_levels 13 = .ok (.iload_n 2, 1) := by decide +kernel
theorem d_D_levels_14 : decode b_D_levels 14 = .ok (.aaload, 1) := by decide +kernel
theorem d_D_levels_15 : decode b_D_levels 15 = .ok (.astore 4, 2) := by decide +kernel
theorem d_D_levels_17 : decode b_D_levels 17 = .ok (.aload 4, 2) := by decide +kernel
theorem d_D_levels_19 : decode b_D_levels 19 = .ok (.iload_n 3, 1) := by decide +kernel
theorem d_D_levels_20 : decode b_D_levels 20 = .ok (.invokestatic 126, 3) := by decide +kernel
theorem d_D_levels_23 : decode b_D_levels 23 = .ok (.aload_n 0, 1) := by decide +kernel
theorem d_D_levels_24 : decode b_D_levels 24 = .ok (.iconst 1, 1) := by decide +kernel
theorem d_D_levels_25 : decode b_D_levels 25 = .ok (.aload 4, 2) := by decide +kernel
theorem d_D_levels_27 : decode b_D_levels 27 = .ok (.getfield 62, 3) := by decide +kernel
theorem d_D_levels_30 : decode b_D_levels 30 = .ok (.invokevirtual 85, 3) := by decide +kernel
theorem d_D_levels_33 : decode b_D_levels 33 = .ok (.astore 5, 2) := by decide +kernel
theorem d_D_levels_35 : decode b_D_levels 35 = .ok (.aload 5, 2) := by decide +kernel
theorem d_D_levels_37 : decode b_D_levels 37 = .ok (.iconst 0, 1) := by decide +kernel
theorem d_D_levels_38 : decode b_D_levels 38 = .ok (.iload_n 3, 1) := by decide +kernel
theorem d_D_levels_39 : decode b_D_levels 39 = .ok (.lconst 0, 1) := by decide +kernel
theorem d_D_levels_40 : decode b_D_levels 40 = .ok (.invokevirtual 39, 3) := by decide +kernel
theorem d_D_levels_43 : decode b_D_levels 43 = .ok (.iconst 0, 1) := by decide +kernel
theorem d_D_levels_44 : decode b_D_levels 44 = .ok (.istore 6, 2) := by decide +kernel
theorem d_D_levels_46 : decode b_D_levels 46 = .ok (.iload 6, 2) := by decide +kernel
theorem d_D_levels_48 : decode b_D_levels 48 = .ok (.aload 4, 2) := by decide +kernel
theorem d_D_levels_50 : decode b_D_levels 50 = .ok (.getfield 58, 3) := by decide +kernel
theorem d_D_levels_53 : decode b_D_levels 53 = .ok (.if_icmp .ge 18, 3) := by decide +kernel
theorem d_D_levels_56 : decode b_D_levels 56 = .ok (.aload 5, 2) := by decide +kernel
theorem d_D_levels_58 : decode b_D_levels 58 = .ok (.aload 4, 2) := by decide +kernel
theorem d_D_levels_60 : decode b_D_levels 60 = .ok (.iload 6, 2) := by decide +kernel
theorem d_D_levels_62 : decode b_D_levels 62 = .ok (.invokestatic 129, 3) := by decide +kernel
theorem d_D_levels_65 : decode b_D_levels 65 = .ok (.iinc 6 1, 3) := by decide +kernel
theorem d_D_levels_68 : decode b_D_levels 68 = .ok (.goto (-22), 3) := by decide +kernel
theorem d_D_levels_71 : decode b_D_levels 71 = .ok (.aload_n 0, 1) := by decide +kernel
theorem d_D_levels_72 : decode b_D_levels 72 = .ok (.iload_n 1, 1) := by decide +kernel
theorem d_D_levels_73 : decode b_D_levels 73 = .ok (.invokevirtual 101, 3) := by decide +kernel
theorem d_D_levels_76 : decode b_D_levels 76 = .ok (.ireturn, 1) := by decide +kernel
theorem d_D_paths_0 : decode b_D_paths 0 = .ok (.iload_n 1, 1) := by decide +kernel
theorem d_D_paths_1 : decode b_D_paths 1 = .ok (.invokestatic 20, 3) := by decide +kernel
theorem d_D_paths_4 : decode b_D_paths 4 = .ok (.aload_n 0, 1) := by decide +kernel
theorem d_D_paths_5 : decode b_D_paths 5 = .ok (.iload_n 2, 1) := by decide +kernel
theorem d_D_paths_6 : decode b_D_paths 6 = .ok (.invokevirtual 123, 3) := by decide +kernel
theorem d_D_paths_9 : decode b_D_paths 9 = .ok (.aload_n 0, 1) := by decide +kernel
theorem d_D_paths_10 : decode b_D_paths 10 = .ok (.getfield 11, 3) := by decide +kernel
theorem d_D_paths_13 : decode b_D_paths 13 = .ok (.iload_n 2, 1) := by decide +kernel
theorem d_D_paths_14 : decode b_D_paths 14 = .ok (.aaload, 1) := by decide +kernel
theorem d_D_paths_15 : decode b_D_paths 15 = .ok (.astore_n 3, 1) := by decide +kernel
theorem d_D_paths_16 : decode b_D_paths 16 = .ok (.aload_n 3, 1) := by decide +kernel
theorem d_D_paths_17 : decode b_D_paths 17 = .ok (.invokestatic 132, 3) := by decide +kernel
theorem d_D_paths_20 : decode b_D_paths 20 = .ok (.aload_n 0, 1) := by decide +kernel
theorem d_D_paths_21 : decode b_D_paths 21 = .ok (.aload_n 3, 1) := by decide +kernel
theorem d_D_paths_22 : decode b_D_paths 22 = .ok (.getfield 58, 3) := by decide +kernel
theorem d_D_paths_25 : decode b_D_paths 25 = .ok (.aload_n 3, 1) := by decide +kernel
theorem d_D_paths_26 : decode b_D_paths 26 = .ok (.getfield 62, 3) := by decide +kernel
theorem d_D_paths_29 : decode b_D_paths 29 = .ok (.invokevirtual 85, 3) := by decide +kernel
theorem d_D_paths_32 : decode b_D_paths 32 = .ok (.astore 4, 2) := by decide +kernel
theorem d_D_paths_34 : decode b_D_paths 34 = .ok (.aload 4, 2) := by decide +kernel
theorem d_D_paths_36 : decode b_D_paths 36 = .ok (.aload_n 3, 1) := by decide +kernel
theorem d_D_paths_37 : decode b_D_paths 37 = .ok (.iconst 1, 1) := by decide +kernel
theorem d_D_paths_38 : decode b_D_paths 38 = .ok (.invokestatic 93, 3) := by decide +kernel
theorem d_D_paths_41 : decode b_D_paths 41 = .ok (.iconst 0, 1) := by decide +kernel
theorem d_D_paths_42 : decode b_D_paths 42 = .ok (.istore 5, 2) := by decide +kernel
theorem d_D_paths_44 : decode b_D_paths 44 = .ok (.iload 5, 2) := by decide +kernel
theorem d_D_paths_46 : decode b_D_paths 46 = .ok (.aload_n 3, 1) := by decide +kernel
theorem d_D_paths_47 : decode b_D_paths 47 = .ok (.getfield 58, 3) := by decide +kernel
theorem d_D_paths_50 : decode b_D_paths 50 = .ok (.if_icmp .ge 20, 3) := by decide +kernel
theorem d_D_paths_53 : decode b_D_paths 53 = .ok (.aload 4, 2) := by decide +kernel
theorem d_D_paths_55 : decode b_D_paths 55 = .ok (.iload 5, 2) := by decide +kernel
theorem d_D_paths_57 : decode b_D_paths 57 = .ok (.iload 5, 2) := by decide +kernel
theorem d_D_paths_59 : decode b_D_paths 59 = .ok (.lconst 0, 1) := by decide +kernel
theorem d_D_paths_60 : decode b_D_paths 60 = .ok (.iconst 1, 1) := by decide +kernel
theorem d_D_paths_61 : decode b_D_paths 61 = .ok (.invokestatic 119, 3) := by decide +kernel
theorem d_D_paths_64 : decode b_D_paths 64 = .ok (.iinc 5 1, 3) := by decide +kernel
theorem d_D_paths_67 : decode b_D_paths 67 = .ok (.goto (-23), 3) := by decide +kernel
theorem d_D_paths_70 : decode b_D_paths 70 = .ok (.iconst 0, 1) := by decide +kernel
theorem d_D_paths_71 : decode b_D_paths 71 = .ok (.istore 5, 2) := by decide +kernel
theorem d_D_paths_73 : decode b_D_paths 73 = .ok (.iload 5, 2) := by decide +kernel
theorem d_D_paths_75 : decode b_D_paths 75 = .ok (.aload_n 3, 1) := by decide +kernel
theorem d_D_paths_76 : decode b_D_paths 76 = .ok (.getfield 58, 3) := by decide +kernel
theorem d_D_paths_79 : decode b_D_paths 79 = .ok (.if_icmp .ge 21, 3) := by decide +kernel
theorem d_D_paths_82 : decode b_D_paths 82 = .ok (.aload 4, 2) := by decide +kernel
theorem d_D_paths_84 : decode b_D_paths 84 = .ok (.iload 5, 2) := by decide +kernel
theorem d_D_paths_86 : decode b_D_paths 86 = .ok (.invokestatic 136, 3) := by decide +kernel
theorem d_D_paths_89 : decode b_D_paths 89 = .ok (.aload 4, 2) := by decide +kernel
theorem d_D_paths_91 : decode b_D_paths 91 = .ok (.invokestatic 139, 3) := by decide +kernel
theorem d_D_paths_94 : decode b_D_paths 94 = .ok (.iinc 5 1, 3) := by decide +kernel
theorem d_D_paths_97 : decode b_D_paths 97 = .ok (.goto (-24), 3) := by decide +kernel
theorem d_D_paths_100 : decode b_D_paths 100 = .ok (.aload_n 0, 1) := by decide +kernel
theorem d_D_paths_101 : decode b_D_paths 101 = .ok (.iload_n 1, 1) := by decide +kernel
theorem d_D_paths_102 : decode b_D_paths 102 = .ok (.invokevirtual 101, 3) := by decide +kernel
theorem d_D_paths_105 : decode b_D_paths 105 = .ok (.ireturn, 1) := by decide +kernel
theorem d_D_triangles_0 : decode b_D_triangles 0 = .ok (.aload_n 0, 1) := by decide +kernel
theorem d_D_triangles_1 : decode b_D_triangles 1 = .ok (.iload_n 1, 1) := by decide +kernel
theorem d_D_triangles_2 : decode b_D_triangles 2 = .ok (.invokevirtual 123, 3) := by decide +kernel
theorem d_D_triangles_5 : decode b_D_triangles 5 = .ok (.aload_n 0, 1) := by decide +kernel
theorem d_D_triangles_6 : decode b_D_triangles 6 = .ok (.getfield 11, 3) := by decide +kernel
theorem d_D_triangles_9 : decode b_D_triangles 9 = .ok (.iload_n 1, 1) := by decide +kernel
theorem d_D_triangles_10 : decode b_D_triangles 10 = .ok (.aaload, 1) := by decide +kernel
theorem d_D_triangles_11 : decode b_D_triangles 11 = .ok (.astore_n 2, 1) := by decide +kernel
theorem d_D_triangles_12 : decode b_D_triangles 12 = .ok (.iconst 0, 1) := by decide +kernel
theorem d_D_triangles_13 : decode b_D_triangles 13 = .ok (.istore_n 3, 1) := by decide +kernel
theorem d_D_triangles_14 : decode b_D_triangles 14 = .ok (.iconst 0, 1) := by decide +kernel
theorem d_D_triangles_15 : decode b_D_triangles 15 = .ok (.istore 4, 2) := by decide +kernel
theorem d_D_triangles_17 : decode b_D_triangles 17 = .ok (.iload 4, 2) := by decide +kernel
theorem d_D_triangles_19 : decode b_D_triangles 19 = .ok (.aload_n 2, 1) := by decide +kernel
theorem d_D_triangles_20 : decode b_D_triangles 20 = .ok (.getfield 58, 3) := by decide +kernel
theorem d_D_triangles_23 : decode b_D_triangles 23 = .ok (.if_icmp .ge 77, 3) := by decide +kernel
theorem d_D_triangles_26 : decode b_D_triangles 26 = .ok (.iconst 0, 1) := by decide +kernel
theorem d_D_triangles_27 : decode b_D_triangles 27 = .ok (.istore 5, 2) := by decide +kernel
theorem d_D_triangles_29 : decode b_D_triangles 29 = .ok (.iload 5, 2) := by decide +kernel
theorem d_D_triangles_31 : decode b_D_triangles 31 = .ok (.iload 4, 2) := by decide +kernel
theorem d_D_triangles_33 : decode b_D_triangles 33 = .ok (.if_icmp .ge 61, 3) := by decide +kernel
theorem d_D_triangles_36 : decode b_D_triangles 36 = .ok (.iconst 0, 1) := by decide +kernel
theorem d_D_triangles_37 : decode b_D_triangles 37 = .ok (.istore 6, 2) := by decide +kernel
theorem d_D_triangles_39 : decode b_D_triangles 39 = .ok (.iload 6, 2) := by decide +kernel
theorem d_D_triangles_41 : decode b_D_triangles 41 = .ok (.iload 5, 2) := by decide +kernel
theorem d_D_triangles_43 : decode b_D_triangles 43 = .ok (.if_icmp .ge 45, 3) := by decide +kernel
theorem d_D_triangles_46 : decode b_D_triangles 46 = .ok (.aload_n 2, 1) := by decide +kernel
theorem d_D_triangles_47 : decode b_D_triangles 47 = .ok (.iload 5, 2) := by decide +kernel
theorem d_D_triangles_49 : decode b_D_triangles 49 = .ok (.iload 6, 2) := by decide +kernel
theorem d_D_triangles_51 : decode b_D_triangles 51 = .ok (.invokevirtual 43, 3) := by decide +kernel
theorem d_D_triangles_54 : decode b_D_triangles 54 = .ok (.ifCond .eq 28, 3) := by decide +kernel
theorem d_D_triangles_57 : decode b_D_triangles 57 = .ok (.aload_n 2, 1) := by decide +kernel
theorem d_D_triangles_58 : decode b_D_triangles 58 = .ok (.iload 4, 2) := by decide +kernel
theorem d_D_triangles_60 : decode b_D_triangles 60 = .ok (.iload 6, 2) := by decide +kernel
theorem d_D_triangles_62 : decode b_D_triangles 62 = .ok (.invokevirtual 43, 3) := by decide +kernel
theorem d_D_triangles_65 : decode b_D_triangles 65 = .ok (.ifCond .eq 17, 3) := by decide +kernel
theorem d_D_triangles_68 : decode b_D_triangles 68 = .ok (.aload_n 2, 1) := by decide +kernel
theorem d_D_triangles_69 : decode b_D_triangles 69 = .ok (.iload 4, 2) := by decide +kernel
theorem d_D_triangles_71 : decode b_D_triangles 71 = .ok (.iload 5, 2) := by decide +kernel
theorem d_D_triangles_73 : decode b_D_triangles 73 = .ok (.invokevirtual 43, 3) := by decide +kernel
theorem d_D_triangles_76 : decode b_D_triangles 76 = .ok (.ifCond .eq 6, 3) := by decide +kernel
theorem d_D_triangles_79 : decode b_D_triangles 79 = .ok (.iinc 3 1, 3) := by decide +kernel
theorem d_D_triangles_82 : decode b_D_triangles 82 = .ok (.iinc 6 1, 3) := by decide +kernel
theorem d_D_triangles_85 : decode b_D_triangles 85 = .ok (.goto (-46), 3) := by decide +kernel
theorem d_D_triangles_88 : decode b_D_triangles 88 = .ok (.iinc 5 1, 3) := by decide +kernel
theorem d_D_triangles_91 : decode b_D_triangles 91 = .ok (.goto (-62), 3) := by decide +kernel
theorem d_D_triangles_94 : decode b_D_triangles 94 = .ok (.iinc 4 1, 3) := by decide +kernel
theorem d_D_triangles_97 : decode b_D_triangles 97 = .ok (.goto (-80), 3) := by decide +kernel
theorem d_D_triangles_100 : decode b_D_triangles 100 = .ok (.iload_n 3, 1) := by decide +kernel
theorem d_D_triangles_101 : decode b_D_triangles 101 = .ok (.ireturn, 1) := by decide +kernel
theorem d_D_components_0 : decode b_D_components 0 = .ok (.iload_n 1, 1) := by decide +kernel
theorem d_D_components_1 : decode b_D_components 1 = .ok (.invokestatic 20, 3) := by decide +kernel
theorem d_D_components_4 : decode b_D_components 4 = .ok (.aload_n 0, 1) := by decide +kernel
theorem d_D_components_5 : decode b_D_components 5 = .ok (.iload_n 2, 1) := by decide +kernel
theorem d_D_components_6 : decode b_D_components 6 = .ok (.invokevirtual 123, 3) := by decide +kernel
theorem d_D_components_9 : decode b_D_components 9 = .ok (.aload_n 0, 1) := by decide +kernel
theorem d_D_components_10 : decode b_D_components 10 = .ok (.getfield 11, 3) := by decide +kernel
theorem d_D_components_13 : decode b_D_components 13 = .ok (.iload_n 2, 1) := by decide +kernel
theorem d_D_components_14 : decode b_D_components 14 = .ok (.aaload, 1) := by decide +kernel
theorem d_D_components_15 : decode b_D_components 15 = .ok (.astore_n 3, 1) := by decide +kernel
theorem d_D_components_16 : decode b_D_components 16 = .ok (.aload_n 0, 1) := by decide +kernel
theorem d_D_components_17 : decode b_D_components 17 = .ok (.iconst 1, 1) := by decide +kernel
theorem d_D_components_18 : decode b_D_components 18 = .ok (.aload_n 3, 1) := by decide +kernel
theorem d_D_components_19 : decode b_D_components 19 = .ok (.getfield 62, 3) := by decide +kernel
theorem d_D_components_22 : decode b_D_components 22 = .ok (.invokevirtual 85, 3) := by decide +kernel
theorem d_D_components_25 : decode b_D_components 25 = .ok (.astore 4, 2) := by decide +kernel
theorem d_D_components_27 : decode b_D_components 27 = .ok (.iconst 0, 1) := by decide +kernel
theorem d_D_components_28 : decode b_D_components 28 = .ok (.istore 5, 2) := by decide +kernel
theorem d_D_components_30 : decode b_D_components 30 = .ok (.iload 5, 2) := by decide +kernel
theorem d_D_components_32 : decode b_D_components 32 = .ok (.aload_n 3, 1) := by decide +kernel
theorem d_D_components_33 : decode b_D_components 33 = .ok (.getfield 62, 3) := by decide +kernel
theorem d_D_components_36 : decode b_D_components 36 = .ok (.if_icmp .ge 20, 3) := by decide +kernel
theorem d_D_components_39 : decode b_D_components 39 = .ok (.aload 4, 2) := by decide +kernel
theorem d_D_components_41 : decode b_D_components 41 = .ok (.iconst 0, 1) := by decide +kernel
theorem d_D_components_42 : decode b_D_components 42 = .ok (.iload 5, 2) := by decide +kernel
theorem d_D_components_44 : decode b_D_components 44 = .ok (.iload 5, 2) := by decide +kernel
theorem d_D_components_46 : decode b_D_components 46 = .ok (.i2l, 1) := by decide +kernel
theorem d_D_components_47 : decode b_D_components 47 = .ok (.invokevirtual 39, 3) := by decide +kernel
theorem d_D_components_50 : decode b_D_components 50 = .ok (.iinc 5 1, 3) := by decide +kernel
theorem d_D_components_53 : decode b_D_components 53 = .ok (.goto (-23), 3) := by decide +kernel
theorem d_D_components_56 : decode b_D_components 56 = .ok (.iconst 0, 1) := by decide +kernel
theorem d_D_components_57 : decode b_D_components 57 = .ok (.istore 5, 2) := by decide +kernel
theorem d_D_components_59 : decode b_D_components 59 = .ok (.iload 5, 2) := by decide +kernel
theorem d_D_components_61 : decode b_D_components 61 = .ok (.aload_n 3, 1) := by decide +kernel
theorem d_D_components_62 : decode b_D_components 62 = .ok (.getfield 58, 3) := by decide +kernel
theorem d_D_components_65 : decode b_D_components 65 = .ok (.if_icmp .ge 15, 3) := by decide +kernel
theorem d_D_components_68 : decode b_D_components 68 = .ok (.aload 4, 2) := by decide +kernel
theorem d_D_components_70 : decode b_D_components 70 = .ok (.aload_n 3, 1) := by decide +kernel
theorem d_D_components_71 : decode b_D_components 71 = .ok (.invokestatic 142, 3) := by decide +kernel
theorem d_D_components_74 : decode b_D_components 74 = .ok (.iinc 5 1, 3) := by decide +kernel
theorem d_D_components_77 : decode b_D_components 77 = .ok (.goto (-18), 3) := by decide +kernel
theorem d_D_components_80 : decode b_D_components 80 = .ok (.aload_n 0, 1) := by decide +kernel
theorem d_D_components_81 : decode b_D_components 81 = .ok (.iload_n 1, 1) := by decide +kernel
theorem d_D_components_82 : decode b_D_components 82 = .ok (.invokevirtual 101, 3) := by decide +kernel
theorem d_D_components_85 : decode b_D_components 85 = .ok (.ireturn, 1) := by decide +kernel
theorem d_D_blank_0 : decode b_D_blank 0 = .ok (.aload_n 0, 1) := by decide +kernel
theorem d_D_blank_1 : decode b_D_blank 1 = .ok (.getfield 16, 3) := by decide +kernel
theorem d_D_blank_4 : decode b_D_blank 4 = .ok (.iload_n 1, 1) := by decide +kernel
theorem d_D_blank_5 : decode b_D_blank 5 = .ok (.iload_n 2, 1) := by decide +kernel
theorem d_D_blank_6 : decode b_D_blank 6 = .ok (.invokevirtual 27, 3) := by decide +kernel
theorem d_D_blank_9 : decode b_D_blank 9 = .ok (.aload_n 0, 1) := by decide +kernel
theorem d_D_blank_10 : decode b_D_blank 10 = .ok (.getfield 16, 3) := by decide +kernel
theorem d_D_blank_13 : decode b_D_blank 13 = .ok (.areturn, 1) := by decide +kernel
theorem d_D_keep_0 : decode b_D_keep 0 = .ok (.aload_n 0, 1) := by decide +kernel
theorem d_D_keep_1 : decode b_D_keep 1 = .ok (.getfield 16, 3) := by decide +kernel
theorem d_D_keep_4 : decode b_D_keep 4 = .ok (.astore_n 2, 1) := by decide +kernel
theorem d_D_keep_5 : decode b_D_keep 5 = .ok (.aload_n 0, 1) := by decide +kernel
theorem d_D_keep_6 : decode b_D_keep 6 = .ok (.aload_n 0, 1) := by decide +kernel
theorem d_D_keep_7 : decode b_D_keep 7 = .ok (.getfield 11, 3) := by decide +kernel
theorem d_D_keep_10 : decode b_D_keep 10 = .ok (.iload_n 1, 1) := by decide +kernel
theorem d_D_keep_11 : decode b_D_keep 11 = .ok (.aaload, 1) := by decide +kernel
theorem d_D_keep_12 : decode b_D_keep 12 = .ok (.putfield 16, 3) := by decide +kernel
theorem d_D_keep_15 : decode b_D_keep 15 = .ok (.aload_n 0, 1) := by decide +kernel
theorem d_D_keep_16 : decode b_D_keep 16 = .ok (.getfield 11, 3) := by decide +kernel
theorem d_D_keep_19 : decode b_D_keep 19 = .ok (.iload_n 1, 1) := by decide +kernel
theorem d_D_keep_20 : decode b_D_keep 20 = .ok (.aload_n 2, 1) := by decide +kernel
theorem d_D_keep_21 : decode b_D_keep 21 = .ok (.aastore, 1) := by decide +kernel
theorem d_D_keep_22 : decode b_D_keep 22 = .ok (.aload_n 2, 1) := by decide +kernel
theorem d_D_keep_23 : decode b_D_keep 23 = .ok (.invokevirtual 65, 3) := by decide +kernel
theorem d_D_keep_26 : decode b_D_keep 26 = .ok (.ireturn, 1) := by decide +kernel
theorem d_D_gatherProducts_0 : decode b_D_gatherProducts 0 = .ok (.iconst 0, 1) := by decide +kernel
theorem d_D_gatherProducts_1 : decode b_D_gatherProducts 1 = .ok (.istore 6, 2) := by decide +kernel
theorem d_D_gatherProducts_3 : decode b_D_gatherProducts 3 = .ok (.iload 6, 2) := by decide +kernel
theorem d_D_gatherProducts_5 : decode b_D_gatherProducts 5 = .ok (.aload_n 1, 1) := by decide +kernel
theorem d_D_gatherProducts_6 : decode b_D_gatherProducts 6 = .ok (.getfield 62, 3) := by decide +kernel
theorem d_D_gatherProducts_9 : decode b_D_gatherProducts 9 = .ok (.if_icmp .ge 59, 3) := by decide +kernel
theorem d_D_gatherProducts_12 : decode b_D_gatherProducts 12 = .ok (.aload_n 1, 1) := by decide +kernel
theorem d_D_gatherProducts_13 : decode b_D_gatherProducts 13 = .ok (.iload_n 3, 1) := by decide +kernel
theorem d_D_gatherProducts_14 : decode b_D_gatherProducts 14 = .ok (.iload 6, 2) := by decide +kernel
theorem d_D_gatherProducts_16 : decode b_D_gatherProducts 16 = .ok (.invokevirtual 43, 3) := by decide +kernel
theorem d_D_gatherProducts_19 : decode b_D_gatherProducts 19 = .ok (.ifCond .eq 43, 3) := by decide +kernel
theorem d_D_gatherProducts_22 : decode b_D_gatherProducts 22 = .ok (.aload_n 2, 1) := by decide +kernel
theorem d_D_gatherProducts_23 : decode b_D_gatherProducts 23 = .ok (.iload 6, 2) := by decide +kernel
theorem d_D_gatherProducts_25 : decode b_D_gatherProducts 25 = .ok (.iload 4, 2) := by decide +kernel
theorem d_D_gatherProducts_27 : decode b_D_gatherProducts 27 = .ok (.invokevirtual 43, 3) := by decide +kernel
theorem d_D_gatherProducts_30 : decode b_D_gatherProducts 30 = .ok (.ifCond .eq 32, 3) := by decide +kernel
theorem d_D_gatherProducts_33 : decode b_D_gatherProducts 33 = .ok (.aload_n 0, 1) := by decide +kernel
theorem d_D_gatherProducts_34 : decode b_D_gatherProducts 34 = .ok (.iload_n 3, 1) := by decide +kernel
theorem d_D_gatherProducts_35 : decode b_D_gatherProducts 35 = .ok (.iload 4, 2) := by decide +kernel
theorem d_D_gatherProducts_37 : decode b_D_gatherProducts 37 = .ok (.iload 5, 2) := by decide +kernel
theorem d_D_gatherProducts_39 : decode b_D_gatherProducts 39 = .ok (.aload_n 1, 1) := by decide +kernel
theorem d_D_gatherProducts_40 : decode b_D_gatherProducts 40 = .ok (.iload_n 3, 1) := by decide +kernel
theorem d_D_gatherProducts_41 : decode b_D_gatherProducts 41 = .ok (.iload 6, 2) := by decide +kernel
theorem d_D_gatherProducts_43 : decode b_D_gatherProducts 43 = .ok (.invokevirtual 54, 3) := by decide +kernel
theorem d_D_gatherProducts_46 : decode b_D_gatherProducts 46 = .ok (.aload_n 2, 1) := by decide +kernel
theorem d_D_gatherProducts_47 : decode b_D_gatherProducts 47 = .ok (.iload 6, 2) := by decide +kernel
theorem d_D_gatherProducts_49 : decode b_D_gatherProducts 49 = .ok (.iload 4, 2) := by decide +kernel
theorem d_D_gatherProducts_51 : decode b_D_gatherProducts 51 = .ok (.invokevirtual 54, 3) := by decide +kernel
theorem d_D_gatherProducts_54 : decode b_D_gatherProducts 54 = .ok (.invokestatic 108, 3) := by decide +kernel
theorem d_D_gatherProducts_57 : decode b_D_gatherProducts 57 = .ok (.iload 5, 2) := by decide +kernel
theorem d_D_gatherProducts_59 : decode b_D_gatherProducts 59 = .ok (.invokestatic 119, 3) := by decide +kernel
theorem d_D_gatherProducts_62 : decode b_D_gatherProducts 62 = .ok (.iinc 6 1, 3) := by decide +kernel
theorem d_D_gatherProducts_65 : decode b_D_gatherProducts 65 = .ok (.goto (-62), 3) := by decide +kernel
theorem d_D_gatherProducts_68 : decode b_D_gatherProducts 68 = .ok (.return_, 1) := by decide +kernel
theorem d_D_gatherAll_0 : decode b_D_gatherAll 0 = .ok (.iconst 0, 1) := by decide +kernel
theorem d_D_gatherAll_1 : decode b_D_gatherAll 1 = .ok (.istore_n 3, 1) := by decide +kernel
theorem d_D_gatherAll_2 : decode b_D_gatherAll 2 = .ok (.iload_n 3, 1) := by decide +kernel
theorem d_D_gatherAll_3 : decode b_D_gatherAll 3 = .ok (.aload_n 1, 1) := by decide +kernel
theorem d_D_gatherAll_4 : decode b_D_gatherAll 4 = .ok (.getfield 58, 3) := by decide +kernel
theorem d_D_gatherAll_7 : decode b_D_gatherAll 7 = .ok (.if_icmp .ge 52, 3) := by decide +kernel
theorem d_D_gatherAll_10 : decode b_D_gatherAll 10 = .ok (.iconst 0, 1) := by decide +kernel
theorem d_D_gatherAll_11 : decode b_D_gatherAll 11 = .ok (.istore 4, 2) := by decide +kernel
theorem d_D_gatherAll_13 : decode b_D_gatherAll 13 = .ok (.iload 4, 2) := by decide +kernel
theorem d_D_gatherAll_15 : decode b_D_gatherAll 15 = .ok (.aload_n 1, 1) := by decide +kernel
theorem d_D_gatherAll_16 : decode b_D_gatherAll 16 = .ok (.getfield 62, 3) := by decide +kernel
theorem d_D_gatherAll_19 : decode b_D_gatherAll 19 = .ok (.if_icmp .ge 34, 3) := by decide +kernel
theorem d_D_gatherAll_22 : decode b_D_gatherAll 22 = .ok (.aload_n 1, 1) := by decide +kernel
theorem d_D_gatherAll_23 : decode b_D_gatherAll 23 = .ok (.iload_n 3, 1) := by decide +kernel
theorem d_D_gatherAll_24 : decode b_D_gatherAll 24 = .ok (.iload 4, 2) := by decide +kernel
theorem d_D_gatherAll_26 : decode b_D_gatherAll 26 = .ok (.invokevirtual 43, 3) := by decide +kernel
theorem d_D_gatherAll_29 : decode b_D_gatherAll 29 = .ok (.ifCond .eq 18, 3) := by decide +kernel
theorem d_D_gatherAll_32 : decode b_D_gatherAll 32 = .ok (.aload_n 0, 1) := by decide +kernel
theorem d_D_gatherAll_33 : decode b_D_gatherAll 33 = .ok (.iload_n 3, 1) := by decide +kernel
theorem d_D_gatherAll_34 : decode b_D_gatherAll 34 = .ok (.iload 4, 2) := by decide +kernel
theorem d_D_gatherAll_36 : decode b_D_gatherAll 36 = .ok (.aload_n 1, 1) := by decide +kernel
theorem d_D_gatherAll_37 : decode b_D_gatherAll 37 = .ok (.iload_n 3, 1) := by decide +kernel
theorem d_D_gatherAll_38 : decode b_D_gatherAll 38 = .ok (.iload 4, 2) := by decide +kernel
theorem d_D_gatherAll_40 : decode b_D_gatherAll 40 = .ok (.invokevirtual 54, 3) := by decide +kernel
theorem d_D_gatherAll_43 : decode b_D_gatherAll 43 = .ok (.iload_n 2, 1) := by decide +kernel
theorem d_D_gatherAll_44 : decode b_D_gatherAll 44 = .ok (.invokestatic 119, 3) := by decide +kernel
theorem d_D_gatherAll_47 : decode b_D_gatherAll 47 = .ok (.iinc 4 1, 3) := by decide +kernel
theorem d_D_gatherAll_50 : decode b_D_gatherAll 50 = .ok (.goto (-37), 3) := by decide +kernel
theorem d_D_gatherAll_53 : decode b_D_gatherAll 53 = .ok (.iinc 3 1, 3) := by decide +kernel
theorem d_D_gatherAll_56 : decode b_D_gatherAll 56 = .ok (.goto (-54), 3) := by decide +kernel
theorem d_D_gatherAll_59 : decode b_D_gatherAll 59 = .ok (.return_, 1) := by decide +kernel
theorem d_D_gather_0 : decode b_D_gather 0 = .ok (.aload_n 0, 1) := by decide +kernel
theorem d_D_gather_1 : decode b_D_gather 1 = .ok (.iload_n 1, 1) := by decide +kernel
theorem d_D_gather_2 : decode b_D_gather 2 = .ok (.iload_n 2, 1) := by decide +kernel
theorem d_D_gather_3 : decode b_D_gather 3 = .ok (.aload_n 0, 1) := by decide +kernel
theorem d_D_gather_4 : decode b_D_gather 4 = .ok (.iload_n 1, 1) := by decide +kernel
theorem d_D_gather_5 : decode b_D_gather 5 = .ok (.iload_n 2, 1) := by decide +kernel
theorem d_D_gather_6 : decode b_D_gather 6 = .ok (.invokevirtual 43, 3) := by decide +kernel
theorem d_D_gather_9 : decode b_D_gather 9 = .ok (.ifCond .eq 18, 3) := by decide +kernel
theorem d_D_gather_12 : decode b_D_gather 12 = .ok (.iload 5, 2) := by decide +kernel
theorem d_D_gather_14 : decode b_D_gather 14 = .ok (.aload_n 0, 1) := by decide +kernel
theorem d_D_gather_15 : decode b_D_gather 15 = .ok (.iload_n 1, 1) := by decide +kernel
theorem d_D_gather_16 : decode b_D_gather 16 = .ok (.iload_n 2, 1) := by decide +kernel
theorem d_D_gather_17 : decode b_D_gather 17 = .ok (.invokevirtual 54, 3) := by decide +kernel
theorem d_D_gather_20 : decode b_D_gather 20 = .ok (.lload_n 3, 1) := by decide +kernel
theorem d_D_gather_21 : decode b_D_gather 21 = .ok (.invokestatic 146, 3) := by decide +kernel
theorem d_D_gather_24 : decode b_D_gather 24 = .ok (.goto 4, 3) := by decide +kernel
theorem d_D_gather_27 : decode b_D_gather 27 = .ok (.lload_n 3, 1) := by decide +kernel
theorem d_D_gather_28 : decode b_D_gather 28 = .ok (.invokevirtual 39, 3) := by decide +kernel
theorem d_D_gather_31 : decode b_D_gather 31 = .ok (.return_, 1) := by decide +kernel
theorem d_D_dropZeros_0 : decode b_D_dropZeros 0 = .ok (.iload_n 1, 1) := by decide +kernel
theorem d_D_dropZeros_1 : decode b_D_dropZeros 1 = .ok (.ifCond .eq 9, 3) := by decide +kernel
theorem d_D_dropZeros_4 : decode b_D_dropZeros 4 = .ok (.iload_n 1, 1) := by decide +kernel
theorem d_D_dropZeros_5 : decode b_D_dropZeros 5 = .ok (.iconst 2, 1) := by decide +kernel
theorem d_D_dropZeros_6 : decode b_D_dropZeros 6 = .ok (.if_icmp .eq 4, 3) := by decide +kernel
theorem d_D_dropZeros_9 : decode b_D_dropZeros 9 = .ok (.return_, 1) := by decide +kernel
theorem d_D_dropZeros_10 : decode b_D_dropZeros 10 = .ok (.iconst 0, 1) := by decide +kernel
theorem d_D_dropZeros_11 : decode b_D_dropZeros 11 = .ok (.istore_n 2, 1) := by decide +kernel
theorem d_D_dropZeros_12 : decode b_D_dropZeros 12 = .ok (.iload_n 2, 1) := by decide +kernel
theorem d_D_dropZeros_13 : decode b_D_dropZeros 13 = .ok (.aload_n 0, 1) := by decide +kernel
theorem d_D_dropZeros_14 : decode b_D_dropZeros 14 = .ok (.getfield 58, 3) := by decide +kernel
theorem d_D_dropZeros_17 : decode b_D_dropZeros 17 = .ok (.if_icmp .ge 51, 3) := by decide +kernel
theorem d_D_dropZeros_20 : decode b_D_dropZeros 20 = .ok (.iconst 0, 1) := by decide +kernel
theorem d_D_dropZeros_21 : decode b_D_dropZeros 21 = .ok (.istore_n 3, 1) := by decide +kernel
theorem d_D_dropZeros_22 : decode b_D_dropZeros 22 = .ok (.iload_n 3, 1) := by decide +kernel
theorem d_D_dropZeros_23 : decode b_D_dropZeros 23 = .ok (.aload_n 0, 1) := by decide +kernel
theorem d_D_dropZeros_24 : decode b_D_dropZeros 24 = .ok (.getfield 62, 3) := by decide +kernel
theorem d_D_dropZeros_27 : decode b_D_dropZeros 27 = .ok (.if_icmp .ge 35, 3) := by decide +kernel
theorem d_D_dropZeros_30 : decode b_D_dropZeros 30 = .ok (.aload_n 0, 1) := by decide +kernel
theorem d_D_dropZeros_31 : decode b_D_dropZeros 31 = .ok (.iload_n 2, 1) := by decide +kernel
theorem d_D_dropZeros_32 : decode b_D_dropZeros 32 = .ok (.iload_n 3, 1) := by decide +kernel
theorem d_D_dropZeros_33 : decode b_D_dropZeros 33 = .ok (.invokevirtual 43, 3) := by decide +kernel
theorem d_D_dropZeros_36 : decode b_D_dropZeros 36 = .ok (.ifCond .eq 20, 3) := by decide +kernel
theorem d_D_dropZeros_39 : decode b_D_dropZeros 39 = .ok (.aload_n 0, 1) := by decide +kernel
theorem d_D_dropZeros_40 : decode b_D_dropZeros 40 = .ok (.iload_n 2, 1) := by decide +kernel
theorem d_D_dropZeros_41 : decode b_D_dropZeros 41 = .ok (.iload_n 3, 1) := by decide +kernel
theorem d_D_dropZeros_42 : decode b_D_dropZeros 42 = .ok (.invokevirtual 54, 3) := by decide +kernel
theorem d_D_dropZeros_45 : decode b_D_dropZeros 45 = .ok (.lconst 0, 1) := by decide +kernel
theorem d_D_dropZeros_46 : decode b_D_dropZeros 46 = .ok (.lcmp, 1) := by decide +kernel
theorem d_D_dropZeros_47 : decode b_D_dropZeros 47 = .ok (.ifCond .ne 9, 3) := by decide +kernel
theorem d_D_dropZeros_50 : decode b_D_dropZeros 50 = .ok (.aload_n 0, 1) := by decide +kernel
theorem d_D_dropZeros_51 : decode b_D_dropZeros 51 = .ok (.iload_n 2, 1) := by decide +kernel
theorem d_D_dropZeros_52 : decode b_D_dropZeros 52 = .ok (.iload_n 3, 1) := by decide +kernel
theorem d_D_dropZeros_53 : decode b_D_dropZeros 53 = .ok (.invokevirtual 47, 3) := by decide +kernel
theorem d_D_dropZeros_56 : decode b_D_dropZeros 56 = .ok (.iinc 3 1, 3) := by decide +kernel
theorem d_D_dropZeros_59 : decode b_D_dropZeros 59 = .ok (.goto (-37), 3) := by decide +kernel
theorem d_D_dropZeros_62 : decode b_D_dropZeros 62 = .ok (.iinc 2 1, 3) := by decide +kernel
theorem d_D_dropZeros_65 : decode b_D_dropZeros 65 = .ok (.goto (-53), 3) := by decide +kernel
theorem d_D_dropZeros_68 : decode b_D_dropZeros 68 = .ok (.return_, 1) := by decide +kernel
theorem d_D_sumOver_0 : decode b_D_sumOver 0 = .ok (.iload_n 0, 1) := by decide +kernel
theorem d_D_sumOver_1 : decode b_D_sumOver 1 = .ok (.tableswitch 57 0 2 #[27, 33, 39], 27) := by decide +kernel
theorem d_D_sumOver_28 : decode b_D_sumOver 28 = .ok (.lload_n 1, 1) := by decide +kernel
theorem d_D_sumOver_29 : decode b_D_sumOver 29 = .ok (.lload_n 3, 1) := by decide +kernel
theorem d_D_sumOver_30 : decode b_D_sumOver 30 = .ok (.invokestatic 149, 3) := by decide +kernel
theorem d_D_sumOver_33 : decode b_D_sumOver 33 = .ok (.lreturn, 1) := by decide +kernel
theorem d_D_sumOver_34 : decode b_D_sumOver 34 = .ok (.lload_n 1, 1) := by decide +kernel
theorem d_D_sumOver_35 : decode b_D_sumOver 35 = .ok (.lload_n 3, 1) := by decide +kernel
theorem d_D_sumOver_36 : decode b_D_sumOver 36 = .ok (.invokestatic 153, 3) := by decide +kernel
theorem d_D_sumOver_39 : decode b_D_sumOver 39 = .ok (.lreturn, 1) := by decide +kernel
theorem d_D_sumOver_40 : decode b_D_sumOver 40 = .ok (.lload_n 1, 1) := by decide +kernel
theorem d_D_sumOver_41 : decode b_D_sumOver 41 = .ok (.lconst 0, 1) := by decide +kernel
theorem d_D_sumOver_42 : decode b_D_sumOver 42 = .ok (.lcmp, 1) := by decide +kernel
theorem d_D_sumOver_43 : decode b_D_sumOver 43 = .ok (.ifCond .ne 9, 3) := by decide +kernel
theorem d_D_sumOver_46 : decode b_D_sumOver 46 = .ok (.lload_n 3, 1) := by decide +kernel
theorem d_D_sumOver_47 : decode b_D_sumOver 47 = .ok (.lconst 0, 1) := by decide +kernel
theorem d_D_sumOver_48 : decode b_D_sumOver 48 = .ok (.lcmp, 1) := by decide +kernel
theorem d_D_sumOver_49 : decode b_D_sumOver 49 = .ok (.ifCond .eq 7, 3) := by decide +kernel
theorem d_D_sumOver_52 : decode b_D_sumOver 52 = .ok (.lconst 1, 1) := by decide +kernel
theorem d_D_sumOver_53 : decode b_D_sumOver 53 = .ok (.goto 4, 3) := by decide +kernel
theorem d_D_sumOver_56 : decode b_D_sumOver 56 = .ok (.lconst 0, 1) := by decide +kernel
theorem d_D_sumOver_57 : decode b_D_sumOver 57 = .ok (.lreturn, 1) := by decide +kernel
theorem d_D_sumOver_58 : decode b_D_sumOver 58 = .ok (.lload_n 1, 1) := by decide +kernel
theorem d_D_sumOver_59 : decode b_D_sumOver 59 = .ok (.lload_n 3, 1) := by decide +kernel
theorem d_D_sumOver_60 : decode b_D_sumOver 60 = .ok (.invokestatic 158, 3) := by decide +kernel
theorem d_D_sumOver_63 : decode b_D_sumOver 63 = .ok (.lreturn, 1) := by decide +kernel
theorem d_D_productOver_0 : decode b_D_productOver 0 = .ok (.iload_n 0, 1) := by decide +kernel
theorem d_D_productOver_1 : decode b_D_productOver 1 = .ok (.tableswitch 57 0 2 #[27, 33, 39], 27) := by decide +kernel
theorem d_D_productOver_28 : decode b_D_productOver 28 = .ok (.lload_n 1, 1) := by decide +kernel
theorem d_D_productOver_29 : decode b_D_productOver 29 = .ok (.lload_n 3, 1) := by decide +kernel
theorem d_D_productOver_30 : decode b_D_productOver 30 = .ok (.invokestatic 161, 3) := by decide +kernel
theorem d_D_productOver_33 : decode b_D_productOver 33 = .ok (.lreturn, 1) := by decide +kernel
theorem d_D_productOver_34 : decode b_D_productOver 34 = .ok (.lload_n 1, 1) := by decide +kernel
theorem d_D_productOver_35 : decode b_D_productOver 35 = .ok (.lload_n 3, 1) := by decide +kernel
theorem d_D_productOver_36 : decode b_D_productOver 36 = .ok (.invokestatic 149, 3) := by decide +kernel
theorem d_D_productOver_39 : decode b_D_productOver 39 = .ok (.lreturn, 1) := by decide +kernel
theorem d_D_productOver_40 : decode b_D_productOver 40 = .ok (.lload_n 1, 1) := by decide +kernel
theorem d_D_productOver_41 : decode b_D_productOver 41 = .ok (.lconst 0, 1) := by decide +kernel
theorem d_D_productOver_42 : decode b_D_productOver 42 = .ok (.lcmp, 1) := by decide +kernel
theorem d_D_productOver_43 : decode b_D_productOver 43 = .ok (.ifCond .eq 13, 3) := by decide +kernel
theorem d_D_productOver_46 : decode b_D_productOver 46 = .ok (.lload_n 3, 1) := by decide +kernel
theorem d_D_productOver_47 : decode b_D_productOver 47 = .ok (.lconst 0, 1) := by decide +kernel
theorem d_D_productOver_48 : decode b_D_productOver 48 = .ok (.lcmp, 1) := by decide +kernel
theorem d_D_productOver_49 : decode b_D_productOver 49 = .ok (.ifCond .eq 7, 3) := by decide +kernel
theorem d_D_productOver_52 : decode b_D_productOver 52 = .ok (.lconst 1, 1) := by decide +kernel
theorem d_D_productOver_53 : decode b_D_productOver 53 = .ok (.goto 4, 3) := by decide +kernel
theorem d_D_productOver_56 : decode b_D_productOver 56 = .ok (.lconst 0, 1) := by decide +kernel
theorem d_D_productOver_57 : decode b_D_productOver 57 = .ok (.lreturn, 1) := by decide +kernel
theorem d_D_productOver_58 : decode b_D_productOver 58 = .ok (.lload_n 1, 1) := by decide +kernel
theorem d_D_productOver_59 : decode b_D_productOver 59 = .ok (.lload_n 3, 1) := by decide +kernel
theorem d_D_productOver_60 : decode b_D_productOver 60 = .ok (.invokestatic 153, 3) := by decide +kernel
theorem d_D_productOver_63 : decode b_D_productOver 63 = .ok (.lreturn, 1) := by decide +kernel
theorem d_D_plus_0 : decode b_D_plus 0 = .ok (.lload_n 0, 1) := by decide +kernel
theorem d_D_plus_1 : decode b_D_plus 1 = .ok (.lload_n 2, 1) := by decide +kernel
theorem d_D_plus_2 : decode b_D_plus 2 = .ok (.ladd, 1) := by decide +kernel
theorem d_D_plus_3 : decode b_D_plus 3 = .ok (.lstore 4, 2) := by decide +kernel
theorem d_D_plus_5 : decode b_D_plus 5 = .ok (.lload 4, 2) := by decide +kernel
theorem d_D_plus_7 : decode b_D_plus 7 = .ok (.invokestatic 164, 3) := by decide +kernel
theorem d_D_plus_10 : decode b_D_plus 10 = .ok (.ifCond .ne 13, 3) := by decide +kernel
theorem d_D_plus_13 : decode b_D_plus 13 = .ok (.new 168, 3) := by decide +kernel
theorem d_D_plus_16 : decode b_D_plus 16 = .ok (.dup, 1) := by decide +kernel
theorem d_D_plus_17 : decode b_D_plus 17 = .ok (.ldc 170, 2) := by decide +kernel
theorem d_D_plus_19 : decode b_D_plus 19 = .ok (.invokespecial 172, 3) := by decide +kernel
theorem d_D_plus_22 : decode b_D_plus 22 = .ok (.athrow, 1) := by decide +kernel
theorem d_D_plus_23 : decode b_D_plus 23 = .ok (.lload 4, 2) := by decide +kernel
theorem d_D_plus_25 : decode b_D_plus 25 = .ok (.lreturn, 1) := by decide +kernel
theorem d_D_times_0 : decode b_D_times 0 = .ok (.lload_n 0, 1) := by decide +kernel
theorem d_D_times_1 : decode b_D_times 1 = .ok (.lconst 0, 1) := by decide +kernel
theorem d_D_times_2 : decode b_D_times 2 = .ok (.lcmp, 1) := by decide +kernel
theorem d_D_times_3 : decode b_D_times 3 = .ok (.ifCond .eq 29, 3) := by decide +kernel
theorem d_D_times_6 : decode b_D_times 6 = .ok (.lload_n 2, 1) := by decide +kernel
theorem d_D_times_7 : decode b_D_times 7 = .ok (.invokestatic 175, 3) := by decide +kernel
theorem d_D_times_10 : decode b_D_times 10 = .ok (.ldc2_w 179, 3) := by decide +kernel
theorem d_D_times_13 : decode b_D_times 13 = .ok (.lload_n 0, 1) := by decide +kernel
theorem d_D_times_14 : decode b_D_times 14 = .ok (.invokestatic 175, 3) := by decide +kernel
theorem d_D_times_17 : decode b_D_times 17 = .ok (.ldiv, 1) := by decide +kernel
theorem d_D_times_18 : decode b_D_times 18 = .ok (.lcmp, 1) := by decide +kernel
theorem d_D_times_19 : decode b_D_times 19 = .ok (.ifCond .le 13, 3) := by decide +kernel
theorem d_D_times_22 : decode b_D_times 22 = .ok (.new 168, 3) := by decide +kernel
theorem d_D_times_25 : decode b_D_times 25 = .ok (.dup, 1) := by decide +kernel
theorem d_D_times_26 : decode b_D_times 26 = .ok (.ldc 181, 2) := by decide +kernel
theorem d_D_times_28 : decode b_D_times 28 = .ok (.invokespecial 172, 3) := by decide +kernel
theorem d_D_times_31 : decode b_D_times 31 = .ok (.athrow, 1) := by decide +kernel
theorem d_D_times_32 : decode b_D_times 32 = .ok (.lload_n 0, 1) := by decide +kernel
theorem d_D_times_33 : decode b_D_times 33 = .ok (.lload_n 2, 1) := by decide +kernel
theorem d_D_times_34 : decode b_D_times 34 = .ok (.lmul, 1) := by decide +kernel
theorem d_D_times_35 : decode b_D_times 35 = .ok (.lreturn, 1) := by decide +kernel
theorem d_D_isSelected_0 : decode b_D_isSelected 0 = .ok (.iload_n 0, 1) := by decide +kernel
theorem d_D_isSelected_1 : decode b_D_isSelected 1 = .ok (.tableswitch 79 0 3 #[31, 44, 57, 68], 31) := by decide +kernel
theorem d_D_isSelected_32 : decode b_D_isSelected 32 = .ok (.lload_n 3, 1) := by decide +kernel
theorem d_D_isSelected_33 : decode b_D_isSelected 33 = .ok (.lload 5, 2) := by decide +kernel
theorem d_D_isSelected_35 : decode b_D_isSelected 35 = .ok (.lcmp, 1) := by decide +kernel
theorem d_D_isSelected_36 : decode b_D_isSelected 36 = .ok (.ifCond .ge 7, 3) := by decide +kernel
theorem d_D_isSelected_39 : decode b_D_isSelected 39 = .ok (.iconst 1, 1) := by decide +kernel
theorem d_D_isSelected_40 : decode b_D_isSelected 40 = .ok (.goto 4, 3) := by decide +kernel
theorem d_D_isSelected_43 : decode b_D_isSelected 43 = .ok (.iconst 0, 1) := by decide +kernel
theorem d_D_isSelected_44 : decode b_D_isSelected 44 = .ok (.ireturn, 1) := by decide +kernel
theorem d_D_isSelected_45 : decode b_D_isSelected 45 = .ok (.lload_n 3, 1) := by decide +kernel
theorem d_D_isSelected_46 : decode b_D_isSelected 46 = .ok (.lload 5, 2) := by decide +kernel
theorem d_D_isSelected_48 : decode b_D_isSelected 48 = .ok (.lcmp, 1) := by decide +kernel
theorem d_D_isSelected_49 : decode b_D_isSelected 49 = .ok (.ifCond .le 7, 3) := by decide +kernel
theorem d_D_isSelected_52 : decode b_D_isSelected 52 = .ok (.iconst 1, 1) := by decide +kernel
theorem d_D_isSelected_53 : decode b_D_isSelected 53 = .ok (.goto 4, 3) := by decide +kernel
theorem d_D_isSelected_56 : decode b_D_isSelected 56 = .ok (.iconst 0, 1) := by decide +kernel
theorem d_D_isSelected_57 : decode b_D_isSelected 57 = .ok (.ireturn, 1) := by decide +kernel
theorem d_D_isSelected_58 : decode b_D_isSelected 58 = .ok (.iload_n 1, 1) := by decide +kernel
theorem d_D_isSelected_59 : decode b_D_isSelected 59 = .ok (.iload_n 2, 1) := by decide +kernel
theorem d_D_isSelected_60 : decode b_D_isSelected 60 = .ok (.if_icmp .ge 7, 3) := by decide +kernel
theorem d_D_isSelected_63 : decode b_D_isSelected 63 = .ok (.iconst 1, 1) := by decide +kernel
theorem d_D_isSelected_64 : decode b_D_isSelected 64 = .ok (.goto 4, 3) := by decide +kernel
theorem d_D_isSelected_67 : decode b_D_isSelected 67 = .ok (.iconst 0, 1) := by decide +kernel
theorem d_D_isSelected_68 : decode b_D_isSelected 68 = .ok (.ireturn, 1) := by decide +kernel
theorem d_D_isSelected_69 : decode b_D_isSelected 69 = .ok (.iload_n 1, 1) := by decide +kernel
theorem d_D_isSelected_70 : decode b_D_isSelected 70 = .ok (.iload_n 2, 1) := by decide +kernel
theorem d_D_isSelected_71 : decode b_D_isSelected 71 = .ok (.if_icmp .le 7, 3) := by decide +kernel
theorem d_D_isSelected_74 : decode b_D_isSelected 74 = .ok (.iconst 1, 1) := by decide +kernel
theorem d_D_isSelected_75 : decode b_D_isSelected 75 = .ok (.goto 4, 3) := by decide +kernel
theorem d_D_isSelected_78 : decode b_D_isSelected 78 = .ok (.iconst 0, 1) := by decide +kernel
theorem d_D_isSelected_79 : decode b_D_isSelected 79 = .ok (.ireturn, 1) := by decide +kernel
theorem d_D_isSelected_80 : decode b_D_isSelected 80 = .ok (.iload_n 1, 1) := by decide +kernel
theorem d_D_isSelected_81 : decode b_D_isSelected 81 = .ok (.iload_n 2, 1) := by decide +kernel
theorem d_D_isSelected_82 : decode b_D_isSelected 82 = .ok (.if_icmp .ne 7, 3) := by decide +kernel
theorem d_D_isSelected_85 : decode b_D_isSelected 85 = .ok (.iconst 1, 1) := by decide +kernel
theorem d_D_isSelected_86 : decode b_D_isSelected 86 = .ok (.goto 4, 3) := by decide +kernel
theorem d_D_isSelected_89 : decode b_D_isSelected 89 = .ok (.iconst 0, 1) := by decide +kernel
theorem d_D_isSelected_90 : decode b_D_isSelected 90 = .ok (.ireturn, 1) := by decide +kernel
theorem d_D_enterNextLevel_0 : decode b_D_enterNextLevel 0 = .ok (.iconst 0, 1) := by decide +kernel
theorem d_D_enterNextLevel_1 : decode b_D_enterNextLevel 1 = .ok (.istore_n 3, 1) := by decide +kernel
theorem d_D_enterNextLevel_2 : decode b_D_enterNextLevel 2 = .ok (.iload_n 3, 1) := by decide +kernel
theorem d_D_enterNextLevel_3 : decode b_D_enterNextLevel 3 = .ok (.aload_n 1, 1) := by decide +kernel
theorem d_D_enterNextLevel_4 : decode b_D_enterNextLevel 4 = .ok (.getfield 58, 3) := by decide +kernel
theorem d_D_enterNextLevel_7 : decode b_D_enterNextLevel 7 = .ok (.if_icmp .ge 39, 3) := by decide +kernel
theorem d_D_enterNextLevel_10 : decode b_D_enterNextLevel 10 = .ok (.aload_n 0, 1) := by decide +kernel
theorem d_D_enterNextLevel_11 : decode b_D_enterNextLevel 11 = .ok (.iconst 0, 1) := by decide +kernel
theorem d_D_enterNextLevel_12 : decode b_D_enterNextLevel 12 = .ok (.iload_n 3, 1) := by decide +kernel
theorem d_D_enterNextLevel_13 : decode b_D_enterNextLevel 13 = .ok (.invokevirtual 43, 3) := by decide +kernel
theorem d_D_enterNextLevel_16 : decode b_D_enterNextLevel 16 = .ok (.ifCond .eq 24, 3) := by decide +kernel
theorem d_D_enterNextLevel_19 : decode b_D_enterNextLevel 19 = .ok (.aload_n 0, 1) := by decide +kernel
theorem d_D_enterNextLevel_20 : decode b_D_enterNextLevel 20 = .ok (.iconst 0, 1) := by decide +kernel
theorem d_D_enterNextLevel_21 : decode b_D_enterNextLevel 21 = .ok (.iload_n 3, 1) := by decide +kernel
theorem d_D_enterNextLevel_22 : decode b_D_enterNextLevel 22 = .ok (.invokevirtual 54, 3) := by decide +kernel
theorem d_D_enterNextLevel_25 : decode b_D_enterNextLevel 25 = .ok (.iload_n 2, 1) := by decide +kernel
theorem d_D_enterNextLevel_26 : decode b_D_enterNextLevel 26 = .ok (.i2l, 1) := by decide +kernel
theorem d_D_enterNextLevel_27 : decode b_D_enterNextLevel 27 = .ok (.lcmp, 1) := by decide +kernel
theorem d_D_enterNextLevel_28 : decode b_D_enterNextLevel 28 = .ok (.ifCond .ne 12, 3) := by decide +kernel
theorem d_D_enterNextLevel_31 : decode b_D_enterNextLevel 31 = .ok (.aload_n 0, 1) := by decide +kernel
theorem d_D_enterNextLevel_32 : decode b_D_enterNextLevel 32 = .ok (.aload_n 1, 1) := by decide +kernel
theorem d_D_enterNextLevel_33 : decode b_D_enterNextLevel 33 = .ok (.iload_n 3, 1) := by decide +kernel
theorem d_D_enterNextLevel_34 : decode b_D_enterNextLevel 34 = .ok (.iload_n 2, 1) := by decide +kernel
theorem d_D_enterNextLevel_35 : decode b_D_enterNextLevel 35 = .ok (.iconst 1, 1) := by decide +kernel
theorem d_D_enterNextLevel_36 : decode b_D_enterNextLevel 36 = .ok (.iadd, 1) := by decide +kernel
theorem d_D_enterNextLevel_37 : decode b_D_enterNextLevel 37 = .ok (.invokestatic 183, 3) := by decide +kernel
theorem d_D_enterNextLevel_40 : decode b_D_enterNextLevel 40 = .ok (.iinc 3 1, 3) := by decide +kernel
theorem d_D_enterNextLevel_43 : decode b_D_enterNextLevel 43 = .ok (.goto (-41), 3) := by decide +kernel
theorem d_D_enterNextLevel_46 : decode b_D_enterNextLevel 46 = .ok (.return_, 1) := by decide +kernel
theorem d_D_enterNeighbours_0 : decode b_D_enterNeighbours 0 = .ok (.iconst 0, 1) := by decide +kernel
theorem d_D_enterNeighbours_1 : decode b_D_enterNeighbours 1 = .ok (.istore 4, 2) := by decide +kernel
theorem d_D_enterNeighbours_3 : decode b_D_enterNeighbours 3 = .ok (.iload 4, 2) := by decide +kernel
theorem d_D_enterNeighbours_5 : decode b_D_enterNeighbours 5 = .ok (.aload_n 1, 1) := by decide +kernel
theorem d_D_enterNeighbours_6 : decode b_D_enterNeighbours 6 = .ok (.getfield 62, 3) := by decide +kernel
theorem d_D_enterNeighbours_9 : decode b_D_enterNeighbours 9 = .ok (.if_icmp .ge 38, 3) := by decide +kernel
theorem d_D_enterNeighbours_12 : decode b_D_enterNeighbours 12 = .ok (.aload_n 1, 1) := by decide +kernel
theorem d_D_enterNeighbours_13 : decode b_D_enterNeighbours 13 = .ok (.iload_n 2, 1) := by decide +kernel
theorem d_D_enterNeighbours_14 : decode b_D_enterNeighbours 14 = .ok (.iload 4, 2) := by decide +kernel
theorem d_D_enterNeighbours_16 : decode b_D_enterNeighbours 16 = .ok (.invokevirtual 43, 3) := by decide +kernel
theorem d_D_enterNeighbours_19 : decode b_D_enterNeighbours 19 = .ok (.ifCond .eq 22, 3) := by decide +kernel
theorem d_D_enterNeighbours_22 : decode b_D_enterNeighbours 22 = .ok (.aload_n 0, 1) := by decide +kernel
theorem d_D_enterNeighbours_23 : decode b_D_enterNeighbours 23 = .ok (.iconst 0, 1) := by decide +kernel
theorem d_D_enterNeighbours_24 : decode b_D_enterNeighbours 24 = .ok (.iload 4, 2) := by decide +kernel
theorem d_D_enterNeighbours_26 : decode b_D_enterNeighbours 26 = .ok (.invokevirtual 43, 3) := by decide +kernel
theorem d_D_enterNeighbours_29 : decode b_D_enterNeighbours 29 = .ok (.ifCond .ne 12, 3) := by decide +kernel
theorem d_D_enterNeighbours_32 : decode b_D_enterNeighbours 32 = .ok (.aload_n 0, 1) := by decide +kernel
theorem d_D_enterNeighbours_33 : decode b_D_enterNeighbours 33 = .ok (.iconst 0, 1) := by decide +kernel
theorem d_D_enterNeighbours_34 : decode b_D_enterNeighbours 34 = .ok (.iload 4, 2) := by decide +kernel
theorem d_D_enterNeighbours_36 : decode b_D_enterNeighbours 36 = .ok (.iload_n 3, 1) := by decide +kernel
theorem d_D_enterNeighbours_37 : decode b_D_enterNeighbours 37 = .ok (.i2l, 1) := by decide +kernel
theorem d_D_enterNeighbours_38 : decode b_D_enterNeighbours 38 = .ok (.invokevirtual 39, 3) := by decide +kernel
theorem d_D_enterNeighbours_41 : decode b_D_enterNeighbours 41 = .ok (.iinc 4 1, 3) := by decide +kernel
theorem d_D_enterNeighbours_44 : decode b_D_enterNeighbours 44 = .ok (.goto (-41), 3) := by decide +kernel
theorem d_D_enterNeighbours_47 : decode b_D_enterNeighbours 47 = .ok (.return_, 1) := by decide +kernel
theorem d_D_shortenOver_0 : decode b_D_shortenOver 0 = .ok (.iconst 0, 1) := by decide +kernel
theorem d_D_shortenOver_1 : decode b_D_shortenOver 1 = .ok (.istore_n 2, 1) := by decide +kernel
theorem d_D_shortenOver_2 : decode b_D_shortenOver 2 = .ok (.iload_n 2, 1) := by decide +kernel
theorem d_D_shortenOver_3 : decode b_D_shortenOver 3 = .ok (.aload_n 0, 1) := by decide +kernel
theorem d_D_shortenOver_4 : decode b_D_shortenOver 4 = .ok (.getfield 58, 3) := by decide +kernel
theorem d_D_shortenOver_7 : decode b_D_shortenOver 7 = .ok (.if_icmp .ge 70, 3) := by decide +kernel
theorem d_D_shortenOver_10 : decode b_D_shortenOver 10 = .ok (.iconst 0, 1) := by decide +kernel
theorem d_D_shortenOver_11 : decode b_D_shortenOver 11 = .ok (.istore_n 3, 1) := by decide +kernel
theorem d_D_shortenOver_12 : decode b_D_shortenOver 12 = .ok (.iload_n 3, 1) := by decide +kernel
theorem d_D_shortenOver_13 : decode b_D_shortenOver 13 = .ok (.aload_n 0, 1) := by decide +kernel
theorem d_D_shortenOver_14 : decode b_D_shortenOver 14 = .ok (.getfield 62, 3) := by decide +kernel
theorem d_D_shortenOver_17 : decode b_D_shortenOver 17 = .ok (.if_icmp .ge 54, 3) := by decide +kernel
theorem d_D_shortenOver_20 : decode b_D_shortenOver 20 = .ok (.aload_n 0, 1) := by decide +kernel
theorem d_D_shortenOver_21 : decode b_D_shortenOver 21 = .ok (.iload_n 2, 1) := by decide +kernel
theorem d_D_shortenOver_22 : decode b_D_shortenOver 22 = .ok (.iload_n 1, 1) := by decide +kernel
theorem d_D_shortenOver_23 : decode b_D_shortenOver 23 = .ok (.invokevirtual 43, 3) := by decide +kernel
theorem d_D_shortenOver_26 : decode b_D_shortenOver 26 = .ok (.ifCond .eq 39, 3) := by decide +kernel
theorem d_D_shortenOver_29 : decode b_D_shortenOver 29 = .ok (.aload_n 0, 1) := by decide +kernel
theorem d_D_shortenOver_30 : decode b_D_shortenOver 30 = .ok (.iload_n 1, 1) := by decide +kernel
theorem d_D_shortenOver_31 : decode b_D_shortenOver 31 = .ok (.iload_n 3, 1) := by decide +kernel
theorem d_D_shortenOver_32 : decode b_D_shortenOver 32 = .ok (.invokevirtual 43, 3) := by decide +kernel
theorem d_D_shortenOver_35 : decode b_D_shortenOver 35 = .ok (.ifCond .eq 30, 3) := by decide +kernel
theorem d_D_shortenOver_38 : decode b_D_shortenOver 38 = .ok (.iconst 1, 1) := by decide +kernel
theorem d_D_shortenOver_39 : decode b_D_shortenOver 39 = .ok (.aload_n 0, 1) := by decide +kernel
theorem d_D_shortenOver_40 : decode b_D_shortenOver 40 = .ok (.iload_n 2, 1) := by decide +kernel
theorem d_D_shortenOver_41 : decode b_D_shortenOver 41 = .ok (.iload_n 1, 1) := by decide +kernel
theorem d_D_shortenOver_42 : decode b_D_shortenOver 42 = .ok (.invokevirtual 54, 3) := by decide +kernel
theorem d_D_shortenOver_45 : decode b_D_shortenOver 45 = .ok (.aload_n 0, 1) := by decide +kernel
theorem d_D_shortenOver_46 : decode b_D_shortenOver 46 = .ok (.iload_n 1, 1) := by decide +kernel
theorem d_D_shortenOver_47 : decode b_D_shortenOver 47 = .ok (.iload_n 3, 1) := by decide +kernel
theorem d_D_shortenOver_48 : decode b_D_shortenOver 48 = .ok (.invokevirtual 54, 3) := by decide +kernel
theorem d_D_shortenOver_51 : decode b_D_shortenOver 51 = .ok (.invokestatic 108, 3) := by decide +kernel
theorem d_D_shortenOver_54 : decode b_D_shortenOver 54 = .ok (.lstore 4, 2) := by decide +kernel
theorem d_D_shortenOver_56 : decode b_D_shortenOver 56 = .ok (.aload_n 0, 1) := by decide +kernel
theorem d_D_shortenOver_57 : decode b_D_shortenOver 57 = .ok (.iload_n 2, 1) := by decide +kernel
theorem d_D_shortenOver_58 : decode b_D_shortenOver 58 = .ok (.iload_n 3, 1) := by decide +kernel
theorem d_D_shortenOver_59 : decode b_D_shortenOver 59 = .ok (.lload 4, 2) := by decide +kernel
theorem d_D_shortenOver_61 : decode b_D_shortenOver 61 = .ok (.iconst 1, 1) := by decide +kernel
theorem d_D_shortenOver_62 : decode b_D_shortenOver 62 = .ok (.invokestatic 119, 3) := by decide +kernel
theorem d_D_shortenOver_65 : decode b_D_shortenOver 65 = .ok (.iinc 3 1, 3) := by decide +kernel
theorem d_D_shortenOver_68 : decode b_D_shortenOver 68 = .ok (.goto (-56), 3) := by decide +kernel
theorem d_D_shortenOver_71 : decode b_D_shortenOver 71 = .ok (.iinc 2 1, 3) := by decide +kernel
theorem d_D_shortenOver_74 : decode b_D_shortenOver 74 = .ok (.goto (-72), 3) := by decide +kernel
theorem d_D_shortenOver_77 : decode b_D_shortenOver 77 = .ok (.return_, 1) := by decide +kernel
theorem d_D_spreadLeastVertices_0 : decode b_D_spreadLeastVertices 0 = .ok (.iconst 0, 1) := by decide +kernel
theorem d_D_spreadLeastVertices_1 : decode b_D_spreadLeastVertices 1 = .ok (.istore_n 2, 1) := by decide +kernel
theorem d_D_spreadLeastVertices_2 : decode b_D_spreadLeastVertices 2 = .ok (.iload_n 2, 1) := by decide +kernel
theorem d_D_spreadLeastVertices_3 : decode b_D_spreadLeastVertices 3 = .ok (.aload_n 1, 1) := by decide +kernel
theorem d_D_spreadLeastVertices_4 : decode b_D_spreadLeastVertices 4 = .ok (.getfield 58, 3) := by decide +kernel
theorem d_D_spreadLeastVertices_7 : decode b_D_spreadLeastVertices 7 = .ok (.if_icmp .ge 67, 3) := by decide +kernel
theorem d_D_spreadLeastVertices_10 : decode b_D_spreadLeastVertices 10 = .ok (.iconst 0, 1) := by decide +kernel
theorem d_D_spreadLeastVertices_11 : decode b_D_spreadLeastVertices 11 = .ok (.istore_n 3, 1) := by decide +kernel
theorem d_D_spreadLeastVertices_12 : decode b_D_spreadLeastVertices 12 = .ok (.iload_n 3, 1) := by decide +kernel
theorem d_D_spreadLeastVertices_13 : decode b_D_spreadLeastVertices 13 = .ok (.aload_n 1, 1) := by decide +kernel
theorem d_D_spreadLeastVertices_14 : decode b_D_spreadLeastVertices 14 = .ok (.getfield 62, 3) := by decide +kernel
theorem d_D_spreadLeastVertices_17 : decode b_D_spreadLeastVertices 17 = .ok (.if_icmp .ge 51, 3) := by decide +kernel
theorem d_D_spreadLeastVertices_20 : decode b_D_spreadLeastVertices 20 = .ok (.aload_n 1, 1) := by decide +kernel
theorem d_D_spreadLeastVertices_21 : decode b_D_spreadLeastVertices 21 = .ok (.iload_n 2, 1) := by decide +kernel
theorem d_D_spreadLeastVertices_22 : decode b_D_spreadLeastVertices 22 = .ok (.iload_n 3, 1) := by decide +kernel
theorem d_D_spreadLeastVertices_23 : decode b_D_spreadLeastVertices 23 = .ok (.invokevirtual 43, 3) := by decide +kernel
theorem d_D_spreadLeastVertices_26 : decode b_D_spreadLeastVertices 26 = .ok (.ifCond .eq 36, 3) := by decide +kernel
theorem d_D_spreadLeastVertices_29 : decode b_D_spreadLeastVertices 29 = .ok (.aload_n 0, 1) := by decide +kernel
theorem d_D_spreadLeastVertices_30 : decode b_D_spreadLeastVertices 30 = .ok (.iconst 0, 1) := by decide +kernel
theorem d_D_spreadLeastVertices_31 : decode b_D_spreadLeastVertices 31 = .ok (.iload_n 2, 1) := by decide +kernel
theorem d_D_spreadLeastVertices_32 : decode b_D_spreadLeastVertices 32 = .ok (.invokevirtual 54, 3) := by decide +kernel
theorem d_D_spreadLeastVertices_35 : decode b_D_spreadLeastVertices 35 = .ok (.aload_n 0, 1) := by decide +kernel
theorem d_D_spreadLeastVertices_36 : decode b_D_spreadLeastVertices 36 = .ok (.iconst 0, 1) := by decide +kernel
theorem d_D_spreadLeastVertices_37 : decode b_D_spreadLeastVertices 37 = .ok (.iload_n 3, 1) := by decide +kernel
theorem d_D_spreadLeastVertices_38 : decode b_D_spreadLeastVertices 38 = .ok (.invokevirtual 54, 3) := by decide +kernel
theorem d_D_spreadLeastVertices_41 : decode b_D_spreadLeastVertices 41 = .ok (.invokestatic 153, 3) := by decide +kernel
theorem d_D_spreadLeastVertices_44 : decode b_D_spreadLeastVertices 44 = .ok (.lstore 4, 2) := by decide +kernel
theorem d_D_spreadLeastVertices_46 : decode b_D_spreadLeastVertices 46 = .ok (.aload_n 0, 1) := by decide +kernel
theorem d_D_spreadLeastVertices_47 : decode b_D_spreadLeastVertices 47 = .ok (.iconst 0, 1) := by decide +kernel
theorem d_D_spreadLeastVertices_48 : decode b_D_spreadLeastVertices 48 = .ok (.iload_n 2, 1) := by decide +kernel
theorem d_D_spreadLeastVertices_49 : decode b_D_spreadLeastVertices 49 = .ok (.lload 4, 2) := by decide +kernel
theorem d_D_spreadLeastVertices_51 : decode b_D_spreadLeastVertices 51 = .ok (.invokevirtual 39, 3) := by decide +kernel
theorem d_D_spreadLeastVertices_54 : decode b_D_spreadLeastVertices 54 = .ok (.aload_n 0, 1) := by decide +kernel
theorem d_D_spreadLeastVertices_55 : decode b_D_spreadLeastVertices 55 = .ok (.iconst 0, 1) := by decide +kernel
theorem d_D_spreadLeastVertices_56 : decode b_D_spreadLeastVertices 56 = .ok (.iload_n 3, 1) := by decide +kernel
theorem d_D_spreadLeastVertices_57 : decode b_D_spreadLeastVertices 57 = .ok (.lload 4, 2) := by decide +kernel
theorem d_D_spreadLeastVertices_59 : decode b_D_spreadLeastVertices 59 = .ok (.invokevirtual 39, 3) := by decide +kernel
theorem d_D_spreadLeastVertices_62 : decode b_D_spreadLeastVertices 62 = .ok (.iinc 3 1, 3) := by decide +kernel
theorem d_D_spreadLeastVertices_65 : decode b_D_spreadLeastVertices 65 = .ok (.goto (-53), 3) := by decide +kernel
theorem d_D_spreadLeastVertices_68 : decode b_D_spreadLeastVertices 68 = .ok (.iinc 2 1, 3) := by decide +kernel
theorem d_D_spreadLeastVertices_71 : decode b_D_spreadLeastVertices 71 = .ok (.goto (-69), 3) := by decide +kernel
theorem d_D_spreadLeastVertices_74 : decode b_D_spreadLeastVertices 74 = .ok (.return_, 1) := by decide +kernel
theorem d_D_isValue_0 : decode b_D_isValue 0 = .ok (.lload_n 0, 1) := by decide +kernel
theorem d_D_isValue_1 : decode b_D_isValue 1 = .ok (.ldc2_w 187, 3) := by decide +kernel
theorem d_D_isValue_4 : decode b_D_isValue 4 = .ok (.lcmp, 1) := by decide +kernel
theorem d_D_isValue_5 : decode b_D_isValue 5 = .ok (.ifCond .lt 15, 3) := by decide +kernel
theorem d_D_isValue_8 : decode b_D_isValue 8 = .ok (.lload_n 0, 1) := by decide +kernel
theorem d_D_isValue_9 : decode b_D_isValue 9 = .ok (.ldc2_w 179, 3) := by decide +kernel
theorem d_D_isValue_12 : decode b_D_isValue 12 = .ok (.lcmp, 1) := by decide +kernel
theorem d_D_isValue_13 : decode b_D_isValue 13 = .ok (.ifCond .gt 7, 3) := by decide +kernel
theorem d_D_isValue_16 : decode b_D_isValue 16 = .ok (.iconst 1, 1) := by decide +kernel
theorem d_D_isValue_17 : decode b_D_isValue 17 = .ok (.goto 4, 3) := by decide +kernel
theorem d_D_isValue_20 : decode b_D_isValue 20 = .ok (.iconst 0, 1) := by decide +kernel
theorem d_D_isValue_21 : decode b_D_isValue 21 = .ok (.ireturn, 1) := by decide +kernel
theorem d_D_requireRegister_0 : decode b_D_requireRegister 0 = .ok (.iload_n 0, 1) := by decide +kernel
theorem d_D_requireRegister_1 : decode b_D_requireRegister 1 = .ok (.ifCond .lt 9, 3) := by decide +kernel
theorem d_D_requireRegister_4 : decode b_D_requireRegister 4 = .ok (.iload_n 0, 1) := by decide +kernel
theorem d_D_requireRegister_5 : decode b_D_requireRegister 5 = .ok (.bipush 6, 2) := by decide +kernel
theorem d_D_requireRegister_7 : decode b_D_requireRegister 7 = .ok (.if_icmp .lt 13, 3) := by decide +kernel
theorem d_D_requireRegister_10 : decode b_D_requireRegister 10 = .ok (.new 189, 3) := by decide +kernel
theorem d_D_requireRegister_13 : decode b_D_requireRegister 13 = .ok (.dup, 1) := by decide +kernel
theorem d_D_requireRegister_14 : decode b_D_requireRegister 14 = .ok (.ldc 191, 2) := by decide +kernel
theorem d_D_requireRegister_16 : decode b_D_requireRegister 16 = .ok (.invokespecial 193, 3) := by decide +kernel
theorem d_D_requireRegister_19 : decode b_D_requireRegister 19 = .ok (.athrow, 1) := by decide +kernel
theorem d_D_requireRegister_20 : decode b_D_requireRegister 20 = .ok (.return_, 1) := by decide +kernel
theorem d_D_requireSemiring_0 : decode b_D_requireSemiring 0 = .ok (.iload_n 0, 1) := by decide +kernel
theorem d_D_requireSemiring_1 : decode b_D_requireSemiring 1 = .ok (.ifCond .lt 8, 3) := by decide +kernel
theorem d_D_requireSemiring_4 : decode b_D_requireSemiring 4 = .ok (.iload_n 0, 1) := by decide +kernel
theorem d_D_requireSemiring_5 : decode b_D_requireSemiring 5 = .ok (.iconst 3, 1) := by decide +kernel
theorem d_D_requireSemiring_6 : decode b_D_requireSemiring 6 = .ok (.if_icmp .le 13, 3) := by decide +kernel
theorem d_D_requireSemiring_9 : decode b_D_requireSemiring 9 = .ok (.new 189, 3) := by decide +kernel
theorem d_D_requireSemiring_12 : decode b_D_requireSemiring 12 = .ok (.dup, 1) := by decide +kernel
theorem d_D_requireSemiring_13 : decode b_D_requireSemiring 13 = .ok (.ldc 194, 2) := by decide +kernel
theorem d_D_requireSemiring_15 : decode b_D_requireSemiring 15 = .ok (.invokespecial 193, 3) := by decide +kernel
theorem d_D_requireSemiring_18 : decode b_D_requireSemiring 18 = .ok (.athrow, 1) := by decide +kernel
theorem d_D_requireSemiring_19 : decode b_D_requireSemiring 19 = .ok (.return_, 1) := by decide +kernel
theorem d_D_requireOperands_0 : decode b_D_requireOperands 0 = .ok (.iload_n 0, 1) := by decide +kernel
theorem d_D_requireOperands_1 : decode b_D_requireOperands 1 = .ok (.invokestatic 20, 3) := by decide +kernel
theorem d_D_requireOperands_4 : decode b_D_requireOperands 4 = .ok (.iload_n 1, 1) := by decide +kernel
theorem d_D_requireOperands_5 : decode b_D_requireOperands 5 = .ok (.invokestatic 20, 3) := by decide +kernel
theorem d_D_requireOperands_8 : decode b_D_requireOperands 8 = .ok (.iload_n 2, 1) := by decide +kernel
theorem d_D_requireOperands_9 : decode b_D_requireOperands 9 = .ok (.invokestatic 20, 3) := by decide +kernel
theorem d_D_requireOperands_12 : decode b_D_requireOperands 12 = .ok (.iload_n 3, 1) := by decide +kernel
theorem d_D_requireOperands_13 : decode b_D_requireOperands 13 = .ok (.invokestatic 116, 3) := by decide +kernel
theorem d_D_requireOperands_16 : decode b_D_requireOperands 16 = .ok (.return_, 1) := by decide +kernel
theorem d_D_requireMask_0 : decode b_D_requireMask 0 = .ok (.iload_n 0, 1) := by decide +kernel
theorem d_D_requireMask_1 : decode b_D_requireMask 1 = .ok (.iconst (-1), 1) := by decide +kernel
theorem d_D_requireMask_2 : decode b_D_requireMask 2 = .ok (.if_icmp .eq 7, 3) := by decide +kernel
theorem d_D_requireMask_5 : decode b_D_requireMask 5 = .ok (.iload_n 0, 1) := by decide +kernel
theorem d_D_requireMask_6 : decode b_D_requireMask 6 = .ok (.invokestatic 20, 3) := by decide +kernel
theorem d_D_requireMask_9 : decode b_D_requireMask 9 = .ok (.return_, 1) := by decide +kernel
theorem d_D_requireHow_0 : decode b_D_requireHow 0 = .ok (.iload_n 0, 1) := by decide +kernel
theorem d_D_requireHow_1 : decode b_D_requireHow 1 = .ok (.ifCond .lt 8, 3) := by decide +kernel
theorem d_D_requireHow_4 : decode b_D_requireHow 4 = .ok (.iload_n 0, 1) := by decide +kernel
theorem d_D_requireHow_5 : decode b_D_requireHow 5 = .ok (.iload_n 1, 1) := by decide +kernel
theorem d_D_requireHow_6 : decode b_D_requireHow 6 = .ok (.if_icmp .le 13, 3) := by decide +kernel
theorem d_D_requireHow_9 : decode b_D_requireHow 9 = .ok (.new 189, 3) := by decide +kernel
theorem d_D_requireHow_12 : decode b_D_requireHow 12 = .ok (.dup, 1) := by decide +kernel
theorem d_D_requireHow_13 : decode b_D_requireHow 13 = .ok (.ldc 196, 2) := by decide +kernel
theorem d_D_requireHow_15 : decode b_D_requireHow 15 = .ok (.invokespecial 193, 3) := by decide +kernel
theorem d_D_requireHow_18 : decode b_D_requireHow 18 = .ok (.athrow, 1) := by decide +kernel
theorem d_D_requireHow_19 : decode b_D_requireHow 19 = .ok (.return_, 1) := by decide +kernel
theorem d_D_requireSide_0 : decode b_D_requireSide 0 = .ok (.iload_n 0, 1) := by decide +kernel
theorem d_D_requireSide_1 : decode b_D_requireSide 1 = .ok (.iconst 1, 1) := by decide +kernel
theorem d_D_requireSide_2 : decode b_D_requireSide 2 = .ok (.if_icmp .lt 9, 3) := by decide +kernel
theorem d_D_requireSide_5 : decode b_D_requireSide 5 = .ok (.iload_n 0, 1) := by decide +kernel
theorem d_D_requireSide_6 : decode b_D_requireSide 6 = .ok (.bipush 8, 2) := by decide +kernel
theorem d_D_requireSide_8 : decode b_D_requireSide 8 = .ok (.if_icmp .le 13, 3) := by decide +kernel
theorem d_D_requireSide_11 : decode b_D_requireSide 11 = .ok (.new 189, 3) := by decide +kernel
theorem d_D_requireSide_14 : decode b_D_requireSide 14 = .ok (.dup, 1) := by decide +kernel
theorem d_D_requireSide_15 : decode b_D_requireSide 15 = .ok (.ldc 198, 2) := by decide +kernel
theorem d_D_requireSide_17 : decode b_D_requireSide 17 = .ok (.invokespecial 193, 3) := by decide +kernel
theorem d_D_requireSide_20 : decode b_D_requireSide 20 = .ok (.athrow, 1) := by decide +kernel
theorem d_D_requireSide_21 : decode b_D_requireSide 21 = .ok (.return_, 1) := by decide +kernel
theorem d_D_requirePlace_0 : decode b_D_requirePlace 0 = .ok (.iload_n 1, 1) := by decide +kernel
theorem d_D_requirePlace_1 : decode b_D_requirePlace 1 = .ok (.invokestatic 20, 3) := by decide +kernel
theorem d_D_requirePlace_4 : decode b_D_requirePlace 4 = .ok (.iload_n 2, 1) := by decide +kernel
theorem d_D_requirePlace_5 : decode b_D_requirePlace 5 = .ok (.ifCond .lt 33, 3) := by decide +kernel
theorem d_D_requirePlace_8 : decode b_D_requirePlace 8 = .ok (.iload_n 2, 1) := by decide +kernel
theorem d_D_requirePlace_9 : decode b_D_requirePlace 9 = .ok (.aload_n 0, 1) := by decide +kernel
theorem d_D_requirePlace_10 : decode b_D_requirePlace 10 = .ok (.getfield 11, 3) := by decide +kernel
theorem d_D_requirePlace_13 : decode b_D_requirePlace 13 = .ok (.iload_n 1, 1) := by decide +kernel
theorem d_D_requirePlace_14 : decode b_D_requirePlace 14 = .ok (.aaload, 1) := by decide +kernel
theorem d_D_requirePlace_15 : decode b_D_requirePlace 15 = .ok (.getfield 58, 3) := by decide +kernel
theorem d_D_requirePlace_18 : decode b_D_requirePlace 18 = .ok (.if_icmp .ge 20, 3) := by decide +kernel
theorem d_D_requirePlace_21 : decode b_D_requirePlace 21 = .ok (.iload_n 3, 1) := by decide +kernel
theorem d_D_requirePlace_22 : decode b_D_requirePlace 22 = .ok (.ifCond .lt 16, 3) := by decide +kernel
theorem d_D_requirePlace_25 : decode b_D_requirePlace 25 = .ok (.iload_n 3, 1) := by decide +kernel
theorem d_D_requirePlace_26 : decode b_D_requirePlace 26 = .ok (.aload_n 0, 1) := by decide +kernel
theorem d_D_requirePlace_27 : decode b_D_requirePlace 27 = .ok (.getfield 11, 3) := by decide +kernel
theorem d_D_requirePlace_30 : decode b_D_requirePlace 30 = .ok (.iload_n 1, 1) := by decide +kernel
theorem d_D_requirePlace_31 : decode b_D_requirePlace 31 = .ok (.aaload, 1) := by decide +kernel
theorem d_D_requirePlace_32 : decode b_D_requirePlace 32 = .ok (.getfield 62, 3) := by decide +kernel
theorem d_D_requirePlace_35 : decode b_D_requirePlace 35 = .ok (.if_icmp .lt 13, 3) := by decide +kernel
theorem d_D_requirePlace_38 : decode b_D_requirePlace 38 = .ok (.new 189, 3) := by decide +kernel
theorem d_D_requirePlace_41 : decode b_D_requirePlace 41 = .ok (.dup, 1) := by decide +kernel
theorem d_D_requirePlace_42 : decode b_D_requirePlace 42 = .ok (.ldc 200, 2) := by decide +kernel
theorem d_D_requirePlace_44 : decode b_D_requirePlace 44 = .ok (.invokespecial 193, 3) := by decide +kernel
theorem d_D_requirePlace_47 : decode b_D_requirePlace 47 = .ok (.athrow, 1) := by decide +kernel
theorem d_D_requirePlace_48 : decode b_D_requirePlace 48 = .ok (.return_, 1) := by decide +kernel
theorem d_D_requireValue_0 : decode b_D_requireValue 0 = .ok (.lload_n 0, 1) := by decide +kernel
theorem d_D_requireValue_1 : decode b_D_requireValue 1 = .ok (.invokestatic 164, 3) := by decide +kernel
theorem d_D_requireValue_4 : decode b_D_requireValue 4 = .ok (.ifCond .ne 13, 3) := by decide +kernel
theorem d_D_requireValue_7 : decode b_D_requireValue 7 = .ok (.new 189, 3) := by decide +kernel
theorem d_D_requireValue_10 : decode b_D_requireValue 10 = .ok (.dup, 1) := by decide +kernel
theorem d_D_requireValue_11 : decode b_D_requireValue 11 = .ok (.ldc 202, 2) := by decide +kernel
theorem d_D_requireValue_13 : decode b_D_requireValue 13 = .ok (.invokespecial 193, 3) := by decide +kernel
theorem d_D_requireValue_16 : decode b_D_requireValue 16 = .ok (.athrow, 1) := by decide +kernel
theorem d_D_requireValue_17 : decode b_D_requireValue 17 = .ok (.return_, 1) := by decide +kernel
theorem d_D_requireEntry_0 : decode b_D_requireEntry 0 = .ok (.iload_n 0, 1) := by decide +kernel
theorem d_D_requireEntry_1 : decode b_D_requireEntry 1 = .ok (.ifCond .ne 13, 3) := by decide +kernel
theorem d_D_requireEntry_4 : decode b_D_requireEntry 4 = .ok (.new 204, 3) := by decide +kernel
theorem d_D_requireEntry_7 : decode b_D_requireEntry 7 = .ok (.dup, 1) := by decide +kernel
theorem d_D_requireEntry_8 : decode b_D_requireEntry 8 = .ok (.ldc 206, 2) := by decide +kernel
theorem d_D_requireEntry_10 : decode b_D_requireEntry 10 = .ok (.invokespecial 208, 3) := by decide +kernel
theorem d_D_requireEntry_13 : decode b_D_requireEntry 13 = .ok (.athrow, 1) := by decide +kernel
theorem d_D_requireEntry_14 : decode b_D_requireEntry 14 = .ok (.return_, 1) := by decide +kernel
theorem d_D_requireFit_0 : decode b_D_requireFit 0 = .ok (.iload_n 0, 1) := by decide +kernel
theorem d_D_requireFit_1 : decode b_D_requireFit 1 = .ok (.ifCond .ne 13, 3) := by decide +kernel
theorem d_D_requireFit_4 : decode b_D_requireFit 4 = .ok (.new 209, 3) := by decide +kernel
theorem d_D_requireFit_7 : decode b_D_requireFit 7 = .ok (.dup, 1) := by decide +kernel
theorem d_D_requireFit_8 : decode b_D_requireFit 8 = .ok (.ldc 211, 2) := by decide +kernel
theorem d_D_requireFit_10 : decode b_D_requireFit 10 = .ok (.invokespecial 213, 3) := by decide +kernel
theorem d_D_requireFit_13 : decode b_D_requireFit 13 = .ok (.athrow, 1) := by decide +kernel
theorem d_D_requireFit_14 : decode b_D_requireFit 14 = .ok (.return_, 1) := by decide +kernel
theorem d_D_requireSameShape_0 : decode b_D_requireSameShape 0 = .ok (.aload_n 0, 1) := by decide +kernel
theorem d_D_requireSameShape_1 : decode b_D_requireSameShape 1 = .ok (.getfield 11, 3) := by decide +kernel
theorem d_D_requireSameShape_4 : decode b_D_requireSameShape 4 = .ok (.iload_n 1, 1) := by decide +kernel
theorem d_D_requireSameShape_5 : decode b_D_requireSameShape 5 = .ok (.aaload, 1) := by decide +kernel
theorem d_D_requireSameShape_6 : decode b_D_requireSameShape 6 = .ok (.aload_n 0, 1) := by decide +kernel
theorem d_D_requireSameShape_7 : decode b_D_requireSameShape 7 = .ok (.getfield 11, 3) := by decide +kernel
theorem d_D_requireSameShape_10 : decode b_D_requireSameShape 10 = .ok (.iload_n 2, 1) := by decide +kernel
theorem d_D_requireSameShape_11 : decode b_D_requireSameShape 11 = .ok (.aaload, 1) := by decide +kernel
theorem d_D_requireSameShape_12 : decode b_D_requireSameShape 12 = .ok (.getfield 58, 3) := by decide +kernel
theorem d_D_requireSameShape_15 : decode b_D_requireSameShape 15 = .ok (.aload_n 0, 1) := by decide +kernel
theorem d_D_requireSameShape_16 : decode b_D_requireSameShape 16 = .ok (.getfield 11, 3) := by decide +kernel
theorem d_D_requireSameShape_19 : decode b_D_requireSameShape 19 = .ok (.iload_n 2, 1) := by decide +kernel
theorem d_D_requireSameShape_20 : decode b_D_requireSameShape 20 = .ok (.aaload, 1) := by decide +kernel
theorem d_D_requireSameShape_21 : decode b_D_requireSameShape 21 = .ok (.getfield 62, 3) := by decide +kernel
theorem d_D_requireSameShape_24 : decode b_D_requireSameShape 24 = .ok (.invokevirtual 82, 3) := by decide +kernel
theorem d_D_requireSameShape_27 : decode b_D_requireSameShape 27 = .ok (.invokestatic 79, 3) := by decide +kernel
theorem d_D_requireSameShape_30 : decode b_D_requireSameShape 30 = .ok (.return_, 1) := by decide +kernel
theorem d_D_requireGraph_0 : decode b_D_requireGraph 0 = .ok (.iload_n 1, 1) := by decide +kernel
theorem d_D_requireGraph_1 : decode b_D_requireGraph 1 = .ok (.invokestatic 20, 3) := by decide +kernel
theorem d_D_requireGraph_4 : decode b_D_requireGraph 4 = .ok (.aload_n 0, 1) := by decide +kernel
theorem d_D_requireGraph_5 : decode b_D_requireGraph 5 = .ok (.getfield 11, 3) := by decide +kernel
theorem d_D_requireGraph_8 : decode b_D_requireGraph 8 = .ok (.iload_n 1, 1) := by decide +kernel
theorem d_D_requireGraph_9 : decode b_D_requireGraph 9 = .ok (.aaload, 1) := by decide +kernel
theorem d_D_requireGraph_10 : decode b_D_requireGraph 10 = .ok (.getfield 58, 3) := by decide +kernel
theorem d_D_requireGraph_13 : decode b_D_requireGraph 13 = .ok (.aload_n 0, 1) := by decide +kernel
theorem d_D_requireGraph_14 : decode b_D_requireGraph 14 = .ok (.getfield 11, 3) := by decide +kernel
theorem d_D_requireGraph_17 : decode b_D_requireGraph 17 = .ok (.iload_n 1, 1) := by decide +kernel
theorem d_D_requireGraph_18 : decode b_D_requireGraph 18 = .ok (.aaload, 1) := by decide +kernel
theorem d_D_requireGraph_19 : decode b_D_requireGraph 19 = .ok (.getfield 62, 3) := by decide +kernel
theorem d_D_requireGraph_22 : decode b_D_requireGraph 22 = .ok (.if_icmp .ne 7, 3) := by decide +kernel
theorem d_D_requireGraph_25 : decode b_D_requireGraph 25 = .ok (.iconst 1, 1) := by decide +kernel
theorem d_D_requireGraph_26 : decode b_D_requireGraph 26 = .ok (.goto 4, 3) := by decide +kernel
theorem d_D_requireGraph_29 : decode b_D_requireGraph 29 = .ok (.iconst 0, 1) := by decide +kernel
theorem d_D_requireGraph_30 : decode b_D_requireGraph 30 = .ok (.invokestatic 79, 3) := by decide +kernel
theorem d_D_requireGraph_33 : decode b_D_requireGraph 33 = .ok (.return_, 1) := by decide +kernel
theorem d_D_requireVertex_0 : decode b_D_requireVertex 0 = .ok (.iload_n 1, 1) := by decide +kernel
theorem d_D_requireVertex_1 : decode b_D_requireVertex 1 = .ok (.ifCond .lt 11, 3) := by decide +kernel
theorem d_D_requireVertex_4 : decode b_D_requireVertex 4 = .ok (.iload_n 1, 1) := by decide +kernel
theorem d_D_requireVertex_5 : decode b_D_requireVertex 5 = .ok (.aload_n 0, 1) := by decide +kernel
theorem d_D_requireVertex_6 : decode b_D_requireVertex 6 = .ok (.getfield 58, 3) := by decide +kernel
theorem d_D_requireVertex_9 : decode b_D_requireVertex 9 = .ok (.if_icmp .lt 13, 3) := by decide +kernel
theorem d_D_requireVertex_12 : decode b_D_requireVertex 12 = .ok (.new 204, 3) := by decide +kernel
theorem d_D_requireVertex_15 : decode b_D_requireVertex 15 = .ok (.dup, 1) := by decide +kernel
theorem d_D_requireVertex_16 : decode b_D_requireVertex 16 = .ok (.ldc 214, 2) := by decide +kernel
theorem d_D_requireVertex_18 : decode b_D_requireVertex 18 = .ok (.invokespecial 208, 3) := by decide +kernel
theorem d_D_requireVertex_21 : decode b_D_requireVertex 21 = .ok (.athrow, 1) := by decide +kernel
theorem d_D_requireVertex_22 : decode b_D_requireVertex 22 = .ok (.return_, 1) := by decide +kernel
theorem d_D_requireLengths_0 : decode b_D_requireLengths 0 = .ok (.iconst 0, 1) := by decide +kernel
theorem d_D_requireLengths_1 : decode b_D_requireLengths 1 = .ok (.istore_n 1, 1) := by decide +kernel
theorem d_D_requireLengths_2 : decode b_D_requireLengths 2 = .ok (.iload_n 1, 1) := by decide +kernel
theorem d_D_requireLengths_3 : decode b_D_requireLengths 3 = .ok (.aload_n 0, 1) := by decide +kernel
theorem d_D_requireLengths_4 : decode b_D_requireLengths 4 = .ok (.getfield 58, 3) := by decide +kernel
theorem d_D_requireLengths_7 : decode b_D_requireLengths 7 = .ok (.if_icmp .ge 60, 3) := by decide +kernel
theorem d_D_requireLengths_10 : decode b_D_requireLengths 10 = .ok (.iconst 0, 1) := by decide +kernel
theorem d_D_requireLengths_11 : decode b_D_requireLengths 11 = .ok (.istore_n 2, 1) := by decide +kernel
theorem d_D_requireLengths_12 : decode b_D_requireLengths 12 = .ok (.iload_n 2, 1) := by decide +kernel
theorem d_D_requireLengths_13 : decode b_D_requireLengths 13 = .ok (.aload_n 0, 1) := by decide +kernel
theorem d_D_requireLengths_14 : decode b_D_requireLengths 14 = .ok (.getfield 62, 3) := by decide +kernel
theorem d_D_requireLengths_17 : decode b_D_requireLengths 17 = .ok (.if_icmp .ge 44, 3) := by decide +kernel
theorem d_D_requireLengths_20 : decode b_D_requireLengths 20 = .ok (.aload_n 0, 1) := by decide +kernel
theorem d_D_requireLengths_21 : decode b_D_requireLengths 21 = .ok (.iload_n 1, 1) := by decide +kernel
theorem d_D_requireLengths_22 : decode b_D_requireLengths 22 = .ok (.iload_n 2, 1) := by decide +kernel
theorem d_D_requireLengths_23 : decode b_D_requireLengths 23 = .ok (.invokevirtual 43, 3) := by decide +kernel
theorem d_D_requireLengths_26 : decode b_D_requireLengths 26 = .ok (.ifCond .eq 29, 3) := by decide +kernel
theorem d_D_requireLengths_29 : decode b_D_requireLengths 29 = .ok (.aload_n 0, 1) := by decide +kernel
theorem d_D_requireLengths_30 : decode b_D_requireLengths 30 = .ok (.iload_n 1, 1) := by decide +kernel
theorem d_D_requireLengths_31 : decode b_D_requireLengths 31 = .ok (.iload_n 2, 1) := by decide +kernel
theorem d_D_requireLengths_32 : decode b_D_requireLengths 32 = .ok (.invokevirtual 54, 3) := by decide +kernel
theorem d_D_requireLengths_35 : decode b_D_requireLengths 35 = .ok (.invokestatic 175, 3) := by decide +kernel
theorem d_D_requireLengths_38 : decode b_D_requireLengths 38 = .ok (.ldc2_w 216, 3) := by decide +kernel
theorem d_D_requireLengths_41 : decode b_D_requireLengths 41 = .ok (.lcmp, 1) := by decide +kernel
theorem d_D_requireLengths_42 : decode b_D_requireLengths 42 = .ok (.ifCond .le 13, 3) := by decide +kernel
theorem d_D_requireLengths_45 : decode b_D_requireLengths 45 = .ok (.new 168, 3) := by decide +kernel
theorem d_D_requireLengths_48 : decode b_D_requireLengths 48 = .ok (.dup, 1) := by decide +kernel
theorem d_D_requireLengths_49 : decode b_D_requireLengths 49 = .ok (.ldc 218, 2) := by decide +kernel
theorem d_D_requireLengths_51 : decode b_D_requireLengths 51 = .ok (.invokespecial 172, 3) := by decide +kernel
theorem d_D_requireLengths_54 : decode b_D_requireLengths 54 = .ok (.athrow, 1) := by decide +kernel
theorem d_D_requireLengths_55 : decode b_D_requireLengths 55 = .ok (.iinc 2 1, 3) := by decide +kernel
theorem d_D_requireLengths_58 : decode b_D_requireLengths 58 = .ok (.goto (-46), 3) := by decide +kernel
theorem d_D_requireLengths_61 : decode b_D_requireLengths 61 = .ok (.iinc 1 1, 3) := by decide +kernel
theorem d_D_requireLengths_64 : decode b_D_requireLengths 64 = .ok (.goto (-62), 3) := by decide +kernel
theorem d_D_requireLengths_67 : decode b_D_requireLengths 67 = .ok (.return_, 1) := by decide +kernel
theorem d_D_requireNoCircleBelowZero_0 : decode b_D_requireNoCircleBelowZero 0 = .ok (.iconst 0, 1) := by decide +kernel
theorem d_D_requireNoCircleBelowZero_1 : decode b_D_requireNoCircleBelowZero 1 = .ok (.istore_n 1, 1) := by decide +kernel
theorem d_D_requireNoCircleBelowZero_2 : decode b_D_requireNoCircleBelowZero 2 = .ok (.iload_n 1, 1) := by decide +kernel
theorem d_D_requireNoCircleBelowZero_3 : decode b_D_requireNoCircleBelowZero 3 = .ok (.aload_n 0, 1) := by decide +kernel
theorem d_D_requireNoCircleBelowZero_4 : decode b_D_requireNoCircleBelowZero 4 = .ok (.getfield 58, 3) := by decide +kernel
theorem d_D_requireNoCircleBelowZero_7 : decode b_D_requireNoCircleBelowZero 7 = .ok (.if_icmp .ge 30, 3) := by decide +kernel
theorem d_D_requireNoCircleBelowZero_10 : decode b_D_requireNoCircleBelowZero 10 = .ok (.aload_n 0, 1) := by decide +kernel
theorem d_D_requireNoCircleBelowZero_11 : decode b_D_requireNoCircleBelowZero 11 = .ok (.iload_n 1, 1) := by decide +kernel
theorem d_D_requireNoCircleBelowZero_12 : decode b_D_requireNoCircleBelowZero 12 = .ok (.iload_n 1, 1) := by decide +kernel
theorem d_D_requireNoCircleBelowZero_13 : decode b_D_requireNoCircleBelowZero 13 = .ok (.invokevirtual 54, 3) := by decide +kernel
theorem d_D_requireNoCircleBelowZero_16 : decode b_D_requireNoCircleBelowZero 16 = .ok (.lconst 0, 1) := by decide +kernel
theorem d_D_requireNoCircleBelowZero_17 : decode b_D_requireNoCircleBelowZero 17 = .ok (.lcmp, 1) := by decide +kernel
theorem d_D_requireNoCircleBelowZero_18 : decode b_D_requireNoCircleBelowZero 18 = .ok (.ifCond .ge 13, 3) := by decide +kernel
theorem d_D_requireNoCircleBelowZero_21 : decode b_D_requireNoCircleBelowZero 21 = .ok (.new 204, 3) := by decide +kernel
theorem d_D_requireNoCircleBelowZero_24 : decode b_D_requireNoCircleBelowZero 24 = .ok (.dup, 1) := by decide +kernel
theorem d_D_requireNoCircleBelowZero_25 : decode b_D_requireNoCircleBelowZero 25 = .ok (.ldc 220, 2) := by decide +kernel
theorem d_D_requireNoCircleBelowZero_27 : decode b_D_requireNoCircleBelowZero 27 = .ok (.invokespecial 208, 3) := by decide +kernel
theorem d_D_requireNoCircleBelowZero_30 : decode b_D_requireNoCircleBelowZero 30 = .ok (.athrow, 1) := by decide +kernel
theorem d_D_requireNoCircleBelowZero_31 : decode b_D_requireNoCircleBelowZero 31 = .ok (.iinc 1 1, 3) := by decide +kernel
theorem d_D_requireNoCircleBelowZero_34 : decode b_D_requireNoCircleBelowZero 34 = .ok (.goto (-32), 3) := by decide +kernel
theorem d_D_requireNoCircleBelowZero_37 : decode b_D_requireNoCircleBelowZero 37 = .ok (.return_, 1) := by decide +kernel
