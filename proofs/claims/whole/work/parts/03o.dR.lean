theorem d_R_init_0 : decode b_R_init 0 = .ok (.aload_n 0, 1) := by decide +kernel
theorem d_R_init_1 : decode b_R_init 1 = .ok (.invokespecial 1, 3) := by decide +kernel
theorem d_R_init_4 : decode b_R_init 4 = .ok (.aload_n 0, 1) := by decide +kernel
theorem d_R_init_5 : decode b_R_init 5 = .ok (.bipush 6, 2) := by decide +kernel
theorem d_R_init_7 : decode b_R_init 7 = .ok (.newarray .int, 2) := by decide +kernel
theorem d_R_init_9 : decode b_R_init 9 = .ok (.dup, 1) := by decide +kernel
theorem d_R_init_10 : decode b_R_init 10 = .ok (.iconst 0, 1) := by decide +kernel
theorem d_R_init_11 : decode b_R_init 11 = .ok (.iconst 1, 1) := by decide +kernel
theorem d_R_init_12 : decode b_R_init 12 = .ok (.iastore, 1) := by decide +kernel
theorem d_R_init_13 : decode b_R_init 13 = .ok (.dup, 1) := by decide +kernel
theorem d_R_init_14 : decode b_R_init 14 = .ok (.iconst 1, 1) := by decide +kernel
theorem d_R_init_15 : decode b_R_init 15 = .ok (.iconst 1, 1) := by decide +kernel
theorem d_R_init_16 : decode b_R_init 16 = .ok (.iastore, 1) := by decide +kernel
theorem d_R_init_17 : decode b_R_init 17 = .ok (.dup, 1) := by decide +kernel
theorem d_R_init_18 : decode b_R_init 18 = .ok (.iconst 2, 1) := by decide +kernel
theorem d_R_init_19 : decode b_R_init 19 = .ok (.iconst 1, 1) := by decide +kernel
theorem d_R_init_20 : decode b_R_init 20 = .ok (.iastore, 1) := by decide +kernel
theorem d_R_init_21 : decode b_R_init 21 = .ok (.dup, 1) := by decide +kernel
theorem d_R_init_22 : decode b_R_init 22 = .ok (.iconst 3, 1) := by decide +kernel
theorem d_R_init_23 : decode b_R_init 23 = .ok (.iconst 1, 1) := by decide +kernel
theorem d_R_init_24 : decode b_R_init 24 = .ok (.iastore, 1) := by decide +kernel
theorem d_R_init_25 : decode b_R_init 25 = .ok (.dup, 1) := by decide +kernel
theorem d_R_init_26 : decode b_R_init 26 = .ok (.iconst 4, 1) := by decide +kernel
theorem d_R_init_27 : decode b_R_init 27 = .ok (.iconst 1, 1) := by decide +kernel
theorem d_R_init_28 : decode b_R_init 28 = .ok (.iastore, 1) := by decide +kernel
theorem d_R_init_29 : decode b_R_init 29 = .ok (.dup, 1) := by decide +kernel
theorem d_R_init_30 : decode b_R_init 30 = .ok (.iconst 5, 1) := by decide +kernel
theorem d_R_init_31 : decode b_R_init 31 = .ok (.iconst 1, 1) := by decide +kernel
theorem d_R_init_32 : decode b_R_init 32 = .ok (.iastore, 1) := by decide +kernel
theorem d_R_init_33 : decode b_R_init 33 = .ok (.putfield 7, 3) := by decide +kernel
theorem d_R_init_36 : decode b_R_init 36 = .ok (.aload_n 0, 1) := by decide +kernel
theorem d_R_init_37 : decode b_R_init 37 = .ok (.bipush 6, 2) := by decide +kernel
theorem d_R_init_39 : decode b_R_init 39 = .ok (.newarray .int, 2) := by decide +kernel
theorem d_R_init_41 : decode b_R_init 41 = .ok (.dup, 1) := by decide +kernel
theorem d_R_init_42 : decode b_R_init 42 = .ok (.iconst 0, 1) := by decide +kernel
theorem d_R_init_43 : decode b_R_init 43 = .ok (.iconst 1, 1) := by decide +kernel
theorem d_R_init_44 : decode b_R_init 44 = .ok (.iastore, 1) := by decide +kernel
theorem d_R_init_45 : decode b_R_init 45 = .ok (.dup, 1) := by decide +kernel
theorem d_R_init_46 : decode b_R_init 46 = .ok (.iconst 1, 1) := by decide +kernel
theorem d_R_init_47 : decode b_R_init 47 = .ok (.iconst 1, 1) := by decide +kernel
theorem d_R_init_48 : decode b_R_init 48 = .ok (.iastore, 1) := by decide +kernel
theorem d_R_init_49 : decode b_R_init 49 = .ok (.dup, 1) := by decide +kernel
theorem d_R_init_50 : decode b_R_init 50 = .ok (.iconst 2, 1) := by decide +kernel
theorem d_R_init_51 : decode b_R_init 51 = .ok (.iconst 1, 1) := by decide +kernel
theorem d_R_init_52 : decode b_R_init 52 = .ok (.iastore, 1) := by decide +kernel
theorem d_R_init_53 : decode b_R_init 53 = .ok (.dup, 1) := by decide +kernel
theorem d_R_init_54 : decode b_R_init 54 = .ok (.iconst 3, 1) := by decide +kernel
theorem d_R_init_55 : decode b_R_init 55 = .ok (.iconst 1, 1) := by decide +kernel
theorem d_R_init_56 : decode b_R_init 56 = .ok (.iastore, 1) := by decide +kernel
theorem d_R_init_57 : decode b_R_init 57 = .ok (.dup, 1) := by decide +kernel
theorem d_R_init_58 : decode b_R_init 58 = .ok (.iconst 4, 1) := by decide +kernel
theorem d_R_init_59 : decode b_R_init 59 = .ok (.iconst 1, 1) := by decide +kernel
theorem d_R_init_60 : decode b_R_init 60 = .ok (.iastore, 1) := by decide +kernel
theorem d_R_init_61 : decode b_R_init 61 = .ok (.dup, 1) := by decide +kernel
theorem d_R_init_62 : decode b_R_init 62 = .ok (.iconst 5, 1) := by decide +kernel
theorem d_R_init_63 : decode b_R_init 63 = .ok (.iconst 1, 1) := by decide +kernel
theorem d_R_init_64 : decode b_R_init 64 = .ok (.iastore, 1) := by decide +kernel
theorem d_R_init_65 : decode b_R_init 65 = .ok (.putfield 13, 3) := by decide +kernel
theorem d_R_init_68 : decode b_R_init 68 = .ok (.aload_n 0, 1) := by decide +kernel
theorem d_R_init_69 : decode b_R_init 69 = .ok (.sipush 384, 3) := by decide +kernel
theorem d_R_init_72 : decode b_R_init 72 = .ok (.newarray .boolean, 2) := by decide +kernel
theorem d_R_init_74 : decode b_R_init 74 = .ok (.putfield 16, 3) := by decide +kernel
theorem d_R_init_77 : decode b_R_init 77 = .ok (.aload_n 0, 1) := by decide +kernel
theorem d_R_init_78 : decode b_R_init 78 = .ok (.sipush 384, 3) := by decide +kernel
theorem d_R_init_81 : decode b_R_init 81 = .ok (.newarray .long, 2) := by decide +kernel
theorem d_R_init_83 : decode b_R_init 83 = .ok (.putfield 20, 3) := by decide +kernel
theorem d_R_init_86 : decode b_R_init 86 = .ok (.aload_n 0, 1) := by decide +kernel
theorem d_R_init_87 : decode b_R_init 87 = .ok (.bipush 64, 2) := by decide +kernel
theorem d_R_init_89 : decode b_R_init 89 = .ok (.newarray .boolean, 2) := by decide +kernel
theorem d_R_init_91 : decode b_R_init 91 = .ok (.putfield 24, 3) := by decide +kernel
theorem d_R_init_94 : decode b_R_init 94 = .ok (.aload_n 0, 1) := by decide +kernel
theorem d_R_init_95 : decode b_R_init 95 = .ok (.bipush 64, 2) := by decide +kernel
theorem d_R_init_97 : decode b_R_init 97 = .ok (.newarray .long, 2) := by decide +kernel
theorem d_R_init_99 : decode b_R_init 99 = .ok (.putfield 27, 3) := by decide +kernel
theorem d_R_init_102 : decode b_R_init 102 = .ok (.return_, 1) := by decide +kernel
theorem d_R_thrown_0 : decode b_R_thrown 0 = .ok (.aload_n 0, 1) := by decide +kernel
theorem d_R_thrown_1 : decode b_R_thrown 1 = .ok (.getfield 30, 3) := by decide +kernel
theorem d_R_thrown_4 : decode b_R_thrown 4 = .ok (.ireturn, 1) := by decide +kernel
theorem d_R_isRegister_0 : decode b_R_isRegister 0 = .ok (.iload_n 0, 1) := by decide +kernel
theorem d_R_isRegister_1 : decode b_R_isRegister 1 = .ok (.ifCond .lt 13, 3) := by decide +kernel
theorem d_R_isRegister_4 : decode b_R_isRegister 4 = .ok (.iload_n 0, 1) := by decide +kernel
theorem d_R_isRegister_5 : decode b_R_isRegister 5 = .ok (.bipush 6, 2) := by decide +kernel
theorem d_R_isRegister_7 : decode b_R_isRegister 7 = .ok (.if_icmp .ge 7, 3) := by decide +kernel
theorem d_R_isRegister_10 : decode b_R_isRegister 10 = .ok (.iconst 1, 1) := by decide +kernel
theorem d_R_isRegister_11 : decode b_R_isRegister 11 = .ok (.goto 4, 3) := by decide +kernel
theorem d_R_isRegister_14 : decode b_R_isRegister 14 = .ok (.iconst 0, 1) := by decide +kernel
theorem d_R_isRegister_15 : decode b_R_isRegister 15 = .ok (.ireturn, 1) := by decide +kernel
theorem d_R_isRing_0 : decode b_R_isRing 0 = .ok (.iload_n 0, 1) := by decide +kernel
theorem d_R_isRing_1 : decode b_R_isRing 1 = .ok (.ifCond .lt 12, 3) := by decide +kernel
theorem d_R_isRing_4 : decode b_R_isRing 4 = .ok (.iload_n 0, 1) := by decide +kernel
theorem d_R_isRing_5 : decode b_R_isRing 5 = .ok (.iconst 4, 1) := by decide +kernel
theorem d_R_isRing_6 : decode b_R_isRing 6 = .ok (.if_icmp .ge 7, 3) := by decide +kernel
theorem d_R_isRing_9 : decode b_R_isRing 9 = .ok (.iconst 1, 1) := by decide +kernel
theorem d_R_isRing_10 : decode b_R_isRing 10 = .ok (.goto 4, 3) := by decide +kernel
theorem d_R_isRing_13 : decode b_R_isRing 13 = .ok (.iconst 0, 1) := by decide +kernel
theorem d_R_isRing_14 : decode b_R_isRing 14 = .ok (.ireturn, 1) := by decide +kernel
theorem d_R_isValue_0 : decode b_R_isValue 0 = .ok (.lload_n 0, 1) := by decide +kernel
theorem d_R_isValue_1 : decode b_R_isValue 1 = .ok (.ldc2_w 34, 3) := by decide +kernel
theorem d_R_isValue_4 : decode b_R_isValue 4 = .ok (.lcmp, 1) := by decide +kernel
theorem d_R_isValue_5 : decode b_R_isValue 5 = .ok (.ifCond .lt 15, 3) := by decide +kernel
theorem d_R_isValue_8 : decode b_R_isValue 8 = .ok (.lload_n 0, 1) := by decide +kernel
theorem d_R_isValue_9 : decode b_R_isValue 9 = .ok (.ldc2_w 36, 3) := by decide +kernel
theorem d_R_isValue_12 : decode b_R_isValue 12 = .ok (.lcmp, 1) := by decide +kernel
theorem d_R_isValue_13 : decode b_R_isValue 13 = .ok (.ifCond .gt 7, 3) := by decide +kernel
theorem d_R_isValue_16 : decode b_R_isValue 16 = .ok (.iconst 1, 1) := by decide +kernel
theorem d_R_isValue_17 : decode b_R_isValue 17 = .ok (.goto 4, 3) := by decide +kernel
theorem d_R_isValue_20 : decode b_R_isValue 20 = .ok (.iconst 0, 1) := by decide +kernel
theorem d_R_isValue_21 : decode b_R_isValue 21 = .ok (.ireturn, 1) := by decide +kernel
theorem d_R_isPlace_0 : decode b_R_isPlace 0 = .ok (.iload_n 1, 1) := by decide +kernel
theorem d_R_isPlace_1 : decode b_R_isPlace 1 = .ok (.invokestatic 38, 3) := by decide +kernel
theorem d_R_isPlace_4 : decode b_R_isPlace 4 = .ok (.ifCond .eq 35, 3) := by decide +kernel
theorem d_R_isPlace_7 : decode b_R_isPlace 7 = .ok (.iload_n 2, 1) := by decide +kernel
theorem d_R_isPlace_8 : decode b_R_isPlace 8 = .ok (.ifCond .lt 31, 3) := by decide +kernel
theorem d_R_isPlace_11 : decode b_R_isPlace 11 = .ok (.iload_n 2, 1) := by decide +kernel
theorem d_R_isPlace_12 : decode b_R_isPlace 12 = .ok (.aload_n 0, 1) := by decide +kernel
theorem d_R_isPlace_13 : decode b_R_isPlace 13 = .ok (.getfield 7, 3) := by decide +kernel
theorem d_R_isPlace_16 : decode b_R_isPlace 16 = .ok (.iload_n 1, 1) := by decide +kernel
theorem d_R_isPlace_17 : decode b_R_isPlace 17 = .ok (.iaload, 1) := by decide +kernel
theorem d_R_isPlace_18 : decode b_R_isPlace 18 = .ok (.if_icmp .ge 21, 3) := by decide +kernel
theorem d_R_isPlace_21 : decode b_R_isPlace 21 = .ok (.iload_n 3, 1) := by decide +kernel
theorem d_R_isPlace_22 : decode b_R_isPlace 22 = .ok (.ifCond .lt 17, 3) := by decide +kernel
theorem d_R_isPlace_25 : decode b_R_isPlace 25 = .ok (.iload_n 3, 1) := by decide +kernel
theorem d_R_isPlace_26 : decode b_R_isPlace 26 = .ok (.aload_n 0, 1) := by decide +kernel
theorem d_R_isPlace_27 : decode b_R_isPlace 27 = .ok (.getfield 13, 3) := by decide +kernel
theorem d_R_isPlace_30 : decode b_R_isPlace 30 = .ok (.iload_n 1, 1) := by decide +kernel
theorem d_R_isPlace_31 : decode b_R_isPlace 31 = .ok (.iaload, 1) := by decide +kernel
theorem d_R_isPlace_32 : decode b_R_isPlace 32 = .ok (.if_icmp .ge 7, 3) := by decide +kernel
theorem d_R_isPlace_35 : decode b_R_isPlace 35 = .ok (.iconst 1, 1) := by decide +kernel
theorem d_R_isPlace_36 : decode b_R_isPlace 36 = .ok (.goto 4, 3) := by decide +kernel
theorem d_R_isPlace_39 : decode b_R_isPlace 39 = .ok (.iconst 0, 1) := by decide +kernel
theorem d_R_isPlace_40 : decode b_R_isPlace 40 = .ok (.ireturn, 1) := by decide +kernel
theorem d_R_shape_0 : decode b_R_shape 0 = .ok (.aload_n 0, 1) := by decide +kernel
theorem d_R_shape_1 : decode b_R_shape 1 = .ok (.iload_n 1, 1) := by decide +kernel
theorem d_R_shape_2 : decode b_R_shape 2 = .ok (.invokestatic 38, 3) := by decide +kernel
theorem d_R_shape_5 : decode b_R_shape 5 = .ok (.ifCond .eq 25, 3) := by decide +kernel
theorem d_R_shape_8 : decode b_R_shape 8 = .ok (.iload_n 2, 1) := by decide +kernel
theorem d_R_shape_9 : decode b_R_shape 9 = .ok (.iconst 1, 1) := by decide +kernel
theorem d_R_shape_10 : decode b_R_shape 10 = .ok (.if_icmp .lt 20, 3) := by decide +kernel
theorem d_R_shape_13 : decode b_R_shape 13 = .ok (.iload_n 2, 1) := by decide +kernel
theorem d_R_shape_14 : decode b_R_shape 14 = .ok (.bipush 8, 2) := by decide +kernel
theorem d_R_shape_16 : decode b_R_shape 16 = .ok (.if_icmp .gt 14, 3) := by decide +kernel
theorem d_R_shape_19 : decode b_R_shape 19 = .ok (.iload_n 3, 1) := by decide +kernel
theorem d_R_shape_20 : decode b_R_shape 20 = .ok (.iconst 1, 1) := by decide +kernel
theorem d_R_shape_21 : decode b_R_shape 21 = .ok (.if_icmp .lt 9, 3) := by decide +kernel
theorem d_R_shape_24 : decode b_R_shape 24 = .ok (.iload_n 3, 1) := by decide +kernel
theorem d_R_shape_25 : decode b_R_shape 25 = .ok (.bipush 8, 2) := by decide +kernel
theorem d_R_shape_27 : decode b_R_shape 27 = .ok (.if_icmp .le 7, 3) := by decide +kernel
theorem d_R_shape_30 : decode b_R_shape 30 = .ok (.iconst 1, 1) := by decide +kernel
theorem d_R_shape_31 : decode b_R_shape 31 = .ok (.goto 4, 3) := by decide +kernel
theorem d_R_shape_34 : decode b_R_shape 34 = .ok (.iconst 0, 1) := by decide +kernel
theorem d_R_shape_35 : decode b_R_shape 35 = .ok (.putfield 30, 3) := by decide +kernel
theorem d_R_shape_38 : decode b_R_shape 38 = .ok (.aload_n 0, 1) := by decide +kernel
theorem d_R_shape_39 : decode b_R_shape 39 = .ok (.getfield 30, 3) := by decide +kernel
theorem d_R_shape_42 : decode b_R_shape 42 = .ok (.ifCond .le 4, 3) := by decide +kernel
theorem d_R_shape_45 : decode b_R_shape 45 = .ok (.return_, 1) := by decide +kernel
theorem d_R_shape_46 : decode b_R_shape 46 = .ok (.aload_n 0, 1) := by decide +kernel
theorem d_R_shape_47 : decode b_R_shape 47 = .ok (.getfield 7, 3) := by decide +kernel
theorem d_R_shape_50 : decode b_R_shape 50 = .ok (.iload_n 1, 1) := by decide +kernel
theorem d_R_shape_51 : decode b_R_shape 51 = .ok (.iload_n 2, 1) := by decide +kernel
theorem d_R_shape_52 : decode b_R_shape 52 = .ok (.iastore, 1) := by decide +kernel
theorem d_R_shape_53 : decode b_R_shape 53 = .ok (.aload_n 0, 1) := by decide +kernel
theorem d_R_shape_54 : decode b_R_shape 54 = .ok (.getfield 13, 3) := by decide +kernel
theorem d_R_shape_57 : decode b_R_shape 57 = .ok (.iload_n 1, 1) := by decide +kernel
theorem d_R_shape_58 : decode b_R_shape 58 = .ok (.iload_n 3, 1) := by decide +kernel
theorem d_R_shape_59 : decode b_R_shape 59 = .ok (.iastore, 1) := by decide +kernel
theorem d_R_shape_60 : decode b_R_shape 60 = .ok (.bipush 64, 2) := by decide +kernel
theorem d_R_shape_62 : decode b_R_shape 62 = .ok (.iload_n 1, 1) := by decide +kernel
theorem d_R_shape_63 : decode b_R_shape 63 = .ok (.imul, 1) := by decide +kernel
theorem d_R_shape_64 : decode b_R_shape 64 = .ok (.istore 4, 2) := by decide +kernel
theorem d_R_shape_66 : decode b_R_shape 66 = .ok (.iload 4, 2) := by decide +kernel
theorem d_R_shape_68 : decode b_R_shape 68 = .ok (.bipush 64, 2) := by decide +kernel
theorem d_R_shape_70 : decode b_R_shape 70 = .ok (.iload_n 1, 1) := by decide +kernel
theorem d_R_shape_71 : decode b_R_shape 71 = .ok (.imul, 1) := by decide +kernel
theorem d_R_shape_72 : decode b_R_shape 72 = .ok (.bipush 64, 2) := by decide +kernel
theorem d_R_shape_74 : decode b_R_shape 74 = .ok (.iadd, 1) := by decide +kernel
theorem d_R_shape_75 : decode b_R_shape 75 = .ok (.if_icmp .ge 17, 3) := by decide +kernel
theorem d_R_shape_78 : decode b_R_shape 78 = .ok (.aload_n 0, 1) := by decide +kernel
theorem d_R_shape_79 : decode b_R_shape 79 = .ok (.getfield 16, 3) := by decide +kernel
theorem d_R_shape_82 : decode b_R_shape 82 = .ok (.iload 4, 2) := by decide +kernel
theorem d_R_shape_84 : decode b_R_shape 84 = .ok (.iconst 0, 1) := by decide +kernel
theorem d_R_shape_85 : decode b_R_shape 85 = .ok (.bastore, 1) := by decide +kernel
theorem d_R_shape_86 : decode b_R_shape 86 = .ok (.iinc 4 1, 3) := by decide +kernel
theorem d_R_shape_89 : decode b_R_shape 89 = .ok (.goto (-23), 3) := by decide +kernel
theorem d_R_shape_92 : decode b_R_shape 92 = .ok (.return_, 1) := by decide +kernel
theorem d_R_put_0 : decode b_R_put 0 = .ok (.aload_n 0, 1) := by decide +kernel
theorem d_R_put_1 : decode b_R_put 1 = .ok (.aload_n 0, 1) := by decide +kernel
theorem d_R_put_2 : decode b_R_put 2 = .ok (.iload_n 1, 1) := by decide +kernel
theorem d_R_put_3 : decode b_R_put 3 = .ok (.iload_n 2, 1) := by decide +kernel
theorem d_R_put_4 : decode b_R_put 4 = .ok (.iload_n 3, 1) := by decide +kernel
theorem d_R_put_5 : decode b_R_put 5 = .ok (.invokevirtual 42, 3) := by decide +kernel
theorem d_R_put_8 : decode b_R_put 8 = .ok (.ifCond .eq 11, 3) := by decide +kernel
theorem d_R_put_11 : decode b_R_put 11 = .ok (.lload 4, 2) := by decide +kernel
theorem d_R_put_13 : decode b_R_put 13 = .ok (.invokestatic 46, 3) := by decide +kernel
theorem d_R_put_16 : decode b_R_put 16 = .ok (.ifCond .ne 7, 3) := by decide +kernel
theorem d_R_put_19 : decode b_R_put 19 = .ok (.iconst 1, 1) := by decide +kernel
theorem d_R_put_20 : decode b_R_put 20 = .ok (.goto 4, 3) := by decide +kernel
theorem d_R_put_23 : decode b_R_put 23 = .ok (.iconst 0, 1) := by decide +kernel
theorem d_R_put_24 : decode b_R_put 24 = .ok (.putfield 30, 3) := by decide +kernel
theorem d_R_put_27 : decode b_R_put 27 = .ok (.aload_n 0, 1) := by decide +kernel
theorem d_R_put_28 : decode b_R_put 28 = .ok (.getfield 30, 3) := by decide +kernel
theorem d_R_put_31 : decode b_R_put 31 = .ok (.ifCond .le 4, 3) := by decide +kernel
theorem d_R_put_34 : decode b_R_put 34 = .ok (.return_, 1) := by decide +kernel
theorem d_R_put_35 : decode b_R_put 35 = .ok (.aload_n 0, 1) := by decide +kernel
theorem d_R_put_36 : decode b_R_put 36 = .ok (.getfield 16, 3) := by decide +kernel
theorem d_R_put_39 : decode b_R_put 39 = .ok (.bipush 64, 2) := by decide +kernel
theorem d_R_put_41 : decode b_R_put 41 = .ok (.iload_n 1, 1) := by decide +kernel
theorem d_R_put_42 : decode b_R_put 42 = .ok (.imul, 1) := by decide +kernel
theorem d_R_put_43 : decode b_R_put 43 = .ok (.bipush 8, 2) := by decide +kernel
theorem d_R_put_45 : decode b_R_put 45 = .ok (.iload_n 2, 1) := by decide +kernel
theorem d_R_put_46 : decode b_R_put 46 = .ok (.imul, 1) := by decide +kernel
theorem d_R_put_47 : decode b_R_put 47 = .ok (.iadd, 1) := by decide +kernel
theorem d_R_put_48 : decode b_R_put 48 = .ok (.iload_n 3, 1) := by decide +kernel
theorem d_R_put_49 : decode b_R_put 49 = .ok (.iadd, 1) := by decide +kernel
theorem d_R_put_50 : decode b_R_put 50 = .ok (.iconst 1, 1) := by decide +kernel
theorem d_R_put_51 : decode b_R_put 51 = .ok (.bastore, 1) := by decide +kernel
theorem d_R_put_52 : decode b_R_put 52 = .ok (.aload_n 0, 1) := by decide +kernel
theorem d_R_put_53 : decode b_R_put 53 = .ok (.getfield 20, 3) := by decide +kernel
theorem d_R_put_56 : decode b_R_put 56 = .ok (.bipush 64, 2) := by decide +kernel
theorem d_R_put_58 : decode b_R_put 58 = .ok (.iload_n 1, 1) := by decide +kernel
theorem d_R_put_59 : decode b_R_put 59 = .ok (.imul, 1) := by decide +kernel
theorem d_R_put_60 : decode b_R_put 60 = .ok (.bipush 8, 2) := by decide +kernel
theorem d_R_put_62 : decode b_R_put 62 = .ok (.iload_n 2, 1) := by decide +kernel
theorem d_R_put_63 : decode b_R_put 63 = .ok (.imul, 1) := by decide +kernel
theorem d_R_put_64 : decode b_R_put 64 = .ok (.iadd, 1) := by decide +kernel
theorem d_R_put_65 : decode b_R_put 65 = .ok (.iload_n 3, 1) := by decide +kernel
theorem d_R_put_66 : decode b_R_put 66 = .ok (.iadd, 1) := by decide +kernel
theorem d_R_put_67 : decode b_R_put 67 = .ok (.lload 4, 2) := by decide +kernel
theorem d_R_put_69 : decode b_R_put 69 = .ok (.lastore, 1) := by decide +kernel
theorem d_R_put_70 : decode b_R_put 70 = .ok (.return_, 1) := by decide +kernel
theorem d_R_drop_0 : decode b_R_drop 0 = .ok (.aload_n 0, 1) := by decide +kernel
theorem d_R_drop_1 : decode b_R_drop 1 = .ok (.aload_n 0, 1) := by decide +kernel
theorem d_R_drop_2 : decode b_R_drop 2 = .ok (.iload_n 1, 1) := by decide +kernel
theorem d_R_drop_3 : decode b_R_drop 3 = .ok (.iload_n 2, 1) := by decide +kernel
theorem d_R_drop_4 : decode b_R_drop 4 = .ok (.iload_n 3, 1) := by decide +kernel
theorem d_R_drop_5 : decode b_R_drop 5 = .ok (.invokevirtual 42, 3) := by decide +kernel
theorem d_R_drop_8 : decode b_R_drop 8 = .ok (.ifCond .eq 7, 3) := by decide +kernel
theorem d_R_drop_11 : decode b_R_drop 11 = .ok (.iconst 0, 1) := by decide +kernel
theorem d_R_drop_12 : decode b_R_drop 12 = .ok (.goto 4, 3) := by decide +kernel
theorem d_R_drop_15 : decode b_R_drop 15 = .ok (.iconst 1, 1) := by decide +kernel
theorem d_R_drop_16 : decode b_R_drop 16 = .ok (.putfield 30, 3) := by decide +kernel
theorem d_R_drop_19 : decode b_R_drop 19 = .ok (.aload_n 0, 1) := by decide +kernel
theorem d_R_drop_20 : decode b_R_drop 20 = .ok (.getfield 30, 3) := by decide +kernel
theorem d_R_drop_23 : decode b_R_drop 23 = .ok (.ifCond .le 5, 3) := by decide +kernel
theorem d_R_drop_26 : decode b_R_drop 26 = .ok (.iconst 0, 1) := by decide +kernel
theorem d_R_drop_27 : decode b_R_drop 27 = .ok (.ireturn, 1) := by decide +kernel
theorem d_R_drop_28 : decode b_R_drop 28 = .ok (.aload_n 0, 1) := by decide +kernel
theorem d_R_drop_29 : decode b_R_drop 29 = .ok (.getfield 16, 3) := by decide +kernel
theorem d_R_drop_32 : decode b_R_drop 32 = .ok (.bipush 64, 2) := by decide +kernel
theorem d_R_drop_34 : decode b_R_drop 34 = .ok (.iload_n 1, 1) := by decide +kernel
theorem d_R_drop_35 : decode b_R_drop 35 = .ok (.imul, 1) := by decide +kernel
theorem d_R_drop_36 : decode b_R_drop 36 = .ok (.bipush 8, 2) := by decide +kernel
theorem d_R_drop_38 : decode b_R_drop 38 = .ok (.iload_n 2, 1) := by decide +kernel
theorem d_R_drop_39 : decode b_R_drop 39 = .ok (.imul, 1) := by decide +kernel
theorem d_R_drop_40 : decode b_R_drop 40 = .ok (.iadd, 1) := by decide +kernel
theorem d_R_drop_41 : decode b_R_drop 41 = .ok (.iload_n 3, 1) := by decide +kernel
theorem d_R_drop_42 : decode b_R_drop 42 = .ok (.iadd, 1) := by decide +kernel
theorem d_R_drop_43 : decode b_R_drop 43 = .ok (.baload, 1) := by decide +kernel
theorem d_R_drop_44 : decode b_R_drop 44 = .ok (.istore 4, 2) := by decide +kernel
theorem d_R_drop_46 : decode b_R_drop 46 = .ok (.aload_n 0, 1) := by decide +kernel
theorem d_R_drop_47 : decode b_R_drop 47 = .ok (.getfield 16, 3) := by decide +kernel
theorem d_R_drop_50 : decode b_R_drop 50 = .ok (.bipush 64, 2) := by decide +kernel
theorem d_R_drop_52 : decode b_R_drop 52 = .ok (.iload_n 1, 1) := by decide +kernel
theorem d_R_drop_53 : decode b_R_drop 53 = .ok (.imul, 1) := by decide +kernel
theorem d_R_drop_54 : decode b_R_drop 54 = .ok (.bipush 8, 2) := by decide +kernel
theorem d_R_drop_56 : decode b_R_drop 56 = .ok (.iload_n 2, 1) := by decide +kernel
theorem d_R_drop_57 : decode b_R_drop 57 = .ok (.imul, 1) := by decide +kernel
theorem d_R_drop_58 : decode b_R_drop 58 = .ok (.iadd, 1) := by decide +kernel
theorem d_R_drop_59 : decode b_R_drop 59 = .ok (.iload_n 3, 1) := by decide +kernel
theorem d_R_drop_60 : decode b_R_drop 60 = .ok (.iadd, 1) := by decide +kernel
theorem d_R_drop_61 : decode b_R_drop 61 = .ok (.iconst 0, 1) := by decide +kernel
theorem d_R_drop_62 : decode b_R_drop 62 = .ok (.bastore, 1) := by decide +kernel
theorem d_R_drop_63 : decode b_R_drop 63 = .ok (.iload 4, 2) := by decide +kernel
theorem d_R_drop_65 : decode b_R_drop 65 = .ok (.ireturn, 1) := by decide +kernel
theorem d_R_at_0 : decode b_R_at 0 = .ok (.aload_n 0, 1) := by decide +kernel
theorem d_R_at_1 : decode b_R_at 1 = .ok (.aload_n 0, 1) := by decide +kernel
theorem d_R_at_2 : decode b_R_at 2 = .ok (.iload_n 1, 1) := by decide +kernel
theorem d_R_at_3 : decode b_R_at 3 = .ok (.iload_n 2, 1) := by decide +kernel
theorem d_R_at_4 : decode b_R_at 4 = .ok (.iload_n 3, 1) := by decide +kernel
theorem d_R_at_5 : decode b_R_at 5 = .ok (.invokevirtual 42, 3) := by decide +kernel
theorem d_R_at_8 : decode b_R_at 8 = .ok (.ifCond .ne 7, 3) := by decide +kernel
theorem d_R_at_11 : decode b_R_at 11 = .ok (.iconst 1, 1) := by decide +kernel
theorem d_R_at_12 : decode b_R_at 12 = .ok (.goto 27, 3) := by decide +kernel
theorem d_R_at_15 : decode b_R_at 15 = .ok (.aload_n 0, 1) := by decide +kernel
theorem d_R_at_16 : decode b_R_at 16 = .ok (.getfield 16, 3) := by decide +kernel
theorem d_R_at_19 : decode b_R_at 19 = .ok (.bipush 64, 2) := by decide +kernel
theorem d_R_at_21 : decode b_R_at 21 = .ok (.iload_n 1, 1) := by decide +kernel
theorem d_R_at_22 : decode b_R_at 22 = .ok (.imul, 1) := by decide +kernel
theorem d_R_at_23 : decode b_R_at 23 = .ok (.bipush 8, 2) := by decide +kernel
theorem d_R_at_25 : decode b_R_at 25 = .ok (.iload_n 2, 1) := by decide +kernel
theorem d_R_at_26 : decode b_R_at 26 = .ok (.imul, 1) := by decide +kernel
theorem d_R_at_27 : decode b_R_at 27 = .ok (.iadd, 1) := by decide +kernel
theorem d_R_at_28 : decode b_R_at 28 = .ok (.iload_n 3, 1) := by decide +kernel
theorem d_R_at_29 : decode b_R_at 29 = .ok (.iadd, 1) := by decide +kernel
theorem d_R_at_30 : decode b_R_at 30 = .ok (.baload, 1) := by decide +kernel
theorem d_R_at_31 : decode b_R_at 31 = .ok (.ifCond .ne 7, 3) := by decide +kernel
theorem d_R_at_34 : decode b_R_at 34 = .ok (.iconst 2, 1) := by decide +kernel
theorem d_R_at_35 : decode b_R_at 35 = .ok (.goto 4, 3) := by decide +kernel
theorem d_R_at_38 : decode b_R_at 38 = .ok (.iconst 0, 1) := by decide +kernel
theorem d_R_at_39 : decode b_R_at 39 = .ok (.putfield 30, 3) := by decide +kernel
theorem d_R_at_42 : decode b_R_at 42 = .ok (.aload_n 0, 1) := by decide +kernel
theorem d_R_at_43 : decode b_R_at 43 = .ok (.getfield 30, 3) := by decide +kernel
theorem d_R_at_46 : decode b_R_at 46 = .ok (.ifCond .le 7, 3) := by decide +kernel
theorem d_R_at_49 : decode b_R_at 49 = .ok (.lconst 0, 1) := by decide +kernel
theorem d_R_at_50 : decode b_R_at 50 = .ok (.goto 19, 3) := by decide +kernel
theorem d_R_at_53 : decode b_R_at 53 = .ok (.aload_n 0, 1) := by decide +kernel
theorem d_R_at_54 : decode b_R_at 54 = .ok (.getfield 20, 3) := by decide +kernel
theorem d_R_at_57 : decode b_R_at 57 = .ok (.bipush 64, 2) := by decide +kernel
theorem d_R_at_59 : decode b_R_at 59 = .ok (.iload_n 1, 1) := by decide +kernel
theorem d_R_at_60 : decode b_R_at 60 = .ok (.imul, 1) := by decide +kernel
theorem d_R_at_61 : decode b_R_at 61 = .ok (.bipush 8, 2) := by decide +kernel
theorem d_R_at_63 : decode b_R_at 63 = .ok (.iload_n 2, 1) := by decide +kernel
theorem d_R_at_64 : decode b_R_at 64 = .ok (.imul, 1) := by decide +kernel
theorem d_R_at_65 : decode b_R_at 65 = .ok (.iadd, 1) := by decide +kernel
theorem d_R_at_66 : decode b_R_at 66 = .ok (.iload_n 3, 1) := by decide +kernel
theorem d_R_at_67 : decode b_R_at 67 = .ok (.iadd, 1) := by decide +kernel
theorem d_R_at_68 : decode b_R_at 68 = .ok (.laload, 1) := by decide +kernel
theorem d_R_at_69 : decode b_R_at 69 = .ok (.lreturn, 1) := by decide +kernel
theorem d_R_entries_0 : decode b_R_entries 0 = .ok (.iconst 0, 1) := by decide +kernel
theorem d_R_entries_1 : decode b_R_entries 1 = .ok (.istore_n 2, 1) := by decide +kernel
theorem d_R_entries_2 : decode b_R_entries 2 = .ok (.bipush 64, 2) := by decide +kernel
theorem d_R_entries_4 : decode b_R_entries 4 = .ok (.iload_n 1, 1) := by decide +kernel
theorem d_R_entries_5 : decode b_R_entries 5 = .ok (.imul, 1) := by decide +kernel
theorem d_R_entries_6 : decode b_R_entries 6 = .ok (.istore_n 3, 1) := by decide +kernel
theorem d_R_entries_7 : decode b_R_entries 7 = .ok (.iload_n 3, 1) := by decide +kernel
theorem d_R_entries_8 : decode b_R_entries 8 = .ok (.bipush 64, 2) := by decide +kernel
theorem d_R_entries_10 : decode b_R_entries 10 = .ok (.iload_n 1, 1) := by decide +kernel
theorem d_R_entries_11 : decode b_R_entries 11 = .ok (.imul, 1) := by decide +kernel
theorem d_R_entries_12 : decode b_R_entries 12 = .ok (.bipush 64, 2) := by decide +kernel
theorem d_R_entries_14 : decode b_R_entries 14 = .ok (.iadd, 1) := by decide +kernel
theorem d_R_entries_15 : decode b_R_entries 15 = .ok (.if_icmp .ge 26, 3) := by decide +kernel
theorem d_R_entries_18 : decode b_R_entries 18 = .ok (.iload_n 2, 1) := by decide +kernel
theorem d_R_entries_19 : decode b_R_entries 19 = .ok (.aload_n 0, 1) := by decide +kernel
theorem d_R_entries_20 : decode b_R_entries 20 = .ok (.getfield 16, 3) := by decide +kernel
theorem d_R_entries_23 : decode b_R_entries 23 = .ok (.iload_n 3, 1) := by decide +kernel
theorem d_R_entries_24 : decode b_R_entries 24 = .ok (.baload, 1) := by decide +kernel
theorem d_R_entries_25 : decode b_R_entries 25 = .ok (.ifCond .eq 7, 3) := by decide +kernel
theorem d_R_entries_28 : decode b_R_entries 28 = .ok (.iconst 1, 1) := by decide +kernel
theorem d_R_entries_29 : decode b_R_entries 29 = .ok (.goto 4, 3) := by decide +kernel
theorem d_R_entries_32 : decode b_R_entries 32 = .ok (.iconst 0, 1) := by decide +kernel
theorem d_R_entries_33 : decode b_R_entries 33 = .ok (.iadd, 1) := by decide +kernel
theorem d_R_entries_34 : decode b_R_entries 34 = .ok (.istore_n 2, 1) := by decide +kernel
theorem d_R_entries_35 : decode b_R_entries 35 = .ok (.iinc 3 1, 3) := by decide +kernel
theorem d_R_entries_38 : decode b_R_entries 38 = .ok (.goto (-31), 3) := by decide +kernel
theorem d_R_entries_41 : decode b_R_entries 41 = .ok (.iload_n 2, 1) := by decide +kernel
theorem d_R_entries_42 : decode b_R_entries 42 = .ok (.ireturn, 1) := by decide +kernel
theorem d_R_size_0 : decode b_R_size 0 = .ok (.aload_n 0, 1) := by decide +kernel
theorem d_R_size_1 : decode b_R_size 1 = .ok (.iload_n 1, 1) := by decide +kernel
theorem d_R_size_2 : decode b_R_size 2 = .ok (.invokestatic 38, 3) := by decide +kernel
theorem d_R_size_5 : decode b_R_size 5 = .ok (.ifCond .eq 7, 3) := by decide +kernel
theorem d_R_size_8 : decode b_R_size 8 = .ok (.iconst 0, 1) := by decide +kernel
theorem d_R_size_9 : decode b_R_size 9 = .ok (.goto 4, 3) := by decide +kernel
theorem d_R_size_12 : decode b_R_size 12 = .ok (.iconst 1, 1) := by decide +kernel
theorem d_R_size_13 : decode b_R_size 13 = .ok (.putfield 30, 3) := by decide +kernel
theorem d_R_size_16 : decode b_R_size 16 = .ok (.aload_n 0, 1) := by decide +kernel
theorem d_R_size_17 : decode b_R_size 17 = .ok (.getfield 30, 3) := by decide +kernel
theorem d_R_size_20 : decode b_R_size 20 = .ok (.ifCond .le 7, 3) := by decide +kernel
theorem d_R_size_23 : decode b_R_size 23 = .ok (.iconst 0, 1) := by decide +kernel
theorem d_R_size_24 : decode b_R_size 24 = .ok (.goto 29, 3) := by decide +kernel
theorem d_R_size_27 : decode b_R_size 27 = .ok (.aload_n 0, 1) := by decide +kernel
theorem d_R_size_28 : decode b_R_size 28 = .ok (.getfield 7, 3) := by decide +kernel
theorem d_R_size_31 : decode b_R_size 31 = .ok (.iload_n 1, 1) := by decide +kernel
theorem d_R_size_32 : decode b_R_size 32 = .ok (.iaload, 1) := by decide +kernel
theorem d_R_size_33 : decode b_R_size 33 = .ok (.bipush 16, 2) := by decide +kernel
theorem d_R_size_35 : decode b_R_size 35 = .ok (.aload_n 0, 1) := by decide +kernel
theorem d_R_size_36 : decode b_R_size 36 = .ok (.getfield 13, 3) := by decide +kernel
theorem d_R_size_39 : decode b_R_size 39 = .ok (.iload_n 1, 1) := by decide +kernel
theorem d_R_size_40 : decode b_R_size 40 = .ok (.iaload, 1) := by decide +kernel
theorem d_R_size_41 : decode b_R_size 41 = .ok (.imul, 1) := by decide +kernel
theorem d_R_size_42 : decode b_R_size 42 = .ok (.iadd, 1) := by decide +kernel
theorem d_R_size_43 : decode b_R_size 43 = .ok (.sipush 256, 3) := by decide +kernel
theorem d_R_size_46 : decode b_R_size 46 = .ok (.aload_n 0, 1) := by decide +kernel
theorem d_R_size_47 : decode b_R_size 47 = .ok (.iload_n 1, 1) := by decide +kernel
theorem d_R_size_48 : decode b_R_size 48 = .ok (.invokevirtual 50, 3) := by decide +kernel
theorem d_R_size_51 : decode b_R_size 51 = .ok (.imul, 1) := by decide +kernel
theorem d_R_size_52 : decode b_R_size 52 = .ok (.iadd, 1) := by decide +kernel
theorem d_R_size_53 : decode b_R_size 53 = .ok (.ireturn, 1) := by decide +kernel
theorem d_R_sum_0 : decode b_R_sum 0 = .ok (.iload_n 1, 1) := by decide +kernel
theorem d_R_sum_1 : decode b_R_sum 1 = .ok (.tableswitch 77 0 2 #[27, 36, 54], 27) := by decide +kernel
theorem d_R_sum_28 : decode b_R_sum 28 = .ok (.lload_n 2, 1) := by decide +kernel
theorem d_R_sum_29 : decode b_R_sum 29 = .ok (.lload 4, 2) := by decide +kernel
theorem d_R_sum_31 : decode b_R_sum 31 = .ok (.ladd, 1) := by decide +kernel
theorem d_R_sum_32 : decode b_R_sum 32 = .ok (.lstore 6, 2) := by decide +kernel
theorem d_R_sum_34 : decode b_R_sum 34 = .ok (.goto 59, 3) := by decide +kernel
theorem d_R_sum_37 : decode b_R_sum 37 = .ok (.lload_n 2, 1) := by decide +kernel
theorem d_R_sum_38 : decode b_R_sum 38 = .ok (.lload 4, 2) := by decide +kernel
theorem d_R_sum_40 : decode b_R_sum 40 = .ok (.lcmp, 1) := by decide +kernel
theorem d_R_sum_41 : decode b_R_sum 41 = .ok (.ifCond .ge 7, 3) := by decide +kernel
theorem d_R_sum_44 : decode b_R_sum 44 = .ok (.lload_n 2, 1) := by decide +kernel
theorem d_R_sum_45 : decode b_R_sum 45 = .ok (.goto 5, 3) := by decide +kernel
theorem d_R_sum_48 : decode b_R_sum 48 = .ok (.lload 4, 2) := by decide +kernel
theorem d_R_sum_50 : decode b_R_sum 50 = .ok (.lstore 6, 2) := by decide +kernel
theorem d_R_sum_52 : decode b_R_sum 52 = .ok (.goto 41, 3) := by decide +kernel
theorem d_R_sum_55 : decode b_R_sum 55 = .ok (.lload_n 2, 1) := by decide +kernel
theorem d_R_sum_56 : decode b_R_sum 56 = .ok (.lconst 0, 1) := by decide +kernel
theorem d_R_sum_57 : decode b_R_sum 57 = .ok (.lcmp, 1) := by decide +kernel
theorem d_R_sum_58 : decode b_R_sum 58 = .ok (.ifCond .ne 10, 3) := by decide +kernel
theorem d_R_sum_61 : decode b_R_sum 61 = .ok (.lload 4, 2) := by decide +kernel
theorem d_R_sum_63 : decode b_R_sum 63 = .ok (.lconst 0, 1) := by decide +kernel
theorem d_R_sum_64 : decode b_R_sum 64 = .ok (.lcmp, 1) := by decide +kernel
theorem d_R_sum_65 : decode b_R_sum 65 = .ok (.ifCond .eq 7, 3) := by decide +kernel
theorem d_R_sum_68 : decode b_R_sum 68 = .ok (.lconst 1, 1) := by decide +kernel
theorem d_R_sum_69 : decode b_R_sum 69 = .ok (.goto 4, 3) := by decide +kernel
theorem d_R_sum_72 : decode b_R_sum 72 = .ok (.lconst 0, 1) := by decide +kernel
theorem d_R_sum_73 : decode b_R_sum 73 = .ok (.lstore 6, 2) := by decide +kernel
theorem d_R_sum_75 : decode b_R_sum 75 = .ok (.goto 18, 3) := by decide +kernel
theorem d_R_sum_78 : decode b_R_sum 78 = .ok (.lload_n 2, 1) := by decide +kernel
theorem d_R_sum_79 : decode b_R_sum 79 = .ok (.lload 4, 2) := by decide +kernel
theorem d_R_sum_81 : decode b_R_sum 81 = .ok (.lcmp, 1) := by decide +kernel
theorem d_R_sum_82 : decode b_R_sum 82 = .ok (.ifCond .le 7, 3) := by decide +kernel
theorem d_R_sum_85 : decode b_R_sum 85 = .ok (.lload_n 2, 1) := by decide +kernel
theorem d_R_sum_86 : decode b_R_sum 86 = .ok (.goto 5, 3) := by decide +kernel
theorem d_R_sum_89 : decode b_R_sum 89 = .ok (.lload 4, 2) := by decide +kernel
theorem d_R_sum_91 : decode b_R_sum 91 = .ok (.lstore 6, 2) := by decide +kernel
theorem d_R_sum_93 : decode b_R_sum 93 = .ok (.aload_n 0, 1) := by decide +kernel
theorem d_R_sum_94 : decode b_R_sum 94 = .ok (.aload_n 0, 1) := by decide +kernel
theorem d_R_sum_95 : decode b_R_sum 95 = .ok (.getfield 54, 3) := by decide +kernel
theorem d_R_sum_98 : decode b_R_sum 98 = .ok (.ifCond .ne 11, 3) := by decide +kernel
theorem d_R_sum_101 : decode b_R_sum 101 = .ok (.lload 6, 2) := by decide +kernel
theorem d_R_sum_103 : decode b_R_sum 103 = .ok (.invokestatic 46, 3) := by decide +kernel
theorem d_R_sum_106 : decode b_R_sum 106 = .ok (.ifCond .ne 7, 3) := by decide +kernel
theorem d_R_sum_109 : decode b_R_sum 109 = .ok (.iconst 1, 1) := by decide +kernel
theorem d_R_sum_110 : decode b_R_sum 110 = .ok (.goto 4, 3) := by decide +kernel
theorem d_R_sum_113 : decode b_R_sum 113 = .ok (.iconst 0, 1) := by decide +kernel
theorem d_R_sum_114 : decode b_R_sum 114 = .ok (.putfield 54, 3) := by decide +kernel
theorem d_R_sum_117 : decode b_R_sum 117 = .ok (.lload 6, 2) := by decide +kernel
theorem d_R_sum_119 : decode b_R_sum 119 = .ok (.lreturn, 1) := by decide +kernel
theorem d_R_size0_0 : decode b_R_size0 0 = .ok (.lload_n 0, 1) := by decide +kernel
theorem d_R_size0_1 : decode b_R_size0 1 = .ok (.lconst 0, 1) := by decide +kernel
theorem d_R_size0_2 : decode b_R_size0 2 = .ok (.lcmp, 1) := by decide +kernel
theorem d_R_size0_3 : decode b_R_size0 3 = .ok (.ifCond .ge 8, 3) := by decide +kernel
theorem d_R_size0_6 : decode b_R_size0 6 = .ok (.lload_n 0, 1) := by decide +kernel
theorem d_R_size0_7 : decode b_R_size0 7 = .ok (.lneg, 1) := by decide +kernel
theorem d_R_size0_8 : decode b_R_size0 8 = .ok (.goto 4, 3) := by decide +kernel
theorem d_R_size0_11 : decode b_R_size0 11 = .ok (.lload_n 0, 1) := by decide +kernel
theorem d_R_size0_12 : decode b_R_size0 12 = .ok (.lreturn, 1) := by decide +kernel
theorem d_R_product_0 : decode b_R_product 0 = .ok (.iload_n 1, 1) := by decide +kernel
theorem d_R_product_1 : decode b_R_product 1 = .ok (.ifCond .ne 34, 3) := by decide +kernel
theorem d_R_product_4 : decode b_R_product 4 = .ok (.lload 4, 2) := by decide +kernel
theorem d_R_product_6 : decode b_R_product 6 = .ok (.lconst 0, 1) := by decide +kernel
theorem d_R_product_7 : decode b_R_product 7 = .ok (.lcmp, 1) := by decide +kernel
theorem d_R_product_8 : decode b_R_product 8 = .ok (.ifCond .eq 27, 3) := by decide +kernel
theorem d_R_product_11 : decode b_R_product 11 = .ok (.lload_n 2, 1) := by decide +kernel
theorem d_R_product_12 : decode b_R_product 12 = .ok (.invokestatic 58, 3) := by decide +kernel
theorem d_R_product_15 : decode b_R_product 15 = .ok (.ldc2_w 36, 3) := by decide +kernel
theorem d_R_product_18 : decode b_R_product 18 = .ok (.lload 4, 2) := by decide +kernel
theorem d_R_product_20 : decode b_R_product 20 = .ok (.invokestatic 58, 3) := by decide +kernel
theorem d_R_product_23 : decode b_R_product 23 = .ok (.ldiv, 1) := by decide +kernel
theorem d_R_product_24 : decode b_R_product 24 = .ok (.lcmp, 1) := by decide +kernel
theorem d_R_product_25 : decode b_R_product 25 = .ok (.ifCond .le 10, 3) := by decide +kernel
theorem d_R_product_28 : decode b_R_product 28 = .ok (.aload_n 0, 1) := by decide +kernel
theorem d_R_product_29 : decode b_R_product 29 = .ok (.iconst 1, 1) := by decide +kernel
theorem d_R_product_30 : decode b_R_product 30 = .ok (.putfield 54, 3) := by decide +kernel
theorem d_R_product_33 : decode b_R_product 33 = .ok (.lconst 0, 1) := by decide +kernel
theorem d_R_product_34 : decode b_R_product 34 = .ok (.lreturn, 1) := by decide +kernel
theorem d_R_product_35 : decode b_R_product 35 = .ok (.iload_n 1, 1) := by decide +kernel
theorem d_R_product_36 : decode b_R_product 36 = .ok (.tableswitch 69 0 2 #[28, 37, 46], 28) := by decide +kernel
theorem d_R_product_64 : decode b_R_product 64 = .ok (.lload_n 2, 1) := by decide +kernel
theorem d_R_product_65 : decode b_R_product 65 = .ok (.lload 4, 2) := by decide +kernel
theorem d_R_product_67 : decode b_R_product 67 = .ok (.lmul, 1) := by decide +kernel
theorem d_R_product_68 : decode b_R_product 68 = .ok (.lstore 6, 2) := by decide +kernel
theorem d_R_product_70 : decode b_R_product 70 = .ok (.goto 50, 3) := by decide +kernel
theorem d_R_product_73 : decode b_R_product 73 = .ok (.lload_n 2, 1) := by decide +kernel
theorem d_R_product_74 : decode b_R_product 74 = .ok (.lload 4, 2) := by decide +kernel
theorem d_R_product_76 : decode b_R_product 76 = .ok (.ladd, 1) := by decide +kernel
theorem d_R_product_77 : decode b_R_product 77 = .ok (.lstore 6, 2) := by decide +kernel
theorem d_R_product_79 : decode b_R_product 79 = .ok (.goto 41, 3) := by decide +kernel
theorem d_R_product_82 : decode b_R_product 82 = .ok (.lload_n 2, 1) := by decide +kernel
theorem d_R_product_83 : decode b_R_product 83 = .ok (.lconst 0, 1) := by decide +kernel
theorem d_R_product_84 : decode b_R_product 84 = .ok (.lcmp, 1) := by decide +kernel
theorem d_R_product_85 : decode b_R_product 85 = .ok (.ifCond .eq 14, 3) := by decide +kernel
theorem d_R_product_88 : decode b_R_product 88 = .ok (.lload 4, 2) := by decide +kernel
theorem d_R_product_90 : decode b_R_product 90 = .ok (.lconst 0, 1) := by decide +kernel
theorem d_R_product_91 : decode b_R_product 91 = .ok (.lcmp, 1) := by decide +kernel
theorem d_R_product_92 : decode b_R_product 92 = .ok (.ifCond .eq 7, 3) := by decide +kernel
theorem d_R_product_95 : decode b_R_product 95 = .ok (.lconst 1, 1) := by decide +kernel
theorem d_R_product_96 : decode b_R_product 96 = .ok (.goto 4, 3) := by decide +kernel
theorem d_R_product_99 : decode b_R_product 99 = .ok (.lconst 0, 1) := by decide +kernel
theorem d_R_product_100 : decode b_R_product 100 = .ok (.lstore 6, 2) := by decide +kernel
theorem d_R_product_102 : decode b_R_product 102 = .ok (.goto 18, 3) := by decide +kernel
theorem d_R_product_105 : decode b_R_product 105 = .ok (.lload_n 2, 1) := by decide +kernel
theorem d_R_product_106 : decode b_R_product 106 = .ok (.lload 4, 2) := by decide +kernel
theorem d_R_product_108 : decode b_R_product 108 = .ok (.lcmp, 1) := by decide +kernel
theorem d_R_product_109 : decode b_R_product 109 = .ok (.ifCond .ge 7, 3) := by decide +kernel
theorem d_R_product_112 : decode b_R_product 112 = .ok (.lload_n 2, 1) := by decide +kernel
theorem d_R_product_113 : decode b_R_product 113 = .ok (.goto 5, 3) := by decide +kernel
theorem d_R_product_116 : decode b_R_product 116 = .ok (.lload 4, 2) := by decide +kernel
theorem d_R_product_118 : decode b_R_product 118 = .ok (.lstore 6, 2) := by decide +kernel
theorem d_R_product_120 : decode b_R_product 120 = .ok (.aload_n 0, 1) := by decide +kernel
theorem d_R_product_121 : decode b_R_product 121 = .ok (.aload_n 0, 1) := by decide +kernel
theorem d_R_product_122 : decode b_R_product 122 = .ok (.getfield 54, 3) := by decide +kernel
theorem d_R_product_125 : decode b_R_product 125 = .ok (.ifCond .ne 11, 3) := by decide +kernel
theorem d_R_product_128 : decode b_R_product 128 = .ok (.lload 6, 2) := by decide +kernel
theorem d_R_product_130 : decode b_R_product 130 = .ok (.invokestatic 46, 3) := by decide +kernel
theorem d_R_product_133 : decode b_R_product 133 = .ok (.ifCond .ne 7, 3) := by decide +kernel
theorem d_R_product_136 : decode b_R_product 136 = .ok (.iconst 1, 1) := by decide +kernel
theorem d_R_product_137 : decode b_R_product 137 = .ok (.goto 4, 3) := by decide +kernel
theorem d_R_product_140 : decode b_R_product 140 = .ok (.iconst 0, 1) := by decide +kernel
theorem d_R_product_141 : decode b_R_product 141 = .ok (.putfield 54, 3) := by decide +kernel
theorem d_R_product_144 : decode b_R_product 144 = .ok (.lload 6, 2) := by decide +kernel
theorem d_R_product_146 : decode b_R_product 146 = .ok (.lreturn, 1) := by decide +kernel
theorem d_R_begin_0 : decode b_R_begin 0 = .ok (.aload_n 0, 1) := by decide +kernel
theorem d_R_begin_1 : decode b_R_begin 1 = .ok (.iload_n 1, 1) := by decide +kernel
theorem d_R_begin_2 : decode b_R_begin 2 = .ok (.putfield 62, 3) := by decide +kernel
theorem d_R_begin_5 : decode b_R_begin 5 = .ok (.aload_n 0, 1) := by decide +kernel
theorem d_R_begin_6 : decode b_R_begin 6 = .ok (.iload_n 2, 1) := by decide +kernel
theorem d_R_begin_7 : decode b_R_begin 7 = .ok (.putfield 65, 3) := by decide +kernel
theorem d_R_begin_10 : decode b_R_begin 10 = .ok (.aload_n 0, 1) := by decide +kernel
theorem d_R_begin_11 : decode b_R_begin 11 = .ok (.iconst 0, 1) := by decide +kernel
theorem d_R_begin_12 : decode b_R_begin 12 = .ok (.putfield 54, 3) := by decide +kernel
theorem d_R_begin_15 : decode b_R_begin 15 = .ok (.iconst 0, 1) := by decide +kernel
theorem d_R_begin_16 : decode b_R_begin 16 = .ok (.istore_n 3, 1) := by decide +kernel
theorem d_R_begin_17 : decode b_R_begin 17 = .ok (.iload_n 3, 1) := by decide +kernel
theorem d_R_begin_18 : decode b_R_begin 18 = .ok (.bipush 64, 2) := by decide +kernel
theorem d_R_begin_20 : decode b_R_begin 20 = .ok (.if_icmp .ge 16, 3) := by decide +kernel
theorem d_R_begin_23 : decode b_R_begin 23 = .ok (.aload_n 0, 1) := by decide +kernel
theorem d_R_begin_24 : decode b_R_begin 24 = .ok (.getfield 24, 3) := by decide +kernel
theorem d_R_begin_27 : decode b_R_begin 27 = .ok (.iload_n 3, 1) := by decide +kernel
theorem d_R_begin_28 : decode b_R_begin 28 = .ok (.iconst 0, 1) := by decide +kernel
theorem d_R_begin_29 : decode b_R_begin 29 = .ok (.bastore, 1) := by decide +kernel
theorem d_R_begin_30 : decode b_R_begin 30 = .ok (.iinc 3 1, 3) := by decide +kernel
theorem d_R_begin_33 : decode b_R_begin 33 = .ok (.goto (-16), 3) := by decide +kernel
theorem d_R_begin_36 : decode b_R_begin 36 = .ok (.return_, 1) := by decide +kernel
theorem d_R_make_0 : decode b_R_make 0 = .ok (.aload_n 0, 1) := by decide +kernel
theorem d_R_make_1 : decode b_R_make 1 = .ok (.getfield 24, 3) := by decide +kernel
theorem d_R_make_4 : decode b_R_make 4 = .ok (.bipush 8, 2) := by decide +kernel
theorem d_R_make_6 : decode b_R_make 6 = .ok (.iload_n 1, 1) := by decide +kernel
theorem d_R_make_7 : decode b_R_make 7 = .ok (.imul, 1) := by decide +kernel
theorem d_R_make_8 : decode b_R_make 8 = .ok (.iload_n 2, 1) := by decide +kernel
theorem d_R_make_9 : decode b_R_make 9 = .ok (.iadd, 1) := by decide +kernel
theorem d_R_make_10 : decode b_R_make 10 = .ok (.iconst 1, 1) := by decide +kernel
theorem d_R_make_11 : decode b_R_make 11 = .ok (.bastore, 1) := by decide +kernel
theorem d_R_make_12 : decode b_R_make 12 = .ok (.aload_n 0, 1) := by decide +kernel
theorem d_R_make_13 : decode b_R_make 13 = .ok (.getfield 27, 3) := by decide +kernel
theorem d_R_make_16 : decode b_R_make 16 = .ok (.bipush 8, 2) := by decide +kernel
theorem d_R_make_18 : decode b_R_make 18 = .ok (.iload_n 1, 1) := by decide +kernel
theorem d_R_make_19 : decode b_R_make 19 = .ok (.imul, 1) := by decide +kernel
theorem d_R_make_20 : decode b_R_make 20 = .ok (.iload_n 2, 1) := by decide +kernel
theorem d_R_make_21 : decode b_R_make 21 = .ok (.iadd, 1) := by decide +kernel
theorem d_R_make_22 : decode b_R_make 22 = .ok (.lload_n 3, 1) := by decide +kernel
theorem d_R_make_23 : decode b_R_make 23 = .ok (.lastore, 1) := by decide +kernel
theorem d_R_make_24 : decode b_R_make 24 = .ok (.return_, 1) := by decide +kernel
theorem d_R_finish_0 : decode b_R_finish 0 = .ok (.aload_n 0, 1) := by decide +kernel
theorem d_R_finish_1 : decode b_R_finish 1 = .ok (.getfield 7, 3) := by decide +kernel
theorem d_R_finish_4 : decode b_R_finish 4 = .ok (.iload_n 1, 1) := by decide +kernel
theorem d_R_finish_5 : decode b_R_finish 5 = .ok (.aload_n 0, 1) := by decide +kernel
theorem d_R_finish_6 : decode b_R_finish 6 = .ok (.getfield 62, 3) := by decide +kernel
theorem d_R_finish_9 : decode b_R_finish 9 = .ok (.iastore, 1) := by decide +kernel
theorem d_R_finish_10 : decode b_R_finish 10 = .ok (.aload_n 0, 1) := by decide +kernel
theorem d_R_finish_11 : decode b_R_finish 11 = .ok (.getfield 13, 3) := by decide +kernel
theorem d_R_finish_14 : decode b_R_finish 14 = .ok (.iload_n 1, 1) := by decide +kernel
theorem d_R_finish_15 : decode b_R_finish 15 = .ok (.aload_n 0, 1) := by decide +kernel
theorem d_R_finish_16 : decode b_R_finish 16 = .ok (.getfield 65, 3) := by decide +kernel
theorem d_R_finish_19 : decode b_R_finish 19 = .ok (.iastore, 1) := by decide +kernel
theorem d_R_finish_20 : decode b_R_finish 20 = .ok (.iconst 0, 1) := by decide +kernel
theorem d_R_finish_21 : decode b_R_finish 21 = .ok (.istore_n 3, 1) := by decide +kernel
theorem d_R_finish_22 : decode b_R_finish 22 = .ok (.iload_n 3, 1) := by decide +kernel
theorem d_R_finish_23 : decode b_R_finish 23 = .ok (.bipush 64, 2) := by decide +kernel
theorem d_R_finish_25 : decode b_R_finish 25 = .ok (.if_icmp .ge 71, 3) := by decide +kernel
theorem d_R_finish_28 : decode b_R_finish 28 = .ok (.aload_n 0, 1) := by decide +kernel
theorem d_R_finish_29 : decode b_R_finish 29 = .ok (.getfield 16, 3) := by decide +kernel
theorem d_R_finish_32 : decode b_R_finish 32 = .ok (.bipush 64, 2) := by decide +kernel
theorem d_R_finish_34 : decode b_R_finish 34 = .ok (.iload_n 1, 1) := by decide +kernel
theorem d_R_finish_35 : decode b_R_finish 35 = .ok (.imul, 1) := by decide +kernel
theorem d_R_finish_36 : decode b_R_finish 36 = .ok (.iload_n 3, 1) := by decide +kernel
theorem d_R_finish_37 : decode b_R_finish 37 = .ok (.iadd, 1) := by decide +kernel
theorem d_R_finish_38 : decode b_R_finish 38 = .ok (.aload_n 0, 1) := by decide +kernel
theorem d_R_finish_39 : decode b_R_finish 39 = .ok (.getfield 24, 3) := by decide +kernel
theorem d_R_finish_42 : decode b_R_finish 42 = .ok (.iload_n 3, 1) := by decide +kernel
theorem d_R_finish_43 : decode b_R_finish 43 = .ok (.baload, 1) := by decide +kernel
theorem d_R_finish_44 : decode b_R_finish 44 = .ok (.ifCond .eq 27, 3) := by decide +kernel
theorem d_R_finish_47 : decode b_R_finish 47 = .ok (.aload_n 0, 1) := by decide +kernel
theorem d_R_finish_48 : decode b_R_finish 48 = .ok (.getfield 27, 3) := by decide +kernel
theorem d_R_finish_51 : decode b_R_finish 51 = .ok (.iload_n 3, 1) := by decide +kernel
theorem d_R_finish_52 : decode b_R_finish 52 = .ok (.laload, 1) := by decide +kernel
theorem d_R_finish_53 : decode b_R_finish 53 = .ok (.lconst 0, 1) := by decide +kernel
theorem d_R_finish_54 : decode b_R_finish 54 = .ok (.lcmp, 1) := by decide +kernel
theorem d_R_finish_55 : decode b_R_finish 55 = .ok (.ifCond .ne 12, 3) := by decide +kernel
theorem d_R_finish_58 : decode b_R_finish 58 = .ok (.iload_n 2, 1) := by decide +kernel
theorem d_R_finish_59 : decode b_R_finish 59 = .ok (.ifCond .eq 12, 3) := by decide +kernel
theorem d_R_finish_62 : decode b_R_finish 62 = .ok (.iload_n 2, 1) := by decide +kernel
theorem d_R_finish_63 : decode b_R_finish 63 = .ok (.iconst 2, 1) := by decide +kernel
theorem d_R_finish_64 : decode b_R_finish 64 = .ok (.if_icmp .eq 7, 3) := by decide +kernel
theorem d_R_finish_67 : decode b_R_finish 67 = .ok (.iconst 1, 1) := by decide +kernel
theorem d_R_finish_68 : decode b_R_finish 68 = .ok (.goto 4, 3) := by decide +kernel
theorem d_R_finish_71 : decode b_R_finish 71 = .ok (.iconst 0, 1) := by decide +kernel
theorem d_R_finish_72 : decode b_R_finish 72 = .ok (.bastore, 1) := by decide +kernel
theorem d_R_finish_73 : decode b_R_finish 73 = .ok (.aload_n 0, 1) := by decide +kernel
theorem d_R_finish_74 : decode b_R_finish 74 = .ok (.getfield 20, 3) := by decide +kernel
theorem d_R_finish_77 : decode b_R_finish 77 = .ok (.bipush 64, 2) := by decide +kernel
theorem d_R_finish_79 : decode b_R_finish 79 = .ok (.iload_n 1, 1) := by decide +kernel
theorem d_R_finish_80 : decode b_R_finish 80 = .ok (.imul, 1) := by decide +kernel
theorem d_R_finish_81 : decode b_R_finish 81 = .ok (.iload_n 3, 1) := by decide +kernel
theorem d_R_finish_82 : decode b_R_finish 82 = .ok (.iadd, 1) := by decide +kernel
theorem d_R_finish_83 : decode b_R_finish 83 = .ok (.aload_n 0, 1) := by decide +kernel
theorem d_R_finish_84 : decode b_R_finish 84 = .ok (.getfield 27, 3) := by decide +kernel
theorem d_R_finish_87 : decode b_R_finish 87 = .ok (.iload_n 3, 1) := by decide +kernel
theorem d_R_finish_88 : decode b_R_finish 88 = .ok (.laload, 1) := by decide +kernel
theorem d_R_finish_89 : decode b_R_finish 89 = .ok (.lastore, 1) := by decide +kernel
theorem d_R_finish_90 : decode b_R_finish 90 = .ok (.iinc 3 1, 3) := by decide +kernel
theorem d_R_finish_93 : decode b_R_finish 93 = .ok (.goto (-71), 3) := by decide +kernel
theorem d_R_finish_96 : decode b_R_finish 96 = .ok (.aload_n 0, 1) := by decide +kernel
theorem d_R_finish_97 : decode b_R_finish 97 = .ok (.iload_n 1, 1) := by decide +kernel
theorem d_R_finish_98 : decode b_R_finish 98 = .ok (.invokevirtual 50, 3) := by decide +kernel
theorem d_R_finish_101 : decode b_R_finish 101 = .ok (.ireturn, 1) := by decide +kernel
theorem d_R_cross_0 : decode b_R_cross 0 = .ok (.iconst 0, 1) := by decide +kernel
theorem d_R_cross_1 : decode b_R_cross 1 = .ok (.istore 6, 2) := by decide +kernel
theorem d_R_cross_3 : decode b_R_cross 3 = .ok (.lconst 0, 1) := by decide +kernel
theorem d_R_cross_4 : decode b_R_cross 4 = .ok (.lstore 7, 2) := by decide +kernel
theorem d_R_cross_6 : decode b_R_cross 6 = .ok (.iconst 0, 1) := by decide +kernel
theorem d_R_cross_7 : decode b_R_cross 7 = .ok (.istore 9, 2) := by decide +kernel
theorem d_R_cross_9 : decode b_R_cross 9 = .ok (.iload 9, 2) := by decide +kernel
theorem d_R_cross_11 : decode b_R_cross 11 = .ok (.aload_n 0, 1) := by decide +kernel
theorem d_R_cross_12 : decode b_R_cross 12 = .ok (.getfield 13, 3) := by decide +kernel
theorem d_R_cross_15 : decode b_R_cross 15 = .ok (.iload_n 1, 1) := by decide +kernel
theorem d_R_cross_16 : decode b_R_cross 16 = .ok (.iaload, 1) := by decide +kernel
theorem d_R_cross_17 : decode b_R_cross 17 = .ok (.if_icmp .ge 111, 3) := by decide +kernel
theorem d_R_cross_20 : decode b_R_cross 20 = .ok (.aload_n 0, 1) := by decide +kernel
theorem d_R_cross_21 : decode b_R_cross 21 = .ok (.getfield 54, 3) := by decide +kernel
theorem d_R_cross_24 : decode b_R_cross 24 = .ok (.ifCond .ne 104, 3) := by decide +kernel
theorem d_R_cross_27 : decode b_R_cross 27 = .ok (.bipush 64, 2) := by decide +kernel
theorem d_R_cross_29 : decode b_R_cross 29 = .ok (.iload_n 1, 1) := by decide +kernel
theorem d_R_cross_30 : decode b_R_cross 30 = .ok (.imul, 1) := by decide +kernel
theorem d_R_cross_31 : decode b_R_cross 31 = .ok (.bipush 8, 2) := by decide +kernel
theorem d_R_cross_33 : decode b_R_cross 33 = .ok (.iload 4, 2) := by decide +kernel
theorem d_R_cross_35 : decode b_R_cross 35 = .ok (.imul, 1) := by decide +kernel
theorem d_R_cross_36 : decode b_R_cross 36 = .ok (.iadd, 1) := by decide +kernel
theorem d_R_cross_37 : decode b_R_cross 37 = .ok (.iload 9, 2) := by decide +kernel
theorem d_R_cross_39 : decode b_R_cross 39 = .ok (.iadd, 1) := by decide +kernel
theorem d_R_cross_40 : decode b_R_cross 40 = .ok (.istore 10, 2) := by decide +kernel
theorem d_R_cross_42 : decode b_R_cross 42 = .ok (.bipush 64, 2) := by decide +kernel
theorem d_R_cross_44 : decode b_R_cross 44 = .ok (.iload_n 2, 1) := by decide +kernel
theorem d_R_cross_45 : decode b_R_cross 45 = .ok (.imul, 1) := by decide +kernel
theorem d_R_cross_46 : decode b_R_cross 46 = .ok (.bipush 8, 2) := by decide +kernel
theorem d_R_cross_48 : decode b_R_cross 48 = .ok (.iload 9, 2) := by decide +kernel
theorem d_R_cross_50 : decode b_R_cross 50 = .ok (.imul, 1) := by decide +kernel
theorem d_R_cross_51 : decode b_R_cross 51 = .ok (.iadd, 1) := by decide +kernel
theorem d_R_cross_52 : decode b_R_cross 52 = .ok (.iload 5, 2) := by decide +kernel
theorem d_R_cross_54 : decode b_R_cross 54 = .ok (.iadd, 1) := by decide +kernel
theorem d_R_cross_55 : decode b_R_cross 55 = .ok (.istore 11, 2) := by decide +kernel
theorem d_R_cross_57 : decode b_R_cross 57 = .ok (.aload_n 0, 1) := by decide +kernel
theorem d_R_cross_58 : decode b_R_cross 58 = .ok (.getfield 16, 3) := by decide +kernel
theorem d_R_cross_61 : decode b_R_cross 61 = .ok (.iload 10, 2) := by decide +kernel
theorem d_R_cross_63 : decode b_R_cross 63 = .ok (.baload, 1) := by decide +kernel
theorem d_R_cross_64 : decode b_R_cross 64 = .ok (.ifCond .eq 58, 3) := by decide +kernel
theorem d_R_cross_67 : decode b_R_cross 67 = .ok (.aload_n 0, 1) := by decide +kernel
theorem d_R_cross_68 : decode b_R_cross 68 = .ok (.getfield 16, 3) := by decide +kernel
theorem d_R_cross_71 : decode b_R_cross 71 = .ok (.iload 11, 2) := by decide +kernel
theorem d_R_cross_73 : decode b_R_cross 73 = .ok (.baload, 1) := by decide +kernel
theorem d_R_cross_74 : decode b_R_cross 74 = .ok (.ifCond .eq 48, 3) := by decide +kernel
theorem d_R_cross_77 : decode b_R_cross 77 = .ok (.aload_n 0, 1) := by decide +kernel
theorem d_R_cross_78 : decode b_R_cross 78 = .ok (.iload_n 3, 1) := by decide +kernel
theorem d_R_cross_79 : decode b_R_cross 79 = .ok (.aload_n 0, 1) := by decide +kernel
theorem d_R_cross_80 : decode b_R_cross 80 = .ok (.getfield 20, 3) := by decide +kernel
theorem d_R_cross_83 : decode b_R_cross 83 = .ok (.iload 10, 2) := by decide +kernel
theorem d_R_cross_85 : decode b_R_cross 85 = .ok (.laload, 1) := by decide +kernel
theorem d_R_cross_86 : decode b_R_cross 86 = .ok (.aload_n 0, 1) := by decide +kernel
theorem d_R_cross_87 : decode b_R_cross 87 = .ok (.getfield 20, 3) := by decide +kernel
theorem d_R_cross_90 : decode b_R_cross 90 = .ok (.iload 11, 2) := by decide +kernel
theorem d_R_cross_92 : decode b_R_cross 92 = .ok (.laload, 1) := by decide +kernel
theorem d_R_cross_93 : decode b_R_cross 93 = .ok (.invokevirtual 68, 3) := by decide +kernel
theorem d_R_cross_96 : decode b_R_cross 96 = .ok (.lstore 12, 2) := by decide +kernel
theorem d_R_cross_98 : decode b_R_cross 98 = .ok (.iload 6, 2) := by decide +kernel
theorem d_R_cross_100 : decode b_R_cross 100 = .ok (.ifCond .eq 15, 3) := by decide +kernel
theorem d_R_cross_103 : decode b_R_cross 103 = .ok (.aload_n 0, 1) := by decide +kernel
theorem d_R_cross_104 : decode b_R_cross 104 = .ok (.iload_n 3, 1) := by decide +kernel
theorem d_R_cross_105 : decode b_R_cross 105 = .ok (.lload 7, 2) := by decide +kernel
theorem d_R_cross_107 : decode b_R_cross 107 = .ok (.lload 12, 2) := by decide +kernel
theorem d_R_cross_109 : decode b_R_cross 109 = .ok (.invokevirtual 72, 3) := by decide +kernel
theorem d_R_cross_112 : decode b_R_cross 112 = .ok (.goto 5, 3) := by decide +kernel
theorem d_R_cross_115 : decode b_R_cross 115 = .ok (.lload 12, 2) := by decide +kernel
theorem d_R_cross_117 : decode b_R_cross 117 = .ok (.lstore 7, 2) := by decide +kernel
theorem d_R_cross_119 : decode b_R_cross 119 = .ok (.iconst 1, 1) := by decide +kernel
theorem d_R_cross_120 : decode b_R_cross 120 = .ok (.istore 6, 2) := by decide +kernel
theorem d_R_cross_122 : decode b_R_cross 122 = .ok (.iinc 9 1, 3) := by decide +kernel
theorem d_R_cross_125 : decode b_R_cross 125 = .ok (.goto (-116), 3) := by decide +kernel
theorem d_R_cross_128 : decode b_R_cross 128 = .ok (.iload 6, 2) := by decide +kernel
theorem d_R_cross_130 : decode b_R_cross 130 = .ok (.ifCond .eq 13, 3) := by decide +kernel
theorem d_R_cross_133 : decode b_R_cross 133 = .ok (.aload_n 0, 1) := by decide +kernel
theorem d_R_cross_134 : decode b_R_cross 134 = .ok (.iload 4, 2) := by decide +kernel
theorem d_R_cross_136 : decode b_R_cross 136 = .ok (.iload 5, 2) := by decide +kernel
theorem d_R_cross_138 : decode b_R_cross 138 = .ok (.lload 7, 2) := by decide +kernel
theorem d_R_cross_140 : decode b_R_cross 140 = .ok (.invokevirtual 75, 3) := by decide +kernel
theorem d_R_cross_143 : decode b_R_cross 143 = .ok (.return_, 1) := by decide +kernel
theorem d_R_join_0 : decode b_R_join 0 = .ok (.iconst 0, 1) := by decide +kernel
theorem d_R_join_1 : decode b_R_join 1 = .ok (.istore_n 3, 1) := by decide +kernel
theorem d_R_join_2 : decode b_R_join 2 = .ok (.iload_n 3, 1) := by decide +kernel
theorem d_R_join_3 : decode b_R_join 3 = .ok (.bipush 64, 2) := by decide +kernel
theorem d_R_join_5 : decode b_R_join 5 = .ok (.if_icmp .ge 77, 3) := by decide +kernel
theorem d_R_join_8 : decode b_R_join 8 = .ok (.bipush 64, 2) := by decide +kernel
theorem d_R_join_10 : decode b_R_join 10 = .ok (.iload_n 1, 1) := by decide +kernel
theorem d_R_join_11 : decode b_R_join 11 = .ok (.imul, 1) := by decide +kernel
theorem d_R_join_12 : decode b_R_join 12 = .ok (.iload_n 3, 1) := by decide +kernel
theorem d_R_join_13 : decode b_R_join 13 = .ok (.iadd, 1) := by decide +kernel
theorem d_R_join_14 : decode b_R_join 14 = .ok (.istore 4, 2) := by decide +kernel
theorem d_R_join_16 : decode b_R_join 16 = .ok (.aload_n 0, 1) := by decide +kernel
theorem d_R_join_17 : decode b_R_join 17 = .ok (.getfield 16, 3) := by decide +kernel
theorem d_R_join_20 : decode b_R_join 20 = .ok (.iload 4, 2) := by decide +kernel
theorem d_R_join_22 : decode b_R_join 22 = .ok (.baload, 1) := by decide +kernel
theorem d_R_join_23 : decode b_R_join 23 = .ok (.ifCond .eq 53, 3) := by decide +kernel
theorem d_R_join_26 : decode b_R_join 26 = .ok (.aload_n 0, 1) := by decide +kernel
theorem d_R_join_27 : decode b_R_join 27 = .ok (.getfield 27, 3) := by decide +kernel
theorem d_R_join_30 : decode b_R_join 30 = .ok (.iload_n 3, 1) := by decide +kernel
theorem d_R_join_31 : decode b_R_join 31 = .ok (.aload_n 0, 1) := by decide +kernel
theorem d_R_join_32 : decode b_R_join 32 = .ok (.getfield 24, 3) := by decide +kernel
theorem d_R_join_35 : decode b_R_join 35 = .ok (.iload_n 3, 1) := by decide +kernel
theorem d_R_join_36 : decode b_R_join 36 = .ok (.baload, 1) := by decide +kernel
theorem d_R_join_37 : decode b_R_join 37 = .ok (.ifCond .eq 24, 3) := by decide +kernel
theorem d_R_join_40 : decode b_R_join 40 = .ok (.aload_n 0, 1) := by decide +kernel
theorem d_R_join_41 : decode b_R_join 41 = .ok (.iload_n 2, 1) := by decide +kernel
theorem d_R_join_42 : decode b_R_join 42 = .ok (.aload_n 0, 1) := by decide +kernel
theorem d_R_join_43 : decode b_R_join 43 = .ok (.getfield 20, 3) := by decide +kernel
theorem d_R_join_46 : decode b_R_join 46 = .ok (.iload 4, 2) := by decide +kernel
theorem d_R_join_48 : decode b_R_join 48 = .ok (.laload, 1) := by decide +kernel
theorem d_R_join_49 : decode b_R_join 49 = .ok (.aload_n 0, 1) := by decide +kernel
theorem d_R_join_50 : decode b_R_join 50 = .ok (.getfield 27, 3) := by decide +kernel
theorem d_R_join_53 : decode b_R_join 53 = .ok (.iload_n 3, 1) := by decide +kernel
theorem d_R_join_54 : decode b_R_join 54 = .ok (.laload, 1) := by decide +kernel
theorem d_R_join_55 : decode b_R_join 55 = .ok (.invokevirtual 72, 3) := by decide +kernel
theorem d_R_join_58 : decode b_R_join 58 = .ok (.goto 10, 3) := by decide +kernel
theorem d_R_join_61 : decode b_R_join 61 = .ok (.aload_n 0, 1) := by decide +kernel
theorem d_R_join_62 : decode b_R_join 62 = .ok (.getfield 20, 3) := by decide +kernel
theorem d_R_join_65 : decode b_R_join 65 = .ok (.iload 4, 2) := by decide +kernel
theorem d_R_join_67 : decode b_R_join 67 = .ok (.laload, 1) := by decide +kernel
theorem d_R_join_68 : decode b_R_join 68 = .ok (.lastore, 1) := by decide +kernel
theorem d_R_join_69 : decode b_R_join 69 = .ok (.aload_n 0, 1) := by decide +kernel
theorem d_R_join_70 : decode b_R_join 70 = .ok (.getfield 24, 3) := by decide +kernel
theorem d_R_join_73 : decode b_R_join 73 = .ok (.iload_n 3, 1) := by decide +kernel
theorem d_R_join_74 : decode b_R_join 74 = .ok (.iconst 1, 1) := by decide +kernel
theorem d_R_join_75 : decode b_R_join 75 = .ok (.bastore, 1) := by decide +kernel
theorem d_R_join_76 : decode b_R_join 76 = .ok (.iinc 3 1, 3) := by decide +kernel
theorem d_R_join_79 : decode b_R_join 79 = .ok (.goto (-77), 3) := by decide +kernel
theorem d_R_join_82 : decode b_R_join 82 = .ok (.return_, 1) := by decide +kernel
theorem d_R_multiply_0 : decode b_R_multiply 0 = .ok (.iload_n 1, 1) := by decide +kernel
theorem d_R_multiply_1 : decode b_R_multiply 1 = .ok (.invokestatic 38, 3) := by decide +kernel
theorem d_R_multiply_4 : decode b_R_multiply 4 = .ok (.ifCond .eq 54, 3) := by decide +kernel
theorem d_R_multiply_7 : decode b_R_multiply 7 = .ok (.iload_n 2, 1) := by decide +kernel
theorem d_R_multiply_8 : decode b_R_multiply 8 = .ok (.invokestatic 38, 3) := by decide +kernel
theorem d_R_multiply_11 : decode b_R_multiply 11 = .ok (.ifCond .eq 47, 3) := by decide +kernel
theorem d_R_multiply_14 : decode b_R_multiply 14 = .ok (.iload_n 3, 1) := by decide +kernel
theorem d_R_multiply_15 : decode b_R_multiply 15 = .ok (.invokestatic 38, 3) := by decide +kernel
theorem d_R_multiply_18 : decode b_R_multiply 18 = .ok (.ifCond .eq 40, 3) := by decide +kernel
theorem d_R_multiply_21 : decode b_R_multiply 21 = .ok (.iload 4, 2) := by decide +kernel
theorem d_R_multiply_23 : decode b_R_multiply 23 = .ok (.invokestatic 79, 3) := by decide +kernel
theorem d_R_multiply_26 : decode b_R_multiply 26 = .ok (.ifCond .eq 32, 3) := by decide +kernel
theorem d_R_multiply_29 : decode b_R_multiply 29 = .ok (.iload 5, 2) := by decide +kernel
theorem d_R_multiply_31 : decode b_R_multiply 31 = .ok (.iconst (-1), 1) := by decide +kernel
theorem d_R_multiply_32 : decode b_R_multiply 32 = .ok (.if_icmp .eq 11, 3) := by decide +kernel
theorem d_R_multiply_35 : decode b_R_multiply 35 = .ok (.iload 5, 2) := by decide +kernel
theorem d_R_multiply_37 : decode b_R_multiply 37 = .ok (.invokestatic 38, 3) := by decide +kernel
theorem d_R_multiply_40 : decode b_R_multiply 40 = .ok (.ifCond .eq 18, 3) := by decide +kernel
theorem d_R_multiply_43 : decode b_R_multiply 43 = .ok (.iload 6, 2) := by decide +kernel
theorem d_R_multiply_45 : decode b_R_multiply 45 = .ok (.ifCond .lt 13, 3) := by decide +kernel
theorem d_R_multiply_48 : decode b_R_multiply 48 = .ok (.iload 6, 2) := by decide +kernel
theorem d_R_multiply_50 : decode b_R_multiply 50 = .ok (.iconst 3, 1) := by decide +kernel
theorem d_R_multiply_51 : decode b_R_multiply 51 = .ok (.if_icmp .gt 7, 3) := by decide +kernel
theorem d_R_multiply_54 : decode b_R_multiply 54 = .ok (.iconst 1, 1) := by decide +kernel
theorem d_R_multiply_55 : decode b_R_multiply 55 = .ok (.goto 4, 3) := by decide +kernel
theorem d_R_multiply_58 : decode b_R_multiply 58 = .ok (.iconst 0, 1) := by decide +kernel
theorem d_R_multiply_59 : decode b_R_multiply 59 = .ok (.istore 7, 2) := by decide +kernel
theorem d_R_multiply_61 : decode b_R_multiply 61 = .ok (.aload_n 0, 1) := by decide +kernel
theorem d_R_multiply_62 : decode b_R_multiply 62 = .ok (.iload 7, 2) := by decide +kernel
theorem d_R_multiply_64 : decode b_R_multiply 64 = .ok (.ifCond .eq 7, 3) := by decide +kernel
theorem d_R_multiply_67 : decode b_R_multiply 67 = .ok (.iconst 0, 1) := by decide +kernel
theorem d_R_multiply_68 : decode b_R_multiply 68 = .ok (.goto 4, 3) := by decide +kernel
theorem d_R_multiply_71 : decode b_R_multiply 71 = .ok (.iconst 1, 1) := by decide +kernel
theorem d_R_multiply_72 : decode b_R_multiply 72 = .ok (.putfield 30, 3) := by decide +kernel
theorem d_R_multiply_75 : decode b_R_multiply 75 = .ok (.aload_n 0, 1) := by decide +kernel
theorem d_R_multiply_76 : decode b_R_multiply 76 = .ok (.getfield 30, 3) := by decide +kernel
theorem d_R_multiply_79 : decode b_R_multiply 79 = .ok (.ifCond .le 5, 3) := by decide +kernel
theorem d_R_multiply_82 : decode b_R_multiply 82 = .ok (.iconst 0, 1) := by decide +kernel
theorem d_R_multiply_83 : decode b_R_multiply 83 = .ok (.ireturn, 1) := by decide +kernel
theorem d_R_multiply_84 : decode b_R_multiply 84 = .ok (.aload_n 0, 1) := by decide +kernel
theorem d_R_multiply_85 : decode b_R_multiply 85 = .ok (.getfield 13, 3) := by decide +kernel
theorem d_R_multiply_88 : decode b_R_multiply 88 = .ok (.iload_n 2, 1) := by decide +kernel
theorem d_R_multiply_89 : decode b_R_multiply 89 = .ok (.iaload, 1) := by decide +kernel
theorem d_R_multiply_90 : decode b_R_multiply 90 = .ok (.aload_n 0, 1) := by decide +kernel
theorem d_R_multiply_91 : decode b_R_multiply 91 = .ok (.getfield 7, 3) := by decide +kernel
theorem d_R_multiply_94 : decode b_R_multiply 94 = .ok (.iload_n 3, 1) := by decide +kernel
theorem d_R_multiply_95 : decode b_R_multiply 95 = .ok (.iaload, 1) := by decide +kernel
theorem d_R_multiply_96 : decode b_R_multiply 96 = .ok (.if_icmp .ne 81, 3) := by decide +kernel
theorem d_R_multiply_99 : decode b_R_multiply 99 = .ok (.iload 5, 2) := by decide +kernel
theorem d_R_multiply_101 : decode b_R_multiply 101 = .ok (.iconst (-1), 1) := by decide +kernel
theorem d_R_multiply_102 : decode b_R_multiply 102 = .ok (.if_icmp .eq 35, 3) := by decide +kernel
theorem d_R_multiply_105 : decode b_R_multiply 105 = .ok (.aload_n 0, 1) := by decide +kernel
theorem d_R_multiply_106 : decode b_R_multiply 106 = .ok (.getfield 7, 3) := by decide +kernel
theorem d_R_multiply_109 : decode b_R_multiply 109 = .ok (.iload 5, 2) := by decide +kernel
theorem d_R_multiply_111 : decode b_R_multiply 111 = .ok (.iaload, 1) := by decide +kernel
theorem d_R_multiply_112 : decode b_R_multiply 112 = .ok (.aload_n 0, 1) := by decide +kernel
theorem d_R_multiply_113 : decode b_R_multiply 113 = .ok (.getfield 7, 3) := by decide +kernel
theorem d_R_multiply_116 : decode b_R_multiply 116 = .ok (.iload_n 2, 1) := by decide +kernel
theorem d_R_multiply_117 : decode b_R_multiply 117 = .ok (.iaload, 1) := by decide +kernel
theorem d_R_multiply_118 : decode b_R_multiply 118 = .ok (.if_icmp .ne 59, 3) := by decide +kernel
theorem d_R_multiply_121 : decode b_R_multiply 121 = .ok (.aload_n 0, 1) := by decide +kernel
theorem d_R_multiply_122 : decode b_R_multiply 122 = .ok (.getfield 13, 3) := by decide +kernel
theorem d_R_multiply_125 : decode b_R_multiply 125 = .ok (.iload 5, 2) := by decide +kernel
theorem d_R_multiply_127 : decode b_R_multiply 127 = .ok (.iaload, 1) := by decide +kernel
theorem d_R_multiply_128 : decode b_R_multiply 128 = .ok (.aload_n 0, 1) := by decide +kernel
theorem d_R_multiply_129 : decode b_R_multiply 129 = .ok (.getfield 13, 3) := by decide +kernel
theorem d_R_multiply_132 : decode b_R_multiply 132 = .ok (.iload_n 3, 1) := by decide +kernel
theorem d_R_multiply_133 : decode b_R_multiply 133 = .ok (.iaload, 1) := by decide +kernel
theorem d_R_multiply_134 : decode b_R_multiply 134 = .ok (.if_icmp .ne 43, 3) := by decide +kernel
theorem d_R_multiply_137 : decode b_R_multiply 137 = .ok (.iload 6, 2) := by decide +kernel
theorem d_R_multiply_139 : decode b_R_multiply 139 = .ok (.iconst 2, 1) := by decide +kernel
theorem d_R_multiply_140 : decode b_R_multiply 140 = .ok (.if_icmp .lt 33, 3) := by decide +kernel
theorem d_R_multiply_143 : decode b_R_multiply 143 = .ok (.aload_n 0, 1) := by decide +kernel
theorem d_R_multiply_144 : decode b_R_multiply 144 = .ok (.getfield 7, 3) := by decide +kernel
theorem d_R_multiply_147 : decode b_R_multiply 147 = .ok (.iload_n 1, 1) := by decide +kernel
theorem d_R_multiply_148 : decode b_R_multiply 148 = .ok (.iaload, 1) := by decide +kernel
theorem d_R_multiply_149 : decode b_R_multiply 149 = .ok (.aload_n 0, 1) := by decide +kernel
theorem d_R_multiply_150 : decode b_R_multiply 150 = .ok (.getfield 7, 3) := by decide +kernel
theorem d_R_multiply_153 : decode b_R_multiply 153 = .ok (.iload_n 2, 1) := by decide +kernel
theorem d_R_multiply_154 : decode b_R_multiply 154 = .ok (.iaload, 1) := by decide +kernel
theorem d_R_multiply_155 : decode b_R_multiply 155 = .ok (.if_icmp .ne 22, 3) := by decide +kernel
theorem d_R_multiply_158 : decode b_R_multiply 158 = .ok (.aload_n 0, 1) := by decide +kernel
theorem d_R_multiply_159 : decode b_R_multiply 159 = .ok (.getfield 13, 3) := by decide +kernel
theorem d_R_multiply_162 : decode b_R_multiply 162 = .ok (.iload_n 1, 1) := by decide +kernel
theorem d_R_multiply_163 : decode b_R_multiply 163 = .ok (.iaload, 1) := by decide +kernel
theorem d_R_multiply_164 : decode b_R_multiply 164 = .ok (.aload_n 0, 1) := by decide +kernel
theorem d_R_multiply_165 : decode b_R_multiply 165 = .ok (.getfield 13, 3) := by decide +kernel
theorem d_R_multiply_168 : decode b_R_multiply 168 = .ok (.iload_n 3, 1) := by decide +kernel
theorem d_R_multiply_169 : decode b_R_multiply 169 = .ok (.iaload, 1) := by decide +kernel
theorem d_R_multiply_170 : decode b_R_multiply 170 = .ok (.if_icmp .ne 7, 3) := by decide +kernel
theorem d_R_multiply_173 : decode b_R_multiply 173 = .ok (.iconst 1, 1) := by decide +kernel
theorem d_R_multiply_174 : decode b_R_multiply 174 = .ok (.goto 4, 3) := by decide +kernel
theorem d_R_multiply_177 : decode b_R_multiply 177 = .ok (.iconst 0, 1) := by decide +kernel
theorem d_R_multiply_178 : decode b_R_multiply 178 = .ok (.istore 8, 2) := by decide +kernel
theorem d_R_multiply_180 : decode b_R_multiply 180 = .ok (.aload_n 0, 1) := by decide +kernel
theorem d_R_multiply_181 : decode b_R_multiply 181 = .ok (.iload 8, 2) := by decide +kernel
theorem d_R_multiply_183 : decode b_R_multiply 183 = .ok (.ifCond .eq 7, 3) := by decide +kernel
theorem d_R_multiply_186 : decode b_R_multiply 186 = .ok (.iconst 0, 1) := by decide +kernel
theorem d_R_multiply_187 : decode b_R_multiply 187 = .ok (.goto 4, 3) := by decide +kernel
theorem d_R_multiply_190 : decode b_R_multiply 190 = .ok (.iconst 2, 1) := by decide +kernel
theorem d_R_multiply_191 : decode b_R_multiply 191 = .ok (.putfield 30, 3) := by decide +kernel
theorem d_R_multiply_194 : decode b_R_multiply 194 = .ok (.aload_n 0, 1) := by decide +kernel
theorem d_R_multiply_195 : decode b_R_multiply 195 = .ok (.getfield 30, 3) := by decide +kernel
theorem d_R_multiply_198 : decode b_R_multiply 198 = .ok (.ifCond .le 5, 3) := by decide +kernel
theorem d_R_multiply_201 : decode b_R_multiply 201 = .ok (.iconst 0, 1) := by decide +kernel
theorem d_R_multiply_202 : decode b_R_multiply 202 = .ok (.ireturn, 1) := by decide +kernel
theorem d_R_multiply_203 : decode b_R_multiply 203 = .ok (.aload_n 0, 1) := by decide +kernel
theorem d_R_multiply_204 : decode b_R_multiply 204 = .ok (.aload_n 0, 1) := by decide +kernel
theorem d_R_multiply_205 : decode b_R_multiply 205 = .ok (.getfield 7, 3) := by decide +kernel
theorem d_R_multiply_208 : decode b_R_multiply 208 = .ok (.iload_n 2, 1) := by decide +kernel
theorem d_R_multiply_209 : decode b_R_multiply 209 = .ok (.iaload, 1) := by decide +kernel
theorem d_R_multiply_210 : decode b_R_multiply 210 = .ok (.aload_n 0, 1) := by decide +kernel
theorem d_R_multiply_211 : decode b_R_multiply 211 = .ok (.getfield 13, 3) := by decide +kernel
theorem d_R_multiply_214 : decode b_R_multiply 214 = .ok (.iload_n 3, 1) := by decide +kernel
theorem d_R_multiply_215 : decode b_R_multiply 215 = .ok (.iaload, 1) := by decide +kernel
theorem d_R_multiply_216 : decode b_R_multiply 216 = .ok (.invokevirtual 82, 3) := by decide +kernel
theorem d_R_multiply_219 : decode b_R_multiply 219 = .ok (.iconst 0, 1) := by decide +kernel
theorem d_R_multiply_220 : decode b_R_multiply 220 = .ok (.istore 9, 2) := by decide +kernel
theorem d_R_multiply_222 : decode b_R_multiply 222 = .ok (.iload 9, 2) := by decide +kernel
theorem d_R_multiply_224 : decode b_R_multiply 224 = .ok (.aload_n 0, 1) := by decide +kernel
theorem d_R_multiply_225 : decode b_R_multiply 225 = .ok (.getfield 62, 3) := by decide +kernel
theorem d_R_multiply_228 : decode b_R_multiply 228 = .ok (.if_icmp .ge 79, 3) := by decide +kernel
theorem d_R_multiply_231 : decode b_R_multiply 231 = .ok (.iconst 0, 1) := by decide +kernel
theorem d_R_multiply_232 : decode b_R_multiply 232 = .ok (.istore 10, 2) := by decide +kernel
theorem d_R_multiply_234 : decode b_R_multiply 234 = .ok (.iload 10, 2) := by decide +kernel
theorem d_R_multiply_236 : decode b_R_multiply 236 = .ok (.aload_n 0, 1) := by decide +kernel
theorem d_R_multiply_237 : decode b_R_multiply 237 = .ok (.getfield 65, 3) := by decide +kernel
theorem d_R_multiply_240 : decode b_R_multiply 240 = .ok (.if_icmp .ge 61, 3) := by decide +kernel
theorem d_R_multiply_243 : decode b_R_multiply 243 = .ok (.iload 5, 2) := by decide +kernel
theorem d_R_multiply_245 : decode b_R_multiply 245 = .ok (.iconst (-1), 1) := by decide +kernel
theorem d_R_multiply_246 : decode b_R_multiply 246 = .ok (.if_icmp .eq 37, 3) := by decide +kernel
theorem d_R_multiply_249 : decode b_R_multiply 249 = .ok (.aload_n 0, 1) := by decide +kernel
theorem d_R_multiply_250 : decode b_R_multiply 250 = .ok (.getfield 16, 3) := by decide +kernel
theorem d_R_multiply_253 : decode b_R_multiply 253 = .ok (.bipush 64, 2) := by decide +kernel
theorem d_R_multiply_255 : decode b_R_multiply 255 = .ok (.iload 5, 2) := by decide +kernel
theorem d_R_multiply_257 : decode b_R_multiply 257 = .ok (.imul, 1) := by decide +kernel
theorem d_R_multiply_258 : decode b_R_multiply 258 = .ok (.bipush 8, 2) := by decide +kernel
theorem d_R_multiply_260 : decode b_R_multiply 260 = .ok (.iload 9, 2) := by decide +kernel
theorem d_R_multiply_262 : decode b_R_multiply 262 = .ok (.imul, 1) := by decide +kernel
theorem d_R_multiply_263 : decode b_R_multiply 263 = .ok (.iadd, 1) := by decide +kernel
theorem d_R_multiply_264 : decode b_R_multiply 264 = .ok (.iload 10, 2) := by decide +kernel
theorem d_R_multiply_266 : decode b_R_multiply 266 = .ok (.iadd, 1) := by decide +kernel
theorem d_R_multiply_267 : decode b_R_multiply 267 = .ok (.baload, 1) := by decide +kernel
theorem d_R_multiply_268 : decode b_R_multiply 268 = .ok (.iload 6, 2) := by decide +kernel
theorem d_R_multiply_270 : decode b_R_multiply 270 = .ok (.iconst 2, 1) := by decide +kernel
theorem d_R_multiply_271 : decode b_R_multiply 271 = .ok (.irem, 1) := by decide +kernel
theorem d_R_multiply_272 : decode b_R_multiply 272 = .ok (.ifCond .ne 7, 3) := by decide +kernel
theorem d_R_multiply_275 : decode b_R_multiply 275 = .ok (.iconst 1, 1) := by decide +kernel
theorem d_R_multiply_276 : decode b_R_multiply 276 = .ok (.goto 4, 3) := by decide +kernel
theorem d_R_multiply_279 : decode b_R_multiply 279 = .ok (.iconst 0, 1) := by decide +kernel
theorem d_R_multiply_280 : decode b_R_multiply 280 = .ok (.if_icmp .ne 15, 3) := by decide +kernel
theorem d_R_multiply_283 : decode b_R_multiply 283 = .ok (.aload_n 0, 1) := by decide +kernel
theorem d_R_multiply_284 : decode b_R_multiply 284 = .ok (.iload_n 2, 1) := by decide +kernel
theorem d_R_multiply_285 : decode b_R_multiply 285 = .ok (.iload_n 3, 1) := by decide +kernel
theorem d_R_multiply_286 : decode b_R_multiply 286 = .ok (.iload 4, 2) := by decide +kernel
theorem d_R_multiply_288 : decode b_R_multiply 288 = .ok (.iload 9, 2) := by decide +kernel
theorem d_R_multiply_290 : decode b_R_multiply 290 = .ok (.iload 10, 2) := by decide +kernel
theorem d_R_multiply_292 : decode b_R_multiply 292 = .ok (.invokevirtual 86, 3) := by decide +kernel
theorem d_R_multiply_295 : decode b_R_multiply 295 = .ok (.iinc 10 1, 3) := by decide +kernel
theorem d_R_multiply_298 : decode b_R_multiply 298 = .ok (.goto (-64), 3) := by decide +kernel
theorem d_R_multiply_301 : decode b_R_multiply 301 = .ok (.iinc 9 1, 3) := by decide +kernel
theorem d_R_multiply_304 : decode b_R_multiply 304 = .ok (.goto (-82), 3) := by decide +kernel
theorem d_R_multiply_307 : decode b_R_multiply 307 = .ok (.iload 6, 2) := by decide +kernel
theorem d_R_multiply_309 : decode b_R_multiply 309 = .ok (.iconst 1, 1) := by decide +kernel
theorem d_R_multiply_310 : decode b_R_multiply 310 = .ok (.if_icmp .le 10, 3) := by decide +kernel
theorem d_R_multiply_313 : decode b_R_multiply 313 = .ok (.aload_n 0, 1) := by decide +kernel
theorem d_R_multiply_314 : decode b_R_multiply 314 = .ok (.iload_n 1, 1) := by decide +kernel
theorem d_R_multiply_315 : decode b_R_multiply 315 = .ok (.iload 4, 2) := by decide +kernel
theorem d_R_multiply_317 : decode b_R_multiply 317 = .ok (.invokevirtual 90, 3) := by decide +kernel
theorem d_R_multiply_320 : decode b_R_multiply 320 = .ok (.aload_n 0, 1) := by decide +kernel
theorem d_R_multiply_321 : decode b_R_multiply 321 = .ok (.aload_n 0, 1) := by decide +kernel
theorem d_R_multiply_322 : decode b_R_multiply 322 = .ok (.getfield 54, 3) := by decide +kernel
theorem d_R_multiply_325 : decode b_R_multiply 325 = .ok (.ifCond .eq 7, 3) := by decide +kernel
theorem d_R_multiply_328 : decode b_R_multiply 328 = .ok (.iconst 3, 1) := by decide +kernel
theorem d_R_multiply_329 : decode b_R_multiply 329 = .ok (.goto 4, 3) := by decide +kernel
theorem d_R_multiply_332 : decode b_R_multiply 332 = .ok (.iconst 0, 1) := by decide +kernel
theorem d_R_multiply_333 : decode b_R_multiply 333 = .ok (.putfield 30, 3) := by decide +kernel
theorem d_R_multiply_336 : decode b_R_multiply 336 = .ok (.aload_n 0, 1) := by decide +kernel
theorem d_R_multiply_337 : decode b_R_multiply 337 = .ok (.getfield 54, 3) := by decide +kernel
theorem d_R_multiply_340 : decode b_R_multiply 340 = .ok (.ifCond .eq 7, 3) := by decide +kernel
theorem d_R_multiply_343 : decode b_R_multiply 343 = .ok (.iconst 0, 1) := by decide +kernel
theorem d_R_multiply_344 : decode b_R_multiply 344 = .ok (.goto 10, 3) := by decide +kernel
theorem d_R_multiply_347 : decode b_R_multiply 347 = .ok (.aload_n 0, 1) := by decide +kernel
theorem d_R_multiply_348 : decode b_R_multiply 348 = .ok (.iload_n 1, 1) := by decide +kernel
theorem d_R_multiply_349 : decode b_R_multiply 349 = .ok (.iload 4, 2) := by decide +kernel
theorem d_R_multiply_351 : decode b_R_multiply 351 = .ok (.invokevirtual 93, 3) := by decide +kernel
theorem d_R_multiply_354 : decode b_R_multiply 354 = .ok (.ireturn, 1) := by decide +kernel
theorem d_R_pair_0 : decode b_R_pair 0 = .ok (.iload_n 1, 1) := by decide +kernel
theorem d_R_pair_1 : decode b_R_pair 1 = .ok (.invokestatic 38, 3) := by decide +kernel
theorem d_R_pair_4 : decode b_R_pair 4 = .ok (.ifCond .eq 25, 3) := by decide +kernel
theorem d_R_pair_7 : decode b_R_pair 7 = .ok (.iload_n 2, 1) := by decide +kernel
theorem d_R_pair_8 : decode b_R_pair 8 = .ok (.invokestatic 38, 3) := by decide +kernel
theorem d_R_pair_11 : decode b_R_pair 11 = .ok (.ifCond .eq 18, 3) := by decide +kernel
theorem d_R_pair_14 : decode b_R_pair 14 = .ok (.iload_n 3, 1) := by decide +kernel
theorem d_R_pair_15 : decode b_R_pair 15 = .ok (.invokestatic 38, 3) := by decide +kernel
theorem d_R_pair_18 : decode b_R_pair 18 = .ok (.ifCond .eq 11, 3) := by decide +kernel
theorem d_R_pair_21 : decode b_R_pair 21 = .ok (.iload 4, 2) := by decide +kernel
theorem d_R_pair_23 : decode b_R_pair 23 = .ok (.invokestatic 79, 3) := by decide +kernel
theorem d_R_pair_26 : decode b_R_pair 26 = .ok (.ifCond .ne 7, 3) := by decide +kernel
theorem d_R_pair_29 : decode b_R_pair 29 = .ok (.iconst 1, 1) := by decide +kernel
theorem d_R_pair_30 : decode b_R_pair 30 = .ok (.goto 38, 3) := by decide +kernel
theorem d_R_pair_33 : decode b_R_pair 33 = .ok (.aload_n 0, 1) := by decide +kernel
theorem d_R_pair_34 : decode b_R_pair 34 = .ok (.getfield 7, 3) := by decide +kernel
theorem d_R_pair_37 : decode b_R_pair 37 = .ok (.iload_n 2, 1) := by decide +kernel
theorem d_R_pair_38 : decode b_R_pair 38 = .ok (.iaload, 1) := by decide +kernel
theorem d_R_pair_39 : decode b_R_pair 39 = .ok (.aload_n 0, 1) := by decide +kernel
theorem d_R_pair_40 : decode b_R_pair 40 = .ok (.getfield 7, 3) := by decide +kernel
theorem d_R_pair_43 : decode b_R_pair 43 = .ok (.iload_n 3, 1) := by decide +kernel
theorem d_R_pair_44 : decode b_R_pair 44 = .ok (.iaload, 1) := by decide +kernel
theorem d_R_pair_45 : decode b_R_pair 45 = .ok (.if_icmp .ne 18, 3) := by decide +kernel
theorem d_R_pair_48 : decode b_R_pair 48 = .ok (.aload_n 0, 1) := by decide +kernel
theorem d_R_pair_49 : decode b_R_pair 49 = .ok (.getfield 13, 3) := by decide +kernel
theorem d_R_pair_52 : decode b_R_pair 52 = .ok (.iload_n 2, 1) := by decide +kernel
theorem d_R_pair_53 : decode b_R_pair 53 = .ok (.iaload, 1) := by decide +kernel
theorem d_R_pair_54 : decode b_R_pair 54 = .ok (.aload_n 0, 1) := by decide +kernel
theorem d_R_pair_55 : decode b_R_pair 55 = .ok (.getfield 13, 3) := by decide +kernel
theorem d_R_pair_58 : decode b_R_pair 58 = .ok (.iload_n 3, 1) := by decide +kernel
theorem d_R_pair_59 : decode b_R_pair 59 = .ok (.iaload, 1) := by decide +kernel
theorem d_R_pair_60 : decode b_R_pair 60 = .ok (.if_icmp .eq 7, 3) := by decide +kernel
theorem d_R_pair_63 : decode b_R_pair 63 = .ok (.iconst 2, 1) := by decide +kernel
theorem d_R_pair_64 : decode b_R_pair 64 = .ok (.goto 4, 3) := by decide +kernel
theorem d_R_pair_67 : decode b_R_pair 67 = .ok (.iconst 0, 1) := by decide +kernel
theorem d_R_pair_68 : decode b_R_pair 68 = .ok (.ireturn, 1) := by decide +kernel
theorem d_R_add_0 : decode b_R_add 0 = .ok (.aload_n 0, 1) := by decide +kernel
theorem d_R_add_1 : decode b_R_add 1 = .ok (.aload_n 0, 1) := by decide +kernel
theorem d_R_add_2 : decode b_R_add 2 = .ok (.iload_n 1, 1) := by decide +kernel
theorem d_R_add_3 : decode b_R_add 3 = .ok (.iload_n 2, 1) := by decide +kernel
theorem d_R_add_4 : decode b_R_add 4 = .ok (.iload_n 3, 1) := by decide +kernel
theorem d_R_add_5 : decode b_R_add 5 = .ok (.iload 4, 2) := by decide +kernel
theorem d_R_add_7 : decode b_R_add 7 = .ok (.invokevirtual 97, 3) := by decide +kernel
theorem d_R_add_10 : decode b_R_add 10 = .ok (.putfield 30, 3) := by decide +kernel
theorem d_R_add_13 : decode b_R_add 13 = .ok (.aload_n 0, 1) := by decide +kernel
theorem d_R_add_14 : decode b_R_add 14 = .ok (.getfield 30, 3) := by decide +kernel
theorem d_R_add_17 : decode b_R_add 17 = .ok (.ifCond .le 5, 3) := by decide +kernel
theorem d_R_add_20 : decode b_R_add 20 = .ok (.iconst 0, 1) := by decide +kernel
theorem d_R_add_21 : decode b_R_add 21 = .ok (.ireturn, 1) := by decide +kernel
theorem d_R_add_22 : decode b_R_add 22 = .ok (.aload_n 0, 1) := by decide +kernel
theorem d_R_add_23 : decode b_R_add 23 = .ok (.aload_n 0, 1) := by decide +kernel
theorem d_R_add_24 : decode b_R_add 24 = .ok (.getfield 7, 3) := by decide +kernel
theorem d_R_add_27 : decode b_R_add 27 = .ok (.iload_n 2, 1) := by decide +kernel
theorem d_R_add_28 : decode b_R_add 28 = .ok (.iaload, 1) := by decide +kernel
theorem d_R_add_29 : decode b_R_add 29 = .ok (.aload_n 0, 1) := by decide +kernel
theorem d_R_add_30 : decode b_R_add 30 = .ok (.getfield 13, 3) := by decide +kernel
theorem d_R_add_33 : decode b_R_add 33 = .ok (.iload_n 2, 1) := by decide +kernel
theorem d_R_add_34 : decode b_R_add 34 = .ok (.iaload, 1) := by decide +kernel
theorem d_R_add_35 : decode b_R_add 35 = .ok (.invokevirtual 82, 3) := by decide +kernel
theorem d_R_add_38 : decode b_R_add 38 = .ok (.iconst 0, 1) := by decide +kernel
theorem d_R_add_39 : decode b_R_add 39 = .ok (.istore 5, 2) := by decide +kernel
theorem d_R_add_41 : decode b_R_add 41 = .ok (.iload 5, 2) := by decide +kernel
theorem d_R_add_43 : decode b_R_add 43 = .ok (.bipush 64, 2) := by decide +kernel
theorem d_R_add_45 : decode b_R_add 45 = .ok (.if_icmp .ge 136, 3) := by decide +kernel
theorem d_R_add_48 : decode b_R_add 48 = .ok (.aload_n 0, 1) := by decide +kernel
theorem d_R_add_49 : decode b_R_add 49 = .ok (.getfield 16, 3) := by decide +kernel
theorem d_R_add_52 : decode b_R_add 52 = .ok (.bipush 64, 2) := by decide +kernel
theorem d_R_add_54 : decode b_R_add 54 = .ok (.iload_n 2, 1) := by decide +kernel
theorem d_R_add_55 : decode b_R_add 55 = .ok (.imul, 1) := by decide +kernel
theorem d_R_add_56 : decode b_R_add 56 = .ok (.iload 5, 2) := by decide +kernel
theorem d_R_add_58 : decode b_R_add 58 = .ok (.iadd, 1) := by decide +kernel
theorem d_R_add_59 : decode b_R_add 59 = .ok (.baload, 1) := by decide +kernel
theorem d_R_add_60 : decode b_R_add 60 = .ok (.istore 6, 2) := by decide +kernel
theorem d_R_add_62 : decode b_R_add 62 = .ok (.aload_n 0, 1) := by decide +kernel
theorem d_R_add_63 : decode b_R_add 63 = .ok (.getfield 16, 3) := by decide +kernel
theorem d_R_add_66 : decode b_R_add 66 = .ok (.bipush 64, 2) := by decide +kernel
theorem d_R_add_68 : decode b_R_add 68 = .ok (.iload_n 3, 1) := by decide +kernel
theorem d_R_add_69 : decode b_R_add 69 = .ok (.imul, 1) := by decide +kernel
theorem d_R_add_70 : decode b_R_add 70 = .ok (.iload 5, 2) := by decide +kernel
theorem d_R_add_72 : decode b_R_add 72 = .ok (.iadd, 1) := by decide +kernel
theorem d_R_add_73 : decode b_R_add 73 = .ok (.baload, 1) := by decide +kernel
theorem d_R_add_74 : decode b_R_add 74 = .ok (.istore 7, 2) := by decide +kernel
theorem d_R_add_76 : decode b_R_add 76 = .ok (.iload 6, 2) := by decide +kernel
theorem d_R_add_78 : decode b_R_add 78 = .ok (.ifCond .ne 8, 3) := by decide +kernel
theorem d_R_add_81 : decode b_R_add 81 = .ok (.iload 7, 2) := by decide +kernel
theorem d_R_add_83 : decode b_R_add 83 = .ok (.ifCond .eq 92, 3) := by decide +kernel
theorem d_R_add_86 : decode b_R_add 86 = .ok (.aload_n 0, 1) := by decide +kernel
theorem d_R_add_87 : decode b_R_add 87 = .ok (.iload 5, 2) := by decide +kernel
theorem d_R_add_89 : decode b_R_add 89 = .ok (.bipush 8, 2) := by decide +kernel
theorem d_R_add_91 : decode b_R_add 91 = .ok (.idiv, 1) := by decide +kernel
theorem d_R_add_92 : decode b_R_add 92 = .ok (.iload 5, 2) := by decide +kernel
theorem d_R_add_94 : decode b_R_add 94 = .ok (.bipush 8, 2) := by decide +kernel
theorem d_R_add_96 : decode b_R_add 96 = .ok (.irem, 1) := by decide +kernel
theorem d_R_add_97 : decode b_R_add 97 = .ok (.iload 6, 2) := by decide +kernel
theorem d_R_add_99 : decode b_R_add 99 = .ok (.ifCond .eq 41, 3) := by decide +kernel
theorem d_R_add_102 : decode b_R_add 102 = .ok (.iload 7, 2) := by decide +kernel
theorem d_R_add_104 : decode b_R_add 104 = .ok (.ifCond .eq 36, 3) := by decide +kernel
theorem d_R_add_107 : decode b_R_add 107 = .ok (.aload_n 0, 1) := by decide +kernel
theorem d_R_add_108 : decode b_R_add 108 = .ok (.iload 4, 2) := by decide +kernel
theorem d_R_add_110 : decode b_R_add 110 = .ok (.aload_n 0, 1) := by decide +kernel
theorem d_R_add_111 : decode b_R_add 111 = .ok (.getfield 20, 3) := by decide +kernel
theorem d_R_add_114 : decode b_R_add 114 = .ok (.bipush 64, 2) := by decide +kernel
theorem d_R_add_116 : decode b_R_add 116 = .ok (.iload_n 2, 1) := by decide +kernel
theorem d_R_add_117 : decode b_R_add 117 = .ok (.imul, 1) := by decide +kernel
theorem d_R_add_118 : decode b_R_add 118 = .ok (.iload 5, 2) := by decide +kernel
theorem d_R_add_120 : decode b_R_add 120 = .ok (.iadd, 1) := by decide +kernel
theorem d_R_add_121 : decode b_R_add 121 = .ok (.laload, 1) := by decide +kernel
theorem d_R_add_122 : decode b_R_add 122 = .ok (.aload_n 0, 1) := by decide +kernel
theorem d_R_add_123 : decode b_R_add 123 = .ok (.getfield 20, 3) := by decide +kernel
theorem d_R_add_126 : decode b_R_add 126 = .ok (.bipush 64, 2) := by decide +kernel
theorem d_R_add_128 : decode b_R_add 128 = .ok (.iload_n 3, 1) := by decide +kernel
theorem d_R_add_129 : decode b_R_add 129 = .ok (.imul, 1) := by decide +kernel
theorem d_R_add_130 : decode b_R_add 130 = .ok (.iload 5, 2) := by decide +kernel
theorem d_R_add_132 : decode b_R_add 132 = .ok (.iadd, 1) := by decide +kernel
theorem d_R_add_133 : decode b_R_add 133 = .ok (.laload, 1) := by decide +kernel
theorem d_R_add_134 : decode b_R_add 134 = .ok (.invokevirtual 72, 3) := by decide +kernel
theorem d_R_add_137 : decode b_R_add 137 = .ok (.goto 35, 3) := by decide +kernel
theorem d_R_add_140 : decode b_R_add 140 = .ok (.iload 6, 2) := by decide +kernel
theorem d_R_add_142 : decode b_R_add 142 = .ok (.ifCond .eq 18, 3) := by decide +kernel
theorem d_R_add_145 : decode b_R_add 145 = .ok (.aload_n 0, 1) := by decide +kernel
theorem d_R_add_146 : decode b_R_add 146 = .ok (.getfield 20, 3) := by decide +kernel
theorem d_R_add_149 : decode b_R_add 149 = .ok (.bipush 64, 2) := by decide +kernel
theorem d_R_add_151 : decode b_R_add 151 = .ok (.iload_n 2, 1) := by decide +kernel
theorem d_R_add_152 : decode b_R_add 152 = .ok (.imul, 1) := by decide +kernel
theorem d_R_add_153 : decode b_R_add 153 = .ok (.iload 5, 2) := by decide +kernel
theorem d_R_add_155 : decode b_R_add 155 = .ok (.iadd, 1) := by decide +kernel
theorem d_R_add_156 : decode b_R_add 156 = .ok (.laload, 1) := by decide +kernel
theorem d_R_add_157 : decode b_R_add 157 = .ok (.goto 15, 3) := by decide +kernel
theorem d_R_add_160 : decode b_R_add 160 = .ok (.aload_n 0, 1) := by decide +kernel
theorem d_R_add_161 : decode b_R_add 161 = .ok (.getfield 20, 3) := by decide +kernel
theorem d_R_add_164 : decode b_R_add 164 = .ok (.bipush 64, 2) := by decide +kernel
theorem d_R_add_166 : decode b_R_add 166 = .ok (.iload_n 3, 1) := by decide +kernel
theorem d_R_add_167 : decode b_R_add 167 = .ok (.imul, 1) := by decide +kernel
theorem d_R_add_168 : decode b_R_add 168 = .ok (.iload 5, 2) := by decide +kernel
theorem d_R_add_170 : decode b_R_add 170 = .ok (.iadd, 1) := by decide +kernel
theorem d_R_add_171 : decode b_R_add 171 = .ok (.laload, 1) := by decide +kernel
theorem d_R_add_172 : decode b_R_add 172 = .ok (.invokevirtual 75, 3) := by decide +kernel
theorem d_R_add_175 : decode b_R_add 175 = .ok (.iinc 5 1, 3) := by decide +kernel
theorem d_R_add_178 : decode b_R_add 178 = .ok (.goto (-137), 3) := by decide +kernel
theorem d_R_add_181 : decode b_R_add 181 = .ok (.aload_n 0, 1) := by decide +kernel
theorem d_R_add_182 : decode b_R_add 182 = .ok (.aload_n 0, 1) := by decide +kernel
theorem d_R_add_183 : decode b_R_add 183 = .ok (.getfield 54, 3) := by decide +kernel
theorem d_R_add_186 : decode b_R_add 186 = .ok (.ifCond .eq 7, 3) := by decide +kernel
theorem d_R_add_189 : decode b_R_add 189 = .ok (.iconst 3, 1) := by decide +kernel
theorem d_R_add_190 : decode b_R_add 190 = .ok (.goto 4, 3) := by decide +kernel
theorem d_R_add_193 : decode b_R_add 193 = .ok (.iconst 0, 1) := by decide +kernel
theorem d_R_add_194 : decode b_R_add 194 = .ok (.putfield 30, 3) := by decide +kernel
theorem d_R_add_197 : decode b_R_add 197 = .ok (.aload_n 0, 1) := by decide +kernel
theorem d_R_add_198 : decode b_R_add 198 = .ok (.getfield 54, 3) := by decide +kernel
theorem d_R_add_201 : decode b_R_add 201 = .ok (.ifCond .eq 7, 3) := by decide +kernel
theorem d_R_add_204 : decode b_R_add 204 = .ok (.iconst 0, 1) := by decide +kernel
theorem d_R_add_205 : decode b_R_add 205 = .ok (.goto 10, 3) := by decide +kernel
theorem d_R_add_208 : decode b_R_add 208 = .ok (.aload_n 0, 1) := by decide +kernel
theorem d_R_add_209 : decode b_R_add 209 = .ok (.iload_n 1, 1) := by decide +kernel
theorem d_R_add_210 : decode b_R_add 210 = .ok (.iload 4, 2) := by decide +kernel
theorem d_R_add_212 : decode b_R_add 212 = .ok (.invokevirtual 93, 3) := by decide +kernel
theorem d_R_add_215 : decode b_R_add 215 = .ok (.ireturn, 1) := by decide +kernel
theorem d_R_each_0 : decode b_R_each 0 = .ok (.aload_n 0, 1) := by decide +kernel
theorem d_R_each_1 : decode b_R_each 1 = .ok (.aload_n 0, 1) := by decide +kernel
theorem d_R_each_2 : decode b_R_each 2 = .ok (.iload_n 1, 1) := by decide +kernel
theorem d_R_each_3 : decode b_R_each 3 = .ok (.iload_n 2, 1) := by decide +kernel
theorem d_R_each_4 : decode b_R_each 4 = .ok (.iload_n 3, 1) := by decide +kernel
theorem d_R_each_5 : decode b_R_each 5 = .ok (.iload 4, 2) := by decide +kernel
theorem d_R_each_7 : decode b_R_each 7 = .ok (.invokevirtual 97, 3) := by decide +kernel
theorem d_R_each_10 : decode b_R_each 10 = .ok (.putfield 30, 3) := by decide +kernel
theorem d_R_each_13 : decode b_R_each 13 = .ok (.aload_n 0, 1) := by decide +kernel
theorem d_R_each_14 : decode b_R_each 14 = .ok (.getfield 30, 3) := by decide +kernel
theorem d_R_each_17 : decode b_R_each 17 = .ok (.ifCond .le 5, 3) := by decide +kernel
theorem d_R_each_20 : decode b_R_each 20 = .ok (.iconst 0, 1) := by decide +kernel
theorem d_R_each_21 : decode b_R_each 21 = .ok (.ireturn, 1) := by decide +kernel
theorem d_R_each_22 : decode b_R_each 22 = .ok (.aload_n 0, 1) := by decide +kernel
theorem d_R_each_23 : decode b_R_each 23 = .ok (.aload_n 0, 1) := by decide +kernel
theorem d_R_each_24 : decode b_R_each 24 = .ok (.getfield 7, 3) := by decide +kernel
theorem d_R_each_27 : decode b_R_each 27 = .ok (.iload_n 2, 1) := by decide +kernel
theorem d_R_each_28 : decode b_R_each 28 = .ok (.iaload, 1) := by decide +kernel
theorem d_R_each_29 : decode b_R_each 29 = .ok (.aload_n 0, 1) := by decide +kernel
theorem d_R_each_30 : decode b_R_each 30 = .ok (.getfield 13, 3) := by decide +kernel
theorem d_R_each_33 : decode b_R_each 33 = .ok (.iload_n 2, 1) := by decide +kernel
theorem d_R_each_34 : decode b_R_each 34 = .ok (.iaload, 1) := by decide +kernel
theorem d_R_each_35 : decode b_R_each 35 = .ok (.invokevirtual 82, 3) := by decide +kernel
theorem d_R_each_38 : decode b_R_each 38 = .ok (.iconst 0, 1) := by decide +kernel
theorem d_R_each_39 : decode b_R_each 39 = .ok (.istore 5, 2) := by decide +kernel
theorem d_R_each_41 : decode b_R_each 41 = .ok (.iload 5, 2) := by decide +kernel
theorem d_R_each_43 : decode b_R_each 43 = .ok (.bipush 64, 2) := by decide +kernel
theorem d_R_each_45 : decode b_R_each 45 = .ok (.if_icmp .ge 83, 3) := by decide +kernel
theorem d_R_each_48 : decode b_R_each 48 = .ok (.aload_n 0, 1) := by decide +kernel
theorem d_R_each_49 : decode b_R_each 49 = .ok (.getfield 16, 3) := by decide +kernel
theorem d_R_each_52 : decode b_R_each 52 = .ok (.bipush 64, 2) := by decide +kernel
theorem d_R_each_54 : decode b_R_each 54 = .ok (.iload_n 2, 1) := by decide +kernel
theorem d_R_each_55 : decode b_R_each 55 = .ok (.imul, 1) := by decide +kernel
theorem d_R_each_56 : decode b_R_each 56 = .ok (.iload 5, 2) := by decide +kernel
theorem d_R_each_58 : decode b_R_each 58 = .ok (.iadd, 1) := by decide +kernel
theorem d_R_each_59 : decode b_R_each 59 = .ok (.baload, 1) := by decide +kernel
theorem d_R_each_60 : decode b_R_each 60 = .ok (.ifCond .eq 62, 3) := by decide +kernel
theorem d_R_each_63 : decode b_R_each 63 = .ok (.aload_n 0, 1) := by decide +kernel
theorem d_R_each_64 : decode b_R_each 64 = .ok (.getfield 16, 3) := by decide +kernel
theorem d_R_each_67 : decode b_R_each 67 = .ok (.bipush 64, 2) := by decide +kernel
theorem d_R_each_69 : decode b_R_each 69 = .ok (.iload_n 3, 1) := by decide +kernel
theorem d_R_each_70 : decode b_R_each 70 = .ok (.imul, 1) := by decide +kernel
theorem d_R_each_71 : decode b_R_each 71 = .ok (.iload 5, 2) := by decide +kernel
theorem d_R_each_73 : decode b_R_each 73 = .ok (.iadd, 1) := by decide +kernel
theorem d_R_each_74 : decode b_R_each 74 = .ok (.baload, 1) := by decide +kernel
theorem d_R_each_75 : decode b_R_each 75 = .ok (.ifCond .eq 47, 3) := by decide +kernel
theorem d_R_each_78 : decode b_R_each 78 = .ok (.aload_n 0, 1) := by decide +kernel
theorem d_R_each_79 : decode b_R_each 79 = .ok (.iload 5, 2) := by decide +kernel
theorem d_R_each_81 : decode b_R_each 81 = .ok (.bipush 8, 2) := by decide +kernel
theorem d_R_each_83 : decode b_R_each 83 = .ok (.idiv, 1) := by decide +kernel
theorem d_R_each_84 : decode b_R_each 84 = .ok (.iload 5, 2) := by decide +kernel
theorem d_R_each_86 : decode b_R_each 86 = .ok (.bipush 8, 2) := by decide +kernel
theorem d_R_each_88 : decode b_R_each 88 = .ok (.irem, 1) := by decide +kernel
theorem d_R_each_89 : decode b_R_each 89 = .ok (.aload_n 0, 1) := by decide +kernel
theorem d_R_each_90 : decode b_R_each 90 = .ok (.iload 4, 2) := by decide +kernel
theorem d_R_each_92 : decode b_R_each 92 = .ok (.aload_n 0, 1) := by decide +kernel
theorem d_R_each_93 : decode b_R_each 93 = .ok (.getfield 20, 3) := by decide +kernel
theorem d_R_each_96 : decode b_R_each 96 = .ok (.bipush 64, 2) := by decide +kernel
theorem d_R_each_98 : decode b_R_each 98 = .ok (.iload_n 2, 1) := by decide +kernel
theorem d_R_each_99 : decode b_R_each 99 = .ok (.imul, 1) := by decide +kernel
theorem d_R_each_100 : decode b_R_each 100 = .ok (.iload 5, 2) := by decide +kernel
theorem d_R_each_102 : decode b_R_each 102 = .ok (.iadd, 1) := by decide +kernel
theorem d_R_each_103 : decode b_R_each 103 = .ok (.laload, 1) := by decide +kernel
theorem d_R_each_104 : decode b_R_each 104 = .ok (.aload_n 0, 1) := by decide +kernel
theorem d_R_each_105 : decode b_R_each 105 = .ok (.getfield 20, 3) := by decide +kernel
theorem d_R_each_108 : decode b_R_each 108 = .ok (.bipush 64, 2) := by decide +kernel
theorem d_R_each_110 : decode b_R_each 110 = .ok (.iload_n 3, 1) := by decide +kernel
theorem d_R_each_111 : decode b_R_each 111 = .ok (.imul, 1) := by decide +kernel
theorem d_R_each_112 : decode b_R_each 112 = .ok (.iload 5, 2) := by decide +kernel
theorem d_R_each_114 : decode b_R_each 114 = .ok (.iadd, 1) := by decide +kernel
theorem d_R_each_115 : decode b_R_each 115 = .ok (.laload, 1) := by decide +kernel
theorem d_R_each_116 : decode b_R_each 116 = .ok (.invokevirtual 68, 3) := by decide +kernel
theorem d_R_each_119 : decode b_R_each 119 = .ok (.invokevirtual 75, 3) := by decide +kernel
theorem d_R_each_122 : decode b_R_each 122 = .ok (.iinc 5 1, 3) := by decide +kernel
theorem d_R_each_125 : decode b_R_each 125 = .ok (.goto (-84), 3) := by decide +kernel
theorem d_R_each_128 : decode b_R_each 128 = .ok (.aload_n 0, 1) := by decide +kernel
theorem d_R_each_129 : decode b_R_each 129 = .ok (.aload_n 0, 1) := by decide +kernel
theorem d_R_each_130 : decode b_R_each 130 = .ok (.getfield 54, 3) := by decide +kernel
theorem d_R_each_133 : decode b_R_each 133 = .ok (.ifCond .eq 7, 3) := by decide +kernel
theorem d_R_each_136 : decode b_R_each 136 = .ok (.iconst 3, 1) := by decide +kernel
theorem d_R_each_137 : decode b_R_each 137 = .ok (.goto 4, 3) := by decide +kernel
theorem d_R_each_140 : decode b_R_each 140 = .ok (.iconst 0, 1) := by decide +kernel
theorem d_R_each_141 : decode b_R_each 141 = .ok (.putfield 30, 3) := by decide +kernel
theorem d_R_each_144 : decode b_R_each 144 = .ok (.aload_n 0, 1) := by decide +kernel
theorem d_R_each_145 : decode b_R_each 145 = .ok (.getfield 54, 3) := by decide +kernel
theorem d_R_each_148 : decode b_R_each 148 = .ok (.ifCond .eq 7, 3) := by decide +kernel
theorem d_R_each_151 : decode b_R_each 151 = .ok (.iconst 0, 1) := by decide +kernel
theorem d_R_each_152 : decode b_R_each 152 = .ok (.goto 10, 3) := by decide +kernel
theorem d_R_each_155 : decode b_R_each 155 = .ok (.aload_n 0, 1) := by decide +kernel
theorem d_R_each_156 : decode b_R_each 156 = .ok (.iload_n 1, 1) := by decide +kernel
theorem d_R_each_157 : decode b_R_each 157 = .ok (.iload 4, 2) := by decide +kernel
theorem d_R_each_159 : decode b_R_each 159 = .ok (.invokevirtual 93, 3) := by decide +kernel
theorem d_R_each_162 : decode b_R_each 162 = .ok (.ireturn, 1) := by decide +kernel
theorem d_R_transpose_0 : decode b_R_transpose 0 = .ok (.aload_n 0, 1) := by decide +kernel
theorem d_R_transpose_1 : decode b_R_transpose 1 = .ok (.iload_n 1, 1) := by decide +kernel
theorem d_R_transpose_2 : decode b_R_transpose 2 = .ok (.invokestatic 38, 3) := by decide +kernel
theorem d_R_transpose_5 : decode b_R_transpose 5 = .ok (.ifCond .eq 14, 3) := by decide +kernel
theorem d_R_transpose_8 : decode b_R_transpose 8 = .ok (.iload_n 2, 1) := by decide +kernel
theorem d_R_transpose_9 : decode b_R_transpose 9 = .ok (.invokestatic 38, 3) := by decide +kernel
theorem d_R_transpose_12 : decode b_R_transpose 12 = .ok (.ifCond .eq 7, 3) := by decide +kernel
theorem d_R_transpose_15 : decode b_R_transpose 15 = .ok (.iconst 0, 1) := by decide +kernel
theorem d_R_transpose_16 : decode b_R_transpose 16 = .ok (.goto 4, 3) := by decide +kernel
theorem d_R_transpose_19 : decode b_R_transpose 19 = .ok (.iconst 1, 1) := by decide +kernel
theorem d_R_transpose_20 : decode b_R_transpose 20 = .ok (.putfield 30, 3) := by decide +kernel
theorem d_R_transpose_23 : decode b_R_transpose 23 = .ok (.aload_n 0, 1) := by decide +kernel
theorem d_R_transpose_24 : decode b_R_transpose 24 = .ok (.getfield 30, 3) := by decide +kernel
theorem d_R_transpose_27 : decode b_R_transpose 27 = .ok (.ifCond .le 5, 3) := by decide +kernel
theorem d_R_transpose_30 : decode b_R_transpose 30 = .ok (.iconst 0, 1) := by decide +kernel
theorem d_R_transpose_31 : decode b_R_transpose 31 = .ok (.ireturn, 1) := by decide +kernel
theorem d_R_transpose_32 : decode b_R_transpose 32 = .ok (.aload_n 0, 1) := by decide +kernel
theorem d_R_transpose_33 : decode b_R_transpose 33 = .ok (.aload_n 0, 1) := by decide +kernel
theorem d_R_transpose_34 : decode b_R_transpose 34 = .ok (.getfield 13, 3) := by decide +kernel
theorem d_R_transpose_37 : decode b_R_transpose 37 = .ok (.iload_n 2, 1) := by decide +kernel
theorem d_R_transpose_38 : decode b_R_transpose 38 = .ok (.iaload, 1) := by decide +kernel
theorem d_R_transpose_39 : decode b_R_transpose 39 = .ok (.aload_n 0, 1) := by decide +kernel
theorem d_R_transpose_40 : decode b_R_transpose 40 = .ok (.getfield 7, 3) := by decide +kernel
theorem d_R_transpose_43 : decode b_R_transpose 43 = .ok (.iload_n 2, 1) := by decide +kernel
theorem d_R_transpose_44 : decode b_R_transpose 44 = .ok (.iaload, 1) := by decide +kernel
theorem d_R_transpose_45 : decode b_R_transpose 45 = .ok (.invokevirtual 82, 3) := by decide +kernel
theorem d_R_transpose_48 : decode b_R_transpose 48 = .ok (.iconst 0, 1) := by decide +kernel
theorem d_R_transpose_49 : decode b_R_transpose 49 = .ok (.istore_n 3, 1) := by decide +kernel
theorem d_R_transpose_50 : decode b_R_transpose 50 = .ok (.iload_n 3, 1) := by decide +kernel
theorem d_R_transpose_51 : decode b_R_transpose 51 = .ok (.bipush 64, 2) := by decide +kernel
theorem d_R_transpose_53 : decode b_R_transpose 53 = .ok (.if_icmp .ge 46, 3) := by decide +kernel
theorem d_R_transpose_56 : decode b_R_transpose 56 = .ok (.aload_n 0, 1) := by decide +kernel
theorem d_R_transpose_57 : decode b_R_transpose 57 = .ok (.getfield 16, 3) := by decide +kernel
theorem d_R_transpose_60 : decode b_R_transpose 60 = .ok (.bipush 64, 2) := by decide +kernel
theorem d_R_transpose_62 : decode b_R_transpose 62 = .ok (.iload_n 2, 1) := by decide +kernel
theorem d_R_transpose_63 : decode b_R_transpose 63 = .ok (.imul, 1) := by decide +kernel
theorem d_R_transpose_64 : decode b_R_transpose 64 = .ok (.iload_n 3, 1) := by decide +kernel
theorem d_R_transpose_65 : decode b_R_transpose 65 = .ok (.iadd, 1) := by decide +kernel
theorem d_R_transpose_66 : decode b_R_transpose 66 = .ok (.baload, 1) := by decide +kernel
theorem d_R_transpose_67 : decode b_R_transpose 67 = .ok (.ifCond .eq 26, 3) := by decide +kernel
theorem d_R_transpose_70 : decode b_R_transpose 70 = .ok (.aload_n 0, 1) := by decide +kernel
theorem d_R_transpose_71 : decode b_R_transpose 71 = .ok (.iload_n 3, 1) := by decide +kernel
theorem d_R_transpose_72 : decode b_R_transpose 72 = .ok (.bipush 8, 2) := by decide +kernel
theorem d_R_transpose_74 : decode b_R_transpose 74 = .ok (.irem, 1) := by decide +kernel
theorem d_R_transpose_75 : decode b_R_transpose 75 = .ok (.iload_n 3, 1) := by decide +kernel
theorem d_R_transpose_76 : decode b_R_transpose 76 = .ok (.bipush 8, 2) := by decide +kernel
theorem d_R_transpose_78 : decode b_R_transpose 78 = .ok (.idiv, 1) := by decide +kernel
theorem d_R_transpose_79 : decode b_R_transpose 79 = .ok (.aload_n 0, 1) := by decide +kernel
theorem d_R_transpose_80 : decode b_R_transpose 80 = .ok (.getfield 20, 3) := by decide +kernel
theorem d_R_transpose_83 : decode b_R_transpose 83 = .ok (.bipush 64, 2) := by decide +kernel
theorem d_R_transpose_85 : decode b_R_transpose 85 = .ok (.iload_n 2, 1) := by decide +kernel
theorem d_R_transpose_86 : decode b_R_transpose 86 = .ok (.imul, 1) := by decide +kernel
theorem d_R_transpose_87 : decode b_R_transpose 87 = .ok (.iload_n 3, 1) := by decide +kernel
theorem d_R_transpose_88 : decode b_R_transpose 88 = .ok (.iadd, 1) := by decide +kernel
theorem d_R_transpose_89 : decode b_R_transpose 89 = .ok (.laload, 1) := by decide +kernel
theorem d_R_transpose_90 : decode b_R_transpose 90 = .ok (.invokevirtual 75, 3) := by decide +kernel
theorem d_R_transpose_93 : decode b_R_transpose 93 = .ok (.iinc 3 1, 3) := by decide +kernel
theorem d_R_transpose_96 : decode b_R_transpose 96 = .ok (.goto (-46), 3) := by decide +kernel
theorem d_R_transpose_99 : decode b_R_transpose 99 = .ok (.aload_n 0, 1) := by decide +kernel
theorem d_R_transpose_100 : decode b_R_transpose 100 = .ok (.iload_n 1, 1) := by decide +kernel
theorem d_R_transpose_101 : decode b_R_transpose 101 = .ok (.iconst (-1), 1) := by decide +kernel
theorem d_R_transpose_102 : decode b_R_transpose 102 = .ok (.invokevirtual 93, 3) := by decide +kernel
theorem d_R_transpose_105 : decode b_R_transpose 105 = .ok (.ireturn, 1) := by decide +kernel
theorem d_R_chosen_0 : decode b_R_chosen 0 = .ok (.iload_n 0, 1) := by decide +kernel
theorem d_R_chosen_1 : decode b_R_chosen 1 = .ok (.tableswitch 79 0 3 #[31, 44, 57, 68], 31) := by decide +kernel
theorem d_R_chosen_32 : decode b_R_chosen 32 = .ok (.lload_n 3, 1) := by decide +kernel
theorem d_R_chosen_33 : decode b_R_chosen 33 = .ok (.lload 5, 2) := by decide +kernel
theorem d_R_chosen_35 : decode b_R_chosen 35 = .ok (.lcmp, 1) := by decide +kernel
theorem d_R_chosen_36 : decode b_R_chosen 36 = .ok (.ifCond .ge 7, 3) := by decide +kernel
theorem d_R_chosen_39 : decode b_R_chosen 39 = .ok (.iconst 1, 1) := by decide +kernel
theorem d_R_chosen_40 : decode b_R_chosen 40 = .ok (.goto 4, 3) := by decide +kernel
theorem d_R_chosen_43 : decode b_R_chosen 43 = .ok (.iconst 0, 1) := by decide +kernel
theorem d_R_chosen_44 : decode b_R_chosen 44 = .ok (.ireturn, 1) := by decide +kernel
theorem d_R_chosen_45 : decode b_R_chosen 45 = .ok (.lload_n 3, 1) := by decide +kernel
theorem d_R_chosen_46 : decode b_R_chosen 46 = .ok (.lload 5, 2) := by decide +kernel
theorem d_R_chosen_48 : decode b_R_chosen 48 = .ok (.lcmp, 1) := by decide +kernel
theorem d_R_chosen_49 : decode b_R_chosen 49 = .ok (.ifCond .le 7, 3) := by decide +kernel
theorem d_R_chosen_52 : decode b_R_chosen 52 = .ok (.iconst 1, 1) := by decide +kernel
theorem d_R_chosen_53 : decode b_R_chosen 53 = .ok (.goto 4, 3) := by decide +kernel
theorem d_R_chosen_56 : decode b_R_chosen 56 = .ok (.iconst 0, 1) := by decide +kernel
theorem d_R_chosen_57 : decode b_R_chosen 57 = .ok (.ireturn, 1) := by decide +kernel
theorem d_R_chosen_58 : decode b_R_chosen 58 = .ok (.iload_n 1, 1) := by decide +kernel
theorem d_R_chosen_59 : decode b_R_chosen 59 = .ok (.iload_n 2, 1) := by decide +kernel
theorem d_R_chosen_60 : decode b_R_chosen 60 = .ok (.if_icmp .ge 7, 3) := by decide +kernel
theorem d_R_chosen_63 : decode b_R_chosen 63 = .ok (.iconst 1, 1) := by decide +kernel
theorem d_R_chosen_64 : decode b_R_chosen 64 = .ok (.goto 4, 3) := by decide +kernel
theorem d_R_chosen_67 : decode b_R_chosen 67 = .ok (.iconst 0, 1) := by decide +kernel
theorem d_R_chosen_68 : decode b_R_chosen 68 = .ok (.ireturn, 1) := by decide +kernel
theorem d_R_chosen_69 : decode b_R_chosen 69 = .ok (.iload_n 1, 1) := by decide +kernel
theorem d_R_chosen_70 : decode b_R_chosen 70 = .ok (.iload_n 2, 1) := by decide +kernel
theorem d_R_chosen_71 : decode b_R_chosen 71 = .ok (.if_icmp .le 7, 3) := by decide +kernel
theorem d_R_chosen_74 : decode b_R_chosen 74 = .ok (.iconst 1, 1) := by decide +kernel
theorem d_R_chosen_75 : decode b_R_chosen 75 = .ok (.goto 4, 3) := by decide +kernel
theorem d_R_chosen_78 : decode b_R_chosen 78 = .ok (.iconst 0, 1) := by decide +kernel
theorem d_R_chosen_79 : decode b_R_chosen 79 = .ok (.ireturn, 1) := by decide +kernel
theorem d_R_chosen_80 : decode b_R_chosen 80 = .ok (.iload_n 1, 1) := by decide +kernel
theorem d_R_chosen_81 : decode b_R_chosen 81 = .ok (.iload_n 2, 1) := by decide +kernel
theorem d_R_chosen_82 : decode b_R_chosen 82 = .ok (.if_icmp .ne 7, 3) := by decide +kernel
theorem d_R_chosen_85 : decode b_R_chosen 85 = .ok (.iconst 1, 1) := by decide +kernel
theorem d_R_chosen_86 : decode b_R_chosen 86 = .ok (.goto 4, 3) := by decide +kernel
theorem d_R_chosen_89 : decode b_R_chosen 89 = .ok (.iconst 0, 1) := by decide +kernel
theorem d_R_chosen_90 : decode b_R_chosen 90 = .ok (.ireturn, 1) := by decide +kernel
theorem d_R_select_0 : decode b_R_select 0 = .ok (.aload_n 0, 1) := by decide +kernel
theorem d_R_select_1 : decode b_R_select 1 = .ok (.iload_n 1, 1) := by decide +kernel
theorem d_R_select_2 : decode b_R_select 2 = .ok (.invokestatic 38, 3) := by decide +kernel
theorem d_R_select_5 : decode b_R_select 5 = .ok (.ifCond .eq 23, 3) := by decide +kernel
theorem d_R_select_8 : decode b_R_select 8 = .ok (.iload_n 2, 1) := by decide +kernel
theorem d_R_select_9 : decode b_R_select 9 = .ok (.invokestatic 38, 3) := by decide +kernel
theorem d_R_select_12 : decode b_R_select 12 = .ok (.ifCond .eq 16, 3) := by decide +kernel
theorem d_R_select_15 : decode b_R_select 15 = .ok (.iload_n 3, 1) := by decide +kernel
theorem d_R_select_16 : decode b_R_select 16 = .ok (.ifCond .lt 12, 3) := by decide +kernel
theorem d_R_select_19 : decode b_R_select 19 = .ok (.iload_n 3, 1) := by decide +kernel
theorem d_R_select_20 : decode b_R_select 20 = .ok (.iconst 4, 1) := by decide +kernel
theorem d_R_select_21 : decode b_R_select 21 = .ok (.if_icmp .gt 7, 3) := by decide +kernel
theorem d_R_select_24 : decode b_R_select 24 = .ok (.iconst 0, 1) := by decide +kernel
theorem d_R_select_25 : decode b_R_select 25 = .ok (.goto 4, 3) := by decide +kernel
theorem d_R_select_28 : decode b_R_select 28 = .ok (.iconst 1, 1) := by decide +kernel
theorem d_R_select_29 : decode b_R_select 29 = .ok (.putfield 30, 3) := by decide +kernel
theorem d_R_select_32 : decode b_R_select 32 = .ok (.aload_n 0, 1) := by decide +kernel
theorem d_R_select_33 : decode b_R_select 33 = .ok (.getfield 30, 3) := by decide +kernel
theorem d_R_select_36 : decode b_R_select 36 = .ok (.ifCond .le 5, 3) := by decide +kernel
theorem d_R_select_39 : decode b_R_select 39 = .ok (.iconst 0, 1) := by decide +kernel
theorem d_R_select_40 : decode b_R_select 40 = .ok (.ireturn, 1) := by decide +kernel
theorem d_R_select_41 : decode b_R_select 41 = .ok (.aload_n 0, 1) := by decide +kernel
theorem d_R_select_42 : decode b_R_select 42 = .ok (.aload_n 0, 1) := by decide +kernel
theorem d_R_select_43 : decode b_R_select 43 = .ok (.getfield 7, 3) := by decide +kernel
theorem d_R_select_46 : decode b_R_select 46 = .ok (.iload_n 2, 1) := by decide +kernel
theorem d_R_select_47 : decode b_R_select 47 = .ok (.iaload, 1) := by decide +kernel
theorem d_R_select_48 : decode b_R_select 48 = .ok (.aload_n 0, 1) := by decide +kernel
theorem d_R_select_49 : decode b_R_select 49 = .ok (.getfield 13, 3) := by decide +kernel
theorem d_R_select_52 : decode b_R_select 52 = .ok (.iload_n 2, 1) := by decide +kernel
theorem d_R_select_53 : decode b_R_select 53 = .ok (.iaload, 1) := by decide +kernel
theorem d_R_select_54 : decode b_R_select 54 = .ok (.invokevirtual 82, 3) := by decide +kernel
theorem d_R_select_57 : decode b_R_select 57 = .ok (.iconst 0, 1) := by decide +kernel
theorem d_R_select_58 : decode b_R_select 58 = .ok (.istore 6, 2) := by decide +kernel
theorem d_R_select_60 : decode b_R_select 60 = .ok (.iload 6, 2) := by decide +kernel
theorem d_R_select_62 : decode b_R_select 62 = .ok (.bipush 64, 2) := by decide +kernel
theorem d_R_select_64 : decode b_R_select 64 = .ok (.if_icmp .ge 81, 3) := by decide +kernel
theorem d_R_select_67 : decode b_R_select 67 = .ok (.aload_n 0, 1) := by decide +kernel
theorem d_R_select_68 : decode b_R_select 68 = .ok (.getfield 16, 3) := by decide +kernel
theorem d_R_select_71 : decode b_R_select 71 = .ok (.bipush 64, 2) := by decide +kernel
theorem d_R_select_73 : decode b_R_select 73 = .ok (.iload_n 2, 1) := by decide +kernel
theorem d_R_select_74 : decode b_R_select 74 = .ok (.imul, 1) := by decide +kernel
theorem d_R_select_75 : decode b_R_select 75 = .ok (.iload 6, 2) := by decide +kernel
theorem d_R_select_77 : decode b_R_select 77 = .ok (.iadd, 1) := by decide +kernel
theorem d_R_select_78 : decode b_R_select 78 = .ok (.baload, 1) := by decide +kernel
theorem d_R_select_79 : decode b_R_select 79 = .ok (.ifCond .eq 60, 3) := by decide +kernel
theorem d_R_select_82 : decode b_R_select 82 = .ok (.iload_n 3, 1) := by decide +kernel
theorem d_R_select_83 : decode b_R_select 83 = .ok (.iload 6, 2) := by decide +kernel
theorem d_R_select_85 : decode b_R_select 85 = .ok (.bipush 8, 2) := by decide +kernel
theorem d_R_select_87 : decode b_R_select 87 = .ok (.idiv, 1) := by decide +kernel
theorem d_R_select_88 : decode b_R_select 88 = .ok (.iload 6, 2) := by decide +kernel
theorem d_R_select_90 : decode b_R_select 90 = .ok (.bipush 8, 2) := by decide +kernel
theorem d_R_select_92 : decode b_R_select 92 = .ok (.irem, 1) := by decide +kernel
theorem d_R_select_93 : decode b_R_select 93 = .ok (.aload_n 0, 1) := by decide +kernel
theorem d_R_select_94 : decode b_R_select 94 = .ok (.getfield 20, 3) := by decide +kernel
theorem d_R_select_97 : decode b_R_select 97 = .ok (.bipush 64, 2) := by decide +kernel
theorem d_R_select_99 : decode b_R_select 99 = .ok (.iload_n 2, 1) := by decide +kernel
theorem d_R_select_100 : decode b_R_select 100 = .ok (.imul, 1) := by decide +kernel
theorem d_R_select_101 : decode b_R_select 101 = .ok (.iload 6, 2) := by decide +kernel
theorem d_R_select_103 : decode b_R_select 103 = .ok (.iadd, 1) := by decide +kernel
theorem d_R_select_104 : decode b_R_select 104 = .ok (.laload, 1) := by decide +kernel
theorem d_R_select_105 : decode b_R_select 105 = .ok (.lload 4, 2) := by decide +kernel
theorem d_R_select_107 : decode b_R_select 107 = .ok (.invokestatic 101, 3) := by decide +kernel
theorem d_R_select_110 : decode b_R_select 110 = .ok (.ifCond .eq 29, 3) := by decide +kernel
theorem d_R_select_113 : decode b_R_select 113 = .ok (.aload_n 0, 1) := by decide +kernel
theorem d_R_select_114 : decode b_R_select 114 = .ok (.iload 6, 2) := by decide +kernel
theorem d_R_select_116 : decode b_R_select 116 = .ok (.bipush 8, 2) := by decide +kernel
theorem d_R_select_118 : decode b_R_select 118 = .ok (.idiv, 1) := by decide +kernel
theorem d_R_select_119 : decode b_R_select 119 = .ok (.iload 6, 2) := by decide +kernel
theorem d_R_select_121 : decode b_R_select 121 = .ok (.bipush 8, 2) := by decide +kernel
theorem d_R_select_123 : decode b_R_select 123 = .ok (.irem, 1) := by decide +kernel
theorem d_R_select_124 : decode b_R_select 124 = .ok (.aload_n 0, 1) := by decide +kernel
theorem d_R_select_125 : decode b_R_select 125 = .ok (.getfield 20, 3) := by decide +kernel
theorem d_R_select_128 : decode b_R_select 128 = .ok (.bipush 64, 2) := by decide +kernel
theorem d_R_select_130 : decode b_R_select 130 = .ok (.iload_n 2, 1) := by decide +kernel
theorem d_R_select_131 : decode b_R_select 131 = .ok (.imul, 1) := by decide +kernel
theorem d_R_select_132 : decode b_R_select 132 = .ok (.iload 6, 2) := by decide +kernel
theorem d_R_select_134 : decode b_R_select 134 = .ok (.iadd, 1) := by decide +kernel
theorem d_R_select_135 : decode b_R_select 135 = .ok (.laload, 1) := by decide +kernel
theorem d_R_select_136 : decode b_R_select 136 = .ok (.invokevirtual 75, 3) := by decide +kernel
theorem d_R_select_139 : decode b_R_select 139 = .ok (.iinc 6 1, 3) := by decide +kernel
theorem d_R_select_142 : decode b_R_select 142 = .ok (.goto (-82), 3) := by decide +kernel
theorem d_R_select_145 : decode b_R_select 145 = .ok (.aload_n 0, 1) := by decide +kernel
theorem d_R_select_146 : decode b_R_select 146 = .ok (.iload_n 1, 1) := by decide +kernel
theorem d_R_select_147 : decode b_R_select 147 = .ok (.iconst (-1), 1) := by decide +kernel
theorem d_R_select_148 : decode b_R_select 148 = .ok (.invokevirtual 93, 3) := by decide +kernel
theorem d_R_select_151 : decode b_R_select 151 = .ok (.ireturn, 1) := by decide +kernel
theorem d_R_reduce_0 : decode b_R_reduce 0 = .ok (.aload_n 0, 1) := by decide +kernel
theorem d_R_reduce_1 : decode b_R_reduce 1 = .ok (.iload_n 1, 1) := by decide +kernel
theorem d_R_reduce_2 : decode b_R_reduce 2 = .ok (.invokestatic 38, 3) := by decide +kernel
theorem d_R_reduce_5 : decode b_R_reduce 5 = .ok (.ifCond .eq 10, 3) := by decide +kernel
theorem d_R_reduce_8 : decode b_R_reduce 8 = .ok (.iload_n 2, 1) := by decide +kernel
theorem d_R_reduce_9 : decode b_R_reduce 9 = .ok (.invokestatic 79, 3) := by decide +kernel
theorem d_R_reduce_12 : decode b_R_reduce 12 = .ok (.ifCond .ne 7, 3) := by decide +kernel
theorem d_R_reduce_15 : decode b_R_reduce 15 = .ok (.iconst 1, 1) := by decide +kernel
theorem d_R_reduce_16 : decode b_R_reduce 16 = .ok (.goto 16, 3) := by decide +kernel
theorem d_R_reduce_19 : decode b_R_reduce 19 = .ok (.aload_n 0, 1) := by decide +kernel
theorem d_R_reduce_20 : decode b_R_reduce 20 = .ok (.iload_n 1, 1) := by decide +kernel
theorem d_R_reduce_21 : decode b_R_reduce 21 = .ok (.invokevirtual 50, 3) := by decide +kernel
theorem d_R_reduce_24 : decode b_R_reduce 24 = .ok (.ifCond .ne 7, 3) := by decide +kernel
theorem d_R_reduce_27 : decode b_R_reduce 27 = .ok (.iconst 2, 1) := by decide +kernel
theorem d_R_reduce_28 : decode b_R_reduce 28 = .ok (.goto 4, 3) := by decide +kernel
theorem d_R_reduce_31 : decode b_R_reduce 31 = .ok (.iconst 0, 1) := by decide +kernel
theorem d_R_reduce_32 : decode b_R_reduce 32 = .ok (.putfield 30, 3) := by decide +kernel
theorem d_R_reduce_35 : decode b_R_reduce 35 = .ok (.aload_n 0, 1) := by decide +kernel
theorem d_R_reduce_36 : decode b_R_reduce 36 = .ok (.getfield 30, 3) := by decide +kernel
theorem d_R_reduce_39 : decode b_R_reduce 39 = .ok (.ifCond .le 5, 3) := by decide +kernel
theorem d_R_reduce_42 : decode b_R_reduce 42 = .ok (.lconst 0, 1) := by decide +kernel
theorem d_R_reduce_43 : decode b_R_reduce 43 = .ok (.lreturn, 1) := by decide +kernel
theorem d_R_reduce_44 : decode b_R_reduce 44 = .ok (.aload_n 0, 1) := by decide +kernel
theorem d_R_reduce_45 : decode b_R_reduce 45 = .ok (.iconst 0, 1) := by decide +kernel
theorem d_R_reduce_46 : decode b_R_reduce 46 = .ok (.putfield 54, 3) := by decide +kernel
theorem d_R_reduce_49 : decode b_R_reduce 49 = .ok (.iconst 0, 1) := by decide +kernel
theorem d_R_reduce_50 : decode b_R_reduce 50 = .ok (.istore_n 3, 1) := by decide +kernel
theorem d_R_reduce_51 : decode b_R_reduce 51 = .ok (.lconst 0, 1) := by decide +kernel
theorem d_R_reduce_52 : decode b_R_reduce 52 = .ok (.lstore 4, 2) := by decide +kernel
theorem d_R_reduce_54 : decode b_R_reduce 54 = .ok (.bipush 64, 2) := by decide +kernel
theorem d_R_reduce_56 : decode b_R_reduce 56 = .ok (.iload_n 1, 1) := by decide +kernel
theorem d_R_reduce_57 : decode b_R_reduce 57 = .ok (.imul, 1) := by decide +kernel
theorem d_R_reduce_58 : decode b_R_reduce 58 = .ok (.istore 6, 2) := by decide +kernel
theorem d_R_reduce_60 : decode b_R_reduce 60 = .ok (.iload 6, 2) := by decide +kernel
theorem d_R_reduce_62 : decode b_R_reduce 62 = .ok (.bipush 64, 2) := by decide +kernel
theorem d_R_reduce_64 : decode b_R_reduce 64 = .ok (.iload_n 1, 1) := by decide +kernel
theorem d_R_reduce_65 : decode b_R_reduce 65 = .ok (.imul, 1) := by decide +kernel
theorem d_R_reduce_66 : decode b_R_reduce 66 = .ok (.bipush 64, 2) := by decide +kernel
theorem d_R_reduce_68 : decode b_R_reduce 68 = .ok (.iadd, 1) := by decide +kernel
theorem d_R_reduce_69 : decode b_R_reduce 69 = .ok (.if_icmp .ge 58, 3) := by decide +kernel
theorem d_R_reduce_72 : decode b_R_reduce 72 = .ok (.aload_n 0, 1) := by decide +kernel
theorem d_R_reduce_73 : decode b_R_reduce 73 = .ok (.getfield 54, 3) := by decide +kernel
theorem d_R_reduce_76 : decode b_R_reduce 76 = .ok (.ifCond .ne 51, 3) := by decide +kernel
theorem d_R_reduce_79 : decode b_R_reduce 79 = .ok (.aload_n 0, 1) := by decide +kernel
theorem d_R_reduce_80 : decode b_R_reduce 80 = .ok (.getfield 16, 3) := by decide +kernel
theorem d_R_reduce_83 : decode b_R_reduce 83 = .ok (.iload 6, 2) := by decide +kernel
theorem d_R_reduce_85 : decode b_R_reduce 85 = .ok (.baload, 1) := by decide +kernel
theorem d_R_reduce_86 : decode b_R_reduce 86 = .ok (.ifCond .eq 35, 3) := by decide +kernel
theorem d_R_reduce_89 : decode b_R_reduce 89 = .ok (.iload_n 3, 1) := by decide +kernel
theorem d_R_reduce_90 : decode b_R_reduce 90 = .ok (.ifCond .eq 20, 3) := by decide +kernel
theorem d_R_reduce_93 : decode b_R_reduce 93 = .ok (.aload_n 0, 1) := by decide +kernel
theorem d_R_reduce_94 : decode b_R_reduce 94 = .ok (.iload_n 2, 1) := by decide +kernel
theorem d_R_reduce_95 : decode b_R_reduce 95 = .ok (.lload 4, 2) := by decide +kernel
theorem d_R_reduce_97 : decode b_R_reduce 97 = .ok (.aload_n 0, 1) := by decide +kernel
theorem d_R_reduce_98 : decode b_R_reduce 98 = .ok (.getfield 20, 3) := by decide +kernel
theorem d_R_reduce_101 : decode b_R_reduce 101 = .ok (.iload 6, 2) := by decide +kernel
theorem d_R_reduce_103 : decode b_R_reduce 103 = .ok (.laload, 1) := by decide +kernel
theorem d_R_reduce_104 : decode b_R_reduce 104 = .ok (.invokevirtual 72, 3) := by decide +kernel
theorem d_R_reduce_107 : decode b_R_reduce 107 = .ok (.goto 10, 3) := by decide +kernel
theorem d_R_reduce_110 : decode b_R_reduce 110 = .ok (.aload_n 0, 1) := by decide +kernel
theorem d_R_reduce_111 : decode b_R_reduce 111 = .ok (.getfield 20, 3) := by decide +kernel
theorem d_R_reduce_114 : decode b_R_reduce 114 = .ok (.iload 6, 2) := by decide +kernel
theorem d_R_reduce_116 : decode b_R_reduce 116 = .ok (.laload, 1) := by decide +kernel
theorem d_R_reduce_117 : decode b_R_reduce 117 = .ok (.lstore 4, 2) := by decide +kernel
theorem d_R_reduce_119 : decode b_R_reduce 119 = .ok (.iconst 1, 1) := by decide +kernel
theorem d_R_reduce_120 : decode b_R_reduce 120 = .ok (.istore_n 3, 1) := by decide +kernel
theorem d_R_reduce_121 : decode b_R_reduce 121 = .ok (.iinc 6 1, 3) := by decide +kernel
theorem d_R_reduce_124 : decode b_R_reduce 124 = .ok (.goto (-64), 3) := by decide +kernel
theorem d_R_reduce_127 : decode b_R_reduce 127 = .ok (.aload_n 0, 1) := by decide +kernel
theorem d_R_reduce_128 : decode b_R_reduce 128 = .ok (.aload_n 0, 1) := by decide +kernel
theorem d_R_reduce_129 : decode b_R_reduce 129 = .ok (.getfield 54, 3) := by decide +kernel
theorem d_R_reduce_132 : decode b_R_reduce 132 = .ok (.ifCond .eq 7, 3) := by decide +kernel
theorem d_R_reduce_135 : decode b_R_reduce 135 = .ok (.iconst 3, 1) := by decide +kernel
theorem d_R_reduce_136 : decode b_R_reduce 136 = .ok (.goto 4, 3) := by decide +kernel
theorem d_R_reduce_139 : decode b_R_reduce 139 = .ok (.iconst 0, 1) := by decide +kernel
theorem d_R_reduce_140 : decode b_R_reduce 140 = .ok (.putfield 30, 3) := by decide +kernel
theorem d_R_reduce_143 : decode b_R_reduce 143 = .ok (.aload_n 0, 1) := by decide +kernel
theorem d_R_reduce_144 : decode b_R_reduce 144 = .ok (.getfield 54, 3) := by decide +kernel
theorem d_R_reduce_147 : decode b_R_reduce 147 = .ok (.ifCond .eq 7, 3) := by decide +kernel
theorem d_R_reduce_150 : decode b_R_reduce 150 = .ok (.lconst 0, 1) := by decide +kernel
theorem d_R_reduce_151 : decode b_R_reduce 151 = .ok (.goto 5, 3) := by decide +kernel
theorem d_R_reduce_154 : decode b_R_reduce 154 = .ok (.lload 4, 2) := by decide +kernel
theorem d_R_reduce_156 : decode b_R_reduce 156 = .ok (.lreturn, 1) := by decide +kernel
theorem d_R_isSquare_0 : decode b_R_isSquare 0 = .ok (.aload_n 0, 1) := by decide +kernel
theorem d_R_isSquare_1 : decode b_R_isSquare 1 = .ok (.getfield 7, 3) := by decide +kernel
theorem d_R_isSquare_4 : decode b_R_isSquare 4 = .ok (.iload_n 1, 1) := by decide +kernel
theorem d_R_isSquare_5 : decode b_R_isSquare 5 = .ok (.iaload, 1) := by decide +kernel
theorem d_R_isSquare_6 : decode b_R_isSquare 6 = .ok (.aload_n 0, 1) := by decide +kernel
theorem d_R_isSquare_7 : decode b_R_isSquare 7 = .ok (.getfield 13, 3) := by decide +kernel
theorem d_R_isSquare_10 : decode b_R_isSquare 10 = .ok (.iload_n 1, 1) := by decide +kernel
theorem d_R_isSquare_11 : decode b_R_isSquare 11 = .ok (.iaload, 1) := by decide +kernel
theorem d_R_isSquare_12 : decode b_R_isSquare 12 = .ok (.if_icmp .ne 7, 3) := by decide +kernel
theorem d_R_isSquare_15 : decode b_R_isSquare 15 = .ok (.iconst 1, 1) := by decide +kernel
theorem d_R_isSquare_16 : decode b_R_isSquare 16 = .ok (.goto 4, 3) := by decide +kernel
theorem d_R_isSquare_19 : decode b_R_isSquare 19 = .ok (.iconst 0, 1) := by decide +kernel
theorem d_R_isSquare_20 : decode b_R_isSquare 20 = .ok (.ireturn, 1) := by decide +kernel
theorem d_R_levels_0 : decode b_R_levels 0 = .ok (.aload_n 0, 1) := by decide +kernel
theorem d_R_levels_1 : decode b_R_levels 1 = .ok (.iload_n 1, 1) := by decide +kernel
theorem d_R_levels_2 : decode b_R_levels 2 = .ok (.invokestatic 38, 3) := by decide +kernel
theorem d_R_levels_5 : decode b_R_levels 5 = .ok (.ifCond .eq 10, 3) := by decide +kernel
theorem d_R_levels_8 : decode b_R_levels 8 = .ok (.iload_n 2, 1) := by decide +kernel
theorem d_R_levels_9 : decode b_R_levels 9 = .ok (.invokestatic 38, 3) := by decide +kernel
theorem d_R_levels_12 : decode b_R_levels 12 = .ok (.ifCond .ne 7, 3) := by decide +kernel
theorem d_R_levels_15 : decode b_R_levels 15 = .ok (.iconst 1, 1) := by decide +kernel
theorem d_R_levels_16 : decode b_R_levels 16 = .ok (.goto 34, 3) := by decide +kernel
theorem d_R_levels_19 : decode b_R_levels 19 = .ok (.aload_n 0, 1) := by decide +kernel
theorem d_R_levels_20 : decode b_R_levels 20 = .ok (.iload_n 2, 1) := by decide +kernel
theorem d_R_levels_21 : decode b_R_levels 21 = .ok (.invokevirtual 105, 3) := by decide +kernel
theorem d_R_levels_24 : decode b_R_levels 24 = .ok (.ifCond .ne 7, 3) := by decide +kernel
theorem d_R_levels_27 : decode b_R_levels 27 = .ok (.iconst 2, 1) := by decide +kernel
theorem d_R_levels_28 : decode b_R_levels 28 = .ok (.goto 22, 3) := by decide +kernel
theorem d_R_levels_31 : decode b_R_levels 31 = .ok (.iload_n 3, 1) := by decide +kernel
theorem d_R_levels_32 : decode b_R_levels 32 = .ok (.ifCond .lt 13, 3) := by decide +kernel
theorem d_R_levels_35 : decode b_R_levels 35 = .ok (.iload_n 3, 1) := by decide +kernel
theorem d_R_levels_36 : decode b_R_levels 36 = .ok (.aload_n 0, 1) := by decide +kernel
theorem d_R_levels_37 : decode b_R_levels 37 = .ok (.getfield 7, 3) := by decide +kernel
theorem d_R_levels_40 : decode b_R_levels 40 = .ok (.iload_n 2, 1) := by decide +kernel
theorem d_R_levels_41 : decode b_R_levels 41 = .ok (.iaload, 1) := by decide +kernel
theorem d_R_levels_42 : decode b_R_levels 42 = .ok (.if_icmp .lt 7, 3) := by decide +kernel
theorem d_R_levels_45 : decode b_R_levels 45 = .ok (.iconst 3, 1) := by decide +kernel
theorem d_R_levels_46 : decode b_R_levels 46 = .ok (.goto 4, 3) := by decide +kernel
theorem d_R_levels_49 : decode b_R_levels 49 = .ok (.iconst 0, 1) := by decide +kernel
theorem d_R_levels_50 : decode b_R_levels 50 = .ok (.putfield 30, 3) := by decide +kernel
theorem d_R_levels_53 : decode b_R_levels 53 = .ok (.aload_n 0, 1) := by decide +kernel
theorem d_R_levels_54 : decode b_R_levels 54 = .ok (.getfield 30, 3) := by decide +kernel
theorem d_R_levels_57 : decode b_R_levels 57 = .ok (.ifCond .le 5, 3) := by decide +kernel
theorem d_R_levels_60 : decode b_R_levels 60 = .ok (.iconst 0, 1) := by decide +kernel
theorem d_R_levels_61 : decode b_R_levels 61 = .ok (.ireturn, 1) := by decide +kernel
theorem d_R_levels_62 : decode b_R_levels 62 = .ok (.aload_n 0, 1) := by decide +kernel
theorem d_R_levels_63 : decode b_R_levels 63 = .ok (.iconst 1, 1) := by decide +kernel
theorem d_R_levels_64 : decode b_R_levels 64 = .ok (.aload_n 0, 1) := by decide +kernel
theorem d_R_levels_65 : decode b_R_levels 65 = .ok (.getfield 13, 3) := by decide +kernel
theorem d_R_levels_68 : decode b_R_levels 68 = .ok (.iload_n 2, 1) := by decide +kernel
theorem d_R_levels_69 : decode b_R_levels 69 = .ok (.iaload, 1) := by decide +kernel
theorem d_R_levels_70 : decode b_R_levels 70 = .ok (.invokevirtual 82, 3) := by decide +kernel
theorem d_R_levels_73 : decode b_R_levels 73 = .ok (.aload_n 0, 1) := by decide +kernel
theorem d_R_levels_74 : decode b_R_levels 74 = .ok (.iconst 0, 1) := by decide +kernel
theorem d_R_levels_75 : decode b_R_levels 75 = .ok (.iload_n 3, 1) := by decide +kernel
theorem d_R_levels_76 : decode b_R_levels 76 = .ok (.lconst 0, 1) := by decide +kernel
theorem d_R_levels_77 : decode b_R_levels 77 = .ok (.invokevirtual 75, 3) := by decide +kernel
theorem d_R_levels_80 : decode b_R_levels 80 = .ok (.iconst 0, 1) := by decide +kernel
theorem d_R_levels_81 : decode b_R_levels 81 = .ok (.istore 4, 2) := by decide +kernel
theorem d_R_levels_83 : decode b_R_levels 83 = .ok (.iload 4, 2) := by decide +kernel
theorem d_R_levels_85 : decode b_R_levels 85 = .ok (.bipush 8, 2) := by decide +kernel
theorem d_R_levels_87 : decode b_R_levels 87 = .ok (.if_icmp .ge 112, 3) := by decide +kernel
theorem d_R_levels_90 : decode b_R_levels 90 = .ok (.iconst 0, 1) := by decide +kernel
theorem d_R_levels_91 : decode b_R_levels 91 = .ok (.istore 5, 2) := by decide +kernel
theorem d_R_levels_93 : decode b_R_levels 93 = .ok (.iload 5, 2) := by decide +kernel
theorem d_R_levels_95 : decode b_R_levels 95 = .ok (.aload_n 0, 1) := by decide +kernel
theorem d_R_levels_96 : decode b_R_levels 96 = .ok (.getfield 65, 3) := by decide +kernel
theorem d_R_levels_99 : decode b_R_levels 99 = .ok (.if_icmp .ge 94, 3) := by decide +kernel
theorem d_R_levels_102 : decode b_R_levels 102 = .ok (.iconst 0, 1) := by decide +kernel
theorem d_R_levels_103 : decode b_R_levels 103 = .ok (.istore 6, 2) := by decide +kernel
theorem d_R_levels_105 : decode b_R_levels 105 = .ok (.iload 6, 2) := by decide +kernel
theorem d_R_levels_107 : decode b_R_levels 107 = .ok (.aload_n 0, 1) := by decide +kernel
theorem d_R_levels_108 : decode b_R_levels 108 = .ok (.getfield 65, 3) := by decide +kernel
theorem d_R_levels_111 : decode b_R_levels 111 = .ok (.if_icmp .ge 76, 3) := by decide +kernel
theorem d_R_levels_114 : decode b_R_levels 114 = .ok (.aload_n 0, 1) := by decide +kernel
theorem d_R_levels_115 : decode b_R_levels 115 = .ok (.getfield 24, 3) := by decide +kernel
theorem d_R_levels_118 : decode b_R_levels 118 = .ok (.iload 5, 2) := by decide +kernel
theorem d_R_levels_120 : decode b_R_levels 120 = .ok (.baload, 1) := by decide +kernel
theorem d_R_levels_121 : decode b_R_levels 121 = .ok (.ifCond .eq 60, 3) := by decide +kernel
theorem d_R_levels_124 : decode b_R_levels 124 = .ok (.aload_n 0, 1) := by decide +kernel
theorem d_R_levels_125 : decode b_R_levels 125 = .ok (.getfield 27, 3) := by decide +kernel
theorem d_R_levels_128 : decode b_R_levels 128 = .ok (.iload 5, 2) := by decide +kernel
theorem d_R_levels_130 : decode b_R_levels 130 = .ok (.laload, 1) := by decide +kernel
theorem d_R_levels_131 : decode b_R_levels 131 = .ok (.iload 4, 2) := by decide +kernel
theorem d_R_levels_133 : decode b_R_levels 133 = .ok (.i2l, 1) := by decide +kernel
theorem d_R_levels_134 : decode b_R_levels 134 = .ok (.lcmp, 1) := by decide +kernel
theorem d_R_levels_135 : decode b_R_levels 135 = .ok (.ifCond .ne 46, 3) := by decide +kernel
theorem d_R_levels_138 : decode b_R_levels 138 = .ok (.aload_n 0, 1) := by decide +kernel
theorem d_R_levels_139 : decode b_R_levels 139 = .ok (.getfield 16, 3) := by decide +kernel
theorem d_R_levels_142 : decode b_R_levels 142 = .ok (.bipush 64, 2) := by decide +kernel
theorem d_R_levels_144 : decode b_R_levels 144 = .ok (.iload_n 2, 1) := by decide +kernel
theorem d_R_levels_145 : decode b_R_levels 145 = .ok (.imul, 1) := by decide +kernel
theorem d_R_levels_146 : decode b_R_levels 146 = .ok (.bipush 8, 2) := by decide +kernel
theorem d_R_levels_148 : decode b_R_levels 148 = .ok (.iload 5, 2) := by decide +kernel
theorem d_R_levels_150 : decode b_R_levels 150 = .ok (.imul, 1) := by decide +kernel
theorem d_R_levels_151 : decode b_R_levels 151 = .ok (.iadd, 1) := by decide +kernel
theorem d_R_levels_152 : decode b_R_levels 152 = .ok (.iload 6, 2) := by decide +kernel
theorem d_R_levels_154 : decode b_R_levels 154 = .ok (.iadd, 1) := by decide +kernel
theorem d_R_levels_155 : decode b_R_levels 155 = .ok (.baload, 1) := by decide +kernel
theorem d_R_levels_156 : decode b_R_levels 156 = .ok (.ifCond .eq 25, 3) := by decide +kernel
theorem d_R_levels_159 : decode b_R_levels 159 = .ok (.aload_n 0, 1) := by decide +kernel
theorem d_R_levels_160 : decode b_R_levels 160 = .ok (.getfield 24, 3) := by decide +kernel
theorem d_R_levels_163 : decode b_R_levels 163 = .ok (.iload 6, 2) := by decide +kernel
theorem d_R_levels_165 : decode b_R_levels 165 = .ok (.baload, 1) := by decide +kernel
theorem d_R_levels_166 : decode b_R_levels 166 = .ok (.ifCond .ne 15, 3) := by decide +kernel
theorem d_R_levels_169 : decode b_R_levels 169 = .ok (.aload_n 0, 1) := by decide +kernel
theorem d_R_levels_170 : decode b_R_levels 170 = .ok (.iconst 0, 1) := by decide +kernel
theorem d_R_levels_171 : decode b_R_levels 171 = .ok (.iload 6, 2) := by decide +kernel
theorem d_R_levels_173 : decode b_R_levels 173 = .ok (.iload 4, 2) := by decide +kernel
theorem d_R_levels_175 : decode b_R_levels 175 = .ok (.iconst 1, 1) := by decide +kernel
theorem d_R_levels_176 : decode b_R_levels 176 = .ok (.iadd, 1) := by decide +kernel
theorem d_R_levels_177 : decode b_R_levels 177 = .ok (.i2l, 1) := by decide +kernel
theorem d_R_levels_178 : decode b_R_levels 178 = .ok (.invokevirtual 75, 3) := by decide +kernel
theorem d_R_levels_181 : decode b_R_levels 181 = .ok (.iinc 6 1, 3) := by decide +kernel
theorem d_R_levels_184 : decode b_R_levels 184 = .ok (.goto (-79), 3) := by decide +kernel
theorem d_R_levels_187 : decode b_R_levels 187 = .ok (.iinc 5 1, 3) := by decide +kernel
theorem d_R_levels_190 : decode b_R_levels 190 = .ok (.goto (-97), 3) := by decide +kernel
theorem d_R_levels_193 : decode b_R_levels 193 = .ok (.iinc 4 1, 3) := by decide +kernel
theorem d_R_levels_196 : decode b_R_levels 196 = .ok (.goto (-113), 3) := by decide +kernel
theorem d_R_levels_199 : decode b_R_levels 199 = .ok (.aload_n 0, 1) := by decide +kernel
theorem d_R_levels_200 : decode b_R_levels 200 = .ok (.iload_n 1, 1) := by decide +kernel
theorem d_R_levels_201 : decode b_R_levels 201 = .ok (.iconst (-1), 1) := by decide +kernel
theorem d_R_levels_202 : decode b_R_levels 202 = .ok (.invokevirtual 93, 3) := by decide +kernel
theorem d_R_levels_205 : decode b_R_levels 205 = .ok (.ireturn, 1) := by decide +kernel
theorem d_R_relax_0 : decode b_R_relax 0 = .ok (.iconst 0, 1) := by decide +kernel
theorem d_R_relax_1 : decode b_R_relax 1 = .ok (.istore_n 1, 1) := by decide +kernel
theorem d_R_relax_2 : decode b_R_relax 2 = .ok (.iload_n 1, 1) := by decide +kernel
theorem d_R_relax_3 : decode b_R_relax 3 = .ok (.aload_n 0, 1) := by decide +kernel
theorem d_R_relax_4 : decode b_R_relax 4 = .ok (.getfield 62, 3) := by decide +kernel
theorem d_R_relax_7 : decode b_R_relax 7 = .ok (.if_icmp .ge 133, 3) := by decide +kernel
theorem d_R_relax_10 : decode b_R_relax 10 = .ok (.iconst 0, 1) := by decide +kernel
theorem d_R_relax_11 : decode b_R_relax 11 = .ok (.istore_n 2, 1) := by decide +kernel
theorem d_R_relax_12 : decode b_R_relax 12 = .ok (.iload_n 2, 1) := by decide +kernel
theorem d_R_relax_13 : decode b_R_relax 13 = .ok (.aload_n 0, 1) := by decide +kernel
theorem d_R_relax_14 : decode b_R_relax 14 = .ok (.getfield 62, 3) := by decide +kernel
theorem d_R_relax_17 : decode b_R_relax 17 = .ok (.if_icmp .ge 117, 3) := by decide +kernel
theorem d_R_relax_20 : decode b_R_relax 20 = .ok (.iconst 0, 1) := by decide +kernel
theorem d_R_relax_21 : decode b_R_relax 21 = .ok (.istore_n 3, 1) := by decide +kernel
theorem d_R_relax_22 : decode b_R_relax 22 = .ok (.iload_n 3, 1) := by decide +kernel
theorem d_R_relax_23 : decode b_R_relax 23 = .ok (.aload_n 0, 1) := by decide +kernel
theorem d_R_relax_24 : decode b_R_relax 24 = .ok (.getfield 62, 3) := by decide +kernel
theorem d_R_relax_27 : decode b_R_relax 27 = .ok (.if_icmp .ge 101, 3) := by decide +kernel
theorem d_R_relax_30 : decode b_R_relax 30 = .ok (.aload_n 0, 1) := by decide +kernel
theorem d_R_relax_31 : decode b_R_relax 31 = .ok (.getfield 24, 3) := by decide +kernel
theorem d_R_relax_34 : decode b_R_relax 34 = .ok (.bipush 8, 2) := by decide +kernel
theorem d_R_relax_36 : decode b_R_relax 36 = .ok (.iload_n 2, 1) := by decide +kernel
theorem d_R_relax_37 : decode b_R_relax 37 = .ok (.imul, 1) := by decide +kernel
theorem d_R_relax_38 : decode b_R_relax 38 = .ok (.iload_n 1, 1) := by decide +kernel
theorem d_R_relax_39 : decode b_R_relax 39 = .ok (.iadd, 1) := by decide +kernel
theorem d_R_relax_40 : decode b_R_relax 40 = .ok (.baload, 1) := by decide +kernel
theorem d_R_relax_41 : decode b_R_relax 41 = .ok (.ifCond .eq 81, 3) := by decide +kernel
theorem d_R_relax_44 : decode b_R_relax 44 = .ok (.aload_n 0, 1) := by decide +kernel
theorem d_R_relax_45 : decode b_R_relax 45 = .ok (.getfield 24, 3) := by decide +kernel
theorem d_R_relax_48 : decode b_R_relax 48 = .ok (.bipush 8, 2) := by decide +kernel
theorem d_R_relax_50 : decode b_R_relax 50 = .ok (.iload_n 1, 1) := by decide +kernel
theorem d_R_relax_51 : decode b_R_relax 51 = .ok (.imul, 1) := by decide +kernel
theorem d_R_relax_52 : decode b_R_relax 52 = .ok (.iload_n 3, 1) := by decide +kernel
theorem d_R_relax_53 : decode b_R_relax 53 = .ok (.iadd, 1) := by decide +kernel
theorem d_R_relax_54 : decode b_R_relax 54 = .ok (.baload, 1) := by decide +kernel
theorem d_R_relax_55 : decode b_R_relax 55 = .ok (.ifCond .eq 67, 3) := by decide +kernel
theorem d_R_relax_58 : decode b_R_relax 58 = .ok (.aload_n 0, 1) := by decide +kernel
theorem d_R_relax_59 : decode b_R_relax 59 = .ok (.getfield 27, 3) := by decide +kernel
theorem d_R_relax_62 : decode b_R_relax 62 = .ok (.bipush 8, 2) := by decide +kernel
theorem d_R_relax_64 : decode b_R_relax 64 = .ok (.iload_n 2, 1) := by decide +kernel
theorem d_R_relax_65 : decode b_R_relax 65 = .ok (.imul, 1) := by decide +kernel
theorem d_R_relax_66 : decode b_R_relax 66 = .ok (.iload_n 1, 1) := by decide +kernel
theorem d_R_relax_67 : decode b_R_relax 67 = .ok (.iadd, 1) := by decide +kernel
theorem d_R_relax_68 : decode b_R_relax 68 = .ok (.laload, 1) := by decide +kernel
theorem d_R_relax_69 : decode b_R_relax 69 = .ok (.aload_n 0, 1) := by decide +kernel
theorem d_R_relax_70 : decode b_R_relax 70 = .ok (.getfield 27, 3) := by decide +kernel
theorem d_R_relax_73 : decode b_R_relax 73 = .ok (.bipush 8, 2) := by decide +kernel
theorem d_R_relax_75 : decode b_R_relax 75 = .ok (.iload_n 1, 1) := by decide +kernel
theorem d_R_relax_76 : decode b_R_relax 76 = .ok (.imul, 1) := by decide +kernel
theorem d_R_relax_77 : decode b_R_relax 77 = .ok (.iload_n 3, 1) := by decide +kernel
theorem d_R_relax_78 : decode b_R_relax 78 = .ok (.iadd, 1) := by decide +kernel
theorem d_R_relax_79 : decode b_R_relax 79 = .ok (.laload, 1) := by decide +kernel
theorem d_R_relax_80 : decode b_R_relax 80 = .ok (.ladd, 1) := by decide +kernel
theorem d_R_relax_81 : decode b_R_relax 81 = .ok (.lstore 4, 2) := by decide +kernel
theorem d_R_relax_83 : decode b_R_relax 83 = .ok (.aload_n 0, 1) := by decide +kernel
theorem d_R_relax_84 : decode b_R_relax 84 = .ok (.getfield 24, 3) := by decide +kernel
theorem d_R_relax_87 : decode b_R_relax 87 = .ok (.bipush 8, 2) := by decide +kernel
theorem d_R_relax_89 : decode b_R_relax 89 = .ok (.iload_n 2, 1) := by decide +kernel
theorem d_R_relax_90 : decode b_R_relax 90 = .ok (.imul, 1) := by decide +kernel
theorem d_R_relax_91 : decode b_R_relax 91 = .ok (.iload_n 3, 1) := by decide +kernel
theorem d_R_relax_92 : decode b_R_relax 92 = .ok (.iadd, 1) := by decide +kernel
theorem d_R_relax_93 : decode b_R_relax 93 = .ok (.baload, 1) := by decide +kernel
theorem d_R_relax_94 : decode b_R_relax 94 = .ok (.ifCond .eq 20, 3) := by decide +kernel
theorem d_R_relax_97 : decode b_R_relax 97 = .ok (.lload 4, 2) := by decide +kernel
theorem d_R_relax_99 : decode b_R_relax 99 = .ok (.aload_n 0, 1) := by decide +kernel
theorem d_R_relax_100 : decode b_R_relax 100 = .ok (.getfield 27, 3) := by decide +kernel
theorem d_R_relax_103 : decode b_R_relax 103 = .ok (.bipush 8, 2) := by decide +kernel
theorem d_R_relax_105 : decode b_R_relax 105 = .ok (.iload_n 2, 1) := by decide +kernel
theorem d_R_relax_106 : decode b_R_relax 106 = .ok (.imul, 1) := by decide +kernel
theorem d_R_relax_107 : decode b_R_relax 107 = .ok (.iload_n 3, 1) := by decide +kernel
theorem d_R_relax_108 : decode b_R_relax 108 = .ok (.iadd, 1) := by decide +kernel
theorem d_R_relax_109 : decode b_R_relax 109 = .ok (.laload, 1) := by decide +kernel
theorem d_R_relax_110 : decode b_R_relax 110 = .ok (.lcmp, 1) := by decide +kernel
theorem d_R_relax_111 : decode b_R_relax 111 = .ok (.ifCond .ge 11, 3) := by decide +kernel
theorem d_R_relax_114 : decode b_R_relax 114 = .ok (.aload_n 0, 1) := by decide +kernel
theorem d_R_relax_115 : decode b_R_relax 115 = .ok (.iload_n 2, 1) := by decide +kernel
theorem d_R_relax_116 : decode b_R_relax 116 = .ok (.iload_n 3, 1) := by decide +kernel
theorem d_R_relax_117 : decode b_R_relax 117 = .ok (.lload 4, 2) := by decide +kernel
theorem d_R_relax_119 : decode b_R_relax 119 = .ok (.invokevirtual 75, 3) := by decide +kernel
theorem d_R_relax_122 : decode b_R_relax 122 = .ok (.iinc 3 1, 3) := by decide +kernel
theorem d_R_relax_125 : decode b_R_relax 125 = .ok (.goto (-103), 3) := by decide +kernel
theorem d_R_relax_128 : decode b_R_relax 128 = .ok (.iinc 2 1, 3) := by decide +kernel
theorem d_R_relax_131 : decode b_R_relax 131 = .ok (.goto (-119), 3) := by decide +kernel
theorem d_R_relax_134 : decode b_R_relax 134 = .ok (.iinc 1 1, 3) := by decide +kernel
theorem d_R_relax_137 : decode b_R_relax 137 = .ok (.goto (-135), 3) := by decide +kernel
theorem d_R_relax_140 : decode b_R_relax 140 = .ok (.return_, 1) := by decide +kernel
theorem d_R_paths_0 : decode b_R_paths 0 = .ok (.aload_n 0, 1) := by decide +kernel
theorem d_R_paths_1 : decode b_R_paths 1 = .ok (.iload_n 1, 1) := by decide +kernel
theorem d_R_paths_2 : decode b_R_paths 2 = .ok (.invokestatic 38, 3) := by decide +kernel
theorem d_R_paths_5 : decode b_R_paths 5 = .ok (.ifCond .eq 10, 3) := by decide +kernel
theorem d_R_paths_8 : decode b_R_paths 8 = .ok (.iload_n 2, 1) := by decide +kernel
theorem d_R_paths_9 : decode b_R_paths 9 = .ok (.invokestatic 38, 3) := by decide +kernel
theorem d_R_paths_12 : decode b_R_paths 12 = .ok (.ifCond .ne 7, 3) := by decide +kernel
theorem d_R_paths_15 : decode b_R_paths 15 = .ok (.iconst 1, 1) := by decide +kernel
theorem d_R_paths_16 : decode b_R_paths 16 = .ok (.goto 16, 3) := by decide +kernel
theorem d_R_paths_19 : decode b_R_paths 19 = .ok (.aload_n 0, 1) := by decide +kernel
theorem d_R_paths_20 : decode b_R_paths 20 = .ok (.iload_n 2, 1) := by decide +kernel
theorem d_R_paths_21 : decode b_R_paths 21 = .ok (.invokevirtual 105, 3) := by decide +kernel
theorem d_R_paths_24 : decode b_R_paths 24 = .ok (.ifCond .ne 7, 3) := by decide +kernel
theorem d_R_paths_27 : decode b_R_paths 27 = .ok (.iconst 2, 1) := by decide +kernel
theorem d_R_paths_28 : decode b_R_paths 28 = .ok (.goto 4, 3) := by decide +kernel
theorem d_R_paths_31 : decode b_R_paths 31 = .ok (.iconst 0, 1) := by decide +kernel
theorem d_R_paths_32 : decode b_R_paths 32 = .ok (.putfield 30, 3) := by decide +kernel
theorem d_R_paths_35 : decode b_R_paths 35 = .ok (.aload_n 0, 1) := by decide +kernel
theorem d_R_paths_36 : decode b_R_paths 36 = .ok (.getfield 30, 3) := by decide +kernel
theorem d_R_paths_39 : decode b_R_paths 39 = .ok (.ifCond .le 5, 3) := by decide +kernel
theorem d_R_paths_42 : decode b_R_paths 42 = .ok (.iconst 0, 1) := by decide +kernel
theorem d_R_paths_43 : decode b_R_paths 43 = .ok (.ireturn, 1) := by decide +kernel
theorem d_R_paths_44 : decode b_R_paths 44 = .ok (.aload_n 0, 1) := by decide +kernel
theorem d_R_paths_45 : decode b_R_paths 45 = .ok (.aload_n 0, 1) := by decide +kernel
theorem d_R_paths_46 : decode b_R_paths 46 = .ok (.getfield 7, 3) := by decide +kernel
theorem d_R_paths_49 : decode b_R_paths 49 = .ok (.iload_n 2, 1) := by decide +kernel
theorem d_R_paths_50 : decode b_R_paths 50 = .ok (.iaload, 1) := by decide +kernel
theorem d_R_paths_51 : decode b_R_paths 51 = .ok (.aload_n 0, 1) := by decide +kernel
theorem d_R_paths_52 : decode b_R_paths 52 = .ok (.getfield 7, 3) := by decide +kernel
theorem d_R_paths_55 : decode b_R_paths 55 = .ok (.iload_n 2, 1) := by decide +kernel
theorem d_R_paths_56 : decode b_R_paths 56 = .ok (.iaload, 1) := by decide +kernel
theorem d_R_paths_57 : decode b_R_paths 57 = .ok (.invokevirtual 82, 3) := by decide +kernel
theorem d_R_paths_60 : decode b_R_paths 60 = .ok (.iconst 0, 1) := by decide +kernel
theorem d_R_paths_61 : decode b_R_paths 61 = .ok (.istore_n 3, 1) := by decide +kernel
theorem d_R_paths_62 : decode b_R_paths 62 = .ok (.iload_n 3, 1) := by decide +kernel
theorem d_R_paths_63 : decode b_R_paths 63 = .ok (.bipush 64, 2) := by decide +kernel
theorem d_R_paths_65 : decode b_R_paths 65 = .ok (.if_icmp .ge 84, 3) := by decide +kernel
theorem d_R_paths_68 : decode b_R_paths 68 = .ok (.aload_n 0, 1) := by decide +kernel
theorem d_R_paths_69 : decode b_R_paths 69 = .ok (.getfield 16, 3) := by decide +kernel
theorem d_R_paths_72 : decode b_R_paths 72 = .ok (.bipush 64, 2) := by decide +kernel
theorem d_R_paths_74 : decode b_R_paths 74 = .ok (.iload_n 2, 1) := by decide +kernel
theorem d_R_paths_75 : decode b_R_paths 75 = .ok (.imul, 1) := by decide +kernel
theorem d_R_paths_76 : decode b_R_paths 76 = .ok (.iload_n 3, 1) := by decide +kernel
theorem d_R_paths_77 : decode b_R_paths 77 = .ok (.iadd, 1) := by decide +kernel
theorem d_R_paths_78 : decode b_R_paths 78 = .ok (.baload, 1) := by decide +kernel
theorem d_R_paths_79 : decode b_R_paths 79 = .ok (.ifCond .eq 64, 3) := by decide +kernel
theorem d_R_paths_82 : decode b_R_paths 82 = .ok (.aload_n 0, 1) := by decide +kernel
theorem d_R_paths_83 : decode b_R_paths 83 = .ok (.getfield 20, 3) := by decide +kernel
theorem d_R_paths_86 : decode b_R_paths 86 = .ok (.bipush 64, 2) := by decide +kernel
theorem d_R_paths_88 : decode b_R_paths 88 = .ok (.iload_n 2, 1) := by decide +kernel
theorem d_R_paths_89 : decode b_R_paths 89 = .ok (.imul, 1) := by decide +kernel
theorem d_R_paths_90 : decode b_R_paths 90 = .ok (.iload_n 3, 1) := by decide +kernel
theorem d_R_paths_91 : decode b_R_paths 91 = .ok (.iadd, 1) := by decide +kernel
theorem d_R_paths_92 : decode b_R_paths 92 = .ok (.laload, 1) := by decide +kernel
theorem d_R_paths_93 : decode b_R_paths 93 = .ok (.lstore 4, 2) := by decide +kernel
theorem d_R_paths_95 : decode b_R_paths 95 = .ok (.aload_n 0, 1) := by decide +kernel
theorem d_R_paths_96 : decode b_R_paths 96 = .ok (.aload_n 0, 1) := by decide +kernel
theorem d_R_paths_97 : decode b_R_paths 97 = .ok (.getfield 54, 3) := by decide +kernel
theorem d_R_paths_100 : decode b_R_paths 100 = .ok (.ifCond .ne 21, 3) := by decide +kernel
theorem d_R_paths_103 : decode b_R_paths 103 = .ok (.lload 4, 2) := by decide +kernel
theorem d_R_paths_105 : decode b_R_paths 105 = .ok (.ldc2_w 108, 3) := by decide +kernel
theorem d_R_paths_108 : decode b_R_paths 108 = .ok (.lcmp, 1) := by decide +kernel
theorem d_R_paths_109 : decode b_R_paths 109 = .ok (.ifCond .lt 12, 3) := by decide +kernel
theorem d_R_paths_112 : decode b_R_paths 112 = .ok (.lload 4, 2) := by decide +kernel
theorem d_R_paths_114 : decode b_R_paths 114 = .ok (.ldc2_w 110, 3) := by decide +kernel
theorem d_R_paths_117 : decode b_R_paths 117 = .ok (.lcmp, 1) := by decide +kernel
theorem d_R_paths_118 : decode b_R_paths 118 = .ok (.ifCond .le 7, 3) := by decide +kernel
theorem d_R_paths_121 : decode b_R_paths 121 = .ok (.iconst 1, 1) := by decide +kernel
theorem d_R_paths_122 : decode b_R_paths 122 = .ok (.goto 4, 3) := by decide +kernel
theorem d_R_paths_125 : decode b_R_paths 125 = .ok (.iconst 0, 1) := by decide +kernel
theorem d_R_paths_126 : decode b_R_paths 126 = .ok (.putfield 54, 3) := by decide +kernel
theorem d_R_paths_129 : decode b_R_paths 129 = .ok (.aload_n 0, 1) := by decide +kernel
theorem d_R_paths_130 : decode b_R_paths 130 = .ok (.iload_n 3, 1) := by decide +kernel
theorem d_R_paths_131 : decode b_R_paths 131 = .ok (.bipush 8, 2) := by decide +kernel
theorem d_R_paths_133 : decode b_R_paths 133 = .ok (.idiv, 1) := by decide +kernel
theorem d_R_paths_134 : decode b_R_paths 134 = .ok (.iload_n 3, 1) := by decide +kernel
theorem d_R_paths_135 : decode b_R_paths 135 = .ok (.bipush 8, 2) := by decide +kernel
theorem d_R_paths_137 : decode b_R_paths 137 = .ok (.irem, 1) := by decide +kernel
theorem d_R_paths_138 : decode b_R_paths 138 = .ok (.lload 4, 2) := by decide +kernel
theorem d_R_paths_140 : decode b_R_paths 140 = .ok (.invokevirtual 75, 3) := by decide +kernel
theorem d_R_paths_143 : decode b_R_paths 143 = .ok (.iinc 3 1, 3) := by decide +kernel
theorem d_R_paths_146 : decode b_R_paths 146 = .ok (.goto (-84), 3) := by decide +kernel
theorem d_R_paths_149 : decode b_R_paths 149 = .ok (.iconst 0, 1) := by decide +kernel
theorem d_R_paths_150 : decode b_R_paths 150 = .ok (.istore_n 3, 1) := by decide +kernel
theorem d_R_paths_151 : decode b_R_paths 151 = .ok (.iconst 0, 1) := by decide +kernel
theorem d_R_paths_152 : decode b_R_paths 152 = .ok (.istore 4, 2) := by decide +kernel
theorem d_R_paths_154 : decode b_R_paths 154 = .ok (.iload 4, 2) := by decide +kernel
theorem d_R_paths_156 : decode b_R_paths 156 = .ok (.aload_n 0, 1) := by decide +kernel
theorem d_R_paths_157 : decode b_R_paths 157 = .ok (.getfield 62, 3) := by decide +kernel
theorem d_R_paths_160 : decode b_R_paths 160 = .ok (.if_icmp .ge 46, 3) := by decide +kernel
theorem d_R_paths_163 : decode b_R_paths 163 = .ok (.aload_n 0, 1) := by decide +kernel
theorem d_R_paths_164 : decode b_R_paths 164 = .ok (.getfield 24, 3) := by decide +kernel
theorem d_R_paths_167 : decode b_R_paths 167 = .ok (.bipush 9, 2) := by decide +kernel
theorem d_R_paths_169 : decode b_R_paths 169 = .ok (.iload 4, 2) := by decide +kernel
theorem d_R_paths_171 : decode b_R_paths 171 = .ok (.imul, 1) := by decide +kernel
theorem d_R_paths_172 : decode b_R_paths 172 = .ok (.baload, 1) := by decide +kernel
theorem d_R_paths_173 : decode b_R_paths 173 = .ok (.ifCond .eq 18, 3) := by decide +kernel
theorem d_R_paths_176 : decode b_R_paths 176 = .ok (.aload_n 0, 1) := by decide +kernel
theorem d_R_paths_177 : decode b_R_paths 177 = .ok (.getfield 27, 3) := by decide +kernel
theorem d_R_paths_180 : decode b_R_paths 180 = .ok (.bipush 9, 2) := by decide +kernel
theorem d_R_paths_182 : decode b_R_paths 182 = .ok (.iload 4, 2) := by decide +kernel
theorem d_R_paths_184 : decode b_R_paths 184 = .ok (.imul, 1) := by decide +kernel
theorem d_R_paths_185 : decode b_R_paths 185 = .ok (.laload, 1) := by decide +kernel
theorem d_R_paths_186 : decode b_R_paths 186 = .ok (.lconst 0, 1) := by decide +kernel
theorem d_R_paths_187 : decode b_R_paths 187 = .ok (.lcmp, 1) := by decide +kernel
theorem d_R_paths_188 : decode b_R_paths 188 = .ok (.ifCond .le 12, 3) := by decide +kernel
theorem d_R_paths_191 : decode b_R_paths 191 = .ok (.aload_n 0, 1) := by decide +kernel
theorem d_R_paths_192 : decode b_R_paths 192 = .ok (.iload 4, 2) := by decide +kernel
theorem d_R_paths_194 : decode b_R_paths 194 = .ok (.iload 4, 2) := by decide +kernel
theorem d_R_paths_196 : decode b_R_paths 196 = .ok (.lconst 0, 1) := by decide +kernel
theorem d_R_paths_197 : decode b_R_paths 197 = .ok (.invokevirtual 75, 3) := by decide +kernel
theorem d_R_paths_200 : decode b_R_paths 200 = .ok (.iinc 4 1, 3) := by decide +kernel
theorem d_R_paths_203 : decode b_R_paths 203 = .ok (.goto (-49), 3) := by decide +kernel
theorem d_R_paths_206 : decode b_R_paths 206 = .ok (.aload_n 0, 1) := by decide +kernel
theorem d_R_paths_207 : decode b_R_paths 207 = .ok (.getfield 54, 3) := by decide +kernel
theorem d_R_paths_210 : decode b_R_paths 210 = .ok (.ifCond .ne 7, 3) := by decide +kernel
theorem d_R_paths_213 : decode b_R_paths 213 = .ok (.aload_n 0, 1) := by decide +kernel
theorem d_R_paths_214 : decode b_R_paths 214 = .ok (.invokevirtual 112, 3) := by decide +kernel
theorem d_R_paths_217 : decode b_R_paths 217 = .ok (.iconst 0, 1) := by decide +kernel
theorem d_R_paths_218 : decode b_R_paths 218 = .ok (.istore 4, 2) := by decide +kernel
theorem d_R_paths_220 : decode b_R_paths 220 = .ok (.iload 4, 2) := by decide +kernel
theorem d_R_paths_222 : decode b_R_paths 222 = .ok (.aload_n 0, 1) := by decide +kernel
theorem d_R_paths_223 : decode b_R_paths 223 = .ok (.getfield 62, 3) := by decide +kernel
theorem d_R_paths_226 : decode b_R_paths 226 = .ok (.if_icmp .ge 34, 3) := by decide +kernel
theorem d_R_paths_229 : decode b_R_paths 229 = .ok (.iload_n 3, 1) := by decide +kernel
theorem d_R_paths_230 : decode b_R_paths 230 = .ok (.ifCond .ne 18, 3) := by decide +kernel
theorem d_R_paths_233 : decode b_R_paths 233 = .ok (.aload_n 0, 1) := by decide +kernel
theorem d_R_paths_234 : decode b_R_paths 234 = .ok (.getfield 27, 3) := by decide +kernel
theorem d_R_paths_237 : decode b_R_paths 237 = .ok (.bipush 9, 2) := by decide +kernel
theorem d_R_paths_239 : decode b_R_paths 239 = .ok (.iload 4, 2) := by decide +kernel
theorem d_R_paths_241 : decode b_R_paths 241 = .ok (.imul, 1) := by decide +kernel
theorem d_R_paths_242 : decode b_R_paths 242 = .ok (.laload, 1) := by decide +kernel
theorem d_R_paths_243 : decode b_R_paths 243 = .ok (.lconst 0, 1) := by decide +kernel
theorem d_R_paths_244 : decode b_R_paths 244 = .ok (.lcmp, 1) := by decide +kernel
theorem d_R_paths_245 : decode b_R_paths 245 = .ok (.ifCond .ge 7, 3) := by decide +kernel
theorem d_R_paths_248 : decode b_R_paths 248 = .ok (.iconst 1, 1) := by decide +kernel
theorem d_R_paths_249 : decode b_R_paths 249 = .ok (.goto 4, 3) := by decide +kernel
theorem d_R_paths_252 : decode b_R_paths 252 = .ok (.iconst 0, 1) := by decide +kernel
theorem d_R_paths_253 : decode b_R_paths 253 = .ok (.istore_n 3, 1) := by decide +kernel
theorem d_R_paths_254 : decode b_R_paths 254 = .ok (.iinc 4 1, 3) := by decide +kernel
theorem d_R_paths_257 : decode b_R_paths 257 = .ok (.goto (-37), 3) := by decide +kernel
theorem d_R_paths_260 : decode b_R_paths 260 = .ok (.aload_n 0, 1) := by decide +kernel
theorem d_R_paths_261 : decode b_R_paths 261 = .ok (.aload_n 0, 1) := by decide +kernel
theorem d_R_paths_262 : decode b_R_paths 262 = .ok (.getfield 54, 3) := by decide +kernel
theorem d_R_paths_265 : decode b_R_paths 265 = .ok (.ifCond .eq 7, 3) := by decide +kernel
theorem d_R_paths_268 : decode b_R_paths 268 = .ok (.iconst 3, 1) := by decide +kernel
theorem d_R_paths_269 : decode b_R_paths 269 = .ok (.goto 12, 3) := by decide +kernel
theorem d_R_paths_272 : decode b_R_paths 272 = .ok (.iload_n 3, 1) := by decide +kernel
theorem d_R_paths_273 : decode b_R_paths 273 = .ok (.ifCond .eq 7, 3) := by decide +kernel
theorem d_R_paths_276 : decode b_R_paths 276 = .ok (.iconst 4, 1) := by decide +kernel
theorem d_R_paths_277 : decode b_R_paths 277 = .ok (.goto 4, 3) := by decide +kernel
theorem d_R_paths_280 : decode b_R_paths 280 = .ok (.iconst 0, 1) := by decide +kernel
theorem d_R_paths_281 : decode b_R_paths 281 = .ok (.putfield 30, 3) := by decide +kernel
theorem d_R_paths_284 : decode b_R_paths 284 = .ok (.aload_n 0, 1) := by decide +kernel
theorem d_R_paths_285 : decode b_R_paths 285 = .ok (.getfield 30, 3) := by decide +kernel
theorem d_R_paths_288 : decode b_R_paths 288 = .ok (.ifCond .le 7, 3) := by decide +kernel
theorem d_R_paths_291 : decode b_R_paths 291 = .ok (.iconst 0, 1) := by decide +kernel
theorem d_R_paths_292 : decode b_R_paths 292 = .ok (.goto 9, 3) := by decide +kernel
theorem d_R_paths_295 : decode b_R_paths 295 = .ok (.aload_n 0, 1) := by decide +kernel
theorem d_R_paths_296 : decode b_R_paths 296 = .ok (.iload_n 1, 1) := by decide +kernel
theorem d_R_paths_297 : decode b_R_paths 297 = .ok (.iconst (-1), 1) := by decide +kernel
theorem d_R_paths_298 : decode b_R_paths 298 = .ok (.invokevirtual 93, 3) := by decide +kernel
theorem d_R_paths_301 : decode b_R_paths 301 = .ok (.ireturn, 1) := by decide +kernel
theorem d_R_triangles_0 : decode b_R_triangles 0 = .ok (.aload_n 0, 1) := by decide +kernel
theorem d_R_triangles_1 : decode b_R_triangles 1 = .ok (.iload_n 1, 1) := by decide +kernel
theorem d_R_triangles_2 : decode b_R_triangles 2 = .ok (.invokestatic 38, 3) := by decide +kernel
theorem d_R_triangles_5 : decode b_R_triangles 5 = .ok (.ifCond .ne 7, 3) := by decide +kernel
theorem d_R_triangles_8 : decode b_R_triangles 8 = .ok (.iconst 1, 1) := by decide +kernel
theorem d_R_triangles_9 : decode b_R_triangles 9 = .ok (.goto 16, 3) := by decide +kernel
theorem d_R_triangles_12 : decode b_R_triangles 12 = .ok (.aload_n 0, 1) := by decide +kernel
theorem d_R_triangles_13 : decode b_R_triangles 13 = .ok (.iload_n 1, 1) := by decide +kernel
theorem d_R_triangles_14 : decode b_R_triangles 14 = .ok (.invokevirtual 105, 3) := by decide +kernel
theorem d_R_triangles_17 : decode b_R_triangles 17 = .ok (.ifCond .ne 7, 3) := by decide +kernel
theorem d_R_triangles_20 : decode b_R_triangles 20 = .ok (.iconst 2, 1) := by decide +kernel
theorem d_R_triangles_21 : decode b_R_triangles 21 = .ok (.goto 4, 3) := by decide +kernel
theorem d_R_triangles_24 : decode b_R_triangles 24 = .ok (.iconst 0, 1) := by decide +kernel
theorem d_R_triangles_25 : decode b_R_triangles 25 = .ok (.putfield 30, 3) := by decide +kernel
theorem d_R_triangles_28 : decode b_R_triangles 28 = .ok (.aload_n 0, 1) := by decide +kernel
theorem d_R_triangles_29 : decode b_R_triangles 29 = .ok (.getfield 30, 3) := by decide +kernel
theorem d_R_triangles_32 : decode b_R_triangles 32 = .ok (.ifCond .le 5, 3) := by decide +kernel
theorem d_R_triangles_35 : decode b_R_triangles 35 = .ok (.iconst 0, 1) := by decide +kernel
theorem d_R_triangles_36 : decode b_R_triangles 36 = .ok (.ireturn, 1) := by decide +kernel
theorem d_R_triangles_37 : decode b_R_triangles 37 = .ok (.iconst 0, 1) := by decide +kernel
theorem d_R_triangles_38 : decode b_R_triangles 38 = .ok (.istore_n 2, 1) := by decide +kernel
theorem d_R_triangles_39 : decode b_R_triangles 39 = .ok (.bipush 64, 2) := by decide +kernel
theorem d_R_triangles_41 : decode b_R_triangles 41 = .ok (.iload_n 1, 1) := by decide +kernel
theorem d_R_triangles_42 : decode b_R_triangles 42 = .ok (.imul, 1) := by decide +kernel
theorem d_R_triangles_43 : decode b_R_triangles 43 = .ok (.istore_n 3, 1) := by decide +kernel
theorem d_R_triangles_44 : decode b_R_triangles 44 = .ok (.iconst 0, 1) := by decide +kernel
theorem d_R_triangles_45 : decode b_R_triangles 45 = .ok (.istore 4, 2) := by decide +kernel
theorem d_R_triangles_47 : decode b_R_triangles 47 = .ok (.iload 4, 2) := by decide +kernel
theorem d_R_triangles_49 : decode b_R_triangles 49 = .ok (.aload_n 0, 1) := by decide +kernel
theorem d_R_triangles_50 : decode b_R_triangles 50 = .ok (.getfield 7, 3) := by decide +kernel
theorem d_R_triangles_53 : decode b_R_triangles 53 = .ok (.iload_n 1, 1) := by decide +kernel
theorem d_R_triangles_54 : decode b_R_triangles 54 = .ok (.iaload, 1) := by decide +kernel
theorem d_R_triangles_55 : decode b_R_triangles 55 = .ok (.if_icmp .ge 117, 3) := by decide +kernel
theorem d_R_triangles_58 : decode b_R_triangles 58 = .ok (.iload 4, 2) := by decide +kernel
theorem d_R_triangles_60 : decode b_R_triangles 60 = .ok (.iconst 1, 1) := by decide +kernel
theorem d_R_triangles_61 : decode b_R_triangles 61 = .ok (.iadd, 1) := by decide +kernel
theorem d_R_triangles_62 : decode b_R_triangles 62 = .ok (.istore 5, 2) := by decide +kernel
theorem d_R_triangles_64 : decode b_R_triangles 64 = .ok (.iload 5, 2) := by decide +kernel
theorem d_R_triangles_66 : decode b_R_triangles 66 = .ok (.aload_n 0, 1) := by decide +kernel
theorem d_R_triangles_67 : decode b_R_triangles 67 = .ok (.getfield 7, 3) := by decide +kernel
theorem d_R_triangles_70 : decode b_R_triangles 70 = .ok (.iload_n 1, 1) := by decide +kernel
theorem d_R_triangles_71 : decode b_R_triangles 71 = .ok (.iaload, 1) := by decide +kernel
theorem d_R_triangles_72 : decode b_R_triangles 72 = .ok (.if_icmp .ge 94, 3) := by decide +kernel
theorem d_R_triangles_75 : decode b_R_triangles 75 = .ok (.iload 5, 2) := by decide +kernel
theorem d_R_triangles_77 : decode b_R_triangles 77 = .ok (.iconst 1, 1) := by decide +kernel
theorem d_R_triangles_78 : decode b_R_triangles 78 = .ok (.iadd, 1) := by decide +kernel
theorem d_R_triangles_79 : decode b_R_triangles 79 = .ok (.istore 6, 2) := by decide +kernel
theorem d_R_triangles_81 : decode b_R_triangles 81 = .ok (.iload 6, 2) := by decide +kernel
theorem d_R_triangles_83 : decode b_R_triangles 83 = .ok (.aload_n 0, 1) := by decide +kernel
theorem d_R_triangles_84 : decode b_R_triangles 84 = .ok (.getfield 7, 3) := by decide +kernel
theorem d_R_triangles_87 : decode b_R_triangles 87 = .ok (.iload_n 1, 1) := by decide +kernel
theorem d_R_triangles_88 : decode b_R_triangles 88 = .ok (.iaload, 1) := by decide +kernel
theorem d_R_triangles_89 : decode b_R_triangles 89 = .ok (.if_icmp .ge 71, 3) := by decide +kernel
theorem d_R_triangles_92 : decode b_R_triangles 92 = .ok (.iload_n 2, 1) := by decide +kernel
theorem d_R_triangles_93 : decode b_R_triangles 93 = .ok (.aload_n 0, 1) := by decide +kernel
theorem d_R_triangles_94 : decode b_R_triangles 94 = .ok (.getfield 16, 3) := by decide +kernel
theorem d_R_triangles_97 : decode b_R_triangles 97 = .ok (.iload_n 3, 1) := by decide +kernel
theorem d_R_triangles_98 : decode b_R_triangles 98 = .ok (.bipush 8, 2) := by decide +kernel
theorem d_R_triangles_100 : decode b_R_triangles 100 = .ok (.iload 5, 2) := by decide +kernel
theorem d_R_triangles_102 : decode b_R_triangles 102 = .ok (.imul, 1) := by decide +kernel
theorem d_R_triangles_103 : decode b_R_triangles 103 = .ok (.iadd, 1) := by decide +kernel
theorem d_R_triangles_104 : decode b_R_triangles 104 = .ok (.iload 4, 2) := by decide +kernel
theorem d_R_triangles_106 : decode b_R_triangles 106 = .ok (.iadd, 1) := by decide +kernel
theorem d_R_triangles_107 : decode b_R_triangles 107 = .ok (.baload, 1) := by decide +kernel
theorem d_R_triangles_108 : decode b_R_triangles 108 = .ok (.ifCond .eq 43, 3) := by decide +kernel
theorem d_R_triangles_111 : decode b_R_triangles 111 = .ok (.aload_n 0, 1) := by decide +kernel
theorem d_R_triangles_112 : decode b_R_triangles 112 = .ok (.getfield 16, 3) := by decide +kernel
theorem d_R_triangles_115 : decode b_R_triangles 115 = .ok (.iload_n 3, 1) := by decide +kernel
theorem d_R_triangles_116 : decode b_R_triangles 116 = .ok (.bipush 8, 2) := by decide +kernel
theorem d_R_triangles_118 : decode b_R_triangles 118 = .ok (.iload 6, 2) := by decide +kernel
theorem d_R_triangles_120 : decode b_R_triangles 120 = .ok (.imul, 1) := by decide +kernel
theorem d_R_triangles_121 : decode b_R_triangles 121 = .ok (.iadd, 1) := by decide +kernel
theorem d_R_triangles_122 : decode b_R_triangles 122 = .ok (.iload 4, 2) := by decide +kernel
theorem d_R_triangles_124 : decode b_R_triangles 124 = .ok (.iadd, 1) := by decide +kernel
theorem d_R_triangles_125 : decode b_R_triangles 125 = .ok (.baload, 1) := by decide +kernel
theorem d_R_triangles_126 : decode b_R_triangles 126 = .ok (.ifCond .eq 25, 3) := by decide +kernel
theorem d_R_triangles_129 : decode b_R_triangles 129 = .ok (.aload_n 0, 1) := by decide +kernel
theorem d_R_triangles_130 : decode b_R_triangles 130 = .ok (.getfield 16, 3) := by decide +kernel
theorem d_R_triangles_133 : decode b_R_triangles 133 = .ok (.iload_n 3, 1) := by decide +kernel
theorem d_R_triangles_134 : decode b_R_triangles 134 = .ok (.bipush 8, 2) := by decide +kernel
theorem d_R_triangles_136 : decode b_R_triangles 136 = .ok (.iload 6, 2) := by decide +kernel
theorem d_R_triangles_138 : decode b_R_triangles 138 = .ok (.imul, 1) := by decide +kernel
theorem d_R_triangles_139 : decode b_R_triangles 139 = .ok (.iadd, 1) := by decide +kernel
theorem d_R_triangles_140 : decode b_R_triangles 140 = .ok (.iload 5, 2) := by decide +kernel
theorem d_R_triangles_142 : decode b_R_triangles 142 = .ok (.iadd, 1) := by decide +kernel
theorem d_R_triangles_143 : decode b_R_triangles 143 = .ok (.baload, 1) := by decide +kernel
theorem d_R_triangles_144 : decode b_R_triangles 144 = .ok (.ifCond .eq 7, 3) := by decide +kernel
theorem d_R_triangles_147 : decode b_R_triangles 147 = .ok (.iconst 1, 1) := by decide +kernel
theorem d_R_triangles_148 : decode b_R_triangles 148 = .ok (.goto 4, 3) := by decide +kernel
theorem d_R_triangles_151 : decode b_R_triangles 151 = .ok (.iconst 0, 1) := by decide +kernel
theorem d_R_triangles_152 : decode b_R_triangles 152 = .ok (.iadd, 1) := by decide +kernel
theorem d_R_triangles_153 : decode b_R_triangles 153 = .ok (.istore_n 2, 1) := by decide +kernel
theorem d_R_triangles_154 : decode b_R_triangles 154 = .ok (.iinc 6 1, 3) := by decide +kernel
theorem d_R_triangles_157 : decode b_R_triangles 157 = .ok (.goto (-76), 3) := by decide +kernel
theorem d_R_triangles_160 : decode b_R_triangles 160 = .ok (.iinc 5 1, 3) := by decide +kernel
theorem d_R_triangles_163 : decode b_R_triangles 163 = .ok (.goto (-99), 3) := by decide +kernel
theorem d_R_triangles_166 : decode b_R_triangles 166 = .ok (.iinc 4 1, 3) := by decide +kernel
theorem d_R_triangles_169 : decode b_R_triangles 169 = .ok (.goto (-122), 3) := by decide +kernel
theorem d_R_triangles_172 : decode b_R_triangles 172 = .ok (.iload_n 2, 1) := by decide +kernel
theorem d_R_triangles_173 : decode b_R_triangles 173 = .ok (.ireturn, 1) := by decide +kernel
theorem d_R_components_0 : decode b_R_components 0 = .ok (.aload_n 0, 1) := by decide +kernel
theorem d_R_components_1 : decode b_R_components 1 = .ok (.iload_n 1, 1) := by decide +kernel
theorem d_R_components_2 : decode b_R_components 2 = .ok (.invokestatic 38, 3) := by decide +kernel
theorem d_R_components_5 : decode b_R_components 5 = .ok (.ifCond .eq 10, 3) := by decide +kernel
theorem d_R_components_8 : decode b_R_components 8 = .ok (.iload_n 2, 1) := by decide +kernel
theorem d_R_components_9 : decode b_R_components 9 = .ok (.invokestatic 38, 3) := by decide +kernel
theorem d_R_components_12 : decode b_R_components 12 = .ok (.ifCond .ne 7, 3) := by decide +kernel
theorem d_R_components_15 : decode b_R_components 15 = .ok (.iconst 1, 1) := by decide +kernel
theorem d_R_components_16 : decode b_R_components 16 = .ok (.goto 16, 3) := by decide +kernel
theorem d_R_components_19 : decode b_R_components 19 = .ok (.aload_n 0, 1) := by decide +kernel
theorem d_R_components_20 : decode b_R_components 20 = .ok (.iload_n 2, 1) := by decide +kernel
theorem d_R_components_21 : decode b_R_components 21 = .ok (.invokevirtual 105, 3) := by decide +kernel
theorem d_R_components_24 : decode b_R_components 24 = .ok (.ifCond .ne 7, 3) := by decide +kernel
theorem d_R_components_27 : decode b_R_components 27 = .ok (.iconst 2, 1) := by decide +kernel
theorem d_R_components_28 : decode b_R_components 28 = .ok (.goto 4, 3) := by decide +kernel
theorem d_R_components_31 : decode b_R_components 31 = .ok (.iconst 0, 1) := by decide +kernel
theorem d_R_components_32 : decode b_R_components 32 = .ok (.putfield 30, 3) := by decide +kernel
theorem d_R_components_35 : decode b_R_components 35 = .ok (.aload_n 0, 1) := by decide +kernel
theorem d_R_components_36 : decode b_R_components 36 = .ok (.getfield 30, 3) := by decide +kernel
theorem d_R_components_39 : decode b_R_components 39 = .ok (.ifCond .le 5, 3) := by decide +kernel
theorem d_R_components_42 : decode b_R_components 42 = .ok (.iconst 0, 1) := by decide +kernel
theorem d_R_components_43 : decode b_R_components 43 = .ok (.ireturn, 1) := by decide +kernel
theorem d_R_components_44 : decode b_R_components 44 = .ok (.aload_n 0, 1) := by decide +kernel
theorem d_R_components_45 : decode b_R_components 45 = .ok (.iconst 1, 1) := by decide +kernel
theorem d_R_components_46 : decode b_R_components 46 = .ok (.aload_n 0, 1) := by decide +kernel
theorem d_R_components_47 : decode b_R_components 47 = .ok (.getfield 13, 3) := by decide +kernel
theorem d_R_components_50 : decode b_R_components 50 = .ok (.iload_n 2, 1) := by decide +kernel
theorem d_R_components_51 : decode b_R_components 51 = .ok (.iaload, 1) := by decide +kernel
theorem d_R_components_52 : decode b_R_components 52 = .ok (.invokevirtual 82, 3) := by decide +kernel
theorem d_R_components_55 : decode b_R_components 55 = .ok (.iconst 0, 1) := by decide +kernel
theorem d_R_components_56 : decode b_R_components 56 = .ok (.istore_n 3, 1) := by decide +kernel
theorem d_R_components_57 : decode b_R_components 57 = .ok (.iload_n 3, 1) := by decide +kernel
theorem d_R_components_58 : decode b_R_components 58 = .ok (.aload_n 0, 1) := by decide +kernel
theorem d_R_components_59 : decode b_R_components 59 = .ok (.getfield 65, 3) := by decide +kernel
theorem d_R_components_62 : decode b_R_components 62 = .ok (.if_icmp .ge 17, 3) := by decide +kernel
theorem d_R_components_65 : decode b_R_components 65 = .ok (.aload_n 0, 1) := by decide +kernel
theorem d_R_components_66 : decode b_R_components 66 = .ok (.iconst 0, 1) := by decide +kernel
theorem d_R_components_67 : decode b_R_components 67 = .ok (.iload_n 3, 1) := by decide +kernel
theorem d_R_components_68 : decode b_R_components 68 = .ok (.iload_n 3, 1) := by decide +kernel
theorem d_R_components_69 : decode b_R_components 69 = .ok (.i2l, 1) := by decide +kernel
theorem d_R_components_70 : decode b_R_components 70 = .ok (.invokevirtual 75, 3) := by decide +kernel
theorem d_R_components_73 : decode b_R_components 73 = .ok (.iinc 3 1, 3) := by decide +kernel
theorem d_R_components_76 : decode b_R_components 76 = .ok (.goto (-19), 3) := by decide +kernel
theorem d_R_components_79 : decode b_R_components 79 = .ok (.iconst 0, 1) := by decide +kernel
theorem d_R_components_80 : decode b_R_components 80 = .ok (.istore_n 3, 1) := by decide +kernel
theorem d_R_components_81 : decode b_R_components 81 = .ok (.iload_n 3, 1) := by decide +kernel
theorem d_R_components_82 : decode b_R_components 82 = .ok (.bipush 8, 2) := by decide +kernel
theorem d_R_components_84 : decode b_R_components 84 = .ok (.if_icmp .ge 121, 3) := by decide +kernel
theorem d_R_components_87 : decode b_R_components 87 = .ok (.iconst 0, 1) := by decide +kernel
theorem d_R_components_88 : decode b_R_components 88 = .ok (.istore 4, 2) := by decide +kernel
theorem d_R_components_90 : decode b_R_components 90 = .ok (.iload 4, 2) := by decide +kernel
theorem d_R_components_92 : decode b_R_components 92 = .ok (.aload_n 0, 1) := by decide +kernel
theorem d_R_components_93 : decode b_R_components 93 = .ok (.getfield 65, 3) := by decide +kernel
theorem d_R_components_96 : decode b_R_components 96 = .ok (.if_icmp .ge 103, 3) := by decide +kernel
theorem d_R_components_99 : decode b_R_components 99 = .ok (.iconst 0, 1) := by decide +kernel
theorem d_R_components_100 : decode b_R_components 100 = .ok (.istore 5, 2) := by decide +kernel
theorem d_R_components_102 : decode b_R_components 102 = .ok (.iload 5, 2) := by decide +kernel
theorem d_R_components_104 : decode b_R_components 104 = .ok (.aload_n 0, 1) := by decide +kernel
theorem d_R_components_105 : decode b_R_components 105 = .ok (.getfield 65, 3) := by decide +kernel
theorem d_R_components_108 : decode b_R_components 108 = .ok (.if_icmp .ge 85, 3) := by decide +kernel
theorem d_R_components_111 : decode b_R_components 111 = .ok (.aload_n 0, 1) := by decide +kernel
theorem d_R_components_112 : decode b_R_components 112 = .ok (.getfield 16, 3) := by decide +kernel
theorem d_R_components_115 : decode b_R_components 115 = .ok (.bipush 64, 2) := by decide +kernel
theorem d_R_components_117 : decode b_R_components 117 = .ok (.iload_n 2, 1) := by decide +kernel
theorem d_R_components_118 : decode b_R_components 118 = .ok (.imul, 1) := by decide +kernel
theorem d_R_components_119 : decode b_R_components 119 = .ok (.bipush 8, 2) := by decide +kernel
theorem d_R_components_121 : decode b_R_components 121 = .ok (.iload 4, 2) := by decide +kernel
theorem d_R_components_123 : decode b_R_components 123 = .ok (.imul, 1) := by decide +kernel
theorem d_R_components_124 : decode b_R_components 124 = .ok (.iadd, 1) := by decide +kernel
theorem d_R_components_125 : decode b_R_components 125 = .ok (.iload 5, 2) := by decide +kernel
theorem d_R_components_127 : decode b_R_components 127 = .ok (.iadd, 1) := by decide +kernel
theorem d_R_components_128 : decode b_R_components 128 = .ok (.baload, 1) := by decide +kernel
theorem d_R_components_129 : decode b_R_components 129 = .ok (.ifCond .eq 58, 3) := by decide +kernel
theorem d_R_components_132 : decode b_R_components 132 = .ok (.aload_n 0, 1) := by decide +kernel
theorem d_R_components_133 : decode b_R_components 133 = .ok (.getfield 27, 3) := by decide +kernel
theorem d_R_components_136 : decode b_R_components 136 = .ok (.iload 4, 2) := by decide +kernel
theorem d_R_components_138 : decode b_R_components 138 = .ok (.laload, 1) := by decide +kernel
theorem d_R_components_139 : decode b_R_components 139 = .ok (.aload_n 0, 1) := by decide +kernel
theorem d_R_components_140 : decode b_R_components 140 = .ok (.getfield 27, 3) := by decide +kernel
theorem d_R_components_143 : decode b_R_components 143 = .ok (.iload 5, 2) := by decide +kernel
theorem d_R_components_145 : decode b_R_components 145 = .ok (.laload, 1) := by decide +kernel
theorem d_R_components_146 : decode b_R_components 146 = .ok (.lcmp, 1) := by decide +kernel
theorem d_R_components_147 : decode b_R_components 147 = .ok (.ifCond .ge 13, 3) := by decide +kernel
theorem d_R_components_150 : decode b_R_components 150 = .ok (.aload_n 0, 1) := by decide +kernel
theorem d_R_components_151 : decode b_R_components 151 = .ok (.getfield 27, 3) := by decide +kernel
theorem d_R_components_154 : decode b_R_components 154 = .ok (.iload 4, 2) := by decide +kernel
theorem d_R_components_156 : decode b_R_components 156 = .ok (.laload, 1) := by decide +kernel
theorem d_R_components_157 : decode b_R_components 157 = .ok (.goto 10, 3) := by decide +kernel
theorem d_R_components_160 : decode b_R_components 160 = .ok (.aload_n 0, 1) := by decide +kernel
theorem d_R_components_161 : decode b_R_components 161 = .ok (.getfield 27, 3) := by decide +kernel
theorem d_R_components_164 : decode b_R_components 164 = .ok (.iload 5, 2) := by decide +kernel
theorem d_R_components_166 : decode b_R_components 166 = .ok (.laload, 1) := by decide +kernel
theorem d_R_components_167 : decode b_R_components 167 = .ok (.lstore 6, 2) := by decide +kernel
theorem d_R_components_169 : decode b_R_components 169 = .ok (.aload_n 0, 1) := by decide +kernel
theorem d_R_components_170 : decode b_R_components 170 = .ok (.getfield 27, 3) := by decide +kernel
theorem d_R_components_173 : decode b_R_components 173 = .ok (.iload 4, 2) := by decide +kernel
theorem d_R_components_175 : decode b_R_components 175 = .ok (.lload 6, 2) := by decide +kernel
theorem d_R_components_177 : decode b_R_components 177 = .ok (.lastore, 1) := by decide +kernel
theorem d_R_components_178 : decode b_R_components 178 = .ok (.aload_n 0, 1) := by decide +kernel
theorem d_R_components_179 : decode b_R_components 179 = .ok (.getfield 27, 3) := by decide +kernel
theorem d_R_components_182 : decode b_R_components 182 = .ok (.iload 5, 2) := by decide +kernel
theorem d_R_components_184 : decode b_R_components 184 = .ok (.lload 6, 2) := by decide +kernel
theorem d_R_components_186 : decode b_R_components 186 = .ok (.lastore, 1) := by decide +kernel
theorem d_R_components_187 : decode b_R_components 187 = .ok (.iinc 5 1, 3) := by decide +kernel
theorem d_R_components_190 : decode b_R_components 190 = .ok (.goto (-88), 3) := by decide +kernel
theorem d_R_components_193 : decode b_R_components 193 = .ok (.iinc 4 1, 3) := by decide +kernel
theorem d_R_components_196 : decode b_R_components 196 = .ok (.goto (-106), 3) := by decide +kernel
theorem d_R_components_199 : decode b_R_components 199 = .ok (.iinc 3 1, 3) := by decide +kernel
theorem d_R_components_202 : decode b_R_components 202 = .ok (.goto (-121), 3) := by decide +kernel
theorem d_R_components_205 : decode b_R_components 205 = .ok (.aload_n 0, 1) := by decide +kernel
theorem d_R_components_206 : decode b_R_components 206 = .ok (.iload_n 1, 1) := by decide +kernel
theorem d_R_components_207 : decode b_R_components 207 = .ok (.iconst (-1), 1) := by decide +kernel
theorem d_R_components_208 : decode b_R_components 208 = .ok (.invokevirtual 93, 3) := by decide +kernel
theorem d_R_components_211 : decode b_R_components 211 = .ok (.ireturn, 1) := by decide +kernel
