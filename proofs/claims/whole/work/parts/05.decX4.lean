theorem dX4_init_0 : decode cX4_init 0 = .ok (.aload_n 0, 1) := by decide +kernel
theorem dX4_init_1 : decode cX4_init 1 = .ok (.invokespecial 7, 3) := by decide +kernel
theorem dX4_init_4 : decode cX4_init 4 = .ok (.aload_n 0, 1) := by decide +kernel
theorem dX4_init_5 : decode cX4_init 5 = .ok (.bipush 64, 2) := by decide +kernel
theorem dX4_init_7 : decode cX4_init 7 = .ok (.newarray .int, 2) := by decide +kernel
theorem dX4_init_9 : decode cX4_init 9 = .ok (.putfield 13, 3) := by decide +kernel
theorem dX4_init_12 : decode cX4_init 12 = .ok (.aload_n 0, 1) := by decide +kernel
theorem dX4_init_13 : decode cX4_init 13 = .ok (.bipush 32, 2) := by decide +kernel
theorem dX4_init_15 : decode cX4_init 15 = .ok (.newarray .int, 2) := by decide +kernel
theorem dX4_init_17 : decode cX4_init 17 = .ok (.putfield 17, 3) := by decide +kernel
theorem dX4_init_20 : decode cX4_init 20 = .ok (.aload_n 0, 1) := by decide +kernel
theorem dX4_init_21 : decode cX4_init 21 = .ok (.bipush 32, 2) := by decide +kernel
theorem dX4_init_23 : decode cX4_init 23 = .ok (.newarray .int, 2) := by decide +kernel
theorem dX4_init_25 : decode cX4_init 25 = .ok (.putfield 20, 3) := by decide +kernel
theorem dX4_init_28 : decode cX4_init 28 = .ok (.aload_n 0, 1) := by decide +kernel
theorem dX4_init_29 : decode cX4_init 29 = .ok (.bipush 32, 2) := by decide +kernel
theorem dX4_init_31 : decode cX4_init 31 = .ok (.newarray .int, 2) := by decide +kernel
theorem dX4_init_33 : decode cX4_init 33 = .ok (.putfield 23, 3) := by decide +kernel
theorem dX4_init_36 : decode cX4_init 36 = .ok (.aload_n 0, 1) := by decide +kernel
theorem dX4_init_37 : decode cX4_init 37 = .ok (.bipush 32, 2) := by decide +kernel
theorem dX4_init_39 : decode cX4_init 39 = .ok (.newarray .int, 2) := by decide +kernel
theorem dX4_init_41 : decode cX4_init 41 = .ok (.putfield 26, 3) := by decide +kernel
theorem dX4_init_44 : decode cX4_init 44 = .ok (.aload_n 0, 1) := by decide +kernel
theorem dX4_init_45 : decode cX4_init 45 = .ok (.bipush 32, 2) := by decide +kernel
theorem dX4_init_47 : decode cX4_init 47 = .ok (.newarray .int, 2) := by decide +kernel
theorem dX4_init_49 : decode cX4_init 49 = .ok (.putfield 29, 3) := by decide +kernel
theorem dX4_init_52 : decode cX4_init 52 = .ok (.aload_n 0, 1) := by decide +kernel
theorem dX4_init_53 : decode cX4_init 53 = .ok (.sipush 251, 3) := by decide +kernel
theorem dX4_init_56 : decode cX4_init 56 = .ok (.newarray .int, 2) := by decide +kernel
theorem dX4_init_58 : decode cX4_init 58 = .ok (.putfield 32, 3) := by decide +kernel
theorem dX4_init_61 : decode cX4_init 61 = .ok (.aload_n 0, 1) := by decide +kernel
theorem dX4_init_62 : decode cX4_init 62 = .ok (.sipush 251, 3) := by decide +kernel
theorem dX4_init_65 : decode cX4_init 65 = .ok (.newarray .int, 2) := by decide +kernel
theorem dX4_init_67 : decode cX4_init 67 = .ok (.putfield 35, 3) := by decide +kernel
theorem dX4_init_70 : decode cX4_init 70 = .ok (.aload_n 0, 1) := by decide +kernel
theorem dX4_init_71 : decode cX4_init 71 = .ok (.sipush 200, 3) := by decide +kernel
theorem dX4_init_74 : decode cX4_init 74 = .ok (.newarray .byte, 2) := by decide +kernel
theorem dX4_init_76 : decode cX4_init 76 = .ok (.putfield 38, 3) := by decide +kernel
theorem dX4_init_79 : decode cX4_init 79 = .ok (.aload_n 0, 1) := by decide +kernel
theorem dX4_init_80 : decode cX4_init 80 = .ok (.iconst (-1), 1) := by decide +kernel
theorem dX4_init_81 : decode cX4_init 81 = .ok (.putfield 42, 3) := by decide +kernel
theorem dX4_init_84 : decode cX4_init 84 = .ok (.return_, 1) := by decide +kernel
theorem dX4_withRow_0 : decode cX4_withRow 0 = .ok (.iload_n 0, 1) := by decide +kernel
theorem dX4_withRow_1 : decode cX4_withRow 1 = .ok (.iconst 1, 1) := by decide +kernel
theorem dX4_withRow_2 : decode cX4_withRow 2 = .ok (.iconst 3, 1) := by decide +kernel
theorem dX4_withRow_3 : decode cX4_withRow 3 = .ok (.iload_n 1, 1) := by decide +kernel
theorem dX4_withRow_4 : decode cX4_withRow 4 = .ok (.imul, 1) := by decide +kernel
theorem dX4_withRow_5 : decode cX4_withRow 5 = .ok (.ishl, 1) := by decide +kernel
theorem dX4_withRow_6 : decode cX4_withRow 6 = .ok (.iadd, 1) := by decide +kernel
theorem dX4_withRow_7 : decode cX4_withRow 7 = .ok (.ireturn, 1) := by decide +kernel
theorem dX4_withTerm_0 : decode cX4_withTerm 0 = .ok (.iload_n 0, 1) := by decide +kernel
theorem dX4_withTerm_1 : decode cX4_withTerm 1 = .ok (.iload_n 2, 1) := by decide +kernel
theorem dX4_withTerm_2 : decode cX4_withTerm 2 = .ok (.bipush 15, 2) := by decide +kernel
theorem dX4_withTerm_4 : decode cX4_withTerm 4 = .ok (.iconst 3, 1) := by decide +kernel
theorem dX4_withTerm_5 : decode cX4_withTerm 5 = .ok (.iload_n 1, 1) := by decide +kernel
theorem dX4_withTerm_6 : decode cX4_withTerm 6 = .ok (.imul, 1) := by decide +kernel
theorem dX4_withTerm_7 : decode cX4_withTerm 7 = .ok (.iadd, 1) := by decide +kernel
theorem dX4_withTerm_8 : decode cX4_withTerm 8 = .ok (.ishl, 1) := by decide +kernel
theorem dX4_withTerm_9 : decode cX4_withTerm 9 = .ok (.ior, 1) := by decide +kernel
theorem dX4_withTerm_10 : decode cX4_withTerm 10 = .ok (.ireturn, 1) := by decide +kernel
theorem dX4_fill_0 : decode cX4_fill 0 = .ok (.aload_n 0, 1) := by decide +kernel
theorem dX4_fill_1 : decode cX4_fill 1 = .ok (.iconst 0, 1) := by decide +kernel
theorem dX4_fill_2 : decode cX4_fill 2 = .ok (.putfield 46, 3) := by decide +kernel
theorem dX4_fill_5 : decode cX4_fill 5 = .ok (.aload_n 0, 1) := by decide +kernel
theorem dX4_fill_6 : decode cX4_fill 6 = .ok (.iconst (-1), 1) := by decide +kernel
theorem dX4_fill_7 : decode cX4_fill 7 = .ok (.putfield 42, 3) := by decide +kernel
theorem dX4_fill_10 : decode cX4_fill 10 = .ok (.aload_n 0, 1) := by decide +kernel
theorem dX4_fill_11 : decode cX4_fill 11 = .ok (.getfield 13, 3) := by decide +kernel
theorem dX4_fill_14 : decode cX4_fill 14 = .ok (.iconst (-1), 1) := by decide +kernel
theorem dX4_fill_15 : decode cX4_fill 15 = .ok (.invokestatic 49, 3) := by decide +kernel
theorem dX4_fill_18 : decode cX4_fill 18 = .ok (.aload_n 0, 1) := by decide +kernel
theorem dX4_fill_19 : decode cX4_fill 19 = .ok (.getfield 29, 3) := by decide +kernel
theorem dX4_fill_22 : decode cX4_fill 22 = .ok (.arraylength, 1) := by decide +kernel
theorem dX4_fill_23 : decode cX4_fill 23 = .ok (.aload_n 3, 1) := by decide +kernel
theorem dX4_fill_24 : decode cX4_fill 24 = .ok (.getfield 55, 3) := by decide +kernel
theorem dX4_fill_27 : decode cX4_fill 27 = .ok (.if_icmp .ge 15, 3) := by decide +kernel
theorem dX4_fill_30 : decode cX4_fill 30 = .ok (.aload_n 0, 1) := by decide +kernel
theorem dX4_fill_31 : decode cX4_fill 31 = .ok (.iconst 2, 1) := by decide +kernel
theorem dX4_fill_32 : decode cX4_fill 32 = .ok (.aload_n 3, 1) := by decide +kernel
theorem dX4_fill_33 : decode cX4_fill 33 = .ok (.getfield 55, 3) := by decide +kernel
theorem dX4_fill_36 : decode cX4_fill 36 = .ok (.imul, 1) := by decide +kernel
theorem dX4_fill_37 : decode cX4_fill 37 = .ok (.newarray .int, 2) := by decide +kernel
theorem dX4_fill_39 : decode cX4_fill 39 = .ok (.putfield 29, 3) := by decide +kernel
theorem dX4_fill_42 : decode cX4_fill 42 = .ok (.iconst 0, 1) := by decide +kernel
theorem dX4_fill_43 : decode cX4_fill 43 = .ok (.istore 5, 2) := by decide +kernel
theorem dX4_fill_45 : decode cX4_fill 45 = .ok (.iload 5, 2) := by decide +kernel
theorem dX4_fill_47 : decode cX4_fill 47 = .ok (.aload_n 3, 1) := by decide +kernel
theorem dX4_fill_48 : decode cX4_fill 48 = .ok (.getfield 55, 3) := by decide +kernel
theorem dX4_fill_51 : decode cX4_fill 51 = .ok (.if_icmp .ge 68, 3) := by decide +kernel
theorem dX4_fill_54 : decode cX4_fill 54 = .ok (.aload_n 1, 1) := by decide +kernel
theorem dX4_fill_55 : decode cX4_fill 55 = .ok (.aload_n 2, 1) := by decide +kernel
theorem dX4_fill_56 : decode cX4_fill 56 = .ok (.aload_n 3, 1) := by decide +kernel
theorem dX4_fill_57 : decode cX4_fill 57 = .ok (.iload 5, 2) := by decide +kernel
theorem dX4_fill_59 : decode cX4_fill 59 = .ok (.invokevirtual 60, 3) := by decide +kernel
theorem dX4_fill_62 : decode cX4_fill 62 = .ok (.iload 4, 2) := by decide +kernel
theorem dX4_fill_64 : decode cX4_fill 64 = .ok (.invokestatic 64, 3) := by decide +kernel
theorem dX4_fill_67 : decode cX4_fill 67 = .ok (.istore 6, 2) := by decide +kernel
theorem dX4_fill_69 : decode cX4_fill 69 = .ok (.aload_n 0, 1) := by decide +kernel
theorem dX4_fill_70 : decode cX4_fill 70 = .ok (.iload 6, 2) := by decide +kernel
theorem dX4_fill_72 : decode cX4_fill 72 = .ok (.invokevirtual 68, 3) := by decide +kernel
theorem dX4_fill_75 : decode cX4_fill 75 = .ok (.istore 7, 2) := by decide +kernel
theorem dX4_fill_77 : decode cX4_fill 77 = .ok (.iload 7, 2) := by decide +kernel
theorem dX4_fill_79 : decode cX4_fill 79 = .ok (.iconst (-1), 1) := by decide +kernel
theorem dX4_fill_80 : decode cX4_fill 80 = .ok (.if_icmp .ne 13, 3) := by decide +kernel
theorem dX4_fill_83 : decode cX4_fill 83 = .ok (.aload_n 0, 1) := by decide +kernel
theorem dX4_fill_84 : decode cX4_fill 84 = .ok (.iload 6, 2) := by decide +kernel
theorem dX4_fill_86 : decode cX4_fill 86 = .ok (.iload 5, 2) := by decide +kernel
theorem dX4_fill_88 : decode cX4_fill 88 = .ok (.invokevirtual 71, 3) := by decide +kernel
theorem dX4_fill_91 : decode cX4_fill 91 = .ok (.istore 7, 2) := by decide +kernel
theorem dX4_fill_93 : decode cX4_fill 93 = .ok (.aload_n 0, 1) := by decide +kernel
theorem dX4_fill_94 : decode cX4_fill 94 = .ok (.getfield 23, 3) := by decide +kernel
theorem dX4_fill_97 : decode cX4_fill 97 = .ok (.iload 7, 2) := by decide +kernel
theorem dX4_fill_99 : decode cX4_fill 99 = .ok (.dup2, 1) := by decide +kernel
theorem dX4_fill_100 : decode cX4_fill 100 = .ok (.iaload, 1) := by decide +kernel
theorem dX4_fill_101 : decode cX4_fill 101 = .ok (.iconst 1, 1) := by decide +kernel
theorem dX4_fill_102 : decode cX4_fill 102 = .ok (.iadd, 1) := by decide +kernel
theorem dX4_fill_103 : decode cX4_fill 103 = .ok (.iastore, 1) := by decide +kernel
theorem dX4_fill_104 : decode cX4_fill 104 = .ok (.aload_n 0, 1) := by decide +kernel
theorem dX4_fill_105 : decode cX4_fill 105 = .ok (.getfield 29, 3) := by decide +kernel
theorem dX4_fill_108 : decode cX4_fill 108 = .ok (.iload 5, 2) := by decide +kernel
theorem dX4_fill_110 : decode cX4_fill 110 = .ok (.iload 7, 2) := by decide +kernel
theorem dX4_fill_112 : decode cX4_fill 112 = .ok (.iastore, 1) := by decide +kernel
theorem dX4_fill_113 : decode cX4_fill 113 = .ok (.iinc 5 1, 3) := by decide +kernel
theorem dX4_fill_116 : decode cX4_fill 116 = .ok (.goto (-71), 3) := by decide +kernel
theorem dX4_fill_119 : decode cX4_fill 119 = .ok (.return_, 1) := by decide +kernel
theorem dX4_shapeOf_0 : decode cX4_shapeOf 0 = .ok (.iconst 0, 1) := by decide +kernel
theorem dX4_shapeOf_1 : decode cX4_shapeOf 1 = .ok (.istore 4, 2) := by decide +kernel
theorem dX4_shapeOf_3 : decode cX4_shapeOf 3 = .ok (.iload_n 2, 1) := by decide +kernel
theorem dX4_shapeOf_4 : decode cX4_shapeOf 4 = .ok (.istore 5, 2) := by decide +kernel
theorem dX4_shapeOf_6 : decode cX4_shapeOf 6 = .ok (.iload_n 2, 1) := by decide +kernel
theorem dX4_shapeOf_7 : decode cX4_shapeOf 7 = .ok (.invokestatic 75, 3) := by decide +kernel
theorem dX4_shapeOf_10 : decode cX4_shapeOf 10 = .ok (.istore 6, 2) := by decide +kernel
theorem dX4_shapeOf_12 : decode cX4_shapeOf 12 = .ok (.iload 6, 2) := by decide +kernel
theorem dX4_shapeOf_14 : decode cX4_shapeOf 14 = .ok (.ifCond .le 35, 3) := by decide +kernel
theorem dX4_shapeOf_17 : decode cX4_shapeOf 17 = .ok (.iload 4, 2) := by decide +kernel
theorem dX4_shapeOf_19 : decode cX4_shapeOf 19 = .ok (.aload_n 0, 1) := by decide +kernel
theorem dX4_shapeOf_20 : decode cX4_shapeOf 20 = .ok (.getfield 80, 3) := by decide +kernel
theorem dX4_shapeOf_23 : decode cX4_shapeOf 23 = .ok (.iload 5, 2) := by decide +kernel
theorem dX4_shapeOf_25 : decode cX4_shapeOf 25 = .ok (.invokestatic 83, 3) := by decide +kernel
theorem dX4_shapeOf_28 : decode cX4_shapeOf 28 = .ok (.iaload, 1) := by decide +kernel
theorem dX4_shapeOf_29 : decode cX4_shapeOf 29 = .ok (.invokestatic 86, 3) := by decide +kernel
theorem dX4_shapeOf_32 : decode cX4_shapeOf 32 = .ok (.istore 4, 2) := by decide +kernel
theorem dX4_shapeOf_34 : decode cX4_shapeOf 34 = .ok (.iload 5, 2) := by decide +kernel
theorem dX4_shapeOf_36 : decode cX4_shapeOf 36 = .ok (.iload 5, 2) := by decide +kernel
theorem dX4_shapeOf_38 : decode cX4_shapeOf 38 = .ok (.iconst 1, 1) := by decide +kernel
theorem dX4_shapeOf_39 : decode cX4_shapeOf 39 = .ok (.isub, 1) := by decide +kernel
theorem dX4_shapeOf_40 : decode cX4_shapeOf 40 = .ok (.iand, 1) := by decide +kernel
theorem dX4_shapeOf_41 : decode cX4_shapeOf 41 = .ok (.istore 5, 2) := by decide +kernel
theorem dX4_shapeOf_43 : decode cX4_shapeOf 43 = .ok (.iinc 6 (-1), 3) := by decide +kernel
theorem dX4_shapeOf_46 : decode cX4_shapeOf 46 = .ok (.goto (-34), 3) := by decide +kernel
theorem dX4_shapeOf_49 : decode cX4_shapeOf 49 = .ok (.iconst 0, 1) := by decide +kernel
theorem dX4_shapeOf_50 : decode cX4_shapeOf 50 = .ok (.istore 6, 2) := by decide +kernel
theorem dX4_shapeOf_52 : decode cX4_shapeOf 52 = .ok (.iload 6, 2) := by decide +kernel
theorem dX4_shapeOf_54 : decode cX4_shapeOf 54 = .ok (.iload_n 3, 1) := by decide +kernel
theorem dX4_shapeOf_55 : decode cX4_shapeOf 55 = .ok (.if_icmp .ge 43, 3) := by decide +kernel
theorem dX4_shapeOf_58 : decode cX4_shapeOf 58 = .ok (.aload_n 1, 1) := by decide +kernel
theorem dX4_shapeOf_59 : decode cX4_shapeOf 59 = .ok (.iload_n 2, 1) := by decide +kernel
theorem dX4_shapeOf_60 : decode cX4_shapeOf 60 = .ok (.iload 6, 2) := by decide +kernel
theorem dX4_shapeOf_62 : decode cX4_shapeOf 62 = .ok (.invokevirtual 89, 3) := by decide +kernel
theorem dX4_shapeOf_65 : decode cX4_shapeOf 65 = .ok (.istore 7, 2) := by decide +kernel
theorem dX4_shapeOf_67 : decode cX4_shapeOf 67 = .ok (.aload_n 0, 1) := by decide +kernel
theorem dX4_shapeOf_68 : decode cX4_shapeOf 68 = .ok (.iload 7, 2) := by decide +kernel
theorem dX4_shapeOf_70 : decode cX4_shapeOf 70 = .ok (.invokevirtual 94, 3) := by decide +kernel
theorem dX4_shapeOf_73 : decode cX4_shapeOf 73 = .ok (.ifCond .eq 19, 3) := by decide +kernel
theorem dX4_shapeOf_76 : decode cX4_shapeOf 76 = .ok (.iload 4, 2) := by decide +kernel
theorem dX4_shapeOf_78 : decode cX4_shapeOf 78 = .ok (.iload 6, 2) := by decide +kernel
theorem dX4_shapeOf_80 : decode cX4_shapeOf 80 = .ok (.aload_n 0, 1) := by decide +kernel
theorem dX4_shapeOf_81 : decode cX4_shapeOf 81 = .ok (.getfield 80, 3) := by decide +kernel
theorem dX4_shapeOf_84 : decode cX4_shapeOf 84 = .ok (.iload 7, 2) := by decide +kernel
theorem dX4_shapeOf_86 : decode cX4_shapeOf 86 = .ok (.iaload, 1) := by decide +kernel
theorem dX4_shapeOf_87 : decode cX4_shapeOf 87 = .ok (.invokestatic 98, 3) := by decide +kernel
theorem dX4_shapeOf_90 : decode cX4_shapeOf 90 = .ok (.istore 4, 2) := by decide +kernel
theorem dX4_shapeOf_92 : decode cX4_shapeOf 92 = .ok (.iinc 6 1, 3) := by decide +kernel
theorem dX4_shapeOf_95 : decode cX4_shapeOf 95 = .ok (.goto (-43), 3) := by decide +kernel
theorem dX4_shapeOf_98 : decode cX4_shapeOf 98 = .ok (.iload 4, 2) := by decide +kernel
theorem dX4_shapeOf_100 : decode cX4_shapeOf 100 = .ok (.ireturn, 1) := by decide +kernel
theorem dX4_find_0 : decode cX4_find 0 = .ok (.aload_n 0, 1) := by decide +kernel
theorem dX4_find_1 : decode cX4_find 1 = .ok (.getfield 13, 3) := by decide +kernel
theorem dX4_find_4 : decode cX4_find 4 = .ok (.iload_n 1, 1) := by decide +kernel
theorem dX4_find_5 : decode cX4_find 5 = .ok (.invokestatic 102, 3) := by decide +kernel
theorem dX4_find_8 : decode cX4_find 8 = .ok (.iaload, 1) := by decide +kernel
theorem dX4_find_9 : decode cX4_find 9 = .ok (.istore_n 2, 1) := by decide +kernel
theorem dX4_find_10 : decode cX4_find 10 = .ok (.iconst 0, 1) := by decide +kernel
theorem dX4_find_11 : decode cX4_find 11 = .ok (.istore_n 3, 1) := by decide +kernel
theorem dX4_find_12 : decode cX4_find 12 = .ok (.iload_n 3, 1) := by decide +kernel
theorem dX4_find_13 : decode cX4_find 13 = .ok (.aload_n 0, 1) := by decide +kernel
theorem dX4_find_14 : decode cX4_find 14 = .ok (.getfield 46, 3) := by decide +kernel
theorem dX4_find_17 : decode cX4_find 17 = .ok (.if_icmp .ge 33, 3) := by decide +kernel
theorem dX4_find_20 : decode cX4_find 20 = .ok (.iload_n 2, 1) := by decide +kernel
theorem dX4_find_21 : decode cX4_find 21 = .ok (.iconst (-1), 1) := by decide +kernel
theorem dX4_find_22 : decode cX4_find 22 = .ok (.if_icmp .eq 28, 3) := by decide +kernel
theorem dX4_find_25 : decode cX4_find 25 = .ok (.aload_n 0, 1) := by decide +kernel
theorem dX4_find_26 : decode cX4_find 26 = .ok (.getfield 20, 3) := by decide +kernel
theorem dX4_find_29 : decode cX4_find 29 = .ok (.iload_n 2, 1) := by decide +kernel
theorem dX4_find_30 : decode cX4_find 30 = .ok (.iaload, 1) := by decide +kernel
theorem dX4_find_31 : decode cX4_find 31 = .ok (.iload_n 1, 1) := by decide +kernel
theorem dX4_find_32 : decode cX4_find 32 = .ok (.if_icmp .ne 5, 3) := by decide +kernel
theorem dX4_find_35 : decode cX4_find 35 = .ok (.iload_n 2, 1) := by decide +kernel
theorem dX4_find_36 : decode cX4_find 36 = .ok (.ireturn, 1) := by decide +kernel
theorem dX4_find_37 : decode cX4_find 37 = .ok (.aload_n 0, 1) := by decide +kernel
theorem dX4_find_38 : decode cX4_find 38 = .ok (.getfield 17, 3) := by decide +kernel
theorem dX4_find_41 : decode cX4_find 41 = .ok (.iload_n 2, 1) := by decide +kernel
theorem dX4_find_42 : decode cX4_find 42 = .ok (.iaload, 1) := by decide +kernel
theorem dX4_find_43 : decode cX4_find 43 = .ok (.istore_n 2, 1) := by decide +kernel
theorem dX4_find_44 : decode cX4_find 44 = .ok (.iinc 3 1, 3) := by decide +kernel
theorem dX4_find_47 : decode cX4_find 47 = .ok (.goto (-35), 3) := by decide +kernel
theorem dX4_find_50 : decode cX4_find 50 = .ok (.iconst (-1), 1) := by decide +kernel
theorem dX4_find_51 : decode cX4_find 51 = .ok (.ireturn, 1) := by decide +kernel
theorem dX4_headOf_0 : decode cX4_headOf 0 = .ok (.iload_n 0, 1) := by decide +kernel
theorem dX4_headOf_1 : decode cX4_headOf 1 = .ok (.iload_n 0, 1) := by decide +kernel
theorem dX4_headOf_2 : decode cX4_headOf 2 = .ok (.bipush 6, 2) := by decide +kernel
theorem dX4_headOf_4 : decode cX4_headOf 4 = .ok (.ishr, 1) := by decide +kernel
theorem dX4_headOf_5 : decode cX4_headOf 5 = .ok (.ixor, 1) := by decide +kernel
theorem dX4_headOf_6 : decode cX4_headOf 6 = .ok (.iload_n 0, 1) := by decide +kernel
theorem dX4_headOf_7 : decode cX4_headOf 7 = .ok (.bipush 13, 2) := by decide +kernel
theorem dX4_headOf_9 : decode cX4_headOf 9 = .ok (.ishr, 1) := by decide +kernel
theorem dX4_headOf_10 : decode cX4_headOf 10 = .ok (.ixor, 1) := by decide +kernel
theorem dX4_headOf_11 : decode cX4_headOf 11 = .ok (.iload_n 0, 1) := by decide +kernel
theorem dX4_headOf_12 : decode cX4_headOf 12 = .ok (.bipush 19, 2) := by decide +kernel
theorem dX4_headOf_14 : decode cX4_headOf 14 = .ok (.ishr, 1) := by decide +kernel
theorem dX4_headOf_15 : decode cX4_headOf 15 = .ok (.ixor, 1) := by decide +kernel
theorem dX4_headOf_16 : decode cX4_headOf 16 = .ok (.bipush 64, 2) := by decide +kernel
theorem dX4_headOf_18 : decode cX4_headOf 18 = .ok (.invokestatic 105, 3) := by decide +kernel
theorem dX4_headOf_21 : decode cX4_headOf 21 = .ok (.ireturn, 1) := by decide +kernel
theorem dX4_add_0 : decode cX4_add 0 = .ok (.aload_n 0, 1) := by decide +kernel
theorem dX4_add_1 : decode cX4_add 1 = .ok (.getfield 46, 3) := by decide +kernel
theorem dX4_add_4 : decode cX4_add 4 = .ok (.aload_n 0, 1) := by decide +kernel
theorem dX4_add_5 : decode cX4_add 5 = .ok (.getfield 20, 3) := by decide +kernel
theorem dX4_add_8 : decode cX4_add 8 = .ok (.arraylength, 1) := by decide +kernel
theorem dX4_add_9 : decode cX4_add 9 = .ok (.if_icmp .lt 71, 3) := by decide +kernel
theorem dX4_add_12 : decode cX4_add 12 = .ok (.aload_n 0, 1) := by decide +kernel
theorem dX4_add_13 : decode cX4_add 13 = .ok (.aload_n 0, 1) := by decide +kernel
theorem dX4_add_14 : decode cX4_add 14 = .ok (.getfield 17, 3) := by decide +kernel
theorem dX4_add_17 : decode cX4_add 17 = .ok (.iconst 2, 1) := by decide +kernel
theorem dX4_add_18 : decode cX4_add 18 = .ok (.aload_n 0, 1) := by decide +kernel
theorem dX4_add_19 : decode cX4_add 19 = .ok (.getfield 46, 3) := by decide +kernel
theorem dX4_add_22 : decode cX4_add 22 = .ok (.imul, 1) := by decide +kernel
theorem dX4_add_23 : decode cX4_add 23 = .ok (.invokestatic 110, 3) := by decide +kernel
theorem dX4_add_26 : decode cX4_add 26 = .ok (.putfield 17, 3) := by decide +kernel
theorem dX4_add_29 : decode cX4_add 29 = .ok (.aload_n 0, 1) := by decide +kernel
theorem dX4_add_30 : decode cX4_add 30 = .ok (.aload_n 0, 1) := by decide +kernel
theorem dX4_add_31 : decode cX4_add 31 = .ok (.getfield 20, 3) := by decide +kernel
theorem dX4_add_34 : decode cX4_add 34 = .ok (.iconst 2, 1) := by decide +kernel
theorem dX4_add_35 : decode cX4_add 35 = .ok (.aload_n 0, 1) := by decide +kernel
theorem dX4_add_36 : decode cX4_add 36 = .ok (.getfield 46, 3) := by decide +kernel
theorem dX4_add_39 : decode cX4_add 39 = .ok (.imul, 1) := by decide +kernel
theorem dX4_add_40 : decode cX4_add 40 = .ok (.invokestatic 110, 3) := by decide +kernel
theorem dX4_add_43 : decode cX4_add 43 = .ok (.putfield 20, 3) := by decide +kernel
theorem dX4_add_46 : decode cX4_add 46 = .ok (.aload_n 0, 1) := by decide +kernel
theorem dX4_add_47 : decode cX4_add 47 = .ok (.aload_n 0, 1) := by decide +kernel
theorem dX4_add_48 : decode cX4_add 48 = .ok (.getfield 23, 3) := by decide +kernel
theorem dX4_add_51 : decode cX4_add 51 = .ok (.iconst 2, 1) := by decide +kernel
theorem dX4_add_52 : decode cX4_add 52 = .ok (.aload_n 0, 1) := by decide +kernel
theorem dX4_add_53 : decode cX4_add 53 = .ok (.getfield 46, 3) := by decide +kernel
theorem dX4_add_56 : decode cX4_add 56 = .ok (.imul, 1) := by decide +kernel
theorem dX4_add_57 : decode cX4_add 57 = .ok (.invokestatic 110, 3) := by decide +kernel
theorem dX4_add_60 : decode cX4_add 60 = .ok (.putfield 23, 3) := by decide +kernel
theorem dX4_add_63 : decode cX4_add 63 = .ok (.aload_n 0, 1) := by decide +kernel
theorem dX4_add_64 : decode cX4_add 64 = .ok (.aload_n 0, 1) := by decide +kernel
theorem dX4_add_65 : decode cX4_add 65 = .ok (.getfield 26, 3) := by decide +kernel
theorem dX4_add_68 : decode cX4_add 68 = .ok (.iconst 2, 1) := by decide +kernel
theorem dX4_add_69 : decode cX4_add 69 = .ok (.aload_n 0, 1) := by decide +kernel
theorem dX4_add_70 : decode cX4_add 70 = .ok (.getfield 46, 3) := by decide +kernel
theorem dX4_add_73 : decode cX4_add 73 = .ok (.imul, 1) := by decide +kernel
theorem dX4_add_74 : decode cX4_add 74 = .ok (.invokestatic 110, 3) := by decide +kernel
theorem dX4_add_77 : decode cX4_add 77 = .ok (.putfield 26, 3) := by decide +kernel
theorem dX4_add_80 : decode cX4_add 80 = .ok (.iload_n 1, 1) := by decide +kernel
theorem dX4_add_81 : decode cX4_add 81 = .ok (.invokestatic 102, 3) := by decide +kernel
theorem dX4_add_84 : decode cX4_add 84 = .ok (.istore_n 3, 1) := by decide +kernel
theorem dX4_add_85 : decode cX4_add 85 = .ok (.aload_n 0, 1) := by decide +kernel
theorem dX4_add_86 : decode cX4_add 86 = .ok (.getfield 17, 3) := by decide +kernel
theorem dX4_add_89 : decode cX4_add 89 = .ok (.aload_n 0, 1) := by decide +kernel
theorem dX4_add_90 : decode cX4_add 90 = .ok (.getfield 46, 3) := by decide +kernel
theorem dX4_add_93 : decode cX4_add 93 = .ok (.aload_n 0, 1) := by decide +kernel
theorem dX4_add_94 : decode cX4_add 94 = .ok (.getfield 13, 3) := by decide +kernel
theorem dX4_add_97 : decode cX4_add 97 = .ok (.iload_n 3, 1) := by decide +kernel
theorem dX4_add_98 : decode cX4_add 98 = .ok (.iaload, 1) := by decide +kernel
theorem dX4_add_99 : decode cX4_add 99 = .ok (.iastore, 1) := by decide +kernel
theorem dX4_add_100 : decode cX4_add 100 = .ok (.aload_n 0, 1) := by decide +kernel
theorem dX4_add_101 : decode cX4_add 101 = .ok (.getfield 13, 3) := by decide +kernel
theorem dX4_add_104 : decode cX4_add 104 = .ok (.iload_n 3, 1) := by decide +kernel
theorem dX4_add_105 : decode cX4_add 105 = .ok (.aload_n 0, 1) := by decide +kernel
theorem dX4_add_106 : decode cX4_add 106 = .ok (.getfield 46, 3) := by decide +kernel
theorem dX4_add_109 : decode cX4_add 109 = .ok (.iastore, 1) := by decide +kernel
theorem dX4_add_110 : decode cX4_add 110 = .ok (.aload_n 0, 1) := by decide +kernel
theorem dX4_add_111 : decode cX4_add 111 = .ok (.getfield 20, 3) := by decide +kernel
theorem dX4_add_114 : decode cX4_add 114 = .ok (.aload_n 0, 1) := by decide +kernel
theorem dX4_add_115 : decode cX4_add 115 = .ok (.getfield 46, 3) := by decide +kernel
theorem dX4_add_118 : decode cX4_add 118 = .ok (.iload_n 1, 1) := by decide +kernel
theorem dX4_add_119 : decode cX4_add 119 = .ok (.iastore, 1) := by decide +kernel
theorem dX4_add_120 : decode cX4_add 120 = .ok (.aload_n 0, 1) := by decide +kernel
theorem dX4_add_121 : decode cX4_add 121 = .ok (.getfield 23, 3) := by decide +kernel
theorem dX4_add_124 : decode cX4_add 124 = .ok (.aload_n 0, 1) := by decide +kernel
theorem dX4_add_125 : decode cX4_add 125 = .ok (.getfield 46, 3) := by decide +kernel
theorem dX4_add_128 : decode cX4_add 128 = .ok (.iconst 0, 1) := by decide +kernel
theorem dX4_add_129 : decode cX4_add 129 = .ok (.iastore, 1) := by decide +kernel
theorem dX4_add_130 : decode cX4_add 130 = .ok (.aload_n 0, 1) := by decide +kernel
theorem dX4_add_131 : decode cX4_add 131 = .ok (.getfield 26, 3) := by decide +kernel
theorem dX4_add_134 : decode cX4_add 134 = .ok (.aload_n 0, 1) := by decide +kernel
theorem dX4_add_135 : decode cX4_add 135 = .ok (.getfield 46, 3) := by decide +kernel
theorem dX4_add_138 : decode cX4_add 138 = .ok (.iload_n 2, 1) := by decide +kernel
theorem dX4_add_139 : decode cX4_add 139 = .ok (.iastore, 1) := by decide +kernel
theorem dX4_add_140 : decode cX4_add 140 = .ok (.aload_n 0, 1) := by decide +kernel
theorem dX4_add_141 : decode cX4_add 141 = .ok (.dup, 1) := by decide +kernel
theorem dX4_add_142 : decode cX4_add 142 = .ok (.getfield 46, 3) := by decide +kernel
theorem dX4_add_145 : decode cX4_add 145 = .ok (.dup_x1, 1) := by decide +kernel
theorem dX4_add_146 : decode cX4_add 146 = .ok (.iconst 1, 1) := by decide +kernel
theorem dX4_add_147 : decode cX4_add 147 = .ok (.iadd, 1) := by decide +kernel
theorem dX4_add_148 : decode cX4_add 148 = .ok (.putfield 46, 3) := by decide +kernel
theorem dX4_add_151 : decode cX4_add 151 = .ok (.ireturn, 1) := by decide +kernel
theorem dX4_has_0 : decode cX4_has 0 = .ok (.iload_n 1, 1) := by decide +kernel
theorem dX4_has_1 : decode cX4_has 1 = .ok (.ifCond .lt 15, 3) := by decide +kernel
theorem dX4_has_4 : decode cX4_has 4 = .ok (.iload_n 1, 1) := by decide +kernel
theorem dX4_has_5 : decode cX4_has 5 = .ok (.aload_n 0, 1) := by decide +kernel
theorem dX4_has_6 : decode cX4_has 6 = .ok (.getfield 46, 3) := by decide +kernel
theorem dX4_has_9 : decode cX4_has 9 = .ok (.if_icmp .ge 7, 3) := by decide +kernel
theorem dX4_has_12 : decode cX4_has 12 = .ok (.iconst 1, 1) := by decide +kernel
theorem dX4_has_13 : decode cX4_has 13 = .ok (.goto 4, 3) := by decide +kernel
theorem dX4_has_16 : decode cX4_has 16 = .ok (.iconst 0, 1) := by decide +kernel
theorem dX4_has_17 : decode cX4_has 17 = .ok (.ireturn, 1) := by decide +kernel
theorem dX4_ofJoining_0 : decode cX4_ofJoining 0 = .ok (.iload_n 1, 1) := by decide +kernel
theorem dX4_ofJoining_1 : decode cX4_ofJoining 1 = .ok (.ifCond .lt 21, 3) := by decide +kernel
theorem dX4_ofJoining_4 : decode cX4_ofJoining 4 = .ok (.iload_n 1, 1) := by decide +kernel
theorem dX4_ofJoining_5 : decode cX4_ofJoining 5 = .ok (.aload_n 0, 1) := by decide +kernel
theorem dX4_ofJoining_6 : decode cX4_ofJoining 6 = .ok (.getfield 29, 3) := by decide +kernel
theorem dX4_ofJoining_9 : decode cX4_ofJoining 9 = .ok (.arraylength, 1) := by decide +kernel
theorem dX4_ofJoining_10 : decode cX4_ofJoining 10 = .ok (.if_icmp .ge 12, 3) := by decide +kernel
theorem dX4_ofJoining_13 : decode cX4_ofJoining 13 = .ok (.aload_n 0, 1) := by decide +kernel
theorem dX4_ofJoining_14 : decode cX4_ofJoining 14 = .ok (.getfield 29, 3) := by decide +kernel
theorem dX4_ofJoining_17 : decode cX4_ofJoining 17 = .ok (.iload_n 1, 1) := by decide +kernel
theorem dX4_ofJoining_18 : decode cX4_ofJoining 18 = .ok (.iaload, 1) := by decide +kernel
theorem dX4_ofJoining_19 : decode cX4_ofJoining 19 = .ok (.goto 4, 3) := by decide +kernel
theorem dX4_ofJoining_22 : decode cX4_ofJoining 22 = .ok (.iconst (-1), 1) := by decide +kernel
theorem dX4_ofJoining_23 : decode cX4_ofJoining 23 = .ok (.ireturn, 1) := by decide +kernel
theorem dX4_joiningsOf_0 : decode cX4_joiningsOf 0 = .ok (.aload_n 0, 1) := by decide +kernel
theorem dX4_joiningsOf_1 : decode cX4_joiningsOf 1 = .ok (.iload_n 1, 1) := by decide +kernel
theorem dX4_joiningsOf_2 : decode cX4_joiningsOf 2 = .ok (.invokevirtual 114, 3) := by decide +kernel
theorem dX4_joiningsOf_5 : decode cX4_joiningsOf 5 = .ok (.ifCond .eq 12, 3) := by decide +kernel
theorem dX4_joiningsOf_8 : decode cX4_joiningsOf 8 = .ok (.aload_n 0, 1) := by decide +kernel
theorem dX4_joiningsOf_9 : decode cX4_joiningsOf 9 = .ok (.getfield 23, 3) := by decide +kernel
theorem dX4_joiningsOf_12 : decode cX4_joiningsOf 12 = .ok (.iload_n 1, 1) := by decide +kernel
theorem dX4_joiningsOf_13 : decode cX4_joiningsOf 13 = .ok (.iaload, 1) := by decide +kernel
theorem dX4_joiningsOf_14 : decode cX4_joiningsOf 14 = .ok (.goto 4, 3) := by decide +kernel
theorem dX4_joiningsOf_17 : decode cX4_joiningsOf 17 = .ok (.iconst (-1), 1) := by decide +kernel
theorem dX4_joiningsOf_18 : decode cX4_joiningsOf 18 = .ok (.ireturn, 1) := by decide +kernel
theorem dX4_firstOf_0 : decode cX4_firstOf 0 = .ok (.aload_n 0, 1) := by decide +kernel
theorem dX4_firstOf_1 : decode cX4_firstOf 1 = .ok (.iload_n 1, 1) := by decide +kernel
theorem dX4_firstOf_2 : decode cX4_firstOf 2 = .ok (.invokevirtual 114, 3) := by decide +kernel
theorem dX4_firstOf_5 : decode cX4_firstOf 5 = .ok (.ifCond .eq 12, 3) := by decide +kernel
theorem dX4_firstOf_8 : decode cX4_firstOf 8 = .ok (.aload_n 0, 1) := by decide +kernel
theorem dX4_firstOf_9 : decode cX4_firstOf 9 = .ok (.getfield 26, 3) := by decide +kernel
theorem dX4_firstOf_12 : decode cX4_firstOf 12 = .ok (.iload_n 1, 1) := by decide +kernel
theorem dX4_firstOf_13 : decode cX4_firstOf 13 = .ok (.iaload, 1) := by decide +kernel
theorem dX4_firstOf_14 : decode cX4_firstOf 14 = .ok (.goto 4, 3) := by decide +kernel
theorem dX4_firstOf_17 : decode cX4_firstOf 17 = .ok (.iconst (-1), 1) := by decide +kernel
theorem dX4_firstOf_18 : decode cX4_firstOf 18 = .ok (.ireturn, 1) := by decide +kernel
theorem dX4_chosenOf_0 : decode cX4_chosenOf 0 = .ok (.aload_n 0, 1) := by decide +kernel
theorem dX4_chosenOf_1 : decode cX4_chosenOf 1 = .ok (.iload_n 1, 1) := by decide +kernel
theorem dX4_chosenOf_2 : decode cX4_chosenOf 2 = .ok (.invokevirtual 117, 3) := by decide +kernel
theorem dX4_chosenOf_5 : decode cX4_chosenOf 5 = .ok (.istore_n 2, 1) := by decide +kernel
theorem dX4_chosenOf_6 : decode cX4_chosenOf 6 = .ok (.iload_n 2, 1) := by decide +kernel
theorem dX4_chosenOf_7 : decode cX4_chosenOf 7 = .ok (.aload_n 0, 1) := by decide +kernel
theorem dX4_chosenOf_8 : decode cX4_chosenOf 8 = .ok (.getfield 120, 3) := by decide +kernel
theorem dX4_chosenOf_11 : decode cX4_chosenOf 11 = .ok (.if_icmp .ge 12, 3) := by decide +kernel
theorem dX4_chosenOf_14 : decode cX4_chosenOf 14 = .ok (.aload_n 0, 1) := by decide +kernel
theorem dX4_chosenOf_15 : decode cX4_chosenOf 15 = .ok (.getfield 35, 3) := by decide +kernel
theorem dX4_chosenOf_18 : decode cX4_chosenOf 18 = .ok (.iload_n 2, 1) := by decide +kernel
theorem dX4_chosenOf_19 : decode cX4_chosenOf 19 = .ok (.iaload, 1) := by decide +kernel
theorem dX4_chosenOf_20 : decode cX4_chosenOf 20 = .ok (.goto 4, 3) := by decide +kernel
theorem dX4_chosenOf_23 : decode cX4_chosenOf 23 = .ok (.iconst 0, 1) := by decide +kernel
theorem dX4_chosenOf_24 : decode cX4_chosenOf 24 = .ok (.ireturn, 1) := by decide +kernel
theorem dX4_chooseOne_0 : decode cX4_chooseOne 0 = .ok (.aload_n 0, 1) := by decide +kernel
theorem dX4_chooseOne_1 : decode cX4_chooseOne 1 = .ok (.iload_n 1, 1) := by decide +kernel
theorem dX4_chooseOne_2 : decode cX4_chooseOne 2 = .ok (.invokevirtual 117, 3) := by decide +kernel
theorem dX4_chooseOne_5 : decode cX4_chooseOne 5 = .ok (.istore_n 2, 1) := by decide +kernel
theorem dX4_chooseOne_6 : decode cX4_chooseOne 6 = .ok (.iload_n 2, 1) := by decide +kernel
theorem dX4_chooseOne_7 : decode cX4_chooseOne 7 = .ok (.sipush 251, 3) := by decide +kernel
theorem dX4_chooseOne_10 : decode cX4_chooseOne 10 = .ok (.if_icmp .lt 5, 3) := by decide +kernel
theorem dX4_chooseOne_13 : decode cX4_chooseOne 13 = .ok (.iconst (-1), 1) := by decide +kernel
theorem dX4_chooseOne_14 : decode cX4_chooseOne 14 = .ok (.ireturn, 1) := by decide +kernel
theorem dX4_chooseOne_15 : decode cX4_chooseOne 15 = .ok (.iload_n 2, 1) := by decide +kernel
theorem dX4_chooseOne_16 : decode cX4_chooseOne 16 = .ok (.aload_n 0, 1) := by decide +kernel
theorem dX4_chooseOne_17 : decode cX4_chooseOne 17 = .ok (.getfield 120, 3) := by decide +kernel
theorem dX4_chooseOne_20 : decode cX4_chooseOne 20 = .ok (.if_icmp .ne 36, 3) := by decide +kernel
theorem dX4_chooseOne_23 : decode cX4_chooseOne 23 = .ok (.aload_n 0, 1) := by decide +kernel
theorem dX4_chooseOne_24 : decode cX4_chooseOne 24 = .ok (.getfield 32, 3) := by decide +kernel
theorem dX4_chooseOne_27 : decode cX4_chooseOne 27 = .ok (.iload_n 2, 1) := by decide +kernel
theorem dX4_chooseOne_28 : decode cX4_chooseOne 28 = .ok (.aload_n 0, 1) := by decide +kernel
theorem dX4_chooseOne_29 : decode cX4_chooseOne 29 = .ok (.getfield 20, 3) := by decide +kernel
theorem dX4_chooseOne_32 : decode cX4_chooseOne 32 = .ok (.iload_n 1, 1) := by decide +kernel
theorem dX4_chooseOne_33 : decode cX4_chooseOne 33 = .ok (.iaload, 1) := by decide +kernel
theorem dX4_chooseOne_34 : decode cX4_chooseOne 34 = .ok (.sipush 32767, 3) := by decide +kernel
theorem dX4_chooseOne_37 : decode cX4_chooseOne 37 = .ok (.iand, 1) := by decide +kernel
theorem dX4_chooseOne_38 : decode cX4_chooseOne 38 = .ok (.iastore, 1) := by decide +kernel
theorem dX4_chooseOne_39 : decode cX4_chooseOne 39 = .ok (.aload_n 0, 1) := by decide +kernel
theorem dX4_chooseOne_40 : decode cX4_chooseOne 40 = .ok (.getfield 35, 3) := by decide +kernel
theorem dX4_chooseOne_43 : decode cX4_chooseOne 43 = .ok (.iload_n 2, 1) := by decide +kernel
theorem dX4_chooseOne_44 : decode cX4_chooseOne 44 = .ok (.iconst 0, 1) := by decide +kernel
theorem dX4_chooseOne_45 : decode cX4_chooseOne 45 = .ok (.iastore, 1) := by decide +kernel
theorem dX4_chooseOne_46 : decode cX4_chooseOne 46 = .ok (.aload_n 0, 1) := by decide +kernel
theorem dX4_chooseOne_47 : decode cX4_chooseOne 47 = .ok (.dup, 1) := by decide +kernel
theorem dX4_chooseOne_48 : decode cX4_chooseOne 48 = .ok (.getfield 120, 3) := by decide +kernel
theorem dX4_chooseOne_51 : decode cX4_chooseOne 51 = .ok (.iconst 1, 1) := by decide +kernel
theorem dX4_chooseOne_52 : decode cX4_chooseOne 52 = .ok (.iadd, 1) := by decide +kernel
theorem dX4_chooseOne_53 : decode cX4_chooseOne 53 = .ok (.putfield 120, 3) := by decide +kernel
theorem dX4_chooseOne_56 : decode cX4_chooseOne 56 = .ok (.aload_n 0, 1) := by decide +kernel
theorem dX4_chooseOne_57 : decode cX4_chooseOne 57 = .ok (.getfield 35, 3) := by decide +kernel
theorem dX4_chooseOne_60 : decode cX4_chooseOne 60 = .ok (.iload_n 2, 1) := by decide +kernel
theorem dX4_chooseOne_61 : decode cX4_chooseOne 61 = .ok (.dup2, 1) := by decide +kernel
theorem dX4_chooseOne_62 : decode cX4_chooseOne 62 = .ok (.iaload, 1) := by decide +kernel
theorem dX4_chooseOne_63 : decode cX4_chooseOne 63 = .ok (.iconst 1, 1) := by decide +kernel
theorem dX4_chooseOne_64 : decode cX4_chooseOne 64 = .ok (.iadd, 1) := by decide +kernel
theorem dX4_chooseOne_65 : decode cX4_chooseOne 65 = .ok (.dup_x2, 1) := by decide +kernel
theorem dX4_chooseOne_66 : decode cX4_chooseOne 66 = .ok (.iastore, 1) := by decide +kernel
theorem dX4_chooseOne_67 : decode cX4_chooseOne 67 = .ok (.ireturn, 1) := by decide +kernel
theorem dX4_forgetChosen_0 : decode cX4_forgetChosen 0 = .ok (.aload_n 0, 1) := by decide +kernel
theorem dX4_forgetChosen_1 : decode cX4_forgetChosen 1 = .ok (.iconst 0, 1) := by decide +kernel
theorem dX4_forgetChosen_2 : decode cX4_forgetChosen 2 = .ok (.putfield 120, 3) := by decide +kernel
theorem dX4_forgetChosen_5 : decode cX4_forgetChosen 5 = .ok (.return_, 1) := by decide +kernel
theorem dX4_chosenPlace_0 : decode cX4_chosenPlace 0 = .ok (.aload_n 0, 1) := by decide +kernel
theorem dX4_chosenPlace_1 : decode cX4_chosenPlace 1 = .ok (.iload_n 1, 1) := by decide +kernel
theorem dX4_chosenPlace_2 : decode cX4_chosenPlace 2 = .ok (.invokevirtual 114, 3) := by decide +kernel
theorem dX4_chosenPlace_5 : decode cX4_chosenPlace 5 = .ok (.ifCond .eq 16, 3) := by decide +kernel
theorem dX4_chosenPlace_8 : decode cX4_chosenPlace 8 = .ok (.aload_n 0, 1) := by decide +kernel
theorem dX4_chosenPlace_9 : decode cX4_chosenPlace 9 = .ok (.getfield 20, 3) := by decide +kernel
theorem dX4_chosenPlace_12 : decode cX4_chosenPlace 12 = .ok (.iload_n 1, 1) := by decide +kernel
theorem dX4_chosenPlace_13 : decode cX4_chosenPlace 13 = .ok (.iaload, 1) := by decide +kernel
theorem dX4_chosenPlace_14 : decode cX4_chosenPlace 14 = .ok (.sipush 32767, 3) := by decide +kernel
theorem dX4_chosenPlace_17 : decode cX4_chosenPlace 17 = .ok (.iand, 1) := by decide +kernel
theorem dX4_chosenPlace_18 : decode cX4_chosenPlace 18 = .ok (.goto 4, 3) := by decide +kernel
theorem dX4_chosenPlace_21 : decode cX4_chosenPlace 21 = .ok (.iconst 0, 1) := by decide +kernel
theorem dX4_chosenPlace_22 : decode cX4_chosenPlace 22 = .ok (.istore_n 2, 1) := by decide +kernel
theorem dX4_chosenPlace_23 : decode cX4_chosenPlace 23 = .ok (.iconst 0, 1) := by decide +kernel
theorem dX4_chosenPlace_24 : decode cX4_chosenPlace 24 = .ok (.istore_n 3, 1) := by decide +kernel
theorem dX4_chosenPlace_25 : decode cX4_chosenPlace 25 = .ok (.iload_n 3, 1) := by decide +kernel
theorem dX4_chosenPlace_26 : decode cX4_chosenPlace 26 = .ok (.aload_n 0, 1) := by decide +kernel
theorem dX4_chosenPlace_27 : decode cX4_chosenPlace 27 = .ok (.getfield 120, 3) := by decide +kernel
theorem dX4_chosenPlace_30 : decode cX4_chosenPlace 30 = .ok (.if_icmp .ge 19, 3) := by decide +kernel
theorem dX4_chosenPlace_33 : decode cX4_chosenPlace 33 = .ok (.aload_n 0, 1) := by decide +kernel
theorem dX4_chosenPlace_34 : decode cX4_chosenPlace 34 = .ok (.getfield 32, 3) := by decide +kernel
theorem dX4_chosenPlace_37 : decode cX4_chosenPlace 37 = .ok (.iload_n 3, 1) := by decide +kernel
theorem dX4_chosenPlace_38 : decode cX4_chosenPlace 38 = .ok (.iaload, 1) := by decide +kernel
theorem dX4_chosenPlace_39 : decode cX4_chosenPlace 39 = .ok (.iload_n 2, 1) := by decide +kernel
theorem dX4_chosenPlace_40 : decode cX4_chosenPlace 40 = .ok (.if_icmp .eq 9, 3) := by decide +kernel
theorem dX4_chosenPlace_43 : decode cX4_chosenPlace 43 = .ok (.iinc 3 1, 3) := by decide +kernel
theorem dX4_chosenPlace_46 : decode cX4_chosenPlace 46 = .ok (.goto (-21), 3) := by decide +kernel
theorem dX4_chosenPlace_49 : decode cX4_chosenPlace 49 = .ok (.iload_n 3, 1) := by decide +kernel
theorem dX4_chosenPlace_50 : decode cX4_chosenPlace 50 = .ok (.ireturn, 1) := by decide +kernel
theorem dX4_rankOf_0 : decode cX4_rankOf 0 = .ok (.aload_n 0, 1) := by decide +kernel
theorem dX4_rankOf_1 : decode cX4_rankOf 1 = .ok (.iload_n 1, 1) := by decide +kernel
theorem dX4_rankOf_2 : decode cX4_rankOf 2 = .ok (.invokevirtual 123, 3) := by decide +kernel
theorem dX4_rankOf_5 : decode cX4_rankOf 5 = .ok (.istore_n 2, 1) := by decide +kernel
theorem dX4_rankOf_6 : decode cX4_rankOf 6 = .ok (.iconst 0, 1) := by decide +kernel
theorem dX4_rankOf_7 : decode cX4_rankOf 7 = .ok (.istore_n 3, 1) := by decide +kernel
theorem dX4_rankOf_8 : decode cX4_rankOf 8 = .ok (.iconst 0, 1) := by decide +kernel
theorem dX4_rankOf_9 : decode cX4_rankOf 9 = .ok (.istore 4, 2) := by decide +kernel
theorem dX4_rankOf_11 : decode cX4_rankOf 11 = .ok (.iload 4, 2) := by decide +kernel
theorem dX4_rankOf_13 : decode cX4_rankOf 13 = .ok (.aload_n 0, 1) := by decide +kernel
theorem dX4_rankOf_14 : decode cX4_rankOf 14 = .ok (.getfield 46, 3) := by decide +kernel
theorem dX4_rankOf_17 : decode cX4_rankOf 17 = .ok (.if_icmp .ge 38, 3) := by decide +kernel
theorem dX4_rankOf_20 : decode cX4_rankOf 20 = .ok (.aload_n 0, 1) := by decide +kernel
theorem dX4_rankOf_21 : decode cX4_rankOf 21 = .ok (.iload 4, 2) := by decide +kernel
theorem dX4_rankOf_23 : decode cX4_rankOf 23 = .ok (.invokevirtual 123, 3) := by decide +kernel
theorem dX4_rankOf_26 : decode cX4_rankOf 26 = .ok (.istore 5, 2) := by decide +kernel
theorem dX4_rankOf_28 : decode cX4_rankOf 28 = .ok (.iload 5, 2) := by decide +kernel
theorem dX4_rankOf_30 : decode cX4_rankOf 30 = .ok (.iload_n 2, 1) := by decide +kernel
theorem dX4_rankOf_31 : decode cX4_rankOf 31 = .ok (.if_icmp .gt 15, 3) := by decide +kernel
theorem dX4_rankOf_34 : decode cX4_rankOf 34 = .ok (.iload 5, 2) := by decide +kernel
theorem dX4_rankOf_36 : decode cX4_rankOf 36 = .ok (.iload_n 2, 1) := by decide +kernel
theorem dX4_rankOf_37 : decode cX4_rankOf 37 = .ok (.if_icmp .ne 12, 3) := by decide +kernel
theorem dX4_rankOf_40 : decode cX4_rankOf 40 = .ok (.iload 4, 2) := by decide +kernel
theorem dX4_rankOf_42 : decode cX4_rankOf 42 = .ok (.iload_n 1, 1) := by decide +kernel
theorem dX4_rankOf_43 : decode cX4_rankOf 43 = .ok (.if_icmp .ge 6, 3) := by decide +kernel
theorem dX4_rankOf_46 : decode cX4_rankOf 46 = .ok (.iinc 3 1, 3) := by decide +kernel
theorem dX4_rankOf_49 : decode cX4_rankOf 49 = .ok (.iinc 4 1, 3) := by decide +kernel
theorem dX4_rankOf_52 : decode cX4_rankOf 52 = .ok (.goto (-41), 3) := by decide +kernel
theorem dX4_rankOf_55 : decode cX4_rankOf 55 = .ok (.iload_n 3, 1) := by decide +kernel
theorem dX4_rankOf_56 : decode cX4_rankOf 56 = .ok (.ireturn, 1) := by decide +kernel
theorem dX4_sentenceLength_0 : decode cX4_sentenceLength 0 = .ok (.aload_n 0, 1) := by decide +kernel
theorem dX4_sentenceLength_1 : decode cX4_sentenceLength 1 = .ok (.iload_n 1, 1) := by decide +kernel
theorem dX4_sentenceLength_2 : decode cX4_sentenceLength 2 = .ok (.aload_n 2, 1) := by decide +kernel
theorem dX4_sentenceLength_3 : decode cX4_sentenceLength 3 = .ok (.aload_n 3, 1) := by decide +kernel
theorem dX4_sentenceLength_4 : decode cX4_sentenceLength 4 = .ok (.invokevirtual 126, 3) := by decide +kernel
theorem dX4_sentenceLength_7 : decode cX4_sentenceLength 7 = .ok (.aload_n 0, 1) := by decide +kernel
theorem dX4_sentenceLength_8 : decode cX4_sentenceLength 8 = .ok (.getfield 130, 3) := by decide +kernel
theorem dX4_sentenceLength_11 : decode cX4_sentenceLength 11 = .ok (.ireturn, 1) := by decide +kernel
theorem dX4_sentenceSign_0 : decode cX4_sentenceSign 0 = .ok (.aload_n 0, 1) := by decide +kernel
theorem dX4_sentenceSign_1 : decode cX4_sentenceSign 1 = .ok (.iload_n 1, 1) := by decide +kernel
theorem dX4_sentenceSign_2 : decode cX4_sentenceSign 2 = .ok (.aload_n 3, 1) := by decide +kernel
theorem dX4_sentenceSign_3 : decode cX4_sentenceSign 3 = .ok (.aload 4, 2) := by decide +kernel
theorem dX4_sentenceSign_5 : decode cX4_sentenceSign 5 = .ok (.invokevirtual 126, 3) := by decide +kernel
theorem dX4_sentenceSign_8 : decode cX4_sentenceSign 8 = .ok (.iload_n 2, 1) := by decide +kernel
theorem dX4_sentenceSign_9 : decode cX4_sentenceSign 9 = .ok (.ifCond .lt 20, 3) := by decide +kernel
theorem dX4_sentenceSign_12 : decode cX4_sentenceSign 12 = .ok (.iload_n 2, 1) := by decide +kernel
theorem dX4_sentenceSign_13 : decode cX4_sentenceSign 13 = .ok (.aload_n 0, 1) := by decide +kernel
theorem dX4_sentenceSign_14 : decode cX4_sentenceSign 14 = .ok (.getfield 130, 3) := by decide +kernel
theorem dX4_sentenceSign_17 : decode cX4_sentenceSign 17 = .ok (.if_icmp .ge 12, 3) := by decide +kernel
theorem dX4_sentenceSign_20 : decode cX4_sentenceSign 20 = .ok (.aload_n 0, 1) := by decide +kernel
theorem dX4_sentenceSign_21 : decode cX4_sentenceSign 21 = .ok (.getfield 38, 3) := by decide +kernel
theorem dX4_sentenceSign_24 : decode cX4_sentenceSign 24 = .ok (.iload_n 2, 1) := by decide +kernel
theorem dX4_sentenceSign_25 : decode cX4_sentenceSign 25 = .ok (.baload, 1) := by decide +kernel
theorem dX4_sentenceSign_26 : decode cX4_sentenceSign 26 = .ok (.goto 4, 3) := by decide +kernel
theorem dX4_sentenceSign_29 : decode cX4_sentenceSign 29 = .ok (.iconst (-1), 1) := by decide +kernel
theorem dX4_sentenceSign_30 : decode cX4_sentenceSign 30 = .ok (.ireturn, 1) := by decide +kernel
theorem dX4_tell_0 : decode cX4_tell 0 = .ok (.aload_n 0, 1) := by decide +kernel
theorem dX4_tell_1 : decode cX4_tell 1 = .ok (.getfield 42, 3) := by decide +kernel
theorem dX4_tell_4 : decode cX4_tell 4 = .ok (.iload_n 1, 1) := by decide +kernel
theorem dX4_tell_5 : decode cX4_tell 5 = .ok (.if_icmp .eq 11, 3) := by decide +kernel
theorem dX4_tell_8 : decode cX4_tell 8 = .ok (.aload_n 0, 1) := by decide +kernel
theorem dX4_tell_9 : decode cX4_tell 9 = .ok (.iload_n 1, 1) := by decide +kernel
theorem dX4_tell_10 : decode cX4_tell 10 = .ok (.invokevirtual 114, 3) := by decide +kernel
theorem dX4_tell_13 : decode cX4_tell 13 = .ok (.ifCond .ne 4, 3) := by decide +kernel
theorem dX4_tell_16 : decode cX4_tell 16 = .ok (.return_, 1) := by decide +kernel
theorem dX4_tell_17 : decode cX4_tell 17 = .ok (.aload_n 0, 1) := by decide +kernel
theorem dX4_tell_18 : decode cX4_tell 18 = .ok (.iload_n 1, 1) := by decide +kernel
theorem dX4_tell_19 : decode cX4_tell 19 = .ok (.putfield 42, 3) := by decide +kernel
theorem dX4_tell_22 : decode cX4_tell 22 = .ok (.aload_n 0, 1) := by decide +kernel
theorem dX4_tell_23 : decode cX4_tell 23 = .ok (.iconst 0, 1) := by decide +kernel
theorem dX4_tell_24 : decode cX4_tell 24 = .ok (.putfield 130, 3) := by decide +kernel
theorem dX4_tell_27 : decode cX4_tell 27 = .ok (.aload_n 0, 1) := by decide +kernel
theorem dX4_tell_28 : decode cX4_tell 28 = .ok (.getfield 20, 3) := by decide +kernel
theorem dX4_tell_31 : decode cX4_tell 31 = .ok (.iload_n 1, 1) := by decide +kernel
theorem dX4_tell_32 : decode cX4_tell 32 = .ok (.iaload, 1) := by decide +kernel
theorem dX4_tell_33 : decode cX4_tell 33 = .ok (.istore 4, 2) := by decide +kernel
theorem dX4_tell_35 : decode cX4_tell 35 = .ok (.iconst 0, 1) := by decide +kernel
theorem dX4_tell_36 : decode cX4_tell 36 = .ok (.istore 5, 2) := by decide +kernel
theorem dX4_tell_38 : decode cX4_tell 38 = .ok (.iload 5, 2) := by decide +kernel
theorem dX4_tell_40 : decode cX4_tell 40 = .ok (.aload_n 2, 1) := by decide +kernel
theorem dX4_tell_41 : decode cX4_tell 41 = .ok (.getfield 133, 3) := by decide +kernel
theorem dX4_tell_44 : decode cX4_tell 44 = .ok (.if_icmp .ge 47, 3) := by decide +kernel
theorem dX4_tell_47 : decode cX4_tell 47 = .ok (.iload 4, 2) := by decide +kernel
theorem dX4_tell_49 : decode cX4_tell 49 = .ok (.iconst 3, 1) := by decide +kernel
theorem dX4_tell_50 : decode cX4_tell 50 = .ok (.iload 5, 2) := by decide +kernel
theorem dX4_tell_52 : decode cX4_tell 52 = .ok (.imul, 1) := by decide +kernel
theorem dX4_tell_53 : decode cX4_tell 53 = .ok (.ishr, 1) := by decide +kernel
theorem dX4_tell_54 : decode cX4_tell 54 = .ok (.bipush 7, 2) := by decide +kernel
theorem dX4_tell_56 : decode cX4_tell 56 = .ok (.iand, 1) := by decide +kernel
theorem dX4_tell_57 : decode cX4_tell 57 = .ok (.istore 6, 2) := by decide +kernel
theorem dX4_tell_59 : decode cX4_tell 59 = .ok (.iload 6, 2) := by decide +kernel
theorem dX4_tell_61 : decode cX4_tell 61 = .ok (.ifCond .le 24, 3) := by decide +kernel
theorem dX4_tell_64 : decode cX4_tell 64 = .ok (.aload_n 0, 1) := by decide +kernel
theorem dX4_tell_65 : decode cX4_tell 65 = .ok (.invokevirtual 136, 3) := by decide +kernel
theorem dX4_tell_68 : decode cX4_tell 68 = .ok (.aload_n 0, 1) := by decide +kernel
theorem dX4_tell_69 : decode cX4_tell 69 = .ok (.aload_n 2, 1) := by decide +kernel
theorem dX4_tell_70 : decode cX4_tell 70 = .ok (.getfield 139, 3) := by decide +kernel
theorem dX4_tell_73 : decode cX4_tell 73 = .ok (.iload 5, 2) := by decide +kernel
theorem dX4_tell_75 : decode cX4_tell 75 = .ok (.laload, 1) := by decide +kernel
theorem dX4_tell_76 : decode cX4_tell 76 = .ok (.invokevirtual 143, 3) := by decide +kernel
theorem dX4_tell_79 : decode cX4_tell 79 = .ok (.iinc 6 (-1), 3) := by decide +kernel
theorem dX4_tell_82 : decode cX4_tell 82 = .ok (.goto (-23), 3) := by decide +kernel
theorem dX4_tell_85 : decode cX4_tell 85 = .ok (.iinc 5 1, 3) := by decide +kernel
theorem dX4_tell_88 : decode cX4_tell 88 = .ok (.goto (-50), 3) := by decide +kernel
theorem dX4_tell_91 : decode cX4_tell 91 = .ok (.aload_n 0, 1) := by decide +kernel
theorem dX4_tell_92 : decode cX4_tell 92 = .ok (.bipush 32, 2) := by decide +kernel
theorem dX4_tell_94 : decode cX4_tell 94 = .ok (.invokevirtual 147, 3) := by decide +kernel
theorem dX4_tell_97 : decode cX4_tell 97 = .ok (.aload_n 0, 1) := by decide +kernel
theorem dX4_tell_98 : decode cX4_tell 98 = .ok (.bipush 58, 2) := by decide +kernel
theorem dX4_tell_100 : decode cX4_tell 100 = .ok (.invokevirtual 147, 3) := by decide +kernel
theorem dX4_tell_103 : decode cX4_tell 103 = .ok (.iconst 0, 1) := by decide +kernel
theorem dX4_tell_104 : decode cX4_tell 104 = .ok (.istore 5, 2) := by decide +kernel
theorem dX4_tell_106 : decode cX4_tell 106 = .ok (.iload 5, 2) := by decide +kernel
theorem dX4_tell_108 : decode cX4_tell 108 = .ok (.aload_n 3, 1) := by decide +kernel
theorem dX4_tell_109 : decode cX4_tell 109 = .ok (.getfield 151, 3) := by decide +kernel
theorem dX4_tell_112 : decode cX4_tell 112 = .ok (.if_icmp .ge 103, 3) := by decide +kernel
theorem dX4_tell_115 : decode cX4_tell 115 = .ok (.iload 5, 2) := by decide +kernel
theorem dX4_tell_117 : decode cX4_tell 117 = .ok (.ifCond .le 10, 3) := by decide +kernel
theorem dX4_tell_120 : decode cX4_tell 120 = .ok (.aload_n 0, 1) := by decide +kernel
theorem dX4_tell_121 : decode cX4_tell 121 = .ok (.invokevirtual 136, 3) := by decide +kernel
theorem dX4_tell_124 : decode cX4_tell 124 = .ok (.goto 9, 3) := by decide +kernel
theorem dX4_tell_127 : decode cX4_tell 127 = .ok (.aload_n 0, 1) := by decide +kernel
theorem dX4_tell_128 : decode cX4_tell 128 = .ok (.bipush 32, 2) := by decide +kernel
theorem dX4_tell_130 : decode cX4_tell 130 = .ok (.invokevirtual 147, 3) := by decide +kernel
theorem dX4_tell_133 : decode cX4_tell 133 = .ok (.aload_n 0, 1) := by decide +kernel
theorem dX4_tell_134 : decode cX4_tell 134 = .ok (.aload_n 3, 1) := by decide +kernel
theorem dX4_tell_135 : decode cX4_tell 135 = .ok (.getfield 156, 3) := by decide +kernel
theorem dX4_tell_138 : decode cX4_tell 138 = .ok (.iload 5, 2) := by decide +kernel
theorem dX4_tell_140 : decode cX4_tell 140 = .ok (.iaload, 1) := by decide +kernel
theorem dX4_tell_141 : decode cX4_tell 141 = .ok (.aload_n 3, 1) := by decide +kernel
theorem dX4_tell_142 : decode cX4_tell 142 = .ok (.getfield 159, 3) := by decide +kernel
theorem dX4_tell_145 : decode cX4_tell 145 = .ok (.iload 5, 2) := by decide +kernel
theorem dX4_tell_147 : decode cX4_tell 147 = .ok (.laload, 1) := by decide +kernel
theorem dX4_tell_148 : decode cX4_tell 148 = .ok (.invokevirtual 162, 3) := by decide +kernel
theorem dX4_tell_151 : decode cX4_tell 151 = .ok (.aload_n 0, 1) := by decide +kernel
theorem dX4_tell_152 : decode cX4_tell 152 = .ok (.bipush 32, 2) := by decide +kernel
theorem dX4_tell_154 : decode cX4_tell 154 = .ok (.invokevirtual 147, 3) := by decide +kernel
theorem dX4_tell_157 : decode cX4_tell 157 = .ok (.aload_n 0, 1) := by decide +kernel
theorem dX4_tell_158 : decode cX4_tell 158 = .ok (.ldc2_w 168, 3) := by decide +kernel
theorem dX4_tell_161 : decode cX4_tell 161 = .ok (.invokevirtual 143, 3) := by decide +kernel
theorem dX4_tell_164 : decode cX4_tell 164 = .ok (.aload_n 0, 1) := by decide +kernel
theorem dX4_tell_165 : decode cX4_tell 165 = .ok (.bipush 32, 2) := by decide +kernel
theorem dX4_tell_167 : decode cX4_tell 167 = .ok (.invokevirtual 147, 3) := by decide +kernel
theorem dX4_tell_170 : decode cX4_tell 170 = .ok (.iload 4, 2) := by decide +kernel
theorem dX4_tell_172 : decode cX4_tell 172 = .ok (.bipush 15, 2) := by decide +kernel
theorem dX4_tell_174 : decode cX4_tell 174 = .ok (.iconst 3, 1) := by decide +kernel
theorem dX4_tell_175 : decode cX4_tell 175 = .ok (.iload 5, 2) := by decide +kernel
theorem dX4_tell_177 : decode cX4_tell 177 = .ok (.imul, 1) := by decide +kernel
theorem dX4_tell_178 : decode cX4_tell 178 = .ok (.iadd, 1) := by decide +kernel
theorem dX4_tell_179 : decode cX4_tell 179 = .ok (.ishr, 1) := by decide +kernel
theorem dX4_tell_180 : decode cX4_tell 180 = .ok (.bipush 7, 2) := by decide +kernel
theorem dX4_tell_182 : decode cX4_tell 182 = .ok (.iand, 1) := by decide +kernel
theorem dX4_tell_183 : decode cX4_tell 183 = .ok (.istore 6, 2) := by decide +kernel
theorem dX4_tell_185 : decode cX4_tell 185 = .ok (.aload_n 0, 1) := by decide +kernel
theorem dX4_tell_186 : decode cX4_tell 186 = .ok (.iload 6, 2) := by decide +kernel
theorem dX4_tell_188 : decode cX4_tell 188 = .ok (.aload_n 2, 1) := by decide +kernel
theorem dX4_tell_189 : decode cX4_tell 189 = .ok (.getfield 133, 3) := by decide +kernel
theorem dX4_tell_192 : decode cX4_tell 192 = .ok (.if_icmp .ge 13, 3) := by decide +kernel
theorem dX4_tell_195 : decode cX4_tell 195 = .ok (.aload_n 2, 1) := by decide +kernel
theorem dX4_tell_196 : decode cX4_tell 196 = .ok (.getfield 139, 3) := by decide +kernel
theorem dX4_tell_199 : decode cX4_tell 199 = .ok (.iload 6, 2) := by decide +kernel
theorem dX4_tell_201 : decode cX4_tell 201 = .ok (.laload, 1) := by decide +kernel
theorem dX4_tell_202 : decode cX4_tell 202 = .ok (.goto 4, 3) := by decide +kernel
theorem dX4_tell_205 : decode cX4_tell 205 = .ok (.lconst 0, 1) := by decide +kernel
theorem dX4_tell_206 : decode cX4_tell 206 = .ok (.invokevirtual 143, 3) := by decide +kernel
theorem dX4_tell_209 : decode cX4_tell 209 = .ok (.iinc 5 1, 3) := by decide +kernel
theorem dX4_tell_212 : decode cX4_tell 212 = .ok (.goto (-106), 3) := by decide +kernel
theorem dX4_tell_215 : decode cX4_tell 215 = .ok (.return_, 1) := by decide +kernel
theorem dX4_tellTerm_0 : decode cX4_tellTerm 0 = .ok (.iload_n 1, 1) := by decide +kernel
theorem dX4_tellTerm_1 : decode cX4_tellTerm 1 = .ok (.ifCond .ne 11, 3) := by decide +kernel
theorem dX4_tellTerm_4 : decode cX4_tellTerm 4 = .ok (.aload_n 0, 1) := by decide +kernel
theorem dX4_tellTerm_5 : decode cX4_tellTerm 5 = .ok (.lload_n 2, 1) := by decide +kernel
theorem dX4_tellTerm_6 : decode cX4_tellTerm 6 = .ok (.invokevirtual 143, 3) := by decide +kernel
theorem dX4_tellTerm_9 : decode cX4_tellTerm 9 = .ok (.goto 59, 3) := by decide +kernel
theorem dX4_tellTerm_12 : decode cX4_tellTerm 12 = .ok (.iload_n 1, 1) := by decide +kernel
theorem dX4_tellTerm_13 : decode cX4_tellTerm 13 = .ok (.iconst 1, 1) := by decide +kernel
theorem dX4_tellTerm_14 : decode cX4_tellTerm 14 = .ok (.if_icmp .ne 24, 3) := by decide +kernel
theorem dX4_tellTerm_17 : decode cX4_tellTerm 17 = .ok (.aload_n 0, 1) := by decide +kernel
theorem dX4_tellTerm_18 : decode cX4_tellTerm 18 = .ok (.ldc2_w 170, 3) := by decide +kernel
theorem dX4_tellTerm_21 : decode cX4_tellTerm 21 = .ok (.invokevirtual 143, 3) := by decide +kernel
theorem dX4_tellTerm_24 : decode cX4_tellTerm 24 = .ok (.aload_n 0, 1) := by decide +kernel
theorem dX4_tellTerm_25 : decode cX4_tellTerm 25 = .ok (.bipush 32, 2) := by decide +kernel
theorem dX4_tellTerm_27 : decode cX4_tellTerm 27 = .ok (.invokevirtual 147, 3) := by decide +kernel
theorem dX4_tellTerm_30 : decode cX4_tellTerm 30 = .ok (.aload_n 0, 1) := by decide +kernel
theorem dX4_tellTerm_31 : decode cX4_tellTerm 31 = .ok (.lload_n 2, 1) := by decide +kernel
theorem dX4_tellTerm_32 : decode cX4_tellTerm 32 = .ok (.invokevirtual 143, 3) := by decide +kernel
theorem dX4_tellTerm_35 : decode cX4_tellTerm 35 = .ok (.goto 33, 3) := by decide +kernel
theorem dX4_tellTerm_38 : decode cX4_tellTerm 38 = .ok (.aload_n 0, 1) := by decide +kernel
theorem dX4_tellTerm_39 : decode cX4_tellTerm 39 = .ok (.iload_n 1, 1) := by decide +kernel
theorem dX4_tellTerm_40 : decode cX4_tellTerm 40 = .ok (.iconst 2, 1) := by decide +kernel
theorem dX4_tellTerm_41 : decode cX4_tellTerm 41 = .ok (.if_icmp .ne 9, 3) := by decide +kernel
theorem dX4_tellTerm_44 : decode cX4_tellTerm 44 = .ok (.ldc2_w 172, 3) := by decide +kernel
theorem dX4_tellTerm_47 : decode cX4_tellTerm 47 = .ok (.goto 6, 3) := by decide +kernel
theorem dX4_tellTerm_50 : decode cX4_tellTerm 50 = .ok (.ldc2_w 174, 3) := by decide +kernel
theorem dX4_tellTerm_53 : decode cX4_tellTerm 53 = .ok (.invokevirtual 143, 3) := by decide +kernel
theorem dX4_tellTerm_56 : decode cX4_tellTerm 56 = .ok (.aload_n 0, 1) := by decide +kernel
theorem dX4_tellTerm_57 : decode cX4_tellTerm 57 = .ok (.bipush 32, 2) := by decide +kernel
theorem dX4_tellTerm_59 : decode cX4_tellTerm 59 = .ok (.invokevirtual 147, 3) := by decide +kernel
theorem dX4_tellTerm_62 : decode cX4_tellTerm 62 = .ok (.aload_n 0, 1) := by decide +kernel
theorem dX4_tellTerm_63 : decode cX4_tellTerm 63 = .ok (.lload_n 2, 1) := by decide +kernel
theorem dX4_tellTerm_64 : decode cX4_tellTerm 64 = .ok (.l2i, 1) := by decide +kernel
theorem dX4_tellTerm_65 : decode cX4_tellTerm 65 = .ok (.invokevirtual 176, 3) := by decide +kernel
theorem dX4_tellTerm_68 : decode cX4_tellTerm 68 = .ok (.return_, 1) := by decide +kernel
theorem dX4_putComma_0 : decode cX4_putComma 0 = .ok (.aload_n 0, 1) := by decide +kernel
theorem dX4_putComma_1 : decode cX4_putComma 1 = .ok (.getfield 130, 3) := by decide +kernel
theorem dX4_putComma_4 : decode cX4_putComma 4 = .ok (.ifCond .le 21, 3) := by decide +kernel
theorem dX4_putComma_7 : decode cX4_putComma 7 = .ok (.aload_n 0, 1) := by decide +kernel
theorem dX4_putComma_8 : decode cX4_putComma 8 = .ok (.bipush 32, 2) := by decide +kernel
theorem dX4_putComma_10 : decode cX4_putComma 10 = .ok (.invokevirtual 147, 3) := by decide +kernel
theorem dX4_putComma_13 : decode cX4_putComma 13 = .ok (.aload_n 0, 1) := by decide +kernel
theorem dX4_putComma_14 : decode cX4_putComma 14 = .ok (.bipush 44, 2) := by decide +kernel
theorem dX4_putComma_16 : decode cX4_putComma 16 = .ok (.invokevirtual 147, 3) := by decide +kernel
theorem dX4_putComma_19 : decode cX4_putComma 19 = .ok (.aload_n 0, 1) := by decide +kernel
theorem dX4_putComma_20 : decode cX4_putComma 20 = .ok (.bipush 32, 2) := by decide +kernel
theorem dX4_putComma_22 : decode cX4_putComma 22 = .ok (.invokevirtual 147, 3) := by decide +kernel
theorem dX4_putComma_25 : decode cX4_putComma 25 = .ok (.return_, 1) := by decide +kernel
theorem dX4_putWord_0 : decode cX4_putWord 0 = .ok (.lload_n 1, 1) := by decide +kernel
theorem dX4_putWord_1 : decode cX4_putWord 1 = .ok (.invokestatic 179, 3) := by decide +kernel
theorem dX4_putWord_4 : decode cX4_putWord 4 = .ok (.iconst 1, 1) := by decide +kernel
theorem dX4_putWord_5 : decode cX4_putWord 5 = .ok (.isub, 1) := by decide +kernel
theorem dX4_putWord_6 : decode cX4_putWord 6 = .ok (.istore_n 3, 1) := by decide +kernel
theorem dX4_putWord_7 : decode cX4_putWord 7 = .ok (.iload_n 3, 1) := by decide +kernel
theorem dX4_putWord_8 : decode cX4_putWord 8 = .ok (.ifCond .lt 28, 3) := by decide +kernel
theorem dX4_putWord_11 : decode cX4_putWord 11 = .ok (.aload_n 0, 1) := by decide +kernel
theorem dX4_putWord_12 : decode cX4_putWord 12 = .ok (.bipush 96, 2) := by decide +kernel
theorem dX4_putWord_14 : decode cX4_putWord 14 = .ok (.lload_n 1, 1) := by decide +kernel
theorem dX4_putWord_15 : decode cX4_putWord 15 = .ok (.getstatic 183, 3) := by decide +kernel
theorem dX4_putWord_18 : decode cX4_putWord 18 = .ok (.iload_n 3, 1) := by decide +kernel
theorem dX4_putWord_19 : decode cX4_putWord 19 = .ok (.laload, 1) := by decide +kernel
theorem dX4_putWord_20 : decode cX4_putWord 20 = .ok (.ldiv, 1) := by decide +kernel
theorem dX4_putWord_21 : decode cX4_putWord 21 = .ok (.ldc2_w 186, 3) := by decide +kernel
theorem dX4_putWord_24 : decode cX4_putWord 24 = .ok (.lrem, 1) := by decide +kernel
theorem dX4_putWord_25 : decode cX4_putWord 25 = .ok (.l2i, 1) := by decide +kernel
theorem dX4_putWord_26 : decode cX4_putWord 26 = .ok (.iadd, 1) := by decide +kernel
theorem dX4_putWord_27 : decode cX4_putWord 27 = .ok (.invokevirtual 147, 3) := by decide +kernel
theorem dX4_putWord_30 : decode cX4_putWord 30 = .ok (.iinc 3 (-1), 3) := by decide +kernel
theorem dX4_putWord_33 : decode cX4_putWord 33 = .ok (.goto (-26), 3) := by decide +kernel
theorem dX4_putWord_36 : decode cX4_putWord 36 = .ok (.return_, 1) := by decide +kernel
theorem dX4_putNumber_0 : decode cX4_putNumber 0 = .ok (.sipush 1000, 3) := by decide +kernel
theorem dX4_putNumber_3 : decode cX4_putNumber 3 = .ok (.istore_n 2, 1) := by decide +kernel
theorem dX4_putNumber_4 : decode cX4_putNumber 4 = .ok (.iload_n 2, 1) := by decide +kernel
theorem dX4_putNumber_5 : decode cX4_putNumber 5 = .ok (.ifCond .le 34, 3) := by decide +kernel
theorem dX4_putNumber_8 : decode cX4_putNumber 8 = .ok (.iload_n 1, 1) := by decide +kernel
theorem dX4_putNumber_9 : decode cX4_putNumber 9 = .ok (.iload_n 2, 1) := by decide +kernel
theorem dX4_putNumber_10 : decode cX4_putNumber 10 = .ok (.if_icmp .ge 8, 3) := by decide +kernel
theorem dX4_putNumber_13 : decode cX4_putNumber 13 = .ok (.iload_n 2, 1) := by decide +kernel
theorem dX4_putNumber_14 : decode cX4_putNumber 14 = .ok (.iconst 1, 1) := by decide +kernel
theorem dX4_putNumber_15 : decode cX4_putNumber 15 = .ok (.if_icmp .ne 16, 3) := by decide +kernel
theorem dX4_putNumber_18 : decode cX4_putNumber 18 = .ok (.aload_n 0, 1) := by decide +kernel
theorem dX4_putNumber_19 : decode cX4_putNumber 19 = .ok (.bipush 48, 2) := by decide +kernel
theorem dX4_putNumber_21 : decode cX4_putNumber 21 = .ok (.iload_n 1, 1) := by decide +kernel
theorem dX4_putNumber_22 : decode cX4_putNumber 22 = .ok (.iload_n 2, 1) := by decide +kernel
theorem dX4_putNumber_23 : decode cX4_putNumber 23 = .ok (.idiv, 1) := by decide +kernel
theorem dX4_putNumber_24 : decode cX4_putNumber 24 = .ok (.bipush 10, 2) := by decide +kernel
theorem dX4_putNumber_26 : decode cX4_putNumber 26 = .ok (.irem, 1) := by decide +kernel
theorem dX4_putNumber_27 : decode cX4_putNumber 27 = .ok (.iadd, 1) := by decide +kernel
theorem dX4_putNumber_28 : decode cX4_putNumber 28 = .ok (.invokevirtual 147, 3) := by decide +kernel
theorem dX4_putNumber_31 : decode cX4_putNumber 31 = .ok (.iload_n 2, 1) := by decide +kernel
theorem dX4_putNumber_32 : decode cX4_putNumber 32 = .ok (.bipush 10, 2) := by decide +kernel
theorem dX4_putNumber_34 : decode cX4_putNumber 34 = .ok (.idiv, 1) := by decide +kernel
theorem dX4_putNumber_35 : decode cX4_putNumber 35 = .ok (.istore_n 2, 1) := by decide +kernel
theorem dX4_putNumber_36 : decode cX4_putNumber 36 = .ok (.goto (-32), 3) := by decide +kernel
theorem dX4_putNumber_39 : decode cX4_putNumber 39 = .ok (.return_, 1) := by decide +kernel
theorem dX4_put_0 : decode cX4_put 0 = .ok (.aload_n 0, 1) := by decide +kernel
theorem dX4_put_1 : decode cX4_put 1 = .ok (.getfield 130, 3) := by decide +kernel
theorem dX4_put_4 : decode cX4_put 4 = .ok (.sipush 200, 3) := by decide +kernel
theorem dX4_put_7 : decode cX4_put 7 = .ok (.if_icmp .ge 21, 3) := by decide +kernel
theorem dX4_put_10 : decode cX4_put 10 = .ok (.aload_n 0, 1) := by decide +kernel
theorem dX4_put_11 : decode cX4_put 11 = .ok (.getfield 38, 3) := by decide +kernel
theorem dX4_put_14 : decode cX4_put 14 = .ok (.aload_n 0, 1) := by decide +kernel
theorem dX4_put_15 : decode cX4_put 15 = .ok (.dup, 1) := by decide +kernel
theorem dX4_put_16 : decode cX4_put 16 = .ok (.getfield 130, 3) := by decide +kernel
theorem dX4_put_19 : decode cX4_put 19 = .ok (.dup_x1, 1) := by decide +kernel
theorem dX4_put_20 : decode cX4_put 20 = .ok (.iconst 1, 1) := by decide +kernel
theorem dX4_put_21 : decode cX4_put 21 = .ok (.iadd, 1) := by decide +kernel
theorem dX4_put_22 : decode cX4_put 22 = .ok (.putfield 130, 3) := by decide +kernel
theorem dX4_put_25 : decode cX4_put 25 = .ok (.iload_n 1, 1) := by decide +kernel
theorem dX4_put_26 : decode cX4_put 26 = .ok (.i2b, 1) := by decide +kernel
theorem dX4_put_27 : decode cX4_put 27 = .ok (.bastore, 1) := by decide +kernel
theorem dX4_put_28 : decode cX4_put 28 = .ok (.return_, 1) := by decide +kernel
