theorem dX9_init_0 : decode cX9_init 0 = .ok (.aload_n 0, 1) := by decide +kernel
theorem dX9_init_1 : decode cX9_init 1 = .ok (.invokespecial 3, 3) := by decide +kernel
theorem dX9_init_4 : decode cX9_init 4 = .ok (.aload_n 0, 1) := by decide +kernel
theorem dX9_init_5 : decode cX9_init 5 = .ok (.sipush 900, 3) := by decide +kernel
theorem dX9_init_8 : decode cX9_init 8 = .ok (.newarray .int, 2) := by decide +kernel
theorem dX9_init_10 : decode cX9_init 10 = .ok (.putfield 11, 3) := by decide +kernel
theorem dX9_init_13 : decode cX9_init 13 = .ok (.aload_n 0, 1) := by decide +kernel
theorem dX9_init_14 : decode cX9_init 14 = .ok (.bipush 30, 2) := by decide +kernel
theorem dX9_init_16 : decode cX9_init 16 = .ok (.newarray .int, 2) := by decide +kernel
theorem dX9_init_18 : decode cX9_init 18 = .ok (.putfield 17, 3) := by decide +kernel
theorem dX9_init_21 : decode cX9_init 21 = .ok (.return_, 1) := by decide +kernel
theorem dX9_fill_0 : decode cX9_fill 0 = .ok (.aload_n 0, 1) := by decide +kernel
theorem dX9_fill_1 : decode cX9_fill 1 = .ok (.getfield 11, 3) := by decide +kernel
theorem dX9_fill_4 : decode cX9_fill 4 = .ok (.iconst 0, 1) := by decide +kernel
theorem dX9_fill_5 : decode cX9_fill 5 = .ok (.invokestatic 20, 3) := by decide +kernel
theorem dX9_fill_8 : decode cX9_fill 8 = .ok (.aload_n 0, 1) := by decide +kernel
theorem dX9_fill_9 : decode cX9_fill 9 = .ok (.getfield 17, 3) := by decide +kernel
theorem dX9_fill_12 : decode cX9_fill 12 = .ok (.iconst 0, 1) := by decide +kernel
theorem dX9_fill_13 : decode cX9_fill 13 = .ok (.invokestatic 20, 3) := by decide +kernel
theorem dX9_fill_16 : decode cX9_fill 16 = .ok (.aload_n 0, 1) := by decide +kernel
theorem dX9_fill_17 : decode cX9_fill 17 = .ok (.iconst 0, 1) := by decide +kernel
theorem dX9_fill_18 : decode cX9_fill 18 = .ok (.putfield 26, 3) := by decide +kernel
theorem dX9_fill_21 : decode cX9_fill 21 = .ok (.aload_n 0, 1) := by decide +kernel
theorem dX9_fill_22 : decode cX9_fill 22 = .ok (.iconst 0, 1) := by decide +kernel
theorem dX9_fill_23 : decode cX9_fill 23 = .ok (.putfield 30, 3) := by decide +kernel
theorem dX9_fill_26 : decode cX9_fill 26 = .ok (.iconst 0, 1) := by decide +kernel
theorem dX9_fill_27 : decode cX9_fill 27 = .ok (.istore 4, 2) := by decide +kernel
theorem dX9_fill_29 : decode cX9_fill 29 = .ok (.iload 4, 2) := by decide +kernel
theorem dX9_fill_31 : decode cX9_fill 31 = .ok (.aload_n 1, 1) := by decide +kernel
theorem dX9_fill_32 : decode cX9_fill 32 = .ok (.getfield 33, 3) := by decide +kernel
theorem dX9_fill_35 : decode cX9_fill 35 = .ok (.if_icmp .ge 43, 3) := by decide +kernel
theorem dX9_fill_38 : decode cX9_fill 38 = .ok (.iconst 0, 1) := by decide +kernel
theorem dX9_fill_39 : decode cX9_fill 39 = .ok (.istore 5, 2) := by decide +kernel
theorem dX9_fill_41 : decode cX9_fill 41 = .ok (.iload 5, 2) := by decide +kernel
theorem dX9_fill_43 : decode cX9_fill 43 = .ok (.iconst 4, 1) := by decide +kernel
theorem dX9_fill_44 : decode cX9_fill 44 = .ok (.if_icmp .ge 28, 3) := by decide +kernel
theorem dX9_fill_47 : decode cX9_fill 47 = .ok (.iload_n 3, 1) := by decide +kernel
theorem dX9_fill_48 : decode cX9_fill 48 = .ok (.iload 4, 2) := by decide +kernel
theorem dX9_fill_50 : decode cX9_fill 50 = .ok (.ishr, 1) := by decide +kernel
theorem dX9_fill_51 : decode cX9_fill 51 = .ok (.iconst 1, 1) := by decide +kernel
theorem dX9_fill_52 : decode cX9_fill 52 = .ok (.iand, 1) := by decide +kernel
theorem dX9_fill_53 : decode cX9_fill 53 = .ok (.ifCond .eq 19, 3) := by decide +kernel
theorem dX9_fill_56 : decode cX9_fill 56 = .ok (.aload_n 0, 1) := by decide +kernel
theorem dX9_fill_57 : decode cX9_fill 57 = .ok (.aload_n 1, 1) := by decide +kernel
theorem dX9_fill_58 : decode cX9_fill 58 = .ok (.iload_n 3, 1) := by decide +kernel
theorem dX9_fill_59 : decode cX9_fill 59 = .ok (.iload 4, 2) := by decide +kernel
theorem dX9_fill_61 : decode cX9_fill 61 = .ok (.iload 5, 2) := by decide +kernel
theorem dX9_fill_63 : decode cX9_fill 63 = .ok (.invokevirtual 36, 3) := by decide +kernel
theorem dX9_fill_66 : decode cX9_fill 66 = .ok (.iinc 5 1, 3) := by decide +kernel
theorem dX9_fill_69 : decode cX9_fill 69 = .ok (.goto (-28), 3) := by decide +kernel
theorem dX9_fill_72 : decode cX9_fill 72 = .ok (.iinc 4 1, 3) := by decide +kernel
theorem dX9_fill_75 : decode cX9_fill 75 = .ok (.goto (-46), 3) := by decide +kernel
theorem dX9_fill_78 : decode cX9_fill 78 = .ok (.iconst 0, 1) := by decide +kernel
theorem dX9_fill_79 : decode cX9_fill 79 = .ok (.istore 4, 2) := by decide +kernel
theorem dX9_fill_81 : decode cX9_fill 81 = .ok (.iload 4, 2) := by decide +kernel
theorem dX9_fill_83 : decode cX9_fill 83 = .ok (.aload_n 2, 1) := by decide +kernel
theorem dX9_fill_84 : decode cX9_fill 84 = .ok (.getfield 40, 3) := by decide +kernel
theorem dX9_fill_87 : decode cX9_fill 87 = .ok (.if_icmp .ge 27, 3) := by decide +kernel
theorem dX9_fill_90 : decode cX9_fill 90 = .ok (.aload_n 0, 1) := by decide +kernel
theorem dX9_fill_91 : decode cX9_fill 91 = .ok (.aload_n 1, 1) := by decide +kernel
theorem dX9_fill_92 : decode cX9_fill 92 = .ok (.iload_n 3, 1) := by decide +kernel
theorem dX9_fill_93 : decode cX9_fill 93 = .ok (.aload_n 2, 1) := by decide +kernel
theorem dX9_fill_94 : decode cX9_fill 94 = .ok (.iload 4, 2) := by decide +kernel
theorem dX9_fill_96 : decode cX9_fill 96 = .ok (.invokevirtual 45, 3) := by decide +kernel
theorem dX9_fill_99 : decode cX9_fill 99 = .ok (.aload_n 2, 1) := by decide +kernel
theorem dX9_fill_100 : decode cX9_fill 100 = .ok (.iload 4, 2) := by decide +kernel
theorem dX9_fill_102 : decode cX9_fill 102 = .ok (.invokevirtual 49, 3) := by decide +kernel
theorem dX9_fill_105 : decode cX9_fill 105 = .ok (.invokevirtual 52, 3) := by decide +kernel
theorem dX9_fill_108 : decode cX9_fill 108 = .ok (.iinc 4 1, 3) := by decide +kernel
theorem dX9_fill_111 : decode cX9_fill 111 = .ok (.goto (-30), 3) := by decide +kernel
theorem dX9_fill_114 : decode cX9_fill 114 = .ok (.return_, 1) := by decide +kernel
theorem dX9_priceOf_0 : decode cX9_priceOf 0 = .ok (.iload_n 1, 1) := by decide +kernel
theorem dX9_priceOf_1 : decode cX9_priceOf 1 = .ok (.ifCond .lt 23, 3) := by decide +kernel
theorem dX9_priceOf_4 : decode cX9_priceOf 4 = .ok (.iload_n 1, 1) := by decide +kernel
theorem dX9_priceOf_5 : decode cX9_priceOf 5 = .ok (.bipush 30, 2) := by decide +kernel
theorem dX9_priceOf_7 : decode cX9_priceOf 7 = .ok (.if_icmp .ge 17, 3) := by decide +kernel
theorem dX9_priceOf_10 : decode cX9_priceOf 10 = .ok (.iload_n 2, 1) := by decide +kernel
theorem dX9_priceOf_11 : decode cX9_priceOf 11 = .ok (.ifCond .lt 13, 3) := by decide +kernel
theorem dX9_priceOf_14 : decode cX9_priceOf 14 = .ok (.iload_n 2, 1) := by decide +kernel
theorem dX9_priceOf_15 : decode cX9_priceOf 15 = .ok (.bipush 30, 2) := by decide +kernel
theorem dX9_priceOf_17 : decode cX9_priceOf 17 = .ok (.if_icmp .ge 7, 3) := by decide +kernel
theorem dX9_priceOf_20 : decode cX9_priceOf 20 = .ok (.iconst 1, 1) := by decide +kernel
theorem dX9_priceOf_21 : decode cX9_priceOf 21 = .ok (.goto 4, 3) := by decide +kernel
theorem dX9_priceOf_24 : decode cX9_priceOf 24 = .ok (.iconst 0, 1) := by decide +kernel
theorem dX9_priceOf_25 : decode cX9_priceOf 25 = .ok (.istore_n 3, 1) := by decide +kernel
theorem dX9_priceOf_26 : decode cX9_priceOf 26 = .ok (.iload_n 3, 1) := by decide +kernel
theorem dX9_priceOf_27 : decode cX9_priceOf 27 = .ok (.ifCond .eq 17, 3) := by decide +kernel
theorem dX9_priceOf_30 : decode cX9_priceOf 30 = .ok (.aload_n 0, 1) := by decide +kernel
theorem dX9_priceOf_31 : decode cX9_priceOf 31 = .ok (.getfield 11, 3) := by decide +kernel
theorem dX9_priceOf_34 : decode cX9_priceOf 34 = .ok (.iload_n 1, 1) := by decide +kernel
theorem dX9_priceOf_35 : decode cX9_priceOf 35 = .ok (.bipush 30, 2) := by decide +kernel
theorem dX9_priceOf_37 : decode cX9_priceOf 37 = .ok (.imul, 1) := by decide +kernel
theorem dX9_priceOf_38 : decode cX9_priceOf 38 = .ok (.iload_n 2, 1) := by decide +kernel
theorem dX9_priceOf_39 : decode cX9_priceOf 39 = .ok (.iadd, 1) := by decide +kernel
theorem dX9_priceOf_40 : decode cX9_priceOf 40 = .ok (.iaload, 1) := by decide +kernel
theorem dX9_priceOf_41 : decode cX9_priceOf 41 = .ok (.goto 4, 3) := by decide +kernel
theorem dX9_priceOf_44 : decode cX9_priceOf 44 = .ok (.iconst 0, 1) := by decide +kernel
theorem dX9_priceOf_45 : decode cX9_priceOf 45 = .ok (.ireturn, 1) := by decide +kernel
theorem dX9_addKey_0 : decode cX9_addKey 0 = .ok (.aload_n 1, 1) := by decide +kernel
theorem dX9_addKey_1 : decode cX9_addKey 1 = .ok (.iload_n 3, 1) := by decide +kernel
theorem dX9_addKey_2 : decode cX9_addKey 2 = .ok (.iload 4, 2) := by decide +kernel
theorem dX9_addKey_4 : decode cX9_addKey 4 = .ok (.iload_n 2, 1) := by decide +kernel
theorem dX9_addKey_5 : decode cX9_addKey 5 = .ok (.invokevirtual 55, 3) := by decide +kernel
theorem dX9_addKey_8 : decode cX9_addKey 8 = .ok (.istore 5, 2) := by decide +kernel
theorem dX9_addKey_10 : decode cX9_addKey 10 = .ok (.iload 5, 2) := by decide +kernel
theorem dX9_addKey_12 : decode cX9_addKey 12 = .ok (.iconst (-1), 1) := by decide +kernel
theorem dX9_addKey_13 : decode cX9_addKey 13 = .ok (.if_icmp .ne 4, 3) := by decide +kernel
theorem dX9_addKey_16 : decode cX9_addKey 16 = .ok (.return_, 1) := by decide +kernel
theorem dX9_addKey_17 : decode cX9_addKey 17 = .ok (.iconst 0, 1) := by decide +kernel
theorem dX9_addKey_18 : decode cX9_addKey 18 = .ok (.istore 6, 2) := by decide +kernel
theorem dX9_addKey_20 : decode cX9_addKey 20 = .ok (.iconst 0, 1) := by decide +kernel
theorem dX9_addKey_21 : decode cX9_addKey 21 = .ok (.istore 7, 2) := by decide +kernel
theorem dX9_addKey_23 : decode cX9_addKey 23 = .ok (.iload 7, 2) := by decide +kernel
theorem dX9_addKey_25 : decode cX9_addKey 25 = .ok (.aload_n 1, 1) := by decide +kernel
theorem dX9_addKey_26 : decode cX9_addKey 26 = .ok (.getfield 33, 3) := by decide +kernel
theorem dX9_addKey_29 : decode cX9_addKey 29 = .ok (.if_icmp .ge 63, 3) := by decide +kernel
theorem dX9_addKey_32 : decode cX9_addKey 32 = .ok (.iload_n 2, 1) := by decide +kernel
theorem dX9_addKey_33 : decode cX9_addKey 33 = .ok (.iload 7, 2) := by decide +kernel
theorem dX9_addKey_35 : decode cX9_addKey 35 = .ok (.ishr, 1) := by decide +kernel
theorem dX9_addKey_36 : decode cX9_addKey 36 = .ok (.iconst 1, 1) := by decide +kernel
theorem dX9_addKey_37 : decode cX9_addKey 37 = .ok (.iand, 1) := by decide +kernel
theorem dX9_addKey_38 : decode cX9_addKey 38 = .ok (.ifCond .eq 23, 3) := by decide +kernel
theorem dX9_addKey_41 : decode cX9_addKey 41 = .ok (.aload_n 1, 1) := by decide +kernel
theorem dX9_addKey_42 : decode cX9_addKey 42 = .ok (.getfield 59, 3) := by decide +kernel
theorem dX9_addKey_45 : decode cX9_addKey 45 = .ok (.iload 7, 2) := by decide +kernel
theorem dX9_addKey_47 : decode cX9_addKey 47 = .ok (.iaload, 1) := by decide +kernel
theorem dX9_addKey_48 : decode cX9_addKey 48 = .ok (.aload_n 1, 1) := by decide +kernel
theorem dX9_addKey_49 : decode cX9_addKey 49 = .ok (.getfield 59, 3) := by decide +kernel
theorem dX9_addKey_52 : decode cX9_addKey 52 = .ok (.iload_n 3, 1) := by decide +kernel
theorem dX9_addKey_53 : decode cX9_addKey 53 = .ok (.iaload, 1) := by decide +kernel
theorem dX9_addKey_54 : decode cX9_addKey 54 = .ok (.if_icmp .ne 7, 3) := by decide +kernel
theorem dX9_addKey_57 : decode cX9_addKey 57 = .ok (.iconst 1, 1) := by decide +kernel
theorem dX9_addKey_58 : decode cX9_addKey 58 = .ok (.goto 4, 3) := by decide +kernel
theorem dX9_addKey_61 : decode cX9_addKey 61 = .ok (.iconst 0, 1) := by decide +kernel
theorem dX9_addKey_62 : decode cX9_addKey 62 = .ok (.istore 8, 2) := by decide +kernel
theorem dX9_addKey_64 : decode cX9_addKey 64 = .ok (.iload 8, 2) := by decide +kernel
theorem dX9_addKey_66 : decode cX9_addKey 66 = .ok (.ifCond .eq 20, 3) := by decide +kernel
theorem dX9_addKey_69 : decode cX9_addKey 69 = .ok (.aload_n 1, 1) := by decide +kernel
theorem dX9_addKey_70 : decode cX9_addKey 70 = .ok (.iload 7, 2) := by decide +kernel
theorem dX9_addKey_72 : decode cX9_addKey 72 = .ok (.iload 4, 2) := by decide +kernel
theorem dX9_addKey_74 : decode cX9_addKey 74 = .ok (.iload_n 2, 1) := by decide +kernel
theorem dX9_addKey_75 : decode cX9_addKey 75 = .ok (.invokevirtual 55, 3) := by decide +kernel
theorem dX9_addKey_78 : decode cX9_addKey 78 = .ok (.iload 5, 2) := by decide +kernel
theorem dX9_addKey_80 : decode cX9_addKey 80 = .ok (.if_icmp .ne 6, 3) := by decide +kernel
theorem dX9_addKey_83 : decode cX9_addKey 83 = .ok (.iinc 6 1, 3) := by decide +kernel
theorem dX9_addKey_86 : decode cX9_addKey 86 = .ok (.iinc 7 1, 3) := by decide +kernel
theorem dX9_addKey_89 : decode cX9_addKey 89 = .ok (.goto (-66), 3) := by decide +kernel
theorem dX9_addKey_92 : decode cX9_addKey 92 = .ok (.aload_n 0, 1) := by decide +kernel
theorem dX9_addKey_93 : decode cX9_addKey 93 = .ok (.iload_n 3, 1) := by decide +kernel
theorem dX9_addKey_94 : decode cX9_addKey 94 = .ok (.iload 5, 2) := by decide +kernel
theorem dX9_addKey_96 : decode cX9_addKey 96 = .ok (.iconst 1, 1) := by decide +kernel
theorem dX9_addKey_97 : decode cX9_addKey 97 = .ok (.iload 6, 2) := by decide +kernel
theorem dX9_addKey_99 : decode cX9_addKey 99 = .ok (.iconst 3, 1) := by decide +kernel
theorem dX9_addKey_100 : decode cX9_addKey 100 = .ok (.idiv, 1) := by decide +kernel
theorem dX9_addKey_101 : decode cX9_addKey 101 = .ok (.iadd, 1) := by decide +kernel
theorem dX9_addKey_102 : decode cX9_addKey 102 = .ok (.invokevirtual 62, 3) := by decide +kernel
theorem dX9_addKey_105 : decode cX9_addKey 105 = .ok (.return_, 1) := by decide +kernel
theorem dX9_addLet_0 : decode cX9_addLet 0 = .ok (.iconst 0, 1) := by decide +kernel
theorem dX9_addLet_1 : decode cX9_addLet 1 = .ok (.istore 5, 2) := by decide +kernel
theorem dX9_addLet_3 : decode cX9_addLet 3 = .ok (.iload 5, 2) := by decide +kernel
theorem dX9_addLet_5 : decode cX9_addLet 5 = .ok (.aload_n 1, 1) := by decide +kernel
theorem dX9_addLet_6 : decode cX9_addLet 6 = .ok (.getfield 33, 3) := by decide +kernel
theorem dX9_addLet_9 : decode cX9_addLet 9 = .ok (.if_icmp .ge 68, 3) := by decide +kernel
theorem dX9_addLet_12 : decode cX9_addLet 12 = .ok (.aload_n 1, 1) := by decide +kernel
theorem dX9_addLet_13 : decode cX9_addLet 13 = .ok (.iload_n 2, 1) := by decide +kernel
theorem dX9_addLet_14 : decode cX9_addLet 14 = .ok (.iload 5, 2) := by decide +kernel
theorem dX9_addLet_16 : decode cX9_addLet 16 = .ok (.iload_n 3, 1) := by decide +kernel
theorem dX9_addLet_17 : decode cX9_addLet 17 = .ok (.invokestatic 66, 3) := by decide +kernel
theorem dX9_addLet_20 : decode cX9_addLet 20 = .ok (.lstore 6, 2) := by decide +kernel
theorem dX9_addLet_22 : decode cX9_addLet 22 = .ok (.iconst 0, 1) := by decide +kernel
theorem dX9_addLet_23 : decode cX9_addLet 23 = .ok (.istore 8, 2) := by decide +kernel
theorem dX9_addLet_25 : decode cX9_addLet 25 = .ok (.iload 8, 2) := by decide +kernel
theorem dX9_addLet_27 : decode cX9_addLet 27 = .ok (.aload_n 1, 1) := by decide +kernel
theorem dX9_addLet_28 : decode cX9_addLet 28 = .ok (.getfield 33, 3) := by decide +kernel
theorem dX9_addLet_31 : decode cX9_addLet 31 = .ok (.if_icmp .ge 40, 3) := by decide +kernel
theorem dX9_addLet_34 : decode cX9_addLet 34 = .ok (.lload 6, 2) := by decide +kernel
theorem dX9_addLet_36 : decode cX9_addLet 36 = .ok (.lconst 0, 1) := by decide +kernel
theorem dX9_addLet_37 : decode cX9_addLet 37 = .ok (.lcmp, 1) := by decide +kernel
theorem dX9_addLet_38 : decode cX9_addLet 38 = .ok (.ifCond .eq 33, 3) := by decide +kernel
theorem dX9_addLet_41 : decode cX9_addLet 41 = .ok (.aload_n 1, 1) := by decide +kernel
theorem dX9_addLet_42 : decode cX9_addLet 42 = .ok (.iload_n 2, 1) := by decide +kernel
theorem dX9_addLet_43 : decode cX9_addLet 43 = .ok (.iload 8, 2) := by decide +kernel
theorem dX9_addLet_45 : decode cX9_addLet 45 = .ok (.iload 4, 2) := by decide +kernel
theorem dX9_addLet_47 : decode cX9_addLet 47 = .ok (.invokestatic 66, 3) := by decide +kernel
theorem dX9_addLet_50 : decode cX9_addLet 50 = .ok (.lload 6, 2) := by decide +kernel
theorem dX9_addLet_52 : decode cX9_addLet 52 = .ok (.lcmp, 1) := by decide +kernel
theorem dX9_addLet_53 : decode cX9_addLet 53 = .ok (.ifCond .ne 12, 3) := by decide +kernel
theorem dX9_addLet_56 : decode cX9_addLet 56 = .ok (.aload_n 0, 1) := by decide +kernel
theorem dX9_addLet_57 : decode cX9_addLet 57 = .ok (.iload 5, 2) := by decide +kernel
theorem dX9_addLet_59 : decode cX9_addLet 59 = .ok (.iload 8, 2) := by decide +kernel
theorem dX9_addLet_61 : decode cX9_addLet 61 = .ok (.iconst 3, 1) := by decide +kernel
theorem dX9_addLet_62 : decode cX9_addLet 62 = .ok (.invokevirtual 62, 3) := by decide +kernel
theorem dX9_addLet_65 : decode cX9_addLet 65 = .ok (.iinc 8 1, 3) := by decide +kernel
theorem dX9_addLet_68 : decode cX9_addLet 68 = .ok (.goto (-43), 3) := by decide +kernel
theorem dX9_addLet_71 : decode cX9_addLet 71 = .ok (.iinc 5 1, 3) := by decide +kernel
theorem dX9_addLet_74 : decode cX9_addLet 74 = .ok (.goto (-71), 3) := by decide +kernel
theorem dX9_addLet_77 : decode cX9_addLet 77 = .ok (.return_, 1) := by decide +kernel
theorem dX9_add_0 : decode cX9_add 0 = .ok (.aload_n 0, 1) := by decide +kernel
theorem dX9_add_1 : decode cX9_add 1 = .ok (.iload_n 1, 1) := by decide +kernel
theorem dX9_add_2 : decode cX9_add 2 = .ok (.iload_n 2, 1) := by decide +kernel
theorem dX9_add_3 : decode cX9_add 3 = .ok (.invokevirtual 70, 3) := by decide +kernel
theorem dX9_add_6 : decode cX9_add 6 = .ok (.istore 4, 2) := by decide +kernel
theorem dX9_add_8 : decode cX9_add 8 = .ok (.iload_n 1, 1) := by decide +kernel
theorem dX9_add_9 : decode cX9_add 9 = .ok (.iload_n 2, 1) := by decide +kernel
theorem dX9_add_10 : decode cX9_add 10 = .ok (.if_icmp .eq 14, 3) := by decide +kernel
theorem dX9_add_13 : decode cX9_add 13 = .ok (.iload 4, 2) := by decide +kernel
theorem dX9_add_15 : decode cX9_add 15 = .ok (.ifCond .eq 10, 3) := by decide +kernel
theorem dX9_add_18 : decode cX9_add 18 = .ok (.iload 4, 2) := by decide +kernel
theorem dX9_add_20 : decode cX9_add 20 = .ok (.iload_n 3, 1) := by decide +kernel
theorem dX9_add_21 : decode cX9_add 21 = .ok (.if_icmp .gt 4, 3) := by decide +kernel
theorem dX9_add_24 : decode cX9_add 24 = .ok (.return_, 1) := by decide +kernel
theorem dX9_add_25 : decode cX9_add 25 = .ok (.aload_n 0, 1) := by decide +kernel
theorem dX9_add_26 : decode cX9_add 26 = .ok (.getfield 11, 3) := by decide +kernel
theorem dX9_add_29 : decode cX9_add 29 = .ok (.iload_n 1, 1) := by decide +kernel
theorem dX9_add_30 : decode cX9_add 30 = .ok (.bipush 30, 2) := by decide +kernel
theorem dX9_add_32 : decode cX9_add 32 = .ok (.imul, 1) := by decide +kernel
theorem dX9_add_33 : decode cX9_add 33 = .ok (.iload_n 2, 1) := by decide +kernel
theorem dX9_add_34 : decode cX9_add 34 = .ok (.iadd, 1) := by decide +kernel
theorem dX9_add_35 : decode cX9_add 35 = .ok (.iload_n 3, 1) := by decide +kernel
theorem dX9_add_36 : decode cX9_add 36 = .ok (.iastore, 1) := by decide +kernel
theorem dX9_add_37 : decode cX9_add 37 = .ok (.aload_n 0, 1) := by decide +kernel
theorem dX9_add_38 : decode cX9_add 38 = .ok (.getfield 11, 3) := by decide +kernel
theorem dX9_add_41 : decode cX9_add 41 = .ok (.iload_n 2, 1) := by decide +kernel
theorem dX9_add_42 : decode cX9_add 42 = .ok (.bipush 30, 2) := by decide +kernel
theorem dX9_add_44 : decode cX9_add 44 = .ok (.imul, 1) := by decide +kernel
theorem dX9_add_45 : decode cX9_add 45 = .ok (.iload_n 1, 1) := by decide +kernel
theorem dX9_add_46 : decode cX9_add 46 = .ok (.iadd, 1) := by decide +kernel
theorem dX9_add_47 : decode cX9_add 47 = .ok (.iload_n 3, 1) := by decide +kernel
theorem dX9_add_48 : decode cX9_add 48 = .ok (.iastore, 1) := by decide +kernel
theorem dX9_add_49 : decode cX9_add 49 = .ok (.aload_n 0, 1) := by decide +kernel
theorem dX9_add_50 : decode cX9_add 50 = .ok (.getfield 17, 3) := by decide +kernel
theorem dX9_add_53 : decode cX9_add 53 = .ok (.iload_n 1, 1) := by decide +kernel
theorem dX9_add_54 : decode cX9_add 54 = .ok (.dup2, 1) := by decide +kernel
theorem dX9_add_55 : decode cX9_add 55 = .ok (.iaload, 1) := by decide +kernel
theorem dX9_add_56 : decode cX9_add 56 = .ok (.iconst 1, 1) := by decide +kernel
theorem dX9_add_57 : decode cX9_add 57 = .ok (.iload_n 2, 1) := by decide +kernel
theorem dX9_add_58 : decode cX9_add 58 = .ok (.ishl, 1) := by decide +kernel
theorem dX9_add_59 : decode cX9_add 59 = .ok (.ior, 1) := by decide +kernel
theorem dX9_add_60 : decode cX9_add 60 = .ok (.iastore, 1) := by decide +kernel
theorem dX9_add_61 : decode cX9_add 61 = .ok (.aload_n 0, 1) := by decide +kernel
theorem dX9_add_62 : decode cX9_add 62 = .ok (.getfield 17, 3) := by decide +kernel
theorem dX9_add_65 : decode cX9_add 65 = .ok (.iload_n 2, 1) := by decide +kernel
theorem dX9_add_66 : decode cX9_add 66 = .ok (.dup2, 1) := by decide +kernel
theorem dX9_add_67 : decode cX9_add 67 = .ok (.iaload, 1) := by decide +kernel
theorem dX9_add_68 : decode cX9_add 68 = .ok (.iconst 1, 1) := by decide +kernel
theorem dX9_add_69 : decode cX9_add 69 = .ok (.iload_n 1, 1) := by decide +kernel
theorem dX9_add_70 : decode cX9_add 70 = .ok (.ishl, 1) := by decide +kernel
theorem dX9_add_71 : decode cX9_add 71 = .ok (.ior, 1) := by decide +kernel
theorem dX9_add_72 : decode cX9_add 72 = .ok (.iastore, 1) := by decide +kernel
theorem dX9_add_73 : decode cX9_add 73 = .ok (.aload_n 0, 1) := by decide +kernel
theorem dX9_add_74 : decode cX9_add 74 = .ok (.dup, 1) := by decide +kernel
theorem dX9_add_75 : decode cX9_add 75 = .ok (.getfield 26, 3) := by decide +kernel
theorem dX9_add_78 : decode cX9_add 78 = .ok (.iload 4, 2) := by decide +kernel
theorem dX9_add_80 : decode cX9_add 80 = .ok (.ifCond .ne 7, 3) := by decide +kernel
theorem dX9_add_83 : decode cX9_add 83 = .ok (.iconst 1, 1) := by decide +kernel
theorem dX9_add_84 : decode cX9_add 84 = .ok (.goto 4, 3) := by decide +kernel
theorem dX9_add_87 : decode cX9_add 87 = .ok (.iconst 0, 1) := by decide +kernel
theorem dX9_add_88 : decode cX9_add 88 = .ok (.iadd, 1) := by decide +kernel
theorem dX9_add_89 : decode cX9_add 89 = .ok (.putfield 26, 3) := by decide +kernel
theorem dX9_add_92 : decode cX9_add 92 = .ok (.aload_n 0, 1) := by decide +kernel
theorem dX9_add_93 : decode cX9_add 93 = .ok (.getfield 30, 3) := by decide +kernel
theorem dX9_add_96 : decode cX9_add 96 = .ok (.ifCond .eq 11, 3) := by decide +kernel
theorem dX9_add_99 : decode cX9_add 99 = .ok (.iload_n 3, 1) := by decide +kernel
theorem dX9_add_100 : decode cX9_add 100 = .ok (.aload_n 0, 1) := by decide +kernel
theorem dX9_add_101 : decode cX9_add 101 = .ok (.getfield 30, 3) := by decide +kernel
theorem dX9_add_104 : decode cX9_add 104 = .ok (.if_icmp .ge 8, 3) := by decide +kernel
theorem dX9_add_107 : decode cX9_add 107 = .ok (.aload_n 0, 1) := by decide +kernel
theorem dX9_add_108 : decode cX9_add 108 = .ok (.iload_n 3, 1) := by decide +kernel
theorem dX9_add_109 : decode cX9_add 109 = .ok (.putfield 30, 3) := by decide +kernel
theorem dX9_add_112 : decode cX9_add 112 = .ok (.return_, 1) := by decide +kernel
