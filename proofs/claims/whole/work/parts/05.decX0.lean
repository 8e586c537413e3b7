theorem dX0_init_0 : decode cX0_init 0 = .ok (.aload_n 0, 1) := by decide +kernel
theorem dX0_init_1 : decode cX0_init 1 = .ok (.invokespecial 3, 3) := by decide +kernel
theorem dX0_init_4 : decode cX0_init 4 = .ok (.aload_n 0, 1) := by decide +kernel
theorem dX0_init_5 : decode cX0_init 5 = .ok (.bipush 120, 2) := by decide +kernel
theorem dX0_init_7 : decode cX0_init 7 = .ok (.newarray .int, 2) := by decide +kernel
theorem dX0_init_9 : decode cX0_init 9 = .ok (.putfield 13, 3) := by decide +kernel
theorem dX0_init_12 : decode cX0_init 12 = .ok (.aload_n 0, 1) := by decide +kernel
theorem dX0_init_13 : decode cX0_init 13 = .ok (.bipush 120, 2) := by decide +kernel
theorem dX0_init_15 : decode cX0_init 15 = .ok (.newarray .long, 2) := by decide +kernel
theorem dX0_init_17 : decode cX0_init 17 = .ok (.putfield 19, 3) := by decide +kernel
theorem dX0_init_20 : decode cX0_init 20 = .ok (.aload_n 0, 1) := by decide +kernel
theorem dX0_init_21 : decode cX0_init 21 = .ok (.iconst 4, 1) := by decide +kernel
theorem dX0_init_22 : decode cX0_init 22 = .ok (.newarray .int, 2) := by decide +kernel
theorem dX0_init_24 : decode cX0_init 24 = .ok (.putfield 23, 3) := by decide +kernel
theorem dX0_init_27 : decode cX0_init 27 = .ok (.aload_n 0, 1) := by decide +kernel
theorem dX0_init_28 : decode cX0_init 28 = .ok (.iconst 4, 1) := by decide +kernel
theorem dX0_init_29 : decode cX0_init 29 = .ok (.newarray .int, 2) := by decide +kernel
theorem dX0_init_31 : decode cX0_init 31 = .ok (.putfield 26, 3) := by decide +kernel
theorem dX0_init_34 : decode cX0_init 34 = .ok (.aload_n 0, 1) := by decide +kernel
theorem dX0_init_35 : decode cX0_init 35 = .ok (.bipush 30, 2) := by decide +kernel
theorem dX0_init_37 : decode cX0_init 37 = .ok (.newarray .int, 2) := by decide +kernel
theorem dX0_init_39 : decode cX0_init 39 = .ok (.putfield 29, 3) := by decide +kernel
theorem dX0_init_42 : decode cX0_init 42 = .ok (.return_, 1) := by decide +kernel
theorem dX0_fill_0 : decode cX0_fill 0 = .ok (.aload_n 0, 1) := by decide +kernel
theorem dX0_fill_1 : decode cX0_fill 1 = .ok (.getfield 29, 3) := by decide +kernel
theorem dX0_fill_4 : decode cX0_fill 4 = .ok (.iconst 0, 1) := by decide +kernel
theorem dX0_fill_5 : decode cX0_fill 5 = .ok (.invokestatic 32, 3) := by decide +kernel
theorem dX0_fill_8 : decode cX0_fill 8 = .ok (.iconst 0, 1) := by decide +kernel
theorem dX0_fill_9 : decode cX0_fill 9 = .ok (.istore 4, 2) := by decide +kernel
theorem dX0_fill_11 : decode cX0_fill 11 = .ok (.iload 4, 2) := by decide +kernel
theorem dX0_fill_13 : decode cX0_fill 13 = .ok (.aload_n 2, 1) := by decide +kernel
theorem dX0_fill_14 : decode cX0_fill 14 = .ok (.getfield 38, 3) := by decide +kernel
theorem dX0_fill_17 : decode cX0_fill 17 = .ok (.if_icmp .ge 100, 3) := by decide +kernel
theorem dX0_fill_20 : decode cX0_fill 20 = .ok (.aload_n 0, 1) := by decide +kernel
theorem dX0_fill_21 : decode cX0_fill 21 = .ok (.getfield 23, 3) := by decide +kernel
theorem dX0_fill_24 : decode cX0_fill 24 = .ok (.iload 4, 2) := by decide +kernel
theorem dX0_fill_26 : decode cX0_fill 26 = .ok (.iconst 0, 1) := by decide +kernel
theorem dX0_fill_27 : decode cX0_fill 27 = .ok (.iastore, 1) := by decide +kernel
theorem dX0_fill_28 : decode cX0_fill 28 = .ok (.aload_n 0, 1) := by decide +kernel
theorem dX0_fill_29 : decode cX0_fill 29 = .ok (.getfield 26, 3) := by decide +kernel
theorem dX0_fill_32 : decode cX0_fill 32 = .ok (.iload 4, 2) := by decide +kernel
theorem dX0_fill_34 : decode cX0_fill 34 = .ok (.iconst (-1), 1) := by decide +kernel
theorem dX0_fill_35 : decode cX0_fill 35 = .ok (.iastore, 1) := by decide +kernel
theorem dX0_fill_36 : decode cX0_fill 36 = .ok (.iconst 0, 1) := by decide +kernel
theorem dX0_fill_37 : decode cX0_fill 37 = .ok (.istore 5, 2) := by decide +kernel
theorem dX0_fill_39 : decode cX0_fill 39 = .ok (.iload 5, 2) := by decide +kernel
theorem dX0_fill_41 : decode cX0_fill 41 = .ok (.aload_n 1, 1) := by decide +kernel
theorem dX0_fill_42 : decode cX0_fill 42 = .ok (.getfield 42, 3) := by decide +kernel
theorem dX0_fill_45 : decode cX0_fill 45 = .ok (.if_icmp .ge 66, 3) := by decide +kernel
theorem dX0_fill_48 : decode cX0_fill 48 = .ok (.iload_n 3, 1) := by decide +kernel
theorem dX0_fill_49 : decode cX0_fill 49 = .ok (.iload 5, 2) := by decide +kernel
theorem dX0_fill_51 : decode cX0_fill 51 = .ok (.ishr, 1) := by decide +kernel
theorem dX0_fill_52 : decode cX0_fill 52 = .ok (.iconst 1, 1) := by decide +kernel
theorem dX0_fill_53 : decode cX0_fill 53 = .ok (.iand, 1) := by decide +kernel
theorem dX0_fill_54 : decode cX0_fill 54 = .ok (.ifCond .eq 7, 3) := by decide +kernel
theorem dX0_fill_57 : decode cX0_fill 57 = .ok (.iconst 1, 1) := by decide +kernel
theorem dX0_fill_58 : decode cX0_fill 58 = .ok (.goto 4, 3) := by decide +kernel
theorem dX0_fill_61 : decode cX0_fill 61 = .ok (.iconst 0, 1) := by decide +kernel
theorem dX0_fill_62 : decode cX0_fill 62 = .ok (.istore 6, 2) := by decide +kernel
theorem dX0_fill_64 : decode cX0_fill 64 = .ok (.iload 6, 2) := by decide +kernel
theorem dX0_fill_66 : decode cX0_fill 66 = .ok (.ifCond .eq 26, 3) := by decide +kernel
theorem dX0_fill_69 : decode cX0_fill 69 = .ok (.aload_n 1, 1) := by decide +kernel
theorem dX0_fill_70 : decode cX0_fill 70 = .ok (.iload 5, 2) := by decide +kernel
theorem dX0_fill_72 : decode cX0_fill 72 = .ok (.aload_n 2, 1) := by decide +kernel
theorem dX0_fill_73 : decode cX0_fill 73 = .ok (.getfield 45, 3) := by decide +kernel
theorem dX0_fill_76 : decode cX0_fill 76 = .ok (.iload 4, 2) := by decide +kernel
theorem dX0_fill_78 : decode cX0_fill 78 = .ok (.iaload, 1) := by decide +kernel
theorem dX0_fill_79 : decode cX0_fill 79 = .ok (.aload_n 2, 1) := by decide +kernel
theorem dX0_fill_80 : decode cX0_fill 80 = .ok (.getfield 48, 3) := by decide +kernel
theorem dX0_fill_83 : decode cX0_fill 83 = .ok (.iload 4, 2) := by decide +kernel
theorem dX0_fill_85 : decode cX0_fill 85 = .ok (.laload, 1) := by decide +kernel
theorem dX0_fill_86 : decode cX0_fill 86 = .ok (.invokestatic 51, 3) := by decide +kernel
theorem dX0_fill_89 : decode cX0_fill 89 = .ok (.goto 4, 3) := by decide +kernel
theorem dX0_fill_92 : decode cX0_fill 92 = .ok (.iconst (-1), 1) := by decide +kernel
theorem dX0_fill_93 : decode cX0_fill 93 = .ok (.istore 7, 2) := by decide +kernel
theorem dX0_fill_95 : decode cX0_fill 95 = .ok (.aload_n 0, 1) := by decide +kernel
theorem dX0_fill_96 : decode cX0_fill 96 = .ok (.iload 5, 2) := by decide +kernel
theorem dX0_fill_98 : decode cX0_fill 98 = .ok (.iload 4, 2) := by decide +kernel
theorem dX0_fill_100 : decode cX0_fill 100 = .ok (.iload 7, 2) := by decide +kernel
theorem dX0_fill_102 : decode cX0_fill 102 = .ok (.invokevirtual 55, 3) := by decide +kernel
theorem dX0_fill_105 : decode cX0_fill 105 = .ok (.iinc 5 1, 3) := by decide +kernel
theorem dX0_fill_108 : decode cX0_fill 108 = .ok (.goto (-69), 3) := by decide +kernel
theorem dX0_fill_111 : decode cX0_fill 111 = .ok (.iinc 4 1, 3) := by decide +kernel
theorem dX0_fill_114 : decode cX0_fill 114 = .ok (.goto (-103), 3) := by decide +kernel
theorem dX0_fill_117 : decode cX0_fill 117 = .ok (.return_, 1) := by decide +kernel
theorem dX0_keep_0 : decode cX0_keep 0 = .ok (.aload_n 0, 1) := by decide +kernel
theorem dX0_keep_1 : decode cX0_keep 1 = .ok (.getfield 13, 3) := by decide +kernel
theorem dX0_keep_4 : decode cX0_keep 4 = .ok (.iload_n 2, 1) := by decide +kernel
theorem dX0_keep_5 : decode cX0_keep 5 = .ok (.bipush 30, 2) := by decide +kernel
theorem dX0_keep_7 : decode cX0_keep 7 = .ok (.imul, 1) := by decide +kernel
theorem dX0_keep_8 : decode cX0_keep 8 = .ok (.iload_n 1, 1) := by decide +kernel
theorem dX0_keep_9 : decode cX0_keep 9 = .ok (.iadd, 1) := by decide +kernel
theorem dX0_keep_10 : decode cX0_keep 10 = .ok (.iload_n 3, 1) := by decide +kernel
theorem dX0_keep_11 : decode cX0_keep 11 = .ok (.iastore, 1) := by decide +kernel
theorem dX0_keep_12 : decode cX0_keep 12 = .ok (.iload_n 3, 1) := by decide +kernel
theorem dX0_keep_13 : decode cX0_keep 13 = .ok (.iconst (-1), 1) := by decide +kernel
theorem dX0_keep_14 : decode cX0_keep 14 = .ok (.if_icmp .ne 4, 3) := by decide +kernel
theorem dX0_keep_17 : decode cX0_keep 17 = .ok (.return_, 1) := by decide +kernel
theorem dX0_keep_18 : decode cX0_keep 18 = .ok (.aload_n 0, 1) := by decide +kernel
theorem dX0_keep_19 : decode cX0_keep 19 = .ok (.getfield 23, 3) := by decide +kernel
theorem dX0_keep_22 : decode cX0_keep 22 = .ok (.iload_n 2, 1) := by decide +kernel
theorem dX0_keep_23 : decode cX0_keep 23 = .ok (.dup2, 1) := by decide +kernel
theorem dX0_keep_24 : decode cX0_keep 24 = .ok (.iaload, 1) := by decide +kernel
theorem dX0_keep_25 : decode cX0_keep 25 = .ok (.iconst 1, 1) := by decide +kernel
theorem dX0_keep_26 : decode cX0_keep 26 = .ok (.iload_n 1, 1) := by decide +kernel
theorem dX0_keep_27 : decode cX0_keep 27 = .ok (.ishl, 1) := by decide +kernel
theorem dX0_keep_28 : decode cX0_keep 28 = .ok (.ior, 1) := by decide +kernel
theorem dX0_keep_29 : decode cX0_keep 29 = .ok (.iastore, 1) := by decide +kernel
theorem dX0_keep_30 : decode cX0_keep 30 = .ok (.aload_n 0, 1) := by decide +kernel
theorem dX0_keep_31 : decode cX0_keep 31 = .ok (.getfield 29, 3) := by decide +kernel
theorem dX0_keep_34 : decode cX0_keep 34 = .ok (.iload_n 1, 1) := by decide +kernel
theorem dX0_keep_35 : decode cX0_keep 35 = .ok (.dup2, 1) := by decide +kernel
theorem dX0_keep_36 : decode cX0_keep 36 = .ok (.iaload, 1) := by decide +kernel
theorem dX0_keep_37 : decode cX0_keep 37 = .ok (.iconst 1, 1) := by decide +kernel
theorem dX0_keep_38 : decode cX0_keep 38 = .ok (.iload_n 2, 1) := by decide +kernel
theorem dX0_keep_39 : decode cX0_keep 39 = .ok (.ishl, 1) := by decide +kernel
theorem dX0_keep_40 : decode cX0_keep 40 = .ok (.ior, 1) := by decide +kernel
theorem dX0_keep_41 : decode cX0_keep 41 = .ok (.iastore, 1) := by decide +kernel
theorem dX0_keep_42 : decode cX0_keep 42 = .ok (.aload_n 0, 1) := by decide +kernel
theorem dX0_keep_43 : decode cX0_keep 43 = .ok (.getfield 26, 3) := by decide +kernel
theorem dX0_keep_46 : decode cX0_keep 46 = .ok (.iload_n 2, 1) := by decide +kernel
theorem dX0_keep_47 : decode cX0_keep 47 = .ok (.iaload, 1) := by decide +kernel
theorem dX0_keep_48 : decode cX0_keep 48 = .ok (.iconst (-1), 1) := by decide +kernel
theorem dX0_keep_49 : decode cX0_keep 49 = .ok (.if_icmp .eq 13, 3) := by decide +kernel
theorem dX0_keep_52 : decode cX0_keep 52 = .ok (.iload_n 3, 1) := by decide +kernel
theorem dX0_keep_53 : decode cX0_keep 53 = .ok (.aload_n 0, 1) := by decide +kernel
theorem dX0_keep_54 : decode cX0_keep 54 = .ok (.getfield 26, 3) := by decide +kernel
theorem dX0_keep_57 : decode cX0_keep 57 = .ok (.iload_n 2, 1) := by decide +kernel
theorem dX0_keep_58 : decode cX0_keep 58 = .ok (.iaload, 1) := by decide +kernel
theorem dX0_keep_59 : decode cX0_keep 59 = .ok (.if_icmp .ge 10, 3) := by decide +kernel
theorem dX0_keep_62 : decode cX0_keep 62 = .ok (.aload_n 0, 1) := by decide +kernel
theorem dX0_keep_63 : decode cX0_keep 63 = .ok (.getfield 26, 3) := by decide +kernel
theorem dX0_keep_66 : decode cX0_keep 66 = .ok (.iload_n 2, 1) := by decide +kernel
theorem dX0_keep_67 : decode cX0_keep 67 = .ok (.iload_n 3, 1) := by decide +kernel
theorem dX0_keep_68 : decode cX0_keep 68 = .ok (.iastore, 1) := by decide +kernel
theorem dX0_keep_69 : decode cX0_keep 69 = .ok (.return_, 1) := by decide +kernel
theorem dX0_priceAt_0 : decode cX0_priceAt 0 = .ok (.iload_n 1, 1) := by decide +kernel
theorem dX0_priceAt_1 : decode cX0_priceAt 1 = .ok (.ifCond .lt 22, 3) := by decide +kernel
theorem dX0_priceAt_4 : decode cX0_priceAt 4 = .ok (.iload_n 1, 1) := by decide +kernel
theorem dX0_priceAt_5 : decode cX0_priceAt 5 = .ok (.bipush 30, 2) := by decide +kernel
theorem dX0_priceAt_7 : decode cX0_priceAt 7 = .ok (.if_icmp .ge 16, 3) := by decide +kernel
theorem dX0_priceAt_10 : decode cX0_priceAt 10 = .ok (.iload_n 2, 1) := by decide +kernel
theorem dX0_priceAt_11 : decode cX0_priceAt 11 = .ok (.ifCond .lt 12, 3) := by decide +kernel
theorem dX0_priceAt_14 : decode cX0_priceAt 14 = .ok (.iload_n 2, 1) := by decide +kernel
theorem dX0_priceAt_15 : decode cX0_priceAt 15 = .ok (.iconst 4, 1) := by decide +kernel
theorem dX0_priceAt_16 : decode cX0_priceAt 16 = .ok (.if_icmp .ge 7, 3) := by decide +kernel
theorem dX0_priceAt_19 : decode cX0_priceAt 19 = .ok (.iconst 1, 1) := by decide +kernel
theorem dX0_priceAt_20 : decode cX0_priceAt 20 = .ok (.goto 4, 3) := by decide +kernel
theorem dX0_priceAt_23 : decode cX0_priceAt 23 = .ok (.iconst 0, 1) := by decide +kernel
theorem dX0_priceAt_24 : decode cX0_priceAt 24 = .ok (.istore_n 3, 1) := by decide +kernel
theorem dX0_priceAt_25 : decode cX0_priceAt 25 = .ok (.iload_n 3, 1) := by decide +kernel
theorem dX0_priceAt_26 : decode cX0_priceAt 26 = .ok (.ifCond .eq 17, 3) := by decide +kernel
theorem dX0_priceAt_29 : decode cX0_priceAt 29 = .ok (.aload_n 0, 1) := by decide +kernel
theorem dX0_priceAt_30 : decode cX0_priceAt 30 = .ok (.getfield 13, 3) := by decide +kernel
theorem dX0_priceAt_33 : decode cX0_priceAt 33 = .ok (.iload_n 2, 1) := by decide +kernel
theorem dX0_priceAt_34 : decode cX0_priceAt 34 = .ok (.bipush 30, 2) := by decide +kernel
theorem dX0_priceAt_36 : decode cX0_priceAt 36 = .ok (.imul, 1) := by decide +kernel
theorem dX0_priceAt_37 : decode cX0_priceAt 37 = .ok (.iload_n 1, 1) := by decide +kernel
theorem dX0_priceAt_38 : decode cX0_priceAt 38 = .ok (.iadd, 1) := by decide +kernel
theorem dX0_priceAt_39 : decode cX0_priceAt 39 = .ok (.iaload, 1) := by decide +kernel
theorem dX0_priceAt_40 : decode cX0_priceAt 40 = .ok (.goto 4, 3) := by decide +kernel
theorem dX0_priceAt_43 : decode cX0_priceAt 43 = .ok (.iconst (-1), 1) := by decide +kernel
theorem dX0_priceAt_44 : decode cX0_priceAt 44 = .ok (.ireturn, 1) := by decide +kernel
theorem dX0_holderIn_0 : decode cX0_holderIn 0 = .ok (.iconst (-1), 1) := by decide +kernel
theorem dX0_holderIn_1 : decode cX0_holderIn 1 = .ok (.istore_n 3, 1) := by decide +kernel
theorem dX0_holderIn_2 : decode cX0_holderIn 2 = .ok (.iconst 0, 1) := by decide +kernel
theorem dX0_holderIn_3 : decode cX0_holderIn 3 = .ok (.istore 4, 2) := by decide +kernel
theorem dX0_holderIn_5 : decode cX0_holderIn 5 = .ok (.iload_n 1, 1) := by decide +kernel
theorem dX0_holderIn_6 : decode cX0_holderIn 6 = .ok (.aload_n 0, 1) := by decide +kernel
theorem dX0_holderIn_7 : decode cX0_holderIn 7 = .ok (.getfield 23, 3) := by decide +kernel
theorem dX0_holderIn_10 : decode cX0_holderIn 10 = .ok (.iload_n 2, 1) := by decide +kernel
theorem dX0_holderIn_11 : decode cX0_holderIn 11 = .ok (.iaload, 1) := by decide +kernel
theorem dX0_holderIn_12 : decode cX0_holderIn 12 = .ok (.iand, 1) := by decide +kernel
theorem dX0_holderIn_13 : decode cX0_holderIn 13 = .ok (.istore 5, 2) := by decide +kernel
theorem dX0_holderIn_15 : decode cX0_holderIn 15 = .ok (.iload 5, 2) := by decide +kernel
theorem dX0_holderIn_17 : decode cX0_holderIn 17 = .ok (.invokestatic 59, 3) := by decide +kernel
theorem dX0_holderIn_20 : decode cX0_holderIn 20 = .ok (.istore 6, 2) := by decide +kernel
theorem dX0_holderIn_22 : decode cX0_holderIn 22 = .ok (.iload 6, 2) := by decide +kernel
theorem dX0_holderIn_24 : decode cX0_holderIn 24 = .ok (.ifCond .le 53, 3) := by decide +kernel
theorem dX0_holderIn_27 : decode cX0_holderIn 27 = .ok (.iload 5, 2) := by decide +kernel
theorem dX0_holderIn_29 : decode cX0_holderIn 29 = .ok (.invokestatic 65, 3) := by decide +kernel
theorem dX0_holderIn_32 : decode cX0_holderIn 32 = .ok (.istore 7, 2) := by decide +kernel
theorem dX0_holderIn_34 : decode cX0_holderIn 34 = .ok (.iload 5, 2) := by decide +kernel
theorem dX0_holderIn_36 : decode cX0_holderIn 36 = .ok (.iload 5, 2) := by decide +kernel
theorem dX0_holderIn_38 : decode cX0_holderIn 38 = .ok (.iconst 1, 1) := by decide +kernel
theorem dX0_holderIn_39 : decode cX0_holderIn 39 = .ok (.isub, 1) := by decide +kernel
theorem dX0_holderIn_40 : decode cX0_holderIn 40 = .ok (.iand, 1) := by decide +kernel
theorem dX0_holderIn_41 : decode cX0_holderIn 41 = .ok (.istore 5, 2) := by decide +kernel
theorem dX0_holderIn_43 : decode cX0_holderIn 43 = .ok (.aload_n 0, 1) := by decide +kernel
theorem dX0_holderIn_44 : decode cX0_holderIn 44 = .ok (.iload 7, 2) := by decide +kernel
theorem dX0_holderIn_46 : decode cX0_holderIn 46 = .ok (.iload_n 2, 1) := by decide +kernel
theorem dX0_holderIn_47 : decode cX0_holderIn 47 = .ok (.invokevirtual 68, 3) := by decide +kernel
theorem dX0_holderIn_50 : decode cX0_holderIn 50 = .ok (.istore 8, 2) := by decide +kernel
theorem dX0_holderIn_52 : decode cX0_holderIn 52 = .ok (.iload_n 3, 1) := by decide +kernel
theorem dX0_holderIn_53 : decode cX0_holderIn 53 = .ok (.iconst (-1), 1) := by decide +kernel
theorem dX0_holderIn_54 : decode cX0_holderIn 54 = .ok (.if_icmp .eq 10, 3) := by decide +kernel
theorem dX0_holderIn_57 : decode cX0_holderIn 57 = .ok (.iload 8, 2) := by decide +kernel
theorem dX0_holderIn_59 : decode cX0_holderIn 59 = .ok (.iload 4, 2) := by decide +kernel
theorem dX0_holderIn_61 : decode cX0_holderIn 61 = .ok (.if_icmp .ge 10, 3) := by decide +kernel
theorem dX0_holderIn_64 : decode cX0_holderIn 64 = .ok (.iload 7, 2) := by decide +kernel
theorem dX0_holderIn_66 : decode cX0_holderIn 66 = .ok (.istore_n 3, 1) := by decide +kernel
theorem dX0_holderIn_67 : decode cX0_holderIn 67 = .ok (.iload 8, 2) := by decide +kernel
theorem dX0_holderIn_69 : decode cX0_holderIn 69 = .ok (.istore 4, 2) := by decide +kernel
theorem dX0_holderIn_71 : decode cX0_holderIn 71 = .ok (.iinc 6 (-1), 3) := by decide +kernel
theorem dX0_holderIn_74 : decode cX0_holderIn 74 = .ok (.goto (-52), 3) := by decide +kernel
theorem dX0_holderIn_77 : decode cX0_holderIn 77 = .ok (.iload_n 3, 1) := by decide +kernel
theorem dX0_holderIn_78 : decode cX0_holderIn 78 = .ok (.ireturn, 1) := by decide +kernel
theorem dX0_priceOf_0 : decode cX0_priceOf 0 = .ok (.iload_n 2, 1) := by decide +kernel
theorem dX0_priceOf_1 : decode cX0_priceOf 1 = .ok (.lookupswitch 41 #[(0, 27), (1, 34)], 27) := by decide +kernel
theorem dX0_priceOf_28 : decode cX0_priceOf 28 = .ok (.aload_n 0, 1) := by decide +kernel
theorem dX0_priceOf_29 : decode cX0_priceOf 29 = .ok (.iload_n 1, 1) := by decide +kernel
theorem dX0_priceOf_30 : decode cX0_priceOf 30 = .ok (.lload_n 3, 1) := by decide +kernel
theorem dX0_priceOf_31 : decode cX0_priceOf 31 = .ok (.invokestatic 72, 3) := by decide +kernel
theorem dX0_priceOf_34 : decode cX0_priceOf 34 = .ok (.ireturn, 1) := by decide +kernel
theorem dX0_priceOf_35 : decode cX0_priceOf 35 = .ok (.aload_n 0, 1) := by decide +kernel
theorem dX0_priceOf_36 : decode cX0_priceOf 36 = .ok (.iload_n 1, 1) := by decide +kernel
theorem dX0_priceOf_37 : decode cX0_priceOf 37 = .ok (.lload_n 3, 1) := by decide +kernel
theorem dX0_priceOf_38 : decode cX0_priceOf 38 = .ok (.invokestatic 76, 3) := by decide +kernel
theorem dX0_priceOf_41 : decode cX0_priceOf 41 = .ok (.ireturn, 1) := by decide +kernel
theorem dX0_priceOf_42 : decode cX0_priceOf 42 = .ok (.aload_n 0, 1) := by decide +kernel
theorem dX0_priceOf_43 : decode cX0_priceOf 43 = .ok (.iload_n 1, 1) := by decide +kernel
theorem dX0_priceOf_44 : decode cX0_priceOf 44 = .ok (.iload_n 2, 1) := by decide +kernel
theorem dX0_priceOf_45 : decode cX0_priceOf 45 = .ok (.iconst 2, 1) := by decide +kernel
theorem dX0_priceOf_46 : decode cX0_priceOf 46 = .ok (.if_icmp .ne 7, 3) := by decide +kernel
theorem dX0_priceOf_49 : decode cX0_priceOf 49 = .ok (.iconst 1, 1) := by decide +kernel
theorem dX0_priceOf_50 : decode cX0_priceOf 50 = .ok (.goto 4, 3) := by decide +kernel
theorem dX0_priceOf_53 : decode cX0_priceOf 53 = .ok (.iconst 0, 1) := by decide +kernel
theorem dX0_priceOf_54 : decode cX0_priceOf 54 = .ok (.lload_n 3, 1) := by decide +kernel
theorem dX0_priceOf_55 : decode cX0_priceOf 55 = .ok (.invokestatic 79, 3) := by decide +kernel
theorem dX0_priceOf_58 : decode cX0_priceOf 58 = .ok (.ireturn, 1) := by decide +kernel
theorem dX0_priceOfWord_0 : decode cX0_priceOfWord 0 = .ok (.iconst (-1), 1) := by decide +kernel
theorem dX0_priceOfWord_1 : decode cX0_priceOfWord 1 = .ok (.istore 4, 2) := by decide +kernel
theorem dX0_priceOfWord_3 : decode cX0_priceOfWord 3 = .ok (.aload_n 0, 1) := by decide +kernel
theorem dX0_priceOfWord_4 : decode cX0_priceOfWord 4 = .ok (.getfield 83, 3) := by decide +kernel
theorem dX0_priceOfWord_7 : decode cX0_priceOfWord 7 = .ok (.aload_n 0, 1) := by decide +kernel
theorem dX0_priceOfWord_8 : decode cX0_priceOfWord 8 = .ok (.getfield 86, 3) := by decide +kernel
theorem dX0_priceOfWord_11 : decode cX0_priceOfWord 11 = .ok (.iload_n 1, 1) := by decide +kernel
theorem dX0_priceOfWord_12 : decode cX0_priceOfWord 12 = .ok (.iaload, 1) := by decide +kernel
theorem dX0_priceOfWord_13 : decode cX0_priceOfWord 13 = .ok (.laload, 1) := by decide +kernel
theorem dX0_priceOfWord_14 : decode cX0_priceOfWord 14 = .ok (.lload_n 2, 1) := by decide +kernel
theorem dX0_priceOfWord_15 : decode cX0_priceOfWord 15 = .ok (.lcmp, 1) := by decide +kernel
theorem dX0_priceOfWord_16 : decode cX0_priceOfWord 16 = .ok (.ifCond .ne 9, 3) := by decide +kernel
theorem dX0_priceOfWord_19 : decode cX0_priceOfWord 19 = .ok (.iconst 3, 1) := by decide +kernel
theorem dX0_priceOfWord_20 : decode cX0_priceOfWord 20 = .ok (.istore 4, 2) := by decide +kernel
theorem dX0_priceOfWord_22 : decode cX0_priceOfWord 22 = .ok (.goto 20, 3) := by decide +kernel
theorem dX0_priceOfWord_25 : decode cX0_priceOfWord 25 = .ok (.aload_n 0, 1) := by decide +kernel
theorem dX0_priceOfWord_26 : decode cX0_priceOfWord 26 = .ok (.aload_n 0, 1) := by decide +kernel
theorem dX0_priceOfWord_27 : decode cX0_priceOfWord 27 = .ok (.getfield 86, 3) := by decide +kernel
theorem dX0_priceOfWord_30 : decode cX0_priceOfWord 30 = .ok (.iload_n 1, 1) := by decide +kernel
theorem dX0_priceOfWord_31 : decode cX0_priceOfWord 31 = .ok (.iaload, 1) := by decide +kernel
theorem dX0_priceOfWord_32 : decode cX0_priceOfWord 32 = .ok (.lload_n 2, 1) := by decide +kernel
theorem dX0_priceOfWord_33 : decode cX0_priceOfWord 33 = .ok (.invokevirtual 89, 3) := by decide +kernel
theorem dX0_priceOfWord_36 : decode cX0_priceOfWord 36 = .ok (.ifCond .eq 6, 3) := by decide +kernel
theorem dX0_priceOfWord_39 : decode cX0_priceOfWord 39 = .ok (.iconst 4, 1) := by decide +kernel
theorem dX0_priceOfWord_40 : decode cX0_priceOfWord 40 = .ok (.istore 4, 2) := by decide +kernel
theorem dX0_priceOfWord_42 : decode cX0_priceOfWord 42 = .ok (.iconst 0, 1) := by decide +kernel
theorem dX0_priceOfWord_43 : decode cX0_priceOfWord 43 = .ok (.istore 5, 2) := by decide +kernel
theorem dX0_priceOfWord_45 : decode cX0_priceOfWord 45 = .ok (.iload 5, 2) := by decide +kernel
theorem dX0_priceOfWord_47 : decode cX0_priceOfWord 47 = .ok (.iconst 4, 1) := by decide +kernel
theorem dX0_priceOfWord_48 : decode cX0_priceOfWord 48 = .ok (.if_icmp .ge 46, 3) := by decide +kernel
theorem dX0_priceOfWord_51 : decode cX0_priceOfWord 51 = .ok (.aload_n 0, 1) := by decide +kernel
theorem dX0_priceOfWord_52 : decode cX0_priceOfWord 52 = .ok (.iload_n 1, 1) := by decide +kernel
theorem dX0_priceOfWord_53 : decode cX0_priceOfWord 53 = .ok (.iload 5, 2) := by decide +kernel
theorem dX0_priceOfWord_55 : decode cX0_priceOfWord 55 = .ok (.invokevirtual 93, 3) := by decide +kernel
theorem dX0_priceOfWord_58 : decode cX0_priceOfWord 58 = .ok (.lstore 6, 2) := by decide +kernel
theorem dX0_priceOfWord_60 : decode cX0_priceOfWord 60 = .ok (.lload 6, 2) := by decide +kernel
theorem dX0_priceOfWord_62 : decode cX0_priceOfWord 62 = .ok (.lload_n 2, 1) := by decide +kernel
theorem dX0_priceOfWord_63 : decode cX0_priceOfWord 63 = .ok (.lcmp, 1) := by decide +kernel
theorem dX0_priceOfWord_64 : decode cX0_priceOfWord 64 = .ok (.ifCond .ne 5, 3) := by decide +kernel
theorem dX0_priceOfWord_67 : decode cX0_priceOfWord 67 = .ok (.iconst 0, 1) := by decide +kernel
theorem dX0_priceOfWord_68 : decode cX0_priceOfWord 68 = .ok (.ireturn, 1) := by decide +kernel
theorem dX0_priceOfWord_69 : decode cX0_priceOfWord 69 = .ok (.lload 6, 2) := by decide +kernel
theorem dX0_priceOfWord_71 : decode cX0_priceOfWord 71 = .ok (.lconst 0, 1) := by decide +kernel
theorem dX0_priceOfWord_72 : decode cX0_priceOfWord 72 = .ok (.lcmp, 1) := by decide +kernel
theorem dX0_priceOfWord_73 : decode cX0_priceOfWord 73 = .ok (.ifCond .eq 15, 3) := by decide +kernel
theorem dX0_priceOfWord_76 : decode cX0_priceOfWord 76 = .ok (.lload 6, 2) := by decide +kernel
theorem dX0_priceOfWord_78 : decode cX0_priceOfWord 78 = .ok (.lload_n 2, 1) := by decide +kernel
theorem dX0_priceOfWord_79 : decode cX0_priceOfWord 79 = .ok (.invokestatic 97, 3) := by decide +kernel
theorem dX0_priceOfWord_82 : decode cX0_priceOfWord 82 = .ok (.ifCond .eq 6, 3) := by decide +kernel
theorem dX0_priceOfWord_85 : decode cX0_priceOfWord 85 = .ok (.iconst 1, 1) := by decide +kernel
theorem dX0_priceOfWord_86 : decode cX0_priceOfWord 86 = .ok (.istore 4, 2) := by decide +kernel
theorem dX0_priceOfWord_88 : decode cX0_priceOfWord 88 = .ok (.iinc 5 1, 3) := by decide +kernel
theorem dX0_priceOfWord_91 : decode cX0_priceOfWord 91 = .ok (.goto (-46), 3) := by decide +kernel
theorem dX0_priceOfWord_94 : decode cX0_priceOfWord 94 = .ok (.iload 4, 2) := by decide +kernel
theorem dX0_priceOfWord_96 : decode cX0_priceOfWord 96 = .ok (.ireturn, 1) := by decide +kernel
theorem dX0_priceOfNear_0 : decode cX0_priceOfNear 0 = .ok (.iconst (-1), 1) := by decide +kernel
theorem dX0_priceOfNear_1 : decode cX0_priceOfNear 1 = .ok (.istore 4, 2) := by decide +kernel
theorem dX0_priceOfNear_3 : decode cX0_priceOfNear 3 = .ok (.iconst 0, 1) := by decide +kernel
theorem dX0_priceOfNear_4 : decode cX0_priceOfNear 4 = .ok (.istore 5, 2) := by decide +kernel
theorem dX0_priceOfNear_6 : decode cX0_priceOfNear 6 = .ok (.iload 5, 2) := by decide +kernel
theorem dX0_priceOfNear_8 : decode cX0_priceOfNear 8 = .ok (.iconst 4, 1) := by decide +kernel
theorem dX0_priceOfNear_9 : decode cX0_priceOfNear 9 = .ok (.if_icmp .ge 46, 3) := by decide +kernel
theorem dX0_priceOfNear_12 : decode cX0_priceOfNear 12 = .ok (.aload_n 0, 1) := by decide +kernel
theorem dX0_priceOfNear_13 : decode cX0_priceOfNear 13 = .ok (.iload_n 1, 1) := by decide +kernel
theorem dX0_priceOfNear_14 : decode cX0_priceOfNear 14 = .ok (.iload 5, 2) := by decide +kernel
theorem dX0_priceOfNear_16 : decode cX0_priceOfNear 16 = .ok (.invokevirtual 93, 3) := by decide +kernel
theorem dX0_priceOfNear_19 : decode cX0_priceOfNear 19 = .ok (.lstore 6, 2) := by decide +kernel
theorem dX0_priceOfNear_21 : decode cX0_priceOfNear 21 = .ok (.lload 6, 2) := by decide +kernel
theorem dX0_priceOfNear_23 : decode cX0_priceOfNear 23 = .ok (.lload_n 2, 1) := by decide +kernel
theorem dX0_priceOfNear_24 : decode cX0_priceOfNear 24 = .ok (.lcmp, 1) := by decide +kernel
theorem dX0_priceOfNear_25 : decode cX0_priceOfNear 25 = .ok (.ifCond .ne 5, 3) := by decide +kernel
theorem dX0_priceOfNear_28 : decode cX0_priceOfNear 28 = .ok (.iconst 0, 1) := by decide +kernel
theorem dX0_priceOfNear_29 : decode cX0_priceOfNear 29 = .ok (.ireturn, 1) := by decide +kernel
theorem dX0_priceOfNear_30 : decode cX0_priceOfNear 30 = .ok (.lload 6, 2) := by decide +kernel
theorem dX0_priceOfNear_32 : decode cX0_priceOfNear 32 = .ok (.lconst 0, 1) := by decide +kernel
theorem dX0_priceOfNear_33 : decode cX0_priceOfNear 33 = .ok (.lcmp, 1) := by decide +kernel
theorem dX0_priceOfNear_34 : decode cX0_priceOfNear 34 = .ok (.ifCond .eq 15, 3) := by decide +kernel
theorem dX0_priceOfNear_37 : decode cX0_priceOfNear 37 = .ok (.lload 6, 2) := by decide +kernel
theorem dX0_priceOfNear_39 : decode cX0_priceOfNear 39 = .ok (.lload_n 2, 1) := by decide +kernel
theorem dX0_priceOfNear_40 : decode cX0_priceOfNear 40 = .ok (.invokestatic 103, 3) := by decide +kernel
theorem dX0_priceOfNear_43 : decode cX0_priceOfNear 43 = .ok (.ifCond .eq 6, 3) := by decide +kernel
theorem dX0_priceOfNear_46 : decode cX0_priceOfNear 46 = .ok (.iconst 2, 1) := by decide +kernel
theorem dX0_priceOfNear_47 : decode cX0_priceOfNear 47 = .ok (.istore 4, 2) := by decide +kernel
theorem dX0_priceOfNear_49 : decode cX0_priceOfNear 49 = .ok (.iinc 5 1, 3) := by decide +kernel
theorem dX0_priceOfNear_52 : decode cX0_priceOfNear 52 = .ok (.goto (-46), 3) := by decide +kernel
theorem dX0_priceOfNear_55 : decode cX0_priceOfNear 55 = .ok (.iload 4, 2) := by decide +kernel
theorem dX0_priceOfNear_57 : decode cX0_priceOfNear 57 = .ok (.ireturn, 1) := by decide +kernel
theorem dX0_priceOfNumber_0 : decode cX0_priceOfNumber 0 = .ok (.iconst 0, 1) := by decide +kernel
theorem dX0_priceOfNumber_1 : decode cX0_priceOfNumber 1 = .ok (.istore 5, 2) := by decide +kernel
theorem dX0_priceOfNumber_3 : decode cX0_priceOfNumber 3 = .ok (.iload 5, 2) := by decide +kernel
theorem dX0_priceOfNumber_5 : decode cX0_priceOfNumber 5 = .ok (.iconst 4, 1) := by decide +kernel
theorem dX0_priceOfNumber_6 : decode cX0_priceOfNumber 6 = .ok (.if_icmp .ge 50, 3) := by decide +kernel
theorem dX0_priceOfNumber_9 : decode cX0_priceOfNumber 9 = .ok (.aload_n 0, 1) := by decide +kernel
theorem dX0_priceOfNumber_10 : decode cX0_priceOfNumber 10 = .ok (.iload_n 1, 1) := by decide +kernel
theorem dX0_priceOfNumber_11 : decode cX0_priceOfNumber 11 = .ok (.iload 5, 2) := by decide +kernel
theorem dX0_priceOfNumber_13 : decode cX0_priceOfNumber 13 = .ok (.invokevirtual 106, 3) := by decide +kernel
theorem dX0_priceOfNumber_16 : decode cX0_priceOfNumber 16 = .ok (.lstore 6, 2) := by decide +kernel
theorem dX0_priceOfNumber_18 : decode cX0_priceOfNumber 18 = .ok (.lload 6, 2) := by decide +kernel
theorem dX0_priceOfNumber_20 : decode cX0_priceOfNumber 20 = .ok (.ldc2_w 109, 3) := by decide +kernel
theorem dX0_priceOfNumber_23 : decode cX0_priceOfNumber 23 = .ok (.lcmp, 1) := by decide +kernel
theorem dX0_priceOfNumber_24 : decode cX0_priceOfNumber 24 = .ok (.ifCond .eq 26, 3) := by decide +kernel
theorem dX0_priceOfNumber_27 : decode cX0_priceOfNumber 27 = .ok (.iload_n 2, 1) := by decide +kernel
theorem dX0_priceOfNumber_28 : decode cX0_priceOfNumber 28 = .ok (.ifCond .eq 13, 3) := by decide +kernel
theorem dX0_priceOfNumber_31 : decode cX0_priceOfNumber 31 = .ok (.lload 6, 2) := by decide +kernel
theorem dX0_priceOfNumber_33 : decode cX0_priceOfNumber 33 = .ok (.lload_n 3, 1) := by decide +kernel
theorem dX0_priceOfNumber_34 : decode cX0_priceOfNumber 34 = .ok (.lcmp, 1) := by decide +kernel
theorem dX0_priceOfNumber_35 : decode cX0_priceOfNumber 35 = .ok (.ifCond .le 15, 3) := by decide +kernel
theorem dX0_priceOfNumber_38 : decode cX0_priceOfNumber 38 = .ok (.goto 10, 3) := by decide +kernel
theorem dX0_priceOfNumber_41 : decode cX0_priceOfNumber 41 = .ok (.lload 6, 2) := by decide +kernel
theorem dX0_priceOfNumber_43 : decode cX0_priceOfNumber 43 = .ok (.lload_n 3, 1) := by decide +kernel
theorem dX0_priceOfNumber_44 : decode cX0_priceOfNumber 44 = .ok (.lcmp, 1) := by decide +kernel
theorem dX0_priceOfNumber_45 : decode cX0_priceOfNumber 45 = .ok (.ifCond .ge 5, 3) := by decide +kernel
theorem dX0_priceOfNumber_48 : decode cX0_priceOfNumber 48 = .ok (.iconst 1, 1) := by decide +kernel
theorem dX0_priceOfNumber_49 : decode cX0_priceOfNumber 49 = .ok (.ireturn, 1) := by decide +kernel
theorem dX0_priceOfNumber_50 : decode cX0_priceOfNumber 50 = .ok (.iinc 5 1, 3) := by decide +kernel
theorem dX0_priceOfNumber_53 : decode cX0_priceOfNumber 53 = .ok (.goto (-50), 3) := by decide +kernel
theorem dX0_priceOfNumber_56 : decode cX0_priceOfNumber 56 = .ok (.iconst (-1), 1) := by decide +kernel
theorem dX0_priceOfNumber_57 : decode cX0_priceOfNumber 57 = .ok (.ireturn, 1) := by decide +kernel
theorem dX0_nearWord_0 : decode cX0_nearWord 0 = .ok (.aload_n 0, 1) := by decide +kernel
theorem dX0_nearWord_1 : decode cX0_nearWord 1 = .ok (.iconst 0, 1) := by decide +kernel
theorem dX0_nearWord_2 : decode cX0_nearWord 2 = .ok (.putfield 111, 3) := by decide +kernel
theorem dX0_nearWord_5 : decode cX0_nearWord 5 = .ok (.iconst 0, 1) := by decide +kernel
theorem dX0_nearWord_6 : decode cX0_nearWord 6 = .ok (.istore 6, 2) := by decide +kernel
theorem dX0_nearWord_8 : decode cX0_nearWord 8 = .ok (.iload 6, 2) := by decide +kernel
theorem dX0_nearWord_10 : decode cX0_nearWord 10 = .ok (.aload_n 1, 1) := by decide +kernel
theorem dX0_nearWord_11 : decode cX0_nearWord 11 = .ok (.getfield 42, 3) := by decide +kernel
theorem dX0_nearWord_14 : decode cX0_nearWord 14 = .ok (.if_icmp .ge 65, 3) := by decide +kernel
theorem dX0_nearWord_17 : decode cX0_nearWord 17 = .ok (.iconst 0, 1) := by decide +kernel
theorem dX0_nearWord_18 : decode cX0_nearWord 18 = .ok (.istore 7, 2) := by decide +kernel
theorem dX0_nearWord_20 : decode cX0_nearWord 20 = .ok (.iload 7, 2) := by decide +kernel
theorem dX0_nearWord_22 : decode cX0_nearWord 22 = .ok (.iconst 4, 1) := by decide +kernel
theorem dX0_nearWord_23 : decode cX0_nearWord 23 = .ok (.if_icmp .ge 50, 3) := by decide +kernel
theorem dX0_nearWord_26 : decode cX0_nearWord 26 = .ok (.iload_n 2, 1) := by decide +kernel
theorem dX0_nearWord_27 : decode cX0_nearWord 27 = .ok (.iload 6, 2) := by decide +kernel
theorem dX0_nearWord_29 : decode cX0_nearWord 29 = .ok (.ishr, 1) := by decide +kernel
theorem dX0_nearWord_30 : decode cX0_nearWord 30 = .ok (.iconst 1, 1) := by decide +kernel
theorem dX0_nearWord_31 : decode cX0_nearWord 31 = .ok (.iand, 1) := by decide +kernel
theorem dX0_nearWord_32 : decode cX0_nearWord 32 = .ok (.ifCond .eq 41, 3) := by decide +kernel
theorem dX0_nearWord_35 : decode cX0_nearWord 35 = .ok (.aload_n 1, 1) := by decide +kernel
theorem dX0_nearWord_36 : decode cX0_nearWord 36 = .ok (.iload 6, 2) := by decide +kernel
theorem dX0_nearWord_38 : decode cX0_nearWord 38 = .ok (.iload 7, 2) := by decide +kernel
theorem dX0_nearWord_40 : decode cX0_nearWord 40 = .ok (.invokevirtual 93, 3) := by decide +kernel
theorem dX0_nearWord_43 : decode cX0_nearWord 43 = .ok (.lstore 8, 2) := by decide +kernel
theorem dX0_nearWord_45 : decode cX0_nearWord 45 = .ok (.lload 8, 2) := by decide +kernel
theorem dX0_nearWord_47 : decode cX0_nearWord 47 = .ok (.lconst 0, 1) := by decide +kernel
theorem dX0_nearWord_48 : decode cX0_nearWord 48 = .ok (.lcmp, 1) := by decide +kernel
theorem dX0_nearWord_49 : decode cX0_nearWord 49 = .ok (.ifCond .eq 18, 3) := by decide +kernel
theorem dX0_nearWord_52 : decode cX0_nearWord 52 = .ok (.lload 8, 2) := by decide +kernel
theorem dX0_nearWord_54 : decode cX0_nearWord 54 = .ok (.lload_n 3, 1) := by decide +kernel
theorem dX0_nearWord_55 : decode cX0_nearWord 55 = .ok (.invokestatic 103, 3) := by decide +kernel
theorem dX0_nearWord_58 : decode cX0_nearWord 58 = .ok (.ifCond .eq 9, 3) := by decide +kernel
theorem dX0_nearWord_61 : decode cX0_nearWord 61 = .ok (.aload_n 0, 1) := by decide +kernel
theorem dX0_nearWord_62 : decode cX0_nearWord 62 = .ok (.lload 8, 2) := by decide +kernel
theorem dX0_nearWord_64 : decode cX0_nearWord 64 = .ok (.invokevirtual 114, 3) := by decide +kernel
theorem dX0_nearWord_67 : decode cX0_nearWord 67 = .ok (.iinc 7 1, 3) := by decide +kernel
theorem dX0_nearWord_70 : decode cX0_nearWord 70 = .ok (.goto (-50), 3) := by decide +kernel
theorem dX0_nearWord_73 : decode cX0_nearWord 73 = .ok (.iinc 6 1, 3) := by decide +kernel
theorem dX0_nearWord_76 : decode cX0_nearWord 76 = .ok (.goto (-68), 3) := by decide +kernel
theorem dX0_nearWord_79 : decode cX0_nearWord 79 = .ok (.iload 5, 2) := by decide +kernel
theorem dX0_nearWord_81 : decode cX0_nearWord 81 = .ok (.ifCond .lt 22, 3) := by decide +kernel
theorem dX0_nearWord_84 : decode cX0_nearWord 84 = .ok (.iload 5, 2) := by decide +kernel
theorem dX0_nearWord_86 : decode cX0_nearWord 86 = .ok (.aload_n 0, 1) := by decide +kernel
theorem dX0_nearWord_87 : decode cX0_nearWord 87 = .ok (.getfield 111, 3) := by decide +kernel
theorem dX0_nearWord_90 : decode cX0_nearWord 90 = .ok (.if_icmp .ge 13, 3) := by decide +kernel
theorem dX0_nearWord_93 : decode cX0_nearWord 93 = .ok (.aload_n 0, 1) := by decide +kernel
theorem dX0_nearWord_94 : decode cX0_nearWord 94 = .ok (.getfield 19, 3) := by decide +kernel
theorem dX0_nearWord_97 : decode cX0_nearWord 97 = .ok (.iload 5, 2) := by decide +kernel
theorem dX0_nearWord_99 : decode cX0_nearWord 99 = .ok (.laload, 1) := by decide +kernel
theorem dX0_nearWord_100 : decode cX0_nearWord 100 = .ok (.goto 6, 3) := by decide +kernel
theorem dX0_nearWord_103 : decode cX0_nearWord 103 = .ok (.ldc2_w 109, 3) := by decide +kernel
theorem dX0_nearWord_106 : decode cX0_nearWord 106 = .ok (.lreturn, 1) := by decide +kernel
theorem dX0_insertNear_0 : decode cX0_insertNear 0 = .ok (.lload_n 1, 1) := by decide +kernel
theorem dX0_insertNear_1 : decode cX0_insertNear 1 = .ok (.invokestatic 118, 3) := by decide +kernel
theorem dX0_insertNear_4 : decode cX0_insertNear 4 = .ok (.lstore_n 3, 1) := by decide +kernel
theorem dX0_insertNear_5 : decode cX0_insertNear 5 = .ok (.iconst 0, 1) := by decide +kernel
theorem dX0_insertNear_6 : decode cX0_insertNear 6 = .ok (.istore 5, 2) := by decide +kernel
theorem dX0_insertNear_8 : decode cX0_insertNear 8 = .ok (.iload 5, 2) := by decide +kernel
theorem dX0_insertNear_10 : decode cX0_insertNear 10 = .ok (.aload_n 0, 1) := by decide +kernel
theorem dX0_insertNear_11 : decode cX0_insertNear 11 = .ok (.getfield 111, 3) := by decide +kernel
theorem dX0_insertNear_14 : decode cX0_insertNear 14 = .ok (.if_icmp .ge 24, 3) := by decide +kernel
theorem dX0_insertNear_17 : decode cX0_insertNear 17 = .ok (.aload_n 0, 1) := by decide +kernel
theorem dX0_insertNear_18 : decode cX0_insertNear 18 = .ok (.getfield 19, 3) := by decide +kernel
theorem dX0_insertNear_21 : decode cX0_insertNear 21 = .ok (.iload 5, 2) := by decide +kernel
theorem dX0_insertNear_23 : decode cX0_insertNear 23 = .ok (.laload, 1) := by decide +kernel
theorem dX0_insertNear_24 : decode cX0_insertNear 24 = .ok (.invokestatic 118, 3) := by decide +kernel
theorem dX0_insertNear_27 : decode cX0_insertNear 27 = .ok (.lload_n 3, 1) := by decide +kernel
theorem dX0_insertNear_28 : decode cX0_insertNear 28 = .ok (.lcmp, 1) := by decide +kernel
theorem dX0_insertNear_29 : decode cX0_insertNear 29 = .ok (.ifCond .ge 9, 3) := by decide +kernel
theorem dX0_insertNear_32 : decode cX0_insertNear 32 = .ok (.iinc 5 1, 3) := by decide +kernel
theorem dX0_insertNear_35 : decode cX0_insertNear 35 = .ok (.goto (-27), 3) := by decide +kernel
theorem dX0_insertNear_38 : decode cX0_insertNear 38 = .ok (.iload 5, 2) := by decide +kernel
theorem dX0_insertNear_40 : decode cX0_insertNear 40 = .ok (.aload_n 0, 1) := by decide +kernel
theorem dX0_insertNear_41 : decode cX0_insertNear 41 = .ok (.getfield 111, 3) := by decide +kernel
theorem dX0_insertNear_44 : decode cX0_insertNear 44 = .ok (.if_icmp .ge 19, 3) := by decide +kernel
theorem dX0_insertNear_47 : decode cX0_insertNear 47 = .ok (.aload_n 0, 1) := by decide +kernel
theorem dX0_insertNear_48 : decode cX0_insertNear 48 = .ok (.getfield 19, 3) := by decide +kernel
theorem dX0_insertNear_51 : decode cX0_insertNear 51 = .ok (.iload 5, 2) := by decide +kernel
theorem dX0_insertNear_53 : decode cX0_insertNear 53 = .ok (.laload, 1) := by decide +kernel
theorem dX0_insertNear_54 : decode cX0_insertNear 54 = .ok (.lload_n 1, 1) := by decide +kernel
theorem dX0_insertNear_55 : decode cX0_insertNear 55 = .ok (.lcmp, 1) := by decide +kernel
theorem dX0_insertNear_56 : decode cX0_insertNear 56 = .ok (.ifCond .ne 7, 3) := by decide +kernel
theorem dX0_insertNear_59 : decode cX0_insertNear 59 = .ok (.iconst 1, 1) := by decide +kernel
theorem dX0_insertNear_60 : decode cX0_insertNear 60 = .ok (.goto 4, 3) := by decide +kernel
theorem dX0_insertNear_63 : decode cX0_insertNear 63 = .ok (.iconst 0, 1) := by decide +kernel
theorem dX0_insertNear_64 : decode cX0_insertNear 64 = .ok (.istore 6, 2) := by decide +kernel
theorem dX0_insertNear_66 : decode cX0_insertNear 66 = .ok (.iload 6, 2) := by decide +kernel
theorem dX0_insertNear_68 : decode cX0_insertNear 68 = .ok (.ifCond .ne 15, 3) := by decide +kernel
theorem dX0_insertNear_71 : decode cX0_insertNear 71 = .ok (.aload_n 0, 1) := by decide +kernel
theorem dX0_insertNear_72 : decode cX0_insertNear 72 = .ok (.getfield 111, 3) := by decide +kernel
theorem dX0_insertNear_75 : decode cX0_insertNear 75 = .ok (.aload_n 0, 1) := by decide +kernel
theorem dX0_insertNear_76 : decode cX0_insertNear 76 = .ok (.getfield 19, 3) := by decide +kernel
theorem dX0_insertNear_79 : decode cX0_insertNear 79 = .ok (.arraylength, 1) := by decide +kernel
theorem dX0_insertNear_80 : decode cX0_insertNear 80 = .ok (.if_icmp .lt 4, 3) := by decide +kernel
theorem dX0_insertNear_83 : decode cX0_insertNear 83 = .ok (.return_, 1) := by decide +kernel
theorem dX0_insertNear_84 : decode cX0_insertNear 84 = .ok (.aload_n 0, 1) := by decide +kernel
theorem dX0_insertNear_85 : decode cX0_insertNear 85 = .ok (.getfield 111, 3) := by decide +kernel
theorem dX0_insertNear_88 : decode cX0_insertNear 88 = .ok (.istore 7, 2) := by decide +kernel
theorem dX0_insertNear_90 : decode cX0_insertNear 90 = .ok (.iload 7, 2) := by decide +kernel
theorem dX0_insertNear_92 : decode cX0_insertNear 92 = .ok (.iload 5, 2) := by decide +kernel
theorem dX0_insertNear_94 : decode cX0_insertNear 94 = .ok (.if_icmp .le 25, 3) := by decide +kernel
theorem dX0_insertNear_97 : decode cX0_insertNear 97 = .ok (.aload_n 0, 1) := by decide +kernel
theorem dX0_insertNear_98 : decode cX0_insertNear 98 = .ok (.getfield 19, 3) := by decide +kernel
theorem dX0_insertNear_101 : decode cX0_insertNear 101 = .ok (.iload 7, 2) := by decide +kernel
theorem dX0_insertNear_103 : decode cX0_insertNear 103 = .ok (.aload_n 0, 1) := by decide +kernel
theorem dX0_insertNear_104 : decode cX0_insertNear 104 = .ok (.getfield 19, 3) := by decide +kernel
theorem dX0_insertNear_107 : decode cX0_insertNear 107 = .ok (.iload 7, 2) := by decide +kernel
theorem dX0_insertNear_109 : decode cX0_insertNear 109 = .ok (.iconst 1, 1) := by decide +kernel
theorem dX0_insertNear_110 : decode cX0_insertNear 110 = .ok (.isub, 1) := by decide +kernel
theorem dX0_insertNear_111 : decode cX0_insertNear 111 = .ok (.laload, 1) := by decide +kernel
theorem dX0_insertNear_112 : decode cX0_insertNear 112 = .ok (.lastore, 1) := by decide +kernel
theorem dX0_insertNear_113 : decode cX0_insertNear 113 = .ok (.iinc 7 (-1), 3) := by decide +kernel
theorem dX0_insertNear_116 : decode cX0_insertNear 116 = .ok (.goto (-26), 3) := by decide +kernel
theorem dX0_insertNear_119 : decode cX0_insertNear 119 = .ok (.aload_n 0, 1) := by decide +kernel
theorem dX0_insertNear_120 : decode cX0_insertNear 120 = .ok (.getfield 19, 3) := by decide +kernel
theorem dX0_insertNear_123 : decode cX0_insertNear 123 = .ok (.iload 5, 2) := by decide +kernel
theorem dX0_insertNear_125 : decode cX0_insertNear 125 = .ok (.lload_n 1, 1) := by decide +kernel
theorem dX0_insertNear_126 : decode cX0_insertNear 126 = .ok (.lastore, 1) := by decide +kernel
theorem dX0_insertNear_127 : decode cX0_insertNear 127 = .ok (.aload_n 0, 1) := by decide +kernel
theorem dX0_insertNear_128 : decode cX0_insertNear 128 = .ok (.dup, 1) := by decide +kernel
theorem dX0_insertNear_129 : decode cX0_insertNear 129 = .ok (.getfield 111, 3) := by decide +kernel
theorem dX0_insertNear_132 : decode cX0_insertNear 132 = .ok (.iconst 1, 1) := by decide +kernel
theorem dX0_insertNear_133 : decode cX0_insertNear 133 = .ok (.iadd, 1) := by decide +kernel
theorem dX0_insertNear_134 : decode cX0_insertNear 134 = .ok (.putfield 111, 3) := by decide +kernel
theorem dX0_insertNear_137 : decode cX0_insertNear 137 = .ok (.return_, 1) := by decide +kernel
