theorem dX2_init_0 : decode cX2_init 0 = .ok (.aload_n 0, 1) := by decide +kernel
theorem dX2_init_1 : decode cX2_init 1 = .ok (.invokespecial 5, 3) := by decide +kernel
theorem dX2_init_4 : decode cX2_init 4 = .ok (.aload_n 0, 1) := by decide +kernel
theorem dX2_init_5 : decode cX2_init 5 = .ok (.sipush 400, 3) := by decide +kernel
theorem dX2_init_8 : decode cX2_init 8 = .ok (.newarray .int, 2) := by decide +kernel
theorem dX2_init_10 : decode cX2_init 10 = .ok (.putfield 13, 3) := by decide +kernel
theorem dX2_init_13 : decode cX2_init 13 = .ok (.aload_n 0, 1) := by decide +kernel
theorem dX2_init_14 : decode cX2_init 14 = .ok (.bipush 20, 2) := by decide +kernel
theorem dX2_init_16 : decode cX2_init 16 = .ok (.newarray .int, 2) := by decide +kernel
theorem dX2_init_18 : decode cX2_init 18 = .ok (.putfield 17, 3) := by decide +kernel
theorem dX2_init_21 : decode cX2_init 21 = .ok (.aload_n 0, 1) := by decide +kernel
theorem dX2_init_22 : decode cX2_init 22 = .ok (.bipush 20, 2) := by decide +kernel
theorem dX2_init_24 : decode cX2_init 24 = .ok (.newarray .boolean, 2) := by decide +kernel
theorem dX2_init_26 : decode cX2_init 26 = .ok (.putfield 20, 3) := by decide +kernel
theorem dX2_init_29 : decode cX2_init 29 = .ok (.return_, 1) := by decide +kernel
theorem dX2_fill_0 : decode cX2_fill 0 = .ok (.aload_n 0, 1) := by decide +kernel
theorem dX2_fill_1 : decode cX2_fill 1 = .ok (.iconst 0, 1) := by decide +kernel
theorem dX2_fill_2 : decode cX2_fill 2 = .ok (.putfield 24, 3) := by decide +kernel
theorem dX2_fill_5 : decode cX2_fill 5 = .ok (.iconst 0, 1) := by decide +kernel
theorem dX2_fill_6 : decode cX2_fill 6 = .ok (.istore_n 3, 1) := by decide +kernel
theorem dX2_fill_7 : decode cX2_fill 7 = .ok (.iload_n 3, 1) := by decide +kernel
theorem dX2_fill_8 : decode cX2_fill 8 = .ok (.bipush 20, 2) := by decide +kernel
theorem dX2_fill_10 : decode cX2_fill 10 = .ok (.if_icmp .ge 37, 3) := by decide +kernel
theorem dX2_fill_13 : decode cX2_fill 13 = .ok (.aload_n 0, 1) := by decide +kernel
theorem dX2_fill_14 : decode cX2_fill 14 = .ok (.getfield 20, 3) := by decide +kernel
theorem dX2_fill_17 : decode cX2_fill 17 = .ok (.iload_n 3, 1) := by decide +kernel
theorem dX2_fill_18 : decode cX2_fill 18 = .ok (.aload_n 1, 1) := by decide +kernel
theorem dX2_fill_19 : decode cX2_fill 19 = .ok (.iload_n 3, 1) := by decide +kernel
theorem dX2_fill_20 : decode cX2_fill 20 = .ok (.invokestatic 28, 3) := by decide +kernel
theorem dX2_fill_23 : decode cX2_fill 23 = .ok (.ifCond .eq 16, 3) := by decide +kernel
theorem dX2_fill_26 : decode cX2_fill 26 = .ok (.aload_n 1, 1) := by decide +kernel
theorem dX2_fill_27 : decode cX2_fill 27 = .ok (.iload_n 2, 1) := by decide +kernel
theorem dX2_fill_28 : decode cX2_fill 28 = .ok (.iload_n 3, 1) := by decide +kernel
theorem dX2_fill_29 : decode cX2_fill 29 = .ok (.invokestatic 32, 3) := by decide +kernel
theorem dX2_fill_32 : decode cX2_fill 32 = .ok (.ifCond .eq 7, 3) := by decide +kernel
theorem dX2_fill_35 : decode cX2_fill 35 = .ok (.iconst 1, 1) := by decide +kernel
theorem dX2_fill_36 : decode cX2_fill 36 = .ok (.goto 4, 3) := by decide +kernel
theorem dX2_fill_39 : decode cX2_fill 39 = .ok (.iconst 0, 1) := by decide +kernel
theorem dX2_fill_40 : decode cX2_fill 40 = .ok (.bastore, 1) := by decide +kernel
theorem dX2_fill_41 : decode cX2_fill 41 = .ok (.iinc 3 1, 3) := by decide +kernel
theorem dX2_fill_44 : decode cX2_fill 44 = .ok (.goto (-37), 3) := by decide +kernel
theorem dX2_fill_47 : decode cX2_fill 47 = .ok (.iconst 0, 1) := by decide +kernel
theorem dX2_fill_48 : decode cX2_fill 48 = .ok (.istore_n 3, 1) := by decide +kernel
theorem dX2_fill_49 : decode cX2_fill 49 = .ok (.iload_n 3, 1) := by decide +kernel
theorem dX2_fill_50 : decode cX2_fill 50 = .ok (.bipush 20, 2) := by decide +kernel
theorem dX2_fill_52 : decode cX2_fill 52 = .ok (.if_icmp .ge 99, 3) := by decide +kernel
theorem dX2_fill_55 : decode cX2_fill 55 = .ok (.iconst 0, 1) := by decide +kernel
theorem dX2_fill_56 : decode cX2_fill 56 = .ok (.istore 4, 2) := by decide +kernel
theorem dX2_fill_58 : decode cX2_fill 58 = .ok (.iload 4, 2) := by decide +kernel
theorem dX2_fill_60 : decode cX2_fill 60 = .ok (.bipush 20, 2) := by decide +kernel
theorem dX2_fill_62 : decode cX2_fill 62 = .ok (.if_icmp .ge 83, 3) := by decide +kernel
theorem dX2_fill_65 : decode cX2_fill 65 = .ok (.aload_n 1, 1) := by decide +kernel
theorem dX2_fill_66 : decode cX2_fill 66 = .ok (.iload_n 3, 1) := by decide +kernel
theorem dX2_fill_67 : decode cX2_fill 67 = .ok (.invokestatic 28, 3) := by decide +kernel
theorem dX2_fill_70 : decode cX2_fill 70 = .ok (.ifCond .eq 75, 3) := by decide +kernel
theorem dX2_fill_73 : decode cX2_fill 73 = .ok (.iload_n 3, 1) := by decide +kernel
theorem dX2_fill_74 : decode cX2_fill 74 = .ok (.iconst 4, 1) := by decide +kernel
theorem dX2_fill_75 : decode cX2_fill 75 = .ok (.idiv, 1) := by decide +kernel
theorem dX2_fill_76 : decode cX2_fill 76 = .ok (.iload 4, 2) := by decide +kernel
theorem dX2_fill_78 : decode cX2_fill 78 = .ok (.iconst 4, 1) := by decide +kernel
theorem dX2_fill_79 : decode cX2_fill 79 = .ok (.idiv, 1) := by decide +kernel
theorem dX2_fill_80 : decode cX2_fill 80 = .ok (.if_icmp .eq 7, 3) := by decide +kernel
theorem dX2_fill_83 : decode cX2_fill 83 = .ok (.iconst 1, 1) := by decide +kernel
theorem dX2_fill_84 : decode cX2_fill 84 = .ok (.goto 4, 3) := by decide +kernel
theorem dX2_fill_87 : decode cX2_fill 87 = .ok (.iconst 0, 1) := by decide +kernel
theorem dX2_fill_88 : decode cX2_fill 88 = .ok (.istore 5, 2) := by decide +kernel
theorem dX2_fill_90 : decode cX2_fill 90 = .ok (.iload 5, 2) := by decide +kernel
theorem dX2_fill_92 : decode cX2_fill 92 = .ok (.ifCond .eq 47, 3) := by decide +kernel
theorem dX2_fill_95 : decode cX2_fill 95 = .ok (.aload_n 0, 1) := by decide +kernel
theorem dX2_fill_96 : decode cX2_fill 96 = .ok (.getfield 20, 3) := by decide +kernel
theorem dX2_fill_99 : decode cX2_fill 99 = .ok (.iload 4, 2) := by decide +kernel
theorem dX2_fill_101 : decode cX2_fill 101 = .ok (.baload, 1) := by decide +kernel
theorem dX2_fill_102 : decode cX2_fill 102 = .ok (.ifCond .eq 37, 3) := by decide +kernel
theorem dX2_fill_105 : decode cX2_fill 105 = .ok (.aload_n 1, 1) := by decide +kernel
theorem dX2_fill_106 : decode cX2_fill 106 = .ok (.iload_n 2, 1) := by decide +kernel
theorem dX2_fill_107 : decode cX2_fill 107 = .ok (.iload_n 3, 1) := by decide +kernel
theorem dX2_fill_108 : decode cX2_fill 108 = .ok (.iload 4, 2) := by decide +kernel
theorem dX2_fill_110 : decode cX2_fill 110 = .ok (.invokestatic 36, 3) := by decide +kernel
theorem dX2_fill_113 : decode cX2_fill 113 = .ok (.ifCond .eq 26, 3) := by decide +kernel
theorem dX2_fill_116 : decode cX2_fill 116 = .ok (.aload_n 0, 1) := by decide +kernel
theorem dX2_fill_117 : decode cX2_fill 117 = .ok (.getfield 13, 3) := by decide +kernel
theorem dX2_fill_120 : decode cX2_fill 120 = .ok (.aload_n 0, 1) := by decide +kernel
theorem dX2_fill_121 : decode cX2_fill 121 = .ok (.dup, 1) := by decide +kernel
theorem dX2_fill_122 : decode cX2_fill 122 = .ok (.getfield 24, 3) := by decide +kernel
theorem dX2_fill_125 : decode cX2_fill 125 = .ok (.dup_x1, 1) := by decide +kernel
theorem dX2_fill_126 : decode cX2_fill 126 = .ok (.iconst 1, 1) := by decide +kernel
theorem dX2_fill_127 : decode cX2_fill 127 = .ok (.iadd, 1) := by decide +kernel
theorem dX2_fill_128 : decode cX2_fill 128 = .ok (.putfield 24, 3) := by decide +kernel
theorem dX2_fill_131 : decode cX2_fill 131 = .ok (.iload_n 3, 1) := by decide +kernel
theorem dX2_fill_132 : decode cX2_fill 132 = .ok (.bipush 20, 2) := by decide +kernel
theorem dX2_fill_134 : decode cX2_fill 134 = .ok (.imul, 1) := by decide +kernel
theorem dX2_fill_135 : decode cX2_fill 135 = .ok (.iload 4, 2) := by decide +kernel
theorem dX2_fill_137 : decode cX2_fill 137 = .ok (.iadd, 1) := by decide +kernel
theorem dX2_fill_138 : decode cX2_fill 138 = .ok (.iastore, 1) := by decide +kernel
theorem dX2_fill_139 : decode cX2_fill 139 = .ok (.iinc 4 1, 3) := by decide +kernel
theorem dX2_fill_142 : decode cX2_fill 142 = .ok (.goto (-84), 3) := by decide +kernel
theorem dX2_fill_145 : decode cX2_fill 145 = .ok (.iinc 3 1, 3) := by decide +kernel
theorem dX2_fill_148 : decode cX2_fill 148 = .ok (.goto (-99), 3) := by decide +kernel
theorem dX2_fill_151 : decode cX2_fill 151 = .ok (.return_, 1) := by decide +kernel
theorem dX2_codeAt_0 : decode cX2_codeAt 0 = .ok (.iload_n 1, 1) := by decide +kernel
theorem dX2_codeAt_1 : decode cX2_codeAt 1 = .ok (.ifCond .lt 20, 3) := by decide +kernel
theorem dX2_codeAt_4 : decode cX2_codeAt 4 = .ok (.iload_n 1, 1) := by decide +kernel
theorem dX2_codeAt_5 : decode cX2_codeAt 5 = .ok (.aload_n 0, 1) := by decide +kernel
theorem dX2_codeAt_6 : decode cX2_codeAt 6 = .ok (.getfield 24, 3) := by decide +kernel
theorem dX2_codeAt_9 : decode cX2_codeAt 9 = .ok (.if_icmp .ge 12, 3) := by decide +kernel
theorem dX2_codeAt_12 : decode cX2_codeAt 12 = .ok (.aload_n 0, 1) := by decide +kernel
theorem dX2_codeAt_13 : decode cX2_codeAt 13 = .ok (.getfield 13, 3) := by decide +kernel
theorem dX2_codeAt_16 : decode cX2_codeAt 16 = .ok (.iload_n 1, 1) := by decide +kernel
theorem dX2_codeAt_17 : decode cX2_codeAt 17 = .ok (.iaload, 1) := by decide +kernel
theorem dX2_codeAt_18 : decode cX2_codeAt 18 = .ok (.goto 4, 3) := by decide +kernel
theorem dX2_codeAt_21 : decode cX2_codeAt 21 = .ok (.iconst (-1), 1) := by decide +kernel
theorem dX2_codeAt_22 : decode cX2_codeAt 22 = .ok (.ireturn, 1) := by decide +kernel
theorem dX2_letOne_0 : decode cX2_letOne 0 = .ok (.aload_n 0, 1) := by decide +kernel
theorem dX2_letOne_1 : decode cX2_letOne 1 = .ok (.iload_n 1, 1) := by decide +kernel
theorem dX2_letOne_2 : decode cX2_letOne 2 = .ok (.invokevirtual 40, 3) := by decide +kernel
theorem dX2_letOne_5 : decode cX2_letOne 5 = .ok (.istore_n 2, 1) := by decide +kernel
theorem dX2_letOne_6 : decode cX2_letOne 6 = .ok (.iload_n 2, 1) := by decide +kernel
theorem dX2_letOne_7 : decode cX2_letOne 7 = .ok (.iconst (-1), 1) := by decide +kernel
theorem dX2_letOne_8 : decode cX2_letOne 8 = .ok (.if_icmp .eq 12, 3) := by decide +kernel
theorem dX2_letOne_11 : decode cX2_letOne 11 = .ok (.aload_n 0, 1) := by decide +kernel
theorem dX2_letOne_12 : decode cX2_letOne 12 = .ok (.getfield 44, 3) := by decide +kernel
theorem dX2_letOne_15 : decode cX2_letOne 15 = .ok (.bipush 20, 2) := by decide +kernel
theorem dX2_letOne_17 : decode cX2_letOne 17 = .ok (.if_icmp .lt 5, 3) := by decide +kernel
theorem dX2_letOne_20 : decode cX2_letOne 20 = .ok (.iconst 0, 1) := by decide +kernel
theorem dX2_letOne_21 : decode cX2_letOne 21 = .ok (.ireturn, 1) := by decide +kernel
theorem dX2_letOne_22 : decode cX2_letOne 22 = .ok (.iconst 0, 1) := by decide +kernel
theorem dX2_letOne_23 : decode cX2_letOne 23 = .ok (.istore_n 3, 1) := by decide +kernel
theorem dX2_letOne_24 : decode cX2_letOne 24 = .ok (.iload_n 3, 1) := by decide +kernel
theorem dX2_letOne_25 : decode cX2_letOne 25 = .ok (.aload_n 0, 1) := by decide +kernel
theorem dX2_letOne_26 : decode cX2_letOne 26 = .ok (.getfield 44, 3) := by decide +kernel
theorem dX2_letOne_29 : decode cX2_letOne 29 = .ok (.if_icmp .ge 21, 3) := by decide +kernel
theorem dX2_letOne_32 : decode cX2_letOne 32 = .ok (.aload_n 0, 1) := by decide +kernel
theorem dX2_letOne_33 : decode cX2_letOne 33 = .ok (.getfield 17, 3) := by decide +kernel
theorem dX2_letOne_36 : decode cX2_letOne 36 = .ok (.iload_n 3, 1) := by decide +kernel
theorem dX2_letOne_37 : decode cX2_letOne 37 = .ok (.iaload, 1) := by decide +kernel
theorem dX2_letOne_38 : decode cX2_letOne 38 = .ok (.iload_n 2, 1) := by decide +kernel
theorem dX2_letOne_39 : decode cX2_letOne 39 = .ok (.if_icmp .ne 5, 3) := by decide +kernel
theorem dX2_letOne_42 : decode cX2_letOne 42 = .ok (.iconst 0, 1) := by decide +kernel
theorem dX2_letOne_43 : decode cX2_letOne 43 = .ok (.ireturn, 1) := by decide +kernel
theorem dX2_letOne_44 : decode cX2_letOne 44 = .ok (.iinc 3 1, 3) := by decide +kernel
theorem dX2_letOne_47 : decode cX2_letOne 47 = .ok (.goto (-23), 3) := by decide +kernel
theorem dX2_letOne_50 : decode cX2_letOne 50 = .ok (.aload_n 0, 1) := by decide +kernel
theorem dX2_letOne_51 : decode cX2_letOne 51 = .ok (.getfield 17, 3) := by decide +kernel
theorem dX2_letOne_54 : decode cX2_letOne 54 = .ok (.aload_n 0, 1) := by decide +kernel
theorem dX2_letOne_55 : decode cX2_letOne 55 = .ok (.dup, 1) := by decide +kernel
theorem dX2_letOne_56 : decode cX2_letOne 56 = .ok (.getfield 44, 3) := by decide +kernel
theorem dX2_letOne_59 : decode cX2_letOne 59 = .ok (.dup_x1, 1) := by decide +kernel
theorem dX2_letOne_60 : decode cX2_letOne 60 = .ok (.iconst 1, 1) := by decide +kernel
theorem dX2_letOne_61 : decode cX2_letOne 61 = .ok (.iadd, 1) := by decide +kernel
theorem dX2_letOne_62 : decode cX2_letOne 62 = .ok (.putfield 44, 3) := by decide +kernel
theorem dX2_letOne_65 : decode cX2_letOne 65 = .ok (.iload_n 2, 1) := by decide +kernel
theorem dX2_letOne_66 : decode cX2_letOne 66 = .ok (.iastore, 1) := by decide +kernel
theorem dX2_letOne_67 : decode cX2_letOne 67 = .ok (.iconst 1, 1) := by decide +kernel
theorem dX2_letOne_68 : decode cX2_letOne 68 = .ok (.ireturn, 1) := by decide +kernel
theorem dX2_forgetLets_0 : decode cX2_forgetLets 0 = .ok (.aload_n 0, 1) := by decide +kernel
theorem dX2_forgetLets_1 : decode cX2_forgetLets 1 = .ok (.iconst 0, 1) := by decide +kernel
theorem dX2_forgetLets_2 : decode cX2_forgetLets 2 = .ok (.putfield 44, 3) := by decide +kernel
theorem dX2_forgetLets_5 : decode cX2_forgetLets 5 = .ok (.return_, 1) := by decide +kernel
theorem dX2_letFrom_0 : decode cX2_letFrom 0 = .ok (.iload_n 1, 1) := by decide +kernel
theorem dX2_letFrom_1 : decode cX2_letFrom 1 = .ok (.ifCond .lt 23, 3) := by decide +kernel
theorem dX2_letFrom_4 : decode cX2_letFrom 4 = .ok (.iload_n 1, 1) := by decide +kernel
theorem dX2_letFrom_5 : decode cX2_letFrom 5 = .ok (.aload_n 0, 1) := by decide +kernel
theorem dX2_letFrom_6 : decode cX2_letFrom 6 = .ok (.getfield 44, 3) := by decide +kernel
theorem dX2_letFrom_9 : decode cX2_letFrom 9 = .ok (.if_icmp .ge 15, 3) := by decide +kernel
theorem dX2_letFrom_12 : decode cX2_letFrom 12 = .ok (.aload_n 0, 1) := by decide +kernel
theorem dX2_letFrom_13 : decode cX2_letFrom 13 = .ok (.getfield 17, 3) := by decide +kernel
theorem dX2_letFrom_16 : decode cX2_letFrom 16 = .ok (.iload_n 1, 1) := by decide +kernel
theorem dX2_letFrom_17 : decode cX2_letFrom 17 = .ok (.iaload, 1) := by decide +kernel
theorem dX2_letFrom_18 : decode cX2_letFrom 18 = .ok (.bipush 20, 2) := by decide +kernel
theorem dX2_letFrom_20 : decode cX2_letFrom 20 = .ok (.idiv, 1) := by decide +kernel
theorem dX2_letFrom_21 : decode cX2_letFrom 21 = .ok (.goto 4, 3) := by decide +kernel
theorem dX2_letFrom_24 : decode cX2_letFrom 24 = .ok (.iconst (-1), 1) := by decide +kernel
theorem dX2_letFrom_25 : decode cX2_letFrom 25 = .ok (.ireturn, 1) := by decide +kernel
theorem dX2_letTo_0 : decode cX2_letTo 0 = .ok (.iload_n 1, 1) := by decide +kernel
theorem dX2_letTo_1 : decode cX2_letTo 1 = .ok (.ifCond .lt 23, 3) := by decide +kernel
theorem dX2_letTo_4 : decode cX2_letTo 4 = .ok (.iload_n 1, 1) := by decide +kernel
theorem dX2_letTo_5 : decode cX2_letTo 5 = .ok (.aload_n 0, 1) := by decide +kernel
theorem dX2_letTo_6 : decode cX2_letTo 6 = .ok (.getfield 44, 3) := by decide +kernel
theorem dX2_letTo_9 : decode cX2_letTo 9 = .ok (.if_icmp .ge 15, 3) := by decide +kernel
theorem dX2_letTo_12 : decode cX2_letTo 12 = .ok (.aload_n 0, 1) := by decide +kernel
theorem dX2_letTo_13 : decode cX2_letTo 13 = .ok (.getfield 17, 3) := by decide +kernel
theorem dX2_letTo_16 : decode cX2_letTo 16 = .ok (.iload_n 1, 1) := by decide +kernel
theorem dX2_letTo_17 : decode cX2_letTo 17 = .ok (.iaload, 1) := by decide +kernel
theorem dX2_letTo_18 : decode cX2_letTo 18 = .ok (.bipush 20, 2) := by decide +kernel
theorem dX2_letTo_20 : decode cX2_letTo 20 = .ok (.irem, 1) := by decide +kernel
theorem dX2_letTo_21 : decode cX2_letTo 21 = .ok (.goto 4, 3) := by decide +kernel
theorem dX2_letTo_24 : decode cX2_letTo 24 = .ok (.iconst (-1), 1) := by decide +kernel
theorem dX2_letTo_25 : decode cX2_letTo 25 = .ok (.ireturn, 1) := by decide +kernel
theorem dX2_wordIn_0 : decode cX2_wordIn 0 = .ok (.iload_n 2, 1) := by decide +kernel
theorem dX2_wordIn_1 : decode cX2_wordIn 1 = .ok (.ifCond .lt 23, 3) := by decide +kernel
theorem dX2_wordIn_4 : decode cX2_wordIn 4 = .ok (.iload_n 2, 1) := by decide +kernel
theorem dX2_wordIn_5 : decode cX2_wordIn 5 = .ok (.aload_n 0, 1) := by decide +kernel
theorem dX2_wordIn_6 : decode cX2_wordIn 6 = .ok (.getfield 47, 3) := by decide +kernel
theorem dX2_wordIn_9 : decode cX2_wordIn 9 = .ok (.if_icmp .ge 15, 3) := by decide +kernel
theorem dX2_wordIn_12 : decode cX2_wordIn 12 = .ok (.iload_n 1, 1) := by decide +kernel
theorem dX2_wordIn_13 : decode cX2_wordIn 13 = .ok (.iload_n 2, 1) := by decide +kernel
theorem dX2_wordIn_14 : decode cX2_wordIn 14 = .ok (.ishr, 1) := by decide +kernel
theorem dX2_wordIn_15 : decode cX2_wordIn 15 = .ok (.iconst 1, 1) := by decide +kernel
theorem dX2_wordIn_16 : decode cX2_wordIn 16 = .ok (.iand, 1) := by decide +kernel
theorem dX2_wordIn_17 : decode cX2_wordIn 17 = .ok (.ifCond .eq 7, 3) := by decide +kernel
theorem dX2_wordIn_20 : decode cX2_wordIn 20 = .ok (.iconst 1, 1) := by decide +kernel
theorem dX2_wordIn_21 : decode cX2_wordIn 21 = .ok (.goto 4, 3) := by decide +kernel
theorem dX2_wordIn_24 : decode cX2_wordIn 24 = .ok (.iconst 0, 1) := by decide +kernel
theorem dX2_wordIn_25 : decode cX2_wordIn 25 = .ok (.istore 4, 2) := by decide +kernel
theorem dX2_wordIn_27 : decode cX2_wordIn 27 = .ok (.iload 4, 2) := by decide +kernel
theorem dX2_wordIn_29 : decode cX2_wordIn 29 = .ok (.ifCond .eq 15, 3) := by decide +kernel
theorem dX2_wordIn_32 : decode cX2_wordIn 32 = .ok (.aload_n 0, 1) := by decide +kernel
theorem dX2_wordIn_33 : decode cX2_wordIn 33 = .ok (.getfield 50, 3) := by decide +kernel
theorem dX2_wordIn_36 : decode cX2_wordIn 36 = .ok (.iload_n 2, 1) := by decide +kernel
theorem dX2_wordIn_37 : decode cX2_wordIn 37 = .ok (.iaload, 1) := by decide +kernel
theorem dX2_wordIn_38 : decode cX2_wordIn 38 = .ok (.iload_n 3, 1) := by decide +kernel
theorem dX2_wordIn_39 : decode cX2_wordIn 39 = .ok (.iconst 4, 1) := by decide +kernel
theorem dX2_wordIn_40 : decode cX2_wordIn 40 = .ok (.idiv, 1) := by decide +kernel
theorem dX2_wordIn_41 : decode cX2_wordIn 41 = .ok (.if_icmp .eq 5, 3) := by decide +kernel
theorem dX2_wordIn_44 : decode cX2_wordIn 44 = .ok (.lconst 0, 1) := by decide +kernel
theorem dX2_wordIn_45 : decode cX2_wordIn 45 = .ok (.lreturn, 1) := by decide +kernel
theorem dX2_wordIn_46 : decode cX2_wordIn 46 = .ok (.aload_n 0, 1) := by decide +kernel
theorem dX2_wordIn_47 : decode cX2_wordIn 47 = .ok (.iload_n 2, 1) := by decide +kernel
theorem dX2_wordIn_48 : decode cX2_wordIn 48 = .ok (.iload_n 3, 1) := by decide +kernel
theorem dX2_wordIn_49 : decode cX2_wordIn 49 = .ok (.iconst 4, 1) := by decide +kernel
theorem dX2_wordIn_50 : decode cX2_wordIn 50 = .ok (.irem, 1) := by decide +kernel
theorem dX2_wordIn_51 : decode cX2_wordIn 51 = .ok (.invokevirtual 53, 3) := by decide +kernel
theorem dX2_wordIn_54 : decode cX2_wordIn 54 = .ok (.lreturn, 1) := by decide +kernel
theorem dX2_isText_0 : decode cX2_isText 0 = .ok (.iload_n 1, 1) := by decide +kernel
theorem dX2_isText_1 : decode cX2_isText 1 = .ok (.iconst 4, 1) := by decide +kernel
theorem dX2_isText_2 : decode cX2_isText 2 = .ok (.idiv, 1) := by decide +kernel
theorem dX2_isText_3 : decode cX2_isText 3 = .ok (.istore_n 2, 1) := by decide +kernel
theorem dX2_isText_4 : decode cX2_isText 4 = .ok (.iload_n 2, 1) := by decide +kernel
theorem dX2_isText_5 : decode cX2_isText 5 = .ok (.aload_n 0, 1) := by decide +kernel
theorem dX2_isText_6 : decode cX2_isText 6 = .ok (.getfield 57, 3) := by decide +kernel
theorem dX2_isText_9 : decode cX2_isText 9 = .ok (.if_icmp .ge 29, 3) := by decide +kernel
theorem dX2_isText_12 : decode cX2_isText 12 = .ok (.iload_n 1, 1) := by decide +kernel
theorem dX2_isText_13 : decode cX2_isText 13 = .ok (.iconst 4, 1) := by decide +kernel
theorem dX2_isText_14 : decode cX2_isText 14 = .ok (.irem, 1) := by decide +kernel
theorem dX2_isText_15 : decode cX2_isText 15 = .ok (.aload_n 0, 1) := by decide +kernel
theorem dX2_isText_16 : decode cX2_isText 16 = .ok (.getfield 60, 3) := by decide +kernel
theorem dX2_isText_19 : decode cX2_isText 19 = .ok (.iload_n 2, 1) := by decide +kernel
theorem dX2_isText_20 : decode cX2_isText 20 = .ok (.iaload, 1) := by decide +kernel
theorem dX2_isText_21 : decode cX2_isText 21 = .ok (.if_icmp .ge 17, 3) := by decide +kernel
theorem dX2_isText_24 : decode cX2_isText 24 = .ok (.aload_n 0, 1) := by decide +kernel
theorem dX2_isText_25 : decode cX2_isText 25 = .ok (.getfield 63, 3) := by decide +kernel
theorem dX2_isText_28 : decode cX2_isText 28 = .ok (.iload_n 1, 1) := by decide +kernel
theorem dX2_isText_29 : decode cX2_isText 29 = .ok (.iaload, 1) := by decide +kernel
theorem dX2_isText_30 : decode cX2_isText 30 = .ok (.iconst (-1), 1) := by decide +kernel
theorem dX2_isText_31 : decode cX2_isText 31 = .ok (.if_icmp .ne 7, 3) := by decide +kernel
theorem dX2_isText_34 : decode cX2_isText 34 = .ok (.iconst 1, 1) := by decide +kernel
theorem dX2_isText_35 : decode cX2_isText 35 = .ok (.goto 4, 3) := by decide +kernel
theorem dX2_isText_38 : decode cX2_isText 38 = .ok (.iconst 0, 1) := by decide +kernel
theorem dX2_isText_39 : decode cX2_isText 39 = .ok (.ireturn, 1) := by decide +kernel
theorem dX2_allDiffer_0 : decode cX2_allDiffer 0 = .ok (.iconst 0, 1) := by decide +kernel
theorem dX2_allDiffer_1 : decode cX2_allDiffer 1 = .ok (.istore_n 3, 1) := by decide +kernel
theorem dX2_allDiffer_2 : decode cX2_allDiffer 2 = .ok (.iload_n 3, 1) := by decide +kernel
theorem dX2_allDiffer_3 : decode cX2_allDiffer 3 = .ok (.aload_n 0, 1) := by decide +kernel
theorem dX2_allDiffer_4 : decode cX2_allDiffer 4 = .ok (.getfield 47, 3) := by decide +kernel
theorem dX2_allDiffer_7 : decode cX2_allDiffer 7 = .ok (.if_icmp .ge 39, 3) := by decide +kernel
theorem dX2_allDiffer_10 : decode cX2_allDiffer 10 = .ok (.aload_n 0, 1) := by decide +kernel
theorem dX2_allDiffer_11 : decode cX2_allDiffer 11 = .ok (.iload_n 1, 1) := by decide +kernel
theorem dX2_allDiffer_12 : decode cX2_allDiffer 12 = .ok (.iload_n 3, 1) := by decide +kernel
theorem dX2_allDiffer_13 : decode cX2_allDiffer 13 = .ok (.iload_n 2, 1) := by decide +kernel
theorem dX2_allDiffer_14 : decode cX2_allDiffer 14 = .ok (.invokestatic 66, 3) := by decide +kernel
theorem dX2_allDiffer_17 : decode cX2_allDiffer 17 = .ok (.lstore 4, 2) := by decide +kernel
theorem dX2_allDiffer_19 : decode cX2_allDiffer 19 = .ok (.lload 4, 2) := by decide +kernel
theorem dX2_allDiffer_21 : decode cX2_allDiffer 21 = .ok (.lconst 0, 1) := by decide +kernel
theorem dX2_allDiffer_22 : decode cX2_allDiffer 22 = .ok (.lcmp, 1) := by decide +kernel
theorem dX2_allDiffer_23 : decode cX2_allDiffer 23 = .ok (.ifCond .eq 17, 3) := by decide +kernel
theorem dX2_allDiffer_26 : decode cX2_allDiffer 26 = .ok (.aload_n 0, 1) := by decide +kernel
theorem dX2_allDiffer_27 : decode cX2_allDiffer 27 = .ok (.iload_n 1, 1) := by decide +kernel
theorem dX2_allDiffer_28 : decode cX2_allDiffer 28 = .ok (.iload_n 2, 1) := by decide +kernel
theorem dX2_allDiffer_29 : decode cX2_allDiffer 29 = .ok (.lload 4, 2) := by decide +kernel
theorem dX2_allDiffer_31 : decode cX2_allDiffer 31 = .ok (.iload_n 3, 1) := by decide +kernel
theorem dX2_allDiffer_32 : decode cX2_allDiffer 32 = .ok (.invokestatic 70, 3) := by decide +kernel
theorem dX2_allDiffer_35 : decode cX2_allDiffer 35 = .ok (.ifCond .eq 5, 3) := by decide +kernel
theorem dX2_allDiffer_38 : decode cX2_allDiffer 38 = .ok (.iconst 0, 1) := by decide +kernel
theorem dX2_allDiffer_39 : decode cX2_allDiffer 39 = .ok (.ireturn, 1) := by decide +kernel
theorem dX2_allDiffer_40 : decode cX2_allDiffer 40 = .ok (.iinc 3 1, 3) := by decide +kernel
theorem dX2_allDiffer_43 : decode cX2_allDiffer 43 = .ok (.goto (-41), 3) := by decide +kernel
theorem dX2_allDiffer_46 : decode cX2_allDiffer 46 = .ok (.iconst 1, 1) := by decide +kernel
theorem dX2_allDiffer_47 : decode cX2_allDiffer 47 = .ok (.ireturn, 1) := by decide +kernel
theorem dX2_allAmong_0 : decode cX2_allAmong 0 = .ok (.iconst 0, 1) := by decide +kernel
theorem dX2_allAmong_1 : decode cX2_allAmong 1 = .ok (.istore 4, 2) := by decide +kernel
theorem dX2_allAmong_3 : decode cX2_allAmong 3 = .ok (.iconst 0, 1) := by decide +kernel
theorem dX2_allAmong_4 : decode cX2_allAmong 4 = .ok (.istore 5, 2) := by decide +kernel
theorem dX2_allAmong_6 : decode cX2_allAmong 6 = .ok (.iload 5, 2) := by decide +kernel
theorem dX2_allAmong_8 : decode cX2_allAmong 8 = .ok (.aload_n 0, 1) := by decide +kernel
theorem dX2_allAmong_9 : decode cX2_allAmong 9 = .ok (.getfield 47, 3) := by decide +kernel
theorem dX2_allAmong_12 : decode cX2_allAmong 12 = .ok (.if_icmp .ge 60, 3) := by decide +kernel
theorem dX2_allAmong_15 : decode cX2_allAmong 15 = .ok (.aload_n 0, 1) := by decide +kernel
theorem dX2_allAmong_16 : decode cX2_allAmong 16 = .ok (.iload_n 1, 1) := by decide +kernel
theorem dX2_allAmong_17 : decode cX2_allAmong 17 = .ok (.iload 5, 2) := by decide +kernel
theorem dX2_allAmong_19 : decode cX2_allAmong 19 = .ok (.iload_n 2, 1) := by decide +kernel
theorem dX2_allAmong_20 : decode cX2_allAmong 20 = .ok (.invokestatic 66, 3) := by decide +kernel
theorem dX2_allAmong_23 : decode cX2_allAmong 23 = .ok (.lstore 6, 2) := by decide +kernel
theorem dX2_allAmong_25 : decode cX2_allAmong 25 = .ok (.lload 6, 2) := by decide +kernel
theorem dX2_allAmong_27 : decode cX2_allAmong 27 = .ok (.lconst 0, 1) := by decide +kernel
theorem dX2_allAmong_28 : decode cX2_allAmong 28 = .ok (.lcmp, 1) := by decide +kernel
theorem dX2_allAmong_29 : decode cX2_allAmong 29 = .ok (.ifCond .eq 20, 3) := by decide +kernel
theorem dX2_allAmong_32 : decode cX2_allAmong 32 = .ok (.aload_n 0, 1) := by decide +kernel
theorem dX2_allAmong_33 : decode cX2_allAmong 33 = .ok (.iload_n 1, 1) := by decide +kernel
theorem dX2_allAmong_34 : decode cX2_allAmong 34 = .ok (.iload_n 3, 1) := by decide +kernel
theorem dX2_allAmong_35 : decode cX2_allAmong 35 = .ok (.lload 6, 2) := by decide +kernel
theorem dX2_allAmong_37 : decode cX2_allAmong 37 = .ok (.aload_n 0, 1) := by decide +kernel
theorem dX2_allAmong_38 : decode cX2_allAmong 38 = .ok (.getfield 47, 3) := by decide +kernel
theorem dX2_allAmong_41 : decode cX2_allAmong 41 = .ok (.invokestatic 70, 3) := by decide +kernel
theorem dX2_allAmong_44 : decode cX2_allAmong 44 = .ok (.ifCond .ne 5, 3) := by decide +kernel
theorem dX2_allAmong_47 : decode cX2_allAmong 47 = .ok (.iconst 0, 1) := by decide +kernel
theorem dX2_allAmong_48 : decode cX2_allAmong 48 = .ok (.ireturn, 1) := by decide +kernel
theorem dX2_allAmong_49 : decode cX2_allAmong 49 = .ok (.iload 4, 2) := by decide +kernel
theorem dX2_allAmong_51 : decode cX2_allAmong 51 = .ok (.lload 6, 2) := by decide +kernel
theorem dX2_allAmong_53 : decode cX2_allAmong 53 = .ok (.lconst 0, 1) := by decide +kernel
theorem dX2_allAmong_54 : decode cX2_allAmong 54 = .ok (.lcmp, 1) := by decide +kernel
theorem dX2_allAmong_55 : decode cX2_allAmong 55 = .ok (.ifCond .eq 7, 3) := by decide +kernel
theorem dX2_allAmong_58 : decode cX2_allAmong 58 = .ok (.iconst 1, 1) := by decide +kernel
theorem dX2_allAmong_59 : decode cX2_allAmong 59 = .ok (.goto 4, 3) := by decide +kernel
theorem dX2_allAmong_62 : decode cX2_allAmong 62 = .ok (.iconst 0, 1) := by decide +kernel
theorem dX2_allAmong_63 : decode cX2_allAmong 63 = .ok (.ior, 1) := by decide +kernel
theorem dX2_allAmong_64 : decode cX2_allAmong 64 = .ok (.istore 4, 2) := by decide +kernel
theorem dX2_allAmong_66 : decode cX2_allAmong 66 = .ok (.iinc 5 1, 3) := by decide +kernel
theorem dX2_allAmong_69 : decode cX2_allAmong 69 = .ok (.goto (-63), 3) := by decide +kernel
theorem dX2_allAmong_72 : decode cX2_allAmong 72 = .ok (.iload 4, 2) := by decide +kernel
theorem dX2_allAmong_74 : decode cX2_allAmong 74 = .ok (.ireturn, 1) := by decide +kernel
theorem dX2_hasWord_0 : decode cX2_hasWord 0 = .ok (.iconst 0, 1) := by decide +kernel
theorem dX2_hasWord_1 : decode cX2_hasWord 1 = .ok (.istore 6, 2) := by decide +kernel
theorem dX2_hasWord_3 : decode cX2_hasWord 3 = .ok (.iload 6, 2) := by decide +kernel
theorem dX2_hasWord_5 : decode cX2_hasWord 5 = .ok (.iload 5, 2) := by decide +kernel
theorem dX2_hasWord_7 : decode cX2_hasWord 7 = .ok (.if_icmp .ge 24, 3) := by decide +kernel
theorem dX2_hasWord_10 : decode cX2_hasWord 10 = .ok (.aload_n 0, 1) := by decide +kernel
theorem dX2_hasWord_11 : decode cX2_hasWord 11 = .ok (.iload_n 1, 1) := by decide +kernel
theorem dX2_hasWord_12 : decode cX2_hasWord 12 = .ok (.iload 6, 2) := by decide +kernel
theorem dX2_hasWord_14 : decode cX2_hasWord 14 = .ok (.iload_n 2, 1) := by decide +kernel
theorem dX2_hasWord_15 : decode cX2_hasWord 15 = .ok (.invokestatic 66, 3) := by decide +kernel
theorem dX2_hasWord_18 : decode cX2_hasWord 18 = .ok (.lload_n 3, 1) := by decide +kernel
theorem dX2_hasWord_19 : decode cX2_hasWord 19 = .ok (.lcmp, 1) := by decide +kernel
theorem dX2_hasWord_20 : decode cX2_hasWord 20 = .ok (.ifCond .ne 5, 3) := by decide +kernel
theorem dX2_hasWord_23 : decode cX2_hasWord 23 = .ok (.iconst 1, 1) := by decide +kernel
theorem dX2_hasWord_24 : decode cX2_hasWord 24 = .ok (.ireturn, 1) := by decide +kernel
theorem dX2_hasWord_25 : decode cX2_hasWord 25 = .ok (.iinc 6 1, 3) := by decide +kernel
theorem dX2_hasWord_28 : decode cX2_hasWord 28 = .ok (.goto (-25), 3) := by decide +kernel
theorem dX2_hasWord_31 : decode cX2_hasWord 31 = .ok (.iconst 0, 1) := by decide +kernel
theorem dX2_hasWord_32 : decode cX2_hasWord 32 = .ok (.ireturn, 1) := by decide +kernel
