theorem dX6_init_0 : decode cX6_init 0 = .ok (.aload_n 0, 1) := by decide +kernel
theorem dX6_init_1 : decode cX6_init 1 = .ok (.invokespecial 7, 3) := by decide +kernel
theorem dX6_init_4 : decode cX6_init 4 = .ok (.aload_n 0, 1) := by decide +kernel
theorem dX6_init_5 : decode cX6_init 5 = .ok (.bipush 30, 2) := by decide +kernel
theorem dX6_init_7 : decode cX6_init 7 = .ok (.newarray .int, 2) := by decide +kernel
theorem dX6_init_9 : decode cX6_init 9 = .ok (.putfield 13, 3) := by decide +kernel
theorem dX6_init_12 : decode cX6_init 12 = .ok (.aload_n 0, 1) := by decide +kernel
theorem dX6_init_13 : decode cX6_init 13 = .ok (.bipush 6, 2) := by decide +kernel
theorem dX6_init_15 : decode cX6_init 15 = .ok (.newarray .int, 2) := by decide +kernel
theorem dX6_init_17 : decode cX6_init 17 = .ok (.putfield 17, 3) := by decide +kernel
theorem dX6_init_20 : decode cX6_init 20 = .ok (.aload_n 0, 1) := by decide +kernel
theorem dX6_init_21 : decode cX6_init 21 = .ok (.bipush 30, 2) := by decide +kernel
theorem dX6_init_23 : decode cX6_init 23 = .ok (.newarray .int, 2) := by decide +kernel
theorem dX6_init_25 : decode cX6_init 25 = .ok (.putfield 20, 3) := by decide +kernel
theorem dX6_init_28 : decode cX6_init 28 = .ok (.aload_n 0, 1) := by decide +kernel
theorem dX6_init_29 : decode cX6_init 29 = .ok (.bipush 6, 2) := by decide +kernel
theorem dX6_init_31 : decode cX6_init 31 = .ok (.newarray .int, 2) := by decide +kernel
theorem dX6_init_33 : decode cX6_init 33 = .ok (.putfield 23, 3) := by decide +kernel
theorem dX6_init_36 : decode cX6_init 36 = .ok (.aload_n 0, 1) := by decide +kernel
theorem dX6_init_37 : decode cX6_init 37 = .ok (.bipush 65, 2) := by decide +kernel
theorem dX6_init_39 : decode cX6_init 39 = .ok (.newarray .int, 2) := by decide +kernel
theorem dX6_init_41 : decode cX6_init 41 = .ok (.putfield 26, 3) := by decide +kernel
theorem dX6_init_44 : decode cX6_init 44 = .ok (.aload_n 0, 1) := by decide +kernel
theorem dX6_init_45 : decode cX6_init 45 = .ok (.bipush 64, 2) := by decide +kernel
theorem dX6_init_47 : decode cX6_init 47 = .ok (.newarray .int, 2) := by decide +kernel
theorem dX6_init_49 : decode cX6_init 49 = .ok (.putfield 29, 3) := by decide +kernel
theorem dX6_init_52 : decode cX6_init 52 = .ok (.aload_n 0, 1) := by decide +kernel
theorem dX6_init_53 : decode cX6_init 53 = .ok (.bipush 64, 2) := by decide +kernel
theorem dX6_init_55 : decode cX6_init 55 = .ok (.newarray .int, 2) := by decide +kernel
theorem dX6_init_57 : decode cX6_init 57 = .ok (.putfield 32, 3) := by decide +kernel
theorem dX6_init_60 : decode cX6_init 60 = .ok (.aload_n 0, 1) := by decide +kernel
theorem dX6_init_61 : decode cX6_init 61 = .ok (.bipush 64, 2) := by decide +kernel
theorem dX6_init_63 : decode cX6_init 63 = .ok (.newarray .long, 2) := by decide +kernel
theorem dX6_init_65 : decode cX6_init 65 = .ok (.putfield 35, 3) := by decide +kernel
theorem dX6_init_68 : decode cX6_init 68 = .ok (.aload_n 0, 1) := by decide +kernel
theorem dX6_init_69 : decode cX6_init 69 = .ok (.bipush 64, 2) := by decide +kernel
theorem dX6_init_71 : decode cX6_init 71 = .ok (.newarray .long, 2) := by decide +kernel
theorem dX6_init_73 : decode cX6_init 73 = .ok (.putfield 39, 3) := by decide +kernel
theorem dX6_init_76 : decode cX6_init 76 = .ok (.aload_n 0, 1) := by decide +kernel
theorem dX6_init_77 : decode cX6_init 77 = .ok (.aload_n 1, 1) := by decide +kernel
theorem dX6_init_78 : decode cX6_init 78 = .ok (.putfield 42, 3) := by decide +kernel
theorem dX6_init_81 : decode cX6_init 81 = .ok (.aload_n 0, 1) := by decide +kernel
theorem dX6_init_82 : decode cX6_init 82 = .ok (.aload_n 2, 1) := by decide +kernel
theorem dX6_init_83 : decode cX6_init 83 = .ok (.putfield 46, 3) := by decide +kernel
theorem dX6_init_86 : decode cX6_init 86 = .ok (.return_, 1) := by decide +kernel
theorem dX6_run_0 : decode cX6_run 0 = .ok (.aload_n 0, 1) := by decide +kernel
theorem dX6_run_1 : decode cX6_run 1 = .ok (.iload_n 3, 1) := by decide +kernel
theorem dX6_run_2 : decode cX6_run 2 = .ok (.putfield 50, 3) := by decide +kernel
theorem dX6_run_5 : decode cX6_run 5 = .ok (.aload_n 0, 1) := by decide +kernel
theorem dX6_run_6 : decode cX6_run 6 = .ok (.iconst 1, 1) := by decide +kernel
theorem dX6_run_7 : decode cX6_run 7 = .ok (.iload_n 3, 1) := by decide +kernel
theorem dX6_run_8 : decode cX6_run 8 = .ok (.ishl, 1) := by decide +kernel
theorem dX6_run_9 : decode cX6_run 9 = .ok (.iconst 1, 1) := by decide +kernel
theorem dX6_run_10 : decode cX6_run 10 = .ok (.isub, 1) := by decide +kernel
theorem dX6_run_11 : decode cX6_run 11 = .ok (.putfield 54, 3) := by decide +kernel
theorem dX6_run_14 : decode cX6_run 14 = .ok (.aload_n 0, 1) := by decide +kernel
theorem dX6_run_15 : decode cX6_run 15 = .ok (.iconst 0, 1) := by decide +kernel
theorem dX6_run_16 : decode cX6_run 16 = .ok (.putfield 57, 3) := by decide +kernel
theorem dX6_run_19 : decode cX6_run 19 = .ok (.aload_n 0, 1) := by decide +kernel
theorem dX6_run_20 : decode cX6_run 20 = .ok (.iconst 0, 1) := by decide +kernel
theorem dX6_run_21 : decode cX6_run 21 = .ok (.putfield 60, 3) := by decide +kernel
theorem dX6_run_24 : decode cX6_run 24 = .ok (.aload_n 0, 1) := by decide +kernel
theorem dX6_run_25 : decode cX6_run 25 = .ok (.iconst 0, 1) := by decide +kernel
theorem dX6_run_26 : decode cX6_run 26 = .ok (.putfield 63, 3) := by decide +kernel
theorem dX6_run_29 : decode cX6_run 29 = .ok (.aload_n 0, 1) := by decide +kernel
theorem dX6_run_30 : decode cX6_run 30 = .ok (.iconst 0, 1) := by decide +kernel
theorem dX6_run_31 : decode cX6_run 31 = .ok (.putfield 66, 3) := by decide +kernel
theorem dX6_run_34 : decode cX6_run 34 = .ok (.aload_n 0, 1) := by decide +kernel
theorem dX6_run_35 : decode cX6_run 35 = .ok (.getfield 17, 3) := by decide +kernel
theorem dX6_run_38 : decode cX6_run 38 = .ok (.iconst 0, 1) := by decide +kernel
theorem dX6_run_39 : decode cX6_run 39 = .ok (.iconst 0, 1) := by decide +kernel
theorem dX6_run_40 : decode cX6_run 40 = .ok (.iastore, 1) := by decide +kernel
theorem dX6_run_41 : decode cX6_run 41 = .ok (.aload_n 0, 1) := by decide +kernel
theorem dX6_run_42 : decode cX6_run 42 = .ok (.getfield 23, 3) := by decide +kernel
theorem dX6_run_45 : decode cX6_run 45 = .ok (.iconst 0, 1) := by decide +kernel
theorem dX6_run_46 : decode cX6_run 46 = .ok (.iconst 0, 1) := by decide +kernel
theorem dX6_run_47 : decode cX6_run 47 = .ok (.iastore, 1) := by decide +kernel
theorem dX6_run_48 : decode cX6_run 48 = .ok (.iconst 0, 1) := by decide +kernel
theorem dX6_run_49 : decode cX6_run 49 = .ok (.istore 4, 2) := by decide +kernel
theorem dX6_run_51 : decode cX6_run 51 = .ok (.iload 4, 2) := by decide +kernel
theorem dX6_run_53 : decode cX6_run 53 = .ok (.bipush 30, 2) := by decide +kernel
theorem dX6_run_55 : decode cX6_run 55 = .ok (.if_icmp .ge 20, 3) := by decide +kernel
theorem dX6_run_58 : decode cX6_run 58 = .ok (.aload_n 0, 1) := by decide +kernel
theorem dX6_run_59 : decode cX6_run 59 = .ok (.getfield 20, 3) := by decide +kernel
theorem dX6_run_62 : decode cX6_run 62 = .ok (.iload 4, 2) := by decide +kernel
theorem dX6_run_64 : decode cX6_run 64 = .ok (.iconst 1, 1) := by decide +kernel
theorem dX6_run_65 : decode cX6_run 65 = .ok (.iload 4, 2) := by decide +kernel
theorem dX6_run_67 : decode cX6_run 67 = .ok (.ishl, 1) := by decide +kernel
theorem dX6_run_68 : decode cX6_run 68 = .ok (.iastore, 1) := by decide +kernel
theorem dX6_run_69 : decode cX6_run 69 = .ok (.iinc 4 1, 3) := by decide +kernel
theorem dX6_run_72 : decode cX6_run 72 = .ok (.goto (-21), 3) := by decide +kernel
theorem dX6_run_75 : decode cX6_run 75 = .ok (.iconst 1, 1) := by decide +kernel
theorem dX6_run_76 : decode cX6_run 76 = .ok (.istore 4, 2) := by decide +kernel
theorem dX6_run_78 : decode cX6_run 78 = .ok (.iload 4, 2) := by decide +kernel
theorem dX6_run_80 : decode cX6_run 80 = .ok (.iload_n 2, 1) := by decide +kernel
theorem dX6_run_81 : decode cX6_run 81 = .ok (.if_icmp .gt 44, 3) := by decide +kernel
theorem dX6_run_84 : decode cX6_run 84 = .ok (.iload 4, 2) := by decide +kernel
theorem dX6_run_86 : decode cX6_run 86 = .ok (.iconst 5, 1) := by decide +kernel
theorem dX6_run_87 : decode cX6_run 87 = .ok (.if_icmp .gt 38, 3) := by decide +kernel
theorem dX6_run_90 : decode cX6_run 90 = .ok (.aload_n 0, 1) := by decide +kernel
theorem dX6_run_91 : decode cX6_run 91 = .ok (.iload 4, 2) := by decide +kernel
theorem dX6_run_93 : decode cX6_run 93 = .ok (.putfield 69, 3) := by decide +kernel
theorem dX6_run_96 : decode cX6_run 96 = .ok (.aload_n 0, 1) := by decide +kernel
theorem dX6_run_97 : decode cX6_run 97 = .ok (.iconst 0, 1) := by decide +kernel
theorem dX6_run_98 : decode cX6_run 98 = .ok (.iconst 0, 1) := by decide +kernel
theorem dX6_run_99 : decode cX6_run 99 = .ok (.iconst 0, 1) := by decide +kernel
theorem dX6_run_100 : decode cX6_run 100 = .ok (.iload_n 1, 1) := by decide +kernel
theorem dX6_run_101 : decode cX6_run 101 = .ok (.invokevirtual 72, 3) := by decide +kernel
theorem dX6_run_104 : decode cX6_run 104 = .ok (.aload_n 0, 1) := by decide +kernel
theorem dX6_run_105 : decode cX6_run 105 = .ok (.getfield 23, 3) := by decide +kernel
theorem dX6_run_108 : decode cX6_run 108 = .ok (.iload 4, 2) := by decide +kernel
theorem dX6_run_110 : decode cX6_run 110 = .ok (.aload_n 0, 1) := by decide +kernel
theorem dX6_run_111 : decode cX6_run 111 = .ok (.getfield 57, 3) := by decide +kernel
theorem dX6_run_114 : decode cX6_run 114 = .ok (.iastore, 1) := by decide +kernel
theorem dX6_run_115 : decode cX6_run 115 = .ok (.aload_n 0, 1) := by decide +kernel
theorem dX6_run_116 : decode cX6_run 116 = .ok (.invokevirtual 76, 3) := by decide +kernel
theorem dX6_run_119 : decode cX6_run 119 = .ok (.iinc 4 1, 3) := by decide +kernel
theorem dX6_run_122 : decode cX6_run 122 = .ok (.goto (-44), 3) := by decide +kernel
theorem dX6_run_125 : decode cX6_run 125 = .ok (.iconst 0, 1) := by decide +kernel
theorem dX6_run_126 : decode cX6_run 126 = .ok (.istore 4, 2) := by decide +kernel
theorem dX6_run_128 : decode cX6_run 128 = .ok (.iload 4, 2) := by decide +kernel
theorem dX6_run_130 : decode cX6_run 130 = .ok (.aload_n 0, 1) := by decide +kernel
theorem dX6_run_131 : decode cX6_run 131 = .ok (.getfield 60, 3) := by decide +kernel
theorem dX6_run_134 : decode cX6_run 134 = .ok (.if_icmp .ge 15, 3) := by decide +kernel
theorem dX6_run_137 : decode cX6_run 137 = .ok (.aload_n 0, 1) := by decide +kernel
theorem dX6_run_138 : decode cX6_run 138 = .ok (.iload 4, 2) := by decide +kernel
theorem dX6_run_140 : decode cX6_run 140 = .ok (.invokevirtual 79, 3) := by decide +kernel
theorem dX6_run_143 : decode cX6_run 143 = .ok (.iinc 4 1, 3) := by decide +kernel
theorem dX6_run_146 : decode cX6_run 146 = .ok (.goto (-18), 3) := by decide +kernel
theorem dX6_run_149 : decode cX6_run 149 = .ok (.aload_n 0, 1) := by decide +kernel
theorem dX6_run_150 : decode cX6_run 150 = .ok (.invokevirtual 83, 3) := by decide +kernel
theorem dX6_run_153 : decode cX6_run 153 = .ok (.return_, 1) := by decide +kernel
theorem dX6_widen_0 : decode cX6_widen 0 = .ok (.iconst 0, 1) := by decide +kernel
theorem dX6_widen_1 : decode cX6_widen 1 = .ok (.istore_n 1, 1) := by decide +kernel
theorem dX6_widen_2 : decode cX6_widen 2 = .ok (.iload_n 1, 1) := by decide +kernel
theorem dX6_widen_3 : decode cX6_widen 3 = .ok (.bipush 30, 2) := by decide +kernel
theorem dX6_widen_5 : decode cX6_widen 5 = .ok (.if_icmp .ge 58, 3) := by decide +kernel
theorem dX6_widen_8 : decode cX6_widen 8 = .ok (.aload_n 0, 1) := by decide +kernel
theorem dX6_widen_9 : decode cX6_widen 9 = .ok (.getfield 20, 3) := by decide +kernel
theorem dX6_widen_12 : decode cX6_widen 12 = .ok (.iload_n 1, 1) := by decide +kernel
theorem dX6_widen_13 : decode cX6_widen 13 = .ok (.iaload, 1) := by decide +kernel
theorem dX6_widen_14 : decode cX6_widen 14 = .ok (.istore_n 2, 1) := by decide +kernel
theorem dX6_widen_15 : decode cX6_widen 15 = .ok (.iload_n 2, 1) := by decide +kernel
theorem dX6_widen_16 : decode cX6_widen 16 = .ok (.invokestatic 86, 3) := by decide +kernel
theorem dX6_widen_19 : decode cX6_widen 19 = .ok (.istore_n 3, 1) := by decide +kernel
theorem dX6_widen_20 : decode cX6_widen 20 = .ok (.iload_n 3, 1) := by decide +kernel
theorem dX6_widen_21 : decode cX6_widen 21 = .ok (.ifCond .le 36, 3) := by decide +kernel
theorem dX6_widen_24 : decode cX6_widen 24 = .ok (.aload_n 0, 1) := by decide +kernel
theorem dX6_widen_25 : decode cX6_widen 25 = .ok (.getfield 20, 3) := by decide +kernel
theorem dX6_widen_28 : decode cX6_widen 28 = .ok (.iload_n 1, 1) := by decide +kernel
theorem dX6_widen_29 : decode cX6_widen 29 = .ok (.dup2, 1) := by decide +kernel
theorem dX6_widen_30 : decode cX6_widen 30 = .ok (.iaload, 1) := by decide +kernel
theorem dX6_widen_31 : decode cX6_widen 31 = .ok (.aload_n 0, 1) := by decide +kernel
theorem dX6_widen_32 : decode cX6_widen 32 = .ok (.getfield 42, 3) := by decide +kernel
theorem dX6_widen_35 : decode cX6_widen 35 = .ok (.getfield 92, 3) := by decide +kernel
theorem dX6_widen_38 : decode cX6_widen 38 = .ok (.iload_n 2, 1) := by decide +kernel
theorem dX6_widen_39 : decode cX6_widen 39 = .ok (.invokestatic 97, 3) := by decide +kernel
theorem dX6_widen_42 : decode cX6_widen 42 = .ok (.iaload, 1) := by decide +kernel
theorem dX6_widen_43 : decode cX6_widen 43 = .ok (.ior, 1) := by decide +kernel
theorem dX6_widen_44 : decode cX6_widen 44 = .ok (.iastore, 1) := by decide +kernel
theorem dX6_widen_45 : decode cX6_widen 45 = .ok (.iload_n 2, 1) := by decide +kernel
theorem dX6_widen_46 : decode cX6_widen 46 = .ok (.iload_n 2, 1) := by decide +kernel
theorem dX6_widen_47 : decode cX6_widen 47 = .ok (.iconst 1, 1) := by decide +kernel
theorem dX6_widen_48 : decode cX6_widen 48 = .ok (.isub, 1) := by decide +kernel
theorem dX6_widen_49 : decode cX6_widen 49 = .ok (.iand, 1) := by decide +kernel
theorem dX6_widen_50 : decode cX6_widen 50 = .ok (.istore_n 2, 1) := by decide +kernel
theorem dX6_widen_51 : decode cX6_widen 51 = .ok (.iinc 3 (-1), 3) := by decide +kernel
theorem dX6_widen_54 : decode cX6_widen 54 = .ok (.goto (-34), 3) := by decide +kernel
theorem dX6_widen_57 : decode cX6_widen 57 = .ok (.iinc 1 1, 3) := by decide +kernel
theorem dX6_widen_60 : decode cX6_widen 60 = .ok (.goto (-58), 3) := by decide +kernel
theorem dX6_widen_63 : decode cX6_widen 63 = .ok (.return_, 1) := by decide +kernel
theorem dX6_grow_0 : decode cX6_grow 0 = .ok (.iload_n 1, 1) := by decide +kernel
theorem dX6_grow_1 : decode cX6_grow 1 = .ok (.iconst 1, 1) := by decide +kernel
theorem dX6_grow_2 : decode cX6_grow 2 = .ok (.iadd, 1) := by decide +kernel
theorem dX6_grow_3 : decode cX6_grow 3 = .ok (.aload_n 0, 1) := by decide +kernel
theorem dX6_grow_4 : decode cX6_grow 4 = .ok (.getfield 69, 3) := by decide +kernel
theorem dX6_grow_7 : decode cX6_grow 7 = .ok (.if_icmp .lt 13, 3) := by decide +kernel
theorem dX6_grow_10 : decode cX6_grow 10 = .ok (.aload_n 0, 1) := by decide +kernel
theorem dX6_grow_11 : decode cX6_grow 11 = .ok (.iload_n 1, 1) := by decide +kernel
theorem dX6_grow_12 : decode cX6_grow 12 = .ok (.iload_n 2, 1) := by decide +kernel
theorem dX6_grow_13 : decode cX6_grow 13 = .ok (.iload_n 3, 1) := by decide +kernel
theorem dX6_grow_14 : decode cX6_grow 14 = .ok (.iload 4, 2) := by decide +kernel
theorem dX6_grow_16 : decode cX6_grow 16 = .ok (.invokevirtual 100, 3) := by decide +kernel
theorem dX6_grow_19 : decode cX6_grow 19 = .ok (.return_, 1) := by decide +kernel
theorem dX6_grow_20 : decode cX6_grow 20 = .ok (.iload 4, 2) := by decide +kernel
theorem dX6_grow_22 : decode cX6_grow 22 = .ok (.istore 5, 2) := by decide +kernel
theorem dX6_grow_24 : decode cX6_grow 24 = .ok (.iload 4, 2) := by decide +kernel
theorem dX6_grow_26 : decode cX6_grow 26 = .ok (.invokestatic 86, 3) := by decide +kernel
theorem dX6_grow_29 : decode cX6_grow 29 = .ok (.istore 6, 2) := by decide +kernel
theorem dX6_grow_31 : decode cX6_grow 31 = .ok (.iload 6, 2) := by decide +kernel
theorem dX6_grow_33 : decode cX6_grow 33 = .ok (.ifCond .le 88, 3) := by decide +kernel
theorem dX6_grow_36 : decode cX6_grow 36 = .ok (.iload 5, 2) := by decide +kernel
theorem dX6_grow_38 : decode cX6_grow 38 = .ok (.invokestatic 97, 3) := by decide +kernel
theorem dX6_grow_41 : decode cX6_grow 41 = .ok (.istore 7, 2) := by decide +kernel
theorem dX6_grow_43 : decode cX6_grow 43 = .ok (.iload 5, 2) := by decide +kernel
theorem dX6_grow_45 : decode cX6_grow 45 = .ok (.iload 5, 2) := by decide +kernel
theorem dX6_grow_47 : decode cX6_grow 47 = .ok (.iconst 1, 1) := by decide +kernel
theorem dX6_grow_48 : decode cX6_grow 48 = .ok (.isub, 1) := by decide +kernel
theorem dX6_grow_49 : decode cX6_grow 49 = .ok (.iand, 1) := by decide +kernel
theorem dX6_grow_50 : decode cX6_grow 50 = .ok (.istore 5, 2) := by decide +kernel
theorem dX6_grow_52 : decode cX6_grow 52 = .ok (.iload 4, 2) := by decide +kernel
theorem dX6_grow_54 : decode cX6_grow 54 = .ok (.iconst 1, 1) := by decide +kernel
theorem dX6_grow_55 : decode cX6_grow 55 = .ok (.iload 7, 2) := by decide +kernel
theorem dX6_grow_57 : decode cX6_grow 57 = .ok (.ishl, 1) := by decide +kernel
theorem dX6_grow_58 : decode cX6_grow 58 = .ok (.iconst 1, 1) := by decide +kernel
theorem dX6_grow_59 : decode cX6_grow 59 = .ok (.isub, 1) := by decide +kernel
theorem dX6_grow_60 : decode cX6_grow 60 = .ok (.iand, 1) := by decide +kernel
theorem dX6_grow_61 : decode cX6_grow 61 = .ok (.aload_n 0, 1) := by decide +kernel
theorem dX6_grow_62 : decode cX6_grow 62 = .ok (.getfield 20, 3) := by decide +kernel
theorem dX6_grow_65 : decode cX6_grow 65 = .ok (.iload 7, 2) := by decide +kernel
theorem dX6_grow_67 : decode cX6_grow 67 = .ok (.iaload, 1) := by decide +kernel
theorem dX6_grow_68 : decode cX6_grow 68 = .ok (.iand, 1) := by decide +kernel
theorem dX6_grow_69 : decode cX6_grow 69 = .ok (.istore 8, 2) := by decide +kernel
theorem dX6_grow_71 : decode cX6_grow 71 = .ok (.iload 8, 2) := by decide +kernel
theorem dX6_grow_73 : decode cX6_grow 73 = .ok (.ifCond .eq 42, 3) := by decide +kernel
theorem dX6_grow_76 : decode cX6_grow 76 = .ok (.aload_n 0, 1) := by decide +kernel
theorem dX6_grow_77 : decode cX6_grow 77 = .ok (.iload_n 1, 1) := by decide +kernel
theorem dX6_grow_78 : decode cX6_grow 78 = .ok (.iload 7, 2) := by decide +kernel
theorem dX6_grow_80 : decode cX6_grow 80 = .ok (.iload 8, 2) := by decide +kernel
theorem dX6_grow_82 : decode cX6_grow 82 = .ok (.invokevirtual 103, 3) := by decide +kernel
theorem dX6_grow_85 : decode cX6_grow 85 = .ok (.ifCond .eq 30, 3) := by decide +kernel
theorem dX6_grow_88 : decode cX6_grow 88 = .ok (.aload_n 0, 1) := by decide +kernel
theorem dX6_grow_89 : decode cX6_grow 89 = .ok (.iload_n 1, 1) := by decide +kernel
theorem dX6_grow_90 : decode cX6_grow 90 = .ok (.iconst 1, 1) := by decide +kernel
theorem dX6_grow_91 : decode cX6_grow 91 = .ok (.iadd, 1) := by decide +kernel
theorem dX6_grow_92 : decode cX6_grow 92 = .ok (.iload_n 2, 1) := by decide +kernel
theorem dX6_grow_93 : decode cX6_grow 93 = .ok (.iconst 1, 1) := by decide +kernel
theorem dX6_grow_94 : decode cX6_grow 94 = .ok (.iload 7, 2) := by decide +kernel
theorem dX6_grow_96 : decode cX6_grow 96 = .ok (.ishl, 1) := by decide +kernel
theorem dX6_grow_97 : decode cX6_grow 97 = .ok (.ior, 1) := by decide +kernel
theorem dX6_grow_98 : decode cX6_grow 98 = .ok (.iload_n 3, 1) := by decide +kernel
theorem dX6_grow_99 : decode cX6_grow 99 = .ok (.aload_n 0, 1) := by decide +kernel
theorem dX6_grow_100 : decode cX6_grow 100 = .ok (.getfield 46, 3) := by decide +kernel
theorem dX6_grow_103 : decode cX6_grow 103 = .ok (.getfield 107, 3) := by decide +kernel
theorem dX6_grow_106 : decode cX6_grow 106 = .ok (.iload 7, 2) := by decide +kernel
theorem dX6_grow_108 : decode cX6_grow 108 = .ok (.iaload, 1) := by decide +kernel
theorem dX6_grow_109 : decode cX6_grow 109 = .ok (.ior, 1) := by decide +kernel
theorem dX6_grow_110 : decode cX6_grow 110 = .ok (.iload 8, 2) := by decide +kernel
theorem dX6_grow_112 : decode cX6_grow 112 = .ok (.invokevirtual 72, 3) := by decide +kernel
theorem dX6_grow_115 : decode cX6_grow 115 = .ok (.iinc 6 (-1), 3) := by decide +kernel
theorem dX6_grow_118 : decode cX6_grow 118 = .ok (.goto (-87), 3) := by decide +kernel
theorem dX6_grow_121 : decode cX6_grow 121 = .ok (.return_, 1) := by decide +kernel
theorem dX6_addToGroups_0 : decode cX6_addToGroups 0 = .ok (.iload_n 1, 1) := by decide +kernel
theorem dX6_addToGroups_1 : decode cX6_addToGroups 1 = .ok (.iconst 5, 1) := by decide +kernel
theorem dX6_addToGroups_2 : decode cX6_addToGroups 2 = .ok (.imul, 1) := by decide +kernel
theorem dX6_addToGroups_3 : decode cX6_addToGroups 3 = .ok (.istore 4, 2) := by decide +kernel
theorem dX6_addToGroups_5 : decode cX6_addToGroups 5 = .ok (.iload 4, 2) := by decide +kernel
theorem dX6_addToGroups_7 : decode cX6_addToGroups 7 = .ok (.iconst 5, 1) := by decide +kernel
theorem dX6_addToGroups_8 : decode cX6_addToGroups 8 = .ok (.iadd, 1) := by decide +kernel
theorem dX6_addToGroups_9 : decode cX6_addToGroups 9 = .ok (.istore 5, 2) := by decide +kernel
theorem dX6_addToGroups_11 : decode cX6_addToGroups 11 = .ok (.aload_n 0, 1) := by decide +kernel
theorem dX6_addToGroups_12 : decode cX6_addToGroups 12 = .ok (.getfield 42, 3) := by decide +kernel
theorem dX6_addToGroups_15 : decode cX6_addToGroups 15 = .ok (.getfield 92, 3) := by decide +kernel
theorem dX6_addToGroups_18 : decode cX6_addToGroups 18 = .ok (.iload_n 2, 1) := by decide +kernel
theorem dX6_addToGroups_19 : decode cX6_addToGroups 19 = .ok (.iaload, 1) := by decide +kernel
theorem dX6_addToGroups_20 : decode cX6_addToGroups 20 = .ok (.istore 6, 2) := by decide +kernel
theorem dX6_addToGroups_22 : decode cX6_addToGroups 22 = .ok (.iconst 0, 1) := by decide +kernel
theorem dX6_addToGroups_23 : decode cX6_addToGroups 23 = .ok (.istore 7, 2) := by decide +kernel
theorem dX6_addToGroups_25 : decode cX6_addToGroups 25 = .ok (.iconst 0, 1) := by decide +kernel
theorem dX6_addToGroups_26 : decode cX6_addToGroups 26 = .ok (.istore 8, 2) := by decide +kernel
theorem dX6_addToGroups_28 : decode cX6_addToGroups 28 = .ok (.iload 8, 2) := by decide +kernel
theorem dX6_addToGroups_30 : decode cX6_addToGroups 30 = .ok (.aload_n 0, 1) := by decide +kernel
theorem dX6_addToGroups_31 : decode cX6_addToGroups 31 = .ok (.getfield 17, 3) := by decide +kernel
theorem dX6_addToGroups_34 : decode cX6_addToGroups 34 = .ok (.iload_n 1, 1) := by decide +kernel
theorem dX6_addToGroups_35 : decode cX6_addToGroups 35 = .ok (.iaload, 1) := by decide +kernel
theorem dX6_addToGroups_36 : decode cX6_addToGroups 36 = .ok (.if_icmp .ge 64, 3) := by decide +kernel
theorem dX6_addToGroups_39 : decode cX6_addToGroups 39 = .ok (.aload_n 0, 1) := by decide +kernel
theorem dX6_addToGroups_40 : decode cX6_addToGroups 40 = .ok (.getfield 13, 3) := by decide +kernel
theorem dX6_addToGroups_43 : decode cX6_addToGroups 43 = .ok (.iload 4, 2) := by decide +kernel
theorem dX6_addToGroups_45 : decode cX6_addToGroups 45 = .ok (.iload 8, 2) := by decide +kernel
theorem dX6_addToGroups_47 : decode cX6_addToGroups 47 = .ok (.iadd, 1) := by decide +kernel
theorem dX6_addToGroups_48 : decode cX6_addToGroups 48 = .ok (.iaload, 1) := by decide +kernel
theorem dX6_addToGroups_49 : decode cX6_addToGroups 49 = .ok (.istore 9, 2) := by decide +kernel
theorem dX6_addToGroups_51 : decode cX6_addToGroups 51 = .ok (.iload 9, 2) := by decide +kernel
theorem dX6_addToGroups_53 : decode cX6_addToGroups 53 = .ok (.iload_n 2, 1) := by decide +kernel
theorem dX6_addToGroups_54 : decode cX6_addToGroups 54 = .ok (.ishr, 1) := by decide +kernel
theorem dX6_addToGroups_55 : decode cX6_addToGroups 55 = .ok (.iconst 1, 1) := by decide +kernel
theorem dX6_addToGroups_56 : decode cX6_addToGroups 56 = .ok (.iand, 1) := by decide +kernel
theorem dX6_addToGroups_57 : decode cX6_addToGroups 57 = .ok (.ifCond .eq 13, 3) := by decide +kernel
theorem dX6_addToGroups_60 : decode cX6_addToGroups 60 = .ok (.iload 6, 2) := by decide +kernel
theorem dX6_addToGroups_62 : decode cX6_addToGroups 62 = .ok (.iload 9, 2) := by decide +kernel
theorem dX6_addToGroups_64 : decode cX6_addToGroups 64 = .ok (.ior, 1) := by decide +kernel
theorem dX6_addToGroups_65 : decode cX6_addToGroups 65 = .ok (.istore 6, 2) := by decide +kernel
theorem dX6_addToGroups_67 : decode cX6_addToGroups 67 = .ok (.goto 27, 3) := by decide +kernel
theorem dX6_addToGroups_70 : decode cX6_addToGroups 70 = .ok (.iload 9, 2) := by decide +kernel
theorem dX6_addToGroups_72 : decode cX6_addToGroups 72 = .ok (.iload_n 3, 1) := by decide +kernel
theorem dX6_addToGroups_73 : decode cX6_addToGroups 73 = .ok (.iand, 1) := by decide +kernel
theorem dX6_addToGroups_74 : decode cX6_addToGroups 74 = .ok (.ifCond .ne 5, 3) := by decide +kernel
theorem dX6_addToGroups_77 : decode cX6_addToGroups 77 = .ok (.iconst 0, 1) := by decide +kernel
theorem dX6_addToGroups_78 : decode cX6_addToGroups 78 = .ok (.ireturn, 1) := by decide +kernel
theorem dX6_addToGroups_79 : decode cX6_addToGroups 79 = .ok (.aload_n 0, 1) := by decide +kernel
theorem dX6_addToGroups_80 : decode cX6_addToGroups 80 = .ok (.getfield 13, 3) := by decide +kernel
theorem dX6_addToGroups_83 : decode cX6_addToGroups 83 = .ok (.iload 5, 2) := by decide +kernel
theorem dX6_addToGroups_85 : decode cX6_addToGroups 85 = .ok (.iload 7, 2) := by decide +kernel
theorem dX6_addToGroups_87 : decode cX6_addToGroups 87 = .ok (.iinc 7 1, 3) := by decide +kernel
theorem dX6_addToGroups_90 : decode cX6_addToGroups 90 = .ok (.iadd, 1) := by decide +kernel
theorem dX6_addToGroups_91 : decode cX6_addToGroups 91 = .ok (.iload 9, 2) := by decide +kernel
theorem dX6_addToGroups_93 : decode cX6_addToGroups 93 = .ok (.iastore, 1) := by decide +kernel
theorem dX6_addToGroups_94 : decode cX6_addToGroups 94 = .ok (.iinc 8 1, 3) := by decide +kernel
theorem dX6_addToGroups_97 : decode cX6_addToGroups 97 = .ok (.goto (-69), 3) := by decide +kernel
theorem dX6_addToGroups_100 : decode cX6_addToGroups 100 = .ok (.aload_n 0, 1) := by decide +kernel
theorem dX6_addToGroups_101 : decode cX6_addToGroups 101 = .ok (.getfield 13, 3) := by decide +kernel
theorem dX6_addToGroups_104 : decode cX6_addToGroups 104 = .ok (.iload 5, 2) := by decide +kernel
theorem dX6_addToGroups_106 : decode cX6_addToGroups 106 = .ok (.iload 7, 2) := by decide +kernel
theorem dX6_addToGroups_108 : decode cX6_addToGroups 108 = .ok (.iadd, 1) := by decide +kernel
theorem dX6_addToGroups_109 : decode cX6_addToGroups 109 = .ok (.iload 6, 2) := by decide +kernel
theorem dX6_addToGroups_111 : decode cX6_addToGroups 111 = .ok (.iastore, 1) := by decide +kernel
theorem dX6_addToGroups_112 : decode cX6_addToGroups 112 = .ok (.aload_n 0, 1) := by decide +kernel
theorem dX6_addToGroups_113 : decode cX6_addToGroups 113 = .ok (.getfield 17, 3) := by decide +kernel
theorem dX6_addToGroups_116 : decode cX6_addToGroups 116 = .ok (.iload_n 1, 1) := by decide +kernel
theorem dX6_addToGroups_117 : decode cX6_addToGroups 117 = .ok (.iconst 1, 1) := by decide +kernel
theorem dX6_addToGroups_118 : decode cX6_addToGroups 118 = .ok (.iadd, 1) := by decide +kernel
theorem dX6_addToGroups_119 : decode cX6_addToGroups 119 = .ok (.iload 7, 2) := by decide +kernel
theorem dX6_addToGroups_121 : decode cX6_addToGroups 121 = .ok (.iconst 1, 1) := by decide +kernel
theorem dX6_addToGroups_122 : decode cX6_addToGroups 122 = .ok (.iadd, 1) := by decide +kernel
theorem dX6_addToGroups_123 : decode cX6_addToGroups 123 = .ok (.iastore, 1) := by decide +kernel
theorem dX6_addToGroups_124 : decode cX6_addToGroups 124 = .ok (.iload 6, 2) := by decide +kernel
theorem dX6_addToGroups_126 : decode cX6_addToGroups 126 = .ok (.iload_n 3, 1) := by decide +kernel
theorem dX6_addToGroups_127 : decode cX6_addToGroups 127 = .ok (.iand, 1) := by decide +kernel
theorem dX6_addToGroups_128 : decode cX6_addToGroups 128 = .ok (.ifCond .eq 7, 3) := by decide +kernel
theorem dX6_addToGroups_131 : decode cX6_addToGroups 131 = .ok (.iconst 1, 1) := by decide +kernel
theorem dX6_addToGroups_132 : decode cX6_addToGroups 132 = .ok (.goto 4, 3) := by decide +kernel
theorem dX6_addToGroups_135 : decode cX6_addToGroups 135 = .ok (.iconst 0, 1) := by decide +kernel
theorem dX6_addToGroups_136 : decode cX6_addToGroups 136 = .ok (.ireturn, 1) := by decide +kernel
theorem dX6_lookAtLast_0 : decode cX6_lookAtLast 0 = .ok (.iload 4, 2) := by decide +kernel
theorem dX6_lookAtLast_2 : decode cX6_lookAtLast 2 = .ok (.istore 5, 2) := by decide +kernel
theorem dX6_lookAtLast_4 : decode cX6_lookAtLast 4 = .ok (.iconst 0, 1) := by decide +kernel
theorem dX6_lookAtLast_5 : decode cX6_lookAtLast 5 = .ok (.istore 6, 2) := by decide +kernel
theorem dX6_lookAtLast_7 : decode cX6_lookAtLast 7 = .ok (.iload 6, 2) := by decide +kernel
theorem dX6_lookAtLast_9 : decode cX6_lookAtLast 9 = .ok (.aload_n 0, 1) := by decide +kernel
theorem dX6_lookAtLast_10 : decode cX6_lookAtLast 10 = .ok (.getfield 17, 3) := by decide +kernel
theorem dX6_lookAtLast_13 : decode cX6_lookAtLast 13 = .ok (.iload_n 1, 1) := by decide +kernel
theorem dX6_lookAtLast_14 : decode cX6_lookAtLast 14 = .ok (.iaload, 1) := by decide +kernel
theorem dX6_lookAtLast_15 : decode cX6_lookAtLast 15 = .ok (.if_icmp .ge 25, 3) := by decide +kernel
theorem dX6_lookAtLast_18 : decode cX6_lookAtLast 18 = .ok (.iload 5, 2) := by decide +kernel
theorem dX6_lookAtLast_20 : decode cX6_lookAtLast 20 = .ok (.aload_n 0, 1) := by decide +kernel
theorem dX6_lookAtLast_21 : decode cX6_lookAtLast 21 = .ok (.getfield 13, 3) := by decide +kernel
theorem dX6_lookAtLast_24 : decode cX6_lookAtLast 24 = .ok (.iload_n 1, 1) := by decide +kernel
theorem dX6_lookAtLast_25 : decode cX6_lookAtLast 25 = .ok (.iconst 5, 1) := by decide +kernel
theorem dX6_lookAtLast_26 : decode cX6_lookAtLast 26 = .ok (.imul, 1) := by decide +kernel
theorem dX6_lookAtLast_27 : decode cX6_lookAtLast 27 = .ok (.iload 6, 2) := by decide +kernel
theorem dX6_lookAtLast_29 : decode cX6_lookAtLast 29 = .ok (.iadd, 1) := by decide +kernel
theorem dX6_lookAtLast_30 : decode cX6_lookAtLast 30 = .ok (.iaload, 1) := by decide +kernel
theorem dX6_lookAtLast_31 : decode cX6_lookAtLast 31 = .ok (.iand, 1) := by decide +kernel
theorem dX6_lookAtLast_32 : decode cX6_lookAtLast 32 = .ok (.istore 5, 2) := by decide +kernel
theorem dX6_lookAtLast_34 : decode cX6_lookAtLast 34 = .ok (.iinc 6 1, 3) := by decide +kernel
theorem dX6_lookAtLast_37 : decode cX6_lookAtLast 37 = .ok (.goto (-30), 3) := by decide +kernel
theorem dX6_lookAtLast_40 : decode cX6_lookAtLast 40 = .ok (.iload 5, 2) := by decide +kernel
theorem dX6_lookAtLast_42 : decode cX6_lookAtLast 42 = .ok (.invokestatic 86, 3) := by decide +kernel
theorem dX6_lookAtLast_45 : decode cX6_lookAtLast 45 = .ok (.istore 6, 2) := by decide +kernel
theorem dX6_lookAtLast_47 : decode cX6_lookAtLast 47 = .ok (.iload 6, 2) := by decide +kernel
theorem dX6_lookAtLast_49 : decode cX6_lookAtLast 49 = .ok (.ifCond .le 94, 3) := by decide +kernel
theorem dX6_lookAtLast_52 : decode cX6_lookAtLast 52 = .ok (.iload 5, 2) := by decide +kernel
theorem dX6_lookAtLast_54 : decode cX6_lookAtLast 54 = .ok (.invokestatic 97, 3) := by decide +kernel
theorem dX6_lookAtLast_57 : decode cX6_lookAtLast 57 = .ok (.istore 7, 2) := by decide +kernel
theorem dX6_lookAtLast_59 : decode cX6_lookAtLast 59 = .ok (.iload 5, 2) := by decide +kernel
theorem dX6_lookAtLast_61 : decode cX6_lookAtLast 61 = .ok (.iload 5, 2) := by decide +kernel
theorem dX6_lookAtLast_63 : decode cX6_lookAtLast 63 = .ok (.iconst 1, 1) := by decide +kernel
theorem dX6_lookAtLast_64 : decode cX6_lookAtLast 64 = .ok (.isub, 1) := by decide +kernel
theorem dX6_lookAtLast_65 : decode cX6_lookAtLast 65 = .ok (.iand, 1) := by decide +kernel
theorem dX6_lookAtLast_66 : decode cX6_lookAtLast 66 = .ok (.istore 5, 2) := by decide +kernel
theorem dX6_lookAtLast_68 : decode cX6_lookAtLast 68 = .ok (.iload_n 3, 1) := by decide +kernel
theorem dX6_lookAtLast_69 : decode cX6_lookAtLast 69 = .ok (.aload_n 0, 1) := by decide +kernel
theorem dX6_lookAtLast_70 : decode cX6_lookAtLast 70 = .ok (.getfield 46, 3) := by decide +kernel
theorem dX6_lookAtLast_73 : decode cX6_lookAtLast 73 = .ok (.getfield 107, 3) := by decide +kernel
theorem dX6_lookAtLast_76 : decode cX6_lookAtLast 76 = .ok (.iload 7, 2) := by decide +kernel
theorem dX6_lookAtLast_78 : decode cX6_lookAtLast 78 = .ok (.iaload, 1) := by decide +kernel
theorem dX6_lookAtLast_79 : decode cX6_lookAtLast 79 = .ok (.ior, 1) := by decide +kernel
theorem dX6_lookAtLast_80 : decode cX6_lookAtLast 80 = .ok (.istore 8, 2) := by decide +kernel
theorem dX6_lookAtLast_82 : decode cX6_lookAtLast 82 = .ok (.aload_n 0, 1) := by decide +kernel
theorem dX6_lookAtLast_83 : decode cX6_lookAtLast 83 = .ok (.dup, 1) := by decide +kernel
theorem dX6_lookAtLast_84 : decode cX6_lookAtLast 84 = .ok (.getfield 57, 3) := by decide +kernel
theorem dX6_lookAtLast_87 : decode cX6_lookAtLast 87 = .ok (.iconst 1, 1) := by decide +kernel
theorem dX6_lookAtLast_88 : decode cX6_lookAtLast 88 = .ok (.iadd, 1) := by decide +kernel
theorem dX6_lookAtLast_89 : decode cX6_lookAtLast 89 = .ok (.putfield 57, 3) := by decide +kernel
theorem dX6_lookAtLast_92 : decode cX6_lookAtLast 92 = .ok (.aload_n 0, 1) := by decide +kernel
theorem dX6_lookAtLast_93 : decode cX6_lookAtLast 93 = .ok (.dup, 1) := by decide +kernel
theorem dX6_lookAtLast_94 : decode cX6_lookAtLast 94 = .ok (.getfield 66, 3) := by decide +kernel
theorem dX6_lookAtLast_97 : decode cX6_lookAtLast 97 = .ok (.iconst 1, 1) := by decide +kernel
theorem dX6_lookAtLast_98 : decode cX6_lookAtLast 98 = .ok (.iload 8, 2) := by decide +kernel
theorem dX6_lookAtLast_100 : decode cX6_lookAtLast 100 = .ok (.ishl, 1) := by decide +kernel
theorem dX6_lookAtLast_101 : decode cX6_lookAtLast 101 = .ok (.ior, 1) := by decide +kernel
theorem dX6_lookAtLast_102 : decode cX6_lookAtLast 102 = .ok (.putfield 66, 3) := by decide +kernel
theorem dX6_lookAtLast_105 : decode cX6_lookAtLast 105 = .ok (.iload 8, 2) := by decide +kernel
theorem dX6_lookAtLast_107 : decode cX6_lookAtLast 107 = .ok (.aload_n 0, 1) := by decide +kernel
theorem dX6_lookAtLast_108 : decode cX6_lookAtLast 108 = .ok (.getfield 54, 3) := by decide +kernel
theorem dX6_lookAtLast_111 : decode cX6_lookAtLast 111 = .ok (.if_icmp .ne 26, 3) := by decide +kernel
theorem dX6_lookAtLast_114 : decode cX6_lookAtLast 114 = .ok (.aload_n 0, 1) := by decide +kernel
theorem dX6_lookAtLast_115 : decode cX6_lookAtLast 115 = .ok (.iload_n 2, 1) := by decide +kernel
theorem dX6_lookAtLast_116 : decode cX6_lookAtLast 116 = .ok (.iconst 1, 1) := by decide +kernel
theorem dX6_lookAtLast_117 : decode cX6_lookAtLast 117 = .ok (.iload 7, 2) := by decide +kernel
theorem dX6_lookAtLast_119 : decode cX6_lookAtLast 119 = .ok (.ishl, 1) := by decide +kernel
theorem dX6_lookAtLast_120 : decode cX6_lookAtLast 120 = .ok (.ior, 1) := by decide +kernel
theorem dX6_lookAtLast_121 : decode cX6_lookAtLast 121 = .ok (.invokevirtual 112, 3) := by decide +kernel
theorem dX6_lookAtLast_124 : decode cX6_lookAtLast 124 = .ok (.ifCond .eq 13, 3) := by decide +kernel
theorem dX6_lookAtLast_127 : decode cX6_lookAtLast 127 = .ok (.aload_n 0, 1) := by decide +kernel
theorem dX6_lookAtLast_128 : decode cX6_lookAtLast 128 = .ok (.iload_n 2, 1) := by decide +kernel
theorem dX6_lookAtLast_129 : decode cX6_lookAtLast 129 = .ok (.iconst 1, 1) := by decide +kernel
theorem dX6_lookAtLast_130 : decode cX6_lookAtLast 130 = .ok (.iload 7, 2) := by decide +kernel
theorem dX6_lookAtLast_132 : decode cX6_lookAtLast 132 = .ok (.ishl, 1) := by decide +kernel
theorem dX6_lookAtLast_133 : decode cX6_lookAtLast 133 = .ok (.ior, 1) := by decide +kernel
theorem dX6_lookAtLast_134 : decode cX6_lookAtLast 134 = .ok (.invokevirtual 116, 3) := by decide +kernel
theorem dX6_lookAtLast_137 : decode cX6_lookAtLast 137 = .ok (.iinc 6 (-1), 3) := by decide +kernel
theorem dX6_lookAtLast_140 : decode cX6_lookAtLast 140 = .ok (.goto (-93), 3) := by decide +kernel
theorem dX6_lookAtLast_143 : decode cX6_lookAtLast 143 = .ok (.return_, 1) := by decide +kernel
theorem dX6_isLeast_0 : decode cX6_isLeast 0 = .ok (.iload_n 1, 1) := by decide +kernel
theorem dX6_isLeast_1 : decode cX6_isLeast 1 = .ok (.istore_n 2, 1) := by decide +kernel
theorem dX6_isLeast_2 : decode cX6_isLeast 2 = .ok (.iload_n 1, 1) := by decide +kernel
theorem dX6_isLeast_3 : decode cX6_isLeast 3 = .ok (.invokestatic 86, 3) := by decide +kernel
theorem dX6_isLeast_6 : decode cX6_isLeast 6 = .ok (.istore_n 3, 1) := by decide +kernel
theorem dX6_isLeast_7 : decode cX6_isLeast 7 = .ok (.iload_n 3, 1) := by decide +kernel
theorem dX6_isLeast_8 : decode cX6_isLeast 8 = .ok (.ifCond .le 45, 3) := by decide +kernel
theorem dX6_isLeast_11 : decode cX6_isLeast 11 = .ok (.iload_n 1, 1) := by decide +kernel
theorem dX6_isLeast_12 : decode cX6_isLeast 12 = .ok (.iload_n 2, 1) := by decide +kernel
theorem dX6_isLeast_13 : decode cX6_isLeast 13 = .ok (.iload_n 2, 1) := by decide +kernel
theorem dX6_isLeast_14 : decode cX6_isLeast 14 = .ok (.ineg, 1) := by decide +kernel
theorem dX6_isLeast_15 : decode cX6_isLeast 15 = .ok (.iand, 1) := by decide +kernel
theorem dX6_isLeast_16 : decode cX6_isLeast 16 = .ok (.iconst (-1), 1) := by decide +kernel
theorem dX6_isLeast_17 : decode cX6_isLeast 17 = .ok (.ixor, 1) := by decide +kernel
theorem dX6_isLeast_18 : decode cX6_isLeast 18 = .ok (.iand, 1) := by decide +kernel
theorem dX6_isLeast_19 : decode cX6_isLeast 19 = .ok (.istore 4, 2) := by decide +kernel
theorem dX6_isLeast_21 : decode cX6_isLeast 21 = .ok (.iload_n 2, 1) := by decide +kernel
theorem dX6_isLeast_22 : decode cX6_isLeast 22 = .ok (.iload_n 2, 1) := by decide +kernel
theorem dX6_isLeast_23 : decode cX6_isLeast 23 = .ok (.iconst 1, 1) := by decide +kernel
theorem dX6_isLeast_24 : decode cX6_isLeast 24 = .ok (.isub, 1) := by decide +kernel
theorem dX6_isLeast_25 : decode cX6_isLeast 25 = .ok (.iand, 1) := by decide +kernel
theorem dX6_isLeast_26 : decode cX6_isLeast 26 = .ok (.istore_n 2, 1) := by decide +kernel
theorem dX6_isLeast_27 : decode cX6_isLeast 27 = .ok (.aload_n 0, 1) := by decide +kernel
theorem dX6_isLeast_28 : decode cX6_isLeast 28 = .ok (.iload 4, 2) := by decide +kernel
theorem dX6_isLeast_30 : decode cX6_isLeast 30 = .ok (.invokevirtual 119, 3) := by decide +kernel
theorem dX6_isLeast_33 : decode cX6_isLeast 33 = .ok (.ifCond .eq 14, 3) := by decide +kernel
theorem dX6_isLeast_36 : decode cX6_isLeast 36 = .ok (.aload_n 0, 1) := by decide +kernel
theorem dX6_isLeast_37 : decode cX6_isLeast 37 = .ok (.iload 4, 2) := by decide +kernel
theorem dX6_isLeast_39 : decode cX6_isLeast 39 = .ok (.invokevirtual 122, 3) := by decide +kernel
theorem dX6_isLeast_42 : decode cX6_isLeast 42 = .ok (.ifCond .eq 5, 3) := by decide +kernel
theorem dX6_isLeast_45 : decode cX6_isLeast 45 = .ok (.iconst 0, 1) := by decide +kernel
theorem dX6_isLeast_46 : decode cX6_isLeast 46 = .ok (.ireturn, 1) := by decide +kernel
theorem dX6_isLeast_47 : decode cX6_isLeast 47 = .ok (.iinc 3 (-1), 3) := by decide +kernel
theorem dX6_isLeast_50 : decode cX6_isLeast 50 = .ok (.goto (-43), 3) := by decide +kernel
theorem dX6_isLeast_53 : decode cX6_isLeast 53 = .ok (.iconst 1, 1) := by decide +kernel
theorem dX6_isLeast_54 : decode cX6_isLeast 54 = .ok (.ireturn, 1) := by decide +kernel
theorem dX6_holdsAll_0 : decode cX6_holdsAll 0 = .ok (.iconst 0, 1) := by decide +kernel
theorem dX6_holdsAll_1 : decode cX6_holdsAll 1 = .ok (.istore_n 2, 1) := by decide +kernel
theorem dX6_holdsAll_2 : decode cX6_holdsAll 2 = .ok (.iload_n 2, 1) := by decide +kernel
theorem dX6_holdsAll_3 : decode cX6_holdsAll 3 = .ok (.aload_n 0, 1) := by decide +kernel
theorem dX6_holdsAll_4 : decode cX6_holdsAll 4 = .ok (.getfield 50, 3) := by decide +kernel
theorem dX6_holdsAll_7 : decode cX6_holdsAll 7 = .ok (.if_icmp .ge 25, 3) := by decide +kernel
theorem dX6_holdsAll_10 : decode cX6_holdsAll 10 = .ok (.aload_n 0, 1) := by decide +kernel
theorem dX6_holdsAll_11 : decode cX6_holdsAll 11 = .ok (.getfield 46, 3) := by decide +kernel
theorem dX6_holdsAll_14 : decode cX6_holdsAll 14 = .ok (.getfield 125, 3) := by decide +kernel
theorem dX6_holdsAll_17 : decode cX6_holdsAll 17 = .ok (.iload_n 2, 1) := by decide +kernel
theorem dX6_holdsAll_18 : decode cX6_holdsAll 18 = .ok (.iaload, 1) := by decide +kernel
theorem dX6_holdsAll_19 : decode cX6_holdsAll 19 = .ok (.iload_n 1, 1) := by decide +kernel
theorem dX6_holdsAll_20 : decode cX6_holdsAll 20 = .ok (.iand, 1) := by decide +kernel
theorem dX6_holdsAll_21 : decode cX6_holdsAll 21 = .ok (.ifCond .ne 5, 3) := by decide +kernel
theorem dX6_holdsAll_24 : decode cX6_holdsAll 24 = .ok (.iconst 0, 1) := by decide +kernel
theorem dX6_holdsAll_25 : decode cX6_holdsAll 25 = .ok (.ireturn, 1) := by decide +kernel
theorem dX6_holdsAll_26 : decode cX6_holdsAll 26 = .ok (.iinc 2 1, 3) := by decide +kernel
theorem dX6_holdsAll_29 : decode cX6_holdsAll 29 = .ok (.goto (-27), 3) := by decide +kernel
theorem dX6_holdsAll_32 : decode cX6_holdsAll 32 = .ok (.iconst 1, 1) := by decide +kernel
theorem dX6_holdsAll_33 : decode cX6_holdsAll 33 = .ok (.ireturn, 1) := by decide +kernel
theorem dX6_hangsTogether_0 : decode cX6_hangsTogether 0 = .ok (.iload_n 1, 1) := by decide +kernel
theorem dX6_hangsTogether_1 : decode cX6_hangsTogether 1 = .ok (.iload_n 1, 1) := by decide +kernel
theorem dX6_hangsTogether_2 : decode cX6_hangsTogether 2 = .ok (.ineg, 1) := by decide +kernel
theorem dX6_hangsTogether_3 : decode cX6_hangsTogether 3 = .ok (.iand, 1) := by decide +kernel
theorem dX6_hangsTogether_4 : decode cX6_hangsTogether 4 = .ok (.istore_n 2, 1) := by decide +kernel
theorem dX6_hangsTogether_5 : decode cX6_hangsTogether 5 = .ok (.iload_n 2, 1) := by decide +kernel
theorem dX6_hangsTogether_6 : decode cX6_hangsTogether 6 = .ok (.istore_n 3, 1) := by decide +kernel
theorem dX6_hangsTogether_7 : decode cX6_hangsTogether 7 = .ok (.iconst 0, 1) := by decide +kernel
theorem dX6_hangsTogether_8 : decode cX6_hangsTogether 8 = .ok (.istore 4, 2) := by decide +kernel
theorem dX6_hangsTogether_10 : decode cX6_hangsTogether 10 = .ok (.iload 4, 2) := by decide +kernel
theorem dX6_hangsTogether_12 : decode cX6_hangsTogether 12 = .ok (.iconst 5, 1) := by decide +kernel
theorem dX6_hangsTogether_13 : decode cX6_hangsTogether 13 = .ok (.if_icmp .ge 69, 3) := by decide +kernel
theorem dX6_hangsTogether_16 : decode cX6_hangsTogether 16 = .ok (.iload_n 3, 1) := by decide +kernel
theorem dX6_hangsTogether_17 : decode cX6_hangsTogether 17 = .ok (.ifCond .eq 65, 3) := by decide +kernel
theorem dX6_hangsTogether_20 : decode cX6_hangsTogether 20 = .ok (.iconst 0, 1) := by decide +kernel
theorem dX6_hangsTogether_21 : decode cX6_hangsTogether 21 = .ok (.istore 5, 2) := by decide +kernel
theorem dX6_hangsTogether_23 : decode cX6_hangsTogether 23 = .ok (.iload_n 3, 1) := by decide +kernel
theorem dX6_hangsTogether_24 : decode cX6_hangsTogether 24 = .ok (.invokestatic 86, 3) := by decide +kernel
theorem dX6_hangsTogether_27 : decode cX6_hangsTogether 27 = .ok (.istore 6, 2) := by decide +kernel
theorem dX6_hangsTogether_29 : decode cX6_hangsTogether 29 = .ok (.iload 6, 2) := by decide +kernel
theorem dX6_hangsTogether_31 : decode cX6_hangsTogether 31 = .ok (.ifCond .le 32, 3) := by decide +kernel
theorem dX6_hangsTogether_34 : decode cX6_hangsTogether 34 = .ok (.iload 5, 2) := by decide +kernel
theorem dX6_hangsTogether_36 : decode cX6_hangsTogether 36 = .ok (.aload_n 0, 1) := by decide +kernel
theorem dX6_hangsTogether_37 : decode cX6_hangsTogether 37 = .ok (.getfield 42, 3) := by decide +kernel
theorem dX6_hangsTogether_40 : decode cX6_hangsTogether 40 = .ok (.getfield 92, 3) := by decide +kernel
theorem dX6_hangsTogether_43 : decode cX6_hangsTogether 43 = .ok (.iload_n 3, 1) := by decide +kernel
theorem dX6_hangsTogether_44 : decode cX6_hangsTogether 44 = .ok (.invokestatic 97, 3) := by decide +kernel
theorem dX6_hangsTogether_47 : decode cX6_hangsTogether 47 = .ok (.iaload, 1) := by decide +kernel
theorem dX6_hangsTogether_48 : decode cX6_hangsTogether 48 = .ok (.ior, 1) := by decide +kernel
theorem dX6_hangsTogether_49 : decode cX6_hangsTogether 49 = .ok (.istore 5, 2) := by decide +kernel
theorem dX6_hangsTogether_51 : decode cX6_hangsTogether 51 = .ok (.iload_n 3, 1) := by decide +kernel
theorem dX6_hangsTogether_52 : decode cX6_hangsTogether 52 = .ok (.iload_n 3, 1) := by decide +kernel
theorem dX6_hangsTogether_53 : decode cX6_hangsTogether 53 = .ok (.iconst 1, 1) := by decide +kernel
theorem dX6_hangsTogether_54 : decode cX6_hangsTogether 54 = .ok (.isub, 1) := by decide +kernel
theorem dX6_hangsTogether_55 : decode cX6_hangsTogether 55 = .ok (.iand, 1) := by decide +kernel
theorem dX6_hangsTogether_56 : decode cX6_hangsTogether 56 = .ok (.istore_n 3, 1) := by decide +kernel
theorem dX6_hangsTogether_57 : decode cX6_hangsTogether 57 = .ok (.iinc 6 (-1), 3) := by decide +kernel
theorem dX6_hangsTogether_60 : decode cX6_hangsTogether 60 = .ok (.goto (-31), 3) := by decide +kernel
theorem dX6_hangsTogether_63 : decode cX6_hangsTogether 63 = .ok (.iload 5, 2) := by decide +kernel
theorem dX6_hangsTogether_65 : decode cX6_hangsTogether 65 = .ok (.iload_n 1, 1) := by decide +kernel
theorem dX6_hangsTogether_66 : decode cX6_hangsTogether 66 = .ok (.iand, 1) := by decide +kernel
theorem dX6_hangsTogether_67 : decode cX6_hangsTogether 67 = .ok (.iload_n 2, 1) := by decide +kernel
theorem dX6_hangsTogether_68 : decode cX6_hangsTogether 68 = .ok (.iconst (-1), 1) := by decide +kernel
theorem dX6_hangsTogether_69 : decode cX6_hangsTogether 69 = .ok (.ixor, 1) := by decide +kernel
theorem dX6_hangsTogether_70 : decode cX6_hangsTogether 70 = .ok (.iand, 1) := by decide +kernel
theorem dX6_hangsTogether_71 : decode cX6_hangsTogether 71 = .ok (.istore_n 3, 1) := by decide +kernel
theorem dX6_hangsTogether_72 : decode cX6_hangsTogether 72 = .ok (.iload_n 2, 1) := by decide +kernel
theorem dX6_hangsTogether_73 : decode cX6_hangsTogether 73 = .ok (.iload_n 3, 1) := by decide +kernel
theorem dX6_hangsTogether_74 : decode cX6_hangsTogether 74 = .ok (.ior, 1) := by decide +kernel
theorem dX6_hangsTogether_75 : decode cX6_hangsTogether 75 = .ok (.istore_n 2, 1) := by decide +kernel
theorem dX6_hangsTogether_76 : decode cX6_hangsTogether 76 = .ok (.iinc 4 1, 3) := by decide +kernel
theorem dX6_hangsTogether_79 : decode cX6_hangsTogether 79 = .ok (.goto (-69), 3) := by decide +kernel
theorem dX6_hangsTogether_82 : decode cX6_hangsTogether 82 = .ok (.iload_n 2, 1) := by decide +kernel
theorem dX6_hangsTogether_83 : decode cX6_hangsTogether 83 = .ok (.iload_n 1, 1) := by decide +kernel
theorem dX6_hangsTogether_84 : decode cX6_hangsTogether 84 = .ok (.if_icmp .ne 7, 3) := by decide +kernel
theorem dX6_hangsTogether_87 : decode cX6_hangsTogether 87 = .ok (.iconst 1, 1) := by decide +kernel
theorem dX6_hangsTogether_88 : decode cX6_hangsTogether 88 = .ok (.goto 4, 3) := by decide +kernel
theorem dX6_hangsTogether_91 : decode cX6_hangsTogether 91 = .ok (.iconst 0, 1) := by decide +kernel
theorem dX6_hangsTogether_92 : decode cX6_hangsTogether 92 = .ok (.ireturn, 1) := by decide +kernel
theorem dX6_keepFound_0 : decode cX6_keepFound 0 = .ok (.aload_n 0, 1) := by decide +kernel
theorem dX6_keepFound_1 : decode cX6_keepFound 1 = .ok (.getfield 60, 3) := by decide +kernel
theorem dX6_keepFound_4 : decode cX6_keepFound 4 = .ok (.aload_n 0, 1) := by decide +kernel
theorem dX6_keepFound_5 : decode cX6_keepFound 5 = .ok (.getfield 35, 3) := by decide +kernel
theorem dX6_keepFound_8 : decode cX6_keepFound 8 = .ok (.arraylength, 1) := by decide +kernel
theorem dX6_keepFound_9 : decode cX6_keepFound 9 = .ok (.if_icmp .lt 20, 3) := by decide +kernel
theorem dX6_keepFound_12 : decode cX6_keepFound 12 = .ok (.aload_n 0, 1) := by decide +kernel
theorem dX6_keepFound_13 : decode cX6_keepFound 13 = .ok (.aload_n 0, 1) := by decide +kernel
theorem dX6_keepFound_14 : decode cX6_keepFound 14 = .ok (.getfield 35, 3) := by decide +kernel
theorem dX6_keepFound_17 : decode cX6_keepFound 17 = .ok (.iconst 2, 1) := by decide +kernel
theorem dX6_keepFound_18 : decode cX6_keepFound 18 = .ok (.aload_n 0, 1) := by decide +kernel
theorem dX6_keepFound_19 : decode cX6_keepFound 19 = .ok (.getfield 60, 3) := by decide +kernel
theorem dX6_keepFound_22 : decode cX6_keepFound 22 = .ok (.imul, 1) := by decide +kernel
theorem dX6_keepFound_23 : decode cX6_keepFound 23 = .ok (.invokestatic 128, 3) := by decide +kernel
theorem dX6_keepFound_26 : decode cX6_keepFound 26 = .ok (.putfield 35, 3) := by decide +kernel
theorem dX6_keepFound_29 : decode cX6_keepFound 29 = .ok (.aload_n 0, 1) := by decide +kernel
theorem dX6_keepFound_30 : decode cX6_keepFound 30 = .ok (.getfield 35, 3) := by decide +kernel
theorem dX6_keepFound_33 : decode cX6_keepFound 33 = .ok (.aload_n 0, 1) := by decide +kernel
theorem dX6_keepFound_34 : decode cX6_keepFound 34 = .ok (.dup, 1) := by decide +kernel
theorem dX6_keepFound_35 : decode cX6_keepFound 35 = .ok (.getfield 60, 3) := by decide +kernel
theorem dX6_keepFound_38 : decode cX6_keepFound 38 = .ok (.dup_x1, 1) := by decide +kernel
theorem dX6_keepFound_39 : decode cX6_keepFound 39 = .ok (.iconst 1, 1) := by decide +kernel
theorem dX6_keepFound_40 : decode cX6_keepFound 40 = .ok (.iadd, 1) := by decide +kernel
theorem dX6_keepFound_41 : decode cX6_keepFound 41 = .ok (.putfield 60, 3) := by decide +kernel
theorem dX6_keepFound_44 : decode cX6_keepFound 44 = .ok (.aload_n 0, 1) := by decide +kernel
theorem dX6_keepFound_45 : decode cX6_keepFound 45 = .ok (.getfield 57, 3) := by decide +kernel
theorem dX6_keepFound_48 : decode cX6_keepFound 48 = .ok (.i2l, 1) := by decide +kernel
theorem dX6_keepFound_49 : decode cX6_keepFound 49 = .ok (.bipush 30, 2) := by decide +kernel
theorem dX6_keepFound_51 : decode cX6_keepFound 51 = .ok (.lshl, 1) := by decide +kernel
theorem dX6_keepFound_52 : decode cX6_keepFound 52 = .ok (.iload_n 1, 1) := by decide +kernel
theorem dX6_keepFound_53 : decode cX6_keepFound 53 = .ok (.i2l, 1) := by decide +kernel
theorem dX6_keepFound_54 : decode cX6_keepFound 54 = .ok (.lor, 1) := by decide +kernel
theorem dX6_keepFound_55 : decode cX6_keepFound 55 = .ok (.lastore, 1) := by decide +kernel
theorem dX6_keepFound_56 : decode cX6_keepFound 56 = .ok (.return_, 1) := by decide +kernel
theorem dX6_setPrice_0 : decode cX6_setPrice 0 = .ok (.aload_n 0, 1) := by decide +kernel
theorem dX6_setPrice_1 : decode cX6_setPrice 1 = .ok (.getfield 35, 3) := by decide +kernel
theorem dX6_setPrice_4 : decode cX6_setPrice 4 = .ok (.iload_n 1, 1) := by decide +kernel
theorem dX6_setPrice_5 : decode cX6_setPrice 5 = .ok (.laload, 1) := by decide +kernel
theorem dX6_setPrice_6 : decode cX6_setPrice 6 = .ok (.ldc2_w 134, 3) := by decide +kernel
theorem dX6_setPrice_9 : decode cX6_setPrice 9 = .ok (.land, 1) := by decide +kernel
theorem dX6_setPrice_10 : decode cX6_setPrice 10 = .ok (.l2i, 1) := by decide +kernel
theorem dX6_setPrice_11 : decode cX6_setPrice 11 = .ok (.istore_n 2, 1) := by decide +kernel
theorem dX6_setPrice_12 : decode cX6_setPrice 12 = .ok (.aload_n 0, 1) := by decide +kernel
theorem dX6_setPrice_13 : decode cX6_setPrice 13 = .ok (.getfield 35, 3) := by decide +kernel
theorem dX6_setPrice_16 : decode cX6_setPrice 16 = .ok (.iload_n 1, 1) := by decide +kernel
theorem dX6_setPrice_17 : decode cX6_setPrice 17 = .ok (.laload, 1) := by decide +kernel
theorem dX6_setPrice_18 : decode cX6_setPrice 18 = .ok (.bipush 30, 2) := by decide +kernel
theorem dX6_setPrice_20 : decode cX6_setPrice 20 = .ok (.lshr, 1) := by decide +kernel
theorem dX6_setPrice_21 : decode cX6_setPrice 21 = .ok (.l2i, 1) := by decide +kernel
theorem dX6_setPrice_22 : decode cX6_setPrice 22 = .ok (.istore_n 3, 1) := by decide +kernel
theorem dX6_setPrice_23 : decode cX6_setPrice 23 = .ok (.aload_n 0, 1) := by decide +kernel
theorem dX6_setPrice_24 : decode cX6_setPrice 24 = .ok (.iload_n 2, 1) := by decide +kernel
theorem dX6_setPrice_25 : decode cX6_setPrice 25 = .ok (.invokevirtual 136, 3) := by decide +kernel
theorem dX6_setPrice_28 : decode cX6_setPrice 28 = .ok (.istore 4, 2) := by decide +kernel
theorem dX6_setPrice_30 : decode cX6_setPrice 30 = .ok (.iload 4, 2) := by decide +kernel
theorem dX6_setPrice_32 : decode cX6_setPrice 32 = .ok (.istore 5, 2) := by decide +kernel
theorem dX6_setPrice_34 : decode cX6_setPrice 34 = .ok (.iconst 0, 1) := by decide +kernel
theorem dX6_setPrice_35 : decode cX6_setPrice 35 = .ok (.istore 6, 2) := by decide +kernel
theorem dX6_setPrice_37 : decode cX6_setPrice 37 = .ok (.iload 6, 2) := by decide +kernel
theorem dX6_setPrice_39 : decode cX6_setPrice 39 = .ok (.aload_n 0, 1) := by decide +kernel
theorem dX6_setPrice_40 : decode cX6_setPrice 40 = .ok (.getfield 50, 3) := by decide +kernel
theorem dX6_setPrice_43 : decode cX6_setPrice 43 = .ok (.if_icmp .ge 33, 3) := by decide +kernel
theorem dX6_setPrice_46 : decode cX6_setPrice 46 = .ok (.iload 5, 2) := by decide +kernel
theorem dX6_setPrice_48 : decode cX6_setPrice 48 = .ok (.aload_n 0, 1) := by decide +kernel
theorem dX6_setPrice_49 : decode cX6_setPrice 49 = .ok (.getfield 46, 3) := by decide +kernel
theorem dX6_setPrice_52 : decode cX6_setPrice 52 = .ok (.aload_n 0, 1) := by decide +kernel
theorem dX6_setPrice_53 : decode cX6_setPrice 53 = .ok (.getfield 46, 3) := by decide +kernel
theorem dX6_setPrice_56 : decode cX6_setPrice 56 = .ok (.iload_n 2, 1) := by decide +kernel
theorem dX6_setPrice_57 : decode cX6_setPrice 57 = .ok (.iload 6, 2) := by decide +kernel
theorem dX6_setPrice_59 : decode cX6_setPrice 59 = .ok (.invokevirtual 139, 3) := by decide +kernel
theorem dX6_setPrice_62 : decode cX6_setPrice 62 = .ok (.iload 6, 2) := by decide +kernel
theorem dX6_setPrice_64 : decode cX6_setPrice 64 = .ok (.invokevirtual 143, 3) := by decide +kernel
theorem dX6_setPrice_67 : decode cX6_setPrice 67 = .ok (.iadd, 1) := by decide +kernel
theorem dX6_setPrice_68 : decode cX6_setPrice 68 = .ok (.istore 5, 2) := by decide +kernel
theorem dX6_setPrice_70 : decode cX6_setPrice 70 = .ok (.iinc 6 1, 3) := by decide +kernel
theorem dX6_setPrice_73 : decode cX6_setPrice 73 = .ok (.goto (-36), 3) := by decide +kernel
theorem dX6_setPrice_76 : decode cX6_setPrice 76 = .ok (.iconst 0, 1) := by decide +kernel
theorem dX6_setPrice_77 : decode cX6_setPrice 77 = .ok (.iload 5, 2) := by decide +kernel
theorem dX6_setPrice_79 : decode cX6_setPrice 79 = .ok (.bipush 63, 2) := by decide +kernel
theorem dX6_setPrice_81 : decode cX6_setPrice 81 = .ok (.invokestatic 146, 3) := by decide +kernel
theorem dX6_setPrice_84 : decode cX6_setPrice 84 = .ok (.invokestatic 151, 3) := by decide +kernel
theorem dX6_setPrice_87 : decode cX6_setPrice 87 = .ok (.istore 5, 2) := by decide +kernel
theorem dX6_setPrice_89 : decode cX6_setPrice 89 = .ok (.aload_n 0, 1) := by decide +kernel
theorem dX6_setPrice_90 : decode cX6_setPrice 90 = .ok (.getfield 63, 3) := by decide +kernel
theorem dX6_setPrice_93 : decode cX6_setPrice 93 = .ok (.ifCond .eq 19, 3) := by decide +kernel
theorem dX6_setPrice_96 : decode cX6_setPrice 96 = .ok (.iload 5, 2) := by decide +kernel
theorem dX6_setPrice_98 : decode cX6_setPrice 98 = .ok (.aload_n 0, 1) := by decide +kernel
theorem dX6_setPrice_99 : decode cX6_setPrice 99 = .ok (.getfield 32, 3) := by decide +kernel
theorem dX6_setPrice_102 : decode cX6_setPrice 102 = .ok (.aload_n 0, 1) := by decide +kernel
theorem dX6_setPrice_103 : decode cX6_setPrice 103 = .ok (.getfield 63, 3) := by decide +kernel
theorem dX6_setPrice_106 : decode cX6_setPrice 106 = .ok (.iconst 1, 1) := by decide +kernel
theorem dX6_setPrice_107 : decode cX6_setPrice 107 = .ok (.isub, 1) := by decide +kernel
theorem dX6_setPrice_108 : decode cX6_setPrice 108 = .ok (.iaload, 1) := by decide +kernel
theorem dX6_setPrice_109 : decode cX6_setPrice 109 = .ok (.if_icmp .ge 34, 3) := by decide +kernel
theorem dX6_setPrice_112 : decode cX6_setPrice 112 = .ok (.aload_n 0, 1) := by decide +kernel
theorem dX6_setPrice_113 : decode cX6_setPrice 113 = .ok (.getfield 29, 3) := by decide +kernel
theorem dX6_setPrice_116 : decode cX6_setPrice 116 = .ok (.aload_n 0, 1) := by decide +kernel
theorem dX6_setPrice_117 : decode cX6_setPrice 117 = .ok (.getfield 63, 3) := by decide +kernel
theorem dX6_setPrice_120 : decode cX6_setPrice 120 = .ok (.iload_n 3, 1) := by decide +kernel
theorem dX6_setPrice_121 : decode cX6_setPrice 121 = .ok (.iastore, 1) := by decide +kernel
theorem dX6_setPrice_122 : decode cX6_setPrice 122 = .ok (.aload_n 0, 1) := by decide +kernel
theorem dX6_setPrice_123 : decode cX6_setPrice 123 = .ok (.getfield 32, 3) := by decide +kernel
theorem dX6_setPrice_126 : decode cX6_setPrice 126 = .ok (.aload_n 0, 1) := by decide +kernel
theorem dX6_setPrice_127 : decode cX6_setPrice 127 = .ok (.getfield 63, 3) := by decide +kernel
theorem dX6_setPrice_130 : decode cX6_setPrice 130 = .ok (.iload 5, 2) := by decide +kernel
theorem dX6_setPrice_132 : decode cX6_setPrice 132 = .ok (.iastore, 1) := by decide +kernel
theorem dX6_setPrice_133 : decode cX6_setPrice 133 = .ok (.aload_n 0, 1) := by decide +kernel
theorem dX6_setPrice_134 : decode cX6_setPrice 134 = .ok (.dup, 1) := by decide +kernel
theorem dX6_setPrice_135 : decode cX6_setPrice 135 = .ok (.getfield 63, 3) := by decide +kernel
theorem dX6_setPrice_138 : decode cX6_setPrice 138 = .ok (.iconst 1, 1) := by decide +kernel
theorem dX6_setPrice_139 : decode cX6_setPrice 139 = .ok (.iadd, 1) := by decide +kernel
theorem dX6_setPrice_140 : decode cX6_setPrice 140 = .ok (.putfield 63, 3) := by decide +kernel
theorem dX6_setPrice_143 : decode cX6_setPrice 143 = .ok (.aload_n 0, 1) := by decide +kernel
theorem dX6_setPrice_144 : decode cX6_setPrice 144 = .ok (.getfield 35, 3) := by decide +kernel
theorem dX6_setPrice_147 : decode cX6_setPrice 147 = .ok (.iload_n 1, 1) := by decide +kernel
theorem dX6_setPrice_148 : decode cX6_setPrice 148 = .ok (.iload 5, 2) := by decide +kernel
theorem dX6_setPrice_150 : decode cX6_setPrice 150 = .ok (.i2l, 1) := by decide +kernel
theorem dX6_setPrice_151 : decode cX6_setPrice 151 = .ok (.bipush 36, 2) := by decide +kernel
theorem dX6_setPrice_153 : decode cX6_setPrice 153 = .ok (.lshl, 1) := by decide +kernel
theorem dX6_setPrice_154 : decode cX6_setPrice 154 = .ok (.iload 4, 2) := by decide +kernel
theorem dX6_setPrice_156 : decode cX6_setPrice 156 = .ok (.i2l, 1) := by decide +kernel
theorem dX6_setPrice_157 : decode cX6_setPrice 157 = .ok (.bipush 30, 2) := by decide +kernel
theorem dX6_setPrice_159 : decode cX6_setPrice 159 = .ok (.lshl, 1) := by decide +kernel
theorem dX6_setPrice_160 : decode cX6_setPrice 160 = .ok (.lor, 1) := by decide +kernel
theorem dX6_setPrice_161 : decode cX6_setPrice 161 = .ok (.iload_n 2, 1) := by decide +kernel
theorem dX6_setPrice_162 : decode cX6_setPrice 162 = .ok (.i2l, 1) := by decide +kernel
theorem dX6_setPrice_163 : decode cX6_setPrice 163 = .ok (.lor, 1) := by decide +kernel
theorem dX6_setPrice_164 : decode cX6_setPrice 164 = .ok (.lastore, 1) := by decide +kernel
theorem dX6_setPrice_165 : decode cX6_setPrice 165 = .ok (.return_, 1) := by decide +kernel
theorem dX6_tieSum_0 : decode cX6_tieSum 0 = .ok (.iload_n 1, 1) := by decide +kernel
theorem dX6_tieSum_1 : decode cX6_tieSum 1 = .ok (.iload_n 1, 1) := by decide +kernel
theorem dX6_tieSum_2 : decode cX6_tieSum 2 = .ok (.ineg, 1) := by decide +kernel
theorem dX6_tieSum_3 : decode cX6_tieSum 3 = .ok (.iand, 1) := by decide +kernel
theorem dX6_tieSum_4 : decode cX6_tieSum 4 = .ok (.istore_n 2, 1) := by decide +kernel
theorem dX6_tieSum_5 : decode cX6_tieSum 5 = .ok (.iconst 0, 1) := by decide +kernel
theorem dX6_tieSum_6 : decode cX6_tieSum 6 = .ok (.istore_n 3, 1) := by decide +kernel
theorem dX6_tieSum_7 : decode cX6_tieSum 7 = .ok (.iload_n 1, 1) := by decide +kernel
theorem dX6_tieSum_8 : decode cX6_tieSum 8 = .ok (.invokestatic 86, 3) := by decide +kernel
theorem dX6_tieSum_11 : decode cX6_tieSum 11 = .ok (.istore 4, 2) := by decide +kernel
theorem dX6_tieSum_13 : decode cX6_tieSum 13 = .ok (.iload 4, 2) := by decide +kernel
theorem dX6_tieSum_15 : decode cX6_tieSum 15 = .ok (.iconst 1, 1) := by decide +kernel
theorem dX6_tieSum_16 : decode cX6_tieSum 16 = .ok (.if_icmp .le 111, 3) := by decide +kernel
theorem dX6_tieSum_19 : decode cX6_tieSum 19 = .ok (.iconst 0, 1) := by decide +kernel
theorem dX6_tieSum_20 : decode cX6_tieSum 20 = .ok (.istore 5, 2) := by decide +kernel
theorem dX6_tieSum_22 : decode cX6_tieSum 22 = .ok (.iconst 0, 1) := by decide +kernel
theorem dX6_tieSum_23 : decode cX6_tieSum 23 = .ok (.istore 6, 2) := by decide +kernel
theorem dX6_tieSum_25 : decode cX6_tieSum 25 = .ok (.iload_n 1, 1) := by decide +kernel
theorem dX6_tieSum_26 : decode cX6_tieSum 26 = .ok (.iload_n 2, 1) := by decide +kernel
theorem dX6_tieSum_27 : decode cX6_tieSum 27 = .ok (.iconst (-1), 1) := by decide +kernel
theorem dX6_tieSum_28 : decode cX6_tieSum 28 = .ok (.ixor, 1) := by decide +kernel
theorem dX6_tieSum_29 : decode cX6_tieSum 29 = .ok (.iand, 1) := by decide +kernel
theorem dX6_tieSum_30 : decode cX6_tieSum 30 = .ok (.istore 7, 2) := by decide +kernel
theorem dX6_tieSum_32 : decode cX6_tieSum 32 = .ok (.iload 7, 2) := by decide +kernel
theorem dX6_tieSum_34 : decode cX6_tieSum 34 = .ok (.invokestatic 86, 3) := by decide +kernel
theorem dX6_tieSum_37 : decode cX6_tieSum 37 = .ok (.istore 8, 2) := by decide +kernel
theorem dX6_tieSum_39 : decode cX6_tieSum 39 = .ok (.iload 8, 2) := by decide +kernel
theorem dX6_tieSum_41 : decode cX6_tieSum 41 = .ok (.ifCond .le 59, 3) := by decide +kernel
theorem dX6_tieSum_44 : decode cX6_tieSum 44 = .ok (.iload 7, 2) := by decide +kernel
theorem dX6_tieSum_46 : decode cX6_tieSum 46 = .ok (.invokestatic 97, 3) := by decide +kernel
theorem dX6_tieSum_49 : decode cX6_tieSum 49 = .ok (.istore 9, 2) := by decide +kernel
theorem dX6_tieSum_51 : decode cX6_tieSum 51 = .ok (.iload 7, 2) := by decide +kernel
theorem dX6_tieSum_53 : decode cX6_tieSum 53 = .ok (.iload 7, 2) := by decide +kernel
theorem dX6_tieSum_55 : decode cX6_tieSum 55 = .ok (.iconst 1, 1) := by decide +kernel
theorem dX6_tieSum_56 : decode cX6_tieSum 56 = .ok (.isub, 1) := by decide +kernel
theorem dX6_tieSum_57 : decode cX6_tieSum 57 = .ok (.iand, 1) := by decide +kernel
theorem dX6_tieSum_58 : decode cX6_tieSum 58 = .ok (.istore 7, 2) := by decide +kernel
theorem dX6_tieSum_60 : decode cX6_tieSum 60 = .ok (.aload_n 0, 1) := by decide +kernel
theorem dX6_tieSum_61 : decode cX6_tieSum 61 = .ok (.iload 9, 2) := by decide +kernel
theorem dX6_tieSum_63 : decode cX6_tieSum 63 = .ok (.iload_n 2, 1) := by decide +kernel
theorem dX6_tieSum_64 : decode cX6_tieSum 64 = .ok (.invokevirtual 154, 3) := by decide +kernel
theorem dX6_tieSum_67 : decode cX6_tieSum 67 = .ok (.istore 10, 2) := by decide +kernel
theorem dX6_tieSum_69 : decode cX6_tieSum 69 = .ok (.iload 10, 2) := by decide +kernel
theorem dX6_tieSum_71 : decode cX6_tieSum 71 = .ok (.ifCond .eq 23, 3) := by decide +kernel
theorem dX6_tieSum_74 : decode cX6_tieSum 74 = .ok (.iload 5, 2) := by decide +kernel
theorem dX6_tieSum_76 : decode cX6_tieSum 76 = .ok (.ifCond .eq 10, 3) := by decide +kernel
theorem dX6_tieSum_79 : decode cX6_tieSum 79 = .ok (.iload 10, 2) := by decide +kernel
theorem dX6_tieSum_81 : decode cX6_tieSum 81 = .ok (.iload 5, 2) := by decide +kernel
theorem dX6_tieSum_83 : decode cX6_tieSum 83 = .ok (.if_icmp .ge 11, 3) := by decide +kernel
theorem dX6_tieSum_86 : decode cX6_tieSum 86 = .ok (.iload 10, 2) := by decide +kernel
theorem dX6_tieSum_88 : decode cX6_tieSum 88 = .ok (.istore 5, 2) := by decide +kernel
theorem dX6_tieSum_90 : decode cX6_tieSum 90 = .ok (.iload 9, 2) := by decide +kernel
theorem dX6_tieSum_92 : decode cX6_tieSum 92 = .ok (.istore 6, 2) := by decide +kernel
theorem dX6_tieSum_94 : decode cX6_tieSum 94 = .ok (.iinc 8 (-1), 3) := by decide +kernel
theorem dX6_tieSum_97 : decode cX6_tieSum 97 = .ok (.goto (-58), 3) := by decide +kernel
theorem dX6_tieSum_100 : decode cX6_tieSum 100 = .ok (.iload_n 3, 1) := by decide +kernel
theorem dX6_tieSum_101 : decode cX6_tieSum 101 = .ok (.iload 5, 2) := by decide +kernel
theorem dX6_tieSum_103 : decode cX6_tieSum 103 = .ok (.iadd, 1) := by decide +kernel
theorem dX6_tieSum_104 : decode cX6_tieSum 104 = .ok (.istore_n 3, 1) := by decide +kernel
theorem dX6_tieSum_105 : decode cX6_tieSum 105 = .ok (.iload_n 2, 1) := by decide +kernel
theorem dX6_tieSum_106 : decode cX6_tieSum 106 = .ok (.iload 5, 2) := by decide +kernel
theorem dX6_tieSum_108 : decode cX6_tieSum 108 = .ok (.ifCond .ne 7, 3) := by decide +kernel
theorem dX6_tieSum_111 : decode cX6_tieSum 111 = .ok (.iconst 0, 1) := by decide +kernel
theorem dX6_tieSum_112 : decode cX6_tieSum 112 = .ok (.goto 7, 3) := by decide +kernel
theorem dX6_tieSum_115 : decode cX6_tieSum 115 = .ok (.iconst 1, 1) := by decide +kernel
theorem dX6_tieSum_116 : decode cX6_tieSum 116 = .ok (.iload 6, 2) := by decide +kernel
theorem dX6_tieSum_118 : decode cX6_tieSum 118 = .ok (.ishl, 1) := by decide +kernel
theorem dX6_tieSum_119 : decode cX6_tieSum 119 = .ok (.ior, 1) := by decide +kernel
theorem dX6_tieSum_120 : decode cX6_tieSum 120 = .ok (.istore_n 2, 1) := by decide +kernel
theorem dX6_tieSum_121 : decode cX6_tieSum 121 = .ok (.iinc 4 (-1), 3) := by decide +kernel
theorem dX6_tieSum_124 : decode cX6_tieSum 124 = .ok (.goto (-111), 3) := by decide +kernel
theorem dX6_tieSum_127 : decode cX6_tieSum 127 = .ok (.iload_n 3, 1) := by decide +kernel
theorem dX6_tieSum_128 : decode cX6_tieSum 128 = .ok (.ireturn, 1) := by decide +kernel
theorem dX6_leastTie_0 : decode cX6_leastTie 0 = .ok (.aload_n 0, 1) := by decide +kernel
theorem dX6_leastTie_1 : decode cX6_leastTie 1 = .ok (.getfield 42, 3) := by decide +kernel
theorem dX6_leastTie_4 : decode cX6_leastTie 4 = .ok (.getfield 92, 3) := by decide +kernel
theorem dX6_leastTie_7 : decode cX6_leastTie 7 = .ok (.iload_n 1, 1) := by decide +kernel
theorem dX6_leastTie_8 : decode cX6_leastTie 8 = .ok (.iaload, 1) := by decide +kernel
theorem dX6_leastTie_9 : decode cX6_leastTie 9 = .ok (.iload_n 2, 1) := by decide +kernel
theorem dX6_leastTie_10 : decode cX6_leastTie 10 = .ok (.iand, 1) := by decide +kernel
theorem dX6_leastTie_11 : decode cX6_leastTie 11 = .ok (.istore_n 3, 1) := by decide +kernel
theorem dX6_leastTie_12 : decode cX6_leastTie 12 = .ok (.iconst 0, 1) := by decide +kernel
theorem dX6_leastTie_13 : decode cX6_leastTie 13 = .ok (.istore 4, 2) := by decide +kernel
theorem dX6_leastTie_15 : decode cX6_leastTie 15 = .ok (.iload_n 3, 1) := by decide +kernel
theorem dX6_leastTie_16 : decode cX6_leastTie 16 = .ok (.invokestatic 86, 3) := by decide +kernel
theorem dX6_leastTie_19 : decode cX6_leastTie 19 = .ok (.istore 5, 2) := by decide +kernel
theorem dX6_leastTie_21 : decode cX6_leastTie 21 = .ok (.iload 5, 2) := by decide +kernel
theorem dX6_leastTie_23 : decode cX6_leastTie 23 = .ok (.ifCond .le 45, 3) := by decide +kernel
theorem dX6_leastTie_26 : decode cX6_leastTie 26 = .ok (.aload_n 0, 1) := by decide +kernel
theorem dX6_leastTie_27 : decode cX6_leastTie 27 = .ok (.getfield 42, 3) := by decide +kernel
theorem dX6_leastTie_30 : decode cX6_leastTie 30 = .ok (.iload_n 1, 1) := by decide +kernel
theorem dX6_leastTie_31 : decode cX6_leastTie 31 = .ok (.iload_n 3, 1) := by decide +kernel
theorem dX6_leastTie_32 : decode cX6_leastTie 32 = .ok (.invokestatic 97, 3) := by decide +kernel
theorem dX6_leastTie_35 : decode cX6_leastTie 35 = .ok (.invokevirtual 157, 3) := by decide +kernel
theorem dX6_leastTie_38 : decode cX6_leastTie 38 = .ok (.istore 6, 2) := by decide +kernel
theorem dX6_leastTie_40 : decode cX6_leastTie 40 = .ok (.iload_n 3, 1) := by decide +kernel
theorem dX6_leastTie_41 : decode cX6_leastTie 41 = .ok (.iload_n 3, 1) := by decide +kernel
theorem dX6_leastTie_42 : decode cX6_leastTie 42 = .ok (.iconst 1, 1) := by decide +kernel
theorem dX6_leastTie_43 : decode cX6_leastTie 43 = .ok (.isub, 1) := by decide +kernel
theorem dX6_leastTie_44 : decode cX6_leastTie 44 = .ok (.iand, 1) := by decide +kernel
theorem dX6_leastTie_45 : decode cX6_leastTie 45 = .ok (.istore_n 3, 1) := by decide +kernel
theorem dX6_leastTie_46 : decode cX6_leastTie 46 = .ok (.iload 4, 2) := by decide +kernel
theorem dX6_leastTie_48 : decode cX6_leastTie 48 = .ok (.ifCond .eq 10, 3) := by decide +kernel
theorem dX6_leastTie_51 : decode cX6_leastTie 51 = .ok (.iload 6, 2) := by decide +kernel
theorem dX6_leastTie_53 : decode cX6_leastTie 53 = .ok (.iload 4, 2) := by decide +kernel
theorem dX6_leastTie_55 : decode cX6_leastTie 55 = .ok (.if_icmp .ge 7, 3) := by decide +kernel
theorem dX6_leastTie_58 : decode cX6_leastTie 58 = .ok (.iload 6, 2) := by decide +kernel
theorem dX6_leastTie_60 : decode cX6_leastTie 60 = .ok (.istore 4, 2) := by decide +kernel
theorem dX6_leastTie_62 : decode cX6_leastTie 62 = .ok (.iinc 5 (-1), 3) := by decide +kernel
theorem dX6_leastTie_65 : decode cX6_leastTie 65 = .ok (.goto (-44), 3) := by decide +kernel
theorem dX6_leastTie_68 : decode cX6_leastTie 68 = .ok (.iload 4, 2) := by decide +kernel
theorem dX6_leastTie_70 : decode cX6_leastTie 70 = .ok (.ireturn, 1) := by decide +kernel
theorem dX6_order_0 : decode cX6_order 0 = .ok (.aload_n 0, 1) := by decide +kernel
theorem dX6_order_1 : decode cX6_order 1 = .ok (.getfield 39, 3) := by decide +kernel
theorem dX6_order_4 : decode cX6_order 4 = .ok (.arraylength, 1) := by decide +kernel
theorem dX6_order_5 : decode cX6_order 5 = .ok (.aload_n 0, 1) := by decide +kernel
theorem dX6_order_6 : decode cX6_order 6 = .ok (.getfield 60, 3) := by decide +kernel
theorem dX6_order_9 : decode cX6_order 9 = .ok (.if_icmp .ge 14, 3) := by decide +kernel
theorem dX6_order_12 : decode cX6_order 12 = .ok (.aload_n 0, 1) := by decide +kernel
theorem dX6_order_13 : decode cX6_order 13 = .ok (.aload_n 0, 1) := by decide +kernel
theorem dX6_order_14 : decode cX6_order 14 = .ok (.getfield 35, 3) := by decide +kernel
theorem dX6_order_17 : decode cX6_order 17 = .ok (.arraylength, 1) := by decide +kernel
theorem dX6_order_18 : decode cX6_order 18 = .ok (.newarray .long, 2) := by decide +kernel
theorem dX6_order_20 : decode cX6_order 20 = .ok (.putfield 39, 3) := by decide +kernel
theorem dX6_order_23 : decode cX6_order 23 = .ok (.aload_n 0, 1) := by decide +kernel
theorem dX6_order_24 : decode cX6_order 24 = .ok (.getfield 26, 3) := by decide +kernel
theorem dX6_order_27 : decode cX6_order 27 = .ok (.iconst 0, 1) := by decide +kernel
theorem dX6_order_28 : decode cX6_order 28 = .ok (.invokestatic 160, 3) := by decide +kernel
theorem dX6_order_31 : decode cX6_order 31 = .ok (.iconst 0, 1) := by decide +kernel
theorem dX6_order_32 : decode cX6_order 32 = .ok (.istore_n 1, 1) := by decide +kernel
theorem dX6_order_33 : decode cX6_order 33 = .ok (.iload_n 1, 1) := by decide +kernel
theorem dX6_order_34 : decode cX6_order 34 = .ok (.aload_n 0, 1) := by decide +kernel
theorem dX6_order_35 : decode cX6_order 35 = .ok (.getfield 60, 3) := by decide +kernel
theorem dX6_order_38 : decode cX6_order 38 = .ok (.if_icmp .ge 30, 3) := by decide +kernel
theorem dX6_order_41 : decode cX6_order 41 = .ok (.aload_n 0, 1) := by decide +kernel
theorem dX6_order_42 : decode cX6_order 42 = .ok (.getfield 26, 3) := by decide +kernel
theorem dX6_order_45 : decode cX6_order 45 = .ok (.aload_n 0, 1) := by decide +kernel
theorem dX6_order_46 : decode cX6_order 46 = .ok (.getfield 35, 3) := by decide +kernel
theorem dX6_order_49 : decode cX6_order 49 = .ok (.iload_n 1, 1) := by decide +kernel
theorem dX6_order_50 : decode cX6_order 50 = .ok (.laload, 1) := by decide +kernel
theorem dX6_order_51 : decode cX6_order 51 = .ok (.bipush 36, 2) := by decide +kernel
theorem dX6_order_53 : decode cX6_order 53 = .ok (.lshr, 1) := by decide +kernel
theorem dX6_order_54 : decode cX6_order 54 = .ok (.l2i, 1) := by decide +kernel
theorem dX6_order_55 : decode cX6_order 55 = .ok (.iconst 1, 1) := by decide +kernel
theorem dX6_order_56 : decode cX6_order 56 = .ok (.iadd, 1) := by decide +kernel
theorem dX6_order_57 : decode cX6_order 57 = .ok (.dup2, 1) := by decide +kernel
theorem dX6_order_58 : decode cX6_order 58 = .ok (.iaload, 1) := by decide +kernel
theorem dX6_order_59 : decode cX6_order 59 = .ok (.iconst 1, 1) := by decide +kernel
theorem dX6_order_60 : decode cX6_order 60 = .ok (.iadd, 1) := by decide +kernel
theorem dX6_order_61 : decode cX6_order 61 = .ok (.iastore, 1) := by decide +kernel
theorem dX6_order_62 : decode cX6_order 62 = .ok (.iinc 1 1, 3) := by decide +kernel
theorem dX6_order_65 : decode cX6_order 65 = .ok (.goto (-32), 3) := by decide +kernel
theorem dX6_order_68 : decode cX6_order 68 = .ok (.iconst 0, 1) := by decide +kernel
theorem dX6_order_69 : decode cX6_order 69 = .ok (.istore_n 1, 1) := by decide +kernel
theorem dX6_order_70 : decode cX6_order 70 = .ok (.iload_n 1, 1) := by decide +kernel
theorem dX6_order_71 : decode cX6_order 71 = .ok (.bipush 64, 2) := by decide +kernel
theorem dX6_order_73 : decode cX6_order 73 = .ok (.if_icmp .ge 26, 3) := by decide +kernel
theorem dX6_order_76 : decode cX6_order 76 = .ok (.aload_n 0, 1) := by decide +kernel
theorem dX6_order_77 : decode cX6_order 77 = .ok (.getfield 26, 3) := by decide +kernel
theorem dX6_order_80 : decode cX6_order 80 = .ok (.iload_n 1, 1) := by decide +kernel
theorem dX6_order_81 : decode cX6_order 81 = .ok (.iconst 1, 1) := by decide +kernel
theorem dX6_order_82 : decode cX6_order 82 = .ok (.iadd, 1) := by decide +kernel
theorem dX6_order_83 : decode cX6_order 83 = .ok (.dup2, 1) := by decide +kernel
theorem dX6_order_84 : decode cX6_order 84 = .ok (.iaload, 1) := by decide +kernel
theorem dX6_order_85 : decode cX6_order 85 = .ok (.aload_n 0, 1) := by decide +kernel
theorem dX6_order_86 : decode cX6_order 86 = .ok (.getfield 26, 3) := by decide +kernel
theorem dX6_order_89 : decode cX6_order 89 = .ok (.iload_n 1, 1) := by decide +kernel
theorem dX6_order_90 : decode cX6_order 90 = .ok (.iaload, 1) := by decide +kernel
theorem dX6_order_91 : decode cX6_order 91 = .ok (.iadd, 1) := by decide +kernel
theorem dX6_order_92 : decode cX6_order 92 = .ok (.iastore, 1) := by decide +kernel
theorem dX6_order_93 : decode cX6_order 93 = .ok (.iinc 1 1, 3) := by decide +kernel
theorem dX6_order_96 : decode cX6_order 96 = .ok (.goto (-26), 3) := by decide +kernel
theorem dX6_order_99 : decode cX6_order 99 = .ok (.iconst 0, 1) := by decide +kernel
theorem dX6_order_100 : decode cX6_order 100 = .ok (.istore_n 1, 1) := by decide +kernel
theorem dX6_order_101 : decode cX6_order 101 = .ok (.iload_n 1, 1) := by decide +kernel
theorem dX6_order_102 : decode cX6_order 102 = .ok (.aload_n 0, 1) := by decide +kernel
theorem dX6_order_103 : decode cX6_order 103 = .ok (.getfield 60, 3) := by decide +kernel
theorem dX6_order_106 : decode cX6_order 106 = .ok (.if_icmp .ge 47, 3) := by decide +kernel
theorem dX6_order_109 : decode cX6_order 109 = .ok (.aload_n 0, 1) := by decide +kernel
theorem dX6_order_110 : decode cX6_order 110 = .ok (.getfield 35, 3) := by decide +kernel
theorem dX6_order_113 : decode cX6_order 113 = .ok (.iload_n 1, 1) := by decide +kernel
theorem dX6_order_114 : decode cX6_order 114 = .ok (.laload, 1) := by decide +kernel
theorem dX6_order_115 : decode cX6_order 115 = .ok (.bipush 36, 2) := by decide +kernel
theorem dX6_order_117 : decode cX6_order 117 = .ok (.lshr, 1) := by decide +kernel
theorem dX6_order_118 : decode cX6_order 118 = .ok (.l2i, 1) := by decide +kernel
theorem dX6_order_119 : decode cX6_order 119 = .ok (.istore_n 2, 1) := by decide +kernel
theorem dX6_order_120 : decode cX6_order 120 = .ok (.aload_n 0, 1) := by decide +kernel
theorem dX6_order_121 : decode cX6_order 121 = .ok (.getfield 39, 3) := by decide +kernel
theorem dX6_order_124 : decode cX6_order 124 = .ok (.aload_n 0, 1) := by decide +kernel
theorem dX6_order_125 : decode cX6_order 125 = .ok (.getfield 26, 3) := by decide +kernel
theorem dX6_order_128 : decode cX6_order 128 = .ok (.iload_n 2, 1) := by decide +kernel
theorem dX6_order_129 : decode cX6_order 129 = .ok (.iaload, 1) := by decide +kernel
theorem dX6_order_130 : decode cX6_order 130 = .ok (.aload_n 0, 1) := by decide +kernel
theorem dX6_order_131 : decode cX6_order 131 = .ok (.getfield 35, 3) := by decide +kernel
theorem dX6_order_134 : decode cX6_order 134 = .ok (.iload_n 1, 1) := by decide +kernel
theorem dX6_order_135 : decode cX6_order 135 = .ok (.laload, 1) := by decide +kernel
theorem dX6_order_136 : decode cX6_order 136 = .ok (.lastore, 1) := by decide +kernel
theorem dX6_order_137 : decode cX6_order 137 = .ok (.aload_n 0, 1) := by decide +kernel
theorem dX6_order_138 : decode cX6_order 138 = .ok (.getfield 26, 3) := by decide +kernel
theorem dX6_order_141 : decode cX6_order 141 = .ok (.iload_n 2, 1) := by decide +kernel
theorem dX6_order_142 : decode cX6_order 142 = .ok (.dup2, 1) := by decide +kernel
theorem dX6_order_143 : decode cX6_order 143 = .ok (.iaload, 1) := by decide +kernel
theorem dX6_order_144 : decode cX6_order 144 = .ok (.iconst 1, 1) := by decide +kernel
theorem dX6_order_145 : decode cX6_order 145 = .ok (.iadd, 1) := by decide +kernel
theorem dX6_order_146 : decode cX6_order 146 = .ok (.iastore, 1) := by decide +kernel
theorem dX6_order_147 : decode cX6_order 147 = .ok (.iinc 1 1, 3) := by decide +kernel
theorem dX6_order_150 : decode cX6_order 150 = .ok (.goto (-49), 3) := by decide +kernel
theorem dX6_order_153 : decode cX6_order 153 = .ok (.return_, 1) := by decide +kernel
theorem dX6_has_0 : decode cX6_has 0 = .ok (.iload_n 1, 1) := by decide +kernel
theorem dX6_has_1 : decode cX6_has 1 = .ok (.ifCond .lt 15, 3) := by decide +kernel
theorem dX6_has_4 : decode cX6_has 4 = .ok (.iload_n 1, 1) := by decide +kernel
theorem dX6_has_5 : decode cX6_has 5 = .ok (.aload_n 0, 1) := by decide +kernel
theorem dX6_has_6 : decode cX6_has 6 = .ok (.getfield 60, 3) := by decide +kernel
theorem dX6_has_9 : decode cX6_has 9 = .ok (.if_icmp .ge 7, 3) := by decide +kernel
theorem dX6_has_12 : decode cX6_has 12 = .ok (.iconst 1, 1) := by decide +kernel
theorem dX6_has_13 : decode cX6_has 13 = .ok (.goto 4, 3) := by decide +kernel
theorem dX6_has_16 : decode cX6_has 16 = .ok (.iconst 0, 1) := by decide +kernel
theorem dX6_has_17 : decode cX6_has 17 = .ok (.ireturn, 1) := by decide +kernel
theorem dX6_setOf_0 : decode cX6_setOf 0 = .ok (.aload_n 0, 1) := by decide +kernel
theorem dX6_setOf_1 : decode cX6_setOf 1 = .ok (.iload_n 1, 1) := by decide +kernel
theorem dX6_setOf_2 : decode cX6_setOf 2 = .ok (.invokevirtual 164, 3) := by decide +kernel
theorem dX6_setOf_5 : decode cX6_setOf 5 = .ok (.ifCond .eq 17, 3) := by decide +kernel
theorem dX6_setOf_8 : decode cX6_setOf 8 = .ok (.aload_n 0, 1) := by decide +kernel
theorem dX6_setOf_9 : decode cX6_setOf 9 = .ok (.getfield 39, 3) := by decide +kernel
theorem dX6_setOf_12 : decode cX6_setOf 12 = .ok (.iload_n 1, 1) := by decide +kernel
theorem dX6_setOf_13 : decode cX6_setOf 13 = .ok (.laload, 1) := by decide +kernel
theorem dX6_setOf_14 : decode cX6_setOf 14 = .ok (.ldc2_w 134, 3) := by decide +kernel
theorem dX6_setOf_17 : decode cX6_setOf 17 = .ok (.land, 1) := by decide +kernel
theorem dX6_setOf_18 : decode cX6_setOf 18 = .ok (.l2i, 1) := by decide +kernel
theorem dX6_setOf_19 : decode cX6_setOf 19 = .ok (.goto 4, 3) := by decide +kernel
theorem dX6_setOf_22 : decode cX6_setOf 22 = .ok (.iconst 0, 1) := by decide +kernel
theorem dX6_setOf_23 : decode cX6_setOf 23 = .ok (.ireturn, 1) := by decide +kernel
theorem dX6_tiesOf_0 : decode cX6_tiesOf 0 = .ok (.aload_n 0, 1) := by decide +kernel
theorem dX6_tiesOf_1 : decode cX6_tiesOf 1 = .ok (.iload_n 1, 1) := by decide +kernel
theorem dX6_tiesOf_2 : decode cX6_tiesOf 2 = .ok (.invokevirtual 164, 3) := by decide +kernel
theorem dX6_tiesOf_5 : decode cX6_tiesOf 5 = .ok (.ifCond .eq 19, 3) := by decide +kernel
theorem dX6_tiesOf_8 : decode cX6_tiesOf 8 = .ok (.aload_n 0, 1) := by decide +kernel
theorem dX6_tiesOf_9 : decode cX6_tiesOf 9 = .ok (.getfield 39, 3) := by decide +kernel
theorem dX6_tiesOf_12 : decode cX6_tiesOf 12 = .ok (.iload_n 1, 1) := by decide +kernel
theorem dX6_tiesOf_13 : decode cX6_tiesOf 13 = .ok (.laload, 1) := by decide +kernel
theorem dX6_tiesOf_14 : decode cX6_tiesOf 14 = .ok (.bipush 30, 2) := by decide +kernel
theorem dX6_tiesOf_16 : decode cX6_tiesOf 16 = .ok (.lshr, 1) := by decide +kernel
theorem dX6_tiesOf_17 : decode cX6_tiesOf 17 = .ok (.l2i, 1) := by decide +kernel
theorem dX6_tiesOf_18 : decode cX6_tiesOf 18 = .ok (.bipush 63, 2) := by decide +kernel
theorem dX6_tiesOf_20 : decode cX6_tiesOf 20 = .ok (.iand, 1) := by decide +kernel
theorem dX6_tiesOf_21 : decode cX6_tiesOf 21 = .ok (.goto 4, 3) := by decide +kernel
theorem dX6_tiesOf_24 : decode cX6_tiesOf 24 = .ok (.iconst (-1), 1) := by decide +kernel
theorem dX6_tiesOf_25 : decode cX6_tiesOf 25 = .ok (.ireturn, 1) := by decide +kernel
theorem dX6_priceOf_0 : decode cX6_priceOf 0 = .ok (.aload_n 0, 1) := by decide +kernel
theorem dX6_priceOf_1 : decode cX6_priceOf 1 = .ok (.iload_n 1, 1) := by decide +kernel
theorem dX6_priceOf_2 : decode cX6_priceOf 2 = .ok (.invokevirtual 164, 3) := by decide +kernel
theorem dX6_priceOf_5 : decode cX6_priceOf 5 = .ok (.ifCond .eq 16, 3) := by decide +kernel
theorem dX6_priceOf_8 : decode cX6_priceOf 8 = .ok (.aload_n 0, 1) := by decide +kernel
theorem dX6_priceOf_9 : decode cX6_priceOf 9 = .ok (.getfield 39, 3) := by decide +kernel
theorem dX6_priceOf_12 : decode cX6_priceOf 12 = .ok (.iload_n 1, 1) := by decide +kernel
theorem dX6_priceOf_13 : decode cX6_priceOf 13 = .ok (.laload, 1) := by decide +kernel
theorem dX6_priceOf_14 : decode cX6_priceOf 14 = .ok (.bipush 36, 2) := by decide +kernel
theorem dX6_priceOf_16 : decode cX6_priceOf 16 = .ok (.lshr, 1) := by decide +kernel
theorem dX6_priceOf_17 : decode cX6_priceOf 17 = .ok (.l2i, 1) := by decide +kernel
theorem dX6_priceOf_18 : decode cX6_priceOf 18 = .ok (.goto 4, 3) := by decide +kernel
theorem dX6_priceOf_21 : decode cX6_priceOf 21 = .ok (.iconst (-1), 1) := by decide +kernel
theorem dX6_priceOf_22 : decode cX6_priceOf 22 = .ok (.ireturn, 1) := by decide +kernel
theorem dX6_placeOf_0 : decode cX6_placeOf 0 = .ok (.iconst 0, 1) := by decide +kernel
theorem dX6_placeOf_1 : decode cX6_placeOf 1 = .ok (.istore_n 2, 1) := by decide +kernel
theorem dX6_placeOf_2 : decode cX6_placeOf 2 = .ok (.iload_n 2, 1) := by decide +kernel
theorem dX6_placeOf_3 : decode cX6_placeOf 3 = .ok (.aload_n 0, 1) := by decide +kernel
theorem dX6_placeOf_4 : decode cX6_placeOf 4 = .ok (.getfield 60, 3) := by decide +kernel
theorem dX6_placeOf_7 : decode cX6_placeOf 7 = .ok (.if_icmp .ge 20, 3) := by decide +kernel
theorem dX6_placeOf_10 : decode cX6_placeOf 10 = .ok (.aload_n 0, 1) := by decide +kernel
theorem dX6_placeOf_11 : decode cX6_placeOf 11 = .ok (.iload_n 2, 1) := by decide +kernel
theorem dX6_placeOf_12 : decode cX6_placeOf 12 = .ok (.invokevirtual 167, 3) := by decide +kernel
theorem dX6_placeOf_15 : decode cX6_placeOf 15 = .ok (.iload_n 1, 1) := by decide +kernel
theorem dX6_placeOf_16 : decode cX6_placeOf 16 = .ok (.if_icmp .ne 5, 3) := by decide +kernel
theorem dX6_placeOf_19 : decode cX6_placeOf 19 = .ok (.iload_n 2, 1) := by decide +kernel
theorem dX6_placeOf_20 : decode cX6_placeOf 20 = .ok (.ireturn, 1) := by decide +kernel
theorem dX6_placeOf_21 : decode cX6_placeOf 21 = .ok (.iinc 2 1, 3) := by decide +kernel
theorem dX6_placeOf_24 : decode cX6_placeOf 24 = .ok (.goto (-22), 3) := by decide +kernel
theorem dX6_placeOf_27 : decode cX6_placeOf 27 = .ok (.iconst (-1), 1) := by decide +kernel
theorem dX6_placeOf_28 : decode cX6_placeOf 28 = .ok (.ireturn, 1) := by decide +kernel
theorem dX6_rowsOfAll_0 : decode cX6_rowsOfAll 0 = .ok (.iconst 0, 1) := by decide +kernel
theorem dX6_rowsOfAll_1 : decode cX6_rowsOfAll 1 = .ok (.istore_n 1, 1) := by decide +kernel
theorem dX6_rowsOfAll_2 : decode cX6_rowsOfAll 2 = .ok (.iconst 0, 1) := by decide +kernel
theorem dX6_rowsOfAll_3 : decode cX6_rowsOfAll 3 = .ok (.istore_n 2, 1) := by decide +kernel
theorem dX6_rowsOfAll_4 : decode cX6_rowsOfAll 4 = .ok (.iload_n 2, 1) := by decide +kernel
theorem dX6_rowsOfAll_5 : decode cX6_rowsOfAll 5 = .ok (.aload_n 0, 1) := by decide +kernel
theorem dX6_rowsOfAll_6 : decode cX6_rowsOfAll 6 = .ok (.getfield 60, 3) := by decide +kernel
theorem dX6_rowsOfAll_9 : decode cX6_rowsOfAll 9 = .ok (.if_icmp .ge 17, 3) := by decide +kernel
theorem dX6_rowsOfAll_12 : decode cX6_rowsOfAll 12 = .ok (.iload_n 1, 1) := by decide +kernel
theorem dX6_rowsOfAll_13 : decode cX6_rowsOfAll 13 = .ok (.aload_n 0, 1) := by decide +kernel
theorem dX6_rowsOfAll_14 : decode cX6_rowsOfAll 14 = .ok (.iload_n 2, 1) := by decide +kernel
theorem dX6_rowsOfAll_15 : decode cX6_rowsOfAll 15 = .ok (.invokevirtual 167, 3) := by decide +kernel
theorem dX6_rowsOfAll_18 : decode cX6_rowsOfAll 18 = .ok (.ior, 1) := by decide +kernel
theorem dX6_rowsOfAll_19 : decode cX6_rowsOfAll 19 = .ok (.istore_n 1, 1) := by decide +kernel
theorem dX6_rowsOfAll_20 : decode cX6_rowsOfAll 20 = .ok (.iinc 2 1, 3) := by decide +kernel
theorem dX6_rowsOfAll_23 : decode cX6_rowsOfAll 23 = .ok (.goto (-19), 3) := by decide +kernel
theorem dX6_rowsOfAll_26 : decode cX6_rowsOfAll 26 = .ok (.iload_n 1, 1) := by decide +kernel
theorem dX6_rowsOfAll_27 : decode cX6_rowsOfAll 27 = .ok (.ireturn, 1) := by decide +kernel
theorem dX6_greaterPart_0 : decode cX6_greaterPart 0 = .ok (.iconst 0, 1) := by decide +kernel
theorem dX6_greaterPart_1 : decode cX6_greaterPart 1 = .ok (.istore_n 2, 1) := by decide +kernel
theorem dX6_greaterPart_2 : decode cX6_greaterPart 2 = .ok (.iconst 0, 1) := by decide +kernel
theorem dX6_greaterPart_3 : decode cX6_greaterPart 3 = .ok (.istore_n 3, 1) := by decide +kernel
theorem dX6_greaterPart_4 : decode cX6_greaterPart 4 = .ok (.iload_n 3, 1) := by decide +kernel
theorem dX6_greaterPart_5 : decode cX6_greaterPart 5 = .ok (.aload_n 0, 1) := by decide +kernel
theorem dX6_greaterPart_6 : decode cX6_greaterPart 6 = .ok (.getfield 60, 3) := by decide +kernel
theorem dX6_greaterPart_9 : decode cX6_greaterPart 9 = .ok (.if_icmp .ge 27, 3) := by decide +kernel
theorem dX6_greaterPart_12 : decode cX6_greaterPart 12 = .ok (.iload_n 2, 1) := by decide +kernel
theorem dX6_greaterPart_13 : decode cX6_greaterPart 13 = .ok (.aload_n 0, 1) := by decide +kernel
theorem dX6_greaterPart_14 : decode cX6_greaterPart 14 = .ok (.iload_n 3, 1) := by decide +kernel
theorem dX6_greaterPart_15 : decode cX6_greaterPart 15 = .ok (.invokevirtual 167, 3) := by decide +kernel
theorem dX6_greaterPart_18 : decode cX6_greaterPart 18 = .ok (.iload_n 1, 1) := by decide +kernel
theorem dX6_greaterPart_19 : decode cX6_greaterPart 19 = .ok (.iand, 1) := by decide +kernel
theorem dX6_greaterPart_20 : decode cX6_greaterPart 20 = .ok (.ifCond .eq 7, 3) := by decide +kernel
theorem dX6_greaterPart_23 : decode cX6_greaterPart 23 = .ok (.iconst 1, 1) := by decide +kernel
theorem dX6_greaterPart_24 : decode cX6_greaterPart 24 = .ok (.goto 4, 3) := by decide +kernel
theorem dX6_greaterPart_27 : decode cX6_greaterPart 27 = .ok (.iconst 0, 1) := by decide +kernel
theorem dX6_greaterPart_28 : decode cX6_greaterPart 28 = .ok (.iadd, 1) := by decide +kernel
theorem dX6_greaterPart_29 : decode cX6_greaterPart 29 = .ok (.istore_n 2, 1) := by decide +kernel
theorem dX6_greaterPart_30 : decode cX6_greaterPart 30 = .ok (.iinc 3 1, 3) := by decide +kernel
theorem dX6_greaterPart_33 : decode cX6_greaterPart 33 = .ok (.goto (-29), 3) := by decide +kernel
theorem dX6_greaterPart_36 : decode cX6_greaterPart 36 = .ok (.iload_n 2, 1) := by decide +kernel
theorem dX6_greaterPart_37 : decode cX6_greaterPart 37 = .ok (.aload_n 0, 1) := by decide +kernel
theorem dX6_greaterPart_38 : decode cX6_greaterPart 38 = .ok (.getfield 60, 3) := by decide +kernel
theorem dX6_greaterPart_41 : decode cX6_greaterPart 41 = .ok (.iload_n 2, 1) := by decide +kernel
theorem dX6_greaterPart_42 : decode cX6_greaterPart 42 = .ok (.isub, 1) := by decide +kernel
theorem dX6_greaterPart_43 : decode cX6_greaterPart 43 = .ok (.invokestatic 151, 3) := by decide +kernel
theorem dX6_greaterPart_46 : decode cX6_greaterPart 46 = .ok (.ireturn, 1) := by decide +kernel
theorem dX6_leastBehind_0 : decode cX6_leastBehind 0 = .ok (.iconst (-1), 1) := by decide +kernel
theorem dX6_leastBehind_1 : decode cX6_leastBehind 1 = .ok (.istore_n 2, 1) := by decide +kernel
theorem dX6_leastBehind_2 : decode cX6_leastBehind 2 = .ok (.iconst 0, 1) := by decide +kernel
theorem dX6_leastBehind_3 : decode cX6_leastBehind 3 = .ok (.istore_n 3, 1) := by decide +kernel
theorem dX6_leastBehind_4 : decode cX6_leastBehind 4 = .ok (.iload_n 3, 1) := by decide +kernel
theorem dX6_leastBehind_5 : decode cX6_leastBehind 5 = .ok (.aload_n 0, 1) := by decide +kernel
theorem dX6_leastBehind_6 : decode cX6_leastBehind 6 = .ok (.getfield 63, 3) := by decide +kernel
theorem dX6_leastBehind_9 : decode cX6_leastBehind 9 = .ok (.if_icmp .ge 26, 3) := by decide +kernel
theorem dX6_leastBehind_12 : decode cX6_leastBehind 12 = .ok (.aload_n 0, 1) := by decide +kernel
theorem dX6_leastBehind_13 : decode cX6_leastBehind 13 = .ok (.getfield 29, 3) := by decide +kernel
theorem dX6_leastBehind_16 : decode cX6_leastBehind 16 = .ok (.iload_n 3, 1) := by decide +kernel
theorem dX6_leastBehind_17 : decode cX6_leastBehind 17 = .ok (.iaload, 1) := by decide +kernel
theorem dX6_leastBehind_18 : decode cX6_leastBehind 18 = .ok (.iload_n 1, 1) := by decide +kernel
theorem dX6_leastBehind_19 : decode cX6_leastBehind 19 = .ok (.if_icmp .gt 16, 3) := by decide +kernel
theorem dX6_leastBehind_22 : decode cX6_leastBehind 22 = .ok (.aload_n 0, 1) := by decide +kernel
theorem dX6_leastBehind_23 : decode cX6_leastBehind 23 = .ok (.getfield 32, 3) := by decide +kernel
theorem dX6_leastBehind_26 : decode cX6_leastBehind 26 = .ok (.iload_n 3, 1) := by decide +kernel
theorem dX6_leastBehind_27 : decode cX6_leastBehind 27 = .ok (.iaload, 1) := by decide +kernel
theorem dX6_leastBehind_28 : decode cX6_leastBehind 28 = .ok (.istore_n 2, 1) := by decide +kernel
theorem dX6_leastBehind_29 : decode cX6_leastBehind 29 = .ok (.iinc 3 1, 3) := by decide +kernel
theorem dX6_leastBehind_32 : decode cX6_leastBehind 32 = .ok (.goto (-28), 3) := by decide +kernel
theorem dX6_leastBehind_35 : decode cX6_leastBehind 35 = .ok (.iload_n 2, 1) := by decide +kernel
theorem dX6_leastBehind_36 : decode cX6_leastBehind 36 = .ok (.ireturn, 1) := by decide +kernel
theorem dX6_boundBehind_0 : decode cX6_boundBehind 0 = .ok (.iload_n 1, 1) := by decide +kernel
theorem dX6_boundBehind_1 : decode cX6_boundBehind 1 = .ok (.aload_n 0, 1) := by decide +kernel
theorem dX6_boundBehind_2 : decode cX6_boundBehind 2 = .ok (.getfield 57, 3) := by decide +kernel
theorem dX6_boundBehind_5 : decode cX6_boundBehind 5 = .ok (.if_icmp .lt 5, 3) := by decide +kernel
theorem dX6_boundBehind_8 : decode cX6_boundBehind 8 = .ok (.iconst (-1), 1) := by decide +kernel
theorem dX6_boundBehind_9 : decode cX6_boundBehind 9 = .ok (.ireturn, 1) := by decide +kernel
theorem dX6_boundBehind_10 : decode cX6_boundBehind 10 = .ok (.iconst 1, 1) := by decide +kernel
theorem dX6_boundBehind_11 : decode cX6_boundBehind 11 = .ok (.istore_n 2, 1) := by decide +kernel
theorem dX6_boundBehind_12 : decode cX6_boundBehind 12 = .ok (.iload_n 2, 1) := by decide +kernel
theorem dX6_boundBehind_13 : decode cX6_boundBehind 13 = .ok (.iconst 5, 1) := by decide +kernel
theorem dX6_boundBehind_14 : decode cX6_boundBehind 14 = .ok (.if_icmp .ge 19, 3) := by decide +kernel
theorem dX6_boundBehind_17 : decode cX6_boundBehind 17 = .ok (.aload_n 0, 1) := by decide +kernel
theorem dX6_boundBehind_18 : decode cX6_boundBehind 18 = .ok (.getfield 23, 3) := by decide +kernel
theorem dX6_boundBehind_21 : decode cX6_boundBehind 21 = .ok (.iload_n 2, 1) := by decide +kernel
theorem dX6_boundBehind_22 : decode cX6_boundBehind 22 = .ok (.iaload, 1) := by decide +kernel
theorem dX6_boundBehind_23 : decode cX6_boundBehind 23 = .ok (.iload_n 1, 1) := by decide +kernel
theorem dX6_boundBehind_24 : decode cX6_boundBehind 24 = .ok (.if_icmp .gt 9, 3) := by decide +kernel
theorem dX6_boundBehind_27 : decode cX6_boundBehind 27 = .ok (.iinc 2 1, 3) := by decide +kernel
theorem dX6_boundBehind_30 : decode cX6_boundBehind 30 = .ok (.goto (-18), 3) := by decide +kernel
theorem dX6_boundBehind_33 : decode cX6_boundBehind 33 = .ok (.iload_n 2, 1) := by decide +kernel
theorem dX6_boundBehind_34 : decode cX6_boundBehind 34 = .ok (.iconst 1, 1) := by decide +kernel
theorem dX6_boundBehind_35 : decode cX6_boundBehind 35 = .ok (.if_icmp .le 15, 3) := by decide +kernel
theorem dX6_boundBehind_38 : decode cX6_boundBehind 38 = .ok (.aload_n 0, 1) := by decide +kernel
theorem dX6_boundBehind_39 : decode cX6_boundBehind 39 = .ok (.getfield 42, 3) := by decide +kernel
theorem dX6_boundBehind_42 : decode cX6_boundBehind 42 = .ok (.getfield 170, 3) := by decide +kernel
theorem dX6_boundBehind_45 : decode cX6_boundBehind 45 = .ok (.ifCond .ne 5, 3) := by decide +kernel
theorem dX6_boundBehind_48 : decode cX6_boundBehind 48 = .ok (.iconst (-1), 1) := by decide +kernel
theorem dX6_boundBehind_49 : decode cX6_boundBehind 49 = .ok (.ireturn, 1) := by decide +kernel
theorem dX6_boundBehind_50 : decode cX6_boundBehind 50 = .ok (.iload_n 2, 1) := by decide +kernel
theorem dX6_boundBehind_51 : decode cX6_boundBehind 51 = .ok (.iconst 1, 1) := by decide +kernel
theorem dX6_boundBehind_52 : decode cX6_boundBehind 52 = .ok (.isub, 1) := by decide +kernel
theorem dX6_boundBehind_53 : decode cX6_boundBehind 53 = .ok (.aload_n 0, 1) := by decide +kernel
theorem dX6_boundBehind_54 : decode cX6_boundBehind 54 = .ok (.getfield 42, 3) := by decide +kernel
theorem dX6_boundBehind_57 : decode cX6_boundBehind 57 = .ok (.getfield 170, 3) := by decide +kernel
theorem dX6_boundBehind_60 : decode cX6_boundBehind 60 = .ok (.imul, 1) := by decide +kernel
theorem dX6_boundBehind_61 : decode cX6_boundBehind 61 = .ok (.istore_n 3, 1) := by decide +kernel
theorem dX6_boundBehind_62 : decode cX6_boundBehind 62 = .ok (.iconst 0, 1) := by decide +kernel
theorem dX6_boundBehind_63 : decode cX6_boundBehind 63 = .ok (.istore 4, 2) := by decide +kernel
theorem dX6_boundBehind_65 : decode cX6_boundBehind 65 = .ok (.iload 4, 2) := by decide +kernel
theorem dX6_boundBehind_67 : decode cX6_boundBehind 67 = .ok (.aload_n 0, 1) := by decide +kernel
theorem dX6_boundBehind_68 : decode cX6_boundBehind 68 = .ok (.getfield 50, 3) := by decide +kernel
theorem dX6_boundBehind_71 : decode cX6_boundBehind 71 = .ok (.if_icmp .ge 38, 3) := by decide +kernel
theorem dX6_boundBehind_74 : decode cX6_boundBehind 74 = .ok (.aload_n 0, 1) := by decide +kernel
theorem dX6_boundBehind_75 : decode cX6_boundBehind 75 = .ok (.getfield 46, 3) := by decide +kernel
theorem dX6_boundBehind_78 : decode cX6_boundBehind 78 = .ok (.getfield 173, 3) := by decide +kernel
theorem dX6_boundBehind_81 : decode cX6_boundBehind 81 = .ok (.iload 4, 2) := by decide +kernel
theorem dX6_boundBehind_83 : decode cX6_boundBehind 83 = .ok (.iaload, 1) := by decide +kernel
theorem dX6_boundBehind_84 : decode cX6_boundBehind 84 = .ok (.iconst (-1), 1) := by decide +kernel
theorem dX6_boundBehind_85 : decode cX6_boundBehind 85 = .ok (.if_icmp .ne 5, 3) := by decide +kernel
theorem dX6_boundBehind_88 : decode cX6_boundBehind 88 = .ok (.iconst (-1), 1) := by decide +kernel
theorem dX6_boundBehind_89 : decode cX6_boundBehind 89 = .ok (.ireturn, 1) := by decide +kernel
theorem dX6_boundBehind_90 : decode cX6_boundBehind 90 = .ok (.iload_n 3, 1) := by decide +kernel
theorem dX6_boundBehind_91 : decode cX6_boundBehind 91 = .ok (.aload_n 0, 1) := by decide +kernel
theorem dX6_boundBehind_92 : decode cX6_boundBehind 92 = .ok (.getfield 46, 3) := by decide +kernel
theorem dX6_boundBehind_95 : decode cX6_boundBehind 95 = .ok (.getfield 173, 3) := by decide +kernel
theorem dX6_boundBehind_98 : decode cX6_boundBehind 98 = .ok (.iload 4, 2) := by decide +kernel
theorem dX6_boundBehind_100 : decode cX6_boundBehind 100 = .ok (.iaload, 1) := by decide +kernel
theorem dX6_boundBehind_101 : decode cX6_boundBehind 101 = .ok (.iadd, 1) := by decide +kernel
theorem dX6_boundBehind_102 : decode cX6_boundBehind 102 = .ok (.istore_n 3, 1) := by decide +kernel
theorem dX6_boundBehind_103 : decode cX6_boundBehind 103 = .ok (.iinc 4 1, 3) := by decide +kernel
theorem dX6_boundBehind_106 : decode cX6_boundBehind 106 = .ok (.goto (-41), 3) := by decide +kernel
theorem dX6_boundBehind_109 : decode cX6_boundBehind 109 = .ok (.iload_n 3, 1) := by decide +kernel
theorem dX6_boundBehind_110 : decode cX6_boundBehind 110 = .ok (.ireturn, 1) := by decide +kernel
theorem dX6_leftOut_0 : decode cX6_leftOut 0 = .ok (.aload_n 0, 1) := by decide +kernel
theorem dX6_leftOut_1 : decode cX6_leftOut 1 = .ok (.getfield 60, 3) := by decide +kernel
theorem dX6_leftOut_4 : decode cX6_leftOut 4 = .ok (.ifCond .le 5, 3) := by decide +kernel
theorem dX6_leftOut_7 : decode cX6_leftOut 7 = .ok (.iconst (-1), 1) := by decide +kernel
theorem dX6_leftOut_8 : decode cX6_leftOut 8 = .ok (.ireturn, 1) := by decide +kernel
theorem dX6_leftOut_9 : decode cX6_leftOut 9 = .ok (.iconst 1, 1) := by decide +kernel
theorem dX6_leftOut_10 : decode cX6_leftOut 10 = .ok (.istore_n 1, 1) := by decide +kernel
theorem dX6_leftOut_11 : decode cX6_leftOut 11 = .ok (.iload_n 1, 1) := by decide +kernel
theorem dX6_leftOut_12 : decode cX6_leftOut 12 = .ok (.aload_n 0, 1) := by decide +kernel
theorem dX6_leftOut_13 : decode cX6_leftOut 13 = .ok (.getfield 50, 3) := by decide +kernel
theorem dX6_leftOut_16 : decode cX6_leftOut 16 = .ok (.if_icmp .ge 50, 3) := by decide +kernel
theorem dX6_leftOut_19 : decode cX6_leftOut 19 = .ok (.iconst 1, 1) := by decide +kernel
theorem dX6_leftOut_20 : decode cX6_leftOut 20 = .ok (.istore_n 2, 1) := by decide +kernel
theorem dX6_leftOut_21 : decode cX6_leftOut 21 = .ok (.iload_n 2, 1) := by decide +kernel
theorem dX6_leftOut_22 : decode cX6_leftOut 22 = .ok (.aload_n 0, 1) := by decide +kernel
theorem dX6_leftOut_23 : decode cX6_leftOut 23 = .ok (.getfield 54, 3) := by decide +kernel
theorem dX6_leftOut_26 : decode cX6_leftOut 26 = .ok (.if_icmp .ge 34, 3) := by decide +kernel
theorem dX6_leftOut_29 : decode cX6_leftOut 29 = .ok (.iload_n 2, 1) := by decide +kernel
theorem dX6_leftOut_30 : decode cX6_leftOut 30 = .ok (.invokestatic 86, 3) := by decide +kernel
theorem dX6_leftOut_33 : decode cX6_leftOut 33 = .ok (.iload_n 1, 1) := by decide +kernel
theorem dX6_leftOut_34 : decode cX6_leftOut 34 = .ok (.if_icmp .ne 20, 3) := by decide +kernel
theorem dX6_leftOut_37 : decode cX6_leftOut 37 = .ok (.aload_n 0, 1) := by decide +kernel
theorem dX6_leftOut_38 : decode cX6_leftOut 38 = .ok (.aload_n 0, 1) := by decide +kernel
theorem dX6_leftOut_39 : decode cX6_leftOut 39 = .ok (.getfield 54, 3) := by decide +kernel
theorem dX6_leftOut_42 : decode cX6_leftOut 42 = .ok (.iload_n 2, 1) := by decide +kernel
theorem dX6_leftOut_43 : decode cX6_leftOut 43 = .ok (.iconst (-1), 1) := by decide +kernel
theorem dX6_leftOut_44 : decode cX6_leftOut 44 = .ok (.ixor, 1) := by decide +kernel
theorem dX6_leftOut_45 : decode cX6_leftOut 45 = .ok (.iand, 1) := by decide +kernel
theorem dX6_leftOut_46 : decode cX6_leftOut 46 = .ok (.invokevirtual 175, 3) := by decide +kernel
theorem dX6_leftOut_49 : decode cX6_leftOut 49 = .ok (.ifCond .eq 5, 3) := by decide +kernel
theorem dX6_leftOut_52 : decode cX6_leftOut 52 = .ok (.iload_n 2, 1) := by decide +kernel
theorem dX6_leftOut_53 : decode cX6_leftOut 53 = .ok (.ireturn, 1) := by decide +kernel
theorem dX6_leftOut_54 : decode cX6_leftOut 54 = .ok (.iinc 2 1, 3) := by decide +kernel
theorem dX6_leftOut_57 : decode cX6_leftOut 57 = .ok (.goto (-36), 3) := by decide +kernel
theorem dX6_leftOut_60 : decode cX6_leftOut 60 = .ok (.iinc 1 1, 3) := by decide +kernel
theorem dX6_leftOut_63 : decode cX6_leftOut 63 = .ok (.goto (-52), 3) := by decide +kernel
theorem dX6_leftOut_66 : decode cX6_leftOut 66 = .ok (.iconst (-1), 1) := by decide +kernel
theorem dX6_leftOut_67 : decode cX6_leftOut 67 = .ok (.ireturn, 1) := by decide +kernel
theorem dX6_canBeHeld_0 : decode cX6_canBeHeld 0 = .ok (.iconst 0, 1) := by decide +kernel
theorem dX6_canBeHeld_1 : decode cX6_canBeHeld 1 = .ok (.istore_n 2, 1) := by decide +kernel
theorem dX6_canBeHeld_2 : decode cX6_canBeHeld 2 = .ok (.iload_n 2, 1) := by decide +kernel
theorem dX6_canBeHeld_3 : decode cX6_canBeHeld 3 = .ok (.aload_n 0, 1) := by decide +kernel
theorem dX6_canBeHeld_4 : decode cX6_canBeHeld 4 = .ok (.getfield 54, 3) := by decide +kernel
theorem dX6_canBeHeld_7 : decode cX6_canBeHeld 7 = .ok (.if_icmp .gt 29, 3) := by decide +kernel
theorem dX6_canBeHeld_10 : decode cX6_canBeHeld 10 = .ok (.aload_n 0, 1) := by decide +kernel
theorem dX6_canBeHeld_11 : decode cX6_canBeHeld 11 = .ok (.getfield 66, 3) := by decide +kernel
theorem dX6_canBeHeld_14 : decode cX6_canBeHeld 14 = .ok (.iload_n 2, 1) := by decide +kernel
theorem dX6_canBeHeld_15 : decode cX6_canBeHeld 15 = .ok (.ishr, 1) := by decide +kernel
theorem dX6_canBeHeld_16 : decode cX6_canBeHeld 16 = .ok (.iconst 1, 1) := by decide +kernel
theorem dX6_canBeHeld_17 : decode cX6_canBeHeld 17 = .ok (.iand, 1) := by decide +kernel
theorem dX6_canBeHeld_18 : decode cX6_canBeHeld 18 = .ok (.ifCond .eq 12, 3) := by decide +kernel
theorem dX6_canBeHeld_21 : decode cX6_canBeHeld 21 = .ok (.iload_n 2, 1) := by decide +kernel
theorem dX6_canBeHeld_22 : decode cX6_canBeHeld 22 = .ok (.iload_n 1, 1) := by decide +kernel
theorem dX6_canBeHeld_23 : decode cX6_canBeHeld 23 = .ok (.iand, 1) := by decide +kernel
theorem dX6_canBeHeld_24 : decode cX6_canBeHeld 24 = .ok (.iload_n 1, 1) := by decide +kernel
theorem dX6_canBeHeld_25 : decode cX6_canBeHeld 25 = .ok (.if_icmp .ne 5, 3) := by decide +kernel
theorem dX6_canBeHeld_28 : decode cX6_canBeHeld 28 = .ok (.iconst 1, 1) := by decide +kernel
theorem dX6_canBeHeld_29 : decode cX6_canBeHeld 29 = .ok (.ireturn, 1) := by decide +kernel
theorem dX6_canBeHeld_30 : decode cX6_canBeHeld 30 = .ok (.iinc 2 1, 3) := by decide +kernel
theorem dX6_canBeHeld_33 : decode cX6_canBeHeld 33 = .ok (.goto (-31), 3) := by decide +kernel
theorem dX6_canBeHeld_36 : decode cX6_canBeHeld 36 = .ok (.iconst 0, 1) := by decide +kernel
theorem dX6_canBeHeld_37 : decode cX6_canBeHeld 37 = .ok (.ireturn, 1) := by decide +kernel
