theorem dX7_init_0 : decode cX7_init 0 = .ok (.aload_n 0, 1) := by decide +kernel
theorem dX7_init_1 : decode cX7_init 1 = .ok (.invokespecial 1, 3) := by decide +kernel
theorem dX7_init_4 : decode cX7_init 4 = .ok (.aload_n 0, 1) := by decide +kernel
theorem dX7_init_5 : decode cX7_init 5 = .ok (.sipush 1000, 3) := by decide +kernel
theorem dX7_init_8 : decode cX7_init 8 = .ok (.newarray .byte, 2) := by decide +kernel
theorem dX7_init_10 : decode cX7_init 10 = .ok (.putfield 9, 3) := by decide +kernel
theorem dX7_init_13 : decode cX7_init 13 = .ok (.return_, 1) := by decide +kernel
theorem dX7_put_0 : decode cX7_put 0 = .ok (.iload_n 1, 1) := by decide +kernel
theorem dX7_put_1 : decode cX7_put 1 = .ok (.bipush 10, 2) := by decide +kernel
theorem dX7_put_3 : decode cX7_put 3 = .ok (.if_icmp .eq 15, 3) := by decide +kernel
theorem dX7_put_6 : decode cX7_put 6 = .ok (.iload_n 1, 1) := by decide +kernel
theorem dX7_put_7 : decode cX7_put 7 = .ok (.bipush 32, 2) := by decide +kernel
theorem dX7_put_9 : decode cX7_put 9 = .ok (.if_icmp .lt 13, 3) := by decide +kernel
theorem dX7_put_12 : decode cX7_put 12 = .ok (.iload_n 1, 1) := by decide +kernel
theorem dX7_put_13 : decode cX7_put 13 = .ok (.bipush 126, 2) := by decide +kernel
theorem dX7_put_15 : decode cX7_put 15 = .ok (.if_icmp .gt 7, 3) := by decide +kernel
theorem dX7_put_18 : decode cX7_put 18 = .ok (.iconst 1, 1) := by decide +kernel
theorem dX7_put_19 : decode cX7_put 19 = .ok (.goto 4, 3) := by decide +kernel
theorem dX7_put_22 : decode cX7_put 22 = .ok (.iconst 0, 1) := by decide +kernel
theorem dX7_put_23 : decode cX7_put 23 = .ok (.istore_n 2, 1) := by decide +kernel
theorem dX7_put_24 : decode cX7_put 24 = .ok (.iload_n 2, 1) := by decide +kernel
theorem dX7_put_25 : decode cX7_put 25 = .ok (.ifCond .eq 31, 3) := by decide +kernel
theorem dX7_put_28 : decode cX7_put 28 = .ok (.aload_n 0, 1) := by decide +kernel
theorem dX7_put_29 : decode cX7_put 29 = .ok (.getfield 13, 3) := by decide +kernel
theorem dX7_put_32 : decode cX7_put 32 = .ok (.sipush 1000, 3) := by decide +kernel
theorem dX7_put_35 : decode cX7_put 35 = .ok (.if_icmp .ge 21, 3) := by decide +kernel
theorem dX7_put_38 : decode cX7_put 38 = .ok (.aload_n 0, 1) := by decide +kernel
theorem dX7_put_39 : decode cX7_put 39 = .ok (.getfield 9, 3) := by decide +kernel
theorem dX7_put_42 : decode cX7_put 42 = .ok (.aload_n 0, 1) := by decide +kernel
theorem dX7_put_43 : decode cX7_put 43 = .ok (.dup, 1) := by decide +kernel
theorem dX7_put_44 : decode cX7_put 44 = .ok (.getfield 13, 3) := by decide +kernel
theorem dX7_put_47 : decode cX7_put 47 = .ok (.dup_x1, 1) := by decide +kernel
theorem dX7_put_48 : decode cX7_put 48 = .ok (.iconst 1, 1) := by decide +kernel
theorem dX7_put_49 : decode cX7_put 49 = .ok (.iadd, 1) := by decide +kernel
theorem dX7_put_50 : decode cX7_put 50 = .ok (.putfield 13, 3) := by decide +kernel
theorem dX7_put_53 : decode cX7_put 53 = .ok (.iload_n 1, 1) := by decide +kernel
theorem dX7_put_54 : decode cX7_put 54 = .ok (.i2b, 1) := by decide +kernel
theorem dX7_put_55 : decode cX7_put 55 = .ok (.bastore, 1) := by decide +kernel
theorem dX7_put_56 : decode cX7_put 56 = .ok (.return_, 1) := by decide +kernel
theorem dX7_empty_0 : decode cX7_empty 0 = .ok (.aload_n 0, 1) := by decide +kernel
theorem dX7_empty_1 : decode cX7_empty 1 = .ok (.iconst 0, 1) := by decide +kernel
theorem dX7_empty_2 : decode cX7_empty 2 = .ok (.putfield 13, 3) := by decide +kernel
theorem dX7_empty_5 : decode cX7_empty 5 = .ok (.return_, 1) := by decide +kernel
theorem dX7_rewind_0 : decode cX7_rewind 0 = .ok (.aload_n 0, 1) := by decide +kernel
theorem dX7_rewind_1 : decode cX7_rewind 1 = .ok (.iconst 0, 1) := by decide +kernel
theorem dX7_rewind_2 : decode cX7_rewind 2 = .ok (.putfield 17, 3) := by decide +kernel
theorem dX7_rewind_5 : decode cX7_rewind 5 = .ok (.aload_n 0, 1) := by decide +kernel
theorem dX7_rewind_6 : decode cX7_rewind 6 = .ok (.invokevirtual 20, 3) := by decide +kernel
theorem dX7_rewind_9 : decode cX7_rewind 9 = .ok (.return_, 1) := by decide +kernel
theorem dX7_advance_0 : decode cX7_advance 0 = .ok (.aload_n 0, 1) := by decide +kernel
theorem dX7_advance_1 : decode cX7_advance 1 = .ok (.getfield 17, 3) := by decide +kernel
theorem dX7_advance_4 : decode cX7_advance 4 = .ok (.aload_n 0, 1) := by decide +kernel
theorem dX7_advance_5 : decode cX7_advance 5 = .ok (.getfield 13, 3) := by decide +kernel
theorem dX7_advance_8 : decode cX7_advance 8 = .ok (.if_icmp .ge 44, 3) := by decide +kernel
theorem dX7_advance_11 : decode cX7_advance 11 = .ok (.aload_n 0, 1) := by decide +kernel
theorem dX7_advance_12 : decode cX7_advance 12 = .ok (.getfield 9, 3) := by decide +kernel
theorem dX7_advance_15 : decode cX7_advance 15 = .ok (.aload_n 0, 1) := by decide +kernel
theorem dX7_advance_16 : decode cX7_advance 16 = .ok (.getfield 17, 3) := by decide +kernel
theorem dX7_advance_19 : decode cX7_advance 19 = .ok (.baload, 1) := by decide +kernel
theorem dX7_advance_20 : decode cX7_advance 20 = .ok (.bipush 32, 2) := by decide +kernel
theorem dX7_advance_22 : decode cX7_advance 22 = .ok (.if_icmp .eq 17, 3) := by decide +kernel
theorem dX7_advance_25 : decode cX7_advance 25 = .ok (.aload_n 0, 1) := by decide +kernel
theorem dX7_advance_26 : decode cX7_advance 26 = .ok (.getfield 9, 3) := by decide +kernel
theorem dX7_advance_29 : decode cX7_advance 29 = .ok (.aload_n 0, 1) := by decide +kernel
theorem dX7_advance_30 : decode cX7_advance 30 = .ok (.getfield 17, 3) := by decide +kernel
theorem dX7_advance_33 : decode cX7_advance 33 = .ok (.baload, 1) := by decide +kernel
theorem dX7_advance_34 : decode cX7_advance 34 = .ok (.bipush 10, 2) := by decide +kernel
theorem dX7_advance_36 : decode cX7_advance 36 = .ok (.if_icmp .ne 16, 3) := by decide +kernel
theorem dX7_advance_39 : decode cX7_advance 39 = .ok (.aload_n 0, 1) := by decide +kernel
theorem dX7_advance_40 : decode cX7_advance 40 = .ok (.dup, 1) := by decide +kernel
theorem dX7_advance_41 : decode cX7_advance 41 = .ok (.getfield 17, 3) := by decide +kernel
theorem dX7_advance_44 : decode cX7_advance 44 = .ok (.iconst 1, 1) := by decide +kernel
theorem dX7_advance_45 : decode cX7_advance 45 = .ok (.iadd, 1) := by decide +kernel
theorem dX7_advance_46 : decode cX7_advance 46 = .ok (.putfield 17, 3) := by decide +kernel
theorem dX7_advance_49 : decode cX7_advance 49 = .ok (.goto (-49), 3) := by decide +kernel
theorem dX7_advance_52 : decode cX7_advance 52 = .ok (.aload_n 0, 1) := by decide +kernel
theorem dX7_advance_53 : decode cX7_advance 53 = .ok (.aload_n 0, 1) := by decide +kernel
theorem dX7_advance_54 : decode cX7_advance 54 = .ok (.getfield 17, 3) := by decide +kernel
theorem dX7_advance_57 : decode cX7_advance 57 = .ok (.putfield 23, 3) := by decide +kernel
theorem dX7_advance_60 : decode cX7_advance 60 = .ok (.aload_n 0, 1) := by decide +kernel
theorem dX7_advance_61 : decode cX7_advance 61 = .ok (.lconst 0, 1) := by decide +kernel
theorem dX7_advance_62 : decode cX7_advance 62 = .ok (.putfield 26, 3) := by decide +kernel
theorem dX7_advance_65 : decode cX7_advance 65 = .ok (.aload_n 0, 1) := by decide +kernel
theorem dX7_advance_66 : decode cX7_advance 66 = .ok (.getfield 17, 3) := by decide +kernel
theorem dX7_advance_69 : decode cX7_advance 69 = .ok (.aload_n 0, 1) := by decide +kernel
theorem dX7_advance_70 : decode cX7_advance 70 = .ok (.getfield 13, 3) := by decide +kernel
theorem dX7_advance_73 : decode cX7_advance 73 = .ok (.if_icmp .lt 11, 3) := by decide +kernel
theorem dX7_advance_76 : decode cX7_advance 76 = .ok (.aload_n 0, 1) := by decide +kernel
theorem dX7_advance_77 : decode cX7_advance 77 = .ok (.iconst 0, 1) := by decide +kernel
theorem dX7_advance_78 : decode cX7_advance 78 = .ok (.putfield 30, 3) := by decide +kernel
theorem dX7_advance_81 : decode cX7_advance 81 = .ok (.goto 51, 3) := by decide +kernel
theorem dX7_advance_84 : decode cX7_advance 84 = .ok (.aload_n 0, 1) := by decide +kernel
theorem dX7_advance_85 : decode cX7_advance 85 = .ok (.getfield 9, 3) := by decide +kernel
theorem dX7_advance_88 : decode cX7_advance 88 = .ok (.aload_n 0, 1) := by decide +kernel
theorem dX7_advance_89 : decode cX7_advance 89 = .ok (.getfield 17, 3) := by decide +kernel
theorem dX7_advance_92 : decode cX7_advance 92 = .ok (.baload, 1) := by decide +kernel
theorem dX7_advance_93 : decode cX7_advance 93 = .ok (.invokestatic 33, 3) := by decide +kernel
theorem dX7_advance_96 : decode cX7_advance 96 = .ok (.ifCond .eq 10, 3) := by decide +kernel
theorem dX7_advance_99 : decode cX7_advance 99 = .ok (.aload_n 0, 1) := by decide +kernel
theorem dX7_advance_100 : decode cX7_advance 100 = .ok (.invokevirtual 37, 3) := by decide +kernel
theorem dX7_advance_103 : decode cX7_advance 103 = .ok (.goto 29, 3) := by decide +kernel
theorem dX7_advance_106 : decode cX7_advance 106 = .ok (.aload_n 0, 1) := by decide +kernel
theorem dX7_advance_107 : decode cX7_advance 107 = .ok (.getfield 9, 3) := by decide +kernel
theorem dX7_advance_110 : decode cX7_advance 110 = .ok (.aload_n 0, 1) := by decide +kernel
theorem dX7_advance_111 : decode cX7_advance 111 = .ok (.getfield 17, 3) := by decide +kernel
theorem dX7_advance_114 : decode cX7_advance 114 = .ok (.baload, 1) := by decide +kernel
theorem dX7_advance_115 : decode cX7_advance 115 = .ok (.invokestatic 40, 3) := by decide +kernel
theorem dX7_advance_118 : decode cX7_advance 118 = .ok (.ifCond .eq 10, 3) := by decide +kernel
theorem dX7_advance_121 : decode cX7_advance 121 = .ok (.aload_n 0, 1) := by decide +kernel
theorem dX7_advance_122 : decode cX7_advance 122 = .ok (.invokevirtual 43, 3) := by decide +kernel
theorem dX7_advance_125 : decode cX7_advance 125 = .ok (.goto 7, 3) := by decide +kernel
theorem dX7_advance_128 : decode cX7_advance 128 = .ok (.aload_n 0, 1) := by decide +kernel
theorem dX7_advance_129 : decode cX7_advance 129 = .ok (.invokevirtual 46, 3) := by decide +kernel
theorem dX7_advance_132 : decode cX7_advance 132 = .ok (.return_, 1) := by decide +kernel
theorem dX7_isWord_0 : decode cX7_isWord 0 = .ok (.aload_n 0, 1) := by decide +kernel
theorem dX7_isWord_1 : decode cX7_isWord 1 = .ok (.getfield 30, 3) := by decide +kernel
theorem dX7_isWord_4 : decode cX7_isWord 4 = .ok (.iconst 1, 1) := by decide +kernel
theorem dX7_isWord_5 : decode cX7_isWord 5 = .ok (.if_icmp .ne 16, 3) := by decide +kernel
theorem dX7_isWord_8 : decode cX7_isWord 8 = .ok (.aload_n 0, 1) := by decide +kernel
theorem dX7_isWord_9 : decode cX7_isWord 9 = .ok (.getfield 26, 3) := by decide +kernel
theorem dX7_isWord_12 : decode cX7_isWord 12 = .ok (.lload_n 1, 1) := by decide +kernel
theorem dX7_isWord_13 : decode cX7_isWord 13 = .ok (.lcmp, 1) := by decide +kernel
theorem dX7_isWord_14 : decode cX7_isWord 14 = .ok (.ifCond .ne 7, 3) := by decide +kernel
theorem dX7_isWord_17 : decode cX7_isWord 17 = .ok (.iconst 1, 1) := by decide +kernel
theorem dX7_isWord_18 : decode cX7_isWord 18 = .ok (.goto 4, 3) := by decide +kernel
theorem dX7_isWord_21 : decode cX7_isWord 21 = .ok (.iconst 0, 1) := by decide +kernel
theorem dX7_isWord_22 : decode cX7_isWord 22 = .ok (.ireturn, 1) := by decide +kernel
theorem dX7_isSign_0 : decode cX7_isSign 0 = .ok (.aload_n 0, 1) := by decide +kernel
theorem dX7_isSign_1 : decode cX7_isSign 1 = .ok (.getfield 30, 3) := by decide +kernel
theorem dX7_isSign_4 : decode cX7_isSign 4 = .ok (.iconst 3, 1) := by decide +kernel
theorem dX7_isSign_5 : decode cX7_isSign 5 = .ok (.if_icmp .ne 17, 3) := by decide +kernel
theorem dX7_isSign_8 : decode cX7_isSign 8 = .ok (.aload_n 0, 1) := by decide +kernel
theorem dX7_isSign_9 : decode cX7_isSign 9 = .ok (.getfield 26, 3) := by decide +kernel
theorem dX7_isSign_12 : decode cX7_isSign 12 = .ok (.iload_n 1, 1) := by decide +kernel
theorem dX7_isSign_13 : decode cX7_isSign 13 = .ok (.i2l, 1) := by decide +kernel
theorem dX7_isSign_14 : decode cX7_isSign 14 = .ok (.lcmp, 1) := by decide +kernel
theorem dX7_isSign_15 : decode cX7_isSign 15 = .ok (.ifCond .ne 7, 3) := by decide +kernel
theorem dX7_isSign_18 : decode cX7_isSign 18 = .ok (.iconst 1, 1) := by decide +kernel
theorem dX7_isSign_19 : decode cX7_isSign 19 = .ok (.goto 4, 3) := by decide +kernel
theorem dX7_isSign_22 : decode cX7_isSign 22 = .ok (.iconst 0, 1) := by decide +kernel
theorem dX7_isSign_23 : decode cX7_isSign 23 = .ok (.ireturn, 1) := by decide +kernel
theorem dX7_isName_0 : decode cX7_isName 0 = .ok (.aload_n 0, 1) := by decide +kernel
theorem dX7_isName_1 : decode cX7_isName 1 = .ok (.getfield 30, 3) := by decide +kernel
theorem dX7_isName_4 : decode cX7_isName 4 = .ok (.iconst 1, 1) := by decide +kernel
theorem dX7_isName_5 : decode cX7_isName 5 = .ok (.if_icmp .ne 17, 3) := by decide +kernel
theorem dX7_isName_8 : decode cX7_isName 8 = .ok (.aload_n 0, 1) := by decide +kernel
theorem dX7_isName_9 : decode cX7_isName 9 = .ok (.getfield 26, 3) := by decide +kernel
theorem dX7_isName_12 : decode cX7_isName 12 = .ok (.invokestatic 49, 3) := by decide +kernel
theorem dX7_isName_15 : decode cX7_isName 15 = .ok (.ifCond .ne 7, 3) := by decide +kernel
theorem dX7_isName_18 : decode cX7_isName 18 = .ok (.iconst 1, 1) := by decide +kernel
theorem dX7_isName_19 : decode cX7_isName 19 = .ok (.goto 4, 3) := by decide +kernel
theorem dX7_isName_22 : decode cX7_isName 22 = .ok (.iconst 0, 1) := by decide +kernel
theorem dX7_isName_23 : decode cX7_isName 23 = .ok (.ireturn, 1) := by decide +kernel
theorem dX7_takeWord_0 : decode cX7_takeWord 0 = .ok (.aload_n 0, 1) := by decide +kernel
theorem dX7_takeWord_1 : decode cX7_takeWord 1 = .ok (.getfield 17, 3) := by decide +kernel
theorem dX7_takeWord_4 : decode cX7_takeWord 4 = .ok (.aload_n 0, 1) := by decide +kernel
theorem dX7_takeWord_5 : decode cX7_takeWord 5 = .ok (.getfield 13, 3) := by decide +kernel
theorem dX7_takeWord_8 : decode cX7_takeWord 8 = .ok (.if_icmp .ge 60, 3) := by decide +kernel
theorem dX7_takeWord_11 : decode cX7_takeWord 11 = .ok (.aload_n 0, 1) := by decide +kernel
theorem dX7_takeWord_12 : decode cX7_takeWord 12 = .ok (.getfield 9, 3) := by decide +kernel
theorem dX7_takeWord_15 : decode cX7_takeWord 15 = .ok (.aload_n 0, 1) := by decide +kernel
theorem dX7_takeWord_16 : decode cX7_takeWord 16 = .ok (.getfield 17, 3) := by decide +kernel
theorem dX7_takeWord_19 : decode cX7_takeWord 19 = .ok (.baload, 1) := by decide +kernel
theorem dX7_takeWord_20 : decode cX7_takeWord 20 = .ok (.invokestatic 33, 3) := by decide +kernel
theorem dX7_takeWord_23 : decode cX7_takeWord 23 = .ok (.ifCond .eq 45, 3) := by decide +kernel
theorem dX7_takeWord_26 : decode cX7_takeWord 26 = .ok (.aload_n 0, 1) := by decide +kernel
theorem dX7_takeWord_27 : decode cX7_takeWord 27 = .ok (.aload_n 0, 1) := by decide +kernel
theorem dX7_takeWord_28 : decode cX7_takeWord 28 = .ok (.getfield 26, 3) := by decide +kernel
theorem dX7_takeWord_31 : decode cX7_takeWord 31 = .ok (.ldc2_w 55, 3) := by decide +kernel
theorem dX7_takeWord_34 : decode cX7_takeWord 34 = .ok (.lmul, 1) := by decide +kernel
theorem dX7_takeWord_35 : decode cX7_takeWord 35 = .ok (.aload_n 0, 1) := by decide +kernel
theorem dX7_takeWord_36 : decode cX7_takeWord 36 = .ok (.getfield 9, 3) := by decide +kernel
theorem dX7_takeWord_39 : decode cX7_takeWord 39 = .ok (.aload_n 0, 1) := by decide +kernel
theorem dX7_takeWord_40 : decode cX7_takeWord 40 = .ok (.getfield 17, 3) := by decide +kernel
theorem dX7_takeWord_43 : decode cX7_takeWord 43 = .ok (.baload, 1) := by decide +kernel
theorem dX7_takeWord_44 : decode cX7_takeWord 44 = .ok (.i2l, 1) := by decide +kernel
theorem dX7_takeWord_45 : decode cX7_takeWord 45 = .ok (.ladd, 1) := by decide +kernel
theorem dX7_takeWord_46 : decode cX7_takeWord 46 = .ok (.ldc2_w 57, 3) := by decide +kernel
theorem dX7_takeWord_49 : decode cX7_takeWord 49 = .ok (.lsub, 1) := by decide +kernel
theorem dX7_takeWord_50 : decode cX7_takeWord 50 = .ok (.lconst 1, 1) := by decide +kernel
theorem dX7_takeWord_51 : decode cX7_takeWord 51 = .ok (.ladd, 1) := by decide +kernel
theorem dX7_takeWord_52 : decode cX7_takeWord 52 = .ok (.putfield 26, 3) := by decide +kernel
theorem dX7_takeWord_55 : decode cX7_takeWord 55 = .ok (.aload_n 0, 1) := by decide +kernel
theorem dX7_takeWord_56 : decode cX7_takeWord 56 = .ok (.dup, 1) := by decide +kernel
theorem dX7_takeWord_57 : decode cX7_takeWord 57 = .ok (.getfield 17, 3) := by decide +kernel
theorem dX7_takeWord_60 : decode cX7_takeWord 60 = .ok (.iconst 1, 1) := by decide +kernel
theorem dX7_takeWord_61 : decode cX7_takeWord 61 = .ok (.iadd, 1) := by decide +kernel
theorem dX7_takeWord_62 : decode cX7_takeWord 62 = .ok (.putfield 17, 3) := by decide +kernel
theorem dX7_takeWord_65 : decode cX7_takeWord 65 = .ok (.goto (-65), 3) := by decide +kernel
theorem dX7_takeWord_68 : decode cX7_takeWord 68 = .ok (.aload_n 0, 1) := by decide +kernel
theorem dX7_takeWord_69 : decode cX7_takeWord 69 = .ok (.aload_n 0, 1) := by decide +kernel
theorem dX7_takeWord_70 : decode cX7_takeWord 70 = .ok (.getfield 17, 3) := by decide +kernel
theorem dX7_takeWord_73 : decode cX7_takeWord 73 = .ok (.aload_n 0, 1) := by decide +kernel
theorem dX7_takeWord_74 : decode cX7_takeWord 74 = .ok (.getfield 23, 3) := by decide +kernel
theorem dX7_takeWord_77 : decode cX7_takeWord 77 = .ok (.isub, 1) := by decide +kernel
theorem dX7_takeWord_78 : decode cX7_takeWord 78 = .ok (.bipush 8, 2) := by decide +kernel
theorem dX7_takeWord_80 : decode cX7_takeWord 80 = .ok (.if_icmp .gt 7, 3) := by decide +kernel
theorem dX7_takeWord_83 : decode cX7_takeWord 83 = .ok (.iconst 1, 1) := by decide +kernel
theorem dX7_takeWord_84 : decode cX7_takeWord 84 = .ok (.goto 4, 3) := by decide +kernel
theorem dX7_takeWord_87 : decode cX7_takeWord 87 = .ok (.iconst 4, 1) := by decide +kernel
theorem dX7_takeWord_88 : decode cX7_takeWord 88 = .ok (.putfield 30, 3) := by decide +kernel
theorem dX7_takeWord_91 : decode cX7_takeWord 91 = .ok (.return_, 1) := by decide +kernel
theorem dX7_takeNumber_0 : decode cX7_takeNumber 0 = .ok (.aload_n 0, 1) := by decide +kernel
theorem dX7_takeNumber_1 : decode cX7_takeNumber 1 = .ok (.getfield 17, 3) := by decide +kernel
theorem dX7_takeNumber_4 : decode cX7_takeNumber 4 = .ok (.aload_n 0, 1) := by decide +kernel
theorem dX7_takeNumber_5 : decode cX7_takeNumber 5 = .ok (.getfield 13, 3) := by decide +kernel
theorem dX7_takeNumber_8 : decode cX7_takeNumber 8 = .ok (.if_icmp .ge 58, 3) := by decide +kernel
theorem dX7_takeNumber_11 : decode cX7_takeNumber 11 = .ok (.aload_n 0, 1) := by decide +kernel
theorem dX7_takeNumber_12 : decode cX7_takeNumber 12 = .ok (.getfield 9, 3) := by decide +kernel
theorem dX7_takeNumber_15 : decode cX7_takeNumber 15 = .ok (.aload_n 0, 1) := by decide +kernel
theorem dX7_takeNumber_16 : decode cX7_takeNumber 16 = .ok (.getfield 17, 3) := by decide +kernel
theorem dX7_takeNumber_19 : decode cX7_takeNumber 19 = .ok (.baload, 1) := by decide +kernel
theorem dX7_takeNumber_20 : decode cX7_takeNumber 20 = .ok (.invokestatic 40, 3) := by decide +kernel
theorem dX7_takeNumber_23 : decode cX7_takeNumber 23 = .ok (.ifCond .eq 43, 3) := by decide +kernel
theorem dX7_takeNumber_26 : decode cX7_takeNumber 26 = .ok (.aload_n 0, 1) := by decide +kernel
theorem dX7_takeNumber_27 : decode cX7_takeNumber 27 = .ok (.aload_n 0, 1) := by decide +kernel
theorem dX7_takeNumber_28 : decode cX7_takeNumber 28 = .ok (.getfield 26, 3) := by decide +kernel
theorem dX7_takeNumber_31 : decode cX7_takeNumber 31 = .ok (.ldc2_w 59, 3) := by decide +kernel
theorem dX7_takeNumber_34 : decode cX7_takeNumber 34 = .ok (.lmul, 1) := by decide +kernel
theorem dX7_takeNumber_35 : decode cX7_takeNumber 35 = .ok (.aload_n 0, 1) := by decide +kernel
theorem dX7_takeNumber_36 : decode cX7_takeNumber 36 = .ok (.getfield 9, 3) := by decide +kernel
theorem dX7_takeNumber_39 : decode cX7_takeNumber 39 = .ok (.aload_n 0, 1) := by decide +kernel
theorem dX7_takeNumber_40 : decode cX7_takeNumber 40 = .ok (.getfield 17, 3) := by decide +kernel
theorem dX7_takeNumber_43 : decode cX7_takeNumber 43 = .ok (.baload, 1) := by decide +kernel
theorem dX7_takeNumber_44 : decode cX7_takeNumber 44 = .ok (.i2l, 1) := by decide +kernel
theorem dX7_takeNumber_45 : decode cX7_takeNumber 45 = .ok (.ladd, 1) := by decide +kernel
theorem dX7_takeNumber_46 : decode cX7_takeNumber 46 = .ok (.ldc2_w 61, 3) := by decide +kernel
theorem dX7_takeNumber_49 : decode cX7_takeNumber 49 = .ok (.lsub, 1) := by decide +kernel
theorem dX7_takeNumber_50 : decode cX7_takeNumber 50 = .ok (.putfield 26, 3) := by decide +kernel
theorem dX7_takeNumber_53 : decode cX7_takeNumber 53 = .ok (.aload_n 0, 1) := by decide +kernel
theorem dX7_takeNumber_54 : decode cX7_takeNumber 54 = .ok (.dup, 1) := by decide +kernel
theorem dX7_takeNumber_55 : decode cX7_takeNumber 55 = .ok (.getfield 17, 3) := by decide +kernel
theorem dX7_takeNumber_58 : decode cX7_takeNumber 58 = .ok (.iconst 1, 1) := by decide +kernel
theorem dX7_takeNumber_59 : decode cX7_takeNumber 59 = .ok (.iadd, 1) := by decide +kernel
theorem dX7_takeNumber_60 : decode cX7_takeNumber 60 = .ok (.putfield 17, 3) := by decide +kernel
theorem dX7_takeNumber_63 : decode cX7_takeNumber 63 = .ok (.goto (-63), 3) := by decide +kernel
theorem dX7_takeNumber_66 : decode cX7_takeNumber 66 = .ok (.aload_n 0, 1) := by decide +kernel
theorem dX7_takeNumber_67 : decode cX7_takeNumber 67 = .ok (.aload_n 0, 1) := by decide +kernel
theorem dX7_takeNumber_68 : decode cX7_takeNumber 68 = .ok (.getfield 17, 3) := by decide +kernel
theorem dX7_takeNumber_71 : decode cX7_takeNumber 71 = .ok (.aload_n 0, 1) := by decide +kernel
theorem dX7_takeNumber_72 : decode cX7_takeNumber 72 = .ok (.getfield 23, 3) := by decide +kernel
theorem dX7_takeNumber_75 : decode cX7_takeNumber 75 = .ok (.isub, 1) := by decide +kernel
theorem dX7_takeNumber_76 : decode cX7_takeNumber 76 = .ok (.iconst 4, 1) := by decide +kernel
theorem dX7_takeNumber_77 : decode cX7_takeNumber 77 = .ok (.if_icmp .gt 7, 3) := by decide +kernel
theorem dX7_takeNumber_80 : decode cX7_takeNumber 80 = .ok (.iconst 2, 1) := by decide +kernel
theorem dX7_takeNumber_81 : decode cX7_takeNumber 81 = .ok (.goto 4, 3) := by decide +kernel
theorem dX7_takeNumber_84 : decode cX7_takeNumber 84 = .ok (.iconst 4, 1) := by decide +kernel
theorem dX7_takeNumber_85 : decode cX7_takeNumber 85 = .ok (.putfield 30, 3) := by decide +kernel
theorem dX7_takeNumber_88 : decode cX7_takeNumber 88 = .ok (.return_, 1) := by decide +kernel
theorem dX7_takeSign_0 : decode cX7_takeSign 0 = .ok (.aload_n 0, 1) := by decide +kernel
theorem dX7_takeSign_1 : decode cX7_takeSign 1 = .ok (.aload_n 0, 1) := by decide +kernel
theorem dX7_takeSign_2 : decode cX7_takeSign 2 = .ok (.getfield 9, 3) := by decide +kernel
theorem dX7_takeSign_5 : decode cX7_takeSign 5 = .ok (.aload_n 0, 1) := by decide +kernel
theorem dX7_takeSign_6 : decode cX7_takeSign 6 = .ok (.getfield 17, 3) := by decide +kernel
theorem dX7_takeSign_9 : decode cX7_takeSign 9 = .ok (.baload, 1) := by decide +kernel
theorem dX7_takeSign_10 : decode cX7_takeSign 10 = .ok (.i2l, 1) := by decide +kernel
theorem dX7_takeSign_11 : decode cX7_takeSign 11 = .ok (.putfield 26, 3) := by decide +kernel
theorem dX7_takeSign_14 : decode cX7_takeSign 14 = .ok (.aload_n 0, 1) := by decide +kernel
theorem dX7_takeSign_15 : decode cX7_takeSign 15 = .ok (.aload_n 0, 1) := by decide +kernel
theorem dX7_takeSign_16 : decode cX7_takeSign 16 = .ok (.getfield 26, 3) := by decide +kernel
theorem dX7_takeSign_19 : decode cX7_takeSign 19 = .ok (.ldc2_w 63, 3) := by decide +kernel
theorem dX7_takeSign_22 : decode cX7_takeSign 22 = .ok (.lcmp, 1) := by decide +kernel
theorem dX7_takeSign_23 : decode cX7_takeSign 23 = .ok (.ifCond .eq 25, 3) := by decide +kernel
theorem dX7_takeSign_26 : decode cX7_takeSign 26 = .ok (.aload_n 0, 1) := by decide +kernel
theorem dX7_takeSign_27 : decode cX7_takeSign 27 = .ok (.getfield 26, 3) := by decide +kernel
theorem dX7_takeSign_30 : decode cX7_takeSign 30 = .ok (.ldc2_w 65, 3) := by decide +kernel
theorem dX7_takeSign_33 : decode cX7_takeSign 33 = .ok (.lcmp, 1) := by decide +kernel
theorem dX7_takeSign_34 : decode cX7_takeSign 34 = .ok (.ifCond .eq 14, 3) := by decide +kernel
theorem dX7_takeSign_37 : decode cX7_takeSign 37 = .ok (.aload_n 0, 1) := by decide +kernel
theorem dX7_takeSign_38 : decode cX7_takeSign 38 = .ok (.getfield 26, 3) := by decide +kernel
theorem dX7_takeSign_41 : decode cX7_takeSign 41 = .ok (.ldc2_w 67, 3) := by decide +kernel
theorem dX7_takeSign_44 : decode cX7_takeSign 44 = .ok (.lcmp, 1) := by decide +kernel
theorem dX7_takeSign_45 : decode cX7_takeSign 45 = .ok (.ifCond .ne 7, 3) := by decide +kernel
theorem dX7_takeSign_48 : decode cX7_takeSign 48 = .ok (.iconst 3, 1) := by decide +kernel
theorem dX7_takeSign_49 : decode cX7_takeSign 49 = .ok (.goto 4, 3) := by decide +kernel
theorem dX7_takeSign_52 : decode cX7_takeSign 52 = .ok (.iconst 4, 1) := by decide +kernel
theorem dX7_takeSign_53 : decode cX7_takeSign 53 = .ok (.putfield 30, 3) := by decide +kernel
theorem dX7_takeSign_56 : decode cX7_takeSign 56 = .ok (.aload_n 0, 1) := by decide +kernel
theorem dX7_takeSign_57 : decode cX7_takeSign 57 = .ok (.dup, 1) := by decide +kernel
theorem dX7_takeSign_58 : decode cX7_takeSign 58 = .ok (.getfield 17, 3) := by decide +kernel
theorem dX7_takeSign_61 : decode cX7_takeSign 61 = .ok (.iconst 1, 1) := by decide +kernel
theorem dX7_takeSign_62 : decode cX7_takeSign 62 = .ok (.iadd, 1) := by decide +kernel
theorem dX7_takeSign_63 : decode cX7_takeSign 63 = .ok (.putfield 17, 3) := by decide +kernel
theorem dX7_takeSign_66 : decode cX7_takeSign 66 = .ok (.return_, 1) := by decide +kernel
theorem dX7_isLetter_0 : decode cX7_isLetter 0 = .ok (.iload_n 0, 1) := by decide +kernel
theorem dX7_isLetter_1 : decode cX7_isLetter 1 = .ok (.bipush 97, 2) := by decide +kernel
theorem dX7_isLetter_3 : decode cX7_isLetter 3 = .ok (.if_icmp .lt 13, 3) := by decide +kernel
theorem dX7_isLetter_6 : decode cX7_isLetter 6 = .ok (.iload_n 0, 1) := by decide +kernel
theorem dX7_isLetter_7 : decode cX7_isLetter 7 = .ok (.bipush 122, 2) := by decide +kernel
theorem dX7_isLetter_9 : decode cX7_isLetter 9 = .ok (.if_icmp .gt 7, 3) := by decide +kernel
theorem dX7_isLetter_12 : decode cX7_isLetter 12 = .ok (.iconst 1, 1) := by decide +kernel
theorem dX7_isLetter_13 : decode cX7_isLetter 13 = .ok (.goto 4, 3) := by decide +kernel
theorem dX7_isLetter_16 : decode cX7_isLetter 16 = .ok (.iconst 0, 1) := by decide +kernel
theorem dX7_isLetter_17 : decode cX7_isLetter 17 = .ok (.ireturn, 1) := by decide +kernel
theorem dX7_isDigit_0 : decode cX7_isDigit 0 = .ok (.iload_n 0, 1) := by decide +kernel
theorem dX7_isDigit_1 : decode cX7_isDigit 1 = .ok (.bipush 48, 2) := by decide +kernel
theorem dX7_isDigit_3 : decode cX7_isDigit 3 = .ok (.if_icmp .lt 13, 3) := by decide +kernel
theorem dX7_isDigit_6 : decode cX7_isDigit 6 = .ok (.iload_n 0, 1) := by decide +kernel
theorem dX7_isDigit_7 : decode cX7_isDigit 7 = .ok (.bipush 57, 2) := by decide +kernel
theorem dX7_isDigit_9 : decode cX7_isDigit 9 = .ok (.if_icmp .gt 7, 3) := by decide +kernel
theorem dX7_isDigit_12 : decode cX7_isDigit 12 = .ok (.iconst 1, 1) := by decide +kernel
theorem dX7_isDigit_13 : decode cX7_isDigit 13 = .ok (.goto 4, 3) := by decide +kernel
theorem dX7_isDigit_16 : decode cX7_isDigit 16 = .ok (.iconst 0, 1) := by decide +kernel
theorem dX7_isDigit_17 : decode cX7_isDigit 17 = .ok (.ireturn, 1) := by decide +kernel
