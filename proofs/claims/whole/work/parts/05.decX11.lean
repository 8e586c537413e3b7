theorem dX11_init_0 : decode cX11_init 0 = .ok (.aload_n 0, 1) := by decide +kernel
theorem dX11_init_1 : decode cX11_init 1 = .ok (.invokespecial 1, 3) := by decide +kernel
theorem dX11_init_4 : decode cX11_init 4 = .ok (.aload_n 0, 1) := by decide +kernel
theorem dX11_init_5 : decode cX11_init 5 = .ok (.new 7, 3) := by decide +kernel
theorem dX11_init_8 : decode cX11_init 8 = .ok (.dup, 1) := by decide +kernel
theorem dX11_init_9 : decode cX11_init 9 = .ok (.invokespecial 9, 3) := by decide +kernel
theorem dX11_init_12 : decode cX11_init 12 = .ok (.putfield 10, 3) := by decide +kernel
theorem dX11_init_15 : decode cX11_init 15 = .ok (.aload_n 0, 1) := by decide +kernel
theorem dX11_init_16 : decode cX11_init 16 = .ok (.new 16, 3) := by decide +kernel
theorem dX11_init_19 : decode cX11_init 19 = .ok (.dup, 1) := by decide +kernel
theorem dX11_init_20 : decode cX11_init 20 = .ok (.aload_n 0, 1) := by decide +kernel
theorem dX11_init_21 : decode cX11_init 21 = .ok (.getfield 10, 3) := by decide +kernel
theorem dX11_init_24 : decode cX11_init 24 = .ok (.invokespecial 18, 3) := by decide +kernel
theorem dX11_init_27 : decode cX11_init 27 = .ok (.putfield 21, 3) := by decide +kernel
theorem dX11_init_30 : decode cX11_init 30 = .ok (.aload_n 0, 1) := by decide +kernel
theorem dX11_init_31 : decode cX11_init 31 = .ok (.new 25, 3) := by decide +kernel
theorem dX11_init_34 : decode cX11_init 34 = .ok (.dup, 1) := by decide +kernel
theorem dX11_init_35 : decode cX11_init 35 = .ok (.invokespecial 27, 3) := by decide +kernel
theorem dX11_init_38 : decode cX11_init 38 = .ok (.putfield 28, 3) := by decide +kernel
theorem dX11_init_41 : decode cX11_init 41 = .ok (.aload_n 0, 1) := by decide +kernel
theorem dX11_init_42 : decode cX11_init 42 = .ok (.new 32, 3) := by decide +kernel
theorem dX11_init_45 : decode cX11_init 45 = .ok (.dup, 1) := by decide +kernel
theorem dX11_init_46 : decode cX11_init 46 = .ok (.invokespecial 34, 3) := by decide +kernel
theorem dX11_init_49 : decode cX11_init 49 = .ok (.putfield 35, 3) := by decide +kernel
theorem dX11_init_52 : decode cX11_init 52 = .ok (.aload_n 0, 1) := by decide +kernel
theorem dX11_init_53 : decode cX11_init 53 = .ok (.new 39, 3) := by decide +kernel
theorem dX11_init_56 : decode cX11_init 56 = .ok (.dup, 1) := by decide +kernel
theorem dX11_init_57 : decode cX11_init 57 = .ok (.invokespecial 41, 3) := by decide +kernel
theorem dX11_init_60 : decode cX11_init 60 = .ok (.putfield 42, 3) := by decide +kernel
theorem dX11_init_63 : decode cX11_init 63 = .ok (.aload_n 0, 1) := by decide +kernel
theorem dX11_init_64 : decode cX11_init 64 = .ok (.new 46, 3) := by decide +kernel
theorem dX11_init_67 : decode cX11_init 67 = .ok (.dup, 1) := by decide +kernel
theorem dX11_init_68 : decode cX11_init 68 = .ok (.aload_n 0, 1) := by decide +kernel
theorem dX11_init_69 : decode cX11_init 69 = .ok (.getfield 35, 3) := by decide +kernel
theorem dX11_init_72 : decode cX11_init 72 = .ok (.aload_n 0, 1) := by decide +kernel
theorem dX11_init_73 : decode cX11_init 73 = .ok (.getfield 28, 3) := by decide +kernel
theorem dX11_init_76 : decode cX11_init 76 = .ok (.invokespecial 48, 3) := by decide +kernel
theorem dX11_init_79 : decode cX11_init 79 = .ok (.putfield 51, 3) := by decide +kernel
theorem dX11_init_82 : decode cX11_init 82 = .ok (.aload_n 0, 1) := by decide +kernel
theorem dX11_init_83 : decode cX11_init 83 = .ok (.new 55, 3) := by decide +kernel
theorem dX11_init_86 : decode cX11_init 86 = .ok (.dup, 1) := by decide +kernel
theorem dX11_init_87 : decode cX11_init 87 = .ok (.invokespecial 57, 3) := by decide +kernel
theorem dX11_init_90 : decode cX11_init 90 = .ok (.putfield 58, 3) := by decide +kernel
theorem dX11_init_93 : decode cX11_init 93 = .ok (.aload_n 0, 1) := by decide +kernel
theorem dX11_init_94 : decode cX11_init 94 = .ok (.new 62, 3) := by decide +kernel
theorem dX11_init_97 : decode cX11_init 97 = .ok (.dup, 1) := by decide +kernel
theorem dX11_init_98 : decode cX11_init 98 = .ok (.invokespecial 64, 3) := by decide +kernel
theorem dX11_init_101 : decode cX11_init 101 = .ok (.putfield 65, 3) := by decide +kernel
theorem dX11_init_104 : decode cX11_init 104 = .ok (.aload_n 0, 1) := by decide +kernel
theorem dX11_init_105 : decode cX11_init 105 = .ok (.new 69, 3) := by decide +kernel
theorem dX11_init_108 : decode cX11_init 108 = .ok (.dup, 1) := by decide +kernel
theorem dX11_init_109 : decode cX11_init 109 = .ok (.invokespecial 71, 3) := by decide +kernel
theorem dX11_init_112 : decode cX11_init 112 = .ok (.putfield 72, 3) := by decide +kernel
theorem dX11_init_115 : decode cX11_init 115 = .ok (.aload_n 0, 1) := by decide +kernel
theorem dX11_init_116 : decode cX11_init 116 = .ok (.new 69, 3) := by decide +kernel
theorem dX11_init_119 : decode cX11_init 119 = .ok (.dup, 1) := by decide +kernel
theorem dX11_init_120 : decode cX11_init 120 = .ok (.invokespecial 71, 3) := by decide +kernel
theorem dX11_init_123 : decode cX11_init 123 = .ok (.putfield 76, 3) := by decide +kernel
theorem dX11_init_126 : decode cX11_init 126 = .ok (.aload_n 0, 1) := by decide +kernel
theorem dX11_init_127 : decode cX11_init 127 = .ok (.new 79, 3) := by decide +kernel
theorem dX11_init_130 : decode cX11_init 130 = .ok (.dup, 1) := by decide +kernel
theorem dX11_init_131 : decode cX11_init 131 = .ok (.invokespecial 81, 3) := by decide +kernel
theorem dX11_init_134 : decode cX11_init 134 = .ok (.putfield 82, 3) := by decide +kernel
theorem dX11_init_137 : decode cX11_init 137 = .ok (.aload_n 0, 1) := by decide +kernel
theorem dX11_init_138 : decode cX11_init 138 = .ok (.new 79, 3) := by decide +kernel
theorem dX11_init_141 : decode cX11_init 141 = .ok (.dup, 1) := by decide +kernel
theorem dX11_init_142 : decode cX11_init 142 = .ok (.invokespecial 81, 3) := by decide +kernel
theorem dX11_init_145 : decode cX11_init 145 = .ok (.putfield 86, 3) := by decide +kernel
theorem dX11_init_148 : decode cX11_init 148 = .ok (.aload_n 0, 1) := by decide +kernel
theorem dX11_init_149 : decode cX11_init 149 = .ok (.iconst 3, 1) := by decide +kernel
theorem dX11_init_150 : decode cX11_init 150 = .ok (.newarray .int, 2) := by decide +kernel
theorem dX11_init_152 : decode cX11_init 152 = .ok (.putfield 89, 3) := by decide +kernel
theorem dX11_init_155 : decode cX11_init 155 = .ok (.aload_n 0, 1) := by decide +kernel
theorem dX11_init_156 : decode cX11_init 156 = .ok (.iconst 4, 1) := by decide +kernel
theorem dX11_init_157 : decode cX11_init 157 = .ok (.putfield 93, 3) := by decide +kernel
theorem dX11_init_160 : decode cX11_init 160 = .ok (.return_, 1) := by decide +kernel
theorem dX11_feed_0 : decode cX11_feed 0 = .ok (.aload_n 0, 1) := by decide +kernel
theorem dX11_feed_1 : decode cX11_feed 1 = .ok (.lload_n 1, 1) := by decide +kernel
theorem dX11_feed_2 : decode cX11_feed 2 = .ok (.invokevirtual 97, 3) := by decide +kernel
theorem dX11_feed_5 : decode cX11_feed 5 = .ok (.aload_n 0, 1) := by decide +kernel
theorem dX11_feed_6 : decode cX11_feed 6 = .ok (.lload_n 3, 1) := by decide +kernel
theorem dX11_feed_7 : decode cX11_feed 7 = .ok (.invokevirtual 97, 3) := by decide +kernel
theorem dX11_feed_10 : decode cX11_feed 10 = .ok (.aload_n 0, 1) := by decide +kernel
theorem dX11_feed_11 : decode cX11_feed 11 = .ok (.lload 5, 2) := by decide +kernel
theorem dX11_feed_13 : decode cX11_feed 13 = .ok (.invokevirtual 97, 3) := by decide +kernel
theorem dX11_feed_16 : decode cX11_feed 16 = .ok (.aload_n 0, 1) := by decide +kernel
theorem dX11_feed_17 : decode cX11_feed 17 = .ok (.getfield 10, 3) := by decide +kernel
theorem dX11_feed_20 : decode cX11_feed 20 = .ok (.getfield 101, 3) := by decide +kernel
theorem dX11_feed_23 : decode cX11_feed 23 = .ok (.ireturn, 1) := by decide +kernel
theorem dX11_tables_0 : decode cX11_tables 0 = .ok (.aload_n 0, 1) := by decide +kernel
theorem dX11_tables_1 : decode cX11_tables 1 = .ok (.getfield 21, 3) := by decide +kernel
theorem dX11_tables_4 : decode cX11_tables 4 = .ok (.aload_n 0, 1) := by decide +kernel
theorem dX11_tables_5 : decode cX11_tables 5 = .ok (.getfield 76, 3) := by decide +kernel
theorem dX11_tables_8 : decode cX11_tables 8 = .ok (.invokevirtual 104, 3) := by decide +kernel
theorem dX11_tables_11 : decode cX11_tables 11 = .ok (.istore_n 1, 1) := by decide +kernel
theorem dX11_tables_12 : decode cX11_tables 12 = .ok (.aload_n 0, 1) := by decide +kernel
theorem dX11_tables_13 : decode cX11_tables 13 = .ok (.getfield 10, 3) := by decide +kernel
theorem dX11_tables_16 : decode cX11_tables 16 = .ok (.invokevirtual 108, 3) := by decide +kernel
theorem dX11_tables_19 : decode cX11_tables 19 = .ok (.iload_n 1, 1) := by decide +kernel
theorem dX11_tables_20 : decode cX11_tables 20 = .ok (.ifCond .ne 7, 3) := by decide +kernel
theorem dX11_tables_23 : decode cX11_tables 23 = .ok (.aload_n 0, 1) := by decide +kernel
theorem dX11_tables_24 : decode cX11_tables 24 = .ok (.invokevirtual 111, 3) := by decide +kernel
theorem dX11_tables_27 : decode cX11_tables 27 = .ok (.iload_n 1, 1) := by decide +kernel
theorem dX11_tables_28 : decode cX11_tables 28 = .ok (.ireturn, 1) := by decide +kernel
theorem dX11_rows_0 : decode cX11_rows 0 = .ok (.aload_n 0, 1) := by decide +kernel
theorem dX11_rows_1 : decode cX11_rows 1 = .ok (.getfield 72, 3) := by decide +kernel
theorem dX11_rows_4 : decode cX11_rows 4 = .ok (.getfield 114, 3) := by decide +kernel
theorem dX11_rows_7 : decode cX11_rows 7 = .ok (.istore_n 1, 1) := by decide +kernel
theorem dX11_rows_8 : decode cX11_rows 8 = .ok (.aload_n 0, 1) := by decide +kernel
theorem dX11_rows_9 : decode cX11_rows 9 = .ok (.getfield 21, 3) := by decide +kernel
theorem dX11_rows_12 : decode cX11_rows 12 = .ok (.aload_n 0, 1) := by decide +kernel
theorem dX11_rows_13 : decode cX11_rows 13 = .ok (.getfield 72, 3) := by decide +kernel
theorem dX11_rows_16 : decode cX11_rows 16 = .ok (.invokevirtual 117, 3) := by decide +kernel
theorem dX11_rows_19 : decode cX11_rows 19 = .ok (.istore_n 2, 1) := by decide +kernel
theorem dX11_rows_20 : decode cX11_rows 20 = .ok (.aload_n 0, 1) := by decide +kernel
theorem dX11_rows_21 : decode cX11_rows 21 = .ok (.getfield 10, 3) := by decide +kernel
theorem dX11_rows_24 : decode cX11_rows 24 = .ok (.invokevirtual 108, 3) := by decide +kernel
theorem dX11_rows_27 : decode cX11_rows 27 = .ok (.iload_n 2, 1) := by decide +kernel
theorem dX11_rows_28 : decode cX11_rows 28 = .ok (.ifCond .eq 14, 3) := by decide +kernel
theorem dX11_rows_31 : decode cX11_rows 31 = .ok (.aload_n 0, 1) := by decide +kernel
theorem dX11_rows_32 : decode cX11_rows 32 = .ok (.getfield 72, 3) := by decide +kernel
theorem dX11_rows_35 : decode cX11_rows 35 = .ok (.iload_n 1, 1) := by decide +kernel
theorem dX11_rows_36 : decode cX11_rows 36 = .ok (.invokevirtual 120, 3) := by decide +kernel
theorem dX11_rows_39 : decode cX11_rows 39 = .ok (.goto 18, 3) := by decide +kernel
theorem dX11_rows_42 : decode cX11_rows 42 = .ok (.aload_n 0, 1) := by decide +kernel
theorem dX11_rows_43 : decode cX11_rows 43 = .ok (.getfield 72, 3) := by decide +kernel
theorem dX11_rows_46 : decode cX11_rows 46 = .ok (.getfield 114, 3) := by decide +kernel
theorem dX11_rows_49 : decode cX11_rows 49 = .ok (.iload_n 1, 1) := by decide +kernel
theorem dX11_rows_50 : decode cX11_rows 50 = .ok (.if_icmp .eq 7, 3) := by decide +kernel
theorem dX11_rows_53 : decode cX11_rows 53 = .ok (.aload_n 0, 1) := by decide +kernel
theorem dX11_rows_54 : decode cX11_rows 54 = .ok (.invokevirtual 124, 3) := by decide +kernel
theorem dX11_rows_57 : decode cX11_rows 57 = .ok (.iload_n 2, 1) := by decide +kernel
theorem dX11_rows_58 : decode cX11_rows 58 = .ok (.ireturn, 1) := by decide +kernel
theorem dX11_ask_0 : decode cX11_ask 0 = .ok (.aload_n 0, 1) := by decide +kernel
theorem dX11_ask_1 : decode cX11_ask 1 = .ok (.getfield 21, 3) := by decide +kernel
theorem dX11_ask_4 : decode cX11_ask 4 = .ok (.aload_n 0, 1) := by decide +kernel
theorem dX11_ask_5 : decode cX11_ask 5 = .ok (.getfield 86, 3) := by decide +kernel
theorem dX11_ask_8 : decode cX11_ask 8 = .ok (.invokevirtual 127, 3) := by decide +kernel
theorem dX11_ask_11 : decode cX11_ask 11 = .ok (.istore_n 1, 1) := by decide +kernel
theorem dX11_ask_12 : decode cX11_ask 12 = .ok (.aload_n 0, 1) := by decide +kernel
theorem dX11_ask_13 : decode cX11_ask 13 = .ok (.getfield 10, 3) := by decide +kernel
theorem dX11_ask_16 : decode cX11_ask 16 = .ok (.invokevirtual 108, 3) := by decide +kernel
theorem dX11_ask_19 : decode cX11_ask 19 = .ok (.iload_n 1, 1) := by decide +kernel
theorem dX11_ask_20 : decode cX11_ask 20 = .ok (.ifCond .ne 25, 3) := by decide +kernel
theorem dX11_ask_23 : decode cX11_ask 23 = .ok (.aload_n 0, 1) := by decide +kernel
theorem dX11_ask_24 : decode cX11_ask 24 = .ok (.getfield 82, 3) := by decide +kernel
theorem dX11_ask_27 : decode cX11_ask 27 = .ok (.astore_n 2, 1) := by decide +kernel
theorem dX11_ask_28 : decode cX11_ask 28 = .ok (.aload_n 0, 1) := by decide +kernel
theorem dX11_ask_29 : decode cX11_ask 29 = .ok (.aload_n 0, 1) := by decide +kernel
theorem dX11_ask_30 : decode cX11_ask 30 = .ok (.getfield 86, 3) := by decide +kernel
theorem dX11_ask_33 : decode cX11_ask 33 = .ok (.putfield 82, 3) := by decide +kernel
theorem dX11_ask_36 : decode cX11_ask 36 = .ok (.aload_n 0, 1) := by decide +kernel
theorem dX11_ask_37 : decode cX11_ask 37 = .ok (.aload_n 2, 1) := by decide +kernel
theorem dX11_ask_38 : decode cX11_ask 38 = .ok (.putfield 86, 3) := by decide +kernel
theorem dX11_ask_41 : decode cX11_ask 41 = .ok (.aload_n 0, 1) := by decide +kernel
theorem dX11_ask_42 : decode cX11_ask 42 = .ok (.invokevirtual 131, 3) := by decide +kernel
theorem dX11_ask_45 : decode cX11_ask 45 = .ok (.iload_n 1, 1) := by decide +kernel
theorem dX11_ask_46 : decode cX11_ask 46 = .ok (.ireturn, 1) := by decide +kernel
theorem dX11_question_0 : decode cX11_question 0 = .ok (.aload_n 0, 1) := by decide +kernel
theorem dX11_question_1 : decode cX11_question 1 = .ok (.getfield 21, 3) := by decide +kernel
theorem dX11_question_4 : decode cX11_question 4 = .ok (.aload_n 0, 1) := by decide +kernel
theorem dX11_question_5 : decode cX11_question 5 = .ok (.getfield 72, 3) := by decide +kernel
theorem dX11_question_8 : decode cX11_question 8 = .ok (.aload_n 0, 1) := by decide +kernel
theorem dX11_question_9 : decode cX11_question 9 = .ok (.getfield 86, 3) := by decide +kernel
theorem dX11_question_12 : decode cX11_question 12 = .ok (.invokevirtual 134, 3) := by decide +kernel
theorem dX11_question_15 : decode cX11_question 15 = .ok (.istore_n 1, 1) := by decide +kernel
theorem dX11_question_16 : decode cX11_question 16 = .ok (.aload_n 0, 1) := by decide +kernel
theorem dX11_question_17 : decode cX11_question 17 = .ok (.getfield 10, 3) := by decide +kernel
theorem dX11_question_20 : decode cX11_question 20 = .ok (.invokevirtual 108, 3) := by decide +kernel
theorem dX11_question_23 : decode cX11_question 23 = .ok (.iload_n 1, 1) := by decide +kernel
theorem dX11_question_24 : decode cX11_question 24 = .ok (.ifCond .eq 8, 3) := by decide +kernel
theorem dX11_question_27 : decode cX11_question 27 = .ok (.ldc 138, 2) := by decide +kernel
theorem dX11_question_29 : decode cX11_question 29 = .ok (.iload_n 1, 1) := by decide +kernel
theorem dX11_question_30 : decode cX11_question 30 = .ok (.iadd, 1) := by decide +kernel
theorem dX11_question_31 : decode cX11_question 31 = .ok (.ireturn, 1) := by decide +kernel
theorem dX11_question_32 : decode cX11_question 32 = .ok (.aload_n 0, 1) := by decide +kernel
theorem dX11_question_33 : decode cX11_question 33 = .ok (.invokevirtual 139, 3) := by decide +kernel
theorem dX11_question_36 : decode cX11_question 36 = .ok (.ifCond .eq 17, 3) := by decide +kernel
theorem dX11_question_39 : decode cX11_question 39 = .ok (.aload_n 0, 1) := by decide +kernel
theorem dX11_question_40 : decode cX11_question 40 = .ok (.getfield 86, 3) := by decide +kernel
theorem dX11_question_43 : decode cX11_question 43 = .ok (.aload_n 0, 1) := by decide +kernel
theorem dX11_question_44 : decode cX11_question 44 = .ok (.getfield 82, 3) := by decide +kernel
theorem dX11_question_47 : decode cX11_question 47 = .ok (.invokevirtual 143, 3) := by decide +kernel
theorem dX11_question_50 : decode cX11_question 50 = .ok (.ifCond .ne 5, 3) := by decide +kernel
theorem dX11_question_53 : decode cX11_question 53 = .ok (.iconst (-1), 1) := by decide +kernel
theorem dX11_question_54 : decode cX11_question 54 = .ok (.ireturn, 1) := by decide +kernel
theorem dX11_question_55 : decode cX11_question 55 = .ok (.aload_n 0, 1) := by decide +kernel
theorem dX11_question_56 : decode cX11_question 56 = .ok (.getfield 58, 3) := by decide +kernel
theorem dX11_question_59 : decode cX11_question 59 = .ok (.aload_n 0, 1) := by decide +kernel
theorem dX11_question_60 : decode cX11_question 60 = .ok (.getfield 21, 3) := by decide +kernel
theorem dX11_question_63 : decode cX11_question 63 = .ok (.getfield 147, 3) := by decide +kernel
theorem dX11_question_66 : decode cX11_question 66 = .ok (.invokevirtual 150, 3) := by decide +kernel
theorem dX11_question_69 : decode cX11_question 69 = .ok (.ireturn, 1) := by decide +kernel
theorem dX11_width_0 : decode cX11_width 0 = .ok (.iload_n 1, 1) := by decide +kernel
theorem dX11_width_1 : decode cX11_width 1 = .ok (.iconst 1, 1) := by decide +kernel
theorem dX11_width_2 : decode cX11_width 2 = .ok (.if_icmp .lt 8, 3) := by decide +kernel
theorem dX11_width_5 : decode cX11_width 5 = .ok (.iload_n 1, 1) := by decide +kernel
theorem dX11_width_6 : decode cX11_width 6 = .ok (.iconst 5, 1) := by decide +kernel
theorem dX11_width_7 : decode cX11_width 7 = .ok (.if_icmp .le 5, 3) := by decide +kernel
theorem dX11_width_10 : decode cX11_width 10 = .ok (.iconst 0, 1) := by decide +kernel
theorem dX11_width_11 : decode cX11_width 11 = .ok (.ireturn, 1) := by decide +kernel
theorem dX11_width_12 : decode cX11_width 12 = .ok (.iload_n 1, 1) := by decide +kernel
theorem dX11_width_13 : decode cX11_width 13 = .ok (.aload_n 0, 1) := by decide +kernel
theorem dX11_width_14 : decode cX11_width 14 = .ok (.getfield 93, 3) := by decide +kernel
theorem dX11_width_17 : decode cX11_width 17 = .ok (.if_icmp .eq 13, 3) := by decide +kernel
theorem dX11_width_20 : decode cX11_width 20 = .ok (.aload_n 0, 1) := by decide +kernel
theorem dX11_width_21 : decode cX11_width 21 = .ok (.iload_n 1, 1) := by decide +kernel
theorem dX11_width_22 : decode cX11_width 22 = .ok (.putfield 93, 3) := by decide +kernel
theorem dX11_width_25 : decode cX11_width 25 = .ok (.aload_n 0, 1) := by decide +kernel
theorem dX11_width_26 : decode cX11_width 26 = .ok (.iconst 0, 1) := by decide +kernel
theorem dX11_width_27 : decode cX11_width 27 = .ok (.putfield 154, 3) := by decide +kernel
theorem dX11_width_30 : decode cX11_width 30 = .ok (.iconst 1, 1) := by decide +kernel
theorem dX11_width_31 : decode cX11_width 31 = .ok (.ireturn, 1) := by decide +kernel
theorem dX11_row_0 : decode cX11_row 0 = .ok (.aload_n 0, 1) := by decide +kernel
theorem dX11_row_1 : decode cX11_row 1 = .ok (.getfield 72, 3) := by decide +kernel
theorem dX11_row_4 : decode cX11_row 4 = .ok (.iload_n 1, 1) := by decide +kernel
theorem dX11_row_5 : decode cX11_row 5 = .ok (.invokevirtual 158, 3) := by decide +kernel
theorem dX11_row_8 : decode cX11_row 8 = .ok (.ifCond .eq 12, 3) := by decide +kernel
theorem dX11_row_11 : decode cX11_row 11 = .ok (.iload_n 2, 1) := by decide +kernel
theorem dX11_row_12 : decode cX11_row 12 = .ok (.ifCond .lt 8, 3) := by decide +kernel
theorem dX11_row_15 : decode cX11_row 15 = .ok (.iload_n 2, 1) := by decide +kernel
theorem dX11_row_16 : decode cX11_row 16 = .ok (.iconst 2, 1) := by decide +kernel
theorem dX11_row_17 : decode cX11_row 17 = .ok (.if_icmp .le 11, 3) := by decide +kernel
theorem dX11_row_20 : decode cX11_row 20 = .ok (.new 162, 3) := by decide +kernel
theorem dX11_row_23 : decode cX11_row 23 = .ok (.dup, 1) := by decide +kernel
theorem dX11_row_24 : decode cX11_row 24 = .ok (.invokespecial 164, 3) := by decide +kernel
theorem dX11_row_27 : decode cX11_row 27 = .ok (.athrow, 1) := by decide +kernel
theorem dX11_row_28 : decode cX11_row 28 = .ok (.iload_n 2, 1) := by decide +kernel
theorem dX11_row_29 : decode cX11_row 29 = .ok (.ifCond .ne 13, 3) := by decide +kernel
theorem dX11_row_32 : decode cX11_row 32 = .ok (.aload_n 0, 1) := by decide +kernel
theorem dX11_row_33 : decode cX11_row 33 = .ok (.getfield 72, 3) := by decide +kernel
theorem dX11_row_36 : decode cX11_row 36 = .ok (.getfield 165, 3) := by decide +kernel
theorem dX11_row_39 : decode cX11_row 39 = .ok (.iload_n 1, 1) := by decide +kernel
theorem dX11_row_40 : decode cX11_row 40 = .ok (.iaload, 1) := by decide +kernel
theorem dX11_row_41 : decode cX11_row 41 = .ok (.ireturn, 1) := by decide +kernel
theorem dX11_row_42 : decode cX11_row 42 = .ok (.iload_n 2, 1) := by decide +kernel
theorem dX11_row_43 : decode cX11_row 43 = .ok (.iconst 1, 1) := by decide +kernel
theorem dX11_row_44 : decode cX11_row 44 = .ok (.if_icmp .ne 15, 3) := by decide +kernel
theorem dX11_row_47 : decode cX11_row 47 = .ok (.aload_n 0, 1) := by decide +kernel
theorem dX11_row_48 : decode cX11_row 48 = .ok (.getfield 72, 3) := by decide +kernel
theorem dX11_row_51 : decode cX11_row 51 = .ok (.getfield 168, 3) := by decide +kernel
theorem dX11_row_54 : decode cX11_row 54 = .ok (.iload_n 1, 1) := by decide +kernel
theorem dX11_row_55 : decode cX11_row 55 = .ok (.iaload, 1) := by decide +kernel
theorem dX11_row_56 : decode cX11_row 56 = .ok (.goto 11, 3) := by decide +kernel
theorem dX11_row_59 : decode cX11_row 59 = .ok (.aload_n 0, 1) := by decide +kernel
theorem dX11_row_60 : decode cX11_row 60 = .ok (.invokevirtual 171, 3) := by decide +kernel
theorem dX11_row_63 : decode cX11_row 63 = .ok (.iload_n 1, 1) := by decide +kernel
theorem dX11_row_64 : decode cX11_row 64 = .ok (.ishr, 1) := by decide +kernel
theorem dX11_row_65 : decode cX11_row 65 = .ok (.iconst 1, 1) := by decide +kernel
theorem dX11_row_66 : decode cX11_row 66 = .ok (.iand, 1) := by decide +kernel
theorem dX11_row_67 : decode cX11_row 67 = .ok (.ireturn, 1) := by decide +kernel
theorem dX11_cell_0 : decode cX11_cell 0 = .ok (.aload_n 0, 1) := by decide +kernel
theorem dX11_cell_1 : decode cX11_cell 1 = .ok (.iload_n 1, 1) := by decide +kernel
theorem dX11_cell_2 : decode cX11_cell 2 = .ok (.invokevirtual 175, 3) := by decide +kernel
theorem dX11_cell_5 : decode cX11_cell 5 = .ok (.ifCond .ne 7, 3) := by decide +kernel
theorem dX11_cell_8 : decode cX11_cell 8 = .ok (.ldc2_w 178, 3) := by decide +kernel
theorem dX11_cell_11 : decode cX11_cell 11 = .ok (.lreturn, 1) := by decide +kernel
theorem dX11_cell_12 : decode cX11_cell 12 = .ok (.aload_n 0, 1) := by decide +kernel
theorem dX11_cell_13 : decode cX11_cell 13 = .ok (.getfield 72, 3) := by decide +kernel
theorem dX11_cell_16 : decode cX11_cell 16 = .ok (.iload_n 1, 1) := by decide +kernel
theorem dX11_cell_17 : decode cX11_cell 17 = .ok (.iload_n 2, 1) := by decide +kernel
theorem dX11_cell_18 : decode cX11_cell 18 = .ok (.invokevirtual 180, 3) := by decide +kernel
theorem dX11_cell_21 : decode cX11_cell 21 = .ok (.tableswitch 51 (-3) (-1) #[27, 41, 31], 27) := by decide +kernel
theorem dX11_cell_48 : decode cX11_cell 48 = .ok (.ldc2_w 178, 3) := by decide +kernel
theorem dX11_cell_51 : decode cX11_cell 51 = .ok (.lreturn, 1) := by decide +kernel
theorem dX11_cell_52 : decode cX11_cell 52 = .ok (.aload_n 0, 1) := by decide +kernel
theorem dX11_cell_53 : decode cX11_cell 53 = .ok (.getfield 72, 3) := by decide +kernel
theorem dX11_cell_56 : decode cX11_cell 56 = .ok (.iload_n 1, 1) := by decide +kernel
theorem dX11_cell_57 : decode cX11_cell 57 = .ok (.iload_n 2, 1) := by decide +kernel
theorem dX11_cell_58 : decode cX11_cell 58 = .ok (.invokevirtual 184, 3) := by decide +kernel
theorem dX11_cell_61 : decode cX11_cell 61 = .ok (.lreturn, 1) := by decide +kernel
theorem dX11_cell_62 : decode cX11_cell 62 = .ok (.aload_n 0, 1) := by decide +kernel
theorem dX11_cell_63 : decode cX11_cell 63 = .ok (.getfield 72, 3) := by decide +kernel
theorem dX11_cell_66 : decode cX11_cell 66 = .ok (.iload_n 1, 1) := by decide +kernel
theorem dX11_cell_67 : decode cX11_cell 67 = .ok (.iload_n 2, 1) := by decide +kernel
theorem dX11_cell_68 : decode cX11_cell 68 = .ok (.invokevirtual 188, 3) := by decide +kernel
theorem dX11_cell_71 : decode cX11_cell 71 = .ok (.lreturn, 1) := by decide +kernel
theorem dX11_cell_72 : decode cX11_cell 72 = .ok (.aload_n 0, 1) := by decide +kernel
theorem dX11_cell_73 : decode cX11_cell 73 = .ok (.getfield 72, 3) := by decide +kernel
theorem dX11_cell_76 : decode cX11_cell 76 = .ok (.iload_n 1, 1) := by decide +kernel
theorem dX11_cell_77 : decode cX11_cell 77 = .ok (.iload_n 2, 1) := by decide +kernel
theorem dX11_cell_78 : decode cX11_cell 78 = .ok (.aload_n 0, 1) := by decide +kernel
theorem dX11_cell_79 : decode cX11_cell 79 = .ok (.invokevirtual 171, 3) := by decide +kernel
theorem dX11_cell_82 : decode cX11_cell 82 = .ok (.invokevirtual 191, 3) := by decide +kernel
theorem dX11_cell_85 : decode cX11_cell 85 = .ok (.i2l, 1) := by decide +kernel
theorem dX11_cell_86 : decode cX11_cell 86 = .ok (.lreturn, 1) := by decide +kernel
theorem dX11_holds_0 : decode cX11_holds 0 = .ok (.aload_n 0, 1) := by decide +kernel
theorem dX11_holds_1 : decode cX11_holds 1 = .ok (.iload_n 2, 1) := by decide +kernel
theorem dX11_holds_2 : decode cX11_holds 2 = .ok (.invokevirtual 195, 3) := by decide +kernel
theorem dX11_holds_5 : decode cX11_holds 5 = .ok (.ifCond .eq 11, 3) := by decide +kernel
theorem dX11_holds_8 : decode cX11_holds 8 = .ok (.aload_n 0, 1) := by decide +kernel
theorem dX11_holds_9 : decode cX11_holds 9 = .ok (.iload_n 1, 1) := by decide +kernel
theorem dX11_holds_10 : decode cX11_holds 10 = .ok (.invokevirtual 175, 3) := by decide +kernel
theorem dX11_holds_13 : decode cX11_holds 13 = .ok (.ifCond .ne 5, 3) := by decide +kernel
theorem dX11_holds_16 : decode cX11_holds 16 = .ok (.iconst (-1), 1) := by decide +kernel
theorem dX11_holds_17 : decode cX11_holds 17 = .ok (.ireturn, 1) := by decide +kernel
theorem dX11_holds_18 : decode cX11_holds 18 = .ok (.aload_n 0, 1) := by decide +kernel
theorem dX11_holds_19 : decode cX11_holds 19 = .ok (.invokevirtual 198, 3) := by decide +kernel
theorem dX11_holds_22 : decode cX11_holds 22 = .ok (.aload_n 0, 1) := by decide +kernel
theorem dX11_holds_23 : decode cX11_holds 23 = .ok (.getfield 28, 3) := by decide +kernel
theorem dX11_holds_26 : decode cX11_holds 26 = .ok (.iload_n 1, 1) := by decide +kernel
theorem dX11_holds_27 : decode cX11_holds 27 = .ok (.iload_n 2, 1) := by decide +kernel
theorem dX11_holds_28 : decode cX11_holds 28 = .ok (.invokevirtual 201, 3) := by decide +kernel
theorem dX11_holds_31 : decode cX11_holds 31 = .ok (.ireturn, 1) := by decide +kernel
theorem dX11_found_0 : decode cX11_found 0 = .ok (.aload_n 0, 1) := by decide +kernel
theorem dX11_found_1 : decode cX11_found 1 = .ok (.iload_n 1, 1) := by decide +kernel
theorem dX11_found_2 : decode cX11_found 2 = .ok (.invokevirtual 195, 3) := by decide +kernel
theorem dX11_found_5 : decode cX11_found 5 = .ok (.ifCond .ne 5, 3) := by decide +kernel
theorem dX11_found_8 : decode cX11_found 8 = .ok (.iconst (-1), 1) := by decide +kernel
theorem dX11_found_9 : decode cX11_found 9 = .ok (.ireturn, 1) := by decide +kernel
theorem dX11_found_10 : decode cX11_found 10 = .ok (.aload_n 0, 1) := by decide +kernel
theorem dX11_found_11 : decode cX11_found 11 = .ok (.invokevirtual 198, 3) := by decide +kernel
theorem dX11_found_14 : decode cX11_found 14 = .ok (.aload_n 0, 1) := by decide +kernel
theorem dX11_found_15 : decode cX11_found 15 = .ok (.getfield 28, 3) := by decide +kernel
theorem dX11_found_18 : decode cX11_found 18 = .ok (.getfield 204, 3) := by decide +kernel
theorem dX11_found_21 : decode cX11_found 21 = .ok (.iload_n 1, 1) := by decide +kernel
theorem dX11_found_22 : decode cX11_found 22 = .ok (.iaload, 1) := by decide +kernel
theorem dX11_found_23 : decode cX11_found 23 = .ok (.invokestatic 207, 3) := by decide +kernel
theorem dX11_found_26 : decode cX11_found 26 = .ok (.ireturn, 1) := by decide +kernel
theorem dX11_tie_0 : decode cX11_tie 0 = .ok (.aload_n 0, 1) := by decide +kernel
theorem dX11_tie_1 : decode cX11_tie 1 = .ok (.iload_n 1, 1) := by decide +kernel
theorem dX11_tie_2 : decode cX11_tie 2 = .ok (.invokevirtual 175, 3) := by decide +kernel
theorem dX11_tie_5 : decode cX11_tie 5 = .ok (.ifCond .eq 11, 3) := by decide +kernel
theorem dX11_tie_8 : decode cX11_tie 8 = .ok (.aload_n 0, 1) := by decide +kernel
theorem dX11_tie_9 : decode cX11_tie 9 = .ok (.iload_n 2, 1) := by decide +kernel
theorem dX11_tie_10 : decode cX11_tie 10 = .ok (.invokevirtual 175, 3) := by decide +kernel
theorem dX11_tie_13 : decode cX11_tie 13 = .ok (.ifCond .ne 5, 3) := by decide +kernel
theorem dX11_tie_16 : decode cX11_tie 16 = .ok (.iconst (-1), 1) := by decide +kernel
theorem dX11_tie_17 : decode cX11_tie 17 = .ok (.ireturn, 1) := by decide +kernel
theorem dX11_tie_18 : decode cX11_tie 18 = .ok (.aload_n 0, 1) := by decide +kernel
theorem dX11_tie_19 : decode cX11_tie 19 = .ok (.invokevirtual 212, 3) := by decide +kernel
theorem dX11_tie_22 : decode cX11_tie 22 = .ok (.aload_n 0, 1) := by decide +kernel
theorem dX11_tie_23 : decode cX11_tie 23 = .ok (.getfield 35, 3) := by decide +kernel
theorem dX11_tie_26 : decode cX11_tie 26 = .ok (.iload_n 1, 1) := by decide +kernel
theorem dX11_tie_27 : decode cX11_tie 27 = .ok (.iload_n 2, 1) := by decide +kernel
theorem dX11_tie_28 : decode cX11_tie 28 = .ok (.invokevirtual 215, 3) := by decide +kernel
theorem dX11_tie_31 : decode cX11_tie 31 = .ok (.istore_n 3, 1) := by decide +kernel
theorem dX11_tie_32 : decode cX11_tie 32 = .ok (.iload_n 3, 1) := by decide +kernel
theorem dX11_tie_33 : decode cX11_tie 33 = .ok (.ifCond .ne 7, 3) := by decide +kernel
theorem dX11_tie_36 : decode cX11_tie 36 = .ok (.iconst (-1), 1) := by decide +kernel
theorem dX11_tie_37 : decode cX11_tie 37 = .ok (.goto 4, 3) := by decide +kernel
theorem dX11_tie_40 : decode cX11_tie 40 = .ok (.iload_n 3, 1) := by decide +kernel
theorem dX11_tie_41 : decode cX11_tie 41 = .ok (.ireturn, 1) := by decide +kernel
theorem dX11_joining_0 : decode cX11_joining 0 = .ok (.aload_n 0, 1) := by decide +kernel
theorem dX11_joining_1 : decode cX11_joining 1 = .ok (.invokevirtual 139, 3) := by decide +kernel
theorem dX11_joining_4 : decode cX11_joining 4 = .ok (.ifCond .eq 14, 3) := by decide +kernel
theorem dX11_joining_7 : decode cX11_joining 7 = .ok (.aload_n 0, 1) := by decide +kernel
theorem dX11_joining_8 : decode cX11_joining 8 = .ok (.getfield 51, 3) := by decide +kernel
theorem dX11_joining_11 : decode cX11_joining 11 = .ok (.iload_n 1, 1) := by decide +kernel
theorem dX11_joining_12 : decode cX11_joining 12 = .ok (.invokevirtual 218, 3) := by decide +kernel
theorem dX11_joining_15 : decode cX11_joining 15 = .ok (.ifCond .ne 5, 3) := by decide +kernel
theorem dX11_joining_18 : decode cX11_joining 18 = .ok (.iconst (-1), 1) := by decide +kernel
theorem dX11_joining_19 : decode cX11_joining 19 = .ok (.ireturn, 1) := by decide +kernel
theorem dX11_joining_20 : decode cX11_joining 20 = .ok (.iload_n 2, 1) := by decide +kernel
theorem dX11_joining_21 : decode cX11_joining 21 = .ok (.tableswitch 67 0 3 #[31, 40, 49, 58], 31) := by decide +kernel
theorem dX11_joining_52 : decode cX11_joining 52 = .ok (.aload_n 0, 1) := by decide +kernel
theorem dX11_joining_53 : decode cX11_joining 53 = .ok (.getfield 51, 3) := by decide +kernel
theorem dX11_joining_56 : decode cX11_joining 56 = .ok (.iload_n 1, 1) := by decide +kernel
theorem dX11_joining_57 : decode cX11_joining 57 = .ok (.invokevirtual 221, 3) := by decide +kernel
theorem dX11_joining_60 : decode cX11_joining 60 = .ok (.ireturn, 1) := by decide +kernel
theorem dX11_joining_61 : decode cX11_joining 61 = .ok (.aload_n 0, 1) := by decide +kernel
theorem dX11_joining_62 : decode cX11_joining 62 = .ok (.getfield 51, 3) := by decide +kernel
theorem dX11_joining_65 : decode cX11_joining 65 = .ok (.iload_n 1, 1) := by decide +kernel
theorem dX11_joining_66 : decode cX11_joining 66 = .ok (.invokevirtual 224, 3) := by decide +kernel
theorem dX11_joining_69 : decode cX11_joining 69 = .ok (.ireturn, 1) := by decide +kernel
theorem dX11_joining_70 : decode cX11_joining 70 = .ok (.aload_n 0, 1) := by decide +kernel
theorem dX11_joining_71 : decode cX11_joining 71 = .ok (.getfield 58, 3) := by decide +kernel
theorem dX11_joining_74 : decode cX11_joining 74 = .ok (.iload_n 1, 1) := by decide +kernel
theorem dX11_joining_75 : decode cX11_joining 75 = .ok (.invokevirtual 226, 3) := by decide +kernel
theorem dX11_joining_78 : decode cX11_joining 78 = .ok (.ireturn, 1) := by decide +kernel
theorem dX11_joining_79 : decode cX11_joining 79 = .ok (.aload_n 0, 1) := by decide +kernel
theorem dX11_joining_80 : decode cX11_joining 80 = .ok (.getfield 51, 3) := by decide +kernel
theorem dX11_joining_83 : decode cX11_joining 83 = .ok (.iload_n 1, 1) := by decide +kernel
theorem dX11_joining_84 : decode cX11_joining 84 = .ok (.invokevirtual 229, 3) := by decide +kernel
theorem dX11_joining_87 : decode cX11_joining 87 = .ok (.ireturn, 1) := by decide +kernel
theorem dX11_joining_88 : decode cX11_joining 88 = .ok (.iconst (-1), 1) := by decide +kernel
theorem dX11_joining_89 : decode cX11_joining 89 = .ok (.ireturn, 1) := by decide +kernel
theorem dX11_place_0 : decode cX11_place 0 = .ok (.aload_n 0, 1) := by decide +kernel
theorem dX11_place_1 : decode cX11_place 1 = .ok (.iload_n 2, 1) := by decide +kernel
theorem dX11_place_2 : decode cX11_place 2 = .ok (.invokevirtual 195, 3) := by decide +kernel
theorem dX11_place_5 : decode cX11_place 5 = .ok (.ifCond .eq 21, 3) := by decide +kernel
theorem dX11_place_8 : decode cX11_place 8 = .ok (.aload_n 0, 1) := by decide +kernel
theorem dX11_place_9 : decode cX11_place 9 = .ok (.invokevirtual 139, 3) := by decide +kernel
theorem dX11_place_12 : decode cX11_place 12 = .ok (.ifCond .eq 14, 3) := by decide +kernel
theorem dX11_place_15 : decode cX11_place 15 = .ok (.aload_n 0, 1) := by decide +kernel
theorem dX11_place_16 : decode cX11_place 16 = .ok (.getfield 51, 3) := by decide +kernel
theorem dX11_place_19 : decode cX11_place 19 = .ok (.iload_n 1, 1) := by decide +kernel
theorem dX11_place_20 : decode cX11_place 20 = .ok (.invokevirtual 218, 3) := by decide +kernel
theorem dX11_place_23 : decode cX11_place 23 = .ok (.ifCond .ne 5, 3) := by decide +kernel
theorem dX11_place_26 : decode cX11_place 26 = .ok (.iconst (-1), 1) := by decide +kernel
theorem dX11_place_27 : decode cX11_place 27 = .ok (.ireturn, 1) := by decide +kernel
theorem dX11_place_28 : decode cX11_place 28 = .ok (.aload_n 0, 1) := by decide +kernel
theorem dX11_place_29 : decode cX11_place 29 = .ok (.getfield 28, 3) := by decide +kernel
theorem dX11_place_32 : decode cX11_place 32 = .ok (.aload_n 0, 1) := by decide +kernel
theorem dX11_place_33 : decode cX11_place 33 = .ok (.getfield 51, 3) := by decide +kernel
theorem dX11_place_36 : decode cX11_place 36 = .ok (.iload_n 1, 1) := by decide +kernel
theorem dX11_place_37 : decode cX11_place 37 = .ok (.invokevirtual 221, 3) := by decide +kernel
theorem dX11_place_40 : decode cX11_place 40 = .ok (.iload_n 2, 1) := by decide +kernel
theorem dX11_place_41 : decode cX11_place 41 = .ok (.invokevirtual 232, 3) := by decide +kernel
theorem dX11_place_44 : decode cX11_place 44 = .ok (.ireturn, 1) := by decide +kernel
theorem dX11_looks_0 : decode cX11_looks 0 = .ok (.iload_n 1, 1) := by decide +kernel
theorem dX11_looks_1 : decode cX11_looks 1 = .ok (.ifCond .lt 16, 3) := by decide +kernel
theorem dX11_looks_4 : decode cX11_looks 4 = .ok (.iload_n 1, 1) := by decide +kernel
theorem dX11_looks_5 : decode cX11_looks 5 = .ok (.ldc 235, 2) := by decide +kernel
theorem dX11_looks_7 : decode cX11_looks 7 = .ok (.if_icmp .gt 10, 3) := by decide +kernel
theorem dX11_looks_10 : decode cX11_looks 10 = .ok (.aload_n 0, 1) := by decide +kernel
theorem dX11_looks_11 : decode cX11_looks 11 = .ok (.invokevirtual 139, 3) := by decide +kernel
theorem dX11_looks_14 : decode cX11_looks 14 = .ok (.ifCond .ne 5, 3) := by decide +kernel
theorem dX11_looks_17 : decode cX11_looks 17 = .ok (.iconst (-1), 1) := by decide +kernel
theorem dX11_looks_18 : decode cX11_looks 18 = .ok (.ireturn, 1) := by decide +kernel
theorem dX11_looks_19 : decode cX11_looks 19 = .ok (.iload_n 2, 1) := by decide +kernel
theorem dX11_looks_20 : decode cX11_looks 20 = .ok (.tableswitch 58 0 2 #[28, 37, 46], 28) := by decide +kernel
theorem dX11_looks_48 : decode cX11_looks 48 = .ok (.aload_n 0, 1) := by decide +kernel
theorem dX11_looks_49 : decode cX11_looks 49 = .ok (.getfield 51, 3) := by decide +kernel
theorem dX11_looks_52 : decode cX11_looks 52 = .ok (.iload_n 1, 1) := by decide +kernel
theorem dX11_looks_53 : decode cX11_looks 53 = .ok (.invokevirtual 236, 3) := by decide +kernel
theorem dX11_looks_56 : decode cX11_looks 56 = .ok (.ireturn, 1) := by decide +kernel
theorem dX11_looks_57 : decode cX11_looks 57 = .ok (.aload_n 0, 1) := by decide +kernel
theorem dX11_looks_58 : decode cX11_looks 58 = .ok (.getfield 51, 3) := by decide +kernel
theorem dX11_looks_61 : decode cX11_looks 61 = .ok (.iload_n 1, 1) := by decide +kernel
theorem dX11_looks_62 : decode cX11_looks 62 = .ok (.invokevirtual 239, 3) := by decide +kernel
theorem dX11_looks_65 : decode cX11_looks 65 = .ok (.ireturn, 1) := by decide +kernel
theorem dX11_looks_66 : decode cX11_looks 66 = .ok (.iload_n 1, 1) := by decide +kernel
theorem dX11_looks_67 : decode cX11_looks 67 = .ok (.aload_n 0, 1) := by decide +kernel
theorem dX11_looks_68 : decode cX11_looks 68 = .ok (.getfield 51, 3) := by decide +kernel
theorem dX11_looks_71 : decode cX11_looks 71 = .ok (.getfield 242, 3) := by decide +kernel
theorem dX11_looks_74 : decode cX11_looks 74 = .ok (.invokestatic 245, 3) := by decide +kernel
theorem dX11_looks_77 : decode cX11_looks 77 = .ok (.ireturn, 1) := by decide +kernel
theorem dX11_looks_78 : decode cX11_looks 78 = .ok (.iconst (-1), 1) := by decide +kernel
theorem dX11_looks_79 : decode cX11_looks 79 = .ok (.ireturn, 1) := by decide +kernel
theorem dX11_asked_0 : decode cX11_asked 0 = .ok (.aload_n 0, 1) := by decide +kernel
theorem dX11_asked_1 : decode cX11_asked 1 = .ok (.invokevirtual 139, 3) := by decide +kernel
theorem dX11_asked_4 : decode cX11_asked 4 = .ok (.ifCond .eq 14, 3) := by decide +kernel
theorem dX11_asked_7 : decode cX11_asked 7 = .ok (.aload_n 0, 1) := by decide +kernel
theorem dX11_asked_8 : decode cX11_asked 8 = .ok (.getfield 58, 3) := by decide +kernel
theorem dX11_asked_11 : decode cX11_asked 11 = .ok (.iload_n 1, 1) := by decide +kernel
theorem dX11_asked_12 : decode cX11_asked 12 = .ok (.invokevirtual 250, 3) := by decide +kernel
theorem dX11_asked_15 : decode cX11_asked 15 = .ok (.ifCond .ne 5, 3) := by decide +kernel
theorem dX11_asked_18 : decode cX11_asked 18 = .ok (.iconst (-1), 1) := by decide +kernel
theorem dX11_asked_19 : decode cX11_asked 19 = .ok (.ireturn, 1) := by decide +kernel
theorem dX11_asked_20 : decode cX11_asked 20 = .ok (.iload_n 2, 1) := by decide +kernel
theorem dX11_asked_21 : decode cX11_asked 21 = .ok (.tableswitch 88 0 4 #[35, 44, 53, 62, 71], 35) := by decide +kernel
theorem dX11_asked_56 : decode cX11_asked 56 = .ok (.aload_n 0, 1) := by decide +kernel
theorem dX11_asked_57 : decode cX11_asked 57 = .ok (.getfield 58, 3) := by decide +kernel
theorem dX11_asked_60 : decode cX11_asked 60 = .ok (.iload_n 1, 1) := by decide +kernel
theorem dX11_asked_61 : decode cX11_asked 61 = .ok (.invokevirtual 251, 3) := by decide +kernel
theorem dX11_asked_64 : decode cX11_asked 64 = .ok (.ireturn, 1) := by decide +kernel
theorem dX11_asked_65 : decode cX11_asked 65 = .ok (.aload_n 0, 1) := by decide +kernel
theorem dX11_asked_66 : decode cX11_asked 66 = .ok (.getfield 58, 3) := by decide +kernel
theorem dX11_asked_69 : decode cX11_asked 69 = .ok (.iload_n 1, 1) := by decide +kernel
theorem dX11_asked_70 : decode cX11_asked 70 = .ok (.invokevirtual 254, 3) := by decide +kernel
theorem dX11_asked_73 : decode cX11_asked 73 = .ok (.ireturn, 1) := by decide +kernel
theorem dX11_asked_74 : decode cX11_asked 74 = .ok (.aload_n 0, 1) := by decide +kernel
theorem dX11_asked_75 : decode cX11_asked 75 = .ok (.getfield 58, 3) := by decide +kernel
theorem dX11_asked_78 : decode cX11_asked 78 = .ok (.iload_n 1, 1) := by decide +kernel
theorem dX11_asked_79 : decode cX11_asked 79 = .ok (.invokevirtual 257, 3) := by decide +kernel
theorem dX11_asked_82 : decode cX11_asked 82 = .ok (.ireturn, 1) := by decide +kernel
theorem dX11_asked_83 : decode cX11_asked 83 = .ok (.aload_n 0, 1) := by decide +kernel
theorem dX11_asked_84 : decode cX11_asked 84 = .ok (.getfield 58, 3) := by decide +kernel
theorem dX11_asked_87 : decode cX11_asked 87 = .ok (.iload_n 1, 1) := by decide +kernel
theorem dX11_asked_88 : decode cX11_asked 88 = .ok (.invokevirtual 260, 3) := by decide +kernel
theorem dX11_asked_91 : decode cX11_asked 91 = .ok (.ireturn, 1) := by decide +kernel
theorem dX11_asked_92 : decode cX11_asked 92 = .ok (.aload_n 0, 1) := by decide +kernel
theorem dX11_asked_93 : decode cX11_asked 93 = .ok (.getfield 58, 3) := by decide +kernel
theorem dX11_asked_96 : decode cX11_asked 96 = .ok (.iload_n 1, 1) := by decide +kernel
theorem dX11_asked_97 : decode cX11_asked 97 = .ok (.aload_n 0, 1) := by decide +kernel
theorem dX11_asked_98 : decode cX11_asked 98 = .ok (.getfield 72, 3) := by decide +kernel
theorem dX11_asked_101 : decode cX11_asked 101 = .ok (.aload_n 0, 1) := by decide +kernel
theorem dX11_asked_102 : decode cX11_asked 102 = .ok (.getfield 82, 3) := by decide +kernel
theorem dX11_asked_105 : decode cX11_asked 105 = .ok (.invokevirtual 263, 3) := by decide +kernel
theorem dX11_asked_108 : decode cX11_asked 108 = .ok (.ireturn, 1) := by decide +kernel
theorem dX11_asked_109 : decode cX11_asked 109 = .ok (.iconst (-1), 1) := by decide +kernel
theorem dX11_asked_110 : decode cX11_asked 110 = .ok (.ireturn, 1) := by decide +kernel
theorem dX11_said_0 : decode cX11_said 0 = .ok (.aload_n 0, 1) := by decide +kernel
theorem dX11_said_1 : decode cX11_said 1 = .ok (.invokevirtual 139, 3) := by decide +kernel
theorem dX11_said_4 : decode cX11_said 4 = .ok (.ifCond .eq 14, 3) := by decide +kernel
theorem dX11_said_7 : decode cX11_said 7 = .ok (.aload_n 0, 1) := by decide +kernel
theorem dX11_said_8 : decode cX11_said 8 = .ok (.getfield 58, 3) := by decide +kernel
theorem dX11_said_11 : decode cX11_said 11 = .ok (.iload_n 1, 1) := by decide +kernel
theorem dX11_said_12 : decode cX11_said 12 = .ok (.invokevirtual 250, 3) := by decide +kernel
theorem dX11_said_15 : decode cX11_said 15 = .ok (.ifCond .ne 5, 3) := by decide +kernel
theorem dX11_said_18 : decode cX11_said 18 = .ok (.iconst (-1), 1) := by decide +kernel
theorem dX11_said_19 : decode cX11_said 19 = .ok (.ireturn, 1) := by decide +kernel
theorem dX11_said_20 : decode cX11_said 20 = .ok (.aload_n 0, 1) := by decide +kernel
theorem dX11_said_21 : decode cX11_said 21 = .ok (.getfield 58, 3) := by decide +kernel
theorem dX11_said_24 : decode cX11_said 24 = .ok (.iload_n 1, 1) := by decide +kernel
theorem dX11_said_25 : decode cX11_said 25 = .ok (.iload_n 2, 1) := by decide +kernel
theorem dX11_said_26 : decode cX11_said 26 = .ok (.aload_n 0, 1) := by decide +kernel
theorem dX11_said_27 : decode cX11_said 27 = .ok (.getfield 72, 3) := by decide +kernel
theorem dX11_said_30 : decode cX11_said 30 = .ok (.aload_n 0, 1) := by decide +kernel
theorem dX11_said_31 : decode cX11_said 31 = .ok (.getfield 82, 3) := by decide +kernel
theorem dX11_said_34 : decode cX11_said 34 = .ok (.invokevirtual 267, 3) := by decide +kernel
theorem dX11_said_37 : decode cX11_said 37 = .ok (.ireturn, 1) := by decide +kernel
theorem dX11_choose_0 : decode cX11_choose 0 = .ok (.aload_n 0, 1) := by decide +kernel
theorem dX11_choose_1 : decode cX11_choose 1 = .ok (.invokevirtual 139, 3) := by decide +kernel
theorem dX11_choose_4 : decode cX11_choose 4 = .ok (.ifCond .eq 25, 3) := by decide +kernel
theorem dX11_choose_7 : decode cX11_choose 7 = .ok (.aload_n 0, 1) := by decide +kernel
theorem dX11_choose_8 : decode cX11_choose 8 = .ok (.getfield 58, 3) := by decide +kernel
theorem dX11_choose_11 : decode cX11_choose 11 = .ok (.iload_n 1, 1) := by decide +kernel
theorem dX11_choose_12 : decode cX11_choose 12 = .ok (.invokevirtual 250, 3) := by decide +kernel
theorem dX11_choose_15 : decode cX11_choose 15 = .ok (.ifCond .eq 14, 3) := by decide +kernel
theorem dX11_choose_18 : decode cX11_choose 18 = .ok (.aload_n 0, 1) := by decide +kernel
theorem dX11_choose_19 : decode cX11_choose 19 = .ok (.getfield 58, 3) := by decide +kernel
theorem dX11_choose_22 : decode cX11_choose 22 = .ok (.iload_n 1, 1) := by decide +kernel
theorem dX11_choose_23 : decode cX11_choose 23 = .ok (.invokevirtual 271, 3) := by decide +kernel
theorem dX11_choose_26 : decode cX11_choose 26 = .ok (.goto 4, 3) := by decide +kernel
theorem dX11_choose_29 : decode cX11_choose 29 = .ok (.iconst (-1), 1) := by decide +kernel
theorem dX11_choose_30 : decode cX11_choose 30 = .ok (.ireturn, 1) := by decide +kernel
theorem dX11_parts_0 : decode cX11_parts 0 = .ok (.iload_n 1, 1) := by decide +kernel
theorem dX11_parts_1 : decode cX11_parts 1 = .ok (.ifCond .lt 15, 3) := by decide +kernel
theorem dX11_parts_4 : decode cX11_parts 4 = .ok (.iload_n 1, 1) := by decide +kernel
theorem dX11_parts_5 : decode cX11_parts 5 = .ok (.iconst 1, 1) := by decide +kernel
theorem dX11_parts_6 : decode cX11_parts 6 = .ok (.if_icmp .gt 10, 3) := by decide +kernel
theorem dX11_parts_9 : decode cX11_parts 9 = .ok (.aload_n 0, 1) := by decide +kernel
theorem dX11_parts_10 : decode cX11_parts 10 = .ok (.invokevirtual 139, 3) := by decide +kernel
theorem dX11_parts_13 : decode cX11_parts 13 = .ok (.ifCond .ne 7, 3) := by decide +kernel
theorem dX11_parts_16 : decode cX11_parts 16 = .ok (.ldc2_w 178, 3) := by decide +kernel
theorem dX11_parts_19 : decode cX11_parts 19 = .ok (.lreturn, 1) := by decide +kernel
theorem dX11_parts_20 : decode cX11_parts 20 = .ok (.aload_n 0, 1) := by decide +kernel
theorem dX11_parts_21 : decode cX11_parts 21 = .ok (.getfield 65, 3) := by decide +kernel
theorem dX11_parts_24 : decode cX11_parts 24 = .ok (.aload_n 0, 1) := by decide +kernel
theorem dX11_parts_25 : decode cX11_parts 25 = .ok (.getfield 72, 3) := by decide +kernel
theorem dX11_parts_28 : decode cX11_parts 28 = .ok (.aload_n 0, 1) := by decide +kernel
theorem dX11_parts_29 : decode cX11_parts 29 = .ok (.getfield 82, 3) := by decide +kernel
theorem dX11_parts_32 : decode cX11_parts 32 = .ok (.aload_n 0, 1) := by decide +kernel
theorem dX11_parts_33 : decode cX11_parts 33 = .ok (.getfield 51, 3) := by decide +kernel
theorem dX11_parts_36 : decode cX11_parts 36 = .ok (.invokevirtual 274, 3) := by decide +kernel
theorem dX11_parts_39 : decode cX11_parts 39 = .ok (.aload_n 0, 1) := by decide +kernel
theorem dX11_parts_40 : decode cX11_parts 40 = .ok (.getfield 65, 3) := by decide +kernel
theorem dX11_parts_43 : decode cX11_parts 43 = .ok (.getfield 277, 3) := by decide +kernel
theorem dX11_parts_46 : decode cX11_parts 46 = .ok (.lconst 0, 1) := by decide +kernel
theorem dX11_parts_47 : decode cX11_parts 47 = .ok (.lcmp, 1) := by decide +kernel
theorem dX11_parts_48 : decode cX11_parts 48 = .ok (.ifCond .ne 7, 3) := by decide +kernel
theorem dX11_parts_51 : decode cX11_parts 51 = .ok (.ldc2_w 178, 3) := by decide +kernel
theorem dX11_parts_54 : decode cX11_parts 54 = .ok (.lreturn, 1) := by decide +kernel
theorem dX11_parts_55 : decode cX11_parts 55 = .ok (.iload_n 1, 1) := by decide +kernel
theorem dX11_parts_56 : decode cX11_parts 56 = .ok (.ifCond .ne 13, 3) := by decide +kernel
theorem dX11_parts_59 : decode cX11_parts 59 = .ok (.aload_n 0, 1) := by decide +kernel
theorem dX11_parts_60 : decode cX11_parts 60 = .ok (.getfield 65, 3) := by decide +kernel
theorem dX11_parts_63 : decode cX11_parts 63 = .ok (.getfield 277, 3) := by decide +kernel
theorem dX11_parts_66 : decode cX11_parts 66 = .ok (.goto 11, 3) := by decide +kernel
theorem dX11_parts_69 : decode cX11_parts 69 = .ok (.aload_n 0, 1) := by decide +kernel
theorem dX11_parts_70 : decode cX11_parts 70 = .ok (.getfield 65, 3) := by decide +kernel
theorem dX11_parts_73 : decode cX11_parts 73 = .ok (.getfield 281, 3) := by decide +kernel
theorem dX11_parts_76 : decode cX11_parts 76 = .ok (.i2l, 1) := by decide +kernel
theorem dX11_parts_77 : decode cX11_parts 77 = .ok (.lreturn, 1) := by decide +kernel
theorem dX11_left_0 : decode cX11_left 0 = .ok (.aload_n 0, 1) := by decide +kernel
theorem dX11_left_1 : decode cX11_left 1 = .ok (.invokevirtual 139, 3) := by decide +kernel
theorem dX11_left_4 : decode cX11_left 4 = .ok (.ifCond .eq 13, 3) := by decide +kernel
theorem dX11_left_7 : decode cX11_left 7 = .ok (.aload_n 0, 1) := by decide +kernel
theorem dX11_left_8 : decode cX11_left 8 = .ok (.getfield 51, 3) := by decide +kernel
theorem dX11_left_11 : decode cX11_left 11 = .ok (.invokevirtual 284, 3) := by decide +kernel
theorem dX11_left_14 : decode cX11_left 14 = .ok (.goto 4, 3) := by decide +kernel
theorem dX11_left_17 : decode cX11_left 17 = .ok (.iconst (-1), 1) := by decide +kernel
theorem dX11_left_18 : decode cX11_left 18 = .ok (.ireturn, 1) := by decide +kernel
theorem dX11_near_0 : decode cX11_near 0 = .ok (.aload_n 0, 1) := by decide +kernel
theorem dX11_near_1 : decode cX11_near 1 = .ok (.iload_n 1, 1) := by decide +kernel
theorem dX11_near_2 : decode cX11_near 2 = .ok (.invokevirtual 195, 3) := by decide +kernel
theorem dX11_near_5 : decode cX11_near 5 = .ok (.ifCond .eq 15, 3) := by decide +kernel
theorem dX11_near_8 : decode cX11_near 8 = .ok (.aload_n 0, 1) := by decide +kernel
theorem dX11_near_9 : decode cX11_near 9 = .ok (.getfield 82, 3) := by decide +kernel
theorem dX11_near_12 : decode cX11_near 12 = .ok (.getfield 287, 3) := by decide +kernel
theorem dX11_near_15 : decode cX11_near 15 = .ok (.iload_n 1, 1) := by decide +kernel
theorem dX11_near_16 : decode cX11_near 16 = .ok (.iaload, 1) := by decide +kernel
theorem dX11_near_17 : decode cX11_near 17 = .ok (.ifCond .eq 7, 3) := by decide +kernel
theorem dX11_near_20 : decode cX11_near 20 = .ok (.ldc2_w 178, 3) := by decide +kernel
theorem dX11_near_23 : decode cX11_near 23 = .ok (.lreturn, 1) := by decide +kernel
theorem dX11_near_24 : decode cX11_near 24 = .ok (.aload_n 0, 1) := by decide +kernel
theorem dX11_near_25 : decode cX11_near 25 = .ok (.getfield 28, 3) := by decide +kernel
theorem dX11_near_28 : decode cX11_near 28 = .ok (.aload_n 0, 1) := by decide +kernel
theorem dX11_near_29 : decode cX11_near 29 = .ok (.getfield 72, 3) := by decide +kernel
theorem dX11_near_32 : decode cX11_near 32 = .ok (.aload_n 0, 1) := by decide +kernel
theorem dX11_near_33 : decode cX11_near 33 = .ok (.invokevirtual 171, 3) := by decide +kernel
theorem dX11_near_36 : decode cX11_near 36 = .ok (.aload_n 0, 1) := by decide +kernel
theorem dX11_near_37 : decode cX11_near 37 = .ok (.getfield 82, 3) := by decide +kernel
theorem dX11_near_40 : decode cX11_near 40 = .ok (.getfield 290, 3) := by decide +kernel
theorem dX11_near_43 : decode cX11_near 43 = .ok (.iload_n 1, 1) := by decide +kernel
theorem dX11_near_44 : decode cX11_near 44 = .ok (.laload, 1) := by decide +kernel
theorem dX11_near_45 : decode cX11_near 45 = .ok (.iload_n 2, 1) := by decide +kernel
theorem dX11_near_46 : decode cX11_near 46 = .ok (.invokevirtual 294, 3) := by decide +kernel
theorem dX11_near_49 : decode cX11_near 49 = .ok (.lreturn, 1) := by decide +kernel
theorem dX11_meant_0 : decode cX11_meant 0 = .ok (.aload_n 0, 1) := by decide +kernel
theorem dX11_meant_1 : decode cX11_meant 1 = .ok (.getfield 89, 3) := by decide +kernel
theorem dX11_meant_4 : decode cX11_meant 4 = .ok (.iconst 0, 1) := by decide +kernel
theorem dX11_meant_5 : decode cX11_meant 5 = .ok (.iaload, 1) := by decide +kernel
theorem dX11_meant_6 : decode cX11_meant 6 = .ok (.bipush 40, 2) := by decide +kernel
theorem dX11_meant_8 : decode cX11_meant 8 = .ok (.if_icmp .lt 7, 3) := by decide +kernel
theorem dX11_meant_11 : decode cX11_meant 11 = .ok (.iconst 1, 1) := by decide +kernel
theorem dX11_meant_12 : decode cX11_meant 12 = .ok (.goto 4, 3) := by decide +kernel
theorem dX11_meant_15 : decode cX11_meant 15 = .ok (.iconst 0, 1) := by decide +kernel
theorem dX11_meant_16 : decode cX11_meant 16 = .ok (.istore_n 2, 1) := by decide +kernel
theorem dX11_meant_17 : decode cX11_meant 17 = .ok (.iload_n 1, 1) := by decide +kernel
theorem dX11_meant_18 : decode cX11_meant 18 = .ok (.ifCond .eq 28, 3) := by decide +kernel
theorem dX11_meant_21 : decode cX11_meant 21 = .ok (.iload_n 1, 1) := by decide +kernel
theorem dX11_meant_22 : decode cX11_meant 22 = .ok (.aload_n 0, 1) := by decide +kernel
theorem dX11_meant_23 : decode cX11_meant 23 = .ok (.getfield 72, 3) := by decide +kernel
theorem dX11_meant_26 : decode cX11_meant 26 = .ok (.invokevirtual 298, 3) := by decide +kernel
theorem dX11_meant_29 : decode cX11_meant 29 = .ok (.iconst (-1), 1) := by decide +kernel
theorem dX11_meant_30 : decode cX11_meant 30 = .ok (.ixor, 1) := by decide +kernel
theorem dX11_meant_31 : decode cX11_meant 31 = .ok (.iand, 1) := by decide +kernel
theorem dX11_meant_32 : decode cX11_meant 32 = .ok (.ifCond .ne 14, 3) := by decide +kernel
theorem dX11_meant_35 : decode cX11_meant 35 = .ok (.iload_n 2, 1) := by decide +kernel
theorem dX11_meant_36 : decode cX11_meant 36 = .ok (.ifCond .ne 10, 3) := by decide +kernel
theorem dX11_meant_39 : decode cX11_meant 39 = .ok (.aload_n 0, 1) := by decide +kernel
theorem dX11_meant_40 : decode cX11_meant 40 = .ok (.invokevirtual 139, 3) := by decide +kernel
theorem dX11_meant_43 : decode cX11_meant 43 = .ok (.ifCond .ne 5, 3) := by decide +kernel
theorem dX11_meant_46 : decode cX11_meant 46 = .ok (.iconst (-1), 1) := by decide +kernel
theorem dX11_meant_47 : decode cX11_meant 47 = .ok (.ireturn, 1) := by decide +kernel
theorem dX11_meant_48 : decode cX11_meant 48 = .ok (.aload_n 0, 1) := by decide +kernel
theorem dX11_meant_49 : decode cX11_meant 49 = .ok (.getfield 51, 3) := by decide +kernel
theorem dX11_meant_52 : decode cX11_meant 52 = .ok (.iload_n 1, 1) := by decide +kernel
theorem dX11_meant_53 : decode cX11_meant 53 = .ok (.invokevirtual 301, 3) := by decide +kernel
theorem dX11_meant_56 : decode cX11_meant 56 = .ok (.istore_n 3, 1) := by decide +kernel
theorem dX11_meant_57 : decode cX11_meant 57 = .ok (.iload_n 3, 1) := by decide +kernel
theorem dX11_meant_58 : decode cX11_meant 58 = .ok (.iconst (-1), 1) := by decide +kernel
theorem dX11_meant_59 : decode cX11_meant 59 = .ok (.if_icmp .eq 32, 3) := by decide +kernel
theorem dX11_meant_62 : decode cX11_meant 62 = .ok (.aload_n 0, 1) := by decide +kernel
theorem dX11_meant_63 : decode cX11_meant 63 = .ok (.getfield 89, 3) := by decide +kernel
theorem dX11_meant_66 : decode cX11_meant 66 = .ok (.iconst 1, 1) := by decide +kernel
theorem dX11_meant_67 : decode cX11_meant 67 = .ok (.dup2, 1) := by decide +kernel
theorem dX11_meant_68 : decode cX11_meant 68 = .ok (.iaload, 1) := by decide +kernel
theorem dX11_meant_69 : decode cX11_meant 69 = .ok (.iload_n 3, 1) := by decide +kernel
theorem dX11_meant_70 : decode cX11_meant 70 = .ok (.iconst 3, 1) := by decide +kernel
theorem dX11_meant_71 : decode cX11_meant 71 = .ok (.if_icmp .ge 7, 3) := by decide +kernel
theorem dX11_meant_74 : decode cX11_meant 74 = .ok (.iconst 1, 1) := by decide +kernel
theorem dX11_meant_75 : decode cX11_meant 75 = .ok (.goto 4, 3) := by decide +kernel
theorem dX11_meant_78 : decode cX11_meant 78 = .ok (.iconst 0, 1) := by decide +kernel
theorem dX11_meant_79 : decode cX11_meant 79 = .ok (.iadd, 1) := by decide +kernel
theorem dX11_meant_80 : decode cX11_meant 80 = .ok (.iastore, 1) := by decide +kernel
theorem dX11_meant_81 : decode cX11_meant 81 = .ok (.aload_n 0, 1) := by decide +kernel
theorem dX11_meant_82 : decode cX11_meant 82 = .ok (.getfield 89, 3) := by decide +kernel
theorem dX11_meant_85 : decode cX11_meant 85 = .ok (.iconst 2, 1) := by decide +kernel
theorem dX11_meant_86 : decode cX11_meant 86 = .ok (.dup2, 1) := by decide +kernel
theorem dX11_meant_87 : decode cX11_meant 87 = .ok (.iaload, 1) := by decide +kernel
theorem dX11_meant_88 : decode cX11_meant 88 = .ok (.iconst 1, 1) := by decide +kernel
theorem dX11_meant_89 : decode cX11_meant 89 = .ok (.iadd, 1) := by decide +kernel
theorem dX11_meant_90 : decode cX11_meant 90 = .ok (.iastore, 1) := by decide +kernel
theorem dX11_meant_91 : decode cX11_meant 91 = .ok (.aload_n 0, 1) := by decide +kernel
theorem dX11_meant_92 : decode cX11_meant 92 = .ok (.getfield 89, 3) := by decide +kernel
theorem dX11_meant_95 : decode cX11_meant 95 = .ok (.iconst 0, 1) := by decide +kernel
theorem dX11_meant_96 : decode cX11_meant 96 = .ok (.dup2, 1) := by decide +kernel
theorem dX11_meant_97 : decode cX11_meant 97 = .ok (.iaload, 1) := by decide +kernel
theorem dX11_meant_98 : decode cX11_meant 98 = .ok (.dup_x2, 1) := by decide +kernel
theorem dX11_meant_99 : decode cX11_meant 99 = .ok (.iconst 1, 1) := by decide +kernel
theorem dX11_meant_100 : decode cX11_meant 100 = .ok (.iadd, 1) := by decide +kernel
theorem dX11_meant_101 : decode cX11_meant 101 = .ok (.iastore, 1) := by decide +kernel
theorem dX11_meant_102 : decode cX11_meant 102 = .ok (.ireturn, 1) := by decide +kernel
theorem dX11_judged_0 : decode cX11_judged 0 = .ok (.iload_n 1, 1) := by decide +kernel
theorem dX11_judged_1 : decode cX11_judged 1 = .ok (.ifCond .lt 21, 3) := by decide +kernel
theorem dX11_judged_4 : decode cX11_judged 4 = .ok (.iload_n 1, 1) := by decide +kernel
theorem dX11_judged_5 : decode cX11_judged 5 = .ok (.aload_n 0, 1) := by decide +kernel
theorem dX11_judged_6 : decode cX11_judged 6 = .ok (.getfield 89, 3) := by decide +kernel
theorem dX11_judged_9 : decode cX11_judged 9 = .ok (.arraylength, 1) := by decide +kernel
theorem dX11_judged_10 : decode cX11_judged 10 = .ok (.if_icmp .ge 12, 3) := by decide +kernel
theorem dX11_judged_13 : decode cX11_judged 13 = .ok (.aload_n 0, 1) := by decide +kernel
theorem dX11_judged_14 : decode cX11_judged 14 = .ok (.getfield 89, 3) := by decide +kernel
theorem dX11_judged_17 : decode cX11_judged 17 = .ok (.iload_n 1, 1) := by decide +kernel
theorem dX11_judged_18 : decode cX11_judged 18 = .ok (.iaload, 1) := by decide +kernel
theorem dX11_judged_19 : decode cX11_judged 19 = .ok (.goto 4, 3) := by decide +kernel
theorem dX11_judged_22 : decode cX11_judged 22 = .ok (.iconst (-1), 1) := by decide +kernel
theorem dX11_judged_23 : decode cX11_judged 23 = .ok (.ireturn, 1) := by decide +kernel
theorem dX11_person_0 : decode cX11_person 0 = .ok (.iload_n 1, 1) := by decide +kernel
theorem dX11_person_1 : decode cX11_person 1 = .ok (.ifCond .lt 8, 3) := by decide +kernel
theorem dX11_person_4 : decode cX11_person 4 = .ok (.iload_n 1, 1) := by decide +kernel
theorem dX11_person_5 : decode cX11_person 5 = .ok (.iconst 4, 1) := by decide +kernel
theorem dX11_person_6 : decode cX11_person 6 = .ok (.if_icmp .lt 5, 3) := by decide +kernel
theorem dX11_person_9 : decode cX11_person 9 = .ok (.iconst 0, 1) := by decide +kernel
theorem dX11_person_10 : decode cX11_person 10 = .ok (.ireturn, 1) := by decide +kernel
theorem dX11_person_11 : decode cX11_person 11 = .ok (.aload_n 0, 1) := by decide +kernel
theorem dX11_person_12 : decode cX11_person 12 = .ok (.invokevirtual 171, 3) := by decide +kernel
theorem dX11_person_15 : decode cX11_person 15 = .ok (.istore_n 2, 1) := by decide +kernel
theorem dX11_person_16 : decode cX11_person 16 = .ok (.aload_n 0, 1) := by decide +kernel
theorem dX11_person_17 : decode cX11_person 17 = .ok (.iload_n 1, 1) := by decide +kernel
theorem dX11_person_18 : decode cX11_person 18 = .ok (.putfield 304, 3) := by decide +kernel
theorem dX11_person_21 : decode cX11_person 21 = .ok (.aload_n 0, 1) := by decide +kernel
theorem dX11_person_22 : decode cX11_person 22 = .ok (.invokevirtual 171, 3) := by decide +kernel
theorem dX11_person_25 : decode cX11_person 25 = .ok (.iload_n 2, 1) := by decide +kernel
theorem dX11_person_26 : decode cX11_person 26 = .ok (.if_icmp .eq 7, 3) := by decide +kernel
theorem dX11_person_29 : decode cX11_person 29 = .ok (.aload_n 0, 1) := by decide +kernel
theorem dX11_person_30 : decode cX11_person 30 = .ok (.invokevirtual 124, 3) := by decide +kernel
theorem dX11_person_33 : decode cX11_person 33 = .ok (.iconst 1, 1) := by decide +kernel
theorem dX11_person_34 : decode cX11_person 34 = .ok (.ireturn, 1) := by decide +kernel
theorem dX11_hide_0 : decode cX11_hide 0 = .ok (.iload_n 1, 1) := by decide +kernel
theorem dX11_hide_1 : decode cX11_hide 1 = .ok (.ifCond .lt 19, 3) := by decide +kernel
theorem dX11_hide_4 : decode cX11_hide 4 = .ok (.iload_n 1, 1) := by decide +kernel
theorem dX11_hide_5 : decode cX11_hide 5 = .ok (.iconst 4, 1) := by decide +kernel
theorem dX11_hide_6 : decode cX11_hide 6 = .ok (.if_icmp .ge 14, 3) := by decide +kernel
theorem dX11_hide_9 : decode cX11_hide 9 = .ok (.aload_n 0, 1) := by decide +kernel
theorem dX11_hide_10 : decode cX11_hide 10 = .ok (.getfield 72, 3) := by decide +kernel
theorem dX11_hide_13 : decode cX11_hide 13 = .ok (.iload_n 2, 1) := by decide +kernel
theorem dX11_hide_14 : decode cX11_hide 14 = .ok (.invokevirtual 158, 3) := by decide +kernel
theorem dX11_hide_17 : decode cX11_hide 17 = .ok (.ifCond .ne 5, 3) := by decide +kernel
theorem dX11_hide_20 : decode cX11_hide 20 = .ok (.iconst 0, 1) := by decide +kernel
theorem dX11_hide_21 : decode cX11_hide 21 = .ok (.ireturn, 1) := by decide +kernel
theorem dX11_hide_22 : decode cX11_hide 22 = .ok (.aload_n 0, 1) := by decide +kernel
theorem dX11_hide_23 : decode cX11_hide 23 = .ok (.invokevirtual 171, 3) := by decide +kernel
theorem dX11_hide_26 : decode cX11_hide 26 = .ok (.istore 4, 2) := by decide +kernel
theorem dX11_hide_28 : decode cX11_hide 28 = .ok (.aload_n 0, 1) := by decide +kernel
theorem dX11_hide_29 : decode cX11_hide 29 = .ok (.getfield 72, 3) := by decide +kernel
theorem dX11_hide_32 : decode cX11_hide 32 = .ok (.iload_n 1, 1) := by decide +kernel
theorem dX11_hide_33 : decode cX11_hide 33 = .ok (.iload_n 2, 1) := by decide +kernel
theorem dX11_hide_34 : decode cX11_hide 34 = .ok (.iload_n 3, 1) := by decide +kernel
theorem dX11_hide_35 : decode cX11_hide 35 = .ok (.invokevirtual 307, 3) := by decide +kernel
theorem dX11_hide_38 : decode cX11_hide 38 = .ok (.aload_n 0, 1) := by decide +kernel
theorem dX11_hide_39 : decode cX11_hide 39 = .ok (.invokevirtual 171, 3) := by decide +kernel
theorem dX11_hide_42 : decode cX11_hide 42 = .ok (.iload 4, 2) := by decide +kernel
theorem dX11_hide_44 : decode cX11_hide 44 = .ok (.if_icmp .eq 7, 3) := by decide +kernel
theorem dX11_hide_47 : decode cX11_hide 47 = .ok (.aload_n 0, 1) := by decide +kernel
theorem dX11_hide_48 : decode cX11_hide 48 = .ok (.invokevirtual 124, 3) := by decide +kernel
theorem dX11_hide_51 : decode cX11_hide 51 = .ok (.iconst 1, 1) := by decide +kernel
theorem dX11_hide_52 : decode cX11_hide 52 = .ok (.ireturn, 1) := by decide +kernel
theorem dX11_offered_0 : decode cX11_offered 0 = .ok (.aload_n 0, 1) := by decide +kernel
theorem dX11_offered_1 : decode cX11_offered 1 = .ok (.invokevirtual 311, 3) := by decide +kernel
theorem dX11_offered_4 : decode cX11_offered 4 = .ok (.aload_n 0, 1) := by decide +kernel
theorem dX11_offered_5 : decode cX11_offered 5 = .ok (.getfield 42, 3) := by decide +kernel
theorem dX11_offered_8 : decode cX11_offered 8 = .ok (.iload_n 1, 1) := by decide +kernel
theorem dX11_offered_9 : decode cX11_offered 9 = .ok (.invokevirtual 314, 3) := by decide +kernel
theorem dX11_offered_12 : decode cX11_offered 12 = .ok (.ireturn, 1) := by decide +kernel
theorem dX11_lets_0 : decode cX11_lets 0 = .ok (.aload_n 0, 1) := by decide +kernel
theorem dX11_lets_1 : decode cX11_lets 1 = .ok (.invokevirtual 311, 3) := by decide +kernel
theorem dX11_lets_4 : decode cX11_lets 4 = .ok (.aload_n 0, 1) := by decide +kernel
theorem dX11_lets_5 : decode cX11_lets 5 = .ok (.getfield 42, 3) := by decide +kernel
theorem dX11_lets_8 : decode cX11_lets 8 = .ok (.iload_n 1, 1) := by decide +kernel
theorem dX11_lets_9 : decode cX11_lets 9 = .ok (.invokevirtual 317, 3) := by decide +kernel
theorem dX11_lets_12 : decode cX11_lets 12 = .ok (.ifCond .ne 5, 3) := by decide +kernel
theorem dX11_lets_15 : decode cX11_lets 15 = .ok (.iconst 0, 1) := by decide +kernel
theorem dX11_lets_16 : decode cX11_lets 16 = .ok (.ireturn, 1) := by decide +kernel
theorem dX11_lets_17 : decode cX11_lets 17 = .ok (.aload_n 0, 1) := by decide +kernel
theorem dX11_lets_18 : decode cX11_lets 18 = .ok (.iconst 0, 1) := by decide +kernel
theorem dX11_lets_19 : decode cX11_lets 19 = .ok (.putfield 320, 3) := by decide +kernel
theorem dX11_lets_22 : decode cX11_lets 22 = .ok (.aload_n 0, 1) := by decide +kernel
theorem dX11_lets_23 : decode cX11_lets 23 = .ok (.iconst 0, 1) := by decide +kernel
theorem dX11_lets_24 : decode cX11_lets 24 = .ok (.putfield 154, 3) := by decide +kernel
theorem dX11_lets_27 : decode cX11_lets 27 = .ok (.iconst 1, 1) := by decide +kernel
theorem dX11_lets_28 : decode cX11_lets 28 = .ok (.ireturn, 1) := by decide +kernel
theorem dX11_count_0 : decode cX11_count 0 = .ok (.iload_n 1, 1) := by decide +kernel
theorem dX11_count_1 : decode cX11_count 1 = .ok (.tableswitch 165 0 9 #[55, 63, 71, 79, 87, 106, 125, 133, 145, 153], 55) := by decide +kernel
theorem dX11_count_56 : decode cX11_count 56 = .ok (.aload_n 0, 1) := by decide +kernel
theorem dX11_count_57 : decode cX11_count 57 = .ok (.getfield 72, 3) := by decide +kernel
theorem dX11_count_60 : decode cX11_count 60 = .ok (.getfield 323, 3) := by decide +kernel
theorem dX11_count_63 : decode cX11_count 63 = .ok (.ireturn, 1) := by decide +kernel
theorem dX11_count_64 : decode cX11_count 64 = .ok (.aload_n 0, 1) := by decide +kernel
theorem dX11_count_65 : decode cX11_count 65 = .ok (.getfield 72, 3) := by decide +kernel
theorem dX11_count_68 : decode cX11_count 68 = .ok (.getfield 114, 3) := by decide +kernel
theorem dX11_count_71 : decode cX11_count 71 = .ok (.ireturn, 1) := by decide +kernel
theorem dX11_count_72 : decode cX11_count 72 = .ok (.aload_n 0, 1) := by decide +kernel
theorem dX11_count_73 : decode cX11_count 73 = .ok (.invokevirtual 171, 3) := by decide +kernel
theorem dX11_count_76 : decode cX11_count 76 = .ok (.invokestatic 207, 3) := by decide +kernel
theorem dX11_count_79 : decode cX11_count 79 = .ok (.ireturn, 1) := by decide +kernel
theorem dX11_count_80 : decode cX11_count 80 = .ok (.aload_n 0, 1) := by decide +kernel
theorem dX11_count_81 : decode cX11_count 81 = .ok (.getfield 82, 3) := by decide +kernel
theorem dX11_count_84 : decode cX11_count 84 = .ok (.getfield 326, 3) := by decide +kernel
theorem dX11_count_87 : decode cX11_count 87 = .ok (.ireturn, 1) := by decide +kernel
theorem dX11_count_88 : decode cX11_count 88 = .ok (.aload_n 0, 1) := by decide +kernel
theorem dX11_count_89 : decode cX11_count 89 = .ok (.invokevirtual 139, 3) := by decide +kernel
theorem dX11_count_92 : decode cX11_count 92 = .ok (.ifCond .eq 13, 3) := by decide +kernel
theorem dX11_count_95 : decode cX11_count 95 = .ok (.aload_n 0, 1) := by decide +kernel
theorem dX11_count_96 : decode cX11_count 96 = .ok (.getfield 51, 3) := by decide +kernel
theorem dX11_count_99 : decode cX11_count 99 = .ok (.getfield 329, 3) := by decide +kernel
theorem dX11_count_102 : decode cX11_count 102 = .ok (.goto 4, 3) := by decide +kernel
theorem dX11_count_105 : decode cX11_count 105 = .ok (.iconst 0, 1) := by decide +kernel
theorem dX11_count_106 : decode cX11_count 106 = .ok (.ireturn, 1) := by decide +kernel
theorem dX11_count_107 : decode cX11_count 107 = .ok (.aload_n 0, 1) := by decide +kernel
theorem dX11_count_108 : decode cX11_count 108 = .ok (.invokevirtual 139, 3) := by decide +kernel
theorem dX11_count_111 : decode cX11_count 111 = .ok (.ifCond .eq 13, 3) := by decide +kernel
theorem dX11_count_114 : decode cX11_count 114 = .ok (.aload_n 0, 1) := by decide +kernel
theorem dX11_count_115 : decode cX11_count 115 = .ok (.getfield 58, 3) := by decide +kernel
theorem dX11_count_118 : decode cX11_count 118 = .ok (.getfield 332, 3) := by decide +kernel
theorem dX11_count_121 : decode cX11_count 121 = .ok (.goto 4, 3) := by decide +kernel
theorem dX11_count_124 : decode cX11_count 124 = .ok (.iconst 0, 1) := by decide +kernel
theorem dX11_count_125 : decode cX11_count 125 = .ok (.ireturn, 1) := by decide +kernel
theorem dX11_count_126 : decode cX11_count 126 = .ok (.aload_n 0, 1) := by decide +kernel
theorem dX11_count_127 : decode cX11_count 127 = .ok (.getfield 10, 3) := by decide +kernel
theorem dX11_count_130 : decode cX11_count 130 = .ok (.getfield 101, 3) := by decide +kernel
theorem dX11_count_133 : decode cX11_count 133 = .ok (.ireturn, 1) := by decide +kernel
theorem dX11_count_134 : decode cX11_count 134 = .ok (.aload_n 0, 1) := by decide +kernel
theorem dX11_count_135 : decode cX11_count 135 = .ok (.invokevirtual 311, 3) := by decide +kernel
theorem dX11_count_138 : decode cX11_count 138 = .ok (.aload_n 0, 1) := by decide +kernel
theorem dX11_count_139 : decode cX11_count 139 = .ok (.getfield 42, 3) := by decide +kernel
theorem dX11_count_142 : decode cX11_count 142 = .ok (.getfield 335, 3) := by decide +kernel
theorem dX11_count_145 : decode cX11_count 145 = .ok (.ireturn, 1) := by decide +kernel
theorem dX11_count_146 : decode cX11_count 146 = .ok (.aload_n 0, 1) := by decide +kernel
theorem dX11_count_147 : decode cX11_count 147 = .ok (.getfield 42, 3) := by decide +kernel
theorem dX11_count_150 : decode cX11_count 150 = .ok (.getfield 338, 3) := by decide +kernel
theorem dX11_count_153 : decode cX11_count 153 = .ok (.ireturn, 1) := by decide +kernel
theorem dX11_count_154 : decode cX11_count 154 = .ok (.aload_n 0, 1) := by decide +kernel
theorem dX11_count_155 : decode cX11_count 155 = .ok (.invokevirtual 212, 3) := by decide +kernel
theorem dX11_count_158 : decode cX11_count 158 = .ok (.aload_n 0, 1) := by decide +kernel
theorem dX11_count_159 : decode cX11_count 159 = .ok (.getfield 35, 3) := by decide +kernel
theorem dX11_count_162 : decode cX11_count 162 = .ok (.getfield 341, 3) := by decide +kernel
theorem dX11_count_165 : decode cX11_count 165 = .ok (.ireturn, 1) := by decide +kernel
theorem dX11_count_166 : decode cX11_count 166 = .ok (.iconst (-1), 1) := by decide +kernel
theorem dX11_count_167 : decode cX11_count 167 = .ok (.ireturn, 1) := by decide +kernel
theorem dX11_feedBytes_0 : decode cX11_feedBytes 0 = .ok (.bipush 56, 2) := by decide +kernel
theorem dX11_feedBytes_2 : decode cX11_feedBytes 2 = .ok (.istore_n 3, 1) := by decide +kernel
theorem dX11_feedBytes_3 : decode cX11_feedBytes 3 = .ok (.iload_n 3, 1) := by decide +kernel
theorem dX11_feedBytes_4 : decode cX11_feedBytes 4 = .ok (.ifCond .lt 24, 3) := by decide +kernel
theorem dX11_feedBytes_7 : decode cX11_feedBytes 7 = .ok (.aload_n 0, 1) := by decide +kernel
theorem dX11_feedBytes_8 : decode cX11_feedBytes 8 = .ok (.getfield 10, 3) := by decide +kernel
theorem dX11_feedBytes_11 : decode cX11_feedBytes 11 = .ok (.lload_n 1, 1) := by decide +kernel
theorem dX11_feedBytes_12 : decode cX11_feedBytes 12 = .ok (.iload_n 3, 1) := by decide +kernel
theorem dX11_feedBytes_13 : decode cX11_feedBytes 13 = .ok (.lushr, 1) := by decide +kernel
theorem dX11_feedBytes_14 : decode cX11_feedBytes 14 = .ok (.ldc2_w 344, 3) := by decide +kernel
theorem dX11_feedBytes_17 : decode cX11_feedBytes 17 = .ok (.land, 1) := by decide +kernel
theorem dX11_feedBytes_18 : decode cX11_feedBytes 18 = .ok (.l2i, 1) := by decide +kernel
theorem dX11_feedBytes_19 : decode cX11_feedBytes 19 = .ok (.invokevirtual 346, 3) := by decide +kernel
theorem dX11_feedBytes_22 : decode cX11_feedBytes 22 = .ok (.iinc 3 (-8), 3) := by decide +kernel
theorem dX11_feedBytes_25 : decode cX11_feedBytes 25 = .ok (.goto (-22), 3) := by decide +kernel
theorem dX11_feedBytes_28 : decode cX11_feedBytes 28 = .ok (.return_, 1) := by decide +kernel
theorem dX11_beginAnewWithDraft_0 : decode cX11_beginAnewWithDraft 0 = .ok (.aload_n 0, 1) := by decide +kernel
theorem dX11_beginAnewWithDraft_1 : decode cX11_beginAnewWithDraft 1 = .ok (.getfield 72, 3) := by decide +kernel
theorem dX11_beginAnewWithDraft_4 : decode cX11_beginAnewWithDraft 4 = .ok (.astore_n 1, 1) := by decide +kernel
theorem dX11_beginAnewWithDraft_5 : decode cX11_beginAnewWithDraft 5 = .ok (.aload_n 0, 1) := by decide +kernel
theorem dX11_beginAnewWithDraft_6 : decode cX11_beginAnewWithDraft 6 = .ok (.aload_n 0, 1) := by decide +kernel
theorem dX11_beginAnewWithDraft_7 : decode cX11_beginAnewWithDraft 7 = .ok (.getfield 76, 3) := by decide +kernel
theorem dX11_beginAnewWithDraft_10 : decode cX11_beginAnewWithDraft 10 = .ok (.putfield 72, 3) := by decide +kernel
theorem dX11_beginAnewWithDraft_13 : decode cX11_beginAnewWithDraft 13 = .ok (.aload_n 0, 1) := by decide +kernel
theorem dX11_beginAnewWithDraft_14 : decode cX11_beginAnewWithDraft 14 = .ok (.aload_n 1, 1) := by decide +kernel
theorem dX11_beginAnewWithDraft_15 : decode cX11_beginAnewWithDraft 15 = .ok (.putfield 76, 3) := by decide +kernel
theorem dX11_beginAnewWithDraft_18 : decode cX11_beginAnewWithDraft 18 = .ok (.aload_n 0, 1) := by decide +kernel
theorem dX11_beginAnewWithDraft_19 : decode cX11_beginAnewWithDraft 19 = .ok (.getfield 82, 3) := by decide +kernel
theorem dX11_beginAnewWithDraft_22 : decode cX11_beginAnewWithDraft 22 = .ok (.invokevirtual 349, 3) := by decide +kernel
theorem dX11_beginAnewWithDraft_25 : decode cX11_beginAnewWithDraft 25 = .ok (.aload_n 0, 1) := by decide +kernel
theorem dX11_beginAnewWithDraft_26 : decode cX11_beginAnewWithDraft 26 = .ok (.getfield 42, 3) := by decide +kernel
theorem dX11_beginAnewWithDraft_29 : decode cX11_beginAnewWithDraft 29 = .ok (.invokevirtual 352, 3) := by decide +kernel
theorem dX11_beginAnewWithDraft_32 : decode cX11_beginAnewWithDraft 32 = .ok (.aload_n 0, 1) := by decide +kernel
theorem dX11_beginAnewWithDraft_33 : decode cX11_beginAnewWithDraft 33 = .ok (.getfield 58, 3) := by decide +kernel
theorem dX11_beginAnewWithDraft_36 : decode cX11_beginAnewWithDraft 36 = .ok (.invokevirtual 355, 3) := by decide +kernel
theorem dX11_beginAnewWithDraft_39 : decode cX11_beginAnewWithDraft 39 = .ok (.aload_n 0, 1) := by decide +kernel
theorem dX11_beginAnewWithDraft_40 : decode cX11_beginAnewWithDraft 40 = .ok (.getfield 89, 3) := by decide +kernel
theorem dX11_beginAnewWithDraft_43 : decode cX11_beginAnewWithDraft 43 = .ok (.iconst 0, 1) := by decide +kernel
theorem dX11_beginAnewWithDraft_44 : decode cX11_beginAnewWithDraft 44 = .ok (.invokestatic 358, 3) := by decide +kernel
theorem dX11_beginAnewWithDraft_47 : decode cX11_beginAnewWithDraft 47 = .ok (.aload_n 0, 1) := by decide +kernel
theorem dX11_beginAnewWithDraft_48 : decode cX11_beginAnewWithDraft 48 = .ok (.invokevirtual 124, 3) := by decide +kernel
theorem dX11_beginAnewWithDraft_51 : decode cX11_beginAnewWithDraft 51 = .ok (.return_, 1) := by decide +kernel
theorem dX11_sightChanged_0 : decode cX11_sightChanged 0 = .ok (.aload_n 0, 1) := by decide +kernel
theorem dX11_sightChanged_1 : decode cX11_sightChanged 1 = .ok (.iconst 0, 1) := by decide +kernel
theorem dX11_sightChanged_2 : decode cX11_sightChanged 2 = .ok (.putfield 320, 3) := by decide +kernel
theorem dX11_sightChanged_5 : decode cX11_sightChanged 5 = .ok (.aload_n 0, 1) := by decide +kernel
theorem dX11_sightChanged_6 : decode cX11_sightChanged 6 = .ok (.iconst 0, 1) := by decide +kernel
theorem dX11_sightChanged_7 : decode cX11_sightChanged 7 = .ok (.putfield 364, 3) := by decide +kernel
theorem dX11_sightChanged_10 : decode cX11_sightChanged 10 = .ok (.aload_n 0, 1) := by decide +kernel
theorem dX11_sightChanged_11 : decode cX11_sightChanged 11 = .ok (.invokevirtual 131, 3) := by decide +kernel
theorem dX11_sightChanged_14 : decode cX11_sightChanged 14 = .ok (.return_, 1) := by decide +kernel
theorem dX11_termsChanged_0 : decode cX11_termsChanged 0 = .ok (.aload_n 0, 1) := by decide +kernel
theorem dX11_termsChanged_1 : decode cX11_termsChanged 1 = .ok (.iconst 0, 1) := by decide +kernel
theorem dX11_termsChanged_2 : decode cX11_termsChanged 2 = .ok (.putfield 367, 3) := by decide +kernel
theorem dX11_termsChanged_5 : decode cX11_termsChanged 5 = .ok (.aload_n 0, 1) := by decide +kernel
theorem dX11_termsChanged_6 : decode cX11_termsChanged 6 = .ok (.iconst 0, 1) := by decide +kernel
theorem dX11_termsChanged_7 : decode cX11_termsChanged 7 = .ok (.putfield 154, 3) := by decide +kernel
theorem dX11_termsChanged_10 : decode cX11_termsChanged 10 = .ok (.return_, 1) := by decide +kernel
theorem dX11_seen_0 : decode cX11_seen 0 = .ok (.aload_n 0, 1) := by decide +kernel
theorem dX11_seen_1 : decode cX11_seen 1 = .ok (.getfield 72, 3) := by decide +kernel
theorem dX11_seen_4 : decode cX11_seen 4 = .ok (.aload_n 0, 1) := by decide +kernel
theorem dX11_seen_5 : decode cX11_seen 5 = .ok (.getfield 304, 3) := by decide +kernel
theorem dX11_seen_8 : decode cX11_seen 8 = .ok (.invokevirtual 370, 3) := by decide +kernel
theorem dX11_seen_11 : decode cX11_seen 11 = .ok (.ireturn, 1) := by decide +kernel
theorem dX11_isSeen_0 : decode cX11_isSeen 0 = .ok (.aload_n 0, 1) := by decide +kernel
theorem dX11_isSeen_1 : decode cX11_isSeen 1 = .ok (.getfield 72, 3) := by decide +kernel
theorem dX11_isSeen_4 : decode cX11_isSeen 4 = .ok (.iload_n 1, 1) := by decide +kernel
theorem dX11_isSeen_5 : decode cX11_isSeen 5 = .ok (.invokevirtual 158, 3) := by decide +kernel
theorem dX11_isSeen_8 : decode cX11_isSeen 8 = .ok (.ifCond .eq 18, 3) := by decide +kernel
theorem dX11_isSeen_11 : decode cX11_isSeen 11 = .ok (.aload_n 0, 1) := by decide +kernel
theorem dX11_isSeen_12 : decode cX11_isSeen 12 = .ok (.invokevirtual 171, 3) := by decide +kernel
theorem dX11_isSeen_15 : decode cX11_isSeen 15 = .ok (.iload_n 1, 1) := by decide +kernel
theorem dX11_isSeen_16 : decode cX11_isSeen 16 = .ok (.ishr, 1) := by decide +kernel
theorem dX11_isSeen_17 : decode cX11_isSeen 17 = .ok (.iconst 1, 1) := by decide +kernel
theorem dX11_isSeen_18 : decode cX11_isSeen 18 = .ok (.iand, 1) := by decide +kernel
theorem dX11_isSeen_19 : decode cX11_isSeen 19 = .ok (.ifCond .eq 7, 3) := by decide +kernel
theorem dX11_isSeen_22 : decode cX11_isSeen 22 = .ok (.iconst 1, 1) := by decide +kernel
theorem dX11_isSeen_23 : decode cX11_isSeen 23 = .ok (.goto 4, 3) := by decide +kernel
theorem dX11_isSeen_26 : decode cX11_isSeen 26 = .ok (.iconst 0, 1) := by decide +kernel
theorem dX11_isSeen_27 : decode cX11_isSeen 27 = .ok (.ireturn, 1) := by decide +kernel
theorem dX11_isTerm_0 : decode cX11_isTerm 0 = .ok (.iload_n 1, 1) := by decide +kernel
theorem dX11_isTerm_1 : decode cX11_isTerm 1 = .ok (.ifCond .lt 18, 3) := by decide +kernel
theorem dX11_isTerm_4 : decode cX11_isTerm 4 = .ok (.iload_n 1, 1) := by decide +kernel
theorem dX11_isTerm_5 : decode cX11_isTerm 5 = .ok (.aload_n 0, 1) := by decide +kernel
theorem dX11_isTerm_6 : decode cX11_isTerm 6 = .ok (.getfield 82, 3) := by decide +kernel
theorem dX11_isTerm_9 : decode cX11_isTerm 9 = .ok (.getfield 326, 3) := by decide +kernel
theorem dX11_isTerm_12 : decode cX11_isTerm 12 = .ok (.if_icmp .ge 7, 3) := by decide +kernel
theorem dX11_isTerm_15 : decode cX11_isTerm 15 = .ok (.iconst 1, 1) := by decide +kernel
theorem dX11_isTerm_16 : decode cX11_isTerm 16 = .ok (.goto 4, 3) := by decide +kernel
theorem dX11_isTerm_19 : decode cX11_isTerm 19 = .ok (.iconst 0, 1) := by decide +kernel
theorem dX11_isTerm_20 : decode cX11_isTerm 20 = .ok (.ireturn, 1) := by decide +kernel
theorem dX11_freshenHits_0 : decode cX11_freshenHits 0 = .ok (.aload_n 0, 1) := by decide +kernel
theorem dX11_freshenHits_1 : decode cX11_freshenHits 1 = .ok (.getfield 367, 3) := by decide +kernel
theorem dX11_freshenHits_4 : decode cX11_freshenHits 4 = .ok (.ifCond .ne 27, 3) := by decide +kernel
theorem dX11_freshenHits_7 : decode cX11_freshenHits 7 = .ok (.aload_n 0, 1) := by decide +kernel
theorem dX11_freshenHits_8 : decode cX11_freshenHits 8 = .ok (.getfield 28, 3) := by decide +kernel
theorem dX11_freshenHits_11 : decode cX11_freshenHits 11 = .ok (.aload_n 0, 1) := by decide +kernel
theorem dX11_freshenHits_12 : decode cX11_freshenHits 12 = .ok (.getfield 72, 3) := by decide +kernel
theorem dX11_freshenHits_15 : decode cX11_freshenHits 15 = .ok (.aload_n 0, 1) := by decide +kernel
theorem dX11_freshenHits_16 : decode cX11_freshenHits 16 = .ok (.getfield 82, 3) := by decide +kernel
theorem dX11_freshenHits_19 : decode cX11_freshenHits 19 = .ok (.aload_n 0, 1) := by decide +kernel
theorem dX11_freshenHits_20 : decode cX11_freshenHits 20 = .ok (.invokevirtual 171, 3) := by decide +kernel
theorem dX11_freshenHits_23 : decode cX11_freshenHits 23 = .ok (.invokevirtual 373, 3) := by decide +kernel
theorem dX11_freshenHits_26 : decode cX11_freshenHits 26 = .ok (.aload_n 0, 1) := by decide +kernel
theorem dX11_freshenHits_27 : decode cX11_freshenHits 27 = .ok (.iconst 1, 1) := by decide +kernel
theorem dX11_freshenHits_28 : decode cX11_freshenHits 28 = .ok (.putfield 367, 3) := by decide +kernel
theorem dX11_freshenHits_31 : decode cX11_freshenHits 31 = .ok (.return_, 1) := by decide +kernel
theorem dX11_freshenTies_0 : decode cX11_freshenTies 0 = .ok (.aload_n 0, 1) := by decide +kernel
theorem dX11_freshenTies_1 : decode cX11_freshenTies 1 = .ok (.getfield 320, 3) := by decide +kernel
theorem dX11_freshenTies_4 : decode cX11_freshenTies 4 = .ok (.ifCond .ne 27, 3) := by decide +kernel
theorem dX11_freshenTies_7 : decode cX11_freshenTies 7 = .ok (.aload_n 0, 1) := by decide +kernel
theorem dX11_freshenTies_8 : decode cX11_freshenTies 8 = .ok (.getfield 35, 3) := by decide +kernel
theorem dX11_freshenTies_11 : decode cX11_freshenTies 11 = .ok (.aload_n 0, 1) := by decide +kernel
theorem dX11_freshenTies_12 : decode cX11_freshenTies 12 = .ok (.getfield 72, 3) := by decide +kernel
theorem dX11_freshenTies_15 : decode cX11_freshenTies 15 = .ok (.aload_n 0, 1) := by decide +kernel
theorem dX11_freshenTies_16 : decode cX11_freshenTies 16 = .ok (.getfield 42, 3) := by decide +kernel
theorem dX11_freshenTies_19 : decode cX11_freshenTies 19 = .ok (.aload_n 0, 1) := by decide +kernel
theorem dX11_freshenTies_20 : decode cX11_freshenTies 20 = .ok (.invokevirtual 171, 3) := by decide +kernel
theorem dX11_freshenTies_23 : decode cX11_freshenTies 23 = .ok (.invokevirtual 376, 3) := by decide +kernel
theorem dX11_freshenTies_26 : decode cX11_freshenTies 26 = .ok (.aload_n 0, 1) := by decide +kernel
theorem dX11_freshenTies_27 : decode cX11_freshenTies 27 = .ok (.iconst 1, 1) := by decide +kernel
theorem dX11_freshenTies_28 : decode cX11_freshenTies 28 = .ok (.putfield 320, 3) := by decide +kernel
theorem dX11_freshenTies_31 : decode cX11_freshenTies 31 = .ok (.return_, 1) := by decide +kernel
theorem dX11_freshenOffers_0 : decode cX11_freshenOffers 0 = .ok (.aload_n 0, 1) := by decide +kernel
theorem dX11_freshenOffers_1 : decode cX11_freshenOffers 1 = .ok (.getfield 364, 3) := by decide +kernel
theorem dX11_freshenOffers_4 : decode cX11_freshenOffers 4 = .ok (.ifCond .ne 23, 3) := by decide +kernel
theorem dX11_freshenOffers_7 : decode cX11_freshenOffers 7 = .ok (.aload_n 0, 1) := by decide +kernel
theorem dX11_freshenOffers_8 : decode cX11_freshenOffers 8 = .ok (.getfield 42, 3) := by decide +kernel
theorem dX11_freshenOffers_11 : decode cX11_freshenOffers 11 = .ok (.aload_n 0, 1) := by decide +kernel
theorem dX11_freshenOffers_12 : decode cX11_freshenOffers 12 = .ok (.getfield 72, 3) := by decide +kernel
theorem dX11_freshenOffers_15 : decode cX11_freshenOffers 15 = .ok (.aload_n 0, 1) := by decide +kernel
theorem dX11_freshenOffers_16 : decode cX11_freshenOffers 16 = .ok (.invokevirtual 171, 3) := by decide +kernel
theorem dX11_freshenOffers_19 : decode cX11_freshenOffers 19 = .ok (.invokevirtual 379, 3) := by decide +kernel
theorem dX11_freshenOffers_22 : decode cX11_freshenOffers 22 = .ok (.aload_n 0, 1) := by decide +kernel
theorem dX11_freshenOffers_23 : decode cX11_freshenOffers 23 = .ok (.iconst 1, 1) := by decide +kernel
theorem dX11_freshenOffers_24 : decode cX11_freshenOffers 24 = .ok (.putfield 364, 3) := by decide +kernel
theorem dX11_freshenOffers_27 : decode cX11_freshenOffers 27 = .ok (.return_, 1) := by decide +kernel
theorem dX11_searched_0 : decode cX11_searched 0 = .ok (.aload_n 0, 1) := by decide +kernel
theorem dX11_searched_1 : decode cX11_searched 1 = .ok (.getfield 82, 3) := by decide +kernel
theorem dX11_searched_4 : decode cX11_searched 4 = .ok (.getfield 326, 3) := by decide +kernel
theorem dX11_searched_7 : decode cX11_searched 7 = .ok (.ifCond .ne 5, 3) := by decide +kernel
theorem dX11_searched_10 : decode cX11_searched 10 = .ok (.iconst 0, 1) := by decide +kernel
theorem dX11_searched_11 : decode cX11_searched 11 = .ok (.ireturn, 1) := by decide +kernel
theorem dX11_searched_12 : decode cX11_searched 12 = .ok (.aload_n 0, 1) := by decide +kernel
theorem dX11_searched_13 : decode cX11_searched 13 = .ok (.getfield 154, 3) := by decide +kernel
theorem dX11_searched_16 : decode cX11_searched 16 = .ok (.ifCond .ne 64, 3) := by decide +kernel
theorem dX11_searched_19 : decode cX11_searched 19 = .ok (.aload_n 0, 1) := by decide +kernel
theorem dX11_searched_20 : decode cX11_searched 20 = .ok (.invokevirtual 198, 3) := by decide +kernel
theorem dX11_searched_23 : decode cX11_searched 23 = .ok (.aload_n 0, 1) := by decide +kernel
theorem dX11_searched_24 : decode cX11_searched 24 = .ok (.invokevirtual 212, 3) := by decide +kernel
theorem dX11_searched_27 : decode cX11_searched 27 = .ok (.aload_n 0, 1) := by decide +kernel
theorem dX11_searched_28 : decode cX11_searched 28 = .ok (.getfield 51, 3) := by decide +kernel
theorem dX11_searched_31 : decode cX11_searched 31 = .ok (.aload_n 0, 1) := by decide +kernel
theorem dX11_searched_32 : decode cX11_searched 32 = .ok (.invokevirtual 171, 3) := by decide +kernel
theorem dX11_searched_35 : decode cX11_searched 35 = .ok (.aload_n 0, 1) := by decide +kernel
theorem dX11_searched_36 : decode cX11_searched 36 = .ok (.getfield 93, 3) := by decide +kernel
theorem dX11_searched_39 : decode cX11_searched 39 = .ok (.aload_n 0, 1) := by decide +kernel
theorem dX11_searched_40 : decode cX11_searched 40 = .ok (.getfield 82, 3) := by decide +kernel
theorem dX11_searched_43 : decode cX11_searched 43 = .ok (.getfield 326, 3) := by decide +kernel
theorem dX11_searched_46 : decode cX11_searched 46 = .ok (.invokevirtual 382, 3) := by decide +kernel
theorem dX11_searched_49 : decode cX11_searched 49 = .ok (.aload_n 0, 1) := by decide +kernel
theorem dX11_searched_50 : decode cX11_searched 50 = .ok (.getfield 58, 3) := by decide +kernel
theorem dX11_searched_53 : decode cX11_searched 53 = .ok (.aload_n 0, 1) := by decide +kernel
theorem dX11_searched_54 : decode cX11_searched 54 = .ok (.getfield 72, 3) := by decide +kernel
theorem dX11_searched_57 : decode cX11_searched 57 = .ok (.aload_n 0, 1) := by decide +kernel
theorem dX11_searched_58 : decode cX11_searched 58 = .ok (.getfield 28, 3) := by decide +kernel
theorem dX11_searched_61 : decode cX11_searched 61 = .ok (.aload_n 0, 1) := by decide +kernel
theorem dX11_searched_62 : decode cX11_searched 62 = .ok (.getfield 51, 3) := by decide +kernel
theorem dX11_searched_65 : decode cX11_searched 65 = .ok (.aload_n 0, 1) := by decide +kernel
theorem dX11_searched_66 : decode cX11_searched 66 = .ok (.getfield 82, 3) := by decide +kernel
theorem dX11_searched_69 : decode cX11_searched 69 = .ok (.getfield 326, 3) := by decide +kernel
theorem dX11_searched_72 : decode cX11_searched 72 = .ok (.invokevirtual 386, 3) := by decide +kernel
theorem dX11_searched_75 : decode cX11_searched 75 = .ok (.aload_n 0, 1) := by decide +kernel
theorem dX11_searched_76 : decode cX11_searched 76 = .ok (.iconst 1, 1) := by decide +kernel
theorem dX11_searched_77 : decode cX11_searched 77 = .ok (.putfield 154, 3) := by decide +kernel
theorem dX11_searched_80 : decode cX11_searched 80 = .ok (.iconst 1, 1) := by decide +kernel
theorem dX11_searched_81 : decode cX11_searched 81 = .ok (.ireturn, 1) := by decide +kernel
