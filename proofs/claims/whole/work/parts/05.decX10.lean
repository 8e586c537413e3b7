theorem dX10_isReserved_0 : decode cX10_isReserved 0 = .ok (.lload_n 0, 1) := by decide +kernel
theorem dX10_isReserved_1 : decode cX10_isReserved 1 = .ok (.ldc2_w 9, 3) := by decide +kernel
theorem dX10_isReserved_4 : decode cX10_isReserved 4 = .ok (.lcmp, 1) := by decide +kernel
theorem dX10_isReserved_5 : decode cX10_isReserved 5 = .ok (.ifCond .eq 59, 3) := by decide +kernel
theorem dX10_isReserved_8 : decode cX10_isReserved 8 = .ok (.lload_n 0, 1) := by decide +kernel
theorem dX10_isReserved_9 : decode cX10_isReserved 9 = .ok (.ldc2_w 11, 3) := by decide +kernel
theorem dX10_isReserved_12 : decode cX10_isReserved 12 = .ok (.lcmp, 1) := by decide +kernel
theorem dX10_isReserved_13 : decode cX10_isReserved 13 = .ok (.ifCond .eq 51, 3) := by decide +kernel
theorem dX10_isReserved_16 : decode cX10_isReserved 16 = .ok (.lload_n 0, 1) := by decide +kernel
theorem dX10_isReserved_17 : decode cX10_isReserved 17 = .ok (.ldc2_w 13, 3) := by decide +kernel
theorem dX10_isReserved_20 : decode cX10_isReserved 20 = .ok (.lcmp, 1) := by decide +kernel
theorem dX10_isReserved_21 : decode cX10_isReserved 21 = .ok (.ifCond .eq 43, 3) := by decide +kernel
theorem dX10_isReserved_24 : decode cX10_isReserved 24 = .ok (.lload_n 0, 1) := by decide +kernel
theorem dX10_isReserved_25 : decode cX10_isReserved 25 = .ok (.ldc2_w 15, 3) := by decide +kernel
theorem dX10_isReserved_28 : decode cX10_isReserved 28 = .ok (.lcmp, 1) := by decide +kernel
theorem dX10_isReserved_29 : decode cX10_isReserved 29 = .ok (.ifCond .eq 35, 3) := by decide +kernel
theorem dX10_isReserved_32 : decode cX10_isReserved 32 = .ok (.lload_n 0, 1) := by decide +kernel
theorem dX10_isReserved_33 : decode cX10_isReserved 33 = .ok (.ldc2_w 17, 3) := by decide +kernel
theorem dX10_isReserved_36 : decode cX10_isReserved 36 = .ok (.lcmp, 1) := by decide +kernel
theorem dX10_isReserved_37 : decode cX10_isReserved 37 = .ok (.ifCond .eq 27, 3) := by decide +kernel
theorem dX10_isReserved_40 : decode cX10_isReserved 40 = .ok (.lload_n 0, 1) := by decide +kernel
theorem dX10_isReserved_41 : decode cX10_isReserved 41 = .ok (.ldc2_w 19, 3) := by decide +kernel
theorem dX10_isReserved_44 : decode cX10_isReserved 44 = .ok (.lcmp, 1) := by decide +kernel
theorem dX10_isReserved_45 : decode cX10_isReserved 45 = .ok (.ifCond .eq 19, 3) := by decide +kernel
theorem dX10_isReserved_48 : decode cX10_isReserved 48 = .ok (.lload_n 0, 1) := by decide +kernel
theorem dX10_isReserved_49 : decode cX10_isReserved 49 = .ok (.ldc2_w 21, 3) := by decide +kernel
theorem dX10_isReserved_52 : decode cX10_isReserved 52 = .ok (.lcmp, 1) := by decide +kernel
theorem dX10_isReserved_53 : decode cX10_isReserved 53 = .ok (.ifCond .eq 11, 3) := by decide +kernel
theorem dX10_isReserved_56 : decode cX10_isReserved 56 = .ok (.lload_n 0, 1) := by decide +kernel
theorem dX10_isReserved_57 : decode cX10_isReserved 57 = .ok (.ldc2_w 23, 3) := by decide +kernel
theorem dX10_isReserved_60 : decode cX10_isReserved 60 = .ok (.lcmp, 1) := by decide +kernel
theorem dX10_isReserved_61 : decode cX10_isReserved 61 = .ok (.ifCond .ne 7, 3) := by decide +kernel
theorem dX10_isReserved_64 : decode cX10_isReserved 64 = .ok (.iconst 1, 1) := by decide +kernel
theorem dX10_isReserved_65 : decode cX10_isReserved 65 = .ok (.goto 4, 3) := by decide +kernel
theorem dX10_isReserved_68 : decode cX10_isReserved 68 = .ok (.iconst 0, 1) := by decide +kernel
theorem dX10_isReserved_69 : decode cX10_isReserved 69 = .ok (.ireturn, 1) := by decide +kernel
theorem dX10_lengthOf_0 : decode cX10_lengthOf 0 = .ok (.iconst 0, 1) := by decide +kernel
theorem dX10_lengthOf_1 : decode cX10_lengthOf 1 = .ok (.istore_n 2, 1) := by decide +kernel
theorem dX10_lengthOf_2 : decode cX10_lengthOf 2 = .ok (.iload_n 2, 1) := by decide +kernel
theorem dX10_lengthOf_3 : decode cX10_lengthOf 3 = .ok (.bipush 8, 2) := by decide +kernel
theorem dX10_lengthOf_5 : decode cX10_lengthOf 5 = .ok (.if_icmp .ge 19, 3) := by decide +kernel
theorem dX10_lengthOf_8 : decode cX10_lengthOf 8 = .ok (.lload_n 0, 1) := by decide +kernel
theorem dX10_lengthOf_9 : decode cX10_lengthOf 9 = .ok (.getstatic 25, 3) := by decide +kernel
theorem dX10_lengthOf_12 : decode cX10_lengthOf 12 = .ok (.iload_n 2, 1) := by decide +kernel
theorem dX10_lengthOf_13 : decode cX10_lengthOf 13 = .ok (.laload, 1) := by decide +kernel
theorem dX10_lengthOf_14 : decode cX10_lengthOf 14 = .ok (.lcmp, 1) := by decide +kernel
theorem dX10_lengthOf_15 : decode cX10_lengthOf 15 = .ok (.ifCond .lt 9, 3) := by decide +kernel
theorem dX10_lengthOf_18 : decode cX10_lengthOf 18 = .ok (.iinc 2 1, 3) := by decide +kernel
theorem dX10_lengthOf_21 : decode cX10_lengthOf 21 = .ok (.goto (-19), 3) := by decide +kernel
theorem dX10_lengthOf_24 : decode cX10_lengthOf 24 = .ok (.iload_n 2, 1) := by decide +kernel
theorem dX10_lengthOf_25 : decode cX10_lengthOf 25 = .ok (.ireturn, 1) := by decide +kernel
theorem dX10_orderOf_0 : decode cX10_orderOf 0 = .ok (.lload_n 0, 1) := by decide +kernel
theorem dX10_orderOf_1 : decode cX10_orderOf 1 = .ok (.getstatic 25, 3) := by decide +kernel
theorem dX10_orderOf_4 : decode cX10_orderOf 4 = .ok (.bipush 8, 2) := by decide +kernel
theorem dX10_orderOf_6 : decode cX10_orderOf 6 = .ok (.lload_n 0, 1) := by decide +kernel
theorem dX10_orderOf_7 : decode cX10_orderOf 7 = .ok (.invokestatic 29, 3) := by decide +kernel
theorem dX10_orderOf_10 : decode cX10_orderOf 10 = .ok (.isub, 1) := by decide +kernel
theorem dX10_orderOf_11 : decode cX10_orderOf 11 = .ok (.laload, 1) := by decide +kernel
theorem dX10_orderOf_12 : decode cX10_orderOf 12 = .ok (.lmul, 1) := by decide +kernel
theorem dX10_orderOf_13 : decode cX10_orderOf 13 = .ok (.lreturn, 1) := by decide +kernel
theorem dX10_isOtherForm_0 : decode cX10_isOtherForm 0 = .ok (.lload_n 0, 1) := by decide +kernel
theorem dX10_isOtherForm_1 : decode cX10_isOtherForm 1 = .ok (.lload_n 2, 1) := by decide +kernel
theorem dX10_isOtherForm_2 : decode cX10_isOtherForm 2 = .ok (.ldc2_w 33, 3) := by decide +kernel
theorem dX10_isOtherForm_5 : decode cX10_isOtherForm 5 = .ok (.lmul, 1) := by decide +kernel
theorem dX10_isOtherForm_6 : decode cX10_isOtherForm 6 = .ok (.ldc2_w 35, 3) := by decide +kernel
theorem dX10_isOtherForm_9 : decode cX10_isOtherForm 9 = .ok (.ladd, 1) := by decide +kernel
theorem dX10_isOtherForm_10 : decode cX10_isOtherForm 10 = .ok (.lcmp, 1) := by decide +kernel
theorem dX10_isOtherForm_11 : decode cX10_isOtherForm 11 = .ok (.ifCond .eq 17, 3) := by decide +kernel
theorem dX10_isOtherForm_14 : decode cX10_isOtherForm 14 = .ok (.lload_n 2, 1) := by decide +kernel
theorem dX10_isOtherForm_15 : decode cX10_isOtherForm 15 = .ok (.lload_n 0, 1) := by decide +kernel
theorem dX10_isOtherForm_16 : decode cX10_isOtherForm 16 = .ok (.ldc2_w 33, 3) := by decide +kernel
theorem dX10_isOtherForm_19 : decode cX10_isOtherForm 19 = .ok (.lmul, 1) := by decide +kernel
theorem dX10_isOtherForm_20 : decode cX10_isOtherForm 20 = .ok (.ldc2_w 35, 3) := by decide +kernel
theorem dX10_isOtherForm_23 : decode cX10_isOtherForm 23 = .ok (.ladd, 1) := by decide +kernel
theorem dX10_isOtherForm_24 : decode cX10_isOtherForm 24 = .ok (.lcmp, 1) := by decide +kernel
theorem dX10_isOtherForm_25 : decode cX10_isOtherForm 25 = .ok (.ifCond .ne 7, 3) := by decide +kernel
theorem dX10_isOtherForm_28 : decode cX10_isOtherForm 28 = .ok (.iconst 1, 1) := by decide +kernel
theorem dX10_isOtherForm_29 : decode cX10_isOtherForm 29 = .ok (.goto 4, 3) := by decide +kernel
theorem dX10_isOtherForm_32 : decode cX10_isOtherForm 32 = .ok (.iconst 0, 1) := by decide +kernel
theorem dX10_isOtherForm_33 : decode cX10_isOtherForm 33 = .ok (.ireturn, 1) := by decide +kernel
theorem dX10_isOneLetterApart_0 : decode cX10_isOneLetterApart 0 = .ok (.lload_n 0, 1) := by decide +kernel
theorem dX10_isOneLetterApart_1 : decode cX10_isOneLetterApart 1 = .ok (.invokestatic 29, 3) := by decide +kernel
theorem dX10_isOneLetterApart_4 : decode cX10_isOneLetterApart 4 = .ok (.istore 4, 2) := by decide +kernel
theorem dX10_isOneLetterApart_6 : decode cX10_isOneLetterApart 6 = .ok (.lload_n 2, 1) := by decide +kernel
theorem dX10_isOneLetterApart_7 : decode cX10_isOneLetterApart 7 = .ok (.invokestatic 29, 3) := by decide +kernel
theorem dX10_isOneLetterApart_10 : decode cX10_isOneLetterApart 10 = .ok (.istore 5, 2) := by decide +kernel
theorem dX10_isOneLetterApart_12 : decode cX10_isOneLetterApart 12 = .ok (.lload_n 0, 1) := by decide +kernel
theorem dX10_isOneLetterApart_13 : decode cX10_isOneLetterApart 13 = .ok (.lload_n 2, 1) := by decide +kernel
theorem dX10_isOneLetterApart_14 : decode cX10_isOneLetterApart 14 = .ok (.lcmp, 1) := by decide +kernel
theorem dX10_isOneLetterApart_15 : decode cX10_isOneLetterApart 15 = .ok (.ifCond .eq 15, 3) := by decide +kernel
theorem dX10_isOneLetterApart_18 : decode cX10_isOneLetterApart 18 = .ok (.iload 4, 2) := by decide +kernel
theorem dX10_isOneLetterApart_20 : decode cX10_isOneLetterApart 20 = .ok (.iload 5, 2) := by decide +kernel
theorem dX10_isOneLetterApart_22 : decode cX10_isOneLetterApart 22 = .ok (.isub, 1) := by decide +kernel
theorem dX10_isOneLetterApart_23 : decode cX10_isOneLetterApart 23 = .ok (.invokestatic 37, 3) := by decide +kernel
theorem dX10_isOneLetterApart_26 : decode cX10_isOneLetterApart 26 = .ok (.iconst 1, 1) := by decide +kernel
theorem dX10_isOneLetterApart_27 : decode cX10_isOneLetterApart 27 = .ok (.if_icmp .le 5, 3) := by decide +kernel
theorem dX10_isOneLetterApart_30 : decode cX10_isOneLetterApart 30 = .ok (.iconst 0, 1) := by decide +kernel
theorem dX10_isOneLetterApart_31 : decode cX10_isOneLetterApart 31 = .ok (.ireturn, 1) := by decide +kernel
theorem dX10_isOneLetterApart_32 : decode cX10_isOneLetterApart 32 = .ok (.iload 4, 2) := by decide +kernel
theorem dX10_isOneLetterApart_34 : decode cX10_isOneLetterApart 34 = .ok (.iload 5, 2) := by decide +kernel
theorem dX10_isOneLetterApart_36 : decode cX10_isOneLetterApart 36 = .ok (.invokestatic 43, 3) := by decide +kernel
theorem dX10_isOneLetterApart_39 : decode cX10_isOneLetterApart 39 = .ok (.istore 6, 2) := by decide +kernel
theorem dX10_isOneLetterApart_41 : decode cX10_isOneLetterApart 41 = .ok (.iconst 0, 1) := by decide +kernel
theorem dX10_isOneLetterApart_42 : decode cX10_isOneLetterApart 42 = .ok (.istore 7, 2) := by decide +kernel
theorem dX10_isOneLetterApart_44 : decode cX10_isOneLetterApart 44 = .ok (.iload 7, 2) := by decide +kernel
theorem dX10_isOneLetterApart_46 : decode cX10_isOneLetterApart 46 = .ok (.iload 6, 2) := by decide +kernel
theorem dX10_isOneLetterApart_48 : decode cX10_isOneLetterApart 48 = .ok (.if_icmp .ge 57, 3) := by decide +kernel
theorem dX10_isOneLetterApart_51 : decode cX10_isOneLetterApart 51 = .ok (.iload 4, 2) := by decide +kernel
theorem dX10_isOneLetterApart_53 : decode cX10_isOneLetterApart 53 = .ok (.iload 6, 2) := by decide +kernel
theorem dX10_isOneLetterApart_55 : decode cX10_isOneLetterApart 55 = .ok (.if_icmp .ne 12, 3) := by decide +kernel
theorem dX10_isOneLetterApart_58 : decode cX10_isOneLetterApart 58 = .ok (.lload_n 0, 1) := by decide +kernel
theorem dX10_isOneLetterApart_59 : decode cX10_isOneLetterApart 59 = .ok (.iload 7, 2) := by decide +kernel
theorem dX10_isOneLetterApart_61 : decode cX10_isOneLetterApart 61 = .ok (.invokestatic 47, 3) := by decide +kernel
theorem dX10_isOneLetterApart_64 : decode cX10_isOneLetterApart 64 = .ok (.goto 4, 3) := by decide +kernel
theorem dX10_isOneLetterApart_67 : decode cX10_isOneLetterApart 67 = .ok (.lload_n 0, 1) := by decide +kernel
theorem dX10_isOneLetterApart_68 : decode cX10_isOneLetterApart 68 = .ok (.lstore 8, 2) := by decide +kernel
theorem dX10_isOneLetterApart_70 : decode cX10_isOneLetterApart 70 = .ok (.iload 5, 2) := by decide +kernel
theorem dX10_isOneLetterApart_72 : decode cX10_isOneLetterApart 72 = .ok (.iload 6, 2) := by decide +kernel
theorem dX10_isOneLetterApart_74 : decode cX10_isOneLetterApart 74 = .ok (.if_icmp .ne 12, 3) := by decide +kernel
theorem dX10_isOneLetterApart_77 : decode cX10_isOneLetterApart 77 = .ok (.lload_n 2, 1) := by decide +kernel
theorem dX10_isOneLetterApart_78 : decode cX10_isOneLetterApart 78 = .ok (.iload 7, 2) := by decide +kernel
theorem dX10_isOneLetterApart_80 : decode cX10_isOneLetterApart 80 = .ok (.invokestatic 47, 3) := by decide +kernel
theorem dX10_isOneLetterApart_83 : decode cX10_isOneLetterApart 83 = .ok (.goto 4, 3) := by decide +kernel
theorem dX10_isOneLetterApart_86 : decode cX10_isOneLetterApart 86 = .ok (.lload_n 2, 1) := by decide +kernel
theorem dX10_isOneLetterApart_87 : decode cX10_isOneLetterApart 87 = .ok (.lstore 10, 2) := by decide +kernel
theorem dX10_isOneLetterApart_89 : decode cX10_isOneLetterApart 89 = .ok (.lload 8, 2) := by decide +kernel
theorem dX10_isOneLetterApart_91 : decode cX10_isOneLetterApart 91 = .ok (.lload 10, 2) := by decide +kernel
theorem dX10_isOneLetterApart_93 : decode cX10_isOneLetterApart 93 = .ok (.lcmp, 1) := by decide +kernel
theorem dX10_isOneLetterApart_94 : decode cX10_isOneLetterApart 94 = .ok (.ifCond .ne 5, 3) := by decide +kernel
theorem dX10_isOneLetterApart_97 : decode cX10_isOneLetterApart 97 = .ok (.iconst 1, 1) := by decide +kernel
theorem dX10_isOneLetterApart_98 : decode cX10_isOneLetterApart 98 = .ok (.ireturn, 1) := by decide +kernel
theorem dX10_isOneLetterApart_99 : decode cX10_isOneLetterApart 99 = .ok (.iinc 7 1, 3) := by decide +kernel
theorem dX10_isOneLetterApart_102 : decode cX10_isOneLetterApart 102 = .ok (.goto (-58), 3) := by decide +kernel
theorem dX10_isOneLetterApart_105 : decode cX10_isOneLetterApart 105 = .ok (.iconst 0, 1) := by decide +kernel
theorem dX10_isOneLetterApart_106 : decode cX10_isOneLetterApart 106 = .ok (.ireturn, 1) := by decide +kernel
theorem dX10_without_0 : decode cX10_without 0 = .ok (.iload_n 2, 1) := by decide +kernel
theorem dX10_without_1 : decode cX10_without 1 = .ok (.ifCond .lt 9, 3) := by decide +kernel
theorem dX10_without_4 : decode cX10_without 4 = .ok (.iload_n 2, 1) := by decide +kernel
theorem dX10_without_5 : decode cX10_without 5 = .ok (.bipush 8, 2) := by decide +kernel
theorem dX10_without_7 : decode cX10_without 7 = .ok (.if_icmp .lt 5, 3) := by decide +kernel
theorem dX10_without_10 : decode cX10_without 10 = .ok (.lload_n 0, 1) := by decide +kernel
theorem dX10_without_11 : decode cX10_without 11 = .ok (.lreturn, 1) := by decide +kernel
theorem dX10_without_12 : decode cX10_without 12 = .ok (.lload_n 0, 1) := by decide +kernel
theorem dX10_without_13 : decode cX10_without 13 = .ok (.getstatic 25, 3) := by decide +kernel
theorem dX10_without_16 : decode cX10_without 16 = .ok (.iload_n 2, 1) := by decide +kernel
theorem dX10_without_17 : decode cX10_without 17 = .ok (.iconst 1, 1) := by decide +kernel
theorem dX10_without_18 : decode cX10_without 18 = .ok (.iadd, 1) := by decide +kernel
theorem dX10_without_19 : decode cX10_without 19 = .ok (.laload, 1) := by decide +kernel
theorem dX10_without_20 : decode cX10_without 20 = .ok (.ldiv, 1) := by decide +kernel
theorem dX10_without_21 : decode cX10_without 21 = .ok (.getstatic 25, 3) := by decide +kernel
theorem dX10_without_24 : decode cX10_without 24 = .ok (.iload_n 2, 1) := by decide +kernel
theorem dX10_without_25 : decode cX10_without 25 = .ok (.laload, 1) := by decide +kernel
theorem dX10_without_26 : decode cX10_without 26 = .ok (.lmul, 1) := by decide +kernel
theorem dX10_without_27 : decode cX10_without 27 = .ok (.lload_n 0, 1) := by decide +kernel
theorem dX10_without_28 : decode cX10_without 28 = .ok (.getstatic 25, 3) := by decide +kernel
theorem dX10_without_31 : decode cX10_without 31 = .ok (.iload_n 2, 1) := by decide +kernel
theorem dX10_without_32 : decode cX10_without 32 = .ok (.laload, 1) := by decide +kernel
theorem dX10_without_33 : decode cX10_without 33 = .ok (.lrem, 1) := by decide +kernel
theorem dX10_without_34 : decode cX10_without 34 = .ok (.ladd, 1) := by decide +kernel
theorem dX10_without_35 : decode cX10_without 35 = .ok (.lreturn, 1) := by decide +kernel
