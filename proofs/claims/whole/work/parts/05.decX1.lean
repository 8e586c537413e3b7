theorem dX1_init_0 : decode cX1_init 0 = .ok (.aload_n 0, 1) := by decide +kernel
theorem dX1_init_1 : decode cX1_init 1 = .ok (.invokespecial 3, 3) := by decide +kernel
theorem dX1_init_4 : decode cX1_init 4 = .ok (.aload_n 0, 1) := by decide +kernel
theorem dX1_init_5 : decode cX1_init 5 = .ok (.iconst 5, 1) := by decide +kernel
theorem dX1_init_6 : decode cX1_init 6 = .ok (.newarray .long, 2) := by decide +kernel
theorem dX1_init_8 : decode cX1_init 8 = .ok (.putfield 11, 3) := by decide +kernel
theorem dX1_init_11 : decode cX1_init 11 = .ok (.aload_n 0, 1) := by decide +kernel
theorem dX1_init_12 : decode cX1_init 12 = .ok (.iconst 5, 1) := by decide +kernel
theorem dX1_init_13 : decode cX1_init 13 = .ok (.newarray .int, 2) := by decide +kernel
theorem dX1_init_15 : decode cX1_init 15 = .ok (.putfield 15, 3) := by decide +kernel
theorem dX1_init_18 : decode cX1_init 18 = .ok (.aload_n 0, 1) := by decide +kernel
theorem dX1_init_19 : decode cX1_init 19 = .ok (.bipush 20, 2) := by decide +kernel
theorem dX1_init_21 : decode cX1_init 21 = .ok (.newarray .long, 2) := by decide +kernel
theorem dX1_init_23 : decode cX1_init 23 = .ok (.putfield 19, 3) := by decide +kernel
theorem dX1_init_26 : decode cX1_init 26 = .ok (.aload_n 0, 1) := by decide +kernel
theorem dX1_init_27 : decode cX1_init 27 = .ok (.bipush 20, 2) := by decide +kernel
theorem dX1_init_29 : decode cX1_init 29 = .ok (.newarray .int, 2) := by decide +kernel
theorem dX1_init_31 : decode cX1_init 31 = .ok (.putfield 22, 3) := by decide +kernel
theorem dX1_init_34 : decode cX1_init 34 = .ok (.aload_n 0, 1) := by decide +kernel
theorem dX1_init_35 : decode cX1_init 35 = .ok (.bipush 30, 2) := by decide +kernel
theorem dX1_init_37 : decode cX1_init 37 = .ok (.newarray .int, 2) := by decide +kernel
theorem dX1_init_39 : decode cX1_init 39 = .ok (.putfield 25, 3) := by decide +kernel
theorem dX1_init_42 : decode cX1_init 42 = .ok (.aload_n 0, 1) := by decide +kernel
theorem dX1_init_43 : decode cX1_init 43 = .ok (.bipush 30, 2) := by decide +kernel
theorem dX1_init_45 : decode cX1_init 45 = .ok (.newarray .int, 2) := by decide +kernel
theorem dX1_init_47 : decode cX1_init 47 = .ok (.putfield 28, 3) := by decide +kernel
theorem dX1_init_50 : decode cX1_init 50 = .ok (.aload_n 0, 1) := by decide +kernel
theorem dX1_init_51 : decode cX1_init 51 = .ok (.iconst 5, 1) := by decide +kernel
theorem dX1_init_52 : decode cX1_init 52 = .ok (.newarray .int, 2) := by decide +kernel
theorem dX1_init_54 : decode cX1_init 54 = .ok (.putfield 31, 3) := by decide +kernel
theorem dX1_init_57 : decode cX1_init 57 = .ok (.aload_n 0, 1) := by decide +kernel
theorem dX1_init_58 : decode cX1_init 58 = .ok (.bipush 120, 2) := by decide +kernel
theorem dX1_init_60 : decode cX1_init 60 = .ok (.newarray .long, 2) := by decide +kernel
theorem dX1_init_62 : decode cX1_init 62 = .ok (.putfield 34, 3) := by decide +kernel
theorem dX1_init_65 : decode cX1_init 65 = .ok (.aload_n 0, 1) := by decide +kernel
theorem dX1_init_66 : decode cX1_init 66 = .ok (.iconst 4, 1) := by decide +kernel
theorem dX1_init_67 : decode cX1_init 67 = .ok (.newarray .int, 2) := by decide +kernel
theorem dX1_init_69 : decode cX1_init 69 = .ok (.putfield 37, 3) := by decide +kernel
theorem dX1_init_72 : decode cX1_init 72 = .ok (.return_, 1) := by decide +kernel
theorem dX1_clear_0 : decode cX1_clear 0 = .ok (.aload_n 0, 1) := by decide +kernel
theorem dX1_clear_1 : decode cX1_clear 1 = .ok (.iconst 0, 1) := by decide +kernel
theorem dX1_clear_2 : decode cX1_clear 2 = .ok (.putfield 40, 3) := by decide +kernel
theorem dX1_clear_5 : decode cX1_clear 5 = .ok (.aload_n 0, 1) := by decide +kernel
theorem dX1_clear_6 : decode cX1_clear 6 = .ok (.iconst 0, 1) := by decide +kernel
theorem dX1_clear_7 : decode cX1_clear 7 = .ok (.putfield 44, 3) := by decide +kernel
theorem dX1_clear_10 : decode cX1_clear 10 = .ok (.aload_n 0, 1) := by decide +kernel
theorem dX1_clear_11 : decode cX1_clear 11 = .ok (.getfield 31, 3) := by decide +kernel
theorem dX1_clear_14 : decode cX1_clear 14 = .ok (.iconst 0, 1) := by decide +kernel
theorem dX1_clear_15 : decode cX1_clear 15 = .ok (.invokestatic 47, 3) := by decide +kernel
theorem dX1_clear_18 : decode cX1_clear 18 = .ok (.aload_n 0, 1) := by decide +kernel
theorem dX1_clear_19 : decode cX1_clear 19 = .ok (.getfield 37, 3) := by decide +kernel
theorem dX1_clear_22 : decode cX1_clear 22 = .ok (.iconst 0, 1) := by decide +kernel
theorem dX1_clear_23 : decode cX1_clear 23 = .ok (.invokestatic 47, 3) := by decide +kernel
theorem dX1_clear_26 : decode cX1_clear 26 = .ok (.return_, 1) := by decide +kernel
theorem dX1_tableNamed_0 : decode cX1_tableNamed 0 = .ok (.iconst 0, 1) := by decide +kernel
theorem dX1_tableNamed_1 : decode cX1_tableNamed 1 = .ok (.istore_n 3, 1) := by decide +kernel
theorem dX1_tableNamed_2 : decode cX1_tableNamed 2 = .ok (.iload_n 3, 1) := by decide +kernel
theorem dX1_tableNamed_3 : decode cX1_tableNamed 3 = .ok (.aload_n 0, 1) := by decide +kernel
theorem dX1_tableNamed_4 : decode cX1_tableNamed 4 = .ok (.getfield 40, 3) := by decide +kernel
theorem dX1_tableNamed_7 : decode cX1_tableNamed 7 = .ok (.if_icmp .ge 22, 3) := by decide +kernel
theorem dX1_tableNamed_10 : decode cX1_tableNamed 10 = .ok (.aload_n 0, 1) := by decide +kernel
theorem dX1_tableNamed_11 : decode cX1_tableNamed 11 = .ok (.getfield 11, 3) := by decide +kernel
theorem dX1_tableNamed_14 : decode cX1_tableNamed 14 = .ok (.iload_n 3, 1) := by decide +kernel
theorem dX1_tableNamed_15 : decode cX1_tableNamed 15 = .ok (.laload, 1) := by decide +kernel
theorem dX1_tableNamed_16 : decode cX1_tableNamed 16 = .ok (.lload_n 1, 1) := by decide +kernel
theorem dX1_tableNamed_17 : decode cX1_tableNamed 17 = .ok (.lcmp, 1) := by decide +kernel
theorem dX1_tableNamed_18 : decode cX1_tableNamed 18 = .ok (.ifCond .ne 5, 3) := by decide +kernel
theorem dX1_tableNamed_21 : decode cX1_tableNamed 21 = .ok (.iload_n 3, 1) := by decide +kernel
theorem dX1_tableNamed_22 : decode cX1_tableNamed 22 = .ok (.ireturn, 1) := by decide +kernel
theorem dX1_tableNamed_23 : decode cX1_tableNamed 23 = .ok (.iinc 3 1, 3) := by decide +kernel
theorem dX1_tableNamed_26 : decode cX1_tableNamed 26 = .ok (.goto (-24), 3) := by decide +kernel
theorem dX1_tableNamed_29 : decode cX1_tableNamed 29 = .ok (.iconst (-1), 1) := by decide +kernel
theorem dX1_tableNamed_30 : decode cX1_tableNamed 30 = .ok (.ireturn, 1) := by decide +kernel
theorem dX1_hasColumnNamed_0 : decode cX1_hasColumnNamed 0 = .ok (.iconst 0, 1) := by decide +kernel
theorem dX1_hasColumnNamed_1 : decode cX1_hasColumnNamed 1 = .ok (.istore 4, 2) := by decide +kernel
theorem dX1_hasColumnNamed_3 : decode cX1_hasColumnNamed 3 = .ok (.iload 4, 2) := by decide +kernel
theorem dX1_hasColumnNamed_5 : decode cX1_hasColumnNamed 5 = .ok (.aload_n 0, 1) := by decide +kernel
theorem dX1_hasColumnNamed_6 : decode cX1_hasColumnNamed 6 = .ok (.getfield 15, 3) := by decide +kernel
theorem dX1_hasColumnNamed_9 : decode cX1_hasColumnNamed 9 = .ok (.iload_n 1, 1) := by decide +kernel
theorem dX1_hasColumnNamed_10 : decode cX1_hasColumnNamed 10 = .ok (.iaload, 1) := by decide +kernel
theorem dX1_hasColumnNamed_11 : decode cX1_hasColumnNamed 11 = .ok (.if_icmp .ge 27, 3) := by decide +kernel
theorem dX1_hasColumnNamed_14 : decode cX1_hasColumnNamed 14 = .ok (.aload_n 0, 1) := by decide +kernel
theorem dX1_hasColumnNamed_15 : decode cX1_hasColumnNamed 15 = .ok (.getfield 19, 3) := by decide +kernel
theorem dX1_hasColumnNamed_18 : decode cX1_hasColumnNamed 18 = .ok (.iload_n 1, 1) := by decide +kernel
theorem dX1_hasColumnNamed_19 : decode cX1_hasColumnNamed 19 = .ok (.iconst 4, 1) := by decide +kernel
theorem dX1_hasColumnNamed_20 : decode cX1_hasColumnNamed 20 = .ok (.imul, 1) := by decide +kernel
theorem dX1_hasColumnNamed_21 : decode cX1_hasColumnNamed 21 = .ok (.iload 4, 2) := by decide +kernel
theorem dX1_hasColumnNamed_23 : decode cX1_hasColumnNamed 23 = .ok (.iadd, 1) := by decide +kernel
theorem dX1_hasColumnNamed_24 : decode cX1_hasColumnNamed 24 = .ok (.laload, 1) := by decide +kernel
theorem dX1_hasColumnNamed_25 : decode cX1_hasColumnNamed 25 = .ok (.lload_n 2, 1) := by decide +kernel
theorem dX1_hasColumnNamed_26 : decode cX1_hasColumnNamed 26 = .ok (.lcmp, 1) := by decide +kernel
theorem dX1_hasColumnNamed_27 : decode cX1_hasColumnNamed 27 = .ok (.ifCond .ne 5, 3) := by decide +kernel
theorem dX1_hasColumnNamed_30 : decode cX1_hasColumnNamed 30 = .ok (.iconst 1, 1) := by decide +kernel
theorem dX1_hasColumnNamed_31 : decode cX1_hasColumnNamed 31 = .ok (.ireturn, 1) := by decide +kernel
theorem dX1_hasColumnNamed_32 : decode cX1_hasColumnNamed 32 = .ok (.iinc 4 1, 3) := by decide +kernel
theorem dX1_hasColumnNamed_35 : decode cX1_hasColumnNamed 35 = .ok (.goto (-32), 3) := by decide +kernel
theorem dX1_hasColumnNamed_38 : decode cX1_hasColumnNamed 38 = .ok (.iconst 0, 1) := by decide +kernel
theorem dX1_hasColumnNamed_39 : decode cX1_hasColumnNamed 39 = .ok (.ireturn, 1) := by decide +kernel
theorem dX1_addTable_0 : decode cX1_addTable 0 = .ok (.aload_n 0, 1) := by decide +kernel
theorem dX1_addTable_1 : decode cX1_addTable 1 = .ok (.getfield 40, 3) := by decide +kernel
theorem dX1_addTable_4 : decode cX1_addTable 4 = .ok (.iconst 5, 1) := by decide +kernel
theorem dX1_addTable_5 : decode cX1_addTable 5 = .ok (.if_icmp .ge 33, 3) := by decide +kernel
theorem dX1_addTable_8 : decode cX1_addTable 8 = .ok (.aload_n 0, 1) := by decide +kernel
theorem dX1_addTable_9 : decode cX1_addTable 9 = .ok (.getfield 11, 3) := by decide +kernel
theorem dX1_addTable_12 : decode cX1_addTable 12 = .ok (.aload_n 0, 1) := by decide +kernel
theorem dX1_addTable_13 : decode cX1_addTable 13 = .ok (.getfield 40, 3) := by decide +kernel
theorem dX1_addTable_16 : decode cX1_addTable 16 = .ok (.lload_n 1, 1) := by decide +kernel
theorem dX1_addTable_17 : decode cX1_addTable 17 = .ok (.lastore, 1) := by decide +kernel
theorem dX1_addTable_18 : decode cX1_addTable 18 = .ok (.aload_n 0, 1) := by decide +kernel
theorem dX1_addTable_19 : decode cX1_addTable 19 = .ok (.getfield 15, 3) := by decide +kernel
theorem dX1_addTable_22 : decode cX1_addTable 22 = .ok (.aload_n 0, 1) := by decide +kernel
theorem dX1_addTable_23 : decode cX1_addTable 23 = .ok (.getfield 40, 3) := by decide +kernel
theorem dX1_addTable_26 : decode cX1_addTable 26 = .ok (.iconst 0, 1) := by decide +kernel
theorem dX1_addTable_27 : decode cX1_addTable 27 = .ok (.iastore, 1) := by decide +kernel
theorem dX1_addTable_28 : decode cX1_addTable 28 = .ok (.aload_n 0, 1) := by decide +kernel
theorem dX1_addTable_29 : decode cX1_addTable 29 = .ok (.dup, 1) := by decide +kernel
theorem dX1_addTable_30 : decode cX1_addTable 30 = .ok (.getfield 40, 3) := by decide +kernel
theorem dX1_addTable_33 : decode cX1_addTable 33 = .ok (.iconst 1, 1) := by decide +kernel
theorem dX1_addTable_34 : decode cX1_addTable 34 = .ok (.iadd, 1) := by decide +kernel
theorem dX1_addTable_35 : decode cX1_addTable 35 = .ok (.putfield 40, 3) := by decide +kernel
theorem dX1_addTable_38 : decode cX1_addTable 38 = .ok (.return_, 1) := by decide +kernel
theorem dX1_addColumn_0 : decode cX1_addColumn 0 = .ok (.aload_n 0, 1) := by decide +kernel
theorem dX1_addColumn_1 : decode cX1_addColumn 1 = .ok (.getfield 15, 3) := by decide +kernel
theorem dX1_addColumn_4 : decode cX1_addColumn 4 = .ok (.iload_n 1, 1) := by decide +kernel
theorem dX1_addColumn_5 : decode cX1_addColumn 5 = .ok (.iaload, 1) := by decide +kernel
theorem dX1_addColumn_6 : decode cX1_addColumn 6 = .ok (.istore 5, 2) := by decide +kernel
theorem dX1_addColumn_8 : decode cX1_addColumn 8 = .ok (.iload 5, 2) := by decide +kernel
theorem dX1_addColumn_10 : decode cX1_addColumn 10 = .ok (.iconst 4, 1) := by decide +kernel
theorem dX1_addColumn_11 : decode cX1_addColumn 11 = .ok (.if_icmp .ge 38, 3) := by decide +kernel
theorem dX1_addColumn_14 : decode cX1_addColumn 14 = .ok (.aload_n 0, 1) := by decide +kernel
theorem dX1_addColumn_15 : decode cX1_addColumn 15 = .ok (.getfield 19, 3) := by decide +kernel
theorem dX1_addColumn_18 : decode cX1_addColumn 18 = .ok (.iload_n 1, 1) := by decide +kernel
theorem dX1_addColumn_19 : decode cX1_addColumn 19 = .ok (.iconst 4, 1) := by decide +kernel
theorem dX1_addColumn_20 : decode cX1_addColumn 20 = .ok (.imul, 1) := by decide +kernel
theorem dX1_addColumn_21 : decode cX1_addColumn 21 = .ok (.iload 5, 2) := by decide +kernel
theorem dX1_addColumn_23 : decode cX1_addColumn 23 = .ok (.iadd, 1) := by decide +kernel
theorem dX1_addColumn_24 : decode cX1_addColumn 24 = .ok (.lload_n 2, 1) := by decide +kernel
theorem dX1_addColumn_25 : decode cX1_addColumn 25 = .ok (.lastore, 1) := by decide +kernel
theorem dX1_addColumn_26 : decode cX1_addColumn 26 = .ok (.aload_n 0, 1) := by decide +kernel
theorem dX1_addColumn_27 : decode cX1_addColumn 27 = .ok (.getfield 22, 3) := by decide +kernel
theorem dX1_addColumn_30 : decode cX1_addColumn 30 = .ok (.iload_n 1, 1) := by decide +kernel
theorem dX1_addColumn_31 : decode cX1_addColumn 31 = .ok (.iconst 4, 1) := by decide +kernel
theorem dX1_addColumn_32 : decode cX1_addColumn 32 = .ok (.imul, 1) := by decide +kernel
theorem dX1_addColumn_33 : decode cX1_addColumn 33 = .ok (.iload 5, 2) := by decide +kernel
theorem dX1_addColumn_35 : decode cX1_addColumn 35 = .ok (.iadd, 1) := by decide +kernel
theorem dX1_addColumn_36 : decode cX1_addColumn 36 = .ok (.iload 4, 2) := by decide +kernel
theorem dX1_addColumn_38 : decode cX1_addColumn 38 = .ok (.iastore, 1) := by decide +kernel
theorem dX1_addColumn_39 : decode cX1_addColumn 39 = .ok (.aload_n 0, 1) := by decide +kernel
theorem dX1_addColumn_40 : decode cX1_addColumn 40 = .ok (.getfield 15, 3) := by decide +kernel
theorem dX1_addColumn_43 : decode cX1_addColumn 43 = .ok (.iload_n 1, 1) := by decide +kernel
theorem dX1_addColumn_44 : decode cX1_addColumn 44 = .ok (.dup2, 1) := by decide +kernel
theorem dX1_addColumn_45 : decode cX1_addColumn 45 = .ok (.iaload, 1) := by decide +kernel
theorem dX1_addColumn_46 : decode cX1_addColumn 46 = .ok (.iconst 1, 1) := by decide +kernel
theorem dX1_addColumn_47 : decode cX1_addColumn 47 = .ok (.iadd, 1) := by decide +kernel
theorem dX1_addColumn_48 : decode cX1_addColumn 48 = .ok (.iastore, 1) := by decide +kernel
theorem dX1_addColumn_49 : decode cX1_addColumn 49 = .ok (.return_, 1) := by decide +kernel
theorem dX1_putCell_0 : decode cX1_putCell 0 = .ok (.aload_n 0, 1) := by decide +kernel
theorem dX1_putCell_1 : decode cX1_putCell 1 = .ok (.getfield 44, 3) := by decide +kernel
theorem dX1_putCell_4 : decode cX1_putCell 4 = .ok (.bipush 30, 2) := by decide +kernel
theorem dX1_putCell_6 : decode cX1_putCell 6 = .ok (.if_icmp .ge 26, 3) := by decide +kernel
theorem dX1_putCell_9 : decode cX1_putCell 9 = .ok (.iload_n 1, 1) := by decide +kernel
theorem dX1_putCell_10 : decode cX1_putCell 10 = .ok (.ifCond .lt 22, 3) := by decide +kernel
theorem dX1_putCell_13 : decode cX1_putCell 13 = .ok (.iload_n 1, 1) := by decide +kernel
theorem dX1_putCell_14 : decode cX1_putCell 14 = .ok (.iconst 4, 1) := by decide +kernel
theorem dX1_putCell_15 : decode cX1_putCell 15 = .ok (.if_icmp .ge 17, 3) := by decide +kernel
theorem dX1_putCell_18 : decode cX1_putCell 18 = .ok (.aload_n 0, 1) := by decide +kernel
theorem dX1_putCell_19 : decode cX1_putCell 19 = .ok (.getfield 34, 3) := by decide +kernel
theorem dX1_putCell_22 : decode cX1_putCell 22 = .ok (.aload_n 0, 1) := by decide +kernel
theorem dX1_putCell_23 : decode cX1_putCell 23 = .ok (.getfield 44, 3) := by decide +kernel
theorem dX1_putCell_26 : decode cX1_putCell 26 = .ok (.iconst 4, 1) := by decide +kernel
theorem dX1_putCell_27 : decode cX1_putCell 27 = .ok (.imul, 1) := by decide +kernel
theorem dX1_putCell_28 : decode cX1_putCell 28 = .ok (.iload_n 1, 1) := by decide +kernel
theorem dX1_putCell_29 : decode cX1_putCell 29 = .ok (.iadd, 1) := by decide +kernel
theorem dX1_putCell_30 : decode cX1_putCell 30 = .ok (.lload_n 2, 1) := by decide +kernel
theorem dX1_putCell_31 : decode cX1_putCell 31 = .ok (.lastore, 1) := by decide +kernel
theorem dX1_putCell_32 : decode cX1_putCell 32 = .ok (.return_, 1) := by decide +kernel
theorem dX1_addRow_0 : decode cX1_addRow 0 = .ok (.aload_n 0, 1) := by decide +kernel
theorem dX1_addRow_1 : decode cX1_addRow 1 = .ok (.getfield 44, 3) := by decide +kernel
theorem dX1_addRow_4 : decode cX1_addRow 4 = .ok (.bipush 30, 2) := by decide +kernel
theorem dX1_addRow_6 : decode cX1_addRow 6 = .ok (.if_icmp .ge 48, 3) := by decide +kernel
theorem dX1_addRow_9 : decode cX1_addRow 9 = .ok (.aload_n 0, 1) := by decide +kernel
theorem dX1_addRow_10 : decode cX1_addRow 10 = .ok (.getfield 25, 3) := by decide +kernel
theorem dX1_addRow_13 : decode cX1_addRow 13 = .ok (.aload_n 0, 1) := by decide +kernel
theorem dX1_addRow_14 : decode cX1_addRow 14 = .ok (.getfield 44, 3) := by decide +kernel
theorem dX1_addRow_17 : decode cX1_addRow 17 = .ok (.iload_n 1, 1) := by decide +kernel
theorem dX1_addRow_18 : decode cX1_addRow 18 = .ok (.iastore, 1) := by decide +kernel
theorem dX1_addRow_19 : decode cX1_addRow 19 = .ok (.aload_n 0, 1) := by decide +kernel
theorem dX1_addRow_20 : decode cX1_addRow 20 = .ok (.getfield 28, 3) := by decide +kernel
theorem dX1_addRow_23 : decode cX1_addRow 23 = .ok (.aload_n 0, 1) := by decide +kernel
theorem dX1_addRow_24 : decode cX1_addRow 24 = .ok (.getfield 44, 3) := by decide +kernel
theorem dX1_addRow_27 : decode cX1_addRow 27 = .ok (.aload_n 0, 1) := by decide +kernel
theorem dX1_addRow_28 : decode cX1_addRow 28 = .ok (.getfield 31, 3) := by decide +kernel
theorem dX1_addRow_31 : decode cX1_addRow 31 = .ok (.iload_n 1, 1) := by decide +kernel
theorem dX1_addRow_32 : decode cX1_addRow 32 = .ok (.iaload, 1) := by decide +kernel
theorem dX1_addRow_33 : decode cX1_addRow 33 = .ok (.iastore, 1) := by decide +kernel
theorem dX1_addRow_34 : decode cX1_addRow 34 = .ok (.aload_n 0, 1) := by decide +kernel
theorem dX1_addRow_35 : decode cX1_addRow 35 = .ok (.getfield 31, 3) := by decide +kernel
theorem dX1_addRow_38 : decode cX1_addRow 38 = .ok (.iload_n 1, 1) := by decide +kernel
theorem dX1_addRow_39 : decode cX1_addRow 39 = .ok (.dup2, 1) := by decide +kernel
theorem dX1_addRow_40 : decode cX1_addRow 40 = .ok (.iaload, 1) := by decide +kernel
theorem dX1_addRow_41 : decode cX1_addRow 41 = .ok (.iconst 1, 1) := by decide +kernel
theorem dX1_addRow_42 : decode cX1_addRow 42 = .ok (.iadd, 1) := by decide +kernel
theorem dX1_addRow_43 : decode cX1_addRow 43 = .ok (.iastore, 1) := by decide +kernel
theorem dX1_addRow_44 : decode cX1_addRow 44 = .ok (.aload_n 0, 1) := by decide +kernel
theorem dX1_addRow_45 : decode cX1_addRow 45 = .ok (.dup, 1) := by decide +kernel
theorem dX1_addRow_46 : decode cX1_addRow 46 = .ok (.getfield 44, 3) := by decide +kernel
theorem dX1_addRow_49 : decode cX1_addRow 49 = .ok (.iconst 1, 1) := by decide +kernel
theorem dX1_addRow_50 : decode cX1_addRow 50 = .ok (.iadd, 1) := by decide +kernel
theorem dX1_addRow_51 : decode cX1_addRow 51 = .ok (.putfield 44, 3) := by decide +kernel
theorem dX1_addRow_54 : decode cX1_addRow 54 = .ok (.return_, 1) := by decide +kernel
theorem dX1_keepRows_0 : decode cX1_keepRows 0 = .ok (.aload_n 0, 1) := by decide +kernel
theorem dX1_keepRows_1 : decode cX1_keepRows 1 = .ok (.getfield 44, 3) := by decide +kernel
theorem dX1_keepRows_4 : decode cX1_keepRows 4 = .ok (.iconst 1, 1) := by decide +kernel
theorem dX1_keepRows_5 : decode cX1_keepRows 5 = .ok (.isub, 1) := by decide +kernel
theorem dX1_keepRows_6 : decode cX1_keepRows 6 = .ok (.istore_n 2, 1) := by decide +kernel
theorem dX1_keepRows_7 : decode cX1_keepRows 7 = .ok (.iload_n 2, 1) := by decide +kernel
theorem dX1_keepRows_8 : decode cX1_keepRows 8 = .ok (.iload_n 1, 1) := by decide +kernel
theorem dX1_keepRows_9 : decode cX1_keepRows 9 = .ok (.if_icmp .lt 38, 3) := by decide +kernel
theorem dX1_keepRows_12 : decode cX1_keepRows 12 = .ok (.iload_n 2, 1) := by decide +kernel
theorem dX1_keepRows_13 : decode cX1_keepRows 13 = .ok (.ifCond .lt 34, 3) := by decide +kernel
theorem dX1_keepRows_16 : decode cX1_keepRows 16 = .ok (.aload_n 0, 1) := by decide +kernel
theorem dX1_keepRows_17 : decode cX1_keepRows 17 = .ok (.getfield 31, 3) := by decide +kernel
theorem dX1_keepRows_20 : decode cX1_keepRows 20 = .ok (.aload_n 0, 1) := by decide +kernel
theorem dX1_keepRows_21 : decode cX1_keepRows 21 = .ok (.getfield 25, 3) := by decide +kernel
theorem dX1_keepRows_24 : decode cX1_keepRows 24 = .ok (.iload_n 2, 1) := by decide +kernel
theorem dX1_keepRows_25 : decode cX1_keepRows 25 = .ok (.iaload, 1) := by decide +kernel
theorem dX1_keepRows_26 : decode cX1_keepRows 26 = .ok (.dup2, 1) := by decide +kernel
theorem dX1_keepRows_27 : decode cX1_keepRows 27 = .ok (.iaload, 1) := by decide +kernel
theorem dX1_keepRows_28 : decode cX1_keepRows 28 = .ok (.iconst 1, 1) := by decide +kernel
theorem dX1_keepRows_29 : decode cX1_keepRows 29 = .ok (.isub, 1) := by decide +kernel
theorem dX1_keepRows_30 : decode cX1_keepRows 30 = .ok (.iastore, 1) := by decide +kernel
theorem dX1_keepRows_31 : decode cX1_keepRows 31 = .ok (.aload_n 0, 1) := by decide +kernel
theorem dX1_keepRows_32 : decode cX1_keepRows 32 = .ok (.dup, 1) := by decide +kernel
theorem dX1_keepRows_33 : decode cX1_keepRows 33 = .ok (.getfield 44, 3) := by decide +kernel
theorem dX1_keepRows_36 : decode cX1_keepRows 36 = .ok (.iconst 1, 1) := by decide +kernel
theorem dX1_keepRows_37 : decode cX1_keepRows 37 = .ok (.isub, 1) := by decide +kernel
theorem dX1_keepRows_38 : decode cX1_keepRows 38 = .ok (.putfield 44, 3) := by decide +kernel
theorem dX1_keepRows_41 : decode cX1_keepRows 41 = .ok (.iinc 2 (-1), 3) := by decide +kernel
theorem dX1_keepRows_44 : decode cX1_keepRows 44 = .ok (.goto (-37), 3) := by decide +kernel
theorem dX1_keepRows_47 : decode cX1_keepRows 47 = .ok (.return_, 1) := by decide +kernel
theorem dX1_rowNumbered_0 : decode cX1_rowNumbered 0 = .ok (.iconst 0, 1) := by decide +kernel
theorem dX1_rowNumbered_1 : decode cX1_rowNumbered 1 = .ok (.istore 4, 2) := by decide +kernel
theorem dX1_rowNumbered_3 : decode cX1_rowNumbered 3 = .ok (.iload 4, 2) := by decide +kernel
theorem dX1_rowNumbered_5 : decode cX1_rowNumbered 5 = .ok (.aload_n 0, 1) := by decide +kernel
theorem dX1_rowNumbered_6 : decode cX1_rowNumbered 6 = .ok (.getfield 44, 3) := by decide +kernel
theorem dX1_rowNumbered_9 : decode cX1_rowNumbered 9 = .ok (.if_icmp .ge 36, 3) := by decide +kernel
theorem dX1_rowNumbered_12 : decode cX1_rowNumbered 12 = .ok (.aload_n 0, 1) := by decide +kernel
theorem dX1_rowNumbered_13 : decode cX1_rowNumbered 13 = .ok (.getfield 25, 3) := by decide +kernel
theorem dX1_rowNumbered_16 : decode cX1_rowNumbered 16 = .ok (.iload 4, 2) := by decide +kernel
theorem dX1_rowNumbered_18 : decode cX1_rowNumbered 18 = .ok (.iaload, 1) := by decide +kernel
theorem dX1_rowNumbered_19 : decode cX1_rowNumbered 19 = .ok (.iload_n 1, 1) := by decide +kernel
theorem dX1_rowNumbered_20 : decode cX1_rowNumbered 20 = .ok (.if_icmp .ne 19, 3) := by decide +kernel
theorem dX1_rowNumbered_23 : decode cX1_rowNumbered 23 = .ok (.aload_n 0, 1) := by decide +kernel
theorem dX1_rowNumbered_24 : decode cX1_rowNumbered 24 = .ok (.getfield 28, 3) := by decide +kernel
theorem dX1_rowNumbered_27 : decode cX1_rowNumbered 27 = .ok (.iload 4, 2) := by decide +kernel
theorem dX1_rowNumbered_29 : decode cX1_rowNumbered 29 = .ok (.iaload, 1) := by decide +kernel
theorem dX1_rowNumbered_30 : decode cX1_rowNumbered 30 = .ok (.i2l, 1) := by decide +kernel
theorem dX1_rowNumbered_31 : decode cX1_rowNumbered 31 = .ok (.lload_n 2, 1) := by decide +kernel
theorem dX1_rowNumbered_32 : decode cX1_rowNumbered 32 = .ok (.lcmp, 1) := by decide +kernel
theorem dX1_rowNumbered_33 : decode cX1_rowNumbered 33 = .ok (.ifCond .ne 6, 3) := by decide +kernel
theorem dX1_rowNumbered_36 : decode cX1_rowNumbered 36 = .ok (.iload 4, 2) := by decide +kernel
theorem dX1_rowNumbered_38 : decode cX1_rowNumbered 38 = .ok (.ireturn, 1) := by decide +kernel
theorem dX1_rowNumbered_39 : decode cX1_rowNumbered 39 = .ok (.iinc 4 1, 3) := by decide +kernel
theorem dX1_rowNumbered_42 : decode cX1_rowNumbered 42 = .ok (.goto (-39), 3) := by decide +kernel
theorem dX1_rowNumbered_45 : decode cX1_rowNumbered 45 = .ok (.iconst (-1), 1) := by decide +kernel
theorem dX1_rowNumbered_46 : decode cX1_rowNumbered 46 = .ok (.ireturn, 1) := by decide +kernel
theorem dX1_isTold_0 : decode cX1_isTold 0 = .ok (.iload_n 1, 1) := by decide +kernel
theorem dX1_isTold_1 : decode cX1_isTold 1 = .ok (.ifCond .lt 15, 3) := by decide +kernel
theorem dX1_isTold_4 : decode cX1_isTold 4 = .ok (.iload_n 1, 1) := by decide +kernel
theorem dX1_isTold_5 : decode cX1_isTold 5 = .ok (.aload_n 0, 1) := by decide +kernel
theorem dX1_isTold_6 : decode cX1_isTold 6 = .ok (.getfield 44, 3) := by decide +kernel
theorem dX1_isTold_9 : decode cX1_isTold 9 = .ok (.if_icmp .ge 7, 3) := by decide +kernel
theorem dX1_isTold_12 : decode cX1_isTold 12 = .ok (.iconst 1, 1) := by decide +kernel
theorem dX1_isTold_13 : decode cX1_isTold 13 = .ok (.goto 4, 3) := by decide +kernel
theorem dX1_isTold_16 : decode cX1_isTold 16 = .ok (.iconst 0, 1) := by decide +kernel
theorem dX1_isTold_17 : decode cX1_isTold 17 = .ok (.ireturn, 1) := by decide +kernel
theorem dX1_told_0 : decode cX1_told 0 = .ok (.iconst 1, 1) := by decide +kernel
theorem dX1_told_1 : decode cX1_told 1 = .ok (.aload_n 0, 1) := by decide +kernel
theorem dX1_told_2 : decode cX1_told 2 = .ok (.getfield 44, 3) := by decide +kernel
theorem dX1_told_5 : decode cX1_told 5 = .ok (.ishl, 1) := by decide +kernel
theorem dX1_told_6 : decode cX1_told 6 = .ok (.iconst 1, 1) := by decide +kernel
theorem dX1_told_7 : decode cX1_told 7 = .ok (.isub, 1) := by decide +kernel
theorem dX1_told_8 : decode cX1_told 8 = .ok (.ireturn, 1) := by decide +kernel
theorem dX1_seenBy_0 : decode cX1_seenBy 0 = .ok (.aload_n 0, 1) := by decide +kernel
theorem dX1_seenBy_1 : decode cX1_seenBy 1 = .ok (.invokevirtual 53, 3) := by decide +kernel
theorem dX1_seenBy_4 : decode cX1_seenBy 4 = .ok (.aload_n 0, 1) := by decide +kernel
theorem dX1_seenBy_5 : decode cX1_seenBy 5 = .ok (.getfield 37, 3) := by decide +kernel
theorem dX1_seenBy_8 : decode cX1_seenBy 8 = .ok (.iload_n 1, 1) := by decide +kernel
theorem dX1_seenBy_9 : decode cX1_seenBy 9 = .ok (.iaload, 1) := by decide +kernel
theorem dX1_seenBy_10 : decode cX1_seenBy 10 = .ok (.iconst (-1), 1) := by decide +kernel
theorem dX1_seenBy_11 : decode cX1_seenBy 11 = .ok (.ixor, 1) := by decide +kernel
theorem dX1_seenBy_12 : decode cX1_seenBy 12 = .ok (.iand, 1) := by decide +kernel
theorem dX1_seenBy_13 : decode cX1_seenBy 13 = .ok (.ireturn, 1) := by decide +kernel
theorem dX1_setHidden_0 : decode cX1_setHidden 0 = .ok (.aload_n 0, 1) := by decide +kernel
theorem dX1_setHidden_1 : decode cX1_setHidden 1 = .ok (.getfield 37, 3) := by decide +kernel
theorem dX1_setHidden_4 : decode cX1_setHidden 4 = .ok (.iload_n 1, 1) := by decide +kernel
theorem dX1_setHidden_5 : decode cX1_setHidden 5 = .ok (.iload_n 3, 1) := by decide +kernel
theorem dX1_setHidden_6 : decode cX1_setHidden 6 = .ok (.ifCond .eq 16, 3) := by decide +kernel
theorem dX1_setHidden_9 : decode cX1_setHidden 9 = .ok (.aload_n 0, 1) := by decide +kernel
theorem dX1_setHidden_10 : decode cX1_setHidden 10 = .ok (.getfield 37, 3) := by decide +kernel
theorem dX1_setHidden_13 : decode cX1_setHidden 13 = .ok (.iload_n 1, 1) := by decide +kernel
theorem dX1_setHidden_14 : decode cX1_setHidden 14 = .ok (.iaload, 1) := by decide +kernel
theorem dX1_setHidden_15 : decode cX1_setHidden 15 = .ok (.iconst 1, 1) := by decide +kernel
theorem dX1_setHidden_16 : decode cX1_setHidden 16 = .ok (.iload_n 2, 1) := by decide +kernel
theorem dX1_setHidden_17 : decode cX1_setHidden 17 = .ok (.ishl, 1) := by decide +kernel
theorem dX1_setHidden_18 : decode cX1_setHidden 18 = .ok (.ior, 1) := by decide +kernel
theorem dX1_setHidden_19 : decode cX1_setHidden 19 = .ok (.goto 15, 3) := by decide +kernel
theorem dX1_setHidden_22 : decode cX1_setHidden 22 = .ok (.aload_n 0, 1) := by decide +kernel
theorem dX1_setHidden_23 : decode cX1_setHidden 23 = .ok (.getfield 37, 3) := by decide +kernel
theorem dX1_setHidden_26 : decode cX1_setHidden 26 = .ok (.iload_n 1, 1) := by decide +kernel
theorem dX1_setHidden_27 : decode cX1_setHidden 27 = .ok (.iaload, 1) := by decide +kernel
theorem dX1_setHidden_28 : decode cX1_setHidden 28 = .ok (.iconst 1, 1) := by decide +kernel
theorem dX1_setHidden_29 : decode cX1_setHidden 29 = .ok (.iload_n 2, 1) := by decide +kernel
theorem dX1_setHidden_30 : decode cX1_setHidden 30 = .ok (.ishl, 1) := by decide +kernel
theorem dX1_setHidden_31 : decode cX1_setHidden 31 = .ok (.iconst (-1), 1) := by decide +kernel
theorem dX1_setHidden_32 : decode cX1_setHidden 32 = .ok (.ixor, 1) := by decide +kernel
theorem dX1_setHidden_33 : decode cX1_setHidden 33 = .ok (.iand, 1) := by decide +kernel
theorem dX1_setHidden_34 : decode cX1_setHidden 34 = .ok (.iastore, 1) := by decide +kernel
theorem dX1_setHidden_35 : decode cX1_setHidden 35 = .ok (.return_, 1) := by decide +kernel
theorem dX1_kindAt_0 : decode cX1_kindAt 0 = .ok (.iload_n 1, 1) := by decide +kernel
theorem dX1_kindAt_1 : decode cX1_kindAt 1 = .ok (.ifCond .lt 30, 3) := by decide +kernel
theorem dX1_kindAt_4 : decode cX1_kindAt 4 = .ok (.iload_n 1, 1) := by decide +kernel
theorem dX1_kindAt_5 : decode cX1_kindAt 5 = .ok (.aload_n 0, 1) := by decide +kernel
theorem dX1_kindAt_6 : decode cX1_kindAt 6 = .ok (.getfield 44, 3) := by decide +kernel
theorem dX1_kindAt_9 : decode cX1_kindAt 9 = .ok (.if_icmp .ge 22, 3) := by decide +kernel
theorem dX1_kindAt_12 : decode cX1_kindAt 12 = .ok (.iload_n 2, 1) := by decide +kernel
theorem dX1_kindAt_13 : decode cX1_kindAt 13 = .ok (.ifCond .lt 18, 3) := by decide +kernel
theorem dX1_kindAt_16 : decode cX1_kindAt 16 = .ok (.iload_n 2, 1) := by decide +kernel
theorem dX1_kindAt_17 : decode cX1_kindAt 17 = .ok (.aload_n 0, 1) := by decide +kernel
theorem dX1_kindAt_18 : decode cX1_kindAt 18 = .ok (.getfield 15, 3) := by decide +kernel
theorem dX1_kindAt_21 : decode cX1_kindAt 21 = .ok (.aload_n 0, 1) := by decide +kernel
theorem dX1_kindAt_22 : decode cX1_kindAt 22 = .ok (.getfield 25, 3) := by decide +kernel
theorem dX1_kindAt_25 : decode cX1_kindAt 25 = .ok (.iload_n 1, 1) := by decide +kernel
theorem dX1_kindAt_26 : decode cX1_kindAt 26 = .ok (.iaload, 1) := by decide +kernel
theorem dX1_kindAt_27 : decode cX1_kindAt 27 = .ok (.iaload, 1) := by decide +kernel
theorem dX1_kindAt_28 : decode cX1_kindAt 28 = .ok (.if_icmp .lt 6, 3) := by decide +kernel
theorem dX1_kindAt_31 : decode cX1_kindAt 31 = .ok (.bipush (-3), 2) := by decide +kernel
theorem dX1_kindAt_33 : decode cX1_kindAt 33 = .ok (.ireturn, 1) := by decide +kernel
theorem dX1_kindAt_34 : decode cX1_kindAt 34 = .ok (.aload_n 0, 1) := by decide +kernel
theorem dX1_kindAt_35 : decode cX1_kindAt 35 = .ok (.getfield 22, 3) := by decide +kernel
theorem dX1_kindAt_38 : decode cX1_kindAt 38 = .ok (.aload_n 0, 1) := by decide +kernel
theorem dX1_kindAt_39 : decode cX1_kindAt 39 = .ok (.getfield 25, 3) := by decide +kernel
theorem dX1_kindAt_42 : decode cX1_kindAt 42 = .ok (.iload_n 1, 1) := by decide +kernel
theorem dX1_kindAt_43 : decode cX1_kindAt 43 = .ok (.iaload, 1) := by decide +kernel
theorem dX1_kindAt_44 : decode cX1_kindAt 44 = .ok (.iconst 4, 1) := by decide +kernel
theorem dX1_kindAt_45 : decode cX1_kindAt 45 = .ok (.imul, 1) := by decide +kernel
theorem dX1_kindAt_46 : decode cX1_kindAt 46 = .ok (.iload_n 2, 1) := by decide +kernel
theorem dX1_kindAt_47 : decode cX1_kindAt 47 = .ok (.iadd, 1) := by decide +kernel
theorem dX1_kindAt_48 : decode cX1_kindAt 48 = .ok (.iaload, 1) := by decide +kernel
theorem dX1_kindAt_49 : decode cX1_kindAt 49 = .ok (.ireturn, 1) := by decide +kernel
theorem dX1_keyAt_0 : decode cX1_keyAt 0 = .ok (.aload_n 0, 1) := by decide +kernel
theorem dX1_keyAt_1 : decode cX1_keyAt 1 = .ok (.iload_n 1, 1) := by decide +kernel
theorem dX1_keyAt_2 : decode cX1_keyAt 2 = .ok (.iload_n 2, 1) := by decide +kernel
theorem dX1_keyAt_3 : decode cX1_keyAt 3 = .ok (.invokevirtual 57, 3) := by decide +kernel
theorem dX1_keyAt_6 : decode cX1_keyAt 6 = .ok (.ifCond .ge 5, 3) := by decide +kernel
theorem dX1_keyAt_9 : decode cX1_keyAt 9 = .ok (.iconst (-1), 1) := by decide +kernel
theorem dX1_keyAt_10 : decode cX1_keyAt 10 = .ok (.ireturn, 1) := by decide +kernel
theorem dX1_keyAt_11 : decode cX1_keyAt 11 = .ok (.aload_n 0, 1) := by decide +kernel
theorem dX1_keyAt_12 : decode cX1_keyAt 12 = .ok (.getfield 34, 3) := by decide +kernel
theorem dX1_keyAt_15 : decode cX1_keyAt 15 = .ok (.iload_n 1, 1) := by decide +kernel
theorem dX1_keyAt_16 : decode cX1_keyAt 16 = .ok (.iconst 4, 1) := by decide +kernel
theorem dX1_keyAt_17 : decode cX1_keyAt 17 = .ok (.imul, 1) := by decide +kernel
theorem dX1_keyAt_18 : decode cX1_keyAt 18 = .ok (.iload_n 2, 1) := by decide +kernel
theorem dX1_keyAt_19 : decode cX1_keyAt 19 = .ok (.iadd, 1) := by decide +kernel
theorem dX1_keyAt_20 : decode cX1_keyAt 20 = .ok (.laload, 1) := by decide +kernel
theorem dX1_keyAt_21 : decode cX1_keyAt 21 = .ok (.l2i, 1) := by decide +kernel
theorem dX1_keyAt_22 : decode cX1_keyAt 22 = .ok (.istore 4, 2) := by decide +kernel
theorem dX1_keyAt_24 : decode cX1_keyAt 24 = .ok (.iload 4, 2) := by decide +kernel
theorem dX1_keyAt_26 : decode cX1_keyAt 26 = .ok (.ifCond .lt 17, 3) := by decide +kernel
theorem dX1_keyAt_29 : decode cX1_keyAt 29 = .ok (.iload_n 3, 1) := by decide +kernel
theorem dX1_keyAt_30 : decode cX1_keyAt 30 = .ok (.iload 4, 2) := by decide +kernel
theorem dX1_keyAt_32 : decode cX1_keyAt 32 = .ok (.ishr, 1) := by decide +kernel
theorem dX1_keyAt_33 : decode cX1_keyAt 33 = .ok (.iconst 1, 1) := by decide +kernel
theorem dX1_keyAt_34 : decode cX1_keyAt 34 = .ok (.iand, 1) := by decide +kernel
theorem dX1_keyAt_35 : decode cX1_keyAt 35 = .ok (.ifCond .eq 8, 3) := by decide +kernel
theorem dX1_keyAt_38 : decode cX1_keyAt 38 = .ok (.iload 4, 2) := by decide +kernel
theorem dX1_keyAt_40 : decode cX1_keyAt 40 = .ok (.goto 4, 3) := by decide +kernel
theorem dX1_keyAt_43 : decode cX1_keyAt 43 = .ok (.iconst (-1), 1) := by decide +kernel
theorem dX1_keyAt_44 : decode cX1_keyAt 44 = .ok (.ireturn, 1) := by decide +kernel
theorem dX1_wordAt_0 : decode cX1_wordAt 0 = .ok (.aload_n 0, 1) := by decide +kernel
theorem dX1_wordAt_1 : decode cX1_wordAt 1 = .ok (.iload_n 1, 1) := by decide +kernel
theorem dX1_wordAt_2 : decode cX1_wordAt 2 = .ok (.iload_n 2, 1) := by decide +kernel
theorem dX1_wordAt_3 : decode cX1_wordAt 3 = .ok (.invokevirtual 57, 3) := by decide +kernel
theorem dX1_wordAt_6 : decode cX1_wordAt 6 = .ok (.iconst (-1), 1) := by decide +kernel
theorem dX1_wordAt_7 : decode cX1_wordAt 7 = .ok (.if_icmp .ne 16, 3) := by decide +kernel
theorem dX1_wordAt_10 : decode cX1_wordAt 10 = .ok (.aload_n 0, 1) := by decide +kernel
theorem dX1_wordAt_11 : decode cX1_wordAt 11 = .ok (.getfield 34, 3) := by decide +kernel
theorem dX1_wordAt_14 : decode cX1_wordAt 14 = .ok (.iload_n 1, 1) := by decide +kernel
theorem dX1_wordAt_15 : decode cX1_wordAt 15 = .ok (.iconst 4, 1) := by decide +kernel
theorem dX1_wordAt_16 : decode cX1_wordAt 16 = .ok (.imul, 1) := by decide +kernel
theorem dX1_wordAt_17 : decode cX1_wordAt 17 = .ok (.iload_n 2, 1) := by decide +kernel
theorem dX1_wordAt_18 : decode cX1_wordAt 18 = .ok (.iadd, 1) := by decide +kernel
theorem dX1_wordAt_19 : decode cX1_wordAt 19 = .ok (.laload, 1) := by decide +kernel
theorem dX1_wordAt_20 : decode cX1_wordAt 20 = .ok (.goto 4, 3) := by decide +kernel
theorem dX1_wordAt_23 : decode cX1_wordAt 23 = .ok (.lconst 0, 1) := by decide +kernel
theorem dX1_wordAt_24 : decode cX1_wordAt 24 = .ok (.lreturn, 1) := by decide +kernel
theorem dX1_numberAt_0 : decode cX1_numberAt 0 = .ok (.aload_n 0, 1) := by decide +kernel
theorem dX1_numberAt_1 : decode cX1_numberAt 1 = .ok (.iload_n 1, 1) := by decide +kernel
theorem dX1_numberAt_2 : decode cX1_numberAt 2 = .ok (.iload_n 2, 1) := by decide +kernel
theorem dX1_numberAt_3 : decode cX1_numberAt 3 = .ok (.invokevirtual 57, 3) := by decide +kernel
theorem dX1_numberAt_6 : decode cX1_numberAt 6 = .ok (.bipush (-2), 2) := by decide +kernel
theorem dX1_numberAt_8 : decode cX1_numberAt 8 = .ok (.if_icmp .ne 16, 3) := by decide +kernel
theorem dX1_numberAt_11 : decode cX1_numberAt 11 = .ok (.aload_n 0, 1) := by decide +kernel
theorem dX1_numberAt_12 : decode cX1_numberAt 12 = .ok (.getfield 34, 3) := by decide +kernel
theorem dX1_numberAt_15 : decode cX1_numberAt 15 = .ok (.iload_n 1, 1) := by decide +kernel
theorem dX1_numberAt_16 : decode cX1_numberAt 16 = .ok (.iconst 4, 1) := by decide +kernel
theorem dX1_numberAt_17 : decode cX1_numberAt 17 = .ok (.imul, 1) := by decide +kernel
theorem dX1_numberAt_18 : decode cX1_numberAt 18 = .ok (.iload_n 2, 1) := by decide +kernel
theorem dX1_numberAt_19 : decode cX1_numberAt 19 = .ok (.iadd, 1) := by decide +kernel
theorem dX1_numberAt_20 : decode cX1_numberAt 20 = .ok (.laload, 1) := by decide +kernel
theorem dX1_numberAt_21 : decode cX1_numberAt 21 = .ok (.goto 6, 3) := by decide +kernel
theorem dX1_numberAt_24 : decode cX1_numberAt 24 = .ok (.ldc2_w 61, 3) := by decide +kernel
theorem dX1_numberAt_27 : decode cX1_numberAt 27 = .ok (.lreturn, 1) := by decide +kernel
theorem dX1_hasWord_0 : decode cX1_hasWord 0 = .ok (.iconst 0, 1) := by decide +kernel
theorem dX1_hasWord_1 : decode cX1_hasWord 1 = .ok (.istore 4, 2) := by decide +kernel
theorem dX1_hasWord_3 : decode cX1_hasWord 3 = .ok (.iload 4, 2) := by decide +kernel
theorem dX1_hasWord_5 : decode cX1_hasWord 5 = .ok (.iconst 4, 1) := by decide +kernel
theorem dX1_hasWord_6 : decode cX1_hasWord 6 = .ok (.if_icmp .ge 23, 3) := by decide +kernel
theorem dX1_hasWord_9 : decode cX1_hasWord 9 = .ok (.aload_n 0, 1) := by decide +kernel
theorem dX1_hasWord_10 : decode cX1_hasWord 10 = .ok (.iload_n 1, 1) := by decide +kernel
theorem dX1_hasWord_11 : decode cX1_hasWord 11 = .ok (.iload 4, 2) := by decide +kernel
theorem dX1_hasWord_13 : decode cX1_hasWord 13 = .ok (.invokevirtual 63, 3) := by decide +kernel
theorem dX1_hasWord_16 : decode cX1_hasWord 16 = .ok (.lload_n 2, 1) := by decide +kernel
theorem dX1_hasWord_17 : decode cX1_hasWord 17 = .ok (.lcmp, 1) := by decide +kernel
theorem dX1_hasWord_18 : decode cX1_hasWord 18 = .ok (.ifCond .ne 5, 3) := by decide +kernel
theorem dX1_hasWord_21 : decode cX1_hasWord 21 = .ok (.iconst 1, 1) := by decide +kernel
theorem dX1_hasWord_22 : decode cX1_hasWord 22 = .ok (.ireturn, 1) := by decide +kernel
theorem dX1_hasWord_23 : decode cX1_hasWord 23 = .ok (.iinc 4 1, 3) := by decide +kernel
theorem dX1_hasWord_26 : decode cX1_hasWord 26 = .ok (.goto (-23), 3) := by decide +kernel
theorem dX1_hasWord_29 : decode cX1_hasWord 29 = .ok (.iconst 0, 1) := by decide +kernel
theorem dX1_hasWord_30 : decode cX1_hasWord 30 = .ok (.ireturn, 1) := by decide +kernel
