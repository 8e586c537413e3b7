theorem dX5_init_0 : decode cX5_init 0 = .ok (.aload_n 0, 1) := by decide +kernel
theorem dX5_init_1 : decode cX5_init 1 = .ok (.invokespecial 3, 3) := by decide +kernel
theorem dX5_init_4 : decode cX5_init 4 = .ok (.aload_n 0, 1) := by decide +kernel
theorem dX5_init_5 : decode cX5_init 5 = .ok (.aload_n 1, 1) := by decide +kernel
theorem dX5_init_6 : decode cX5_init 6 = .ok (.putfield 9, 3) := by decide +kernel
theorem dX5_init_9 : decode cX5_init 9 = .ok (.return_, 1) := by decide +kernel
theorem dX5_readTables_0 : decode cX5_readTables 0 = .ok (.aload_n 1, 1) := by decide +kernel
theorem dX5_readTables_1 : decode cX5_readTables 1 = .ok (.invokevirtual 15, 3) := by decide +kernel
theorem dX5_readTables_4 : decode cX5_readTables 4 = .ok (.aload_n 0, 1) := by decide +kernel
theorem dX5_readTables_5 : decode cX5_readTables 5 = .ok (.getfield 9, 3) := by decide +kernel
theorem dX5_readTables_8 : decode cX5_readTables 8 = .ok (.invokevirtual 20, 3) := by decide +kernel
theorem dX5_readTables_11 : decode cX5_readTables 11 = .ok (.iconst 0, 1) := by decide +kernel
theorem dX5_readTables_12 : decode cX5_readTables 12 = .ok (.istore_n 2, 1) := by decide +kernel
theorem dX5_readTables_13 : decode cX5_readTables 13 = .ok (.iconst 0, 1) := by decide +kernel
theorem dX5_readTables_14 : decode cX5_readTables 14 = .ok (.istore_n 3, 1) := by decide +kernel
theorem dX5_readTables_15 : decode cX5_readTables 15 = .ok (.iload_n 3, 1) := by decide +kernel
theorem dX5_readTables_16 : decode cX5_readTables 16 = .ok (.iconst 5, 1) := by decide +kernel
theorem dX5_readTables_17 : decode cX5_readTables 17 = .ok (.if_icmp .gt 29, 3) := by decide +kernel
theorem dX5_readTables_20 : decode cX5_readTables 20 = .ok (.iload_n 2, 1) := by decide +kernel
theorem dX5_readTables_21 : decode cX5_readTables 21 = .ok (.ifCond .ne 25, 3) := by decide +kernel
theorem dX5_readTables_24 : decode cX5_readTables 24 = .ok (.aload_n 0, 1) := by decide +kernel
theorem dX5_readTables_25 : decode cX5_readTables 25 = .ok (.getfield 9, 3) := by decide +kernel
theorem dX5_readTables_28 : decode cX5_readTables 28 = .ok (.getfield 25, 3) := by decide +kernel
theorem dX5_readTables_31 : decode cX5_readTables 31 = .ok (.ifCond .eq 15, 3) := by decide +kernel
theorem dX5_readTables_34 : decode cX5_readTables 34 = .ok (.aload_n 0, 1) := by decide +kernel
theorem dX5_readTables_35 : decode cX5_readTables 35 = .ok (.aload_n 1, 1) := by decide +kernel
theorem dX5_readTables_36 : decode cX5_readTables 36 = .ok (.invokevirtual 29, 3) := by decide +kernel
theorem dX5_readTables_39 : decode cX5_readTables 39 = .ok (.istore_n 2, 1) := by decide +kernel
theorem dX5_readTables_40 : decode cX5_readTables 40 = .ok (.iinc 3 1, 3) := by decide +kernel
theorem dX5_readTables_43 : decode cX5_readTables 43 = .ok (.goto (-28), 3) := by decide +kernel
theorem dX5_readTables_46 : decode cX5_readTables 46 = .ok (.iload_n 2, 1) := by decide +kernel
theorem dX5_readTables_47 : decode cX5_readTables 47 = .ok (.ireturn, 1) := by decide +kernel
theorem dX5_readRows_0 : decode cX5_readRows 0 = .ok (.aload_n 0, 1) := by decide +kernel
theorem dX5_readRows_1 : decode cX5_readRows 1 = .ok (.getfield 9, 3) := by decide +kernel
theorem dX5_readRows_4 : decode cX5_readRows 4 = .ok (.invokevirtual 20, 3) := by decide +kernel
theorem dX5_readRows_7 : decode cX5_readRows 7 = .ok (.iconst 0, 1) := by decide +kernel
theorem dX5_readRows_8 : decode cX5_readRows 8 = .ok (.istore_n 2, 1) := by decide +kernel
theorem dX5_readRows_9 : decode cX5_readRows 9 = .ok (.iconst 0, 1) := by decide +kernel
theorem dX5_readRows_10 : decode cX5_readRows 10 = .ok (.istore_n 3, 1) := by decide +kernel
theorem dX5_readRows_11 : decode cX5_readRows 11 = .ok (.iload_n 3, 1) := by decide +kernel
theorem dX5_readRows_12 : decode cX5_readRows 12 = .ok (.bipush 30, 2) := by decide +kernel
theorem dX5_readRows_14 : decode cX5_readRows 14 = .ok (.if_icmp .gt 29, 3) := by decide +kernel
theorem dX5_readRows_17 : decode cX5_readRows 17 = .ok (.iload_n 2, 1) := by decide +kernel
theorem dX5_readRows_18 : decode cX5_readRows 18 = .ok (.ifCond .ne 25, 3) := by decide +kernel
theorem dX5_readRows_21 : decode cX5_readRows 21 = .ok (.aload_n 0, 1) := by decide +kernel
theorem dX5_readRows_22 : decode cX5_readRows 22 = .ok (.getfield 9, 3) := by decide +kernel
theorem dX5_readRows_25 : decode cX5_readRows 25 = .ok (.getfield 25, 3) := by decide +kernel
theorem dX5_readRows_28 : decode cX5_readRows 28 = .ok (.ifCond .eq 15, 3) := by decide +kernel
theorem dX5_readRows_31 : decode cX5_readRows 31 = .ok (.aload_n 0, 1) := by decide +kernel
theorem dX5_readRows_32 : decode cX5_readRows 32 = .ok (.aload_n 1, 1) := by decide +kernel
theorem dX5_readRows_33 : decode cX5_readRows 33 = .ok (.invokevirtual 33, 3) := by decide +kernel
theorem dX5_readRows_36 : decode cX5_readRows 36 = .ok (.istore_n 2, 1) := by decide +kernel
theorem dX5_readRows_37 : decode cX5_readRows 37 = .ok (.iinc 3 1, 3) := by decide +kernel
theorem dX5_readRows_40 : decode cX5_readRows 40 = .ok (.goto (-29), 3) := by decide +kernel
theorem dX5_readRows_43 : decode cX5_readRows 43 = .ok (.iload_n 2, 1) := by decide +kernel
theorem dX5_readRows_44 : decode cX5_readRows 44 = .ok (.ireturn, 1) := by decide +kernel
theorem dX5_readAsk_0 : decode cX5_readAsk 0 = .ok (.aload_n 1, 1) := by decide +kernel
theorem dX5_readAsk_1 : decode cX5_readAsk 1 = .ok (.invokevirtual 36, 3) := by decide +kernel
theorem dX5_readAsk_4 : decode cX5_readAsk 4 = .ok (.aload_n 0, 1) := by decide +kernel
theorem dX5_readAsk_5 : decode cX5_readAsk 5 = .ok (.getfield 9, 3) := by decide +kernel
theorem dX5_readAsk_8 : decode cX5_readAsk 8 = .ok (.invokevirtual 20, 3) := by decide +kernel
theorem dX5_readAsk_11 : decode cX5_readAsk 11 = .ok (.aload_n 0, 1) := by decide +kernel
theorem dX5_readAsk_12 : decode cX5_readAsk 12 = .ok (.aload_n 1, 1) := by decide +kernel
theorem dX5_readAsk_13 : decode cX5_readAsk 13 = .ok (.invokevirtual 39, 3) := by decide +kernel
theorem dX5_readAsk_16 : decode cX5_readAsk 16 = .ok (.istore_n 2, 1) := by decide +kernel
theorem dX5_readAsk_17 : decode cX5_readAsk 17 = .ok (.iconst 0, 1) := by decide +kernel
theorem dX5_readAsk_18 : decode cX5_readAsk 18 = .ok (.istore_n 3, 1) := by decide +kernel
theorem dX5_readAsk_19 : decode cX5_readAsk 19 = .ok (.iload_n 3, 1) := by decide +kernel
theorem dX5_readAsk_20 : decode cX5_readAsk 20 = .ok (.iconst 4, 1) := by decide +kernel
theorem dX5_readAsk_21 : decode cX5_readAsk 21 = .ok (.if_icmp .ge 29, 3) := by decide +kernel
theorem dX5_readAsk_24 : decode cX5_readAsk 24 = .ok (.iload_n 2, 1) := by decide +kernel
theorem dX5_readAsk_25 : decode cX5_readAsk 25 = .ok (.ifCond .ne 25, 3) := by decide +kernel
theorem dX5_readAsk_28 : decode cX5_readAsk 28 = .ok (.aload_n 0, 1) := by decide +kernel
theorem dX5_readAsk_29 : decode cX5_readAsk 29 = .ok (.getfield 9, 3) := by decide +kernel
theorem dX5_readAsk_32 : decode cX5_readAsk 32 = .ok (.getfield 25, 3) := by decide +kernel
theorem dX5_readAsk_35 : decode cX5_readAsk 35 = .ok (.ifCond .eq 15, 3) := by decide +kernel
theorem dX5_readAsk_38 : decode cX5_readAsk 38 = .ok (.aload_n 0, 1) := by decide +kernel
theorem dX5_readAsk_39 : decode cX5_readAsk 39 = .ok (.aload_n 1, 1) := by decide +kernel
theorem dX5_readAsk_40 : decode cX5_readAsk 40 = .ok (.invokevirtual 39, 3) := by decide +kernel
theorem dX5_readAsk_43 : decode cX5_readAsk 43 = .ok (.istore_n 2, 1) := by decide +kernel
theorem dX5_readAsk_44 : decode cX5_readAsk 44 = .ok (.iinc 3 1, 3) := by decide +kernel
theorem dX5_readAsk_47 : decode cX5_readAsk 47 = .ok (.goto (-28), 3) := by decide +kernel
theorem dX5_readAsk_50 : decode cX5_readAsk 50 = .ok (.iload_n 2, 1) := by decide +kernel
theorem dX5_readAsk_51 : decode cX5_readAsk 51 = .ok (.ireturn, 1) := by decide +kernel
theorem dX5_readQuestion_0 : decode cX5_readQuestion 0 = .ok (.aload_n 2, 1) := by decide +kernel
theorem dX5_readQuestion_1 : decode cX5_readQuestion 1 = .ok (.invokevirtual 36, 3) := by decide +kernel
theorem dX5_readQuestion_4 : decode cX5_readQuestion 4 = .ok (.aload_n 0, 1) := by decide +kernel
theorem dX5_readQuestion_5 : decode cX5_readQuestion 5 = .ok (.getfield 9, 3) := by decide +kernel
theorem dX5_readQuestion_8 : decode cX5_readQuestion 8 = .ok (.invokevirtual 20, 3) := by decide +kernel
theorem dX5_readQuestion_11 : decode cX5_readQuestion 11 = .ok (.aload_n 0, 1) := by decide +kernel
theorem dX5_readQuestion_12 : decode cX5_readQuestion 12 = .ok (.iconst 0, 1) := by decide +kernel
theorem dX5_readQuestion_13 : decode cX5_readQuestion 13 = .ok (.putfield 43, 3) := by decide +kernel
theorem dX5_readQuestion_16 : decode cX5_readQuestion 16 = .ok (.aload_n 0, 1) := by decide +kernel
theorem dX5_readQuestion_17 : decode cX5_readQuestion 17 = .ok (.aload_n 1, 1) := by decide +kernel
theorem dX5_readQuestion_18 : decode cX5_readQuestion 18 = .ok (.invokevirtual 46, 3) := by decide +kernel
theorem dX5_readQuestion_21 : decode cX5_readQuestion 21 = .ok (.istore_n 3, 1) := by decide +kernel
theorem dX5_readQuestion_22 : decode cX5_readQuestion 22 = .ok (.iload_n 3, 1) := by decide +kernel
theorem dX5_readQuestion_23 : decode cX5_readQuestion 23 = .ok (.ifCond .eq 7, 3) := by decide +kernel
theorem dX5_readQuestion_26 : decode cX5_readQuestion 26 = .ok (.iload_n 3, 1) := by decide +kernel
theorem dX5_readQuestion_27 : decode cX5_readQuestion 27 = .ok (.goto 9, 3) := by decide +kernel
theorem dX5_readQuestion_30 : decode cX5_readQuestion 30 = .ok (.aload_n 0, 1) := by decide +kernel
theorem dX5_readQuestion_31 : decode cX5_readQuestion 31 = .ok (.aload_n 1, 1) := by decide +kernel
theorem dX5_readQuestion_32 : decode cX5_readQuestion 32 = .ok (.aload_n 2, 1) := by decide +kernel
theorem dX5_readQuestion_33 : decode cX5_readQuestion 33 = .ok (.invokevirtual 49, 3) := by decide +kernel
theorem dX5_readQuestion_36 : decode cX5_readQuestion 36 = .ok (.ireturn, 1) := by decide +kernel
theorem dX5_readTable_0 : decode cX5_readTable 0 = .ok (.aload_n 0, 1) := by decide +kernel
theorem dX5_readTable_1 : decode cX5_readTable 1 = .ok (.getfield 9, 3) := by decide +kernel
theorem dX5_readTable_4 : decode cX5_readTable 4 = .ok (.ldc2_w 55, 3) := by decide +kernel
theorem dX5_readTable_7 : decode cX5_readTable 7 = .ok (.invokevirtual 57, 3) := by decide +kernel
theorem dX5_readTable_10 : decode cX5_readTable 10 = .ok (.ifCond .ne 9, 3) := by decide +kernel
theorem dX5_readTable_13 : decode cX5_readTable 13 = .ok (.aload_n 0, 1) := by decide +kernel
theorem dX5_readTable_14 : decode cX5_readTable 14 = .ok (.iconst 1, 1) := by decide +kernel
theorem dX5_readTable_15 : decode cX5_readTable 15 = .ok (.invokevirtual 61, 3) := by decide +kernel
theorem dX5_readTable_18 : decode cX5_readTable 18 = .ok (.ireturn, 1) := by decide +kernel
theorem dX5_readTable_19 : decode cX5_readTable 19 = .ok (.aload_n 1, 1) := by decide +kernel
theorem dX5_readTable_20 : decode cX5_readTable 20 = .ok (.getfield 65, 3) := by decide +kernel
theorem dX5_readTable_23 : decode cX5_readTable 23 = .ok (.iconst 5, 1) := by decide +kernel
theorem dX5_readTable_24 : decode cX5_readTable 24 = .ok (.if_icmp .lt 9, 3) := by decide +kernel
theorem dX5_readTable_27 : decode cX5_readTable 27 = .ok (.aload_n 0, 1) := by decide +kernel
theorem dX5_readTable_28 : decode cX5_readTable 28 = .ok (.iconst 5, 1) := by decide +kernel
theorem dX5_readTable_29 : decode cX5_readTable 29 = .ok (.invokevirtual 61, 3) := by decide +kernel
theorem dX5_readTable_32 : decode cX5_readTable 32 = .ok (.ireturn, 1) := by decide +kernel
theorem dX5_readTable_33 : decode cX5_readTable 33 = .ok (.aload_n 0, 1) := by decide +kernel
theorem dX5_readTable_34 : decode cX5_readTable 34 = .ok (.getfield 9, 3) := by decide +kernel
theorem dX5_readTable_37 : decode cX5_readTable 37 = .ok (.invokevirtual 68, 3) := by decide +kernel
theorem dX5_readTable_40 : decode cX5_readTable 40 = .ok (.aload_n 0, 1) := by decide +kernel
theorem dX5_readTable_41 : decode cX5_readTable 41 = .ok (.getfield 9, 3) := by decide +kernel
theorem dX5_readTable_44 : decode cX5_readTable 44 = .ok (.invokevirtual 71, 3) := by decide +kernel
theorem dX5_readTable_47 : decode cX5_readTable 47 = .ok (.ifCond .ne 9, 3) := by decide +kernel
theorem dX5_readTable_50 : decode cX5_readTable 50 = .ok (.aload_n 0, 1) := by decide +kernel
theorem dX5_readTable_51 : decode cX5_readTable 51 = .ok (.iconst 1, 1) := by decide +kernel
theorem dX5_readTable_52 : decode cX5_readTable 52 = .ok (.invokevirtual 61, 3) := by decide +kernel
theorem dX5_readTable_55 : decode cX5_readTable 55 = .ok (.ireturn, 1) := by decide +kernel
theorem dX5_readTable_56 : decode cX5_readTable 56 = .ok (.aload_n 1, 1) := by decide +kernel
theorem dX5_readTable_57 : decode cX5_readTable 57 = .ok (.aload_n 0, 1) := by decide +kernel
theorem dX5_readTable_58 : decode cX5_readTable 58 = .ok (.getfield 9, 3) := by decide +kernel
theorem dX5_readTable_61 : decode cX5_readTable 61 = .ok (.getfield 75, 3) := by decide +kernel
theorem dX5_readTable_64 : decode cX5_readTable 64 = .ok (.invokevirtual 79, 3) := by decide +kernel
theorem dX5_readTable_67 : decode cX5_readTable 67 = .ok (.iconst (-1), 1) := by decide +kernel
theorem dX5_readTable_68 : decode cX5_readTable 68 = .ok (.if_icmp .eq 9, 3) := by decide +kernel
theorem dX5_readTable_71 : decode cX5_readTable 71 = .ok (.aload_n 0, 1) := by decide +kernel
theorem dX5_readTable_72 : decode cX5_readTable 72 = .ok (.iconst 3, 1) := by decide +kernel
theorem dX5_readTable_73 : decode cX5_readTable 73 = .ok (.invokevirtual 61, 3) := by decide +kernel
theorem dX5_readTable_76 : decode cX5_readTable 76 = .ok (.ireturn, 1) := by decide +kernel
theorem dX5_readTable_77 : decode cX5_readTable 77 = .ok (.aload_n 1, 1) := by decide +kernel
theorem dX5_readTable_78 : decode cX5_readTable 78 = .ok (.aload_n 0, 1) := by decide +kernel
theorem dX5_readTable_79 : decode cX5_readTable 79 = .ok (.getfield 9, 3) := by decide +kernel
theorem dX5_readTable_82 : decode cX5_readTable 82 = .ok (.getfield 75, 3) := by decide +kernel
theorem dX5_readTable_85 : decode cX5_readTable 85 = .ok (.invokevirtual 83, 3) := by decide +kernel
theorem dX5_readTable_88 : decode cX5_readTable 88 = .ok (.aload_n 0, 1) := by decide +kernel
theorem dX5_readTable_89 : decode cX5_readTable 89 = .ok (.aload_n 1, 1) := by decide +kernel
theorem dX5_readTable_90 : decode cX5_readTable 90 = .ok (.aload_n 1, 1) := by decide +kernel
theorem dX5_readTable_91 : decode cX5_readTable 91 = .ok (.getfield 65, 3) := by decide +kernel
theorem dX5_readTable_94 : decode cX5_readTable 94 = .ok (.iconst 1, 1) := by decide +kernel
theorem dX5_readTable_95 : decode cX5_readTable 95 = .ok (.isub, 1) := by decide +kernel
theorem dX5_readTable_96 : decode cX5_readTable 96 = .ok (.invokevirtual 87, 3) := by decide +kernel
theorem dX5_readTable_99 : decode cX5_readTable 99 = .ok (.ireturn, 1) := by decide +kernel
theorem dX5_readColumns_0 : decode cX5_readColumns 0 = .ok (.iconst 0, 1) := by decide +kernel
theorem dX5_readColumns_1 : decode cX5_readColumns 1 = .ok (.istore_n 3, 1) := by decide +kernel
theorem dX5_readColumns_2 : decode cX5_readColumns 2 = .ok (.iconst 0, 1) := by decide +kernel
theorem dX5_readColumns_3 : decode cX5_readColumns 3 = .ok (.istore 4, 2) := by decide +kernel
theorem dX5_readColumns_5 : decode cX5_readColumns 5 = .ok (.iload 4, 2) := by decide +kernel
theorem dX5_readColumns_7 : decode cX5_readColumns 7 = .ok (.iconst 4, 1) := by decide +kernel
theorem dX5_readColumns_8 : decode cX5_readColumns 8 = .ok (.if_icmp .gt 42, 3) := by decide +kernel
theorem dX5_readColumns_11 : decode cX5_readColumns 11 = .ok (.aload_n 0, 1) := by decide +kernel
theorem dX5_readColumns_12 : decode cX5_readColumns 12 = .ok (.getfield 9, 3) := by decide +kernel
theorem dX5_readColumns_15 : decode cX5_readColumns 15 = .ok (.invokevirtual 68, 3) := by decide +kernel
theorem dX5_readColumns_18 : decode cX5_readColumns 18 = .ok (.aload_n 0, 1) := by decide +kernel
theorem dX5_readColumns_19 : decode cX5_readColumns 19 = .ok (.aload_n 1, 1) := by decide +kernel
theorem dX5_readColumns_20 : decode cX5_readColumns 20 = .ok (.iload_n 2, 1) := by decide +kernel
theorem dX5_readColumns_21 : decode cX5_readColumns 21 = .ok (.invokevirtual 91, 3) := by decide +kernel
theorem dX5_readColumns_24 : decode cX5_readColumns 24 = .ok (.istore_n 3, 1) := by decide +kernel
theorem dX5_readColumns_25 : decode cX5_readColumns 25 = .ok (.iload_n 3, 1) := by decide +kernel
theorem dX5_readColumns_26 : decode cX5_readColumns 26 = .ok (.ifCond .ne 24, 3) := by decide +kernel
theorem dX5_readColumns_29 : decode cX5_readColumns 29 = .ok (.aload_n 0, 1) := by decide +kernel
theorem dX5_readColumns_30 : decode cX5_readColumns 30 = .ok (.getfield 9, 3) := by decide +kernel
theorem dX5_readColumns_33 : decode cX5_readColumns 33 = .ok (.bipush 44, 2) := by decide +kernel
theorem dX5_readColumns_35 : decode cX5_readColumns 35 = .ok (.invokevirtual 94, 3) := by decide +kernel
theorem dX5_readColumns_38 : decode cX5_readColumns 38 = .ok (.ifCond .ne 6, 3) := by decide +kernel
theorem dX5_readColumns_41 : decode cX5_readColumns 41 = .ok (.goto 9, 3) := by decide +kernel
theorem dX5_readColumns_44 : decode cX5_readColumns 44 = .ok (.iinc 4 1, 3) := by decide +kernel
theorem dX5_readColumns_47 : decode cX5_readColumns 47 = .ok (.goto (-42), 3) := by decide +kernel
theorem dX5_readColumns_50 : decode cX5_readColumns 50 = .ok (.iload_n 3, 1) := by decide +kernel
theorem dX5_readColumns_51 : decode cX5_readColumns 51 = .ok (.ifCond .eq 7, 3) := by decide +kernel
theorem dX5_readColumns_54 : decode cX5_readColumns 54 = .ok (.iload_n 3, 1) := by decide +kernel
theorem dX5_readColumns_55 : decode cX5_readColumns 55 = .ok (.goto 9, 3) := by decide +kernel
theorem dX5_readColumns_58 : decode cX5_readColumns 58 = .ok (.aload_n 0, 1) := by decide +kernel
theorem dX5_readColumns_59 : decode cX5_readColumns 59 = .ok (.bipush 59, 2) := by decide +kernel
theorem dX5_readColumns_61 : decode cX5_readColumns 61 = .ok (.invokevirtual 98, 3) := by decide +kernel
theorem dX5_readColumns_64 : decode cX5_readColumns 64 = .ok (.ireturn, 1) := by decide +kernel
theorem dX5_readColumn_0 : decode cX5_readColumn 0 = .ok (.aload_n 0, 1) := by decide +kernel
theorem dX5_readColumn_1 : decode cX5_readColumn 1 = .ok (.getfield 9, 3) := by decide +kernel
theorem dX5_readColumn_4 : decode cX5_readColumn 4 = .ok (.invokevirtual 71, 3) := by decide +kernel
theorem dX5_readColumn_7 : decode cX5_readColumn 7 = .ok (.ifCond .ne 9, 3) := by decide +kernel
theorem dX5_readColumn_10 : decode cX5_readColumn 10 = .ok (.aload_n 0, 1) := by decide +kernel
theorem dX5_readColumn_11 : decode cX5_readColumn 11 = .ok (.iconst 1, 1) := by decide +kernel
theorem dX5_readColumn_12 : decode cX5_readColumn 12 = .ok (.invokevirtual 61, 3) := by decide +kernel
theorem dX5_readColumn_15 : decode cX5_readColumn 15 = .ok (.ireturn, 1) := by decide +kernel
theorem dX5_readColumn_16 : decode cX5_readColumn 16 = .ok (.aload_n 1, 1) := by decide +kernel
theorem dX5_readColumn_17 : decode cX5_readColumn 17 = .ok (.iload_n 2, 1) := by decide +kernel
theorem dX5_readColumn_18 : decode cX5_readColumn 18 = .ok (.aload_n 0, 1) := by decide +kernel
theorem dX5_readColumn_19 : decode cX5_readColumn 19 = .ok (.getfield 9, 3) := by decide +kernel
theorem dX5_readColumn_22 : decode cX5_readColumn 22 = .ok (.getfield 75, 3) := by decide +kernel
theorem dX5_readColumn_25 : decode cX5_readColumn 25 = .ok (.invokevirtual 102, 3) := by decide +kernel
theorem dX5_readColumn_28 : decode cX5_readColumn 28 = .ok (.ifCond .eq 9, 3) := by decide +kernel
theorem dX5_readColumn_31 : decode cX5_readColumn 31 = .ok (.aload_n 0, 1) := by decide +kernel
theorem dX5_readColumn_32 : decode cX5_readColumn 32 = .ok (.iconst 3, 1) := by decide +kernel
theorem dX5_readColumn_33 : decode cX5_readColumn 33 = .ok (.invokevirtual 61, 3) := by decide +kernel
theorem dX5_readColumn_36 : decode cX5_readColumn 36 = .ok (.ireturn, 1) := by decide +kernel
theorem dX5_readColumn_37 : decode cX5_readColumn 37 = .ok (.aload_n 1, 1) := by decide +kernel
theorem dX5_readColumn_38 : decode cX5_readColumn 38 = .ok (.getfield 106, 3) := by decide +kernel
theorem dX5_readColumn_41 : decode cX5_readColumn 41 = .ok (.iload_n 2, 1) := by decide +kernel
theorem dX5_readColumn_42 : decode cX5_readColumn 42 = .ok (.iaload, 1) := by decide +kernel
theorem dX5_readColumn_43 : decode cX5_readColumn 43 = .ok (.iconst 4, 1) := by decide +kernel
theorem dX5_readColumn_44 : decode cX5_readColumn 44 = .ok (.if_icmp .lt 9, 3) := by decide +kernel
theorem dX5_readColumn_47 : decode cX5_readColumn 47 = .ok (.aload_n 0, 1) := by decide +kernel
theorem dX5_readColumn_48 : decode cX5_readColumn 48 = .ok (.iconst 5, 1) := by decide +kernel
theorem dX5_readColumn_49 : decode cX5_readColumn 49 = .ok (.invokevirtual 61, 3) := by decide +kernel
theorem dX5_readColumn_52 : decode cX5_readColumn 52 = .ok (.ireturn, 1) := by decide +kernel
theorem dX5_readColumn_53 : decode cX5_readColumn 53 = .ok (.aload_n 0, 1) := by decide +kernel
theorem dX5_readColumn_54 : decode cX5_readColumn 54 = .ok (.getfield 9, 3) := by decide +kernel
theorem dX5_readColumn_57 : decode cX5_readColumn 57 = .ok (.getfield 75, 3) := by decide +kernel
theorem dX5_readColumn_60 : decode cX5_readColumn 60 = .ok (.lstore_n 3, 1) := by decide +kernel
theorem dX5_readColumn_61 : decode cX5_readColumn 61 = .ok (.aload_n 0, 1) := by decide +kernel
theorem dX5_readColumn_62 : decode cX5_readColumn 62 = .ok (.getfield 9, 3) := by decide +kernel
theorem dX5_readColumn_65 : decode cX5_readColumn 65 = .ok (.invokevirtual 68, 3) := by decide +kernel
theorem dX5_readColumn_68 : decode cX5_readColumn 68 = .ok (.iconst (-1), 1) := by decide +kernel
theorem dX5_readColumn_69 : decode cX5_readColumn 69 = .ok (.istore 5, 2) := by decide +kernel
theorem dX5_readColumn_71 : decode cX5_readColumn 71 = .ok (.aload_n 0, 1) := by decide +kernel
theorem dX5_readColumn_72 : decode cX5_readColumn 72 = .ok (.getfield 9, 3) := by decide +kernel
theorem dX5_readColumn_75 : decode cX5_readColumn 75 = .ok (.invokevirtual 71, 3) := by decide +kernel
theorem dX5_readColumn_78 : decode cX5_readColumn 78 = .ok (.ifCond .eq 28, 3) := by decide +kernel
theorem dX5_readColumn_81 : decode cX5_readColumn 81 = .ok (.aload_n 1, 1) := by decide +kernel
theorem dX5_readColumn_82 : decode cX5_readColumn 82 = .ok (.aload_n 0, 1) := by decide +kernel
theorem dX5_readColumn_83 : decode cX5_readColumn 83 = .ok (.getfield 9, 3) := by decide +kernel
theorem dX5_readColumn_86 : decode cX5_readColumn 86 = .ok (.getfield 75, 3) := by decide +kernel
theorem dX5_readColumn_89 : decode cX5_readColumn 89 = .ok (.invokevirtual 79, 3) := by decide +kernel
theorem dX5_readColumn_92 : decode cX5_readColumn 92 = .ok (.istore 5, 2) := by decide +kernel
theorem dX5_readColumn_94 : decode cX5_readColumn 94 = .ok (.iload 5, 2) := by decide +kernel
theorem dX5_readColumn_96 : decode cX5_readColumn 96 = .ok (.iconst (-1), 1) := by decide +kernel
theorem dX5_readColumn_97 : decode cX5_readColumn 97 = .ok (.if_icmp .ne 54, 3) := by decide +kernel
theorem dX5_readColumn_100 : decode cX5_readColumn 100 = .ok (.aload_n 0, 1) := by decide +kernel
theorem dX5_readColumn_101 : decode cX5_readColumn 101 = .ok (.iconst 2, 1) := by decide +kernel
theorem dX5_readColumn_102 : decode cX5_readColumn 102 = .ok (.invokevirtual 61, 3) := by decide +kernel
theorem dX5_readColumn_105 : decode cX5_readColumn 105 = .ok (.ireturn, 1) := by decide +kernel
theorem dX5_readColumn_106 : decode cX5_readColumn 106 = .ok (.aload_n 0, 1) := by decide +kernel
theorem dX5_readColumn_107 : decode cX5_readColumn 107 = .ok (.getfield 9, 3) := by decide +kernel
theorem dX5_readColumn_110 : decode cX5_readColumn 110 = .ok (.ldc2_w 110, 3) := by decide +kernel
theorem dX5_readColumn_113 : decode cX5_readColumn 113 = .ok (.invokevirtual 57, 3) := by decide +kernel
theorem dX5_readColumn_116 : decode cX5_readColumn 116 = .ok (.ifCond .eq 9, 3) := by decide +kernel
theorem dX5_readColumn_119 : decode cX5_readColumn 119 = .ok (.iconst (-1), 1) := by decide +kernel
theorem dX5_readColumn_120 : decode cX5_readColumn 120 = .ok (.istore 5, 2) := by decide +kernel
theorem dX5_readColumn_122 : decode cX5_readColumn 122 = .ok (.goto 29, 3) := by decide +kernel
theorem dX5_readColumn_125 : decode cX5_readColumn 125 = .ok (.aload_n 0, 1) := by decide +kernel
theorem dX5_readColumn_126 : decode cX5_readColumn 126 = .ok (.getfield 9, 3) := by decide +kernel
theorem dX5_readColumn_129 : decode cX5_readColumn 129 = .ok (.ldc2_w 112, 3) := by decide +kernel
theorem dX5_readColumn_132 : decode cX5_readColumn 132 = .ok (.invokevirtual 57, 3) := by decide +kernel
theorem dX5_readColumn_135 : decode cX5_readColumn 135 = .ok (.ifCond .eq 10, 3) := by decide +kernel
theorem dX5_readColumn_138 : decode cX5_readColumn 138 = .ok (.bipush (-2), 2) := by decide +kernel
theorem dX5_readColumn_140 : decode cX5_readColumn 140 = .ok (.istore 5, 2) := by decide +kernel
theorem dX5_readColumn_142 : decode cX5_readColumn 142 = .ok (.goto 9, 3) := by decide +kernel
theorem dX5_readColumn_145 : decode cX5_readColumn 145 = .ok (.aload_n 0, 1) := by decide +kernel
theorem dX5_readColumn_146 : decode cX5_readColumn 146 = .ok (.iconst 1, 1) := by decide +kernel
theorem dX5_readColumn_147 : decode cX5_readColumn 147 = .ok (.invokevirtual 61, 3) := by decide +kernel
theorem dX5_readColumn_150 : decode cX5_readColumn 150 = .ok (.ireturn, 1) := by decide +kernel
theorem dX5_readColumn_151 : decode cX5_readColumn 151 = .ok (.aload_n 1, 1) := by decide +kernel
theorem dX5_readColumn_152 : decode cX5_readColumn 152 = .ok (.iload_n 2, 1) := by decide +kernel
theorem dX5_readColumn_153 : decode cX5_readColumn 153 = .ok (.lload_n 3, 1) := by decide +kernel
theorem dX5_readColumn_154 : decode cX5_readColumn 154 = .ok (.iload 5, 2) := by decide +kernel
theorem dX5_readColumn_156 : decode cX5_readColumn 156 = .ok (.invokevirtual 114, 3) := by decide +kernel
theorem dX5_readColumn_159 : decode cX5_readColumn 159 = .ok (.aload_n 0, 1) := by decide +kernel
theorem dX5_readColumn_160 : decode cX5_readColumn 160 = .ok (.getfield 9, 3) := by decide +kernel
theorem dX5_readColumn_163 : decode cX5_readColumn 163 = .ok (.invokevirtual 68, 3) := by decide +kernel
theorem dX5_readColumn_166 : decode cX5_readColumn 166 = .ok (.iconst 0, 1) := by decide +kernel
theorem dX5_readColumn_167 : decode cX5_readColumn 167 = .ok (.ireturn, 1) := by decide +kernel
theorem dX5_readRow_0 : decode cX5_readRow 0 = .ok (.aload_n 0, 1) := by decide +kernel
theorem dX5_readRow_1 : decode cX5_readRow 1 = .ok (.aload_n 1, 1) := by decide +kernel
theorem dX5_readRow_2 : decode cX5_readRow 2 = .ok (.invokevirtual 118, 3) := by decide +kernel
theorem dX5_readRow_5 : decode cX5_readRow 5 = .ok (.istore_n 2, 1) := by decide +kernel
theorem dX5_readRow_6 : decode cX5_readRow 6 = .ok (.iload_n 2, 1) := by decide +kernel
theorem dX5_readRow_7 : decode cX5_readRow 7 = .ok (.ifCond .eq 5, 3) := by decide +kernel
theorem dX5_readRow_10 : decode cX5_readRow 10 = .ok (.iload_n 2, 1) := by decide +kernel
theorem dX5_readRow_11 : decode cX5_readRow 11 = .ok (.ireturn, 1) := by decide +kernel
theorem dX5_readRow_12 : decode cX5_readRow 12 = .ok (.aload_n 1, 1) := by decide +kernel
theorem dX5_readRow_13 : decode cX5_readRow 13 = .ok (.getfield 121, 3) := by decide +kernel
theorem dX5_readRow_16 : decode cX5_readRow 16 = .ok (.bipush 30, 2) := by decide +kernel
theorem dX5_readRow_18 : decode cX5_readRow 18 = .ok (.if_icmp .lt 9, 3) := by decide +kernel
theorem dX5_readRow_21 : decode cX5_readRow 21 = .ok (.aload_n 0, 1) := by decide +kernel
theorem dX5_readRow_22 : decode cX5_readRow 22 = .ok (.iconst 5, 1) := by decide +kernel
theorem dX5_readRow_23 : decode cX5_readRow 23 = .ok (.invokevirtual 61, 3) := by decide +kernel
theorem dX5_readRow_26 : decode cX5_readRow 26 = .ok (.ireturn, 1) := by decide +kernel
theorem dX5_readRow_27 : decode cX5_readRow 27 = .ok (.aload_n 1, 1) := by decide +kernel
theorem dX5_readRow_28 : decode cX5_readRow 28 = .ok (.aload_n 0, 1) := by decide +kernel
theorem dX5_readRow_29 : decode cX5_readRow 29 = .ok (.getfield 9, 3) := by decide +kernel
theorem dX5_readRow_32 : decode cX5_readRow 32 = .ok (.getfield 75, 3) := by decide +kernel
theorem dX5_readRow_35 : decode cX5_readRow 35 = .ok (.invokevirtual 79, 3) := by decide +kernel
theorem dX5_readRow_38 : decode cX5_readRow 38 = .ok (.istore_n 3, 1) := by decide +kernel
theorem dX5_readRow_39 : decode cX5_readRow 39 = .ok (.aload_n 0, 1) := by decide +kernel
theorem dX5_readRow_40 : decode cX5_readRow 40 = .ok (.getfield 9, 3) := by decide +kernel
theorem dX5_readRow_43 : decode cX5_readRow 43 = .ok (.invokevirtual 68, 3) := by decide +kernel
theorem dX5_readRow_46 : decode cX5_readRow 46 = .ok (.iconst 0, 1) := by decide +kernel
theorem dX5_readRow_47 : decode cX5_readRow 47 = .ok (.istore 4, 2) := by decide +kernel
theorem dX5_readRow_49 : decode cX5_readRow 49 = .ok (.iload 4, 2) := by decide +kernel
theorem dX5_readRow_51 : decode cX5_readRow 51 = .ok (.aload_n 1, 1) := by decide +kernel
theorem dX5_readRow_52 : decode cX5_readRow 52 = .ok (.getfield 106, 3) := by decide +kernel
theorem dX5_readRow_55 : decode cX5_readRow 55 = .ok (.iload_n 3, 1) := by decide +kernel
theorem dX5_readRow_56 : decode cX5_readRow 56 = .ok (.iaload, 1) := by decide +kernel
theorem dX5_readRow_57 : decode cX5_readRow 57 = .ok (.if_icmp .ge 22, 3) := by decide +kernel
theorem dX5_readRow_60 : decode cX5_readRow 60 = .ok (.iload_n 2, 1) := by decide +kernel
theorem dX5_readRow_61 : decode cX5_readRow 61 = .ok (.ifCond .ne 18, 3) := by decide +kernel
theorem dX5_readRow_64 : decode cX5_readRow 64 = .ok (.aload_n 0, 1) := by decide +kernel
theorem dX5_readRow_65 : decode cX5_readRow 65 = .ok (.aload_n 1, 1) := by decide +kernel
theorem dX5_readRow_66 : decode cX5_readRow 66 = .ok (.iload_n 3, 1) := by decide +kernel
theorem dX5_readRow_67 : decode cX5_readRow 67 = .ok (.iload 4, 2) := by decide +kernel
theorem dX5_readRow_69 : decode cX5_readRow 69 = .ok (.invokevirtual 124, 3) := by decide +kernel
theorem dX5_readRow_72 : decode cX5_readRow 72 = .ok (.istore_n 2, 1) := by decide +kernel
theorem dX5_readRow_73 : decode cX5_readRow 73 = .ok (.iinc 4 1, 3) := by decide +kernel
theorem dX5_readRow_76 : decode cX5_readRow 76 = .ok (.goto (-27), 3) := by decide +kernel
theorem dX5_readRow_79 : decode cX5_readRow 79 = .ok (.iload_n 2, 1) := by decide +kernel
theorem dX5_readRow_80 : decode cX5_readRow 80 = .ok (.ifCond .ne 10, 3) := by decide +kernel
theorem dX5_readRow_83 : decode cX5_readRow 83 = .ok (.aload_n 0, 1) := by decide +kernel
theorem dX5_readRow_84 : decode cX5_readRow 84 = .ok (.bipush 59, 2) := by decide +kernel
theorem dX5_readRow_86 : decode cX5_readRow 86 = .ok (.invokevirtual 98, 3) := by decide +kernel
theorem dX5_readRow_89 : decode cX5_readRow 89 = .ok (.istore_n 2, 1) := by decide +kernel
theorem dX5_readRow_90 : decode cX5_readRow 90 = .ok (.iload_n 2, 1) := by decide +kernel
theorem dX5_readRow_91 : decode cX5_readRow 91 = .ok (.ifCond .ne 8, 3) := by decide +kernel
theorem dX5_readRow_94 : decode cX5_readRow 94 = .ok (.aload_n 1, 1) := by decide +kernel
theorem dX5_readRow_95 : decode cX5_readRow 95 = .ok (.iload_n 3, 1) := by decide +kernel
theorem dX5_readRow_96 : decode cX5_readRow 96 = .ok (.invokevirtual 128, 3) := by decide +kernel
theorem dX5_readRow_99 : decode cX5_readRow 99 = .ok (.iload_n 2, 1) := by decide +kernel
theorem dX5_readRow_100 : decode cX5_readRow 100 = .ok (.ireturn, 1) := by decide +kernel
theorem dX5_readCell_0 : decode cX5_readCell 0 = .ok (.aload_n 1, 1) := by decide +kernel
theorem dX5_readCell_1 : decode cX5_readCell 1 = .ok (.getfield 132, 3) := by decide +kernel
theorem dX5_readCell_4 : decode cX5_readCell 4 = .ok (.iload_n 2, 1) := by decide +kernel
theorem dX5_readCell_5 : decode cX5_readCell 5 = .ok (.iconst 4, 1) := by decide +kernel
theorem dX5_readCell_6 : decode cX5_readCell 6 = .ok (.imul, 1) := by decide +kernel
theorem dX5_readCell_7 : decode cX5_readCell 7 = .ok (.iload_n 3, 1) := by decide +kernel
theorem dX5_readCell_8 : decode cX5_readCell 8 = .ok (.iadd, 1) := by decide +kernel
theorem dX5_readCell_9 : decode cX5_readCell 9 = .ok (.iaload, 1) := by decide +kernel
theorem dX5_readCell_10 : decode cX5_readCell 10 = .ok (.istore 4, 2) := by decide +kernel
theorem dX5_readCell_12 : decode cX5_readCell 12 = .ok (.aload_n 0, 1) := by decide +kernel
theorem dX5_readCell_13 : decode cX5_readCell 13 = .ok (.getfield 9, 3) := by decide +kernel
theorem dX5_readCell_16 : decode cX5_readCell 16 = .ok (.getfield 75, 3) := by decide +kernel
theorem dX5_readCell_19 : decode cX5_readCell 19 = .ok (.lstore 5, 2) := by decide +kernel
theorem dX5_readCell_21 : decode cX5_readCell 21 = .ok (.iload 4, 2) := by decide +kernel
theorem dX5_readCell_23 : decode cX5_readCell 23 = .ok (.iconst (-1), 1) := by decide +kernel
theorem dX5_readCell_24 : decode cX5_readCell 24 = .ok (.if_icmp .ne 19, 3) := by decide +kernel
theorem dX5_readCell_27 : decode cX5_readCell 27 = .ok (.aload_n 0, 1) := by decide +kernel
theorem dX5_readCell_28 : decode cX5_readCell 28 = .ok (.getfield 9, 3) := by decide +kernel
theorem dX5_readCell_31 : decode cX5_readCell 31 = .ok (.invokevirtual 71, 3) := by decide +kernel
theorem dX5_readCell_34 : decode cX5_readCell 34 = .ok (.ifCond .ne 89, 3) := by decide +kernel
theorem dX5_readCell_37 : decode cX5_readCell 37 = .ok (.aload_n 0, 1) := by decide +kernel
theorem dX5_readCell_38 : decode cX5_readCell 38 = .ok (.iconst 1, 1) := by decide +kernel
theorem dX5_readCell_39 : decode cX5_readCell 39 = .ok (.invokevirtual 61, 3) := by decide +kernel
theorem dX5_readCell_42 : decode cX5_readCell 42 = .ok (.ireturn, 1) := by decide +kernel
theorem dX5_readCell_43 : decode cX5_readCell 43 = .ok (.iload 4, 2) := by decide +kernel
theorem dX5_readCell_45 : decode cX5_readCell 45 = .ok (.bipush (-2), 2) := by decide +kernel
theorem dX5_readCell_47 : decode cX5_readCell 47 = .ok (.if_icmp .eq 16, 3) := by decide +kernel
theorem dX5_readCell_50 : decode cX5_readCell 50 = .ok (.aload_n 0, 1) := by decide +kernel
theorem dX5_readCell_51 : decode cX5_readCell 51 = .ok (.getfield 9, 3) := by decide +kernel
theorem dX5_readCell_54 : decode cX5_readCell 54 = .ok (.ldc2_w 135, 3) := by decide +kernel
theorem dX5_readCell_57 : decode cX5_readCell 57 = .ok (.invokevirtual 57, 3) := by decide +kernel
theorem dX5_readCell_60 : decode cX5_readCell 60 = .ok (.ifCond .ne 58, 3) := by decide +kernel
theorem dX5_readCell_63 : decode cX5_readCell 63 = .ok (.aload_n 0, 1) := by decide +kernel
theorem dX5_readCell_64 : decode cX5_readCell 64 = .ok (.getfield 9, 3) := by decide +kernel
theorem dX5_readCell_67 : decode cX5_readCell 67 = .ok (.getfield 25, 3) := by decide +kernel
theorem dX5_readCell_70 : decode cX5_readCell 70 = .ok (.iconst 2, 1) := by decide +kernel
theorem dX5_readCell_71 : decode cX5_readCell 71 = .ok (.if_icmp .eq 9, 3) := by decide +kernel
theorem dX5_readCell_74 : decode cX5_readCell 74 = .ok (.aload_n 0, 1) := by decide +kernel
theorem dX5_readCell_75 : decode cX5_readCell 75 = .ok (.iconst 1, 1) := by decide +kernel
theorem dX5_readCell_76 : decode cX5_readCell 76 = .ok (.invokevirtual 61, 3) := by decide +kernel
theorem dX5_readCell_79 : decode cX5_readCell 79 = .ok (.ireturn, 1) := by decide +kernel
theorem dX5_readCell_80 : decode cX5_readCell 80 = .ok (.iload 4, 2) := by decide +kernel
theorem dX5_readCell_82 : decode cX5_readCell 82 = .ok (.bipush (-2), 2) := by decide +kernel
theorem dX5_readCell_84 : decode cX5_readCell 84 = .ok (.if_icmp .eq 39, 3) := by decide +kernel
theorem dX5_readCell_87 : decode cX5_readCell 87 = .ok (.aload_n 1, 1) := by decide +kernel
theorem dX5_readCell_88 : decode cX5_readCell 88 = .ok (.iload 4, 2) := by decide +kernel
theorem dX5_readCell_90 : decode cX5_readCell 90 = .ok (.aload_n 0, 1) := by decide +kernel
theorem dX5_readCell_91 : decode cX5_readCell 91 = .ok (.getfield 9, 3) := by decide +kernel
theorem dX5_readCell_94 : decode cX5_readCell 94 = .ok (.getfield 75, 3) := by decide +kernel
theorem dX5_readCell_97 : decode cX5_readCell 97 = .ok (.invokevirtual 137, 3) := by decide +kernel
theorem dX5_readCell_100 : decode cX5_readCell 100 = .ok (.i2l, 1) := by decide +kernel
theorem dX5_readCell_101 : decode cX5_readCell 101 = .ok (.lstore 5, 2) := by decide +kernel
theorem dX5_readCell_103 : decode cX5_readCell 103 = .ok (.lload 5, 2) := by decide +kernel
theorem dX5_readCell_105 : decode cX5_readCell 105 = .ok (.ldc2_w 141, 3) := by decide +kernel
theorem dX5_readCell_108 : decode cX5_readCell 108 = .ok (.lcmp, 1) := by decide +kernel
theorem dX5_readCell_109 : decode cX5_readCell 109 = .ok (.ifCond .ne 14, 3) := by decide +kernel
theorem dX5_readCell_112 : decode cX5_readCell 112 = .ok (.aload_n 0, 1) := by decide +kernel
theorem dX5_readCell_113 : decode cX5_readCell 113 = .ok (.iconst 4, 1) := by decide +kernel
theorem dX5_readCell_114 : decode cX5_readCell 114 = .ok (.invokevirtual 61, 3) := by decide +kernel
theorem dX5_readCell_117 : decode cX5_readCell 117 = .ok (.ireturn, 1) := by decide +kernel
theorem dX5_readCell_118 : decode cX5_readCell 118 = .ok (.ldc2_w 141, 3) := by decide +kernel
theorem dX5_readCell_121 : decode cX5_readCell 121 = .ok (.lstore 5, 2) := by decide +kernel
theorem dX5_readCell_123 : decode cX5_readCell 123 = .ok (.aload_n 1, 1) := by decide +kernel
theorem dX5_readCell_124 : decode cX5_readCell 124 = .ok (.iload_n 3, 1) := by decide +kernel
theorem dX5_readCell_125 : decode cX5_readCell 125 = .ok (.lload 5, 2) := by decide +kernel
theorem dX5_readCell_127 : decode cX5_readCell 127 = .ok (.invokevirtual 143, 3) := by decide +kernel
theorem dX5_readCell_130 : decode cX5_readCell 130 = .ok (.aload_n 0, 1) := by decide +kernel
theorem dX5_readCell_131 : decode cX5_readCell 131 = .ok (.getfield 9, 3) := by decide +kernel
theorem dX5_readCell_134 : decode cX5_readCell 134 = .ok (.invokevirtual 68, 3) := by decide +kernel
theorem dX5_readCell_137 : decode cX5_readCell 137 = .ok (.iconst 0, 1) := by decide +kernel
theorem dX5_readCell_138 : decode cX5_readCell 138 = .ok (.ireturn, 1) := by decide +kernel
theorem dX5_readTerm_0 : decode cX5_readTerm 0 = .ok (.aload_n 0, 1) := by decide +kernel
theorem dX5_readTerm_1 : decode cX5_readTerm 1 = .ok (.invokevirtual 147, 3) := by decide +kernel
theorem dX5_readTerm_4 : decode cX5_readTerm 4 = .ok (.istore_n 2, 1) := by decide +kernel
theorem dX5_readTerm_5 : decode cX5_readTerm 5 = .ok (.iload_n 2, 1) := by decide +kernel
theorem dX5_readTerm_6 : decode cX5_readTerm 6 = .ok (.iconst (-1), 1) := by decide +kernel
theorem dX5_readTerm_7 : decode cX5_readTerm 7 = .ok (.if_icmp .ne 9, 3) := by decide +kernel
theorem dX5_readTerm_10 : decode cX5_readTerm 10 = .ok (.aload_n 0, 1) := by decide +kernel
theorem dX5_readTerm_11 : decode cX5_readTerm 11 = .ok (.iconst 1, 1) := by decide +kernel
theorem dX5_readTerm_12 : decode cX5_readTerm 12 = .ok (.invokevirtual 61, 3) := by decide +kernel
theorem dX5_readTerm_15 : decode cX5_readTerm 15 = .ok (.ireturn, 1) := by decide +kernel
theorem dX5_readTerm_16 : decode cX5_readTerm 16 = .ok (.aload_n 1, 1) := by decide +kernel
theorem dX5_readTerm_17 : decode cX5_readTerm 17 = .ok (.getfield 151, 3) := by decide +kernel
theorem dX5_readTerm_20 : decode cX5_readTerm 20 = .ok (.iconst 4, 1) := by decide +kernel
theorem dX5_readTerm_21 : decode cX5_readTerm 21 = .ok (.if_icmp .lt 9, 3) := by decide +kernel
theorem dX5_readTerm_24 : decode cX5_readTerm 24 = .ok (.aload_n 0, 1) := by decide +kernel
theorem dX5_readTerm_25 : decode cX5_readTerm 25 = .ok (.iconst 5, 1) := by decide +kernel
theorem dX5_readTerm_26 : decode cX5_readTerm 26 = .ok (.invokevirtual 61, 3) := by decide +kernel
theorem dX5_readTerm_29 : decode cX5_readTerm 29 = .ok (.ireturn, 1) := by decide +kernel
theorem dX5_readTerm_30 : decode cX5_readTerm 30 = .ok (.iload_n 2, 1) := by decide +kernel
theorem dX5_readTerm_31 : decode cX5_readTerm 31 = .ok (.ifCond .eq 52, 3) := by decide +kernel
theorem dX5_readTerm_34 : decode cX5_readTerm 34 = .ok (.aload_n 0, 1) := by decide +kernel
theorem dX5_readTerm_35 : decode cX5_readTerm 35 = .ok (.getfield 9, 3) := by decide +kernel
theorem dX5_readTerm_38 : decode cX5_readTerm 38 = .ok (.invokevirtual 68, 3) := by decide +kernel
theorem dX5_readTerm_41 : decode cX5_readTerm 41 = .ok (.iload_n 2, 1) := by decide +kernel
theorem dX5_readTerm_42 : decode cX5_readTerm 42 = .ok (.iconst 1, 1) := by decide +kernel
theorem dX5_readTerm_43 : decode cX5_readTerm 43 = .ok (.if_icmp .ne 13, 3) := by decide +kernel
theorem dX5_readTerm_46 : decode cX5_readTerm 46 = .ok (.aload_n 0, 1) := by decide +kernel
theorem dX5_readTerm_47 : decode cX5_readTerm 47 = .ok (.getfield 9, 3) := by decide +kernel
theorem dX5_readTerm_50 : decode cX5_readTerm 50 = .ok (.invokevirtual 71, 3) := by decide +kernel
theorem dX5_readTerm_53 : decode cX5_readTerm 53 = .ok (.goto 19, 3) := by decide +kernel
theorem dX5_readTerm_56 : decode cX5_readTerm 56 = .ok (.aload_n 0, 1) := by decide +kernel
theorem dX5_readTerm_57 : decode cX5_readTerm 57 = .ok (.getfield 9, 3) := by decide +kernel
theorem dX5_readTerm_60 : decode cX5_readTerm 60 = .ok (.getfield 25, 3) := by decide +kernel
theorem dX5_readTerm_63 : decode cX5_readTerm 63 = .ok (.iconst 2, 1) := by decide +kernel
theorem dX5_readTerm_64 : decode cX5_readTerm 64 = .ok (.if_icmp .ne 7, 3) := by decide +kernel
theorem dX5_readTerm_67 : decode cX5_readTerm 67 = .ok (.iconst 1, 1) := by decide +kernel
theorem dX5_readTerm_68 : decode cX5_readTerm 68 = .ok (.goto 4, 3) := by decide +kernel
theorem dX5_readTerm_71 : decode cX5_readTerm 71 = .ok (.iconst 0, 1) := by decide +kernel
theorem dX5_readTerm_72 : decode cX5_readTerm 72 = .ok (.istore_n 3, 1) := by decide +kernel
theorem dX5_readTerm_73 : decode cX5_readTerm 73 = .ok (.iload_n 3, 1) := by decide +kernel
theorem dX5_readTerm_74 : decode cX5_readTerm 74 = .ok (.ifCond .ne 9, 3) := by decide +kernel
theorem dX5_readTerm_77 : decode cX5_readTerm 77 = .ok (.aload_n 0, 1) := by decide +kernel
theorem dX5_readTerm_78 : decode cX5_readTerm 78 = .ok (.iconst 1, 1) := by decide +kernel
theorem dX5_readTerm_79 : decode cX5_readTerm 79 = .ok (.invokevirtual 61, 3) := by decide +kernel
theorem dX5_readTerm_82 : decode cX5_readTerm 82 = .ok (.ireturn, 1) := by decide +kernel
theorem dX5_readTerm_83 : decode cX5_readTerm 83 = .ok (.aload_n 1, 1) := by decide +kernel
theorem dX5_readTerm_84 : decode cX5_readTerm 84 = .ok (.iload_n 2, 1) := by decide +kernel
theorem dX5_readTerm_85 : decode cX5_readTerm 85 = .ok (.aload_n 0, 1) := by decide +kernel
theorem dX5_readTerm_86 : decode cX5_readTerm 86 = .ok (.getfield 9, 3) := by decide +kernel
theorem dX5_readTerm_89 : decode cX5_readTerm 89 = .ok (.getfield 75, 3) := by decide +kernel
theorem dX5_readTerm_92 : decode cX5_readTerm 92 = .ok (.invokevirtual 154, 3) := by decide +kernel
theorem dX5_readTerm_95 : decode cX5_readTerm 95 = .ok (.aload_n 0, 1) := by decide +kernel
theorem dX5_readTerm_96 : decode cX5_readTerm 96 = .ok (.getfield 9, 3) := by decide +kernel
theorem dX5_readTerm_99 : decode cX5_readTerm 99 = .ok (.invokevirtual 68, 3) := by decide +kernel
theorem dX5_readTerm_102 : decode cX5_readTerm 102 = .ok (.iconst 0, 1) := by decide +kernel
theorem dX5_readTerm_103 : decode cX5_readTerm 103 = .ok (.ireturn, 1) := by decide +kernel
theorem dX5_kindOfTerm_0 : decode cX5_kindOfTerm 0 = .ok (.aload_n 0, 1) := by decide +kernel
theorem dX5_kindOfTerm_1 : decode cX5_kindOfTerm 1 = .ok (.getfield 9, 3) := by decide +kernel
theorem dX5_kindOfTerm_4 : decode cX5_kindOfTerm 4 = .ok (.ldc2_w 157, 3) := by decide +kernel
theorem dX5_kindOfTerm_7 : decode cX5_kindOfTerm 7 = .ok (.invokevirtual 57, 3) := by decide +kernel
theorem dX5_kindOfTerm_10 : decode cX5_kindOfTerm 10 = .ok (.ifCond .eq 5, 3) := by decide +kernel
theorem dX5_kindOfTerm_13 : decode cX5_kindOfTerm 13 = .ok (.iconst 1, 1) := by decide +kernel
theorem dX5_kindOfTerm_14 : decode cX5_kindOfTerm 14 = .ok (.ireturn, 1) := by decide +kernel
theorem dX5_kindOfTerm_15 : decode cX5_kindOfTerm 15 = .ok (.aload_n 0, 1) := by decide +kernel
theorem dX5_kindOfTerm_16 : decode cX5_kindOfTerm 16 = .ok (.getfield 9, 3) := by decide +kernel
theorem dX5_kindOfTerm_19 : decode cX5_kindOfTerm 19 = .ok (.ldc2_w 159, 3) := by decide +kernel
theorem dX5_kindOfTerm_22 : decode cX5_kindOfTerm 22 = .ok (.invokevirtual 57, 3) := by decide +kernel
theorem dX5_kindOfTerm_25 : decode cX5_kindOfTerm 25 = .ok (.ifCond .eq 5, 3) := by decide +kernel
theorem dX5_kindOfTerm_28 : decode cX5_kindOfTerm 28 = .ok (.iconst 2, 1) := by decide +kernel
theorem dX5_kindOfTerm_29 : decode cX5_kindOfTerm 29 = .ok (.ireturn, 1) := by decide +kernel
theorem dX5_kindOfTerm_30 : decode cX5_kindOfTerm 30 = .ok (.aload_n 0, 1) := by decide +kernel
theorem dX5_kindOfTerm_31 : decode cX5_kindOfTerm 31 = .ok (.getfield 9, 3) := by decide +kernel
theorem dX5_kindOfTerm_34 : decode cX5_kindOfTerm 34 = .ok (.ldc2_w 161, 3) := by decide +kernel
theorem dX5_kindOfTerm_37 : decode cX5_kindOfTerm 37 = .ok (.invokevirtual 57, 3) := by decide +kernel
theorem dX5_kindOfTerm_40 : decode cX5_kindOfTerm 40 = .ok (.ifCond .eq 5, 3) := by decide +kernel
theorem dX5_kindOfTerm_43 : decode cX5_kindOfTerm 43 = .ok (.iconst 3, 1) := by decide +kernel
theorem dX5_kindOfTerm_44 : decode cX5_kindOfTerm 44 = .ok (.ireturn, 1) := by decide +kernel
theorem dX5_kindOfTerm_45 : decode cX5_kindOfTerm 45 = .ok (.aload_n 0, 1) := by decide +kernel
theorem dX5_kindOfTerm_46 : decode cX5_kindOfTerm 46 = .ok (.getfield 9, 3) := by decide +kernel
theorem dX5_kindOfTerm_49 : decode cX5_kindOfTerm 49 = .ok (.invokevirtual 71, 3) := by decide +kernel
theorem dX5_kindOfTerm_52 : decode cX5_kindOfTerm 52 = .ok (.ifCond .eq 7, 3) := by decide +kernel
theorem dX5_kindOfTerm_55 : decode cX5_kindOfTerm 55 = .ok (.iconst 0, 1) := by decide +kernel
theorem dX5_kindOfTerm_56 : decode cX5_kindOfTerm 56 = .ok (.goto 4, 3) := by decide +kernel
theorem dX5_kindOfTerm_59 : decode cX5_kindOfTerm 59 = .ok (.iconst (-1), 1) := by decide +kernel
theorem dX5_kindOfTerm_60 : decode cX5_kindOfTerm 60 = .ok (.ireturn, 1) := by decide +kernel
theorem dX5_readShapeRows_0 : decode cX5_readShapeRows 0 = .ok (.iconst 0, 1) := by decide +kernel
theorem dX5_readShapeRows_1 : decode cX5_readShapeRows 1 = .ok (.istore_n 2, 1) := by decide +kernel
theorem dX5_readShapeRows_2 : decode cX5_readShapeRows 2 = .ok (.iload_n 2, 1) := by decide +kernel
theorem dX5_readShapeRows_3 : decode cX5_readShapeRows 3 = .ok (.iconst 5, 1) := by decide +kernel
theorem dX5_readShapeRows_4 : decode cX5_readShapeRows 4 = .ok (.if_icmp .gt 83, 3) := by decide +kernel
theorem dX5_readShapeRows_7 : decode cX5_readShapeRows 7 = .ok (.aload_n 0, 1) := by decide +kernel
theorem dX5_readShapeRows_8 : decode cX5_readShapeRows 8 = .ok (.aload_n 1, 1) := by decide +kernel
theorem dX5_readShapeRows_9 : decode cX5_readShapeRows 9 = .ok (.invokevirtual 118, 3) := by decide +kernel
theorem dX5_readShapeRows_12 : decode cX5_readShapeRows 12 = .ok (.istore_n 3, 1) := by decide +kernel
theorem dX5_readShapeRows_13 : decode cX5_readShapeRows 13 = .ok (.iload_n 3, 1) := by decide +kernel
theorem dX5_readShapeRows_14 : decode cX5_readShapeRows 14 = .ok (.ifCond .eq 5, 3) := by decide +kernel
theorem dX5_readShapeRows_17 : decode cX5_readShapeRows 17 = .ok (.iload_n 3, 1) := by decide +kernel
theorem dX5_readShapeRows_18 : decode cX5_readShapeRows 18 = .ok (.ireturn, 1) := by decide +kernel
theorem dX5_readShapeRows_19 : decode cX5_readShapeRows 19 = .ok (.iload_n 2, 1) := by decide +kernel
theorem dX5_readShapeRows_20 : decode cX5_readShapeRows 20 = .ok (.iconst 5, 1) := by decide +kernel
theorem dX5_readShapeRows_21 : decode cX5_readShapeRows 21 = .ok (.if_icmp .lt 9, 3) := by decide +kernel
theorem dX5_readShapeRows_24 : decode cX5_readShapeRows 24 = .ok (.aload_n 0, 1) := by decide +kernel
theorem dX5_readShapeRows_25 : decode cX5_readShapeRows 25 = .ok (.iconst 5, 1) := by decide +kernel
theorem dX5_readShapeRows_26 : decode cX5_readShapeRows 26 = .ok (.invokevirtual 61, 3) := by decide +kernel
theorem dX5_readShapeRows_29 : decode cX5_readShapeRows 29 = .ok (.ireturn, 1) := by decide +kernel
theorem dX5_readShapeRows_30 : decode cX5_readShapeRows 30 = .ok (.aload_n 0, 1) := by decide +kernel
theorem dX5_readShapeRows_31 : decode cX5_readShapeRows 31 = .ok (.aload_n 0, 1) := by decide +kernel
theorem dX5_readShapeRows_32 : decode cX5_readShapeRows 32 = .ok (.getfield 43, 3) := by decide +kernel
theorem dX5_readShapeRows_35 : decode cX5_readShapeRows 35 = .ok (.aload_n 1, 1) := by decide +kernel
theorem dX5_readShapeRows_36 : decode cX5_readShapeRows 36 = .ok (.aload_n 0, 1) := by decide +kernel
theorem dX5_readShapeRows_37 : decode cX5_readShapeRows 37 = .ok (.getfield 9, 3) := by decide +kernel
theorem dX5_readShapeRows_40 : decode cX5_readShapeRows 40 = .ok (.getfield 75, 3) := by decide +kernel
theorem dX5_readShapeRows_43 : decode cX5_readShapeRows 43 = .ok (.invokevirtual 79, 3) := by decide +kernel
theorem dX5_readShapeRows_46 : decode cX5_readShapeRows 46 = .ok (.invokestatic 165, 3) := by decide +kernel
theorem dX5_readShapeRows_49 : decode cX5_readShapeRows 49 = .ok (.putfield 43, 3) := by decide +kernel
theorem dX5_readShapeRows_52 : decode cX5_readShapeRows 52 = .ok (.aload_n 0, 1) := by decide +kernel
theorem dX5_readShapeRows_53 : decode cX5_readShapeRows 53 = .ok (.getfield 9, 3) := by decide +kernel
theorem dX5_readShapeRows_56 : decode cX5_readShapeRows 56 = .ok (.invokevirtual 68, 3) := by decide +kernel
theorem dX5_readShapeRows_59 : decode cX5_readShapeRows 59 = .ok (.aload_n 0, 1) := by decide +kernel
theorem dX5_readShapeRows_60 : decode cX5_readShapeRows 60 = .ok (.getfield 9, 3) := by decide +kernel
theorem dX5_readShapeRows_63 : decode cX5_readShapeRows 63 = .ok (.bipush 44, 2) := by decide +kernel
theorem dX5_readShapeRows_65 : decode cX5_readShapeRows 65 = .ok (.invokevirtual 94, 3) := by decide +kernel
theorem dX5_readShapeRows_68 : decode cX5_readShapeRows 68 = .ok (.ifCond .ne 6, 3) := by decide +kernel
theorem dX5_readShapeRows_71 : decode cX5_readShapeRows 71 = .ok (.goto 16, 3) := by decide +kernel
theorem dX5_readShapeRows_74 : decode cX5_readShapeRows 74 = .ok (.aload_n 0, 1) := by decide +kernel
theorem dX5_readShapeRows_75 : decode cX5_readShapeRows 75 = .ok (.getfield 9, 3) := by decide +kernel
theorem dX5_readShapeRows_78 : decode cX5_readShapeRows 78 = .ok (.invokevirtual 68, 3) := by decide +kernel
theorem dX5_readShapeRows_81 : decode cX5_readShapeRows 81 = .ok (.iinc 2 1, 3) := by decide +kernel
theorem dX5_readShapeRows_84 : decode cX5_readShapeRows 84 = .ok (.goto (-82), 3) := by decide +kernel
theorem dX5_readShapeRows_87 : decode cX5_readShapeRows 87 = .ok (.aload_n 0, 1) := by decide +kernel
theorem dX5_readShapeRows_88 : decode cX5_readShapeRows 88 = .ok (.bipush 58, 2) := by decide +kernel
theorem dX5_readShapeRows_90 : decode cX5_readShapeRows 90 = .ok (.invokevirtual 98, 3) := by decide +kernel
theorem dX5_readShapeRows_93 : decode cX5_readShapeRows 93 = .ok (.ireturn, 1) := by decide +kernel
theorem dX5_readShapeTerms_0 : decode cX5_readShapeTerms 0 = .ok (.iconst 0, 1) := by decide +kernel
theorem dX5_readShapeTerms_1 : decode cX5_readShapeTerms 1 = .ok (.istore_n 3, 1) := by decide +kernel
theorem dX5_readShapeTerms_2 : decode cX5_readShapeTerms 2 = .ok (.iload_n 3, 1) := by decide +kernel
theorem dX5_readShapeTerms_3 : decode cX5_readShapeTerms 3 = .ok (.iconst 4, 1) := by decide +kernel
theorem dX5_readShapeTerms_4 : decode cX5_readShapeTerms 4 = .ok (.if_icmp .gt 69, 3) := by decide +kernel
theorem dX5_readShapeTerms_7 : decode cX5_readShapeTerms 7 = .ok (.aload_n 0, 1) := by decide +kernel
theorem dX5_readShapeTerms_8 : decode cX5_readShapeTerms 8 = .ok (.aload_n 2, 1) := by decide +kernel
theorem dX5_readShapeTerms_9 : decode cX5_readShapeTerms 9 = .ok (.invokevirtual 39, 3) := by decide +kernel
theorem dX5_readShapeTerms_12 : decode cX5_readShapeTerms 12 = .ok (.istore 4, 2) := by decide +kernel
theorem dX5_readShapeTerms_14 : decode cX5_readShapeTerms 14 = .ok (.iload 4, 2) := by decide +kernel
theorem dX5_readShapeTerms_16 : decode cX5_readShapeTerms 16 = .ok (.ifCond .ne 11, 3) := by decide +kernel
theorem dX5_readShapeTerms_19 : decode cX5_readShapeTerms 19 = .ok (.aload_n 0, 1) := by decide +kernel
theorem dX5_readShapeTerms_20 : decode cX5_readShapeTerms 20 = .ok (.aload_n 1, 1) := by decide +kernel
theorem dX5_readShapeTerms_21 : decode cX5_readShapeTerms 21 = .ok (.iload_n 3, 1) := by decide +kernel
theorem dX5_readShapeTerms_22 : decode cX5_readShapeTerms 22 = .ok (.invokevirtual 171, 3) := by decide +kernel
theorem dX5_readShapeTerms_25 : decode cX5_readShapeTerms 25 = .ok (.istore 4, 2) := by decide +kernel
theorem dX5_readShapeTerms_27 : decode cX5_readShapeTerms 27 = .ok (.iload 4, 2) := by decide +kernel
theorem dX5_readShapeTerms_29 : decode cX5_readShapeTerms 29 = .ok (.ifCond .ne 13, 3) := by decide +kernel
theorem dX5_readShapeTerms_32 : decode cX5_readShapeTerms 32 = .ok (.aload_n 0, 1) := by decide +kernel
theorem dX5_readShapeTerms_33 : decode cX5_readShapeTerms 33 = .ok (.getfield 9, 3) := by decide +kernel
theorem dX5_readShapeTerms_36 : decode cX5_readShapeTerms 36 = .ok (.getfield 25, 3) := by decide +kernel
theorem dX5_readShapeTerms_39 : decode cX5_readShapeTerms 39 = .ok (.ifCond .ne 6, 3) := by decide +kernel
theorem dX5_readShapeTerms_42 : decode cX5_readShapeTerms 42 = .ok (.iload 4, 2) := by decide +kernel
theorem dX5_readShapeTerms_44 : decode cX5_readShapeTerms 44 = .ok (.ireturn, 1) := by decide +kernel
theorem dX5_readShapeTerms_45 : decode cX5_readShapeTerms 45 = .ok (.aload_n 0, 1) := by decide +kernel
theorem dX5_readShapeTerms_46 : decode cX5_readShapeTerms 46 = .ok (.getfield 9, 3) := by decide +kernel
theorem dX5_readShapeTerms_49 : decode cX5_readShapeTerms 49 = .ok (.bipush 44, 2) := by decide +kernel
theorem dX5_readShapeTerms_51 : decode cX5_readShapeTerms 51 = .ok (.invokevirtual 94, 3) := by decide +kernel
theorem dX5_readShapeTerms_54 : decode cX5_readShapeTerms 54 = .ok (.ifCond .ne 6, 3) := by decide +kernel
theorem dX5_readShapeTerms_57 : decode cX5_readShapeTerms 57 = .ok (.goto 16, 3) := by decide +kernel
theorem dX5_readShapeTerms_60 : decode cX5_readShapeTerms 60 = .ok (.aload_n 0, 1) := by decide +kernel
theorem dX5_readShapeTerms_61 : decode cX5_readShapeTerms 61 = .ok (.getfield 9, 3) := by decide +kernel
theorem dX5_readShapeTerms_64 : decode cX5_readShapeTerms 64 = .ok (.invokevirtual 68, 3) := by decide +kernel
theorem dX5_readShapeTerms_67 : decode cX5_readShapeTerms 67 = .ok (.iinc 3 1, 3) := by decide +kernel
theorem dX5_readShapeTerms_70 : decode cX5_readShapeTerms 70 = .ok (.goto (-68), 3) := by decide +kernel
theorem dX5_readShapeTerms_73 : decode cX5_readShapeTerms 73 = .ok (.aload_n 0, 1) := by decide +kernel
theorem dX5_readShapeTerms_74 : decode cX5_readShapeTerms 74 = .ok (.iconst 1, 1) := by decide +kernel
theorem dX5_readShapeTerms_75 : decode cX5_readShapeTerms 75 = .ok (.invokevirtual 61, 3) := by decide +kernel
theorem dX5_readShapeTerms_78 : decode cX5_readShapeTerms 78 = .ok (.ireturn, 1) := by decide +kernel
theorem dX5_readTableOfTerm_0 : decode cX5_readTableOfTerm 0 = .ok (.aload_n 0, 1) := by decide +kernel
theorem dX5_readTableOfTerm_1 : decode cX5_readTableOfTerm 1 = .ok (.getfield 9, 3) := by decide +kernel
theorem dX5_readTableOfTerm_4 : decode cX5_readTableOfTerm 4 = .ok (.ldc2_w 174, 3) := by decide +kernel
theorem dX5_readTableOfTerm_7 : decode cX5_readTableOfTerm 7 = .ok (.invokevirtual 57, 3) := by decide +kernel
theorem dX5_readTableOfTerm_10 : decode cX5_readTableOfTerm 10 = .ok (.ifCond .ne 9, 3) := by decide +kernel
theorem dX5_readTableOfTerm_13 : decode cX5_readTableOfTerm 13 = .ok (.aload_n 0, 1) := by decide +kernel
theorem dX5_readTableOfTerm_14 : decode cX5_readTableOfTerm 14 = .ok (.iconst 1, 1) := by decide +kernel
theorem dX5_readTableOfTerm_15 : decode cX5_readTableOfTerm 15 = .ok (.invokevirtual 61, 3) := by decide +kernel
theorem dX5_readTableOfTerm_18 : decode cX5_readTableOfTerm 18 = .ok (.ireturn, 1) := by decide +kernel
theorem dX5_readTableOfTerm_19 : decode cX5_readTableOfTerm 19 = .ok (.aload_n 0, 1) := by decide +kernel
theorem dX5_readTableOfTerm_20 : decode cX5_readTableOfTerm 20 = .ok (.getfield 9, 3) := by decide +kernel
theorem dX5_readTableOfTerm_23 : decode cX5_readTableOfTerm 23 = .ok (.invokevirtual 68, 3) := by decide +kernel
theorem dX5_readTableOfTerm_26 : decode cX5_readTableOfTerm 26 = .ok (.aload_n 0, 1) := by decide +kernel
theorem dX5_readTableOfTerm_27 : decode cX5_readTableOfTerm 27 = .ok (.aload_n 1, 1) := by decide +kernel
theorem dX5_readTableOfTerm_28 : decode cX5_readTableOfTerm 28 = .ok (.invokevirtual 118, 3) := by decide +kernel
theorem dX5_readTableOfTerm_31 : decode cX5_readTableOfTerm 31 = .ok (.istore_n 3, 1) := by decide +kernel
theorem dX5_readTableOfTerm_32 : decode cX5_readTableOfTerm 32 = .ok (.iload_n 3, 1) := by decide +kernel
theorem dX5_readTableOfTerm_33 : decode cX5_readTableOfTerm 33 = .ok (.ifCond .ne 33, 3) := by decide +kernel
theorem dX5_readTableOfTerm_36 : decode cX5_readTableOfTerm 36 = .ok (.aload_n 0, 1) := by decide +kernel
theorem dX5_readTableOfTerm_37 : decode cX5_readTableOfTerm 37 = .ok (.aload_n 0, 1) := by decide +kernel
theorem dX5_readTableOfTerm_38 : decode cX5_readTableOfTerm 38 = .ok (.getfield 43, 3) := by decide +kernel
theorem dX5_readTableOfTerm_41 : decode cX5_readTableOfTerm 41 = .ok (.iload_n 2, 1) := by decide +kernel
theorem dX5_readTableOfTerm_42 : decode cX5_readTableOfTerm 42 = .ok (.aload_n 1, 1) := by decide +kernel
theorem dX5_readTableOfTerm_43 : decode cX5_readTableOfTerm 43 = .ok (.aload_n 0, 1) := by decide +kernel
theorem dX5_readTableOfTerm_44 : decode cX5_readTableOfTerm 44 = .ok (.getfield 9, 3) := by decide +kernel
theorem dX5_readTableOfTerm_47 : decode cX5_readTableOfTerm 47 = .ok (.getfield 75, 3) := by decide +kernel
theorem dX5_readTableOfTerm_50 : decode cX5_readTableOfTerm 50 = .ok (.invokevirtual 79, 3) := by decide +kernel
theorem dX5_readTableOfTerm_53 : decode cX5_readTableOfTerm 53 = .ok (.invokestatic 176, 3) := by decide +kernel
theorem dX5_readTableOfTerm_56 : decode cX5_readTableOfTerm 56 = .ok (.putfield 43, 3) := by decide +kernel
theorem dX5_readTableOfTerm_59 : decode cX5_readTableOfTerm 59 = .ok (.aload_n 0, 1) := by decide +kernel
theorem dX5_readTableOfTerm_60 : decode cX5_readTableOfTerm 60 = .ok (.getfield 9, 3) := by decide +kernel
theorem dX5_readTableOfTerm_63 : decode cX5_readTableOfTerm 63 = .ok (.invokevirtual 68, 3) := by decide +kernel
theorem dX5_readTableOfTerm_66 : decode cX5_readTableOfTerm 66 = .ok (.iload_n 3, 1) := by decide +kernel
theorem dX5_readTableOfTerm_67 : decode cX5_readTableOfTerm 67 = .ok (.ireturn, 1) := by decide +kernel
theorem dX5_faultOfTableName_0 : decode cX5_faultOfTableName 0 = .ok (.aload_n 0, 1) := by decide +kernel
theorem dX5_faultOfTableName_1 : decode cX5_faultOfTableName 1 = .ok (.getfield 9, 3) := by decide +kernel
theorem dX5_faultOfTableName_4 : decode cX5_faultOfTableName 4 = .ok (.invokevirtual 71, 3) := by decide +kernel
theorem dX5_faultOfTableName_7 : decode cX5_faultOfTableName 7 = .ok (.ifCond .ne 9, 3) := by decide +kernel
theorem dX5_faultOfTableName_10 : decode cX5_faultOfTableName 10 = .ok (.aload_n 0, 1) := by decide +kernel
theorem dX5_faultOfTableName_11 : decode cX5_faultOfTableName 11 = .ok (.iconst 1, 1) := by decide +kernel
theorem dX5_faultOfTableName_12 : decode cX5_faultOfTableName 12 = .ok (.invokevirtual 61, 3) := by decide +kernel
theorem dX5_faultOfTableName_15 : decode cX5_faultOfTableName 15 = .ok (.ireturn, 1) := by decide +kernel
theorem dX5_faultOfTableName_16 : decode cX5_faultOfTableName 16 = .ok (.aload_n 1, 1) := by decide +kernel
theorem dX5_faultOfTableName_17 : decode cX5_faultOfTableName 17 = .ok (.aload_n 0, 1) := by decide +kernel
theorem dX5_faultOfTableName_18 : decode cX5_faultOfTableName 18 = .ok (.getfield 9, 3) := by decide +kernel
theorem dX5_faultOfTableName_21 : decode cX5_faultOfTableName 21 = .ok (.getfield 75, 3) := by decide +kernel
theorem dX5_faultOfTableName_24 : decode cX5_faultOfTableName 24 = .ok (.invokevirtual 79, 3) := by decide +kernel
theorem dX5_faultOfTableName_27 : decode cX5_faultOfTableName 27 = .ok (.iconst (-1), 1) := by decide +kernel
theorem dX5_faultOfTableName_28 : decode cX5_faultOfTableName 28 = .ok (.if_icmp .ne 11, 3) := by decide +kernel
theorem dX5_faultOfTableName_31 : decode cX5_faultOfTableName 31 = .ok (.aload_n 0, 1) := by decide +kernel
theorem dX5_faultOfTableName_32 : decode cX5_faultOfTableName 32 = .ok (.iconst 2, 1) := by decide +kernel
theorem dX5_faultOfTableName_33 : decode cX5_faultOfTableName 33 = .ok (.invokevirtual 61, 3) := by decide +kernel
theorem dX5_faultOfTableName_36 : decode cX5_faultOfTableName 36 = .ok (.goto 4, 3) := by decide +kernel
theorem dX5_faultOfTableName_39 : decode cX5_faultOfTableName 39 = .ok (.iconst 0, 1) := by decide +kernel
theorem dX5_faultOfTableName_40 : decode cX5_faultOfTableName 40 = .ok (.ireturn, 1) := by decide +kernel
theorem dX5_passSign_0 : decode cX5_passSign 0 = .ok (.aload_n 0, 1) := by decide +kernel
theorem dX5_passSign_1 : decode cX5_passSign 1 = .ok (.getfield 9, 3) := by decide +kernel
theorem dX5_passSign_4 : decode cX5_passSign 4 = .ok (.iload_n 1, 1) := by decide +kernel
theorem dX5_passSign_5 : decode cX5_passSign 5 = .ok (.invokevirtual 94, 3) := by decide +kernel
theorem dX5_passSign_8 : decode cX5_passSign 8 = .ok (.ifCond .ne 9, 3) := by decide +kernel
theorem dX5_passSign_11 : decode cX5_passSign 11 = .ok (.aload_n 0, 1) := by decide +kernel
theorem dX5_passSign_12 : decode cX5_passSign 12 = .ok (.iconst 1, 1) := by decide +kernel
theorem dX5_passSign_13 : decode cX5_passSign 13 = .ok (.invokevirtual 61, 3) := by decide +kernel
theorem dX5_passSign_16 : decode cX5_passSign 16 = .ok (.ireturn, 1) := by decide +kernel
theorem dX5_passSign_17 : decode cX5_passSign 17 = .ok (.aload_n 0, 1) := by decide +kernel
theorem dX5_passSign_18 : decode cX5_passSign 18 = .ok (.getfield 9, 3) := by decide +kernel
theorem dX5_passSign_21 : decode cX5_passSign 21 = .ok (.invokevirtual 68, 3) := by decide +kernel
theorem dX5_passSign_24 : decode cX5_passSign 24 = .ok (.iconst 0, 1) := by decide +kernel
theorem dX5_passSign_25 : decode cX5_passSign 25 = .ok (.ireturn, 1) := by decide +kernel
theorem dX5_faultHere_0 : decode cX5_faultHere 0 = .ok (.iload_n 1, 1) := by decide +kernel
theorem dX5_faultHere_1 : decode cX5_faultHere 1 = .ok (.bipush 16, 2) := by decide +kernel
theorem dX5_faultHere_3 : decode cX5_faultHere 3 = .ok (.aload_n 0, 1) := by decide +kernel
theorem dX5_faultHere_4 : decode cX5_faultHere 4 = .ok (.getfield 9, 3) := by decide +kernel
theorem dX5_faultHere_7 : decode cX5_faultHere 7 = .ok (.getfield 180, 3) := by decide +kernel
theorem dX5_faultHere_10 : decode cX5_faultHere 10 = .ok (.imul, 1) := by decide +kernel
theorem dX5_faultHere_11 : decode cX5_faultHere 11 = .ok (.iadd, 1) := by decide +kernel
theorem dX5_faultHere_12 : decode cX5_faultHere 12 = .ok (.ireturn, 1) := by decide +kernel
